theorem dX10_takeRow_0 : decode cX10_takeRow 0 = .ok (.aload_n 0, 1) := by decide +kernel
theorem dX10_takeRow_1 : decode cX10_takeRow 1 = .ok (.iload_n 1, 1) := by decide +kernel
theorem dX10_takeRow_2 : decode cX10_takeRow 2 = .ok (.putfield 47, 3) := by decide +kernel
theorem dX10_takeRow_5 : decode cX10_takeRow 5 = .ok (.aload_n 0, 1) := by decide +kernel
theorem dX10_takeRow_6 : decode cX10_takeRow 6 = .ok (.iload_n 2, 1) := by decide +kernel
theorem dX10_takeRow_7 : decode cX10_takeRow 7 = .ok (.putfield 54, 3) := by decide +kernel
theorem dX10_takeRow_10 : decode cX10_takeRow 10 = .ok (.aload_n 0, 1) := by decide +kernel
theorem dX10_takeRow_11 : decode cX10_takeRow 11 = .ok (.getfield 21, 3) := by decide +kernel
theorem dX10_takeRow_14 : decode cX10_takeRow 14 = .ok (.iconst 0, 1) := by decide +kernel
theorem dX10_takeRow_15 : decode cX10_takeRow 15 = .ok (.aload_n 0, 1) := by decide +kernel
theorem dX10_takeRow_16 : decode cX10_takeRow 16 = .ok (.getfield 24, 3) := by decide +kernel
theorem dX10_takeRow_19 : decode cX10_takeRow 19 = .ok (.iconst 0, 1) := by decide +kernel
theorem dX10_takeRow_20 : decode cX10_takeRow 20 = .ok (.bipush 7, 2) := by decide +kernel
theorem dX10_takeRow_22 : decode cX10_takeRow 22 = .ok (.invokestatic 57, 3) := by decide +kernel
theorem dX10_takeRow_25 : decode cX10_takeRow 25 = .ok (.return_, 1) := by decide +kernel
set_option maxRecDepth 100000 in
def f_s_takeRow (x1 : Int) (x2 : Int) (V : Nat → Nat → Int) (J : Nat → Nat → Int) (Rr : Nat → Nat → Nat) : (Nat → Nat → Int) → Prop :=
  rdb (up2 V 105 6 x1) fun V1 => rdb (up2 V1 105 7 x2) fun V2 => rdb (cpV V2 108 0 109 0 7) fun V3 => rtn V3
set_option maxHeartbeats 8000000 in
set_option maxRecDepth 100000 in
theorem s_takeRow (l : Launch) (D : va_G) (cy : Nat → ClassId) (ad : Nat → Nat) (G : Nat → Nat → Int) (V J : Nat → Nat → Int) (Rr : Nat → Nat → Nat) (hI : XI G V) (hJ : VJ J) (hR : XR Rr) (x1 : Int) (bx1 : -2147483648 ≤ x1 ∧ x1 ≤ 2147483647) (x2 : Int) (bx2 : -2147483648 ≤ x2 ∧ x2 ≤ 2147483647) : xMv l D (xTY cy) yX10_takeRow cX10_takeRow 3 none 1 48 0 0 [.ref (ad 105), vI x1, vI x2] (XW cy ad V J Rr) (fun u : Nat → Nat → Int => XW cy ad u J Rr) (fun u : Nat → Nat → Int => XI G u ∧ FB (fun i k : Nat => (105 ≤ i ∧ i ≤ 123)) V u ∧ (f_s_takeRow x1 x2 V J Rr) u) := by
  refine xMv.mk (lv0 := [(0, .ref (ad 105)), (1, vI x1), (2, vI x2)]) (by decide) rfl (Nat.le_of_ble_eq_true rfl) (fun p e s m below meth c A C hr hnm hAe => ?_)
  have C : xC2 p s m _ meth c D A s.heap 3 cX10_takeRow RX10 (xTY cy) := C
  have hB : FB (fun i k : Nat => (105 ≤ i ∧ i ≤ 123)) V V := FB.rf _ _
  have hF := Imp.of_eq (f_s_takeRow.eq_def x1 x2 V J Rr)
  refine x_aload_n C.1 dX10_takeRow_0 0 rfl ?_
  refine x_iload_n C.1 dX10_takeRow_1 1 rfl ?_
  refine x_putI C (N := 129) (i := 105) (by decide) rfl vc_X10 wx_X10 6 (by decide) wf_X10_47 tyX10 tyX10_ok nmX10 rfl (tyX10_ok 6 (by decide)) rfl dX10_takeRow_2 rfl rfl ?_
  refine x_gV ?_
  intro V1 hV1
  have hI1 : XI G V1 := hI.up hV1 rfl (by omega) rfl
  have hB1 := hB.up hV1 (⟨by decide, by decide⟩)
  replace hF := hF.to (rdb_e (z := V1) hV1.symm)
  refine x_aload_n C.1 dX10_takeRow_5 0 rfl ?_
  refine x_iload_n C.1 dX10_takeRow_6 2 rfl ?_
  refine x_putI C (N := 129) (i := 105) (by decide) rfl vc_X10 wx_X10 7 (by decide) wf_X10_54 tyX10 tyX10_ok nmX10 rfl (tyX10_ok 7 (by decide)) rfl dX10_takeRow_7 rfl rfl ?_
  refine x_gV ?_
  intro V2 hV2
  have hI2 : XI G V2 := hI1.up hV2 rfl (by omega) rfl
  have hB2 := hB1.up hV2 (⟨by decide, by decide⟩)
  replace hF := hF.to (rdb_e (z := V2) hV2.symm)
  refine x_aload_n C.1 dX10_takeRow_10 0 rfl ?_
  refine x_getA C (N := 129) (i := 105) (by decide) rfl vc_X10 wx_X10 2 (by decide) wf_X10_21 (a := 108) rfl dX10_takeRow_11 ?_
  refine x_iconst C.1 (n := 0) dX10_takeRow_14 ?_
  refine x_aload_n C.1 dX10_takeRow_15 0 rfl ?_
  refine x_getA C (N := 129) (i := 105) (by decide) rfl vc_X10 wx_X10 3 (by decide) wf_X10_24 (a := 109) rfl dX10_takeRow_16 ?_
  refine x_iconst C.1 (n := 0) dX10_takeRow_19 ?_
  refine x_bipush C.1 (n := 7) dX10_takeRow_20 ?_
  refine x_copyi C wl_X10_57 (N := 129) (i := 108) (j := 109) (by decide) (by decide) rfl rfl 0 0 7 (by decide) (by decide) (by decide) (by decide) (Nat.le_of_ble_eq_true rfl) (Nat.le_of_ble_eq_true rfl) dX10_takeRow_22 ?_
  refine x_gV ?_
  intro V3 hV3
  have hI3 : XI G V3 := XI.cp hI2 hV3 (x := 0) (y := 7) (fun _ => rfl) (fun _ => rfl) (fun _ => rfl)
  have hB3 := hB2.cp hV3 (fun k => (⟨by decide, by decide⟩))
  replace hF := hF.to (rdb_e (z := V3) hV3.symm)
  exact x_vret (S := (Nat → Nat → Int)) (post := (fun u : Nat → Nat → Int => XI G u ∧ FB (fun i k : Nat => (105 ≤ i ∧ i ≤ 123)) V u ∧ (f_s_takeRow x1 x2 V J Rr) u)) (w1 := (fun u : Nat → Nat → Int => XW cy ad u J Rr)) C hr rfl dX10_takeRow_25 V3 rfl ⟨hI3, hB3, hF _ rfl⟩
theorem hd_yX10_takeRow : yX10_takeRow.cls ≠ "java/lang/invoke/MethodHandle" ∧ yX10_takeRow.cls ≠ "java/lang/invoke/VarHandle" ∧ (parseMethodDescriptor yX10_takeRow.desc).map (fun d => d.parameters.length) = some 2 := by decide +kernel
theorem dX10_go_0 : decode cX10_go 0 = .ok (.aload_n 1, 1) := by decide +kernel
theorem dX10_go_1 : decode cX10_go 1 = .ok (.getfield 63, 3) := by decide +kernel
theorem dX10_go_4 : decode cX10_go 4 = .ok (.aload_n 0, 1) := by decide +kernel
theorem dX10_go_5 : decode cX10_go 5 = .ok (.getfield 28, 3) := by decide +kernel
theorem dX10_go_8 : decode cX10_go 8 = .ok (.aaload, 1) := by decide +kernel
theorem dX10_go_9 : decode cX10_go 9 = .ok (.astore 5, 2) := by decide +kernel
theorem dX10_go_11 : decode cX10_go 11 = .ok (.iload_n 3, 1) := by decide +kernel
theorem dX10_go_12 : decode cX10_go 12 = .ok (.bipush 7, 2) := by decide +kernel
theorem dX10_go_14 : decode cX10_go 14 = .ok (.if_icmp .lt 15, 3) := by decide +kernel
theorem dX10_go_17 : decode cX10_go 17 = .ok (.aload_n 0, 1) := by decide +kernel
theorem dX10_go_18 : decode cX10_go 18 = .ok (.iload 4, 2) := by decide +kernel
theorem dX10_go_20 : decode cX10_go 20 = .ok (.aload 5, 2) := by decide +kernel
theorem dX10_go_22 : decode cX10_go 22 = .ok (.getfield 66, 3) := by decide +kernel
theorem dX10_go_25 : decode cX10_go 25 = .ok (.invokevirtual 67, 3) := by decide +kernel
theorem dX10_go_28 : decode cX10_go 28 = .ok (.return_, 1) := by decide +kernel
set_option maxRecDepth 100000 in
def f_s_go7 (x3 : Int) (x4 : Int) (V : Nat → Nat → Int) (J : Nat → Nat → Int) (Rr : Nat → Nat → Nat) : (Nat → Nat → Int) → Prop :=
  rdb (V 105 5) fun z1 => fct (0 ≤ z1 ∧ z1 ≤ 3) <| rdb (39 + 3 + 2 * z1.toNat) fun c2 => rdb (V c2 2) fun z3 => calUX (fun i k : Nat => (105 ≤ i ∧ i ≤ 123)) V (f_s_takeRow x4 z3 V J Rr) fun V4 => rtn V4
set_option maxHeartbeats 8000000 in
set_option maxRecDepth 100000 in
theorem s_go7 (l : Launch) (D : va_G) (cy : Nat → ClassId) (ad : Nat → Nat) (G : Nat → Nat → Int) (V J : Nat → Nat → Int) (Rr : Nat → Nat → Nat) (hI : XI G V) (hJ : VJ J) (hR : XR Rr) (x3 : Int) (bx3 : 7 ≤ x3 ∧ x3 ≤ 7) (x4 : Int) (bx4 : -2147483648 ≤ x4 ∧ x4 ≤ 2147483647) : xMv l D (xTY cy) yX10_go cX10_go 11 none 2 70 0 0 [.ref (ad 105), .ref (ad 39), .ref (ad 60), vI x3, vI x4] (XW cy ad V J Rr) (fun u : Nat → Nat → Int => XW cy ad u J Rr) (fun u : Nat → Nat → Int => XI G u ∧ FB (fun i k : Nat => (105 ≤ i ∧ i ≤ 123)) V u ∧ (f_s_go7 x3 x4 V J Rr) u) := by
  refine xMv.mk (lv0 := [(0, .ref (ad 105)), (1, .ref (ad 39)), (2, .ref (ad 60)), (3, vI x3), (4, vI x4)]) (by decide) rfl (Nat.le_of_ble_eq_true rfl) (fun p e s m below meth c A C hr hnm hAe => ?_)
  have C : xC2 p s m _ meth c D A s.heap 11 cX10_go RX10 (xTY cy) := C
  have hB : FB (fun i k : Nat => (105 ≤ i ∧ i ≤ 123)) V V := FB.rf _ _
  have hF := Imp.of_eq (f_s_go7.eq_def x3 x4 V J Rr)
  refine x_aload_n C.1 dX10_go_0 1 rfl ?_
  refine x_getA C (N := 129) (i := 39) (by omega) (xd_L (Or.inr (Or.inr rfl))) vc_X3 wx_X3 0 (by decide) wf_X10_63 (a := 40) rfl dX10_go_1 ?_
  refine x_aload_n C.1 dX10_go_4 0 rfl ?_
  obtain ⟨z1, ez1, bz1⟩ := hI.rd 105 5 (x := 0) (y := 3) rfl
  replace hF := hF.to (rdb_e (z := z1) ez1)
  replace hF := hF.fc bz1
  refine x_getI C (N := 129) (i := 105) (by decide) rfl vc_X10 wx_X10 5 (by decide) wf_X10_28 rfl dX10_go_5 (a := z1) ez1 ?_
  obtain ⟨c2, ec2, hc2⟩ : ∃ cx : Nat, 39 + 3 + 2 * z1.toNat = cx ∧ isPl cx := ⟨_, rfl, isPl_L (Or.inr (Or.inr rfl)) (by omega)⟩
  replace hF := hF.to (rdb_e (z := c2) ec2)
  refine x_aldS C (N := 129) (i := 40) (q := z1) (t := 4) rfl (by omega) (xd_La (Or.inr (Or.inr rfl))) (by omega) (by decide) dX10_go_8 (a := c2) ec2 ?_
  refine x_astore C.1 (lv' := [(5, .ref (ad c2)), (0, .ref (ad 105)), (1, .ref (ad 39)), (2, .ref (ad 60)), (3, vI x3), (4, vI x4)]) dX10_go_9 (by decide) rfl ?_
  refine x_iload_n C.1 dX10_go_11 4 rfl ?_
  refine x_bipush C.1 (n := 7) dX10_go_12 ?_
  refine x_icmp_lt_f C.1 (tgt := 29) dX10_go_14 (by decide) (by omega) (by decide) (by omega) ?_
  refine x_aload_n C.1 dX10_go_17 1 rfl ?_
  refine x_iload C.1 dX10_go_18 5 rfl ?_
  refine x_aload C.1 dX10_go_20 0 rfl ?_
  obtain ⟨z3, ez3, bz3⟩ := hI.rd c2 2 (x := -2147483648) (y := 2147483647) (rg_P hc2 2)
  replace hF := hF.to (rdb_e (z := z3) ez3)
  refine x_getI C (N := 129) (i := c2) (Nat.lt_of_succ_lt hc2.1) hc2.2.1 vc_X5 wx_X5 2 (by decide) wf_X10_66 rfl dX10_go_22 (a := z3) ez3 ?_
  refine x_callVv C (As := [vI x4, vI z3]) (rest := []) 105 (xw_at (N := 129) (i := 105) (by decide) rfl) vc_X10 (s_takeRow l D cy ad G V J Rr hI hJ hR x4 ⟨by omega, by omega⟩ z3 ⟨by omega, by omega⟩) (l1 := []) (l2 := []) (List.append_nil _).symm (w2 := fun u : Nat → Nat → Int => XW cy ad u J Rr) (fun _ => List.append_nil _) rfl wm_yX10_takeRow wn_X10 wl_X10_67 wi_yX10_takeRow we_yX10_takeRow hd_yX10_takeRow rfl ⟨Nat.le_of_ble_eq_true rfl, Nat.le_of_ble_eq_true rfl⟩ (Nat.le_of_ble_eq_true rfl) ⟨Nat.le_of_ble_eq_true rfl, Nat.le_of_ble_eq_true rfl⟩ dX10_go_25 (fun V4 h4 => ?_)
  obtain ⟨hI4, hBc4, hFc4⟩ := h4
  replace hF := calUX_i hF hFc4 hBc4
  have hB4 := hB.tr hBc4 (fun i k h => (h))
  exact x_vret (S := (Nat → Nat → Int)) (post := (fun u : Nat → Nat → Int => XI G u ∧ FB (fun i k : Nat => (105 ≤ i ∧ i ≤ 123)) V u ∧ (f_s_go7 x3 x4 V J Rr) u)) (w1 := (fun u : Nat → Nat → Int => XW cy ad u J Rr)) C hr rfl dX10_go_28 V4 rfl ⟨hI4, hB4, hF _ rfl⟩
theorem hd_yX10_go : yX10_go.cls ≠ "java/lang/invoke/MethodHandle" ∧ yX10_go.cls ≠ "java/lang/invoke/VarHandle" ∧ (parseMethodDescriptor yX10_go.desc).map (fun d => d.parameters.length) = some 5 := by decide +kernel
theorem dX10_go_29 : decode cX10_go 29 = .ok (.aload_n 0, 1) := by decide +kernel
theorem dX10_go_30 : decode cX10_go 30 = .ok (.getfield 11, 3) := by decide +kernel
theorem dX10_go_33 : decode cX10_go 33 = .ok (.iload_n 3, 1) := by decide +kernel
theorem dX10_go_34 : decode cX10_go 34 = .ok (.aaload, 1) := by decide +kernel
theorem dX10_go_35 : decode cX10_go 35 = .ok (.aload 5, 2) := by decide +kernel
theorem dX10_go_37 : decode cX10_go 37 = .ok (.invokevirtual 71, 3) := by decide +kernel
theorem dX10_go_40 : decode cX10_go 40 = .ok (.aload_n 0, 1) := by decide +kernel
theorem dX10_go_41 : decode cX10_go 41 = .ok (.getfield 38, 3) := by decide +kernel
theorem dX10_go_44 : decode cX10_go 44 = .ok (.istore 6, 2) := by decide +kernel
theorem dX10_go_46 : decode cX10_go 46 = .ok (.iload 6, 2) := by decide +kernel
theorem dX10_go_48 : decode cX10_go 48 = .ok (.ifCond .lt 178, 3) := by decide +kernel
theorem dX10_go_51 : decode cX10_go 51 = .ok (.iload 6, 2) := by decide +kernel
theorem dX10_go_53 : decode cX10_go 53 = .ok (.aload_n 0, 1) := by decide +kernel
theorem dX10_go_54 : decode cX10_go 54 = .ok (.getfield 38, 3) := by decide +kernel
theorem dX10_go_57 : decode cX10_go 57 = .ok (.if_icmp .ge 7, 3) := by decide +kernel
theorem dX10_go_60 : decode cX10_go 60 = .ok (.iconst 1, 1) := by decide +kernel
theorem dX10_go_61 : decode cX10_go 61 = .ok (.goto 4, 3) := by decide +kernel
theorem dX10_go_64 : decode cX10_go 64 = .ok (.iconst 0, 1) := by decide +kernel
theorem dX10_go_65 : decode cX10_go 65 = .ok (.istore 7, 2) := by decide +kernel
theorem dX10_go_67 : decode cX10_go 67 = .ok (.iload 4, 2) := by decide +kernel
theorem dX10_go_69 : decode cX10_go 69 = .ok (.iload 7, 2) := by decide +kernel
theorem dX10_go_71 : decode cX10_go 71 = .ok (.ifCond .eq 7, 3) := by decide +kernel
theorem dX10_go_74 : decode cX10_go 74 = .ok (.iconst 1, 1) := by decide +kernel
theorem dX10_go_75 : decode cX10_go 75 = .ok (.goto 4, 3) := by decide +kernel
theorem dX10_go_78 : decode cX10_go 78 = .ok (.iconst 0, 1) := by decide +kernel
theorem dX10_go_79 : decode cX10_go 79 = .ok (.iadd, 1) := by decide +kernel
theorem dX10_go_80 : decode cX10_go 80 = .ok (.istore 8, 2) := by decide +kernel
theorem dX10_go_82 : decode cX10_go 82 = .ok (.iload 8, 2) := by decide +kernel
theorem dX10_go_84 : decode cX10_go 84 = .ok (.aload_n 0, 1) := by decide +kernel
theorem dX10_go_85 : decode cX10_go 85 = .ok (.getfield 47, 3) := by decide +kernel
theorem dX10_go_88 : decode cX10_go 88 = .ok (.if_icmp .le 6, 3) := by decide +kernel
theorem dX10_go_91 : decode cX10_go 91 = .ok (.goto 129, 3) := by decide +kernel
theorem dX10_go_94 : decode cX10_go 94 = .ok (.iload 7, 2) := by decide +kernel
theorem dX10_go_96 : decode cX10_go 96 = .ok (.ifCond .eq 13, 3) := by decide +kernel
theorem dX10_go_99 : decode cX10_go 99 = .ok (.aload_n 0, 1) := by decide +kernel
theorem dX10_go_100 : decode cX10_go 100 = .ok (.getfield 17, 3) := by decide +kernel
theorem dX10_go_103 : decode cX10_go 103 = .ok (.iload 6, 2) := by decide +kernel
theorem dX10_go_105 : decode cX10_go 105 = .ok (.iaload, 1) := by decide +kernel
theorem dX10_go_106 : decode cX10_go 106 = .ok (.goto 4, 3) := by decide +kernel
theorem dX10_go_109 : decode cX10_go 109 = .ok (.iconst 0, 1) := by decide +kernel
theorem dX10_go_110 : decode cX10_go 110 = .ok (.istore 9, 2) := by decide +kernel
theorem dX10_go_112 : decode cX10_go 112 = .ok (.aload_n 1, 1) := by decide +kernel
theorem dX10_go_113 : decode cX10_go 113 = .ok (.getfield 75, 3) := by decide +kernel
theorem dX10_go_116 : decode cX10_go 116 = .ok (.iload 9, 2) := by decide +kernel
theorem dX10_go_118 : decode cX10_go 118 = .ok (.aaload, 1) := by decide +kernel
theorem dX10_go_119 : decode cX10_go 119 = .ok (.getfield 79, 3) := by decide +kernel
theorem dX10_go_122 : decode cX10_go 122 = .ok (.istore 10, 2) := by decide +kernel
theorem dX10_go_124 : decode cX10_go 124 = .ok (.iload 7, 2) := by decide +kernel
theorem dX10_go_126 : decode cX10_go 126 = .ok (.ifCond .eq 14, 3) := by decide +kernel
theorem dX10_go_129 : decode cX10_go 129 = .ok (.aload_n 1, 1) := by decide +kernel
theorem dX10_go_130 : decode cX10_go 130 = .ok (.aload_n 2, 1) := by decide +kernel
theorem dX10_go_131 : decode cX10_go 131 = .ok (.iload 9, 2) := by decide +kernel
theorem dX10_go_133 : decode cX10_go 133 = .ok (.aload_n 0, 1) := by decide +kernel
theorem dX10_go_134 : decode cX10_go 134 = .ok (.getfield 28, 3) := by decide +kernel
theorem dX10_go_137 : decode cX10_go 137 = .ok (.invokevirtual 84, 3) := by decide +kernel
theorem dX10_go_140 : decode cX10_go 140 = .ok (.aload_n 1, 1) := by decide +kernel
theorem dX10_go_141 : decode cX10_go 141 = .ok (.aload_n 2, 1) := by decide +kernel
theorem dX10_go_142 : decode cX10_go 142 = .ok (.aload_n 0, 1) := by decide +kernel
theorem dX10_go_143 : decode cX10_go 143 = .ok (.getfield 28, 3) := by decide +kernel
theorem dX10_go_146 : decode cX10_go 146 = .ok (.iconst 0, 1) := by decide +kernel
theorem dX10_go_147 : decode cX10_go 147 = .ok (.invokevirtual 88, 3) := by decide +kernel
theorem dX10_go_150 : decode cX10_go 150 = .ok (.aload_n 1, 1) := by decide +kernel
theorem dX10_go_151 : decode cX10_go 151 = .ok (.dup, 1) := by decide +kernel
theorem dX10_go_152 : decode cX10_go 152 = .ok (.getfield 92, 3) := by decide +kernel
theorem dX10_go_155 : decode cX10_go 155 = .ok (.iconst 1, 1) := by decide +kernel
theorem dX10_go_156 : decode cX10_go 156 = .ok (.iadd, 1) := by decide +kernel
theorem dX10_go_157 : decode cX10_go 157 = .ok (.putfield 92, 3) := by decide +kernel
theorem dX10_go_160 : decode cX10_go 160 = .ok (.aload_n 0, 1) := by decide +kernel
theorem dX10_go_161 : decode cX10_go 161 = .ok (.getfield 21, 3) := by decide +kernel
theorem dX10_go_164 : decode cX10_go 164 = .ok (.iload_n 3, 1) := by decide +kernel
theorem dX10_go_165 : decode cX10_go 165 = .ok (.iload 6, 2) := by decide +kernel
theorem dX10_go_167 : decode cX10_go 167 = .ok (.iastore, 1) := by decide +kernel
theorem dX10_go_168 : decode cX10_go 168 = .ok (.aload 5, 2) := by decide +kernel
theorem dX10_go_170 : decode cX10_go 170 = .ok (.invokevirtual 95, 3) := by decide +kernel
theorem dX10_go_173 : decode cX10_go 173 = .ok (.ifCond .ne 14, 3) := by decide +kernel
theorem dX10_go_176 : decode cX10_go 176 = .ok (.aload_n 0, 1) := by decide +kernel
theorem dX10_go_177 : decode cX10_go 177 = .ok (.aload_n 1, 1) := by decide +kernel
theorem dX10_go_178 : decode cX10_go 178 = .ok (.aload_n 2, 1) := by decide +kernel
theorem dX10_go_179 : decode cX10_go 179 = .ok (.iload_n 3, 1) := by decide +kernel
theorem dX10_go_180 : decode cX10_go 180 = .ok (.iconst 1, 1) := by decide +kernel
theorem dX10_go_181 : decode cX10_go 181 = .ok (.iadd, 1) := by decide +kernel
theorem dX10_go_182 : decode cX10_go 182 = .ok (.iload 8, 2) := by decide +kernel
theorem dX10_go_184 : decode cX10_go 184 = .ok (.invokestatic 50, 3) := by decide +kernel
theorem dX10_go_187 : decode cX10_go 187 = .ok (.aload_n 1, 1) := by decide +kernel
theorem dX10_go_188 : decode cX10_go 188 = .ok (.dup, 1) := by decide +kernel
theorem dX10_go_189 : decode cX10_go 189 = .ok (.getfield 92, 3) := by decide +kernel
theorem dX10_go_192 : decode cX10_go 192 = .ok (.iconst 1, 1) := by decide +kernel
theorem dX10_go_193 : decode cX10_go 193 = .ok (.isub, 1) := by decide +kernel
theorem dX10_go_194 : decode cX10_go 194 = .ok (.putfield 92, 3) := by decide +kernel
theorem dX10_go_197 : decode cX10_go 197 = .ok (.aload 5, 2) := by decide +kernel
theorem dX10_go_199 : decode cX10_go 199 = .ok (.aload_n 0, 1) := by decide +kernel
theorem dX10_go_200 : decode cX10_go 200 = .ok (.getfield 11, 3) := by decide +kernel
theorem dX10_go_203 : decode cX10_go 203 = .ok (.iload_n 3, 1) := by decide +kernel
theorem dX10_go_204 : decode cX10_go 204 = .ok (.aaload, 1) := by decide +kernel
theorem dX10_go_205 : decode cX10_go 205 = .ok (.invokevirtual 71, 3) := by decide +kernel
theorem dX10_go_208 : decode cX10_go 208 = .ok (.aload_n 1, 1) := by decide +kernel
theorem dX10_go_209 : decode cX10_go 209 = .ok (.getfield 75, 3) := by decide +kernel
theorem dX10_go_212 : decode cX10_go 212 = .ok (.iload 9, 2) := by decide +kernel
theorem dX10_go_214 : decode cX10_go 214 = .ok (.aaload, 1) := by decide +kernel
theorem dX10_go_215 : decode cX10_go 215 = .ok (.iload 10, 2) := by decide +kernel
theorem dX10_go_217 : decode cX10_go 217 = .ok (.putfield 79, 3) := by decide +kernel
theorem dX10_go_220 : decode cX10_go 220 = .ok (.iinc 6 (-1), 3) := by decide +kernel
theorem dX10_go_223 : decode cX10_go 223 = .ok (.goto (-177), 3) := by decide +kernel
theorem dX10_go_226 : decode cX10_go 226 = .ok (.return_, 1) := by decide +kernel
set_option maxRecDepth 100000 in
def f_s_go6 (x3 : Int) (x4 : Int) (V : Nat → Nat → Int) (J : Nat → Nat → Int) (Rr : Nat → Nat → Nat) : (Nat → Nat → Int) → Prop :=
  rdb (V 105 5) fun z1 => fct (0 ≤ z1 ∧ z1 ≤ 3) <| rdb (39 + 3 + 2 * z1.toNat) fun c2 => rdb (110 + 2 * x3.toNat) fun c3 => calUX (fun i k : Nat => (c3 ≤ i ∧ i ≤ c3 + 1)) V (f_s_copyP c3 c2 V J Rr) fun V4 => rdb (V4 105 4) fun z5 => fct (0 ≤ z5 ∧ z5 ≤ 3) <| lop2 (6) (fun rc182 (z181 : Int) (V182 : Nat → Nat → Int) => (if z181 < 0 then rtn V182 else rdb (V182 105 4) fun z272 => fct (0 ≤ z272 ∧ z272 ≤ 3) <| (if z272 ≤ z181 then rdb (V182 105 6) fun z274 => jnk (fun (V293 : Nat → Nat → Int) => rc182 (z181 - 1) V293) fun jf293 => (if x4 ≤ z274 then rdb (39 + 11 + 1 * 0) fun c295 => rdb (V182 c295 3) fun z296 => rdb (V182 105 5) fun z297 => fct (0 ≤ z297 ∧ z297 ≤ 3) <| calUX (fun i k : Nat => (69 ≤ i ∧ i ≤ 71) ∨ (39 ≤ i ∧ i ≤ 39 + 18)) V182 (f_s_endDay 39 z297 0 V182 J Rr) fun V298 => rdb (V298 39 3) fun z299 => rdb (wr (z299 + 1)) fun z300 => rdb (up2 V298 39 3 z300) fun V301 => rdb (up2 V301 108 x3.toNat z181) fun V302 => calR (f_s_isDeadP c2 V302 J Rr) fun z303 => fct (0 ≤ z303 ∧ z303 ≤ 1) <| jnk (fun (V305 : Nat → Nat → Int) => rdb (V305 39 3) fun z306 => rdb (wr (z306 - 1)) fun z307 => rdb (up2 V305 39 3 z307) fun V308 => calUX (fun i k : Nat => (c2 ≤ i ∧ i ≤ c2 + 1)) V308 (f_s_copyP c2 c3 V308 J Rr) fun V309 => rdb (up2 V309 c295 3 z296) fun V310 => jf293 V310) fun jf305 => (if ¬ z303 = 0 then jf305 V302 else calUX (fun i k : Nat => (105 ≤ i ∧ i ≤ 123)) V302 (f_s_go7 (x3 + 1) x4 V302 J Rr) fun V312 => jf305 V312) else jf293 V182) else rdb (wr (x4 + 1)) fun z313 => rdb (V182 105 6) fun z314 => jnk (fun (V336 : Nat → Nat → Int) => rc182 (z181 - 1) V336) fun jf336 => (if z313 ≤ z314 then rdb (V182 107 z181.toNat) fun z338 => fct (0 ≤ z338 ∧ z338 ≤ 7) <| rdb (39 + 11 + 1 * z338.toNat) fun c339 => rdb (V182 c339 3) fun z340 => rdb (V182 105 5) fun z341 => fct (0 ≤ z341 ∧ z341 ≤ 3) <| calUX (fun i k : Nat => (69 ≤ i ∧ i ≤ 71) ∨ (39 ≤ i ∧ i ≤ 39 + 18)) V182 (f_s_giveTo 39 z338 z341 V182 J Rr) fun V342 => rdb (V342 105 5) fun z343 => fct (0 ≤ z343 ∧ z343 ≤ 3) <| calUX (fun i k : Nat => (69 ≤ i ∧ i ≤ 71) ∨ (39 ≤ i ∧ i ≤ 39 + 18)) V342 (f_s_endDay 39 z343 0 V342 J Rr) fun V344 => rdb (V344 39 3) fun z345 => rdb (wr (z345 + 1)) fun z346 => rdb (up2 V344 39 3 z346) fun V347 => rdb (up2 V347 108 x3.toNat z181) fun V348 => calR (f_s_isDeadP c2 V348 J Rr) fun z349 => fct (0 ≤ z349 ∧ z349 ≤ 1) <| jnk (fun (V351 : Nat → Nat → Int) => rdb (V351 39 3) fun z352 => rdb (wr (z352 - 1)) fun z353 => rdb (up2 V351 39 3 z353) fun V354 => calUX (fun i k : Nat => (c2 ≤ i ∧ i ≤ c2 + 1)) V354 (f_s_copyP c2 c3 V354 J Rr) fun V355 => rdb (up2 V355 c339 3 z340) fun V356 => jf336 V356) fun jf351 => (if ¬ z349 = 0 then jf351 V348 else calUX (fun i k : Nat => (105 ≤ i ∧ i ≤ 123)) V348 (f_s_go7 (x3 + 1) z313 V348 J Rr) fun V358 => jf351 V358) else jf336 V182)))) z5 V4
set_option maxHeartbeats 8000000 in
set_option maxRecDepth 100000 in
theorem s_go6 (l : Launch) (D : va_G) (cy : Nat → ClassId) (ad : Nat → Nat) (G : Nat → Nat → Int) (V J : Nat → Nat → Int) (Rr : Nat → Nat → Nat) (hI : XI G V) (hJ : VJ J) (hR : XR Rr) (x3 : Int) (bx3 : 6 ≤ x3 ∧ x3 ≤ 6) (x4 : Int) (bx4 : -2147483648 ≤ x4 ∧ x4 ≤ 2147483647) : xMv l D (xTY cy) yX10_go cX10_go 11 none 5 125 0 0 [.ref (ad 105), .ref (ad 39), .ref (ad 60), vI x3, vI x4] (XW cy ad V J Rr) (fun u : Nat → Nat → Int => XW cy ad u J Rr) (fun u : Nat → Nat → Int => XI G u ∧ FB (fun i k : Nat => (105 ≤ i ∧ i ≤ 123) ∨ (69 ≤ i ∧ i ≤ 71) ∨ (39 ≤ i ∧ i ≤ 57)) V u ∧ (f_s_go6 x3 x4 V J Rr) u) := by
  refine xMv.mk (lv0 := [(0, .ref (ad 105)), (1, .ref (ad 39)), (2, .ref (ad 60)), (3, vI x3), (4, vI x4)]) (by decide) rfl (Nat.le_of_ble_eq_true rfl) (fun p e s m below meth c A C hr hnm hAe => ?_)
  have C : xC2 p s m _ meth c D A s.heap 11 cX10_go RX10 (xTY cy) := C
  have hB : FB (fun i k : Nat => (105 ≤ i ∧ i ≤ 123) ∨ (69 ≤ i ∧ i ≤ 71) ∨ (39 ≤ i ∧ i ≤ 57)) V V := FB.rf _ _
  have hF := Imp.of_eq (f_s_go6.eq_def x3 x4 V J Rr)
  refine x_aload_n C.1 dX10_go_0 1 rfl ?_
  refine x_getA C (N := 129) (i := 39) (by omega) (xd_L (Or.inr (Or.inr rfl))) vc_X3 wx_X3 0 (by decide) wf_X10_63 (a := 40) rfl dX10_go_1 ?_
  refine x_aload_n C.1 dX10_go_4 0 rfl ?_
  obtain ⟨z1, ez1, bz1⟩ := hI.rd 105 5 (x := 0) (y := 3) rfl
  replace hF := hF.to (rdb_e (z := z1) ez1)
  replace hF := hF.fc bz1
  refine x_getI C (N := 129) (i := 105) (by decide) rfl vc_X10 wx_X10 5 (by decide) wf_X10_28 rfl dX10_go_5 (a := z1) ez1 ?_
  obtain ⟨c2, ec2, hc2⟩ : ∃ cx : Nat, 39 + 3 + 2 * z1.toNat = cx ∧ isPl cx := ⟨_, rfl, isPl_L (Or.inr (Or.inr rfl)) (by omega)⟩
  replace hF := hF.to (rdb_e (z := c2) ec2)
  refine x_aldS C (N := 129) (i := 40) (q := z1) (t := 4) rfl (by omega) (xd_La (Or.inr (Or.inr rfl))) (by omega) (by decide) dX10_go_8 (a := c2) ec2 ?_
  refine x_astore C.1 (lv' := [(5, .ref (ad c2)), (0, .ref (ad 105)), (1, .ref (ad 39)), (2, .ref (ad 60)), (3, vI x3), (4, vI x4)]) dX10_go_9 (by decide) rfl ?_
  refine x_iload_n C.1 dX10_go_11 4 rfl ?_
  refine x_bipush C.1 (n := 7) dX10_go_12 ?_
  refine x_icmp_lt_t C.1 (tgt := 29) dX10_go_14 (by decide) (by omega) (by decide) (by omega) ?_
  refine x_aload_n C.1 dX10_go_29 1 rfl ?_
  refine x_getA C (N := 129) (i := 105) (by decide) rfl vc_X10 wx_X10 0 (by decide) wf_X10_11 (a := 106) rfl dX10_go_30 ?_
  refine x_iload_n C.1 dX10_go_33 4 rfl ?_
  obtain ⟨c3, ec3, hc3⟩ : ∃ cx : Nat, 110 + 2 * x3.toNat = cx ∧ isPl cx := ⟨_, rfl, isPl_Wk (by omega)⟩
  replace hF := hF.to (rdb_e (z := c3) ec3)
  refine x_aldS C (N := 129) (i := 106) (q := x3) (t := 4) rfl (by decide) rfl (by omega) (by decide) dX10_go_34 (a := c3) ec3 ?_
  refine x_aload C.1 dX10_go_35 0 rfl ?_
  refine x_callVv C (As := [.ref (ad c2)]) (rest := []) c3 (xw_at (N := 129) (i := c3) (Nat.lt_of_succ_lt hc3.1) hc3.2.1) vc_X5 (s_copyP l D cy ad G V J Rr hI hJ hR c3 hc3 c2 hc2 (fun k => pr_Wk ec3 (by omega) k)) (l1 := []) (l2 := []) (List.append_nil _).symm (w2 := fun u : Nat → Nat → Int => XW cy ad u J Rr) (fun _ => List.append_nil _) rfl wm_yX5_copy wn_X5 wl_X10_71 wi_yX5_copy we_yX5_copy hd_yX5_copy rfl ⟨Nat.le_of_ble_eq_true rfl, Nat.le_of_ble_eq_true rfl⟩ (Nat.le_of_ble_eq_true rfl) ⟨Nat.le_of_ble_eq_true rfl, Nat.le_of_ble_eq_true rfl⟩ dX10_go_37 (fun V4 h4 => ?_)
  obtain ⟨hI4, hBc4, hFc4⟩ := h4
  replace hF := calUX_i hF hFc4 hBc4
  have hB4 := hB.tr hBc4 (fun i k h => (Or.inl (⟨by omega, by omega⟩)))
  refine x_aload_n C.1 dX10_go_40 1 rfl ?_
  obtain ⟨z5, ez5, bz5⟩ := hI4.rd 105 4 (x := 0) (y := 3) rfl
  replace hF := hF.to (rdb_e (z := z5) ez5)
  replace hF := hF.fc bz5
  refine x_getI C (N := 129) (i := 105) (by decide) rfl vc_X10 wx_X10 4 (by decide) wf_X10_38 rfl dX10_go_41 (a := z5) ez5 ?_
  refine x_istore C.1 (lv' := [(6, vI z5), (5, .ref (ad c2)), (0, .ref (ad 105)), (1, .ref (ad 39)), (2, .ref (ad 60)), (3, vI x3), (4, vI x4)]) dX10_go_44 (by decide) rfl ?_
  obtain ⟨bd182, hbd182, hF⟩ := lop2_ex hF
  refine x_loop (I := fun x : Int × (Nat → Nat → Int) => match x with | (z181, V182) => (-1 ≤ z181 ∧ z181 ≤ 3) ∧ XI G V182 ∧ FB (fun i k : Nat => (105 ≤ i ∧ i ≤ 123) ∨ (69 ≤ i ∧ i ≤ 71) ∨ (39 ≤ i ∧ i ≤ 57)) V V182 ∧ (∃ nf : Nat, (z181 - (-2)).toNat < nf ∧ Imp (lop2 nf bd182 z181 V182) (f_s_go6 x3 x4 V J Rr))) (μ := fun x : Int × (Nat → Nat → Int) => match x with | (z181, V182) => (z181 - (-2)).toNat) (wsf := fun x : Int × (Nat → Nat → Int) => match x with | (z181, V182) => XW cy ad V182 J Rr) (lvf := fun x : Int × (Nat → Nat → Int) => match x with | (z181, V182) => [(6, vI z181), (5, .ref (ad c2)), (0, .ref (ad 105)), (1, .ref (ad 39)), (2, .ref (ad 60)), (3, vI x3), (4, vI x4)]) (fun x hI182x ih182 => ?_) (z5, V4) ⟨⟨by omega, by omega⟩, hI4, hB4, ⟨_, (by omega), hF⟩⟩ rfl rfl
  obtain ⟨z181, V182⟩ := x
  obtain ⟨bz181, hI182, hB182, nf182, hn182, hF⟩ := hI182x
  try dsimp only
  obtain ⟨nf182, rfl⟩ : ∃ mm, nf182 = mm + 1 := ⟨nf182 - 1, (Nat.succ_pred_eq_of_pos (Nat.lt_of_le_of_lt (Nat.zero_le _) hn182)).symm⟩
  replace hF := hF.to (lop2_s hbd182)
  refine x_iload C.1 dX10_go_46 0 rfl ?_
  refine x_if_lt C.1 (tgt := 226) dX10_go_48 (by decide) (by omega) (fun hc271 => ?_) (fun hc271 => ?_)
  · replace hF := hF.to (if_pos hc271)
    exact x_vret (S := (Nat → Nat → Int)) (post := (fun u : Nat → Nat → Int => XI G u ∧ FB (fun i k : Nat => (105 ≤ i ∧ i ≤ 123) ∨ (69 ≤ i ∧ i ≤ 71) ∨ (39 ≤ i ∧ i ≤ 57)) V u ∧ (f_s_go6 x3 x4 V J Rr) u)) (w1 := (fun u : Nat → Nat → Int => XW cy ad u J Rr)) C hr rfl dX10_go_226 V182 rfl ⟨hI182, hB182, hF _ rfl⟩
  · replace hF := hF.to (if_neg hc271)
    refine x_iload C.1 dX10_go_51 0 rfl ?_
    refine x_aload_n C.1 dX10_go_53 2 rfl ?_
    obtain ⟨z272, ez272, bz272⟩ := hI182.rd 105 4 (x := 0) (y := 3) rfl
    replace hF := hF.to (rdb_e (z := z272) ez272)
    replace hF := hF.fc bz272
    refine x_getI C (N := 129) (i := 105) (by decide) rfl vc_X10 wx_X10 4 (by decide) wf_X10_38 rfl dX10_go_54 (a := z272) ez272 ?_
    refine x_icmp_ge C.1 (tgt := 64) dX10_go_57 (by decide) (by omega) (by omega) (fun hc273 => ?_) (fun hc273 => ?_)
    · replace hF := hF.to (if_pos hc273)
      refine x_iconst C.1 (n := 0) dX10_go_64 ?_
      refine x_istore C.1 (lv' := [(7, vI 0), (6, vI z181), (5, .ref (ad c2)), (0, .ref (ad 105)), (1, .ref (ad 39)), (2, .ref (ad 60)), (3, vI x3), (4, vI x4)]) dX10_go_65 (by decide) rfl ?_
      refine x_iload C.1 dX10_go_67 7 rfl ?_
      refine x_iload C.1 dX10_go_69 0 rfl ?_
      refine x_if_eq_t C.1 (tgt := 78) dX10_go_71 (by decide) (by decide) (by decide) ?_
      refine x_iconst C.1 (n := 0) dX10_go_78 ?_
      refine x_iadd C.1 (v := x4) (by omega) dX10_go_79 ?_
      refine x_istore C.1 (lv' := [(8, vI x4), (7, vI 0), (6, vI z181), (5, .ref (ad c2)), (0, .ref (ad 105)), (1, .ref (ad 39)), (2, .ref (ad 60)), (3, vI x3), (4, vI x4)]) dX10_go_80 (by decide) rfl ?_
      refine x_iload C.1 dX10_go_82 0 rfl ?_
      refine x_aload_n C.1 dX10_go_84 4 rfl ?_
      obtain ⟨z274, ez274, bz274⟩ := hI182.rd 105 6 (x := -2147483648) (y := 2147483647) rfl
      replace hF := hF.to (rdb_e (z := z274) ez274)
      refine x_getI C (N := 129) (i := 105) (by decide) rfl vc_X10 wx_X10 6 (by decide) wf_X10_47 rfl dX10_go_85 (a := z274) ez274 ?_
      obtain ⟨jf293, hjf293, hF⟩ := jn_ex hF
      refine x_join (I := fun V293 : (Nat → Nat → Int) => XI G V293 ∧ FB (fun i k : Nat => (105 ≤ i ∧ i ≤ 123) ∨ (69 ≤ i ∧ i ≤ 71) ∨ (39 ≤ i ∧ i ≤ 57)) V V293 ∧ Imp (jf293 V293) (f_s_go6 x3 x4 V J Rr)) (wsf := fun V293 : (Nat → Nat → Int) => XW cy ad V293 J Rr) (lvf := fun V293 : (Nat → Nat → Int) => [(8, vI x4), (7, vI 0), (6, vI z181), (5, .ref (ad c2)), (0, .ref (ad 105)), (1, .ref (ad 39)), (2, .ref (ad 60)), (3, vI x3), (4, vI x4)]) (stf := fun V293 : (Nat → Nat → Int) => []) 220 (fun V293 hI293x => ?_) (fun jn293 => ?_)
      · obtain ⟨hI293, hB293, hF⟩ := hI293x
        try dsimp only
        replace hF := hF.to (jn_s1 hjf293)
        refine x_iinc C.1 (v := z181 - 1) (lv' := [(6, vI (z181 - 1)), (8, vI x4), (7, vI 0), (5, .ref (ad c2)), (0, .ref (ad 105)), (1, .ref (ad 39)), (2, .ref (ad 60)), (3, vI x3), (4, vI x4)]) (by omega) dX10_go_220 2 rfl (by decide) rfl ?_
        refine x_goto C.1 (tgt := 46) dX10_go_223 (by decide) ?_
        refine x_lv [(6, vI (z181 - 1)), (5, .ref (ad c2)), (0, .ref (ad 105)), (1, .ref (ad 39)), (2, .ref (ad 60)), (3, vI x3), (4, vI x4)] [0, 3, 4, 5, 6, 7, 8] rfl ?_
        have hmu182 : ((z181 - 1) - (-2)).toNat < (z181 - (-2)).toNat := (by omega)
        exact ih182 (z181 - 1, V293) ⟨⟨by omega, by omega⟩, hI293, hB293, ⟨nf182, Nat.lt_of_lt_of_le hmu182 (Nat.le_of_lt_succ hn182), hF⟩⟩ hmu182
      · refine x_icmp_le C.1 (tgt := 94) dX10_go_88 (by decide) (by omega) (by omega) (fun hc294 => ?_) (fun hc294 => ?_)
        · replace hF := hF.to (if_pos hc294)
          refine x_iload C.1 dX10_go_94 1 rfl ?_
          refine x_if_eq_t C.1 (tgt := 109) dX10_go_96 (by decide) (by decide) (by decide) ?_
          refine x_iconst C.1 (n := 0) dX10_go_109 ?_
          refine x_istore C.1 (lv' := [(9, vI 0), (8, vI x4), (7, vI 0), (6, vI z181), (5, .ref (ad c2)), (0, .ref (ad 105)), (1, .ref (ad 39)), (2, .ref (ad 60)), (3, vI x3), (4, vI x4)]) dX10_go_110 (by decide) rfl ?_
          refine x_aload_n C.1 dX10_go_112 6 rfl ?_
          refine x_getA C (N := 129) (i := 39) (by omega) (xd_L (Or.inr (Or.inr rfl))) vc_X3 wx_X3 1 (by decide) wf_X10_75 (a := 41) rfl dX10_go_113 ?_
          refine x_iload C.1 dX10_go_116 0 rfl ?_
          obtain ⟨c295, ec295, hc295⟩ : ∃ cx : Nat, 39 + 11 + 1 * 0 = cx ∧ isPe cx := ⟨_, rfl, isPe_L (Or.inr (Or.inr rfl)) (by decide)⟩
          replace hF := hF.to (rdb_e (z := c295) ec295)
          refine x_aldS C (N := 129) (i := 41) (q := 0) (t := 5) rfl (by omega) (xd_Lb (Or.inr (Or.inr rfl))) (by decide) (by decide) dX10_go_118 (a := c295) ec295 ?_
          obtain ⟨z296, ez296, bz296⟩ := hI182.rd c295 3 (x := -2147483648) (y := 2147483647) (rg_E hc295 3)
          replace hF := hF.to (rdb_e (z := z296) ez296)
          refine x_getI C (N := 129) (i := c295) hc295.1 hc295.2 vc_X4 wx_X4 3 (by decide) wf_X10_79 rfl dX10_go_119 (a := z296) ez296 ?_
          refine x_istore C.1 (lv' := [(10, vI z296), (9, vI 0), (8, vI x4), (7, vI 0), (6, vI z181), (5, .ref (ad c2)), (0, .ref (ad 105)), (1, .ref (ad 39)), (2, .ref (ad 60)), (3, vI x3), (4, vI x4)]) dX10_go_122 (by decide) rfl ?_
          refine x_iload C.1 dX10_go_124 3 rfl ?_
          refine x_if_eq_t C.1 (tgt := 140) dX10_go_126 (by decide) (by decide) (by decide) ?_
          refine x_aload_n C.1 dX10_go_140 7 rfl ?_
          refine x_aload_n C.1 dX10_go_141 8 rfl ?_
          refine x_aload_n C.1 dX10_go_142 6 rfl ?_
          obtain ⟨z297, ez297, bz297⟩ := hI182.rd 105 5 (x := 0) (y := 3) rfl
          replace hF := hF.to (rdb_e (z := z297) ez297)
          replace hF := hF.fc bz297
          refine x_getI C (N := 129) (i := 105) (by decide) rfl vc_X10 wx_X10 5 (by decide) wf_X10_28 rfl dX10_go_143 (a := z297) ez297 ?_
          refine x_iconst C.1 (n := 0) dX10_go_146 ?_
          refine x_callVv C (As := [.ref (ad 60), vI z297, vI 0]) (rest := []) 39 (xw_at (N := 129) (i := 39) (by omega) (xd_L (Or.inr (Or.inr rfl)))) vc_X3 (s_endDay l D cy ad G V182 J Rr hI182 hJ hR 39 (Or.inr (Or.inr rfl)) z297 ⟨by omega, by omega⟩ 0 ⟨by decide, by decide⟩) (l1 := []) (l2 := []) (List.append_nil _).symm (w2 := fun u : Nat → Nat → Int => XW cy ad u J Rr) (fun _ => List.append_nil _) rfl wm_yX3_endDay wn_X3 wl_X10_88 wi_yX3_endDay we_yX3_endDay hd_yX3_endDay rfl ⟨Nat.le_of_ble_eq_true rfl, Nat.le_of_ble_eq_true rfl⟩ (Nat.le_of_ble_eq_true rfl) ⟨Nat.le_of_ble_eq_true rfl, Nat.le_of_ble_eq_true rfl⟩ dX10_go_147 (fun V298 h298 => ?_)
          obtain ⟨hI298, hBc298, hFc298⟩ := h298
          replace hF := calUX_i hF hFc298 hBc298
          have hB298 := hB182.tr hBc298 (fun i k h => (h.elim (fun h => (Or.inr (Or.inl h))) (fun h => (Or.inr (Or.inr (⟨by omega, by omega⟩))))))
          refine x_aload_n C.1 dX10_go_150 7 rfl ?_
          refine x_dup C.1 dX10_go_151 rfl ?_
          obtain ⟨z299, ez299, bz299⟩ := hI298.rd 39 3 (x := -2147483648) (y := 2147483647) (rg_L (Or.inr (Or.inr rfl)) _)
          replace hF := hF.to (rdb_e (z := z299) ez299)
          refine x_getI C (N := 129) (i := 39) (by omega) (xd_L (Or.inr (Or.inr rfl))) vc_X3 wx_X3 3 (by decide) wf_X10_92 rfl dX10_go_152 (a := z299) ez299 ?_
          refine x_iconst C.1 (n := 1) dX10_go_155 ?_
          refine x_iadd C.1 (v := z299 + 1) (by omega) dX10_go_156 ?_
          refine x_wrapg ?_
          intro z300 bz300 ew300
          replace hF := hF.to (rdb_e (z := z300) ew300.symm)
          refine x_putI C (N := 129) (i := 39) (by omega) (xd_L (Or.inr (Or.inr rfl))) vc_X3 wx_X3 3 (by decide) wf_X10_92 tyX3 tyX3_ok nmX3 rfl (tyX3_ok 3 (by decide)) rfl dX10_go_157 rfl rfl ?_
          refine x_gV ?_
          intro V301 hV301
          have hI301 : XI G V301 := hI298.up hV301 (rg_L (Or.inr (Or.inr rfl)) _) (by omega) (pr_L (Or.inr (Or.inr rfl)) _)
          have hB301 := hB298.up hV301 (Or.inr (Or.inr (⟨by decide, by decide⟩)))
          replace hF := hF.to (rdb_e (z := V301) hV301.symm)
          refine x_aload_n C.1 dX10_go_160 6 rfl ?_
          refine x_getA C (N := 129) (i := 105) (by decide) rfl vc_X10 wx_X10 2 (by decide) wf_X10_21 (a := 108) rfl dX10_go_161 ?_
          refine x_iload_n C.1 dX10_go_164 9 rfl ?_
          refine x_iload C.1 dX10_go_165 4 rfl ?_
          refine x_iast C (N := 129) (i := 108) (q := x3) (a := z181) (by decide) rfl (by omega) (by decide) dX10_go_167 ?_
          refine x_gV ?_
          intro V302 hV302
          have hI302 : XI G V302 := hI301.up hV302 rfl (by omega) rfl
          have hB302 := hB301.up hV302 (Or.inl (⟨by decide, by decide⟩))
          replace hF := hF.to (rdb_e (z := V302) hV302.symm)
          refine x_aload C.1 dX10_go_168 5 rfl ?_
          refine x_callVi C (As := []) (rest := []) c2 (xw_at (N := 129) (i := c2) (Nat.lt_of_succ_lt hc2.1) hc2.2.1) vc_X5 (s_isDeadP l D cy ad G V302 J Rr hI302 hJ hR c2 hc2) (l1 := []) (l2 := []) (List.append_nil _).symm (w2 := fun _ => XW cy ad V302 J Rr) (fun _ => List.append_nil _) rfl wm_yX5_isDead wn_X5 wl_X10_95 wi_yX5_isDead we_yX5_isDead hd_yX5_isDead rfl ⟨Nat.le_of_ble_eq_true rfl, Nat.le_of_ble_eq_true rfl⟩ (Nat.le_of_ble_eq_true rfl) ⟨Nat.le_of_ble_eq_true rfl, Nat.le_of_ble_eq_true rfl⟩ dX10_go_170 (fun z303 u303 bz303 h303 => ?_)
          obtain ⟨bq303, hFc303⟩ := h303
          replace hF := calR_i hF hFc303
          replace hF := hF.fc bq303
          obtain ⟨jf305, hjf305, hF⟩ := jn_ex hF
          refine x_join (I := fun V305 : (Nat → Nat → Int) => XI G V305 ∧ FB (fun i k : Nat => (105 ≤ i ∧ i ≤ 123) ∨ (69 ≤ i ∧ i ≤ 71) ∨ (39 ≤ i ∧ i ≤ 57)) V V305 ∧ Imp (jf305 V305) (f_s_go6 x3 x4 V J Rr)) (wsf := fun V305 : (Nat → Nat → Int) => XW cy ad V305 J Rr) (lvf := fun V305 : (Nat → Nat → Int) => [(10, vI z296), (9, vI 0), (8, vI x4), (7, vI 0), (6, vI z181), (5, .ref (ad c2)), (0, .ref (ad 105)), (1, .ref (ad 39)), (2, .ref (ad 60)), (3, vI x3), (4, vI x4)]) (stf := fun V305 : (Nat → Nat → Int) => []) 187 (fun V305 hI305x => ?_) (fun jn305 => ?_)
          · obtain ⟨hI305, hB305, hF⟩ := hI305x
            try dsimp only
            replace hF := hF.to (jn_s1 hjf305)
            refine x_aload_n C.1 dX10_go_187 7 rfl ?_
            refine x_dup C.1 dX10_go_188 rfl ?_
            obtain ⟨z306, ez306, bz306⟩ := hI305.rd 39 3 (x := -2147483648) (y := 2147483647) (rg_L (Or.inr (Or.inr rfl)) _)
            replace hF := hF.to (rdb_e (z := z306) ez306)
            refine x_getI C (N := 129) (i := 39) (by omega) (xd_L (Or.inr (Or.inr rfl))) vc_X3 wx_X3 3 (by decide) wf_X10_92 rfl dX10_go_189 (a := z306) ez306 ?_
            refine x_iconst C.1 (n := 1) dX10_go_192 ?_
            refine x_isub C.1 (v := z306 - 1) (by omega) dX10_go_193 ?_
            refine x_wrapg ?_
            intro z307 bz307 ew307
            replace hF := hF.to (rdb_e (z := z307) ew307.symm)
            refine x_putI C (N := 129) (i := 39) (by omega) (xd_L (Or.inr (Or.inr rfl))) vc_X3 wx_X3 3 (by decide) wf_X10_92 tyX3 tyX3_ok nmX3 rfl (tyX3_ok 3 (by decide)) rfl dX10_go_194 rfl rfl ?_
            refine x_gV ?_
            intro V308 hV308
            have hI308 : XI G V308 := hI305.up hV308 (rg_L (Or.inr (Or.inr rfl)) _) (by omega) (pr_L (Or.inr (Or.inr rfl)) _)
            have hB308 := hB305.up hV308 (Or.inr (Or.inr (⟨by decide, by decide⟩)))
            replace hF := hF.to (rdb_e (z := V308) hV308.symm)
            refine x_aload C.1 dX10_go_197 5 rfl ?_
            refine x_aload_n C.1 dX10_go_199 6 rfl ?_
            refine x_getA C (N := 129) (i := 105) (by decide) rfl vc_X10 wx_X10 0 (by decide) wf_X10_11 (a := 106) rfl dX10_go_200 ?_
            refine x_iload_n C.1 dX10_go_203 9 rfl ?_
            refine x_aldS C (N := 129) (i := 106) (q := x3) (t := 4) rfl (by decide) rfl (by omega) (by decide) dX10_go_204 (a := c3) ec3 ?_
            refine x_callVv C (As := [.ref (ad c3)]) (rest := []) c2 (xw_at (N := 129) (i := c2) (Nat.lt_of_succ_lt hc2.1) hc2.2.1) vc_X5 (s_copyP l D cy ad G V308 J Rr hI308 hJ hR c2 hc2 c3 hc3 (fun k => pr_39 ec2 (by omega) k)) (l1 := []) (l2 := []) (List.append_nil _).symm (w2 := fun u : Nat → Nat → Int => XW cy ad u J Rr) (fun _ => List.append_nil _) rfl wm_yX5_copy wn_X5 wl_X10_71 wi_yX5_copy we_yX5_copy hd_yX5_copy rfl ⟨Nat.le_of_ble_eq_true rfl, Nat.le_of_ble_eq_true rfl⟩ (Nat.le_of_ble_eq_true rfl) ⟨Nat.le_of_ble_eq_true rfl, Nat.le_of_ble_eq_true rfl⟩ dX10_go_205 (fun V309 h309 => ?_)
            obtain ⟨hI309, hBc309, hFc309⟩ := h309
            replace hF := calUX_i hF hFc309 hBc309
            have hB309 := hB308.tr hBc309 (fun i k h => (Or.inr (Or.inr (⟨by omega, by omega⟩))))
            refine x_aload_n C.1 dX10_go_208 7 rfl ?_
            refine x_getA C (N := 129) (i := 39) (by omega) (xd_L (Or.inr (Or.inr rfl))) vc_X3 wx_X3 1 (by decide) wf_X10_75 (a := 41) rfl dX10_go_209 ?_
            refine x_iload C.1 dX10_go_212 1 rfl ?_
            refine x_aldS C (N := 129) (i := 41) (q := 0) (t := 5) rfl (by omega) (xd_Lb (Or.inr (Or.inr rfl))) (by decide) (by decide) dX10_go_214 (a := c295) ec295 ?_
            refine x_iload C.1 dX10_go_215 0 rfl ?_
            refine x_putI C (N := 129) (i := c295) hc295.1 hc295.2 vc_X4 wx_X4 3 (by decide) wf_X10_79 tyX4 tyX4_ok nmX4 rfl (tyX4_ok 3 (by decide)) rfl dX10_go_217 rfl rfl ?_
            refine x_gV ?_
            intro V310 hV310
            have hI310 : XI G V310 := hI309.up hV310 (rg_E hc295 3) (by omega) (pr_E hc295 _)
            have hB310 := hB309.up hV310 (Or.inr (Or.inr (⟨by omega, by omega⟩)))
            replace hF := hF.to (rdb_e (z := V310) hV310.symm)
            refine x_lv [(8, vI x4), (7, vI 0), (6, vI z181), (5, .ref (ad c2)), (0, .ref (ad 105)), (1, .ref (ad 39)), (2, .ref (ad 60)), (3, vI x3), (4, vI x4)] [2, 3, 4, 5, 6, 7, 8, 9, 10] rfl ?_
            exact jn293 V310 ⟨hI310, hB310, hF⟩
          · refine x_if_ne C.1 (tgt := 187) dX10_go_173 (by decide) (by omega) (fun hc311 => ?_) (fun hc311 => ?_)
            · replace hF := hF.to (if_pos hc311)
              exact jn305 V302 ⟨hI302, hB302, hF⟩
            · replace hF := hF.to (if_neg (fun hh => hh hc311))
              refine x_aload_n C.1 dX10_go_176 6 rfl ?_
              refine x_aload_n C.1 dX10_go_177 7 rfl ?_
              refine x_aload_n C.1 dX10_go_178 8 rfl ?_
              refine x_iload_n C.1 dX10_go_179 9 rfl ?_
              refine x_iconst C.1 (n := 1) dX10_go_180 ?_
              refine x_iadd C.1 (v := x3 + 1) (by omega) dX10_go_181 ?_
              refine x_iload C.1 dX10_go_182 2 rfl ?_
              refine x_callSv C (As := [.ref (ad 105), .ref (ad 39), .ref (ad 60), vI (x3 + 1), vI x4]) (rest := []) (s_go7 l D cy ad G V302 J Rr hI302 hJ hR (x3 + 1) ⟨by omega, by omega⟩ x4 ⟨by omega, by omega⟩) (l1 := []) (l2 := []) (List.append_nil _).symm (w2 := fun u : Nat → Nat → Int => XW cy ad u J Rr) (fun _ => List.append_nil _) rfl wm_yX10_go wn_X10 wl_X10_50 wi_yX10_go hd_yX10_go rfl ⟨Nat.le_of_ble_eq_true rfl, Nat.le_of_ble_eq_true rfl⟩ (Nat.le_of_ble_eq_true rfl) ⟨Nat.le_of_ble_eq_true rfl, Nat.le_of_ble_eq_true rfl⟩ dX10_go_184 (fun V312 h312 => ?_)
              obtain ⟨hI312, hBc312, hFc312⟩ := h312
              replace hF := calUX_i hF hFc312 hBc312
              have hB312 := hB302.tr hBc312 (fun i k h => (Or.inl h))
              exact jn305 V312 ⟨hI312, hB312, hF⟩
        · replace hF := hF.to (if_neg hc294)
          refine x_goto C.1 (tgt := 220) dX10_go_91 (by decide) ?_
          exact jn293 V182 ⟨hI182, hB182, hF⟩
    · replace hF := hF.to (if_neg hc273)
      refine x_iconst C.1 (n := 1) dX10_go_60 ?_
      refine x_goto C.1 (tgt := 65) dX10_go_61 (by decide) ?_
      refine x_istore C.1 (lv' := [(7, vI 1), (6, vI z181), (5, .ref (ad c2)), (0, .ref (ad 105)), (1, .ref (ad 39)), (2, .ref (ad 60)), (3, vI x3), (4, vI x4)]) dX10_go_65 (by decide) rfl ?_
      refine x_iload C.1 dX10_go_67 7 rfl ?_
      refine x_iload C.1 dX10_go_69 0 rfl ?_
      refine x_if_eq_f C.1 (tgt := 78) dX10_go_71 (by decide) (by decide) (by decide) ?_
      refine x_iconst C.1 (n := 1) dX10_go_74 ?_
      refine x_goto C.1 (tgt := 79) dX10_go_75 (by decide) ?_
      refine x_iadd C.1 (v := x4 + 1) (by omega) dX10_go_79 ?_
      refine x_wrapg ?_
      intro z313 bz313 ew313
      replace hF := hF.to (rdb_e (z := z313) ew313.symm)
      refine x_istore C.1 (lv' := [(8, vI z313), (7, vI 1), (6, vI z181), (5, .ref (ad c2)), (0, .ref (ad 105)), (1, .ref (ad 39)), (2, .ref (ad 60)), (3, vI x3), (4, vI x4)]) dX10_go_80 (by decide) rfl ?_
      refine x_iload C.1 dX10_go_82 0 rfl ?_
      refine x_aload_n C.1 dX10_go_84 4 rfl ?_
      obtain ⟨z314, ez314, bz314⟩ := hI182.rd 105 6 (x := -2147483648) (y := 2147483647) rfl
      replace hF := hF.to (rdb_e (z := z314) ez314)
      refine x_getI C (N := 129) (i := 105) (by decide) rfl vc_X10 wx_X10 6 (by decide) wf_X10_47 rfl dX10_go_85 (a := z314) ez314 ?_
      obtain ⟨jf336, hjf336, hF⟩ := jn_ex hF
      refine x_join (I := fun V336 : (Nat → Nat → Int) => XI G V336 ∧ FB (fun i k : Nat => (105 ≤ i ∧ i ≤ 123) ∨ (69 ≤ i ∧ i ≤ 71) ∨ (39 ≤ i ∧ i ≤ 57)) V V336 ∧ Imp (jf336 V336) (f_s_go6 x3 x4 V J Rr)) (wsf := fun V336 : (Nat → Nat → Int) => XW cy ad V336 J Rr) (lvf := fun V336 : (Nat → Nat → Int) => [(8, vI z313), (7, vI 1), (6, vI z181), (5, .ref (ad c2)), (0, .ref (ad 105)), (1, .ref (ad 39)), (2, .ref (ad 60)), (3, vI x3), (4, vI x4)]) (stf := fun V336 : (Nat → Nat → Int) => []) 220 (fun V336 hI336x => ?_) (fun jn336 => ?_)
      · obtain ⟨hI336, hB336, hF⟩ := hI336x
        try dsimp only
        replace hF := hF.to (jn_s1 hjf336)
        refine x_iinc C.1 (v := z181 - 1) (lv' := [(6, vI (z181 - 1)), (8, vI z313), (7, vI 1), (5, .ref (ad c2)), (0, .ref (ad 105)), (1, .ref (ad 39)), (2, .ref (ad 60)), (3, vI x3), (4, vI x4)]) (by omega) dX10_go_220 2 rfl (by decide) rfl ?_
        refine x_goto C.1 (tgt := 46) dX10_go_223 (by decide) ?_
        refine x_lv [(6, vI (z181 - 1)), (5, .ref (ad c2)), (0, .ref (ad 105)), (1, .ref (ad 39)), (2, .ref (ad 60)), (3, vI x3), (4, vI x4)] [0, 3, 4, 5, 6, 7, 8] rfl ?_
        have hmu182 : ((z181 - 1) - (-2)).toNat < (z181 - (-2)).toNat := (by omega)
        exact ih182 (z181 - 1, V336) ⟨⟨by omega, by omega⟩, hI336, hB336, ⟨nf182, Nat.lt_of_lt_of_le hmu182 (Nat.le_of_lt_succ hn182), hF⟩⟩ hmu182
      · refine x_icmp_le C.1 (tgt := 94) dX10_go_88 (by decide) (by omega) (by omega) (fun hc337 => ?_) (fun hc337 => ?_)
        · replace hF := hF.to (if_pos hc337)
          refine x_iload C.1 dX10_go_94 1 rfl ?_
          refine x_if_eq_f C.1 (tgt := 109) dX10_go_96 (by decide) (by decide) (by decide) ?_
          refine x_aload_n C.1 dX10_go_99 4 rfl ?_
          refine x_getA C (N := 129) (i := 105) (by decide) rfl vc_X10 wx_X10 1 (by decide) wf_X10_17 (a := 107) rfl dX10_go_100 ?_
          refine x_iload C.1 dX10_go_103 2 rfl ?_
          obtain ⟨z338, ez338, bz338⟩ := hI182.rd 107 z181.toNat (x := 0) (y := 7) rfl
          replace hF := hF.to (rdb_e (z := z338) ez338)
          replace hF := hF.fc bz338
          refine x_iald C (N := 129) (i := 107) (q := z181) (by decide) rfl (by omega) (by decide) dX10_go_105 (a := z338) ez338 ?_
          refine x_goto C.1 (tgt := 110) dX10_go_106 (by decide) ?_
          refine x_istore C.1 (lv' := [(9, vI z338), (8, vI z313), (7, vI 1), (6, vI z181), (5, .ref (ad c2)), (0, .ref (ad 105)), (1, .ref (ad 39)), (2, .ref (ad 60)), (3, vI x3), (4, vI x4)]) dX10_go_110 (by decide) rfl ?_
          refine x_aload_n C.1 dX10_go_112 6 rfl ?_
          refine x_getA C (N := 129) (i := 39) (by omega) (xd_L (Or.inr (Or.inr rfl))) vc_X3 wx_X3 1 (by decide) wf_X10_75 (a := 41) rfl dX10_go_113 ?_
          refine x_iload C.1 dX10_go_116 0 rfl ?_
          obtain ⟨c339, ec339, hc339⟩ : ∃ cx : Nat, 39 + 11 + 1 * z338.toNat = cx ∧ isPe cx := ⟨_, rfl, isPe_L (Or.inr (Or.inr rfl)) (by omega)⟩
          replace hF := hF.to (rdb_e (z := c339) ec339)
          refine x_aldS C (N := 129) (i := 41) (q := z338) (t := 5) rfl (by omega) (xd_Lb (Or.inr (Or.inr rfl))) (by omega) (by decide) dX10_go_118 (a := c339) ec339 ?_
          obtain ⟨z340, ez340, bz340⟩ := hI182.rd c339 3 (x := -2147483648) (y := 2147483647) (rg_E hc339 3)
          replace hF := hF.to (rdb_e (z := z340) ez340)
          refine x_getI C (N := 129) (i := c339) hc339.1 hc339.2 vc_X4 wx_X4 3 (by decide) wf_X10_79 rfl dX10_go_119 (a := z340) ez340 ?_
          refine x_istore C.1 (lv' := [(10, vI z340), (9, vI z338), (8, vI z313), (7, vI 1), (6, vI z181), (5, .ref (ad c2)), (0, .ref (ad 105)), (1, .ref (ad 39)), (2, .ref (ad 60)), (3, vI x3), (4, vI x4)]) dX10_go_122 (by decide) rfl ?_
          refine x_iload C.1 dX10_go_124 3 rfl ?_
          refine x_if_eq_f C.1 (tgt := 140) dX10_go_126 (by decide) (by decide) (by decide) ?_
          refine x_aload_n C.1 dX10_go_129 7 rfl ?_
          refine x_aload_n C.1 dX10_go_130 8 rfl ?_
          refine x_iload C.1 dX10_go_131 1 rfl ?_
          refine x_aload_n C.1 dX10_go_133 6 rfl ?_
          obtain ⟨z341, ez341, bz341⟩ := hI182.rd 105 5 (x := 0) (y := 3) rfl
          replace hF := hF.to (rdb_e (z := z341) ez341)
          replace hF := hF.fc bz341
          refine x_getI C (N := 129) (i := 105) (by decide) rfl vc_X10 wx_X10 5 (by decide) wf_X10_28 rfl dX10_go_134 (a := z341) ez341 ?_
          refine x_callVv C (As := [.ref (ad 60), vI z338, vI z341]) (rest := []) 39 (xw_at (N := 129) (i := 39) (by omega) (xd_L (Or.inr (Or.inr rfl)))) vc_X3 (s_giveTo l D cy ad G V182 J Rr hI182 hJ hR 39 (Or.inr (Or.inr rfl)) z338 ⟨by omega, by omega⟩ z341 ⟨by omega, by omega⟩) (l1 := []) (l2 := []) (List.append_nil _).symm (w2 := fun u : Nat → Nat → Int => XW cy ad u J Rr) (fun _ => List.append_nil _) rfl wm_yX3_giveTo wn_X3 wl_X10_84 wi_yX3_giveTo we_yX3_giveTo hd_yX3_giveTo rfl ⟨Nat.le_of_ble_eq_true rfl, Nat.le_of_ble_eq_true rfl⟩ (Nat.le_of_ble_eq_true rfl) ⟨Nat.le_of_ble_eq_true rfl, Nat.le_of_ble_eq_true rfl⟩ dX10_go_137 (fun V342 h342 => ?_)
          obtain ⟨hI342, hBc342, hFc342⟩ := h342
          replace hF := calUX_i hF hFc342 hBc342
          have hB342 := hB182.tr hBc342 (fun i k h => (h.elim (fun h => (Or.inr (Or.inl h))) (fun h => (Or.inr (Or.inr (⟨by omega, by omega⟩))))))
          refine x_aload_n C.1 dX10_go_140 7 rfl ?_
          refine x_aload_n C.1 dX10_go_141 8 rfl ?_
          refine x_aload_n C.1 dX10_go_142 6 rfl ?_
          obtain ⟨z343, ez343, bz343⟩ := hI342.rd 105 5 (x := 0) (y := 3) rfl
          replace hF := hF.to (rdb_e (z := z343) ez343)
          replace hF := hF.fc bz343
          refine x_getI C (N := 129) (i := 105) (by decide) rfl vc_X10 wx_X10 5 (by decide) wf_X10_28 rfl dX10_go_143 (a := z343) ez343 ?_
          refine x_iconst C.1 (n := 0) dX10_go_146 ?_
          refine x_callVv C (As := [.ref (ad 60), vI z343, vI 0]) (rest := []) 39 (xw_at (N := 129) (i := 39) (by omega) (xd_L (Or.inr (Or.inr rfl)))) vc_X3 (s_endDay l D cy ad G V342 J Rr hI342 hJ hR 39 (Or.inr (Or.inr rfl)) z343 ⟨by omega, by omega⟩ 0 ⟨by decide, by decide⟩) (l1 := []) (l2 := []) (List.append_nil _).symm (w2 := fun u : Nat → Nat → Int => XW cy ad u J Rr) (fun _ => List.append_nil _) rfl wm_yX3_endDay wn_X3 wl_X10_88 wi_yX3_endDay we_yX3_endDay hd_yX3_endDay rfl ⟨Nat.le_of_ble_eq_true rfl, Nat.le_of_ble_eq_true rfl⟩ (Nat.le_of_ble_eq_true rfl) ⟨Nat.le_of_ble_eq_true rfl, Nat.le_of_ble_eq_true rfl⟩ dX10_go_147 (fun V344 h344 => ?_)
          obtain ⟨hI344, hBc344, hFc344⟩ := h344
          replace hF := calUX_i hF hFc344 hBc344
          have hB344 := hB342.tr hBc344 (fun i k h => (h.elim (fun h => (Or.inr (Or.inl h))) (fun h => (Or.inr (Or.inr (⟨by omega, by omega⟩))))))
          refine x_aload_n C.1 dX10_go_150 7 rfl ?_
          refine x_dup C.1 dX10_go_151 rfl ?_
          obtain ⟨z345, ez345, bz345⟩ := hI344.rd 39 3 (x := -2147483648) (y := 2147483647) (rg_L (Or.inr (Or.inr rfl)) _)
          replace hF := hF.to (rdb_e (z := z345) ez345)
          refine x_getI C (N := 129) (i := 39) (by omega) (xd_L (Or.inr (Or.inr rfl))) vc_X3 wx_X3 3 (by decide) wf_X10_92 rfl dX10_go_152 (a := z345) ez345 ?_
          refine x_iconst C.1 (n := 1) dX10_go_155 ?_
          refine x_iadd C.1 (v := z345 + 1) (by omega) dX10_go_156 ?_
          refine x_wrapg ?_
          intro z346 bz346 ew346
          replace hF := hF.to (rdb_e (z := z346) ew346.symm)
          refine x_putI C (N := 129) (i := 39) (by omega) (xd_L (Or.inr (Or.inr rfl))) vc_X3 wx_X3 3 (by decide) wf_X10_92 tyX3 tyX3_ok nmX3 rfl (tyX3_ok 3 (by decide)) rfl dX10_go_157 rfl rfl ?_
          refine x_gV ?_
          intro V347 hV347
          have hI347 : XI G V347 := hI344.up hV347 (rg_L (Or.inr (Or.inr rfl)) _) (by omega) (pr_L (Or.inr (Or.inr rfl)) _)
          have hB347 := hB344.up hV347 (Or.inr (Or.inr (⟨by decide, by decide⟩)))
          replace hF := hF.to (rdb_e (z := V347) hV347.symm)
          refine x_aload_n C.1 dX10_go_160 6 rfl ?_
          refine x_getA C (N := 129) (i := 105) (by decide) rfl vc_X10 wx_X10 2 (by decide) wf_X10_21 (a := 108) rfl dX10_go_161 ?_
          refine x_iload_n C.1 dX10_go_164 9 rfl ?_
          refine x_iload C.1 dX10_go_165 4 rfl ?_
          refine x_iast C (N := 129) (i := 108) (q := x3) (a := z181) (by decide) rfl (by omega) (by decide) dX10_go_167 ?_
          refine x_gV ?_
          intro V348 hV348
          have hI348 : XI G V348 := hI347.up hV348 rfl (by omega) rfl
          have hB348 := hB347.up hV348 (Or.inl (⟨by decide, by decide⟩))
          replace hF := hF.to (rdb_e (z := V348) hV348.symm)
          refine x_aload C.1 dX10_go_168 5 rfl ?_
          refine x_callVi C (As := []) (rest := []) c2 (xw_at (N := 129) (i := c2) (Nat.lt_of_succ_lt hc2.1) hc2.2.1) vc_X5 (s_isDeadP l D cy ad G V348 J Rr hI348 hJ hR c2 hc2) (l1 := []) (l2 := []) (List.append_nil _).symm (w2 := fun _ => XW cy ad V348 J Rr) (fun _ => List.append_nil _) rfl wm_yX5_isDead wn_X5 wl_X10_95 wi_yX5_isDead we_yX5_isDead hd_yX5_isDead rfl ⟨Nat.le_of_ble_eq_true rfl, Nat.le_of_ble_eq_true rfl⟩ (Nat.le_of_ble_eq_true rfl) ⟨Nat.le_of_ble_eq_true rfl, Nat.le_of_ble_eq_true rfl⟩ dX10_go_170 (fun z349 u349 bz349 h349 => ?_)
          obtain ⟨bq349, hFc349⟩ := h349
          replace hF := calR_i hF hFc349
          replace hF := hF.fc bq349
          obtain ⟨jf351, hjf351, hF⟩ := jn_ex hF
          refine x_join (I := fun V351 : (Nat → Nat → Int) => XI G V351 ∧ FB (fun i k : Nat => (105 ≤ i ∧ i ≤ 123) ∨ (69 ≤ i ∧ i ≤ 71) ∨ (39 ≤ i ∧ i ≤ 57)) V V351 ∧ Imp (jf351 V351) (f_s_go6 x3 x4 V J Rr)) (wsf := fun V351 : (Nat → Nat → Int) => XW cy ad V351 J Rr) (lvf := fun V351 : (Nat → Nat → Int) => [(10, vI z340), (9, vI z338), (8, vI z313), (7, vI 1), (6, vI z181), (5, .ref (ad c2)), (0, .ref (ad 105)), (1, .ref (ad 39)), (2, .ref (ad 60)), (3, vI x3), (4, vI x4)]) (stf := fun V351 : (Nat → Nat → Int) => []) 187 (fun V351 hI351x => ?_) (fun jn351 => ?_)
          · obtain ⟨hI351, hB351, hF⟩ := hI351x
            try dsimp only
            replace hF := hF.to (jn_s1 hjf351)
            refine x_aload_n C.1 dX10_go_187 7 rfl ?_
            refine x_dup C.1 dX10_go_188 rfl ?_
            obtain ⟨z352, ez352, bz352⟩ := hI351.rd 39 3 (x := -2147483648) (y := 2147483647) (rg_L (Or.inr (Or.inr rfl)) _)
            replace hF := hF.to (rdb_e (z := z352) ez352)
            refine x_getI C (N := 129) (i := 39) (by omega) (xd_L (Or.inr (Or.inr rfl))) vc_X3 wx_X3 3 (by decide) wf_X10_92 rfl dX10_go_189 (a := z352) ez352 ?_
            refine x_iconst C.1 (n := 1) dX10_go_192 ?_
            refine x_isub C.1 (v := z352 - 1) (by omega) dX10_go_193 ?_
            refine x_wrapg ?_
            intro z353 bz353 ew353
            replace hF := hF.to (rdb_e (z := z353) ew353.symm)
            refine x_putI C (N := 129) (i := 39) (by omega) (xd_L (Or.inr (Or.inr rfl))) vc_X3 wx_X3 3 (by decide) wf_X10_92 tyX3 tyX3_ok nmX3 rfl (tyX3_ok 3 (by decide)) rfl dX10_go_194 rfl rfl ?_
            refine x_gV ?_
            intro V354 hV354
            have hI354 : XI G V354 := hI351.up hV354 (rg_L (Or.inr (Or.inr rfl)) _) (by omega) (pr_L (Or.inr (Or.inr rfl)) _)
            have hB354 := hB351.up hV354 (Or.inr (Or.inr (⟨by decide, by decide⟩)))
            replace hF := hF.to (rdb_e (z := V354) hV354.symm)
            refine x_aload C.1 dX10_go_197 5 rfl ?_
            refine x_aload_n C.1 dX10_go_199 6 rfl ?_
            refine x_getA C (N := 129) (i := 105) (by decide) rfl vc_X10 wx_X10 0 (by decide) wf_X10_11 (a := 106) rfl dX10_go_200 ?_
            refine x_iload_n C.1 dX10_go_203 9 rfl ?_
            refine x_aldS C (N := 129) (i := 106) (q := x3) (t := 4) rfl (by decide) rfl (by omega) (by decide) dX10_go_204 (a := c3) ec3 ?_
            refine x_callVv C (As := [.ref (ad c3)]) (rest := []) c2 (xw_at (N := 129) (i := c2) (Nat.lt_of_succ_lt hc2.1) hc2.2.1) vc_X5 (s_copyP l D cy ad G V354 J Rr hI354 hJ hR c2 hc2 c3 hc3 (fun k => pr_39 ec2 (by omega) k)) (l1 := []) (l2 := []) (List.append_nil _).symm (w2 := fun u : Nat → Nat → Int => XW cy ad u J Rr) (fun _ => List.append_nil _) rfl wm_yX5_copy wn_X5 wl_X10_71 wi_yX5_copy we_yX5_copy hd_yX5_copy rfl ⟨Nat.le_of_ble_eq_true rfl, Nat.le_of_ble_eq_true rfl⟩ (Nat.le_of_ble_eq_true rfl) ⟨Nat.le_of_ble_eq_true rfl, Nat.le_of_ble_eq_true rfl⟩ dX10_go_205 (fun V355 h355 => ?_)
            obtain ⟨hI355, hBc355, hFc355⟩ := h355
            replace hF := calUX_i hF hFc355 hBc355
            have hB355 := hB354.tr hBc355 (fun i k h => (Or.inr (Or.inr (⟨by omega, by omega⟩))))
            refine x_aload_n C.1 dX10_go_208 7 rfl ?_
            refine x_getA C (N := 129) (i := 39) (by omega) (xd_L (Or.inr (Or.inr rfl))) vc_X3 wx_X3 1 (by decide) wf_X10_75 (a := 41) rfl dX10_go_209 ?_
            refine x_iload C.1 dX10_go_212 1 rfl ?_
            refine x_aldS C (N := 129) (i := 41) (q := z338) (t := 5) rfl (by omega) (xd_Lb (Or.inr (Or.inr rfl))) (by omega) (by decide) dX10_go_214 (a := c339) ec339 ?_
            refine x_iload C.1 dX10_go_215 0 rfl ?_
            refine x_putI C (N := 129) (i := c339) hc339.1 hc339.2 vc_X4 wx_X4 3 (by decide) wf_X10_79 tyX4 tyX4_ok nmX4 rfl (tyX4_ok 3 (by decide)) rfl dX10_go_217 rfl rfl ?_
            refine x_gV ?_
            intro V356 hV356
            have hI356 : XI G V356 := hI355.up hV356 (rg_E hc339 3) (by omega) (pr_E hc339 _)
            have hB356 := hB355.up hV356 (Or.inr (Or.inr (⟨by omega, by omega⟩)))
            replace hF := hF.to (rdb_e (z := V356) hV356.symm)
            refine x_lv [(8, vI z313), (7, vI 1), (6, vI z181), (5, .ref (ad c2)), (0, .ref (ad 105)), (1, .ref (ad 39)), (2, .ref (ad 60)), (3, vI x3), (4, vI x4)] [2, 3, 4, 5, 6, 7, 8, 9, 10] rfl ?_
            exact jn336 V356 ⟨hI356, hB356, hF⟩
          · refine x_if_ne C.1 (tgt := 187) dX10_go_173 (by decide) (by omega) (fun hc357 => ?_) (fun hc357 => ?_)
            · replace hF := hF.to (if_pos hc357)
              exact jn351 V348 ⟨hI348, hB348, hF⟩
            · replace hF := hF.to (if_neg (fun hh => hh hc357))
              refine x_aload_n C.1 dX10_go_176 6 rfl ?_
              refine x_aload_n C.1 dX10_go_177 7 rfl ?_
              refine x_aload_n C.1 dX10_go_178 8 rfl ?_
              refine x_iload_n C.1 dX10_go_179 9 rfl ?_
              refine x_iconst C.1 (n := 1) dX10_go_180 ?_
              refine x_iadd C.1 (v := x3 + 1) (by omega) dX10_go_181 ?_
              refine x_iload C.1 dX10_go_182 2 rfl ?_
              refine x_callSv C (As := [.ref (ad 105), .ref (ad 39), .ref (ad 60), vI (x3 + 1), vI z313]) (rest := []) (s_go7 l D cy ad G V348 J Rr hI348 hJ hR (x3 + 1) ⟨by omega, by omega⟩ z313 ⟨by omega, by omega⟩) (l1 := []) (l2 := []) (List.append_nil _).symm (w2 := fun u : Nat → Nat → Int => XW cy ad u J Rr) (fun _ => List.append_nil _) rfl wm_yX10_go wn_X10 wl_X10_50 wi_yX10_go hd_yX10_go rfl ⟨Nat.le_of_ble_eq_true rfl, Nat.le_of_ble_eq_true rfl⟩ (Nat.le_of_ble_eq_true rfl) ⟨Nat.le_of_ble_eq_true rfl, Nat.le_of_ble_eq_true rfl⟩ dX10_go_184 (fun V358 h358 => ?_)
              obtain ⟨hI358, hBc358, hFc358⟩ := h358
              replace hF := calUX_i hF hFc358 hBc358
              have hB358 := hB348.tr hBc358 (fun i k h => (Or.inl h))
              exact jn351 V358 ⟨hI358, hB358, hF⟩
        · replace hF := hF.to (if_neg hc337)
          refine x_goto C.1 (tgt := 220) dX10_go_91 (by decide) ?_
          exact jn336 V182 ⟨hI182, hB182, hF⟩
set_option maxRecDepth 100000 in
def f_s_go5 (x3 : Int) (x4 : Int) (V : Nat → Nat → Int) (J : Nat → Nat → Int) (Rr : Nat → Nat → Nat) : (Nat → Nat → Int) → Prop :=
  rdb (V 105 5) fun z1 => fct (0 ≤ z1 ∧ z1 ≤ 3) <| rdb (39 + 3 + 2 * z1.toNat) fun c2 => rdb (110 + 2 * x3.toNat) fun c3 => calUX (fun i k : Nat => (c3 ≤ i ∧ i ≤ c3 + 1)) V (f_s_copyP c3 c2 V J Rr) fun V4 => rdb (V4 105 4) fun z5 => fct (0 ≤ z5 ∧ z5 ≤ 3) <| lop2 (6) (fun rc182 (z181 : Int) (V182 : Nat → Nat → Int) => (if z181 < 0 then rtn V182 else rdb (V182 105 4) fun z272 => fct (0 ≤ z272 ∧ z272 ≤ 3) <| (if z272 ≤ z181 then rdb (V182 105 6) fun z274 => jnk (fun (V293 : Nat → Nat → Int) => rc182 (z181 - 1) V293) fun jf293 => (if x4 ≤ z274 then rdb (39 + 11 + 1 * 0) fun c295 => rdb (V182 c295 3) fun z296 => rdb (V182 105 5) fun z297 => fct (0 ≤ z297 ∧ z297 ≤ 3) <| calUX (fun i k : Nat => (69 ≤ i ∧ i ≤ 71) ∨ (39 ≤ i ∧ i ≤ 39 + 18)) V182 (f_s_endDay 39 z297 0 V182 J Rr) fun V298 => rdb (V298 39 3) fun z299 => rdb (wr (z299 + 1)) fun z300 => rdb (up2 V298 39 3 z300) fun V301 => rdb (up2 V301 108 x3.toNat z181) fun V302 => calR (f_s_isDeadP c2 V302 J Rr) fun z303 => fct (0 ≤ z303 ∧ z303 ≤ 1) <| jnk (fun (V305 : Nat → Nat → Int) => rdb (V305 39 3) fun z306 => rdb (wr (z306 - 1)) fun z307 => rdb (up2 V305 39 3 z307) fun V308 => calUX (fun i k : Nat => (c2 ≤ i ∧ i ≤ c2 + 1)) V308 (f_s_copyP c2 c3 V308 J Rr) fun V309 => rdb (up2 V309 c295 3 z296) fun V310 => jf293 V310) fun jf305 => (if ¬ z303 = 0 then jf305 V302 else calUX (fun i k : Nat => (105 ≤ i ∧ i ≤ 123) ∨ (69 ≤ i ∧ i ≤ 71) ∨ (39 ≤ i ∧ i ≤ 57)) V302 (f_s_go6 (x3 + 1) x4 V302 J Rr) fun V312 => jf305 V312) else jf293 V182) else rdb (wr (x4 + 1)) fun z313 => rdb (V182 105 6) fun z314 => jnk (fun (V336 : Nat → Nat → Int) => rc182 (z181 - 1) V336) fun jf336 => (if z313 ≤ z314 then rdb (V182 107 z181.toNat) fun z338 => fct (0 ≤ z338 ∧ z338 ≤ 7) <| rdb (39 + 11 + 1 * z338.toNat) fun c339 => rdb (V182 c339 3) fun z340 => rdb (V182 105 5) fun z341 => fct (0 ≤ z341 ∧ z341 ≤ 3) <| calUX (fun i k : Nat => (69 ≤ i ∧ i ≤ 71) ∨ (39 ≤ i ∧ i ≤ 39 + 18)) V182 (f_s_giveTo 39 z338 z341 V182 J Rr) fun V342 => rdb (V342 105 5) fun z343 => fct (0 ≤ z343 ∧ z343 ≤ 3) <| calUX (fun i k : Nat => (69 ≤ i ∧ i ≤ 71) ∨ (39 ≤ i ∧ i ≤ 39 + 18)) V342 (f_s_endDay 39 z343 0 V342 J Rr) fun V344 => rdb (V344 39 3) fun z345 => rdb (wr (z345 + 1)) fun z346 => rdb (up2 V344 39 3 z346) fun V347 => rdb (up2 V347 108 x3.toNat z181) fun V348 => calR (f_s_isDeadP c2 V348 J Rr) fun z349 => fct (0 ≤ z349 ∧ z349 ≤ 1) <| jnk (fun (V351 : Nat → Nat → Int) => rdb (V351 39 3) fun z352 => rdb (wr (z352 - 1)) fun z353 => rdb (up2 V351 39 3 z353) fun V354 => calUX (fun i k : Nat => (c2 ≤ i ∧ i ≤ c2 + 1)) V354 (f_s_copyP c2 c3 V354 J Rr) fun V355 => rdb (up2 V355 c339 3 z340) fun V356 => jf336 V356) fun jf351 => (if ¬ z349 = 0 then jf351 V348 else calUX (fun i k : Nat => (105 ≤ i ∧ i ≤ 123) ∨ (69 ≤ i ∧ i ≤ 71) ∨ (39 ≤ i ∧ i ≤ 57)) V348 (f_s_go6 (x3 + 1) z313 V348 J Rr) fun V358 => jf351 V358) else jf336 V182)))) z5 V4
set_option maxHeartbeats 8000000 in
set_option maxRecDepth 100000 in
theorem s_go5 (l : Launch) (D : va_G) (cy : Nat → ClassId) (ad : Nat → Nat) (G : Nat → Nat → Int) (V J : Nat → Nat → Int) (Rr : Nat → Nat → Nat) (hI : XI G V) (hJ : VJ J) (hR : XR Rr) (x3 : Int) (bx3 : 5 ≤ x3 ∧ x3 ≤ 5) (x4 : Int) (bx4 : -2147483648 ≤ x4 ∧ x4 ≤ 2147483647) : xMv l D (xTY cy) yX10_go cX10_go 11 none 6 155 0 0 [.ref (ad 105), .ref (ad 39), .ref (ad 60), vI x3, vI x4] (XW cy ad V J Rr) (fun u : Nat → Nat → Int => XW cy ad u J Rr) (fun u : Nat → Nat → Int => XI G u ∧ FB (fun i k : Nat => (105 ≤ i ∧ i ≤ 123) ∨ (69 ≤ i ∧ i ≤ 71) ∨ (39 ≤ i ∧ i ≤ 57)) V u ∧ (f_s_go5 x3 x4 V J Rr) u) := by
  refine xMv.mk (lv0 := [(0, .ref (ad 105)), (1, .ref (ad 39)), (2, .ref (ad 60)), (3, vI x3), (4, vI x4)]) (by decide) rfl (Nat.le_of_ble_eq_true rfl) (fun p e s m below meth c A C hr hnm hAe => ?_)
  have C : xC2 p s m _ meth c D A s.heap 11 cX10_go RX10 (xTY cy) := C
  have hB : FB (fun i k : Nat => (105 ≤ i ∧ i ≤ 123) ∨ (69 ≤ i ∧ i ≤ 71) ∨ (39 ≤ i ∧ i ≤ 57)) V V := FB.rf _ _
  have hF := Imp.of_eq (f_s_go5.eq_def x3 x4 V J Rr)
  refine x_aload_n C.1 dX10_go_0 1 rfl ?_
  refine x_getA C (N := 129) (i := 39) (by omega) (xd_L (Or.inr (Or.inr rfl))) vc_X3 wx_X3 0 (by decide) wf_X10_63 (a := 40) rfl dX10_go_1 ?_
  refine x_aload_n C.1 dX10_go_4 0 rfl ?_
  obtain ⟨z1, ez1, bz1⟩ := hI.rd 105 5 (x := 0) (y := 3) rfl
  replace hF := hF.to (rdb_e (z := z1) ez1)
  replace hF := hF.fc bz1
  refine x_getI C (N := 129) (i := 105) (by decide) rfl vc_X10 wx_X10 5 (by decide) wf_X10_28 rfl dX10_go_5 (a := z1) ez1 ?_
  obtain ⟨c2, ec2, hc2⟩ : ∃ cx : Nat, 39 + 3 + 2 * z1.toNat = cx ∧ isPl cx := ⟨_, rfl, isPl_L (Or.inr (Or.inr rfl)) (by omega)⟩
  replace hF := hF.to (rdb_e (z := c2) ec2)
  refine x_aldS C (N := 129) (i := 40) (q := z1) (t := 4) rfl (by omega) (xd_La (Or.inr (Or.inr rfl))) (by omega) (by decide) dX10_go_8 (a := c2) ec2 ?_
  refine x_astore C.1 (lv' := [(5, .ref (ad c2)), (0, .ref (ad 105)), (1, .ref (ad 39)), (2, .ref (ad 60)), (3, vI x3), (4, vI x4)]) dX10_go_9 (by decide) rfl ?_
  refine x_iload_n C.1 dX10_go_11 4 rfl ?_
  refine x_bipush C.1 (n := 7) dX10_go_12 ?_
  refine x_icmp_lt_t C.1 (tgt := 29) dX10_go_14 (by decide) (by omega) (by decide) (by omega) ?_
  refine x_aload_n C.1 dX10_go_29 1 rfl ?_
  refine x_getA C (N := 129) (i := 105) (by decide) rfl vc_X10 wx_X10 0 (by decide) wf_X10_11 (a := 106) rfl dX10_go_30 ?_
  refine x_iload_n C.1 dX10_go_33 4 rfl ?_
  obtain ⟨c3, ec3, hc3⟩ : ∃ cx : Nat, 110 + 2 * x3.toNat = cx ∧ isPl cx := ⟨_, rfl, isPl_Wk (by omega)⟩
  replace hF := hF.to (rdb_e (z := c3) ec3)
  refine x_aldS C (N := 129) (i := 106) (q := x3) (t := 4) rfl (by decide) rfl (by omega) (by decide) dX10_go_34 (a := c3) ec3 ?_
  refine x_aload C.1 dX10_go_35 0 rfl ?_
  refine x_callVv C (As := [.ref (ad c2)]) (rest := []) c3 (xw_at (N := 129) (i := c3) (Nat.lt_of_succ_lt hc3.1) hc3.2.1) vc_X5 (s_copyP l D cy ad G V J Rr hI hJ hR c3 hc3 c2 hc2 (fun k => pr_Wk ec3 (by omega) k)) (l1 := []) (l2 := []) (List.append_nil _).symm (w2 := fun u : Nat → Nat → Int => XW cy ad u J Rr) (fun _ => List.append_nil _) rfl wm_yX5_copy wn_X5 wl_X10_71 wi_yX5_copy we_yX5_copy hd_yX5_copy rfl ⟨Nat.le_of_ble_eq_true rfl, Nat.le_of_ble_eq_true rfl⟩ (Nat.le_of_ble_eq_true rfl) ⟨Nat.le_of_ble_eq_true rfl, Nat.le_of_ble_eq_true rfl⟩ dX10_go_37 (fun V4 h4 => ?_)
  obtain ⟨hI4, hBc4, hFc4⟩ := h4
  replace hF := calUX_i hF hFc4 hBc4
  have hB4 := hB.tr hBc4 (fun i k h => (Or.inl (⟨by omega, by omega⟩)))
  refine x_aload_n C.1 dX10_go_40 1 rfl ?_
  obtain ⟨z5, ez5, bz5⟩ := hI4.rd 105 4 (x := 0) (y := 3) rfl
  replace hF := hF.to (rdb_e (z := z5) ez5)
  replace hF := hF.fc bz5
  refine x_getI C (N := 129) (i := 105) (by decide) rfl vc_X10 wx_X10 4 (by decide) wf_X10_38 rfl dX10_go_41 (a := z5) ez5 ?_
  refine x_istore C.1 (lv' := [(6, vI z5), (5, .ref (ad c2)), (0, .ref (ad 105)), (1, .ref (ad 39)), (2, .ref (ad 60)), (3, vI x3), (4, vI x4)]) dX10_go_44 (by decide) rfl ?_
  obtain ⟨bd182, hbd182, hF⟩ := lop2_ex hF
  refine x_loop (I := fun x : Int × (Nat → Nat → Int) => match x with | (z181, V182) => (-1 ≤ z181 ∧ z181 ≤ 3) ∧ XI G V182 ∧ FB (fun i k : Nat => (105 ≤ i ∧ i ≤ 123) ∨ (69 ≤ i ∧ i ≤ 71) ∨ (39 ≤ i ∧ i ≤ 57)) V V182 ∧ (∃ nf : Nat, (z181 - (-2)).toNat < nf ∧ Imp (lop2 nf bd182 z181 V182) (f_s_go5 x3 x4 V J Rr))) (μ := fun x : Int × (Nat → Nat → Int) => match x with | (z181, V182) => (z181 - (-2)).toNat) (wsf := fun x : Int × (Nat → Nat → Int) => match x with | (z181, V182) => XW cy ad V182 J Rr) (lvf := fun x : Int × (Nat → Nat → Int) => match x with | (z181, V182) => [(6, vI z181), (5, .ref (ad c2)), (0, .ref (ad 105)), (1, .ref (ad 39)), (2, .ref (ad 60)), (3, vI x3), (4, vI x4)]) (fun x hI182x ih182 => ?_) (z5, V4) ⟨⟨by omega, by omega⟩, hI4, hB4, ⟨_, (by omega), hF⟩⟩ rfl rfl
  obtain ⟨z181, V182⟩ := x
  obtain ⟨bz181, hI182, hB182, nf182, hn182, hF⟩ := hI182x
  try dsimp only
  obtain ⟨nf182, rfl⟩ : ∃ mm, nf182 = mm + 1 := ⟨nf182 - 1, (Nat.succ_pred_eq_of_pos (Nat.lt_of_le_of_lt (Nat.zero_le _) hn182)).symm⟩
  replace hF := hF.to (lop2_s hbd182)
  refine x_iload C.1 dX10_go_46 0 rfl ?_
  refine x_if_lt C.1 (tgt := 226) dX10_go_48 (by decide) (by omega) (fun hc271 => ?_) (fun hc271 => ?_)
  · replace hF := hF.to (if_pos hc271)
    exact x_vret (S := (Nat → Nat → Int)) (post := (fun u : Nat → Nat → Int => XI G u ∧ FB (fun i k : Nat => (105 ≤ i ∧ i ≤ 123) ∨ (69 ≤ i ∧ i ≤ 71) ∨ (39 ≤ i ∧ i ≤ 57)) V u ∧ (f_s_go5 x3 x4 V J Rr) u)) (w1 := (fun u : Nat → Nat → Int => XW cy ad u J Rr)) C hr rfl dX10_go_226 V182 rfl ⟨hI182, hB182, hF _ rfl⟩
  · replace hF := hF.to (if_neg hc271)
    refine x_iload C.1 dX10_go_51 0 rfl ?_
    refine x_aload_n C.1 dX10_go_53 2 rfl ?_
    obtain ⟨z272, ez272, bz272⟩ := hI182.rd 105 4 (x := 0) (y := 3) rfl
    replace hF := hF.to (rdb_e (z := z272) ez272)
    replace hF := hF.fc bz272
    refine x_getI C (N := 129) (i := 105) (by decide) rfl vc_X10 wx_X10 4 (by decide) wf_X10_38 rfl dX10_go_54 (a := z272) ez272 ?_
    refine x_icmp_ge C.1 (tgt := 64) dX10_go_57 (by decide) (by omega) (by omega) (fun hc273 => ?_) (fun hc273 => ?_)
    · replace hF := hF.to (if_pos hc273)
      refine x_iconst C.1 (n := 0) dX10_go_64 ?_
      refine x_istore C.1 (lv' := [(7, vI 0), (6, vI z181), (5, .ref (ad c2)), (0, .ref (ad 105)), (1, .ref (ad 39)), (2, .ref (ad 60)), (3, vI x3), (4, vI x4)]) dX10_go_65 (by decide) rfl ?_
      refine x_iload C.1 dX10_go_67 7 rfl ?_
      refine x_iload C.1 dX10_go_69 0 rfl ?_
      refine x_if_eq_t C.1 (tgt := 78) dX10_go_71 (by decide) (by decide) (by decide) ?_
      refine x_iconst C.1 (n := 0) dX10_go_78 ?_
      refine x_iadd C.1 (v := x4) (by omega) dX10_go_79 ?_
      refine x_istore C.1 (lv' := [(8, vI x4), (7, vI 0), (6, vI z181), (5, .ref (ad c2)), (0, .ref (ad 105)), (1, .ref (ad 39)), (2, .ref (ad 60)), (3, vI x3), (4, vI x4)]) dX10_go_80 (by decide) rfl ?_
      refine x_iload C.1 dX10_go_82 0 rfl ?_
      refine x_aload_n C.1 dX10_go_84 4 rfl ?_
      obtain ⟨z274, ez274, bz274⟩ := hI182.rd 105 6 (x := -2147483648) (y := 2147483647) rfl
      replace hF := hF.to (rdb_e (z := z274) ez274)
      refine x_getI C (N := 129) (i := 105) (by decide) rfl vc_X10 wx_X10 6 (by decide) wf_X10_47 rfl dX10_go_85 (a := z274) ez274 ?_
      obtain ⟨jf293, hjf293, hF⟩ := jn_ex hF
      refine x_join (I := fun V293 : (Nat → Nat → Int) => XI G V293 ∧ FB (fun i k : Nat => (105 ≤ i ∧ i ≤ 123) ∨ (69 ≤ i ∧ i ≤ 71) ∨ (39 ≤ i ∧ i ≤ 57)) V V293 ∧ Imp (jf293 V293) (f_s_go5 x3 x4 V J Rr)) (wsf := fun V293 : (Nat → Nat → Int) => XW cy ad V293 J Rr) (lvf := fun V293 : (Nat → Nat → Int) => [(8, vI x4), (7, vI 0), (6, vI z181), (5, .ref (ad c2)), (0, .ref (ad 105)), (1, .ref (ad 39)), (2, .ref (ad 60)), (3, vI x3), (4, vI x4)]) (stf := fun V293 : (Nat → Nat → Int) => []) 220 (fun V293 hI293x => ?_) (fun jn293 => ?_)
      · obtain ⟨hI293, hB293, hF⟩ := hI293x
        try dsimp only
        replace hF := hF.to (jn_s1 hjf293)
        refine x_iinc C.1 (v := z181 - 1) (lv' := [(6, vI (z181 - 1)), (8, vI x4), (7, vI 0), (5, .ref (ad c2)), (0, .ref (ad 105)), (1, .ref (ad 39)), (2, .ref (ad 60)), (3, vI x3), (4, vI x4)]) (by omega) dX10_go_220 2 rfl (by decide) rfl ?_
        refine x_goto C.1 (tgt := 46) dX10_go_223 (by decide) ?_
        refine x_lv [(6, vI (z181 - 1)), (5, .ref (ad c2)), (0, .ref (ad 105)), (1, .ref (ad 39)), (2, .ref (ad 60)), (3, vI x3), (4, vI x4)] [0, 3, 4, 5, 6, 7, 8] rfl ?_
        have hmu182 : ((z181 - 1) - (-2)).toNat < (z181 - (-2)).toNat := (by omega)
        exact ih182 (z181 - 1, V293) ⟨⟨by omega, by omega⟩, hI293, hB293, ⟨nf182, Nat.lt_of_lt_of_le hmu182 (Nat.le_of_lt_succ hn182), hF⟩⟩ hmu182
      · refine x_icmp_le C.1 (tgt := 94) dX10_go_88 (by decide) (by omega) (by omega) (fun hc294 => ?_) (fun hc294 => ?_)
        · replace hF := hF.to (if_pos hc294)
          refine x_iload C.1 dX10_go_94 1 rfl ?_
          refine x_if_eq_t C.1 (tgt := 109) dX10_go_96 (by decide) (by decide) (by decide) ?_
          refine x_iconst C.1 (n := 0) dX10_go_109 ?_
          refine x_istore C.1 (lv' := [(9, vI 0), (8, vI x4), (7, vI 0), (6, vI z181), (5, .ref (ad c2)), (0, .ref (ad 105)), (1, .ref (ad 39)), (2, .ref (ad 60)), (3, vI x3), (4, vI x4)]) dX10_go_110 (by decide) rfl ?_
          refine x_aload_n C.1 dX10_go_112 6 rfl ?_
          refine x_getA C (N := 129) (i := 39) (by omega) (xd_L (Or.inr (Or.inr rfl))) vc_X3 wx_X3 1 (by decide) wf_X10_75 (a := 41) rfl dX10_go_113 ?_
          refine x_iload C.1 dX10_go_116 0 rfl ?_
          obtain ⟨c295, ec295, hc295⟩ : ∃ cx : Nat, 39 + 11 + 1 * 0 = cx ∧ isPe cx := ⟨_, rfl, isPe_L (Or.inr (Or.inr rfl)) (by decide)⟩
          replace hF := hF.to (rdb_e (z := c295) ec295)
          refine x_aldS C (N := 129) (i := 41) (q := 0) (t := 5) rfl (by omega) (xd_Lb (Or.inr (Or.inr rfl))) (by decide) (by decide) dX10_go_118 (a := c295) ec295 ?_
          obtain ⟨z296, ez296, bz296⟩ := hI182.rd c295 3 (x := -2147483648) (y := 2147483647) (rg_E hc295 3)
          replace hF := hF.to (rdb_e (z := z296) ez296)
          refine x_getI C (N := 129) (i := c295) hc295.1 hc295.2 vc_X4 wx_X4 3 (by decide) wf_X10_79 rfl dX10_go_119 (a := z296) ez296 ?_
          refine x_istore C.1 (lv' := [(10, vI z296), (9, vI 0), (8, vI x4), (7, vI 0), (6, vI z181), (5, .ref (ad c2)), (0, .ref (ad 105)), (1, .ref (ad 39)), (2, .ref (ad 60)), (3, vI x3), (4, vI x4)]) dX10_go_122 (by decide) rfl ?_
          refine x_iload C.1 dX10_go_124 3 rfl ?_
          refine x_if_eq_t C.1 (tgt := 140) dX10_go_126 (by decide) (by decide) (by decide) ?_
          refine x_aload_n C.1 dX10_go_140 7 rfl ?_
          refine x_aload_n C.1 dX10_go_141 8 rfl ?_
          refine x_aload_n C.1 dX10_go_142 6 rfl ?_
          obtain ⟨z297, ez297, bz297⟩ := hI182.rd 105 5 (x := 0) (y := 3) rfl
          replace hF := hF.to (rdb_e (z := z297) ez297)
          replace hF := hF.fc bz297
          refine x_getI C (N := 129) (i := 105) (by decide) rfl vc_X10 wx_X10 5 (by decide) wf_X10_28 rfl dX10_go_143 (a := z297) ez297 ?_
          refine x_iconst C.1 (n := 0) dX10_go_146 ?_
          refine x_callVv C (As := [.ref (ad 60), vI z297, vI 0]) (rest := []) 39 (xw_at (N := 129) (i := 39) (by omega) (xd_L (Or.inr (Or.inr rfl)))) vc_X3 (s_endDay l D cy ad G V182 J Rr hI182 hJ hR 39 (Or.inr (Or.inr rfl)) z297 ⟨by omega, by omega⟩ 0 ⟨by decide, by decide⟩) (l1 := []) (l2 := []) (List.append_nil _).symm (w2 := fun u : Nat → Nat → Int => XW cy ad u J Rr) (fun _ => List.append_nil _) rfl wm_yX3_endDay wn_X3 wl_X10_88 wi_yX3_endDay we_yX3_endDay hd_yX3_endDay rfl ⟨Nat.le_of_ble_eq_true rfl, Nat.le_of_ble_eq_true rfl⟩ (Nat.le_of_ble_eq_true rfl) ⟨Nat.le_of_ble_eq_true rfl, Nat.le_of_ble_eq_true rfl⟩ dX10_go_147 (fun V298 h298 => ?_)
          obtain ⟨hI298, hBc298, hFc298⟩ := h298
          replace hF := calUX_i hF hFc298 hBc298
          have hB298 := hB182.tr hBc298 (fun i k h => (h.elim (fun h => (Or.inr (Or.inl h))) (fun h => (Or.inr (Or.inr (⟨by omega, by omega⟩))))))
          refine x_aload_n C.1 dX10_go_150 7 rfl ?_
          refine x_dup C.1 dX10_go_151 rfl ?_
          obtain ⟨z299, ez299, bz299⟩ := hI298.rd 39 3 (x := -2147483648) (y := 2147483647) (rg_L (Or.inr (Or.inr rfl)) _)
          replace hF := hF.to (rdb_e (z := z299) ez299)
          refine x_getI C (N := 129) (i := 39) (by omega) (xd_L (Or.inr (Or.inr rfl))) vc_X3 wx_X3 3 (by decide) wf_X10_92 rfl dX10_go_152 (a := z299) ez299 ?_
          refine x_iconst C.1 (n := 1) dX10_go_155 ?_
          refine x_iadd C.1 (v := z299 + 1) (by omega) dX10_go_156 ?_
          refine x_wrapg ?_
          intro z300 bz300 ew300
          replace hF := hF.to (rdb_e (z := z300) ew300.symm)
          refine x_putI C (N := 129) (i := 39) (by omega) (xd_L (Or.inr (Or.inr rfl))) vc_X3 wx_X3 3 (by decide) wf_X10_92 tyX3 tyX3_ok nmX3 rfl (tyX3_ok 3 (by decide)) rfl dX10_go_157 rfl rfl ?_
          refine x_gV ?_
          intro V301 hV301
          have hI301 : XI G V301 := hI298.up hV301 (rg_L (Or.inr (Or.inr rfl)) _) (by omega) (pr_L (Or.inr (Or.inr rfl)) _)
          have hB301 := hB298.up hV301 (Or.inr (Or.inr (⟨by decide, by decide⟩)))
          replace hF := hF.to (rdb_e (z := V301) hV301.symm)
          refine x_aload_n C.1 dX10_go_160 6 rfl ?_
          refine x_getA C (N := 129) (i := 105) (by decide) rfl vc_X10 wx_X10 2 (by decide) wf_X10_21 (a := 108) rfl dX10_go_161 ?_
          refine x_iload_n C.1 dX10_go_164 9 rfl ?_
          refine x_iload C.1 dX10_go_165 4 rfl ?_
          refine x_iast C (N := 129) (i := 108) (q := x3) (a := z181) (by decide) rfl (by omega) (by decide) dX10_go_167 ?_
          refine x_gV ?_
          intro V302 hV302
          have hI302 : XI G V302 := hI301.up hV302 rfl (by omega) rfl
          have hB302 := hB301.up hV302 (Or.inl (⟨by decide, by decide⟩))
          replace hF := hF.to (rdb_e (z := V302) hV302.symm)
          refine x_aload C.1 dX10_go_168 5 rfl ?_
          refine x_callVi C (As := []) (rest := []) c2 (xw_at (N := 129) (i := c2) (Nat.lt_of_succ_lt hc2.1) hc2.2.1) vc_X5 (s_isDeadP l D cy ad G V302 J Rr hI302 hJ hR c2 hc2) (l1 := []) (l2 := []) (List.append_nil _).symm (w2 := fun _ => XW cy ad V302 J Rr) (fun _ => List.append_nil _) rfl wm_yX5_isDead wn_X5 wl_X10_95 wi_yX5_isDead we_yX5_isDead hd_yX5_isDead rfl ⟨Nat.le_of_ble_eq_true rfl, Nat.le_of_ble_eq_true rfl⟩ (Nat.le_of_ble_eq_true rfl) ⟨Nat.le_of_ble_eq_true rfl, Nat.le_of_ble_eq_true rfl⟩ dX10_go_170 (fun z303 u303 bz303 h303 => ?_)
          obtain ⟨bq303, hFc303⟩ := h303
          replace hF := calR_i hF hFc303
          replace hF := hF.fc bq303
          obtain ⟨jf305, hjf305, hF⟩ := jn_ex hF
          refine x_join (I := fun V305 : (Nat → Nat → Int) => XI G V305 ∧ FB (fun i k : Nat => (105 ≤ i ∧ i ≤ 123) ∨ (69 ≤ i ∧ i ≤ 71) ∨ (39 ≤ i ∧ i ≤ 57)) V V305 ∧ Imp (jf305 V305) (f_s_go5 x3 x4 V J Rr)) (wsf := fun V305 : (Nat → Nat → Int) => XW cy ad V305 J Rr) (lvf := fun V305 : (Nat → Nat → Int) => [(10, vI z296), (9, vI 0), (8, vI x4), (7, vI 0), (6, vI z181), (5, .ref (ad c2)), (0, .ref (ad 105)), (1, .ref (ad 39)), (2, .ref (ad 60)), (3, vI x3), (4, vI x4)]) (stf := fun V305 : (Nat → Nat → Int) => []) 187 (fun V305 hI305x => ?_) (fun jn305 => ?_)
          · obtain ⟨hI305, hB305, hF⟩ := hI305x
            try dsimp only
            replace hF := hF.to (jn_s1 hjf305)
            refine x_aload_n C.1 dX10_go_187 7 rfl ?_
            refine x_dup C.1 dX10_go_188 rfl ?_
            obtain ⟨z306, ez306, bz306⟩ := hI305.rd 39 3 (x := -2147483648) (y := 2147483647) (rg_L (Or.inr (Or.inr rfl)) _)
            replace hF := hF.to (rdb_e (z := z306) ez306)
            refine x_getI C (N := 129) (i := 39) (by omega) (xd_L (Or.inr (Or.inr rfl))) vc_X3 wx_X3 3 (by decide) wf_X10_92 rfl dX10_go_189 (a := z306) ez306 ?_
            refine x_iconst C.1 (n := 1) dX10_go_192 ?_
            refine x_isub C.1 (v := z306 - 1) (by omega) dX10_go_193 ?_
            refine x_wrapg ?_
            intro z307 bz307 ew307
            replace hF := hF.to (rdb_e (z := z307) ew307.symm)
            refine x_putI C (N := 129) (i := 39) (by omega) (xd_L (Or.inr (Or.inr rfl))) vc_X3 wx_X3 3 (by decide) wf_X10_92 tyX3 tyX3_ok nmX3 rfl (tyX3_ok 3 (by decide)) rfl dX10_go_194 rfl rfl ?_
            refine x_gV ?_
            intro V308 hV308
            have hI308 : XI G V308 := hI305.up hV308 (rg_L (Or.inr (Or.inr rfl)) _) (by omega) (pr_L (Or.inr (Or.inr rfl)) _)
            have hB308 := hB305.up hV308 (Or.inr (Or.inr (⟨by decide, by decide⟩)))
            replace hF := hF.to (rdb_e (z := V308) hV308.symm)
            refine x_aload C.1 dX10_go_197 5 rfl ?_
            refine x_aload_n C.1 dX10_go_199 6 rfl ?_
            refine x_getA C (N := 129) (i := 105) (by decide) rfl vc_X10 wx_X10 0 (by decide) wf_X10_11 (a := 106) rfl dX10_go_200 ?_
            refine x_iload_n C.1 dX10_go_203 9 rfl ?_
            refine x_aldS C (N := 129) (i := 106) (q := x3) (t := 4) rfl (by decide) rfl (by omega) (by decide) dX10_go_204 (a := c3) ec3 ?_
            refine x_callVv C (As := [.ref (ad c3)]) (rest := []) c2 (xw_at (N := 129) (i := c2) (Nat.lt_of_succ_lt hc2.1) hc2.2.1) vc_X5 (s_copyP l D cy ad G V308 J Rr hI308 hJ hR c2 hc2 c3 hc3 (fun k => pr_39 ec2 (by omega) k)) (l1 := []) (l2 := []) (List.append_nil _).symm (w2 := fun u : Nat → Nat → Int => XW cy ad u J Rr) (fun _ => List.append_nil _) rfl wm_yX5_copy wn_X5 wl_X10_71 wi_yX5_copy we_yX5_copy hd_yX5_copy rfl ⟨Nat.le_of_ble_eq_true rfl, Nat.le_of_ble_eq_true rfl⟩ (Nat.le_of_ble_eq_true rfl) ⟨Nat.le_of_ble_eq_true rfl, Nat.le_of_ble_eq_true rfl⟩ dX10_go_205 (fun V309 h309 => ?_)
            obtain ⟨hI309, hBc309, hFc309⟩ := h309
            replace hF := calUX_i hF hFc309 hBc309
            have hB309 := hB308.tr hBc309 (fun i k h => (Or.inr (Or.inr (⟨by omega, by omega⟩))))
            refine x_aload_n C.1 dX10_go_208 7 rfl ?_
            refine x_getA C (N := 129) (i := 39) (by omega) (xd_L (Or.inr (Or.inr rfl))) vc_X3 wx_X3 1 (by decide) wf_X10_75 (a := 41) rfl dX10_go_209 ?_
            refine x_iload C.1 dX10_go_212 1 rfl ?_
            refine x_aldS C (N := 129) (i := 41) (q := 0) (t := 5) rfl (by omega) (xd_Lb (Or.inr (Or.inr rfl))) (by decide) (by decide) dX10_go_214 (a := c295) ec295 ?_
            refine x_iload C.1 dX10_go_215 0 rfl ?_
            refine x_putI C (N := 129) (i := c295) hc295.1 hc295.2 vc_X4 wx_X4 3 (by decide) wf_X10_79 tyX4 tyX4_ok nmX4 rfl (tyX4_ok 3 (by decide)) rfl dX10_go_217 rfl rfl ?_
            refine x_gV ?_
            intro V310 hV310
            have hI310 : XI G V310 := hI309.up hV310 (rg_E hc295 3) (by omega) (pr_E hc295 _)
            have hB310 := hB309.up hV310 (Or.inr (Or.inr (⟨by omega, by omega⟩)))
            replace hF := hF.to (rdb_e (z := V310) hV310.symm)
            refine x_lv [(8, vI x4), (7, vI 0), (6, vI z181), (5, .ref (ad c2)), (0, .ref (ad 105)), (1, .ref (ad 39)), (2, .ref (ad 60)), (3, vI x3), (4, vI x4)] [2, 3, 4, 5, 6, 7, 8, 9, 10] rfl ?_
            exact jn293 V310 ⟨hI310, hB310, hF⟩
          · refine x_if_ne C.1 (tgt := 187) dX10_go_173 (by decide) (by omega) (fun hc311 => ?_) (fun hc311 => ?_)
            · replace hF := hF.to (if_pos hc311)
              exact jn305 V302 ⟨hI302, hB302, hF⟩
            · replace hF := hF.to (if_neg (fun hh => hh hc311))
              refine x_aload_n C.1 dX10_go_176 6 rfl ?_
              refine x_aload_n C.1 dX10_go_177 7 rfl ?_
              refine x_aload_n C.1 dX10_go_178 8 rfl ?_
              refine x_iload_n C.1 dX10_go_179 9 rfl ?_
              refine x_iconst C.1 (n := 1) dX10_go_180 ?_
              refine x_iadd C.1 (v := x3 + 1) (by omega) dX10_go_181 ?_
              refine x_iload C.1 dX10_go_182 2 rfl ?_
              refine x_callSv C (As := [.ref (ad 105), .ref (ad 39), .ref (ad 60), vI (x3 + 1), vI x4]) (rest := []) (s_go6 l D cy ad G V302 J Rr hI302 hJ hR (x3 + 1) ⟨by omega, by omega⟩ x4 ⟨by omega, by omega⟩) (l1 := []) (l2 := []) (List.append_nil _).symm (w2 := fun u : Nat → Nat → Int => XW cy ad u J Rr) (fun _ => List.append_nil _) rfl wm_yX10_go wn_X10 wl_X10_50 wi_yX10_go hd_yX10_go rfl ⟨Nat.le_of_ble_eq_true rfl, Nat.le_of_ble_eq_true rfl⟩ (Nat.le_of_ble_eq_true rfl) ⟨Nat.le_of_ble_eq_true rfl, Nat.le_of_ble_eq_true rfl⟩ dX10_go_184 (fun V312 h312 => ?_)
              obtain ⟨hI312, hBc312, hFc312⟩ := h312
              replace hF := calUX_i hF hFc312 hBc312
              have hB312 := hB302.tr hBc312 (fun i k h => (h.elim (fun h => (Or.inl h)) (fun h => (h.elim (fun h => (Or.inr (Or.inl h))) (fun h => (Or.inr (Or.inr (h))))))))
              exact jn305 V312 ⟨hI312, hB312, hF⟩
        · replace hF := hF.to (if_neg hc294)
          refine x_goto C.1 (tgt := 220) dX10_go_91 (by decide) ?_
          exact jn293 V182 ⟨hI182, hB182, hF⟩
    · replace hF := hF.to (if_neg hc273)
      refine x_iconst C.1 (n := 1) dX10_go_60 ?_
      refine x_goto C.1 (tgt := 65) dX10_go_61 (by decide) ?_
      refine x_istore C.1 (lv' := [(7, vI 1), (6, vI z181), (5, .ref (ad c2)), (0, .ref (ad 105)), (1, .ref (ad 39)), (2, .ref (ad 60)), (3, vI x3), (4, vI x4)]) dX10_go_65 (by decide) rfl ?_
      refine x_iload C.1 dX10_go_67 7 rfl ?_
      refine x_iload C.1 dX10_go_69 0 rfl ?_
      refine x_if_eq_f C.1 (tgt := 78) dX10_go_71 (by decide) (by decide) (by decide) ?_
      refine x_iconst C.1 (n := 1) dX10_go_74 ?_
      refine x_goto C.1 (tgt := 79) dX10_go_75 (by decide) ?_
      refine x_iadd C.1 (v := x4 + 1) (by omega) dX10_go_79 ?_
      refine x_wrapg ?_
      intro z313 bz313 ew313
      replace hF := hF.to (rdb_e (z := z313) ew313.symm)
      refine x_istore C.1 (lv' := [(8, vI z313), (7, vI 1), (6, vI z181), (5, .ref (ad c2)), (0, .ref (ad 105)), (1, .ref (ad 39)), (2, .ref (ad 60)), (3, vI x3), (4, vI x4)]) dX10_go_80 (by decide) rfl ?_
      refine x_iload C.1 dX10_go_82 0 rfl ?_
      refine x_aload_n C.1 dX10_go_84 4 rfl ?_
      obtain ⟨z314, ez314, bz314⟩ := hI182.rd 105 6 (x := -2147483648) (y := 2147483647) rfl
      replace hF := hF.to (rdb_e (z := z314) ez314)
      refine x_getI C (N := 129) (i := 105) (by decide) rfl vc_X10 wx_X10 6 (by decide) wf_X10_47 rfl dX10_go_85 (a := z314) ez314 ?_
      obtain ⟨jf336, hjf336, hF⟩ := jn_ex hF
      refine x_join (I := fun V336 : (Nat → Nat → Int) => XI G V336 ∧ FB (fun i k : Nat => (105 ≤ i ∧ i ≤ 123) ∨ (69 ≤ i ∧ i ≤ 71) ∨ (39 ≤ i ∧ i ≤ 57)) V V336 ∧ Imp (jf336 V336) (f_s_go5 x3 x4 V J Rr)) (wsf := fun V336 : (Nat → Nat → Int) => XW cy ad V336 J Rr) (lvf := fun V336 : (Nat → Nat → Int) => [(8, vI z313), (7, vI 1), (6, vI z181), (5, .ref (ad c2)), (0, .ref (ad 105)), (1, .ref (ad 39)), (2, .ref (ad 60)), (3, vI x3), (4, vI x4)]) (stf := fun V336 : (Nat → Nat → Int) => []) 220 (fun V336 hI336x => ?_) (fun jn336 => ?_)
      · obtain ⟨hI336, hB336, hF⟩ := hI336x
        try dsimp only
        replace hF := hF.to (jn_s1 hjf336)
        refine x_iinc C.1 (v := z181 - 1) (lv' := [(6, vI (z181 - 1)), (8, vI z313), (7, vI 1), (5, .ref (ad c2)), (0, .ref (ad 105)), (1, .ref (ad 39)), (2, .ref (ad 60)), (3, vI x3), (4, vI x4)]) (by omega) dX10_go_220 2 rfl (by decide) rfl ?_
        refine x_goto C.1 (tgt := 46) dX10_go_223 (by decide) ?_
        refine x_lv [(6, vI (z181 - 1)), (5, .ref (ad c2)), (0, .ref (ad 105)), (1, .ref (ad 39)), (2, .ref (ad 60)), (3, vI x3), (4, vI x4)] [0, 3, 4, 5, 6, 7, 8] rfl ?_
        have hmu182 : ((z181 - 1) - (-2)).toNat < (z181 - (-2)).toNat := (by omega)
        exact ih182 (z181 - 1, V336) ⟨⟨by omega, by omega⟩, hI336, hB336, ⟨nf182, Nat.lt_of_lt_of_le hmu182 (Nat.le_of_lt_succ hn182), hF⟩⟩ hmu182
      · refine x_icmp_le C.1 (tgt := 94) dX10_go_88 (by decide) (by omega) (by omega) (fun hc337 => ?_) (fun hc337 => ?_)
        · replace hF := hF.to (if_pos hc337)
          refine x_iload C.1 dX10_go_94 1 rfl ?_
          refine x_if_eq_f C.1 (tgt := 109) dX10_go_96 (by decide) (by decide) (by decide) ?_
          refine x_aload_n C.1 dX10_go_99 4 rfl ?_
          refine x_getA C (N := 129) (i := 105) (by decide) rfl vc_X10 wx_X10 1 (by decide) wf_X10_17 (a := 107) rfl dX10_go_100 ?_
          refine x_iload C.1 dX10_go_103 2 rfl ?_
          obtain ⟨z338, ez338, bz338⟩ := hI182.rd 107 z181.toNat (x := 0) (y := 7) rfl
          replace hF := hF.to (rdb_e (z := z338) ez338)
          replace hF := hF.fc bz338
          refine x_iald C (N := 129) (i := 107) (q := z181) (by decide) rfl (by omega) (by decide) dX10_go_105 (a := z338) ez338 ?_
          refine x_goto C.1 (tgt := 110) dX10_go_106 (by decide) ?_
          refine x_istore C.1 (lv' := [(9, vI z338), (8, vI z313), (7, vI 1), (6, vI z181), (5, .ref (ad c2)), (0, .ref (ad 105)), (1, .ref (ad 39)), (2, .ref (ad 60)), (3, vI x3), (4, vI x4)]) dX10_go_110 (by decide) rfl ?_
          refine x_aload_n C.1 dX10_go_112 6 rfl ?_
          refine x_getA C (N := 129) (i := 39) (by omega) (xd_L (Or.inr (Or.inr rfl))) vc_X3 wx_X3 1 (by decide) wf_X10_75 (a := 41) rfl dX10_go_113 ?_
          refine x_iload C.1 dX10_go_116 0 rfl ?_
          obtain ⟨c339, ec339, hc339⟩ : ∃ cx : Nat, 39 + 11 + 1 * z338.toNat = cx ∧ isPe cx := ⟨_, rfl, isPe_L (Or.inr (Or.inr rfl)) (by omega)⟩
          replace hF := hF.to (rdb_e (z := c339) ec339)
          refine x_aldS C (N := 129) (i := 41) (q := z338) (t := 5) rfl (by omega) (xd_Lb (Or.inr (Or.inr rfl))) (by omega) (by decide) dX10_go_118 (a := c339) ec339 ?_
          obtain ⟨z340, ez340, bz340⟩ := hI182.rd c339 3 (x := -2147483648) (y := 2147483647) (rg_E hc339 3)
          replace hF := hF.to (rdb_e (z := z340) ez340)
          refine x_getI C (N := 129) (i := c339) hc339.1 hc339.2 vc_X4 wx_X4 3 (by decide) wf_X10_79 rfl dX10_go_119 (a := z340) ez340 ?_
          refine x_istore C.1 (lv' := [(10, vI z340), (9, vI z338), (8, vI z313), (7, vI 1), (6, vI z181), (5, .ref (ad c2)), (0, .ref (ad 105)), (1, .ref (ad 39)), (2, .ref (ad 60)), (3, vI x3), (4, vI x4)]) dX10_go_122 (by decide) rfl ?_
          refine x_iload C.1 dX10_go_124 3 rfl ?_
          refine x_if_eq_f C.1 (tgt := 140) dX10_go_126 (by decide) (by decide) (by decide) ?_
          refine x_aload_n C.1 dX10_go_129 7 rfl ?_
          refine x_aload_n C.1 dX10_go_130 8 rfl ?_
          refine x_iload C.1 dX10_go_131 1 rfl ?_
          refine x_aload_n C.1 dX10_go_133 6 rfl ?_
          obtain ⟨z341, ez341, bz341⟩ := hI182.rd 105 5 (x := 0) (y := 3) rfl
          replace hF := hF.to (rdb_e (z := z341) ez341)
          replace hF := hF.fc bz341
          refine x_getI C (N := 129) (i := 105) (by decide) rfl vc_X10 wx_X10 5 (by decide) wf_X10_28 rfl dX10_go_134 (a := z341) ez341 ?_
          refine x_callVv C (As := [.ref (ad 60), vI z338, vI z341]) (rest := []) 39 (xw_at (N := 129) (i := 39) (by omega) (xd_L (Or.inr (Or.inr rfl)))) vc_X3 (s_giveTo l D cy ad G V182 J Rr hI182 hJ hR 39 (Or.inr (Or.inr rfl)) z338 ⟨by omega, by omega⟩ z341 ⟨by omega, by omega⟩) (l1 := []) (l2 := []) (List.append_nil _).symm (w2 := fun u : Nat → Nat → Int => XW cy ad u J Rr) (fun _ => List.append_nil _) rfl wm_yX3_giveTo wn_X3 wl_X10_84 wi_yX3_giveTo we_yX3_giveTo hd_yX3_giveTo rfl ⟨Nat.le_of_ble_eq_true rfl, Nat.le_of_ble_eq_true rfl⟩ (Nat.le_of_ble_eq_true rfl) ⟨Nat.le_of_ble_eq_true rfl, Nat.le_of_ble_eq_true rfl⟩ dX10_go_137 (fun V342 h342 => ?_)
          obtain ⟨hI342, hBc342, hFc342⟩ := h342
          replace hF := calUX_i hF hFc342 hBc342
          have hB342 := hB182.tr hBc342 (fun i k h => (h.elim (fun h => (Or.inr (Or.inl h))) (fun h => (Or.inr (Or.inr (⟨by omega, by omega⟩))))))
          refine x_aload_n C.1 dX10_go_140 7 rfl ?_
          refine x_aload_n C.1 dX10_go_141 8 rfl ?_
          refine x_aload_n C.1 dX10_go_142 6 rfl ?_
          obtain ⟨z343, ez343, bz343⟩ := hI342.rd 105 5 (x := 0) (y := 3) rfl
          replace hF := hF.to (rdb_e (z := z343) ez343)
          replace hF := hF.fc bz343
          refine x_getI C (N := 129) (i := 105) (by decide) rfl vc_X10 wx_X10 5 (by decide) wf_X10_28 rfl dX10_go_143 (a := z343) ez343 ?_
          refine x_iconst C.1 (n := 0) dX10_go_146 ?_
          refine x_callVv C (As := [.ref (ad 60), vI z343, vI 0]) (rest := []) 39 (xw_at (N := 129) (i := 39) (by omega) (xd_L (Or.inr (Or.inr rfl)))) vc_X3 (s_endDay l D cy ad G V342 J Rr hI342 hJ hR 39 (Or.inr (Or.inr rfl)) z343 ⟨by omega, by omega⟩ 0 ⟨by decide, by decide⟩) (l1 := []) (l2 := []) (List.append_nil _).symm (w2 := fun u : Nat → Nat → Int => XW cy ad u J Rr) (fun _ => List.append_nil _) rfl wm_yX3_endDay wn_X3 wl_X10_88 wi_yX3_endDay we_yX3_endDay hd_yX3_endDay rfl ⟨Nat.le_of_ble_eq_true rfl, Nat.le_of_ble_eq_true rfl⟩ (Nat.le_of_ble_eq_true rfl) ⟨Nat.le_of_ble_eq_true rfl, Nat.le_of_ble_eq_true rfl⟩ dX10_go_147 (fun V344 h344 => ?_)
          obtain ⟨hI344, hBc344, hFc344⟩ := h344
          replace hF := calUX_i hF hFc344 hBc344
          have hB344 := hB342.tr hBc344 (fun i k h => (h.elim (fun h => (Or.inr (Or.inl h))) (fun h => (Or.inr (Or.inr (⟨by omega, by omega⟩))))))
          refine x_aload_n C.1 dX10_go_150 7 rfl ?_
          refine x_dup C.1 dX10_go_151 rfl ?_
          obtain ⟨z345, ez345, bz345⟩ := hI344.rd 39 3 (x := -2147483648) (y := 2147483647) (rg_L (Or.inr (Or.inr rfl)) _)
          replace hF := hF.to (rdb_e (z := z345) ez345)
          refine x_getI C (N := 129) (i := 39) (by omega) (xd_L (Or.inr (Or.inr rfl))) vc_X3 wx_X3 3 (by decide) wf_X10_92 rfl dX10_go_152 (a := z345) ez345 ?_
          refine x_iconst C.1 (n := 1) dX10_go_155 ?_
          refine x_iadd C.1 (v := z345 + 1) (by omega) dX10_go_156 ?_
          refine x_wrapg ?_
          intro z346 bz346 ew346
          replace hF := hF.to (rdb_e (z := z346) ew346.symm)
          refine x_putI C (N := 129) (i := 39) (by omega) (xd_L (Or.inr (Or.inr rfl))) vc_X3 wx_X3 3 (by decide) wf_X10_92 tyX3 tyX3_ok nmX3 rfl (tyX3_ok 3 (by decide)) rfl dX10_go_157 rfl rfl ?_
          refine x_gV ?_
          intro V347 hV347
          have hI347 : XI G V347 := hI344.up hV347 (rg_L (Or.inr (Or.inr rfl)) _) (by omega) (pr_L (Or.inr (Or.inr rfl)) _)
          have hB347 := hB344.up hV347 (Or.inr (Or.inr (⟨by decide, by decide⟩)))
          replace hF := hF.to (rdb_e (z := V347) hV347.symm)
          refine x_aload_n C.1 dX10_go_160 6 rfl ?_
          refine x_getA C (N := 129) (i := 105) (by decide) rfl vc_X10 wx_X10 2 (by decide) wf_X10_21 (a := 108) rfl dX10_go_161 ?_
          refine x_iload_n C.1 dX10_go_164 9 rfl ?_
          refine x_iload C.1 dX10_go_165 4 rfl ?_
          refine x_iast C (N := 129) (i := 108) (q := x3) (a := z181) (by decide) rfl (by omega) (by decide) dX10_go_167 ?_
          refine x_gV ?_
          intro V348 hV348
          have hI348 : XI G V348 := hI347.up hV348 rfl (by omega) rfl
          have hB348 := hB347.up hV348 (Or.inl (⟨by decide, by decide⟩))
          replace hF := hF.to (rdb_e (z := V348) hV348.symm)
          refine x_aload C.1 dX10_go_168 5 rfl ?_
          refine x_callVi C (As := []) (rest := []) c2 (xw_at (N := 129) (i := c2) (Nat.lt_of_succ_lt hc2.1) hc2.2.1) vc_X5 (s_isDeadP l D cy ad G V348 J Rr hI348 hJ hR c2 hc2) (l1 := []) (l2 := []) (List.append_nil _).symm (w2 := fun _ => XW cy ad V348 J Rr) (fun _ => List.append_nil _) rfl wm_yX5_isDead wn_X5 wl_X10_95 wi_yX5_isDead we_yX5_isDead hd_yX5_isDead rfl ⟨Nat.le_of_ble_eq_true rfl, Nat.le_of_ble_eq_true rfl⟩ (Nat.le_of_ble_eq_true rfl) ⟨Nat.le_of_ble_eq_true rfl, Nat.le_of_ble_eq_true rfl⟩ dX10_go_170 (fun z349 u349 bz349 h349 => ?_)
          obtain ⟨bq349, hFc349⟩ := h349
          replace hF := calR_i hF hFc349
          replace hF := hF.fc bq349
          obtain ⟨jf351, hjf351, hF⟩ := jn_ex hF
          refine x_join (I := fun V351 : (Nat → Nat → Int) => XI G V351 ∧ FB (fun i k : Nat => (105 ≤ i ∧ i ≤ 123) ∨ (69 ≤ i ∧ i ≤ 71) ∨ (39 ≤ i ∧ i ≤ 57)) V V351 ∧ Imp (jf351 V351) (f_s_go5 x3 x4 V J Rr)) (wsf := fun V351 : (Nat → Nat → Int) => XW cy ad V351 J Rr) (lvf := fun V351 : (Nat → Nat → Int) => [(10, vI z340), (9, vI z338), (8, vI z313), (7, vI 1), (6, vI z181), (5, .ref (ad c2)), (0, .ref (ad 105)), (1, .ref (ad 39)), (2, .ref (ad 60)), (3, vI x3), (4, vI x4)]) (stf := fun V351 : (Nat → Nat → Int) => []) 187 (fun V351 hI351x => ?_) (fun jn351 => ?_)
          · obtain ⟨hI351, hB351, hF⟩ := hI351x
            try dsimp only
            replace hF := hF.to (jn_s1 hjf351)
            refine x_aload_n C.1 dX10_go_187 7 rfl ?_
            refine x_dup C.1 dX10_go_188 rfl ?_
            obtain ⟨z352, ez352, bz352⟩ := hI351.rd 39 3 (x := -2147483648) (y := 2147483647) (rg_L (Or.inr (Or.inr rfl)) _)
            replace hF := hF.to (rdb_e (z := z352) ez352)
            refine x_getI C (N := 129) (i := 39) (by omega) (xd_L (Or.inr (Or.inr rfl))) vc_X3 wx_X3 3 (by decide) wf_X10_92 rfl dX10_go_189 (a := z352) ez352 ?_
            refine x_iconst C.1 (n := 1) dX10_go_192 ?_
            refine x_isub C.1 (v := z352 - 1) (by omega) dX10_go_193 ?_
            refine x_wrapg ?_
            intro z353 bz353 ew353
            replace hF := hF.to (rdb_e (z := z353) ew353.symm)
            refine x_putI C (N := 129) (i := 39) (by omega) (xd_L (Or.inr (Or.inr rfl))) vc_X3 wx_X3 3 (by decide) wf_X10_92 tyX3 tyX3_ok nmX3 rfl (tyX3_ok 3 (by decide)) rfl dX10_go_194 rfl rfl ?_
            refine x_gV ?_
            intro V354 hV354
            have hI354 : XI G V354 := hI351.up hV354 (rg_L (Or.inr (Or.inr rfl)) _) (by omega) (pr_L (Or.inr (Or.inr rfl)) _)
            have hB354 := hB351.up hV354 (Or.inr (Or.inr (⟨by decide, by decide⟩)))
            replace hF := hF.to (rdb_e (z := V354) hV354.symm)
            refine x_aload C.1 dX10_go_197 5 rfl ?_
            refine x_aload_n C.1 dX10_go_199 6 rfl ?_
            refine x_getA C (N := 129) (i := 105) (by decide) rfl vc_X10 wx_X10 0 (by decide) wf_X10_11 (a := 106) rfl dX10_go_200 ?_
            refine x_iload_n C.1 dX10_go_203 9 rfl ?_
            refine x_aldS C (N := 129) (i := 106) (q := x3) (t := 4) rfl (by decide) rfl (by omega) (by decide) dX10_go_204 (a := c3) ec3 ?_
            refine x_callVv C (As := [.ref (ad c3)]) (rest := []) c2 (xw_at (N := 129) (i := c2) (Nat.lt_of_succ_lt hc2.1) hc2.2.1) vc_X5 (s_copyP l D cy ad G V354 J Rr hI354 hJ hR c2 hc2 c3 hc3 (fun k => pr_39 ec2 (by omega) k)) (l1 := []) (l2 := []) (List.append_nil _).symm (w2 := fun u : Nat → Nat → Int => XW cy ad u J Rr) (fun _ => List.append_nil _) rfl wm_yX5_copy wn_X5 wl_X10_71 wi_yX5_copy we_yX5_copy hd_yX5_copy rfl ⟨Nat.le_of_ble_eq_true rfl, Nat.le_of_ble_eq_true rfl⟩ (Nat.le_of_ble_eq_true rfl) ⟨Nat.le_of_ble_eq_true rfl, Nat.le_of_ble_eq_true rfl⟩ dX10_go_205 (fun V355 h355 => ?_)
            obtain ⟨hI355, hBc355, hFc355⟩ := h355
            replace hF := calUX_i hF hFc355 hBc355
            have hB355 := hB354.tr hBc355 (fun i k h => (Or.inr (Or.inr (⟨by omega, by omega⟩))))
            refine x_aload_n C.1 dX10_go_208 7 rfl ?_
            refine x_getA C (N := 129) (i := 39) (by omega) (xd_L (Or.inr (Or.inr rfl))) vc_X3 wx_X3 1 (by decide) wf_X10_75 (a := 41) rfl dX10_go_209 ?_
            refine x_iload C.1 dX10_go_212 1 rfl ?_
            refine x_aldS C (N := 129) (i := 41) (q := z338) (t := 5) rfl (by omega) (xd_Lb (Or.inr (Or.inr rfl))) (by omega) (by decide) dX10_go_214 (a := c339) ec339 ?_
            refine x_iload C.1 dX10_go_215 0 rfl ?_
            refine x_putI C (N := 129) (i := c339) hc339.1 hc339.2 vc_X4 wx_X4 3 (by decide) wf_X10_79 tyX4 tyX4_ok nmX4 rfl (tyX4_ok 3 (by decide)) rfl dX10_go_217 rfl rfl ?_
            refine x_gV ?_
            intro V356 hV356
            have hI356 : XI G V356 := hI355.up hV356 (rg_E hc339 3) (by omega) (pr_E hc339 _)
            have hB356 := hB355.up hV356 (Or.inr (Or.inr (⟨by omega, by omega⟩)))
            replace hF := hF.to (rdb_e (z := V356) hV356.symm)
            refine x_lv [(8, vI z313), (7, vI 1), (6, vI z181), (5, .ref (ad c2)), (0, .ref (ad 105)), (1, .ref (ad 39)), (2, .ref (ad 60)), (3, vI x3), (4, vI x4)] [2, 3, 4, 5, 6, 7, 8, 9, 10] rfl ?_
            exact jn336 V356 ⟨hI356, hB356, hF⟩
          · refine x_if_ne C.1 (tgt := 187) dX10_go_173 (by decide) (by omega) (fun hc357 => ?_) (fun hc357 => ?_)
            · replace hF := hF.to (if_pos hc357)
              exact jn351 V348 ⟨hI348, hB348, hF⟩
            · replace hF := hF.to (if_neg (fun hh => hh hc357))
              refine x_aload_n C.1 dX10_go_176 6 rfl ?_
              refine x_aload_n C.1 dX10_go_177 7 rfl ?_
              refine x_aload_n C.1 dX10_go_178 8 rfl ?_
              refine x_iload_n C.1 dX10_go_179 9 rfl ?_
              refine x_iconst C.1 (n := 1) dX10_go_180 ?_
              refine x_iadd C.1 (v := x3 + 1) (by omega) dX10_go_181 ?_
              refine x_iload C.1 dX10_go_182 2 rfl ?_
              refine x_callSv C (As := [.ref (ad 105), .ref (ad 39), .ref (ad 60), vI (x3 + 1), vI z313]) (rest := []) (s_go6 l D cy ad G V348 J Rr hI348 hJ hR (x3 + 1) ⟨by omega, by omega⟩ z313 ⟨by omega, by omega⟩) (l1 := []) (l2 := []) (List.append_nil _).symm (w2 := fun u : Nat → Nat → Int => XW cy ad u J Rr) (fun _ => List.append_nil _) rfl wm_yX10_go wn_X10 wl_X10_50 wi_yX10_go hd_yX10_go rfl ⟨Nat.le_of_ble_eq_true rfl, Nat.le_of_ble_eq_true rfl⟩ (Nat.le_of_ble_eq_true rfl) ⟨Nat.le_of_ble_eq_true rfl, Nat.le_of_ble_eq_true rfl⟩ dX10_go_184 (fun V358 h358 => ?_)
              obtain ⟨hI358, hBc358, hFc358⟩ := h358
              replace hF := calUX_i hF hFc358 hBc358
              have hB358 := hB348.tr hBc358 (fun i k h => (h.elim (fun h => (Or.inl h)) (fun h => (h.elim (fun h => (Or.inr (Or.inl h))) (fun h => (Or.inr (Or.inr (h))))))))
              exact jn351 V358 ⟨hI358, hB358, hF⟩
        · replace hF := hF.to (if_neg hc337)
          refine x_goto C.1 (tgt := 220) dX10_go_91 (by decide) ?_
          exact jn336 V182 ⟨hI182, hB182, hF⟩
set_option maxRecDepth 100000 in
def f_s_go4 (x3 : Int) (x4 : Int) (V : Nat → Nat → Int) (J : Nat → Nat → Int) (Rr : Nat → Nat → Nat) : (Nat → Nat → Int) → Prop :=
  rdb (V 105 5) fun z1 => fct (0 ≤ z1 ∧ z1 ≤ 3) <| rdb (39 + 3 + 2 * z1.toNat) fun c2 => rdb (110 + 2 * x3.toNat) fun c3 => calUX (fun i k : Nat => (c3 ≤ i ∧ i ≤ c3 + 1)) V (f_s_copyP c3 c2 V J Rr) fun V4 => rdb (V4 105 4) fun z5 => fct (0 ≤ z5 ∧ z5 ≤ 3) <| lop2 (6) (fun rc182 (z181 : Int) (V182 : Nat → Nat → Int) => (if z181 < 0 then rtn V182 else rdb (V182 105 4) fun z272 => fct (0 ≤ z272 ∧ z272 ≤ 3) <| (if z272 ≤ z181 then rdb (V182 105 6) fun z274 => jnk (fun (V293 : Nat → Nat → Int) => rc182 (z181 - 1) V293) fun jf293 => (if x4 ≤ z274 then rdb (39 + 11 + 1 * 0) fun c295 => rdb (V182 c295 3) fun z296 => rdb (V182 105 5) fun z297 => fct (0 ≤ z297 ∧ z297 ≤ 3) <| calUX (fun i k : Nat => (69 ≤ i ∧ i ≤ 71) ∨ (39 ≤ i ∧ i ≤ 39 + 18)) V182 (f_s_endDay 39 z297 0 V182 J Rr) fun V298 => rdb (V298 39 3) fun z299 => rdb (wr (z299 + 1)) fun z300 => rdb (up2 V298 39 3 z300) fun V301 => rdb (up2 V301 108 x3.toNat z181) fun V302 => calR (f_s_isDeadP c2 V302 J Rr) fun z303 => fct (0 ≤ z303 ∧ z303 ≤ 1) <| jnk (fun (V305 : Nat → Nat → Int) => rdb (V305 39 3) fun z306 => rdb (wr (z306 - 1)) fun z307 => rdb (up2 V305 39 3 z307) fun V308 => calUX (fun i k : Nat => (c2 ≤ i ∧ i ≤ c2 + 1)) V308 (f_s_copyP c2 c3 V308 J Rr) fun V309 => rdb (up2 V309 c295 3 z296) fun V310 => jf293 V310) fun jf305 => (if ¬ z303 = 0 then jf305 V302 else calUX (fun i k : Nat => (105 ≤ i ∧ i ≤ 123) ∨ (69 ≤ i ∧ i ≤ 71) ∨ (39 ≤ i ∧ i ≤ 57)) V302 (f_s_go5 (x3 + 1) x4 V302 J Rr) fun V312 => jf305 V312) else jf293 V182) else rdb (wr (x4 + 1)) fun z313 => rdb (V182 105 6) fun z314 => jnk (fun (V336 : Nat → Nat → Int) => rc182 (z181 - 1) V336) fun jf336 => (if z313 ≤ z314 then rdb (V182 107 z181.toNat) fun z338 => fct (0 ≤ z338 ∧ z338 ≤ 7) <| rdb (39 + 11 + 1 * z338.toNat) fun c339 => rdb (V182 c339 3) fun z340 => rdb (V182 105 5) fun z341 => fct (0 ≤ z341 ∧ z341 ≤ 3) <| calUX (fun i k : Nat => (69 ≤ i ∧ i ≤ 71) ∨ (39 ≤ i ∧ i ≤ 39 + 18)) V182 (f_s_giveTo 39 z338 z341 V182 J Rr) fun V342 => rdb (V342 105 5) fun z343 => fct (0 ≤ z343 ∧ z343 ≤ 3) <| calUX (fun i k : Nat => (69 ≤ i ∧ i ≤ 71) ∨ (39 ≤ i ∧ i ≤ 39 + 18)) V342 (f_s_endDay 39 z343 0 V342 J Rr) fun V344 => rdb (V344 39 3) fun z345 => rdb (wr (z345 + 1)) fun z346 => rdb (up2 V344 39 3 z346) fun V347 => rdb (up2 V347 108 x3.toNat z181) fun V348 => calR (f_s_isDeadP c2 V348 J Rr) fun z349 => fct (0 ≤ z349 ∧ z349 ≤ 1) <| jnk (fun (V351 : Nat → Nat → Int) => rdb (V351 39 3) fun z352 => rdb (wr (z352 - 1)) fun z353 => rdb (up2 V351 39 3 z353) fun V354 => calUX (fun i k : Nat => (c2 ≤ i ∧ i ≤ c2 + 1)) V354 (f_s_copyP c2 c3 V354 J Rr) fun V355 => rdb (up2 V355 c339 3 z340) fun V356 => jf336 V356) fun jf351 => (if ¬ z349 = 0 then jf351 V348 else calUX (fun i k : Nat => (105 ≤ i ∧ i ≤ 123) ∨ (69 ≤ i ∧ i ≤ 71) ∨ (39 ≤ i ∧ i ≤ 57)) V348 (f_s_go5 (x3 + 1) z313 V348 J Rr) fun V358 => jf351 V358) else jf336 V182)))) z5 V4
set_option maxHeartbeats 8000000 in
set_option maxRecDepth 100000 in
theorem s_go4 (l : Launch) (D : va_G) (cy : Nat → ClassId) (ad : Nat → Nat) (G : Nat → Nat → Int) (V J : Nat → Nat → Int) (Rr : Nat → Nat → Nat) (hI : XI G V) (hJ : VJ J) (hR : XR Rr) (x3 : Int) (bx3 : 4 ≤ x3 ∧ x3 ≤ 4) (x4 : Int) (bx4 : -2147483648 ≤ x4 ∧ x4 ≤ 2147483647) : xMv l D (xTY cy) yX10_go cX10_go 11 none 7 185 0 0 [.ref (ad 105), .ref (ad 39), .ref (ad 60), vI x3, vI x4] (XW cy ad V J Rr) (fun u : Nat → Nat → Int => XW cy ad u J Rr) (fun u : Nat → Nat → Int => XI G u ∧ FB (fun i k : Nat => (105 ≤ i ∧ i ≤ 123) ∨ (69 ≤ i ∧ i ≤ 71) ∨ (39 ≤ i ∧ i ≤ 57)) V u ∧ (f_s_go4 x3 x4 V J Rr) u) := by
  refine xMv.mk (lv0 := [(0, .ref (ad 105)), (1, .ref (ad 39)), (2, .ref (ad 60)), (3, vI x3), (4, vI x4)]) (by decide) rfl (Nat.le_of_ble_eq_true rfl) (fun p e s m below meth c A C hr hnm hAe => ?_)
  have C : xC2 p s m _ meth c D A s.heap 11 cX10_go RX10 (xTY cy) := C
  have hB : FB (fun i k : Nat => (105 ≤ i ∧ i ≤ 123) ∨ (69 ≤ i ∧ i ≤ 71) ∨ (39 ≤ i ∧ i ≤ 57)) V V := FB.rf _ _
  have hF := Imp.of_eq (f_s_go4.eq_def x3 x4 V J Rr)
  refine x_aload_n C.1 dX10_go_0 1 rfl ?_
  refine x_getA C (N := 129) (i := 39) (by omega) (xd_L (Or.inr (Or.inr rfl))) vc_X3 wx_X3 0 (by decide) wf_X10_63 (a := 40) rfl dX10_go_1 ?_
  refine x_aload_n C.1 dX10_go_4 0 rfl ?_
  obtain ⟨z1, ez1, bz1⟩ := hI.rd 105 5 (x := 0) (y := 3) rfl
  replace hF := hF.to (rdb_e (z := z1) ez1)
  replace hF := hF.fc bz1
  refine x_getI C (N := 129) (i := 105) (by decide) rfl vc_X10 wx_X10 5 (by decide) wf_X10_28 rfl dX10_go_5 (a := z1) ez1 ?_
  obtain ⟨c2, ec2, hc2⟩ : ∃ cx : Nat, 39 + 3 + 2 * z1.toNat = cx ∧ isPl cx := ⟨_, rfl, isPl_L (Or.inr (Or.inr rfl)) (by omega)⟩
  replace hF := hF.to (rdb_e (z := c2) ec2)
  refine x_aldS C (N := 129) (i := 40) (q := z1) (t := 4) rfl (by omega) (xd_La (Or.inr (Or.inr rfl))) (by omega) (by decide) dX10_go_8 (a := c2) ec2 ?_
  refine x_astore C.1 (lv' := [(5, .ref (ad c2)), (0, .ref (ad 105)), (1, .ref (ad 39)), (2, .ref (ad 60)), (3, vI x3), (4, vI x4)]) dX10_go_9 (by decide) rfl ?_
  refine x_iload_n C.1 dX10_go_11 4 rfl ?_
  refine x_bipush C.1 (n := 7) dX10_go_12 ?_
  refine x_icmp_lt_t C.1 (tgt := 29) dX10_go_14 (by decide) (by omega) (by decide) (by omega) ?_
  refine x_aload_n C.1 dX10_go_29 1 rfl ?_
  refine x_getA C (N := 129) (i := 105) (by decide) rfl vc_X10 wx_X10 0 (by decide) wf_X10_11 (a := 106) rfl dX10_go_30 ?_
  refine x_iload_n C.1 dX10_go_33 4 rfl ?_
  obtain ⟨c3, ec3, hc3⟩ : ∃ cx : Nat, 110 + 2 * x3.toNat = cx ∧ isPl cx := ⟨_, rfl, isPl_Wk (by omega)⟩
  replace hF := hF.to (rdb_e (z := c3) ec3)
  refine x_aldS C (N := 129) (i := 106) (q := x3) (t := 4) rfl (by decide) rfl (by omega) (by decide) dX10_go_34 (a := c3) ec3 ?_
  refine x_aload C.1 dX10_go_35 0 rfl ?_
  refine x_callVv C (As := [.ref (ad c2)]) (rest := []) c3 (xw_at (N := 129) (i := c3) (Nat.lt_of_succ_lt hc3.1) hc3.2.1) vc_X5 (s_copyP l D cy ad G V J Rr hI hJ hR c3 hc3 c2 hc2 (fun k => pr_Wk ec3 (by omega) k)) (l1 := []) (l2 := []) (List.append_nil _).symm (w2 := fun u : Nat → Nat → Int => XW cy ad u J Rr) (fun _ => List.append_nil _) rfl wm_yX5_copy wn_X5 wl_X10_71 wi_yX5_copy we_yX5_copy hd_yX5_copy rfl ⟨Nat.le_of_ble_eq_true rfl, Nat.le_of_ble_eq_true rfl⟩ (Nat.le_of_ble_eq_true rfl) ⟨Nat.le_of_ble_eq_true rfl, Nat.le_of_ble_eq_true rfl⟩ dX10_go_37 (fun V4 h4 => ?_)
  obtain ⟨hI4, hBc4, hFc4⟩ := h4
  replace hF := calUX_i hF hFc4 hBc4
  have hB4 := hB.tr hBc4 (fun i k h => (Or.inl (⟨by omega, by omega⟩)))
  refine x_aload_n C.1 dX10_go_40 1 rfl ?_
  obtain ⟨z5, ez5, bz5⟩ := hI4.rd 105 4 (x := 0) (y := 3) rfl
  replace hF := hF.to (rdb_e (z := z5) ez5)
  replace hF := hF.fc bz5
  refine x_getI C (N := 129) (i := 105) (by decide) rfl vc_X10 wx_X10 4 (by decide) wf_X10_38 rfl dX10_go_41 (a := z5) ez5 ?_
  refine x_istore C.1 (lv' := [(6, vI z5), (5, .ref (ad c2)), (0, .ref (ad 105)), (1, .ref (ad 39)), (2, .ref (ad 60)), (3, vI x3), (4, vI x4)]) dX10_go_44 (by decide) rfl ?_
  obtain ⟨bd182, hbd182, hF⟩ := lop2_ex hF
  refine x_loop (I := fun x : Int × (Nat → Nat → Int) => match x with | (z181, V182) => (-1 ≤ z181 ∧ z181 ≤ 3) ∧ XI G V182 ∧ FB (fun i k : Nat => (105 ≤ i ∧ i ≤ 123) ∨ (69 ≤ i ∧ i ≤ 71) ∨ (39 ≤ i ∧ i ≤ 57)) V V182 ∧ (∃ nf : Nat, (z181 - (-2)).toNat < nf ∧ Imp (lop2 nf bd182 z181 V182) (f_s_go4 x3 x4 V J Rr))) (μ := fun x : Int × (Nat → Nat → Int) => match x with | (z181, V182) => (z181 - (-2)).toNat) (wsf := fun x : Int × (Nat → Nat → Int) => match x with | (z181, V182) => XW cy ad V182 J Rr) (lvf := fun x : Int × (Nat → Nat → Int) => match x with | (z181, V182) => [(6, vI z181), (5, .ref (ad c2)), (0, .ref (ad 105)), (1, .ref (ad 39)), (2, .ref (ad 60)), (3, vI x3), (4, vI x4)]) (fun x hI182x ih182 => ?_) (z5, V4) ⟨⟨by omega, by omega⟩, hI4, hB4, ⟨_, (by omega), hF⟩⟩ rfl rfl
  obtain ⟨z181, V182⟩ := x
  obtain ⟨bz181, hI182, hB182, nf182, hn182, hF⟩ := hI182x
  try dsimp only
  obtain ⟨nf182, rfl⟩ : ∃ mm, nf182 = mm + 1 := ⟨nf182 - 1, (Nat.succ_pred_eq_of_pos (Nat.lt_of_le_of_lt (Nat.zero_le _) hn182)).symm⟩
  replace hF := hF.to (lop2_s hbd182)
  refine x_iload C.1 dX10_go_46 0 rfl ?_
  refine x_if_lt C.1 (tgt := 226) dX10_go_48 (by decide) (by omega) (fun hc271 => ?_) (fun hc271 => ?_)
  · replace hF := hF.to (if_pos hc271)
    exact x_vret (S := (Nat → Nat → Int)) (post := (fun u : Nat → Nat → Int => XI G u ∧ FB (fun i k : Nat => (105 ≤ i ∧ i ≤ 123) ∨ (69 ≤ i ∧ i ≤ 71) ∨ (39 ≤ i ∧ i ≤ 57)) V u ∧ (f_s_go4 x3 x4 V J Rr) u)) (w1 := (fun u : Nat → Nat → Int => XW cy ad u J Rr)) C hr rfl dX10_go_226 V182 rfl ⟨hI182, hB182, hF _ rfl⟩
  · replace hF := hF.to (if_neg hc271)
    refine x_iload C.1 dX10_go_51 0 rfl ?_
    refine x_aload_n C.1 dX10_go_53 2 rfl ?_
    obtain ⟨z272, ez272, bz272⟩ := hI182.rd 105 4 (x := 0) (y := 3) rfl
    replace hF := hF.to (rdb_e (z := z272) ez272)
    replace hF := hF.fc bz272
    refine x_getI C (N := 129) (i := 105) (by decide) rfl vc_X10 wx_X10 4 (by decide) wf_X10_38 rfl dX10_go_54 (a := z272) ez272 ?_
    refine x_icmp_ge C.1 (tgt := 64) dX10_go_57 (by decide) (by omega) (by omega) (fun hc273 => ?_) (fun hc273 => ?_)
    · replace hF := hF.to (if_pos hc273)
      refine x_iconst C.1 (n := 0) dX10_go_64 ?_
      refine x_istore C.1 (lv' := [(7, vI 0), (6, vI z181), (5, .ref (ad c2)), (0, .ref (ad 105)), (1, .ref (ad 39)), (2, .ref (ad 60)), (3, vI x3), (4, vI x4)]) dX10_go_65 (by decide) rfl ?_
      refine x_iload C.1 dX10_go_67 7 rfl ?_
      refine x_iload C.1 dX10_go_69 0 rfl ?_
      refine x_if_eq_t C.1 (tgt := 78) dX10_go_71 (by decide) (by decide) (by decide) ?_
      refine x_iconst C.1 (n := 0) dX10_go_78 ?_
      refine x_iadd C.1 (v := x4) (by omega) dX10_go_79 ?_
      refine x_istore C.1 (lv' := [(8, vI x4), (7, vI 0), (6, vI z181), (5, .ref (ad c2)), (0, .ref (ad 105)), (1, .ref (ad 39)), (2, .ref (ad 60)), (3, vI x3), (4, vI x4)]) dX10_go_80 (by decide) rfl ?_
      refine x_iload C.1 dX10_go_82 0 rfl ?_
      refine x_aload_n C.1 dX10_go_84 4 rfl ?_
      obtain ⟨z274, ez274, bz274⟩ := hI182.rd 105 6 (x := -2147483648) (y := 2147483647) rfl
      replace hF := hF.to (rdb_e (z := z274) ez274)
      refine x_getI C (N := 129) (i := 105) (by decide) rfl vc_X10 wx_X10 6 (by decide) wf_X10_47 rfl dX10_go_85 (a := z274) ez274 ?_
      obtain ⟨jf293, hjf293, hF⟩ := jn_ex hF
      refine x_join (I := fun V293 : (Nat → Nat → Int) => XI G V293 ∧ FB (fun i k : Nat => (105 ≤ i ∧ i ≤ 123) ∨ (69 ≤ i ∧ i ≤ 71) ∨ (39 ≤ i ∧ i ≤ 57)) V V293 ∧ Imp (jf293 V293) (f_s_go4 x3 x4 V J Rr)) (wsf := fun V293 : (Nat → Nat → Int) => XW cy ad V293 J Rr) (lvf := fun V293 : (Nat → Nat → Int) => [(8, vI x4), (7, vI 0), (6, vI z181), (5, .ref (ad c2)), (0, .ref (ad 105)), (1, .ref (ad 39)), (2, .ref (ad 60)), (3, vI x3), (4, vI x4)]) (stf := fun V293 : (Nat → Nat → Int) => []) 220 (fun V293 hI293x => ?_) (fun jn293 => ?_)
      · obtain ⟨hI293, hB293, hF⟩ := hI293x
        try dsimp only
        replace hF := hF.to (jn_s1 hjf293)
        refine x_iinc C.1 (v := z181 - 1) (lv' := [(6, vI (z181 - 1)), (8, vI x4), (7, vI 0), (5, .ref (ad c2)), (0, .ref (ad 105)), (1, .ref (ad 39)), (2, .ref (ad 60)), (3, vI x3), (4, vI x4)]) (by omega) dX10_go_220 2 rfl (by decide) rfl ?_
        refine x_goto C.1 (tgt := 46) dX10_go_223 (by decide) ?_
        refine x_lv [(6, vI (z181 - 1)), (5, .ref (ad c2)), (0, .ref (ad 105)), (1, .ref (ad 39)), (2, .ref (ad 60)), (3, vI x3), (4, vI x4)] [0, 3, 4, 5, 6, 7, 8] rfl ?_
        have hmu182 : ((z181 - 1) - (-2)).toNat < (z181 - (-2)).toNat := (by omega)
        exact ih182 (z181 - 1, V293) ⟨⟨by omega, by omega⟩, hI293, hB293, ⟨nf182, Nat.lt_of_lt_of_le hmu182 (Nat.le_of_lt_succ hn182), hF⟩⟩ hmu182
      · refine x_icmp_le C.1 (tgt := 94) dX10_go_88 (by decide) (by omega) (by omega) (fun hc294 => ?_) (fun hc294 => ?_)
        · replace hF := hF.to (if_pos hc294)
          refine x_iload C.1 dX10_go_94 1 rfl ?_
          refine x_if_eq_t C.1 (tgt := 109) dX10_go_96 (by decide) (by decide) (by decide) ?_
          refine x_iconst C.1 (n := 0) dX10_go_109 ?_
          refine x_istore C.1 (lv' := [(9, vI 0), (8, vI x4), (7, vI 0), (6, vI z181), (5, .ref (ad c2)), (0, .ref (ad 105)), (1, .ref (ad 39)), (2, .ref (ad 60)), (3, vI x3), (4, vI x4)]) dX10_go_110 (by decide) rfl ?_
          refine x_aload_n C.1 dX10_go_112 6 rfl ?_
          refine x_getA C (N := 129) (i := 39) (by omega) (xd_L (Or.inr (Or.inr rfl))) vc_X3 wx_X3 1 (by decide) wf_X10_75 (a := 41) rfl dX10_go_113 ?_
          refine x_iload C.1 dX10_go_116 0 rfl ?_
          obtain ⟨c295, ec295, hc295⟩ : ∃ cx : Nat, 39 + 11 + 1 * 0 = cx ∧ isPe cx := ⟨_, rfl, isPe_L (Or.inr (Or.inr rfl)) (by decide)⟩
          replace hF := hF.to (rdb_e (z := c295) ec295)
          refine x_aldS C (N := 129) (i := 41) (q := 0) (t := 5) rfl (by omega) (xd_Lb (Or.inr (Or.inr rfl))) (by decide) (by decide) dX10_go_118 (a := c295) ec295 ?_
          obtain ⟨z296, ez296, bz296⟩ := hI182.rd c295 3 (x := -2147483648) (y := 2147483647) (rg_E hc295 3)
          replace hF := hF.to (rdb_e (z := z296) ez296)
          refine x_getI C (N := 129) (i := c295) hc295.1 hc295.2 vc_X4 wx_X4 3 (by decide) wf_X10_79 rfl dX10_go_119 (a := z296) ez296 ?_
          refine x_istore C.1 (lv' := [(10, vI z296), (9, vI 0), (8, vI x4), (7, vI 0), (6, vI z181), (5, .ref (ad c2)), (0, .ref (ad 105)), (1, .ref (ad 39)), (2, .ref (ad 60)), (3, vI x3), (4, vI x4)]) dX10_go_122 (by decide) rfl ?_
          refine x_iload C.1 dX10_go_124 3 rfl ?_
          refine x_if_eq_t C.1 (tgt := 140) dX10_go_126 (by decide) (by decide) (by decide) ?_
          refine x_aload_n C.1 dX10_go_140 7 rfl ?_
          refine x_aload_n C.1 dX10_go_141 8 rfl ?_
          refine x_aload_n C.1 dX10_go_142 6 rfl ?_
          obtain ⟨z297, ez297, bz297⟩ := hI182.rd 105 5 (x := 0) (y := 3) rfl
          replace hF := hF.to (rdb_e (z := z297) ez297)
          replace hF := hF.fc bz297
          refine x_getI C (N := 129) (i := 105) (by decide) rfl vc_X10 wx_X10 5 (by decide) wf_X10_28 rfl dX10_go_143 (a := z297) ez297 ?_
          refine x_iconst C.1 (n := 0) dX10_go_146 ?_
          refine x_callVv C (As := [.ref (ad 60), vI z297, vI 0]) (rest := []) 39 (xw_at (N := 129) (i := 39) (by omega) (xd_L (Or.inr (Or.inr rfl)))) vc_X3 (s_endDay l D cy ad G V182 J Rr hI182 hJ hR 39 (Or.inr (Or.inr rfl)) z297 ⟨by omega, by omega⟩ 0 ⟨by decide, by decide⟩) (l1 := []) (l2 := []) (List.append_nil _).symm (w2 := fun u : Nat → Nat → Int => XW cy ad u J Rr) (fun _ => List.append_nil _) rfl wm_yX3_endDay wn_X3 wl_X10_88 wi_yX3_endDay we_yX3_endDay hd_yX3_endDay rfl ⟨Nat.le_of_ble_eq_true rfl, Nat.le_of_ble_eq_true rfl⟩ (Nat.le_of_ble_eq_true rfl) ⟨Nat.le_of_ble_eq_true rfl, Nat.le_of_ble_eq_true rfl⟩ dX10_go_147 (fun V298 h298 => ?_)
          obtain ⟨hI298, hBc298, hFc298⟩ := h298
          replace hF := calUX_i hF hFc298 hBc298
          have hB298 := hB182.tr hBc298 (fun i k h => (h.elim (fun h => (Or.inr (Or.inl h))) (fun h => (Or.inr (Or.inr (⟨by omega, by omega⟩))))))
          refine x_aload_n C.1 dX10_go_150 7 rfl ?_
          refine x_dup C.1 dX10_go_151 rfl ?_
          obtain ⟨z299, ez299, bz299⟩ := hI298.rd 39 3 (x := -2147483648) (y := 2147483647) (rg_L (Or.inr (Or.inr rfl)) _)
          replace hF := hF.to (rdb_e (z := z299) ez299)
          refine x_getI C (N := 129) (i := 39) (by omega) (xd_L (Or.inr (Or.inr rfl))) vc_X3 wx_X3 3 (by decide) wf_X10_92 rfl dX10_go_152 (a := z299) ez299 ?_
          refine x_iconst C.1 (n := 1) dX10_go_155 ?_
          refine x_iadd C.1 (v := z299 + 1) (by omega) dX10_go_156 ?_
          refine x_wrapg ?_
          intro z300 bz300 ew300
          replace hF := hF.to (rdb_e (z := z300) ew300.symm)
          refine x_putI C (N := 129) (i := 39) (by omega) (xd_L (Or.inr (Or.inr rfl))) vc_X3 wx_X3 3 (by decide) wf_X10_92 tyX3 tyX3_ok nmX3 rfl (tyX3_ok 3 (by decide)) rfl dX10_go_157 rfl rfl ?_
          refine x_gV ?_
          intro V301 hV301
          have hI301 : XI G V301 := hI298.up hV301 (rg_L (Or.inr (Or.inr rfl)) _) (by omega) (pr_L (Or.inr (Or.inr rfl)) _)
          have hB301 := hB298.up hV301 (Or.inr (Or.inr (⟨by decide, by decide⟩)))
          replace hF := hF.to (rdb_e (z := V301) hV301.symm)
          refine x_aload_n C.1 dX10_go_160 6 rfl ?_
          refine x_getA C (N := 129) (i := 105) (by decide) rfl vc_X10 wx_X10 2 (by decide) wf_X10_21 (a := 108) rfl dX10_go_161 ?_
          refine x_iload_n C.1 dX10_go_164 9 rfl ?_
          refine x_iload C.1 dX10_go_165 4 rfl ?_
          refine x_iast C (N := 129) (i := 108) (q := x3) (a := z181) (by decide) rfl (by omega) (by decide) dX10_go_167 ?_
          refine x_gV ?_
          intro V302 hV302
          have hI302 : XI G V302 := hI301.up hV302 rfl (by omega) rfl
          have hB302 := hB301.up hV302 (Or.inl (⟨by decide, by decide⟩))
          replace hF := hF.to (rdb_e (z := V302) hV302.symm)
          refine x_aload C.1 dX10_go_168 5 rfl ?_
          refine x_callVi C (As := []) (rest := []) c2 (xw_at (N := 129) (i := c2) (Nat.lt_of_succ_lt hc2.1) hc2.2.1) vc_X5 (s_isDeadP l D cy ad G V302 J Rr hI302 hJ hR c2 hc2) (l1 := []) (l2 := []) (List.append_nil _).symm (w2 := fun _ => XW cy ad V302 J Rr) (fun _ => List.append_nil _) rfl wm_yX5_isDead wn_X5 wl_X10_95 wi_yX5_isDead we_yX5_isDead hd_yX5_isDead rfl ⟨Nat.le_of_ble_eq_true rfl, Nat.le_of_ble_eq_true rfl⟩ (Nat.le_of_ble_eq_true rfl) ⟨Nat.le_of_ble_eq_true rfl, Nat.le_of_ble_eq_true rfl⟩ dX10_go_170 (fun z303 u303 bz303 h303 => ?_)
          obtain ⟨bq303, hFc303⟩ := h303
          replace hF := calR_i hF hFc303
          replace hF := hF.fc bq303
          obtain ⟨jf305, hjf305, hF⟩ := jn_ex hF
          refine x_join (I := fun V305 : (Nat → Nat → Int) => XI G V305 ∧ FB (fun i k : Nat => (105 ≤ i ∧ i ≤ 123) ∨ (69 ≤ i ∧ i ≤ 71) ∨ (39 ≤ i ∧ i ≤ 57)) V V305 ∧ Imp (jf305 V305) (f_s_go4 x3 x4 V J Rr)) (wsf := fun V305 : (Nat → Nat → Int) => XW cy ad V305 J Rr) (lvf := fun V305 : (Nat → Nat → Int) => [(10, vI z296), (9, vI 0), (8, vI x4), (7, vI 0), (6, vI z181), (5, .ref (ad c2)), (0, .ref (ad 105)), (1, .ref (ad 39)), (2, .ref (ad 60)), (3, vI x3), (4, vI x4)]) (stf := fun V305 : (Nat → Nat → Int) => []) 187 (fun V305 hI305x => ?_) (fun jn305 => ?_)
          · obtain ⟨hI305, hB305, hF⟩ := hI305x
            try dsimp only
            replace hF := hF.to (jn_s1 hjf305)
            refine x_aload_n C.1 dX10_go_187 7 rfl ?_
            refine x_dup C.1 dX10_go_188 rfl ?_
            obtain ⟨z306, ez306, bz306⟩ := hI305.rd 39 3 (x := -2147483648) (y := 2147483647) (rg_L (Or.inr (Or.inr rfl)) _)
            replace hF := hF.to (rdb_e (z := z306) ez306)
            refine x_getI C (N := 129) (i := 39) (by omega) (xd_L (Or.inr (Or.inr rfl))) vc_X3 wx_X3 3 (by decide) wf_X10_92 rfl dX10_go_189 (a := z306) ez306 ?_
            refine x_iconst C.1 (n := 1) dX10_go_192 ?_
            refine x_isub C.1 (v := z306 - 1) (by omega) dX10_go_193 ?_
            refine x_wrapg ?_
            intro z307 bz307 ew307
            replace hF := hF.to (rdb_e (z := z307) ew307.symm)
            refine x_putI C (N := 129) (i := 39) (by omega) (xd_L (Or.inr (Or.inr rfl))) vc_X3 wx_X3 3 (by decide) wf_X10_92 tyX3 tyX3_ok nmX3 rfl (tyX3_ok 3 (by decide)) rfl dX10_go_194 rfl rfl ?_
            refine x_gV ?_
            intro V308 hV308
            have hI308 : XI G V308 := hI305.up hV308 (rg_L (Or.inr (Or.inr rfl)) _) (by omega) (pr_L (Or.inr (Or.inr rfl)) _)
            have hB308 := hB305.up hV308 (Or.inr (Or.inr (⟨by decide, by decide⟩)))
            replace hF := hF.to (rdb_e (z := V308) hV308.symm)
            refine x_aload C.1 dX10_go_197 5 rfl ?_
            refine x_aload_n C.1 dX10_go_199 6 rfl ?_
            refine x_getA C (N := 129) (i := 105) (by decide) rfl vc_X10 wx_X10 0 (by decide) wf_X10_11 (a := 106) rfl dX10_go_200 ?_
            refine x_iload_n C.1 dX10_go_203 9 rfl ?_
            refine x_aldS C (N := 129) (i := 106) (q := x3) (t := 4) rfl (by decide) rfl (by omega) (by decide) dX10_go_204 (a := c3) ec3 ?_
            refine x_callVv C (As := [.ref (ad c3)]) (rest := []) c2 (xw_at (N := 129) (i := c2) (Nat.lt_of_succ_lt hc2.1) hc2.2.1) vc_X5 (s_copyP l D cy ad G V308 J Rr hI308 hJ hR c2 hc2 c3 hc3 (fun k => pr_39 ec2 (by omega) k)) (l1 := []) (l2 := []) (List.append_nil _).symm (w2 := fun u : Nat → Nat → Int => XW cy ad u J Rr) (fun _ => List.append_nil _) rfl wm_yX5_copy wn_X5 wl_X10_71 wi_yX5_copy we_yX5_copy hd_yX5_copy rfl ⟨Nat.le_of_ble_eq_true rfl, Nat.le_of_ble_eq_true rfl⟩ (Nat.le_of_ble_eq_true rfl) ⟨Nat.le_of_ble_eq_true rfl, Nat.le_of_ble_eq_true rfl⟩ dX10_go_205 (fun V309 h309 => ?_)
            obtain ⟨hI309, hBc309, hFc309⟩ := h309
            replace hF := calUX_i hF hFc309 hBc309
            have hB309 := hB308.tr hBc309 (fun i k h => (Or.inr (Or.inr (⟨by omega, by omega⟩))))
            refine x_aload_n C.1 dX10_go_208 7 rfl ?_
            refine x_getA C (N := 129) (i := 39) (by omega) (xd_L (Or.inr (Or.inr rfl))) vc_X3 wx_X3 1 (by decide) wf_X10_75 (a := 41) rfl dX10_go_209 ?_
            refine x_iload C.1 dX10_go_212 1 rfl ?_
            refine x_aldS C (N := 129) (i := 41) (q := 0) (t := 5) rfl (by omega) (xd_Lb (Or.inr (Or.inr rfl))) (by decide) (by decide) dX10_go_214 (a := c295) ec295 ?_
            refine x_iload C.1 dX10_go_215 0 rfl ?_
            refine x_putI C (N := 129) (i := c295) hc295.1 hc295.2 vc_X4 wx_X4 3 (by decide) wf_X10_79 tyX4 tyX4_ok nmX4 rfl (tyX4_ok 3 (by decide)) rfl dX10_go_217 rfl rfl ?_
            refine x_gV ?_
            intro V310 hV310
            have hI310 : XI G V310 := hI309.up hV310 (rg_E hc295 3) (by omega) (pr_E hc295 _)
            have hB310 := hB309.up hV310 (Or.inr (Or.inr (⟨by omega, by omega⟩)))
            replace hF := hF.to (rdb_e (z := V310) hV310.symm)
            refine x_lv [(8, vI x4), (7, vI 0), (6, vI z181), (5, .ref (ad c2)), (0, .ref (ad 105)), (1, .ref (ad 39)), (2, .ref (ad 60)), (3, vI x3), (4, vI x4)] [2, 3, 4, 5, 6, 7, 8, 9, 10] rfl ?_
            exact jn293 V310 ⟨hI310, hB310, hF⟩
          · refine x_if_ne C.1 (tgt := 187) dX10_go_173 (by decide) (by omega) (fun hc311 => ?_) (fun hc311 => ?_)
            · replace hF := hF.to (if_pos hc311)
              exact jn305 V302 ⟨hI302, hB302, hF⟩
            · replace hF := hF.to (if_neg (fun hh => hh hc311))
              refine x_aload_n C.1 dX10_go_176 6 rfl ?_
              refine x_aload_n C.1 dX10_go_177 7 rfl ?_
              refine x_aload_n C.1 dX10_go_178 8 rfl ?_
              refine x_iload_n C.1 dX10_go_179 9 rfl ?_
              refine x_iconst C.1 (n := 1) dX10_go_180 ?_
              refine x_iadd C.1 (v := x3 + 1) (by omega) dX10_go_181 ?_
              refine x_iload C.1 dX10_go_182 2 rfl ?_
              refine x_callSv C (As := [.ref (ad 105), .ref (ad 39), .ref (ad 60), vI (x3 + 1), vI x4]) (rest := []) (s_go5 l D cy ad G V302 J Rr hI302 hJ hR (x3 + 1) ⟨by omega, by omega⟩ x4 ⟨by omega, by omega⟩) (l1 := []) (l2 := []) (List.append_nil _).symm (w2 := fun u : Nat → Nat → Int => XW cy ad u J Rr) (fun _ => List.append_nil _) rfl wm_yX10_go wn_X10 wl_X10_50 wi_yX10_go hd_yX10_go rfl ⟨Nat.le_of_ble_eq_true rfl, Nat.le_of_ble_eq_true rfl⟩ (Nat.le_of_ble_eq_true rfl) ⟨Nat.le_of_ble_eq_true rfl, Nat.le_of_ble_eq_true rfl⟩ dX10_go_184 (fun V312 h312 => ?_)
              obtain ⟨hI312, hBc312, hFc312⟩ := h312
              replace hF := calUX_i hF hFc312 hBc312
              have hB312 := hB302.tr hBc312 (fun i k h => (h.elim (fun h => (Or.inl h)) (fun h => (h.elim (fun h => (Or.inr (Or.inl h))) (fun h => (Or.inr (Or.inr (h))))))))
              exact jn305 V312 ⟨hI312, hB312, hF⟩
        · replace hF := hF.to (if_neg hc294)
          refine x_goto C.1 (tgt := 220) dX10_go_91 (by decide) ?_
          exact jn293 V182 ⟨hI182, hB182, hF⟩
    · replace hF := hF.to (if_neg hc273)
      refine x_iconst C.1 (n := 1) dX10_go_60 ?_
      refine x_goto C.1 (tgt := 65) dX10_go_61 (by decide) ?_
      refine x_istore C.1 (lv' := [(7, vI 1), (6, vI z181), (5, .ref (ad c2)), (0, .ref (ad 105)), (1, .ref (ad 39)), (2, .ref (ad 60)), (3, vI x3), (4, vI x4)]) dX10_go_65 (by decide) rfl ?_
      refine x_iload C.1 dX10_go_67 7 rfl ?_
      refine x_iload C.1 dX10_go_69 0 rfl ?_
      refine x_if_eq_f C.1 (tgt := 78) dX10_go_71 (by decide) (by decide) (by decide) ?_
      refine x_iconst C.1 (n := 1) dX10_go_74 ?_
      refine x_goto C.1 (tgt := 79) dX10_go_75 (by decide) ?_
      refine x_iadd C.1 (v := x4 + 1) (by omega) dX10_go_79 ?_
      refine x_wrapg ?_
      intro z313 bz313 ew313
      replace hF := hF.to (rdb_e (z := z313) ew313.symm)
      refine x_istore C.1 (lv' := [(8, vI z313), (7, vI 1), (6, vI z181), (5, .ref (ad c2)), (0, .ref (ad 105)), (1, .ref (ad 39)), (2, .ref (ad 60)), (3, vI x3), (4, vI x4)]) dX10_go_80 (by decide) rfl ?_
      refine x_iload C.1 dX10_go_82 0 rfl ?_
      refine x_aload_n C.1 dX10_go_84 4 rfl ?_
      obtain ⟨z314, ez314, bz314⟩ := hI182.rd 105 6 (x := -2147483648) (y := 2147483647) rfl
      replace hF := hF.to (rdb_e (z := z314) ez314)
      refine x_getI C (N := 129) (i := 105) (by decide) rfl vc_X10 wx_X10 6 (by decide) wf_X10_47 rfl dX10_go_85 (a := z314) ez314 ?_
      obtain ⟨jf336, hjf336, hF⟩ := jn_ex hF
      refine x_join (I := fun V336 : (Nat → Nat → Int) => XI G V336 ∧ FB (fun i k : Nat => (105 ≤ i ∧ i ≤ 123) ∨ (69 ≤ i ∧ i ≤ 71) ∨ (39 ≤ i ∧ i ≤ 57)) V V336 ∧ Imp (jf336 V336) (f_s_go4 x3 x4 V J Rr)) (wsf := fun V336 : (Nat → Nat → Int) => XW cy ad V336 J Rr) (lvf := fun V336 : (Nat → Nat → Int) => [(8, vI z313), (7, vI 1), (6, vI z181), (5, .ref (ad c2)), (0, .ref (ad 105)), (1, .ref (ad 39)), (2, .ref (ad 60)), (3, vI x3), (4, vI x4)]) (stf := fun V336 : (Nat → Nat → Int) => []) 220 (fun V336 hI336x => ?_) (fun jn336 => ?_)
      · obtain ⟨hI336, hB336, hF⟩ := hI336x
        try dsimp only
        replace hF := hF.to (jn_s1 hjf336)
        refine x_iinc C.1 (v := z181 - 1) (lv' := [(6, vI (z181 - 1)), (8, vI z313), (7, vI 1), (5, .ref (ad c2)), (0, .ref (ad 105)), (1, .ref (ad 39)), (2, .ref (ad 60)), (3, vI x3), (4, vI x4)]) (by omega) dX10_go_220 2 rfl (by decide) rfl ?_
        refine x_goto C.1 (tgt := 46) dX10_go_223 (by decide) ?_
        refine x_lv [(6, vI (z181 - 1)), (5, .ref (ad c2)), (0, .ref (ad 105)), (1, .ref (ad 39)), (2, .ref (ad 60)), (3, vI x3), (4, vI x4)] [0, 3, 4, 5, 6, 7, 8] rfl ?_
        have hmu182 : ((z181 - 1) - (-2)).toNat < (z181 - (-2)).toNat := (by omega)
        exact ih182 (z181 - 1, V336) ⟨⟨by omega, by omega⟩, hI336, hB336, ⟨nf182, Nat.lt_of_lt_of_le hmu182 (Nat.le_of_lt_succ hn182), hF⟩⟩ hmu182
      · refine x_icmp_le C.1 (tgt := 94) dX10_go_88 (by decide) (by omega) (by omega) (fun hc337 => ?_) (fun hc337 => ?_)
        · replace hF := hF.to (if_pos hc337)
          refine x_iload C.1 dX10_go_94 1 rfl ?_
          refine x_if_eq_f C.1 (tgt := 109) dX10_go_96 (by decide) (by decide) (by decide) ?_
          refine x_aload_n C.1 dX10_go_99 4 rfl ?_
          refine x_getA C (N := 129) (i := 105) (by decide) rfl vc_X10 wx_X10 1 (by decide) wf_X10_17 (a := 107) rfl dX10_go_100 ?_
          refine x_iload C.1 dX10_go_103 2 rfl ?_
          obtain ⟨z338, ez338, bz338⟩ := hI182.rd 107 z181.toNat (x := 0) (y := 7) rfl
          replace hF := hF.to (rdb_e (z := z338) ez338)
          replace hF := hF.fc bz338
          refine x_iald C (N := 129) (i := 107) (q := z181) (by decide) rfl (by omega) (by decide) dX10_go_105 (a := z338) ez338 ?_
          refine x_goto C.1 (tgt := 110) dX10_go_106 (by decide) ?_
          refine x_istore C.1 (lv' := [(9, vI z338), (8, vI z313), (7, vI 1), (6, vI z181), (5, .ref (ad c2)), (0, .ref (ad 105)), (1, .ref (ad 39)), (2, .ref (ad 60)), (3, vI x3), (4, vI x4)]) dX10_go_110 (by decide) rfl ?_
          refine x_aload_n C.1 dX10_go_112 6 rfl ?_
          refine x_getA C (N := 129) (i := 39) (by omega) (xd_L (Or.inr (Or.inr rfl))) vc_X3 wx_X3 1 (by decide) wf_X10_75 (a := 41) rfl dX10_go_113 ?_
          refine x_iload C.1 dX10_go_116 0 rfl ?_
          obtain ⟨c339, ec339, hc339⟩ : ∃ cx : Nat, 39 + 11 + 1 * z338.toNat = cx ∧ isPe cx := ⟨_, rfl, isPe_L (Or.inr (Or.inr rfl)) (by omega)⟩
          replace hF := hF.to (rdb_e (z := c339) ec339)
          refine x_aldS C (N := 129) (i := 41) (q := z338) (t := 5) rfl (by omega) (xd_Lb (Or.inr (Or.inr rfl))) (by omega) (by decide) dX10_go_118 (a := c339) ec339 ?_
          obtain ⟨z340, ez340, bz340⟩ := hI182.rd c339 3 (x := -2147483648) (y := 2147483647) (rg_E hc339 3)
          replace hF := hF.to (rdb_e (z := z340) ez340)
          refine x_getI C (N := 129) (i := c339) hc339.1 hc339.2 vc_X4 wx_X4 3 (by decide) wf_X10_79 rfl dX10_go_119 (a := z340) ez340 ?_
          refine x_istore C.1 (lv' := [(10, vI z340), (9, vI z338), (8, vI z313), (7, vI 1), (6, vI z181), (5, .ref (ad c2)), (0, .ref (ad 105)), (1, .ref (ad 39)), (2, .ref (ad 60)), (3, vI x3), (4, vI x4)]) dX10_go_122 (by decide) rfl ?_
          refine x_iload C.1 dX10_go_124 3 rfl ?_
          refine x_if_eq_f C.1 (tgt := 140) dX10_go_126 (by decide) (by decide) (by decide) ?_
          refine x_aload_n C.1 dX10_go_129 7 rfl ?_
          refine x_aload_n C.1 dX10_go_130 8 rfl ?_
          refine x_iload C.1 dX10_go_131 1 rfl ?_
          refine x_aload_n C.1 dX10_go_133 6 rfl ?_
          obtain ⟨z341, ez341, bz341⟩ := hI182.rd 105 5 (x := 0) (y := 3) rfl
          replace hF := hF.to (rdb_e (z := z341) ez341)
          replace hF := hF.fc bz341
          refine x_getI C (N := 129) (i := 105) (by decide) rfl vc_X10 wx_X10 5 (by decide) wf_X10_28 rfl dX10_go_134 (a := z341) ez341 ?_
          refine x_callVv C (As := [.ref (ad 60), vI z338, vI z341]) (rest := []) 39 (xw_at (N := 129) (i := 39) (by omega) (xd_L (Or.inr (Or.inr rfl)))) vc_X3 (s_giveTo l D cy ad G V182 J Rr hI182 hJ hR 39 (Or.inr (Or.inr rfl)) z338 ⟨by omega, by omega⟩ z341 ⟨by omega, by omega⟩) (l1 := []) (l2 := []) (List.append_nil _).symm (w2 := fun u : Nat → Nat → Int => XW cy ad u J Rr) (fun _ => List.append_nil _) rfl wm_yX3_giveTo wn_X3 wl_X10_84 wi_yX3_giveTo we_yX3_giveTo hd_yX3_giveTo rfl ⟨Nat.le_of_ble_eq_true rfl, Nat.le_of_ble_eq_true rfl⟩ (Nat.le_of_ble_eq_true rfl) ⟨Nat.le_of_ble_eq_true rfl, Nat.le_of_ble_eq_true rfl⟩ dX10_go_137 (fun V342 h342 => ?_)
          obtain ⟨hI342, hBc342, hFc342⟩ := h342
          replace hF := calUX_i hF hFc342 hBc342
          have hB342 := hB182.tr hBc342 (fun i k h => (h.elim (fun h => (Or.inr (Or.inl h))) (fun h => (Or.inr (Or.inr (⟨by omega, by omega⟩))))))
          refine x_aload_n C.1 dX10_go_140 7 rfl ?_
          refine x_aload_n C.1 dX10_go_141 8 rfl ?_
          refine x_aload_n C.1 dX10_go_142 6 rfl ?_
          obtain ⟨z343, ez343, bz343⟩ := hI342.rd 105 5 (x := 0) (y := 3) rfl
          replace hF := hF.to (rdb_e (z := z343) ez343)
          replace hF := hF.fc bz343
          refine x_getI C (N := 129) (i := 105) (by decide) rfl vc_X10 wx_X10 5 (by decide) wf_X10_28 rfl dX10_go_143 (a := z343) ez343 ?_
          refine x_iconst C.1 (n := 0) dX10_go_146 ?_
          refine x_callVv C (As := [.ref (ad 60), vI z343, vI 0]) (rest := []) 39 (xw_at (N := 129) (i := 39) (by omega) (xd_L (Or.inr (Or.inr rfl)))) vc_X3 (s_endDay l D cy ad G V342 J Rr hI342 hJ hR 39 (Or.inr (Or.inr rfl)) z343 ⟨by omega, by omega⟩ 0 ⟨by decide, by decide⟩) (l1 := []) (l2 := []) (List.append_nil _).symm (w2 := fun u : Nat → Nat → Int => XW cy ad u J Rr) (fun _ => List.append_nil _) rfl wm_yX3_endDay wn_X3 wl_X10_88 wi_yX3_endDay we_yX3_endDay hd_yX3_endDay rfl ⟨Nat.le_of_ble_eq_true rfl, Nat.le_of_ble_eq_true rfl⟩ (Nat.le_of_ble_eq_true rfl) ⟨Nat.le_of_ble_eq_true rfl, Nat.le_of_ble_eq_true rfl⟩ dX10_go_147 (fun V344 h344 => ?_)
          obtain ⟨hI344, hBc344, hFc344⟩ := h344
          replace hF := calUX_i hF hFc344 hBc344
          have hB344 := hB342.tr hBc344 (fun i k h => (h.elim (fun h => (Or.inr (Or.inl h))) (fun h => (Or.inr (Or.inr (⟨by omega, by omega⟩))))))
          refine x_aload_n C.1 dX10_go_150 7 rfl ?_
          refine x_dup C.1 dX10_go_151 rfl ?_
          obtain ⟨z345, ez345, bz345⟩ := hI344.rd 39 3 (x := -2147483648) (y := 2147483647) (rg_L (Or.inr (Or.inr rfl)) _)
          replace hF := hF.to (rdb_e (z := z345) ez345)
          refine x_getI C (N := 129) (i := 39) (by omega) (xd_L (Or.inr (Or.inr rfl))) vc_X3 wx_X3 3 (by decide) wf_X10_92 rfl dX10_go_152 (a := z345) ez345 ?_
          refine x_iconst C.1 (n := 1) dX10_go_155 ?_
          refine x_iadd C.1 (v := z345 + 1) (by omega) dX10_go_156 ?_
          refine x_wrapg ?_
          intro z346 bz346 ew346
          replace hF := hF.to (rdb_e (z := z346) ew346.symm)
          refine x_putI C (N := 129) (i := 39) (by omega) (xd_L (Or.inr (Or.inr rfl))) vc_X3 wx_X3 3 (by decide) wf_X10_92 tyX3 tyX3_ok nmX3 rfl (tyX3_ok 3 (by decide)) rfl dX10_go_157 rfl rfl ?_
          refine x_gV ?_
          intro V347 hV347
          have hI347 : XI G V347 := hI344.up hV347 (rg_L (Or.inr (Or.inr rfl)) _) (by omega) (pr_L (Or.inr (Or.inr rfl)) _)
          have hB347 := hB344.up hV347 (Or.inr (Or.inr (⟨by decide, by decide⟩)))
          replace hF := hF.to (rdb_e (z := V347) hV347.symm)
          refine x_aload_n C.1 dX10_go_160 6 rfl ?_
          refine x_getA C (N := 129) (i := 105) (by decide) rfl vc_X10 wx_X10 2 (by decide) wf_X10_21 (a := 108) rfl dX10_go_161 ?_
          refine x_iload_n C.1 dX10_go_164 9 rfl ?_
          refine x_iload C.1 dX10_go_165 4 rfl ?_
          refine x_iast C (N := 129) (i := 108) (q := x3) (a := z181) (by decide) rfl (by omega) (by decide) dX10_go_167 ?_
          refine x_gV ?_
          intro V348 hV348
          have hI348 : XI G V348 := hI347.up hV348 rfl (by omega) rfl
          have hB348 := hB347.up hV348 (Or.inl (⟨by decide, by decide⟩))
          replace hF := hF.to (rdb_e (z := V348) hV348.symm)
          refine x_aload C.1 dX10_go_168 5 rfl ?_
          refine x_callVi C (As := []) (rest := []) c2 (xw_at (N := 129) (i := c2) (Nat.lt_of_succ_lt hc2.1) hc2.2.1) vc_X5 (s_isDeadP l D cy ad G V348 J Rr hI348 hJ hR c2 hc2) (l1 := []) (l2 := []) (List.append_nil _).symm (w2 := fun _ => XW cy ad V348 J Rr) (fun _ => List.append_nil _) rfl wm_yX5_isDead wn_X5 wl_X10_95 wi_yX5_isDead we_yX5_isDead hd_yX5_isDead rfl ⟨Nat.le_of_ble_eq_true rfl, Nat.le_of_ble_eq_true rfl⟩ (Nat.le_of_ble_eq_true rfl) ⟨Nat.le_of_ble_eq_true rfl, Nat.le_of_ble_eq_true rfl⟩ dX10_go_170 (fun z349 u349 bz349 h349 => ?_)
          obtain ⟨bq349, hFc349⟩ := h349
          replace hF := calR_i hF hFc349
          replace hF := hF.fc bq349
          obtain ⟨jf351, hjf351, hF⟩ := jn_ex hF
          refine x_join (I := fun V351 : (Nat → Nat → Int) => XI G V351 ∧ FB (fun i k : Nat => (105 ≤ i ∧ i ≤ 123) ∨ (69 ≤ i ∧ i ≤ 71) ∨ (39 ≤ i ∧ i ≤ 57)) V V351 ∧ Imp (jf351 V351) (f_s_go4 x3 x4 V J Rr)) (wsf := fun V351 : (Nat → Nat → Int) => XW cy ad V351 J Rr) (lvf := fun V351 : (Nat → Nat → Int) => [(10, vI z340), (9, vI z338), (8, vI z313), (7, vI 1), (6, vI z181), (5, .ref (ad c2)), (0, .ref (ad 105)), (1, .ref (ad 39)), (2, .ref (ad 60)), (3, vI x3), (4, vI x4)]) (stf := fun V351 : (Nat → Nat → Int) => []) 187 (fun V351 hI351x => ?_) (fun jn351 => ?_)
          · obtain ⟨hI351, hB351, hF⟩ := hI351x
            try dsimp only
            replace hF := hF.to (jn_s1 hjf351)
            refine x_aload_n C.1 dX10_go_187 7 rfl ?_
            refine x_dup C.1 dX10_go_188 rfl ?_
            obtain ⟨z352, ez352, bz352⟩ := hI351.rd 39 3 (x := -2147483648) (y := 2147483647) (rg_L (Or.inr (Or.inr rfl)) _)
            replace hF := hF.to (rdb_e (z := z352) ez352)
            refine x_getI C (N := 129) (i := 39) (by omega) (xd_L (Or.inr (Or.inr rfl))) vc_X3 wx_X3 3 (by decide) wf_X10_92 rfl dX10_go_189 (a := z352) ez352 ?_
            refine x_iconst C.1 (n := 1) dX10_go_192 ?_
            refine x_isub C.1 (v := z352 - 1) (by omega) dX10_go_193 ?_
            refine x_wrapg ?_
            intro z353 bz353 ew353
            replace hF := hF.to (rdb_e (z := z353) ew353.symm)
            refine x_putI C (N := 129) (i := 39) (by omega) (xd_L (Or.inr (Or.inr rfl))) vc_X3 wx_X3 3 (by decide) wf_X10_92 tyX3 tyX3_ok nmX3 rfl (tyX3_ok 3 (by decide)) rfl dX10_go_194 rfl rfl ?_
            refine x_gV ?_
            intro V354 hV354
            have hI354 : XI G V354 := hI351.up hV354 (rg_L (Or.inr (Or.inr rfl)) _) (by omega) (pr_L (Or.inr (Or.inr rfl)) _)
            have hB354 := hB351.up hV354 (Or.inr (Or.inr (⟨by decide, by decide⟩)))
            replace hF := hF.to (rdb_e (z := V354) hV354.symm)
            refine x_aload C.1 dX10_go_197 5 rfl ?_
            refine x_aload_n C.1 dX10_go_199 6 rfl ?_
            refine x_getA C (N := 129) (i := 105) (by decide) rfl vc_X10 wx_X10 0 (by decide) wf_X10_11 (a := 106) rfl dX10_go_200 ?_
            refine x_iload_n C.1 dX10_go_203 9 rfl ?_
            refine x_aldS C (N := 129) (i := 106) (q := x3) (t := 4) rfl (by decide) rfl (by omega) (by decide) dX10_go_204 (a := c3) ec3 ?_
            refine x_callVv C (As := [.ref (ad c3)]) (rest := []) c2 (xw_at (N := 129) (i := c2) (Nat.lt_of_succ_lt hc2.1) hc2.2.1) vc_X5 (s_copyP l D cy ad G V354 J Rr hI354 hJ hR c2 hc2 c3 hc3 (fun k => pr_39 ec2 (by omega) k)) (l1 := []) (l2 := []) (List.append_nil _).symm (w2 := fun u : Nat → Nat → Int => XW cy ad u J Rr) (fun _ => List.append_nil _) rfl wm_yX5_copy wn_X5 wl_X10_71 wi_yX5_copy we_yX5_copy hd_yX5_copy rfl ⟨Nat.le_of_ble_eq_true rfl, Nat.le_of_ble_eq_true rfl⟩ (Nat.le_of_ble_eq_true rfl) ⟨Nat.le_of_ble_eq_true rfl, Nat.le_of_ble_eq_true rfl⟩ dX10_go_205 (fun V355 h355 => ?_)
            obtain ⟨hI355, hBc355, hFc355⟩ := h355
            replace hF := calUX_i hF hFc355 hBc355
            have hB355 := hB354.tr hBc355 (fun i k h => (Or.inr (Or.inr (⟨by omega, by omega⟩))))
            refine x_aload_n C.1 dX10_go_208 7 rfl ?_
            refine x_getA C (N := 129) (i := 39) (by omega) (xd_L (Or.inr (Or.inr rfl))) vc_X3 wx_X3 1 (by decide) wf_X10_75 (a := 41) rfl dX10_go_209 ?_
            refine x_iload C.1 dX10_go_212 1 rfl ?_
            refine x_aldS C (N := 129) (i := 41) (q := z338) (t := 5) rfl (by omega) (xd_Lb (Or.inr (Or.inr rfl))) (by omega) (by decide) dX10_go_214 (a := c339) ec339 ?_
            refine x_iload C.1 dX10_go_215 0 rfl ?_
            refine x_putI C (N := 129) (i := c339) hc339.1 hc339.2 vc_X4 wx_X4 3 (by decide) wf_X10_79 tyX4 tyX4_ok nmX4 rfl (tyX4_ok 3 (by decide)) rfl dX10_go_217 rfl rfl ?_
            refine x_gV ?_
            intro V356 hV356
            have hI356 : XI G V356 := hI355.up hV356 (rg_E hc339 3) (by omega) (pr_E hc339 _)
            have hB356 := hB355.up hV356 (Or.inr (Or.inr (⟨by omega, by omega⟩)))
            replace hF := hF.to (rdb_e (z := V356) hV356.symm)
            refine x_lv [(8, vI z313), (7, vI 1), (6, vI z181), (5, .ref (ad c2)), (0, .ref (ad 105)), (1, .ref (ad 39)), (2, .ref (ad 60)), (3, vI x3), (4, vI x4)] [2, 3, 4, 5, 6, 7, 8, 9, 10] rfl ?_
            exact jn336 V356 ⟨hI356, hB356, hF⟩
          · refine x_if_ne C.1 (tgt := 187) dX10_go_173 (by decide) (by omega) (fun hc357 => ?_) (fun hc357 => ?_)
            · replace hF := hF.to (if_pos hc357)
              exact jn351 V348 ⟨hI348, hB348, hF⟩
            · replace hF := hF.to (if_neg (fun hh => hh hc357))
              refine x_aload_n C.1 dX10_go_176 6 rfl ?_
              refine x_aload_n C.1 dX10_go_177 7 rfl ?_
              refine x_aload_n C.1 dX10_go_178 8 rfl ?_
              refine x_iload_n C.1 dX10_go_179 9 rfl ?_
              refine x_iconst C.1 (n := 1) dX10_go_180 ?_
              refine x_iadd C.1 (v := x3 + 1) (by omega) dX10_go_181 ?_
              refine x_iload C.1 dX10_go_182 2 rfl ?_
              refine x_callSv C (As := [.ref (ad 105), .ref (ad 39), .ref (ad 60), vI (x3 + 1), vI z313]) (rest := []) (s_go5 l D cy ad G V348 J Rr hI348 hJ hR (x3 + 1) ⟨by omega, by omega⟩ z313 ⟨by omega, by omega⟩) (l1 := []) (l2 := []) (List.append_nil _).symm (w2 := fun u : Nat → Nat → Int => XW cy ad u J Rr) (fun _ => List.append_nil _) rfl wm_yX10_go wn_X10 wl_X10_50 wi_yX10_go hd_yX10_go rfl ⟨Nat.le_of_ble_eq_true rfl, Nat.le_of_ble_eq_true rfl⟩ (Nat.le_of_ble_eq_true rfl) ⟨Nat.le_of_ble_eq_true rfl, Nat.le_of_ble_eq_true rfl⟩ dX10_go_184 (fun V358 h358 => ?_)
              obtain ⟨hI358, hBc358, hFc358⟩ := h358
              replace hF := calUX_i hF hFc358 hBc358
              have hB358 := hB348.tr hBc358 (fun i k h => (h.elim (fun h => (Or.inl h)) (fun h => (h.elim (fun h => (Or.inr (Or.inl h))) (fun h => (Or.inr (Or.inr (h))))))))
              exact jn351 V358 ⟨hI358, hB358, hF⟩
        · replace hF := hF.to (if_neg hc337)
          refine x_goto C.1 (tgt := 220) dX10_go_91 (by decide) ?_
          exact jn336 V182 ⟨hI182, hB182, hF⟩
set_option maxRecDepth 100000 in
def f_s_go3 (x3 : Int) (x4 : Int) (V : Nat → Nat → Int) (J : Nat → Nat → Int) (Rr : Nat → Nat → Nat) : (Nat → Nat → Int) → Prop :=
  rdb (V 105 5) fun z1 => fct (0 ≤ z1 ∧ z1 ≤ 3) <| rdb (39 + 3 + 2 * z1.toNat) fun c2 => rdb (110 + 2 * x3.toNat) fun c3 => calUX (fun i k : Nat => (c3 ≤ i ∧ i ≤ c3 + 1)) V (f_s_copyP c3 c2 V J Rr) fun V4 => rdb (V4 105 4) fun z5 => fct (0 ≤ z5 ∧ z5 ≤ 3) <| lop2 (6) (fun rc182 (z181 : Int) (V182 : Nat → Nat → Int) => (if z181 < 0 then rtn V182 else rdb (V182 105 4) fun z272 => fct (0 ≤ z272 ∧ z272 ≤ 3) <| (if z272 ≤ z181 then rdb (V182 105 6) fun z274 => jnk (fun (V293 : Nat → Nat → Int) => rc182 (z181 - 1) V293) fun jf293 => (if x4 ≤ z274 then rdb (39 + 11 + 1 * 0) fun c295 => rdb (V182 c295 3) fun z296 => rdb (V182 105 5) fun z297 => fct (0 ≤ z297 ∧ z297 ≤ 3) <| calUX (fun i k : Nat => (69 ≤ i ∧ i ≤ 71) ∨ (39 ≤ i ∧ i ≤ 39 + 18)) V182 (f_s_endDay 39 z297 0 V182 J Rr) fun V298 => rdb (V298 39 3) fun z299 => rdb (wr (z299 + 1)) fun z300 => rdb (up2 V298 39 3 z300) fun V301 => rdb (up2 V301 108 x3.toNat z181) fun V302 => calR (f_s_isDeadP c2 V302 J Rr) fun z303 => fct (0 ≤ z303 ∧ z303 ≤ 1) <| jnk (fun (V305 : Nat → Nat → Int) => rdb (V305 39 3) fun z306 => rdb (wr (z306 - 1)) fun z307 => rdb (up2 V305 39 3 z307) fun V308 => calUX (fun i k : Nat => (c2 ≤ i ∧ i ≤ c2 + 1)) V308 (f_s_copyP c2 c3 V308 J Rr) fun V309 => rdb (up2 V309 c295 3 z296) fun V310 => jf293 V310) fun jf305 => (if ¬ z303 = 0 then jf305 V302 else calUX (fun i k : Nat => (105 ≤ i ∧ i ≤ 123) ∨ (69 ≤ i ∧ i ≤ 71) ∨ (39 ≤ i ∧ i ≤ 57)) V302 (f_s_go4 (x3 + 1) x4 V302 J Rr) fun V312 => jf305 V312) else jf293 V182) else rdb (wr (x4 + 1)) fun z313 => rdb (V182 105 6) fun z314 => jnk (fun (V336 : Nat → Nat → Int) => rc182 (z181 - 1) V336) fun jf336 => (if z313 ≤ z314 then rdb (V182 107 z181.toNat) fun z338 => fct (0 ≤ z338 ∧ z338 ≤ 7) <| rdb (39 + 11 + 1 * z338.toNat) fun c339 => rdb (V182 c339 3) fun z340 => rdb (V182 105 5) fun z341 => fct (0 ≤ z341 ∧ z341 ≤ 3) <| calUX (fun i k : Nat => (69 ≤ i ∧ i ≤ 71) ∨ (39 ≤ i ∧ i ≤ 39 + 18)) V182 (f_s_giveTo 39 z338 z341 V182 J Rr) fun V342 => rdb (V342 105 5) fun z343 => fct (0 ≤ z343 ∧ z343 ≤ 3) <| calUX (fun i k : Nat => (69 ≤ i ∧ i ≤ 71) ∨ (39 ≤ i ∧ i ≤ 39 + 18)) V342 (f_s_endDay 39 z343 0 V342 J Rr) fun V344 => rdb (V344 39 3) fun z345 => rdb (wr (z345 + 1)) fun z346 => rdb (up2 V344 39 3 z346) fun V347 => rdb (up2 V347 108 x3.toNat z181) fun V348 => calR (f_s_isDeadP c2 V348 J Rr) fun z349 => fct (0 ≤ z349 ∧ z349 ≤ 1) <| jnk (fun (V351 : Nat → Nat → Int) => rdb (V351 39 3) fun z352 => rdb (wr (z352 - 1)) fun z353 => rdb (up2 V351 39 3 z353) fun V354 => calUX (fun i k : Nat => (c2 ≤ i ∧ i ≤ c2 + 1)) V354 (f_s_copyP c2 c3 V354 J Rr) fun V355 => rdb (up2 V355 c339 3 z340) fun V356 => jf336 V356) fun jf351 => (if ¬ z349 = 0 then jf351 V348 else calUX (fun i k : Nat => (105 ≤ i ∧ i ≤ 123) ∨ (69 ≤ i ∧ i ≤ 71) ∨ (39 ≤ i ∧ i ≤ 57)) V348 (f_s_go4 (x3 + 1) z313 V348 J Rr) fun V358 => jf351 V358) else jf336 V182)))) z5 V4
set_option maxHeartbeats 8000000 in
set_option maxRecDepth 100000 in
theorem s_go3 (l : Launch) (D : va_G) (cy : Nat → ClassId) (ad : Nat → Nat) (G : Nat → Nat → Int) (V J : Nat → Nat → Int) (Rr : Nat → Nat → Nat) (hI : XI G V) (hJ : VJ J) (hR : XR Rr) (x3 : Int) (bx3 : 3 ≤ x3 ∧ x3 ≤ 3) (x4 : Int) (bx4 : -2147483648 ≤ x4 ∧ x4 ≤ 2147483647) : xMv l D (xTY cy) yX10_go cX10_go 11 none 8 215 0 0 [.ref (ad 105), .ref (ad 39), .ref (ad 60), vI x3, vI x4] (XW cy ad V J Rr) (fun u : Nat → Nat → Int => XW cy ad u J Rr) (fun u : Nat → Nat → Int => XI G u ∧ FB (fun i k : Nat => (105 ≤ i ∧ i ≤ 123) ∨ (69 ≤ i ∧ i ≤ 71) ∨ (39 ≤ i ∧ i ≤ 57)) V u ∧ (f_s_go3 x3 x4 V J Rr) u) := by
  refine xMv.mk (lv0 := [(0, .ref (ad 105)), (1, .ref (ad 39)), (2, .ref (ad 60)), (3, vI x3), (4, vI x4)]) (by decide) rfl (Nat.le_of_ble_eq_true rfl) (fun p e s m below meth c A C hr hnm hAe => ?_)
  have C : xC2 p s m _ meth c D A s.heap 11 cX10_go RX10 (xTY cy) := C
  have hB : FB (fun i k : Nat => (105 ≤ i ∧ i ≤ 123) ∨ (69 ≤ i ∧ i ≤ 71) ∨ (39 ≤ i ∧ i ≤ 57)) V V := FB.rf _ _
  have hF := Imp.of_eq (f_s_go3.eq_def x3 x4 V J Rr)
  refine x_aload_n C.1 dX10_go_0 1 rfl ?_
  refine x_getA C (N := 129) (i := 39) (by omega) (xd_L (Or.inr (Or.inr rfl))) vc_X3 wx_X3 0 (by decide) wf_X10_63 (a := 40) rfl dX10_go_1 ?_
  refine x_aload_n C.1 dX10_go_4 0 rfl ?_
  obtain ⟨z1, ez1, bz1⟩ := hI.rd 105 5 (x := 0) (y := 3) rfl
  replace hF := hF.to (rdb_e (z := z1) ez1)
  replace hF := hF.fc bz1
  refine x_getI C (N := 129) (i := 105) (by decide) rfl vc_X10 wx_X10 5 (by decide) wf_X10_28 rfl dX10_go_5 (a := z1) ez1 ?_
  obtain ⟨c2, ec2, hc2⟩ : ∃ cx : Nat, 39 + 3 + 2 * z1.toNat = cx ∧ isPl cx := ⟨_, rfl, isPl_L (Or.inr (Or.inr rfl)) (by omega)⟩
  replace hF := hF.to (rdb_e (z := c2) ec2)
  refine x_aldS C (N := 129) (i := 40) (q := z1) (t := 4) rfl (by omega) (xd_La (Or.inr (Or.inr rfl))) (by omega) (by decide) dX10_go_8 (a := c2) ec2 ?_
  refine x_astore C.1 (lv' := [(5, .ref (ad c2)), (0, .ref (ad 105)), (1, .ref (ad 39)), (2, .ref (ad 60)), (3, vI x3), (4, vI x4)]) dX10_go_9 (by decide) rfl ?_
  refine x_iload_n C.1 dX10_go_11 4 rfl ?_
  refine x_bipush C.1 (n := 7) dX10_go_12 ?_
  refine x_icmp_lt_t C.1 (tgt := 29) dX10_go_14 (by decide) (by omega) (by decide) (by omega) ?_
  refine x_aload_n C.1 dX10_go_29 1 rfl ?_
  refine x_getA C (N := 129) (i := 105) (by decide) rfl vc_X10 wx_X10 0 (by decide) wf_X10_11 (a := 106) rfl dX10_go_30 ?_
  refine x_iload_n C.1 dX10_go_33 4 rfl ?_
  obtain ⟨c3, ec3, hc3⟩ : ∃ cx : Nat, 110 + 2 * x3.toNat = cx ∧ isPl cx := ⟨_, rfl, isPl_Wk (by omega)⟩
  replace hF := hF.to (rdb_e (z := c3) ec3)
  refine x_aldS C (N := 129) (i := 106) (q := x3) (t := 4) rfl (by decide) rfl (by omega) (by decide) dX10_go_34 (a := c3) ec3 ?_
  refine x_aload C.1 dX10_go_35 0 rfl ?_
  refine x_callVv C (As := [.ref (ad c2)]) (rest := []) c3 (xw_at (N := 129) (i := c3) (Nat.lt_of_succ_lt hc3.1) hc3.2.1) vc_X5 (s_copyP l D cy ad G V J Rr hI hJ hR c3 hc3 c2 hc2 (fun k => pr_Wk ec3 (by omega) k)) (l1 := []) (l2 := []) (List.append_nil _).symm (w2 := fun u : Nat → Nat → Int => XW cy ad u J Rr) (fun _ => List.append_nil _) rfl wm_yX5_copy wn_X5 wl_X10_71 wi_yX5_copy we_yX5_copy hd_yX5_copy rfl ⟨Nat.le_of_ble_eq_true rfl, Nat.le_of_ble_eq_true rfl⟩ (Nat.le_of_ble_eq_true rfl) ⟨Nat.le_of_ble_eq_true rfl, Nat.le_of_ble_eq_true rfl⟩ dX10_go_37 (fun V4 h4 => ?_)
  obtain ⟨hI4, hBc4, hFc4⟩ := h4
  replace hF := calUX_i hF hFc4 hBc4
  have hB4 := hB.tr hBc4 (fun i k h => (Or.inl (⟨by omega, by omega⟩)))
  refine x_aload_n C.1 dX10_go_40 1 rfl ?_
  obtain ⟨z5, ez5, bz5⟩ := hI4.rd 105 4 (x := 0) (y := 3) rfl
  replace hF := hF.to (rdb_e (z := z5) ez5)
  replace hF := hF.fc bz5
  refine x_getI C (N := 129) (i := 105) (by decide) rfl vc_X10 wx_X10 4 (by decide) wf_X10_38 rfl dX10_go_41 (a := z5) ez5 ?_
  refine x_istore C.1 (lv' := [(6, vI z5), (5, .ref (ad c2)), (0, .ref (ad 105)), (1, .ref (ad 39)), (2, .ref (ad 60)), (3, vI x3), (4, vI x4)]) dX10_go_44 (by decide) rfl ?_
  obtain ⟨bd182, hbd182, hF⟩ := lop2_ex hF
  refine x_loop (I := fun x : Int × (Nat → Nat → Int) => match x with | (z181, V182) => (-1 ≤ z181 ∧ z181 ≤ 3) ∧ XI G V182 ∧ FB (fun i k : Nat => (105 ≤ i ∧ i ≤ 123) ∨ (69 ≤ i ∧ i ≤ 71) ∨ (39 ≤ i ∧ i ≤ 57)) V V182 ∧ (∃ nf : Nat, (z181 - (-2)).toNat < nf ∧ Imp (lop2 nf bd182 z181 V182) (f_s_go3 x3 x4 V J Rr))) (μ := fun x : Int × (Nat → Nat → Int) => match x with | (z181, V182) => (z181 - (-2)).toNat) (wsf := fun x : Int × (Nat → Nat → Int) => match x with | (z181, V182) => XW cy ad V182 J Rr) (lvf := fun x : Int × (Nat → Nat → Int) => match x with | (z181, V182) => [(6, vI z181), (5, .ref (ad c2)), (0, .ref (ad 105)), (1, .ref (ad 39)), (2, .ref (ad 60)), (3, vI x3), (4, vI x4)]) (fun x hI182x ih182 => ?_) (z5, V4) ⟨⟨by omega, by omega⟩, hI4, hB4, ⟨_, (by omega), hF⟩⟩ rfl rfl
  obtain ⟨z181, V182⟩ := x
  obtain ⟨bz181, hI182, hB182, nf182, hn182, hF⟩ := hI182x
  try dsimp only
  obtain ⟨nf182, rfl⟩ : ∃ mm, nf182 = mm + 1 := ⟨nf182 - 1, (Nat.succ_pred_eq_of_pos (Nat.lt_of_le_of_lt (Nat.zero_le _) hn182)).symm⟩
  replace hF := hF.to (lop2_s hbd182)
  refine x_iload C.1 dX10_go_46 0 rfl ?_
  refine x_if_lt C.1 (tgt := 226) dX10_go_48 (by decide) (by omega) (fun hc271 => ?_) (fun hc271 => ?_)
  · replace hF := hF.to (if_pos hc271)
    exact x_vret (S := (Nat → Nat → Int)) (post := (fun u : Nat → Nat → Int => XI G u ∧ FB (fun i k : Nat => (105 ≤ i ∧ i ≤ 123) ∨ (69 ≤ i ∧ i ≤ 71) ∨ (39 ≤ i ∧ i ≤ 57)) V u ∧ (f_s_go3 x3 x4 V J Rr) u)) (w1 := (fun u : Nat → Nat → Int => XW cy ad u J Rr)) C hr rfl dX10_go_226 V182 rfl ⟨hI182, hB182, hF _ rfl⟩
  · replace hF := hF.to (if_neg hc271)
    refine x_iload C.1 dX10_go_51 0 rfl ?_
    refine x_aload_n C.1 dX10_go_53 2 rfl ?_
    obtain ⟨z272, ez272, bz272⟩ := hI182.rd 105 4 (x := 0) (y := 3) rfl
    replace hF := hF.to (rdb_e (z := z272) ez272)
    replace hF := hF.fc bz272
    refine x_getI C (N := 129) (i := 105) (by decide) rfl vc_X10 wx_X10 4 (by decide) wf_X10_38 rfl dX10_go_54 (a := z272) ez272 ?_
    refine x_icmp_ge C.1 (tgt := 64) dX10_go_57 (by decide) (by omega) (by omega) (fun hc273 => ?_) (fun hc273 => ?_)
    · replace hF := hF.to (if_pos hc273)
      refine x_iconst C.1 (n := 0) dX10_go_64 ?_
      refine x_istore C.1 (lv' := [(7, vI 0), (6, vI z181), (5, .ref (ad c2)), (0, .ref (ad 105)), (1, .ref (ad 39)), (2, .ref (ad 60)), (3, vI x3), (4, vI x4)]) dX10_go_65 (by decide) rfl ?_
      refine x_iload C.1 dX10_go_67 7 rfl ?_
      refine x_iload C.1 dX10_go_69 0 rfl ?_
      refine x_if_eq_t C.1 (tgt := 78) dX10_go_71 (by decide) (by decide) (by decide) ?_
      refine x_iconst C.1 (n := 0) dX10_go_78 ?_
      refine x_iadd C.1 (v := x4) (by omega) dX10_go_79 ?_
      refine x_istore C.1 (lv' := [(8, vI x4), (7, vI 0), (6, vI z181), (5, .ref (ad c2)), (0, .ref (ad 105)), (1, .ref (ad 39)), (2, .ref (ad 60)), (3, vI x3), (4, vI x4)]) dX10_go_80 (by decide) rfl ?_
      refine x_iload C.1 dX10_go_82 0 rfl ?_
      refine x_aload_n C.1 dX10_go_84 4 rfl ?_
      obtain ⟨z274, ez274, bz274⟩ := hI182.rd 105 6 (x := -2147483648) (y := 2147483647) rfl
      replace hF := hF.to (rdb_e (z := z274) ez274)
      refine x_getI C (N := 129) (i := 105) (by decide) rfl vc_X10 wx_X10 6 (by decide) wf_X10_47 rfl dX10_go_85 (a := z274) ez274 ?_
      obtain ⟨jf293, hjf293, hF⟩ := jn_ex hF
      refine x_join (I := fun V293 : (Nat → Nat → Int) => XI G V293 ∧ FB (fun i k : Nat => (105 ≤ i ∧ i ≤ 123) ∨ (69 ≤ i ∧ i ≤ 71) ∨ (39 ≤ i ∧ i ≤ 57)) V V293 ∧ Imp (jf293 V293) (f_s_go3 x3 x4 V J Rr)) (wsf := fun V293 : (Nat → Nat → Int) => XW cy ad V293 J Rr) (lvf := fun V293 : (Nat → Nat → Int) => [(8, vI x4), (7, vI 0), (6, vI z181), (5, .ref (ad c2)), (0, .ref (ad 105)), (1, .ref (ad 39)), (2, .ref (ad 60)), (3, vI x3), (4, vI x4)]) (stf := fun V293 : (Nat → Nat → Int) => []) 220 (fun V293 hI293x => ?_) (fun jn293 => ?_)
      · obtain ⟨hI293, hB293, hF⟩ := hI293x
        try dsimp only
        replace hF := hF.to (jn_s1 hjf293)
        refine x_iinc C.1 (v := z181 - 1) (lv' := [(6, vI (z181 - 1)), (8, vI x4), (7, vI 0), (5, .ref (ad c2)), (0, .ref (ad 105)), (1, .ref (ad 39)), (2, .ref (ad 60)), (3, vI x3), (4, vI x4)]) (by omega) dX10_go_220 2 rfl (by decide) rfl ?_
        refine x_goto C.1 (tgt := 46) dX10_go_223 (by decide) ?_
        refine x_lv [(6, vI (z181 - 1)), (5, .ref (ad c2)), (0, .ref (ad 105)), (1, .ref (ad 39)), (2, .ref (ad 60)), (3, vI x3), (4, vI x4)] [0, 3, 4, 5, 6, 7, 8] rfl ?_
        have hmu182 : ((z181 - 1) - (-2)).toNat < (z181 - (-2)).toNat := (by omega)
        exact ih182 (z181 - 1, V293) ⟨⟨by omega, by omega⟩, hI293, hB293, ⟨nf182, Nat.lt_of_lt_of_le hmu182 (Nat.le_of_lt_succ hn182), hF⟩⟩ hmu182
      · refine x_icmp_le C.1 (tgt := 94) dX10_go_88 (by decide) (by omega) (by omega) (fun hc294 => ?_) (fun hc294 => ?_)
        · replace hF := hF.to (if_pos hc294)
          refine x_iload C.1 dX10_go_94 1 rfl ?_
          refine x_if_eq_t C.1 (tgt := 109) dX10_go_96 (by decide) (by decide) (by decide) ?_
          refine x_iconst C.1 (n := 0) dX10_go_109 ?_
          refine x_istore C.1 (lv' := [(9, vI 0), (8, vI x4), (7, vI 0), (6, vI z181), (5, .ref (ad c2)), (0, .ref (ad 105)), (1, .ref (ad 39)), (2, .ref (ad 60)), (3, vI x3), (4, vI x4)]) dX10_go_110 (by decide) rfl ?_
          refine x_aload_n C.1 dX10_go_112 6 rfl ?_
          refine x_getA C (N := 129) (i := 39) (by omega) (xd_L (Or.inr (Or.inr rfl))) vc_X3 wx_X3 1 (by decide) wf_X10_75 (a := 41) rfl dX10_go_113 ?_
          refine x_iload C.1 dX10_go_116 0 rfl ?_
          obtain ⟨c295, ec295, hc295⟩ : ∃ cx : Nat, 39 + 11 + 1 * 0 = cx ∧ isPe cx := ⟨_, rfl, isPe_L (Or.inr (Or.inr rfl)) (by decide)⟩
          replace hF := hF.to (rdb_e (z := c295) ec295)
          refine x_aldS C (N := 129) (i := 41) (q := 0) (t := 5) rfl (by omega) (xd_Lb (Or.inr (Or.inr rfl))) (by decide) (by decide) dX10_go_118 (a := c295) ec295 ?_
          obtain ⟨z296, ez296, bz296⟩ := hI182.rd c295 3 (x := -2147483648) (y := 2147483647) (rg_E hc295 3)
          replace hF := hF.to (rdb_e (z := z296) ez296)
          refine x_getI C (N := 129) (i := c295) hc295.1 hc295.2 vc_X4 wx_X4 3 (by decide) wf_X10_79 rfl dX10_go_119 (a := z296) ez296 ?_
          refine x_istore C.1 (lv' := [(10, vI z296), (9, vI 0), (8, vI x4), (7, vI 0), (6, vI z181), (5, .ref (ad c2)), (0, .ref (ad 105)), (1, .ref (ad 39)), (2, .ref (ad 60)), (3, vI x3), (4, vI x4)]) dX10_go_122 (by decide) rfl ?_
          refine x_iload C.1 dX10_go_124 3 rfl ?_
          refine x_if_eq_t C.1 (tgt := 140) dX10_go_126 (by decide) (by decide) (by decide) ?_
          refine x_aload_n C.1 dX10_go_140 7 rfl ?_
          refine x_aload_n C.1 dX10_go_141 8 rfl ?_
          refine x_aload_n C.1 dX10_go_142 6 rfl ?_
          obtain ⟨z297, ez297, bz297⟩ := hI182.rd 105 5 (x := 0) (y := 3) rfl
          replace hF := hF.to (rdb_e (z := z297) ez297)
          replace hF := hF.fc bz297
          refine x_getI C (N := 129) (i := 105) (by decide) rfl vc_X10 wx_X10 5 (by decide) wf_X10_28 rfl dX10_go_143 (a := z297) ez297 ?_
          refine x_iconst C.1 (n := 0) dX10_go_146 ?_
          refine x_callVv C (As := [.ref (ad 60), vI z297, vI 0]) (rest := []) 39 (xw_at (N := 129) (i := 39) (by omega) (xd_L (Or.inr (Or.inr rfl)))) vc_X3 (s_endDay l D cy ad G V182 J Rr hI182 hJ hR 39 (Or.inr (Or.inr rfl)) z297 ⟨by omega, by omega⟩ 0 ⟨by decide, by decide⟩) (l1 := []) (l2 := []) (List.append_nil _).symm (w2 := fun u : Nat → Nat → Int => XW cy ad u J Rr) (fun _ => List.append_nil _) rfl wm_yX3_endDay wn_X3 wl_X10_88 wi_yX3_endDay we_yX3_endDay hd_yX3_endDay rfl ⟨Nat.le_of_ble_eq_true rfl, Nat.le_of_ble_eq_true rfl⟩ (Nat.le_of_ble_eq_true rfl) ⟨Nat.le_of_ble_eq_true rfl, Nat.le_of_ble_eq_true rfl⟩ dX10_go_147 (fun V298 h298 => ?_)
          obtain ⟨hI298, hBc298, hFc298⟩ := h298
          replace hF := calUX_i hF hFc298 hBc298
          have hB298 := hB182.tr hBc298 (fun i k h => (h.elim (fun h => (Or.inr (Or.inl h))) (fun h => (Or.inr (Or.inr (⟨by omega, by omega⟩))))))
          refine x_aload_n C.1 dX10_go_150 7 rfl ?_
          refine x_dup C.1 dX10_go_151 rfl ?_
          obtain ⟨z299, ez299, bz299⟩ := hI298.rd 39 3 (x := -2147483648) (y := 2147483647) (rg_L (Or.inr (Or.inr rfl)) _)
          replace hF := hF.to (rdb_e (z := z299) ez299)
          refine x_getI C (N := 129) (i := 39) (by omega) (xd_L (Or.inr (Or.inr rfl))) vc_X3 wx_X3 3 (by decide) wf_X10_92 rfl dX10_go_152 (a := z299) ez299 ?_
          refine x_iconst C.1 (n := 1) dX10_go_155 ?_
          refine x_iadd C.1 (v := z299 + 1) (by omega) dX10_go_156 ?_
          refine x_wrapg ?_
          intro z300 bz300 ew300
          replace hF := hF.to (rdb_e (z := z300) ew300.symm)
          refine x_putI C (N := 129) (i := 39) (by omega) (xd_L (Or.inr (Or.inr rfl))) vc_X3 wx_X3 3 (by decide) wf_X10_92 tyX3 tyX3_ok nmX3 rfl (tyX3_ok 3 (by decide)) rfl dX10_go_157 rfl rfl ?_
          refine x_gV ?_
          intro V301 hV301
          have hI301 : XI G V301 := hI298.up hV301 (rg_L (Or.inr (Or.inr rfl)) _) (by omega) (pr_L (Or.inr (Or.inr rfl)) _)
          have hB301 := hB298.up hV301 (Or.inr (Or.inr (⟨by decide, by decide⟩)))
          replace hF := hF.to (rdb_e (z := V301) hV301.symm)
          refine x_aload_n C.1 dX10_go_160 6 rfl ?_
          refine x_getA C (N := 129) (i := 105) (by decide) rfl vc_X10 wx_X10 2 (by decide) wf_X10_21 (a := 108) rfl dX10_go_161 ?_
          refine x_iload_n C.1 dX10_go_164 9 rfl ?_
          refine x_iload C.1 dX10_go_165 4 rfl ?_
          refine x_iast C (N := 129) (i := 108) (q := x3) (a := z181) (by decide) rfl (by omega) (by decide) dX10_go_167 ?_
          refine x_gV ?_
          intro V302 hV302
          have hI302 : XI G V302 := hI301.up hV302 rfl (by omega) rfl
          have hB302 := hB301.up hV302 (Or.inl (⟨by decide, by decide⟩))
          replace hF := hF.to (rdb_e (z := V302) hV302.symm)
          refine x_aload C.1 dX10_go_168 5 rfl ?_
          refine x_callVi C (As := []) (rest := []) c2 (xw_at (N := 129) (i := c2) (Nat.lt_of_succ_lt hc2.1) hc2.2.1) vc_X5 (s_isDeadP l D cy ad G V302 J Rr hI302 hJ hR c2 hc2) (l1 := []) (l2 := []) (List.append_nil _).symm (w2 := fun _ => XW cy ad V302 J Rr) (fun _ => List.append_nil _) rfl wm_yX5_isDead wn_X5 wl_X10_95 wi_yX5_isDead we_yX5_isDead hd_yX5_isDead rfl ⟨Nat.le_of_ble_eq_true rfl, Nat.le_of_ble_eq_true rfl⟩ (Nat.le_of_ble_eq_true rfl) ⟨Nat.le_of_ble_eq_true rfl, Nat.le_of_ble_eq_true rfl⟩ dX10_go_170 (fun z303 u303 bz303 h303 => ?_)
          obtain ⟨bq303, hFc303⟩ := h303
          replace hF := calR_i hF hFc303
          replace hF := hF.fc bq303
          obtain ⟨jf305, hjf305, hF⟩ := jn_ex hF
          refine x_join (I := fun V305 : (Nat → Nat → Int) => XI G V305 ∧ FB (fun i k : Nat => (105 ≤ i ∧ i ≤ 123) ∨ (69 ≤ i ∧ i ≤ 71) ∨ (39 ≤ i ∧ i ≤ 57)) V V305 ∧ Imp (jf305 V305) (f_s_go3 x3 x4 V J Rr)) (wsf := fun V305 : (Nat → Nat → Int) => XW cy ad V305 J Rr) (lvf := fun V305 : (Nat → Nat → Int) => [(10, vI z296), (9, vI 0), (8, vI x4), (7, vI 0), (6, vI z181), (5, .ref (ad c2)), (0, .ref (ad 105)), (1, .ref (ad 39)), (2, .ref (ad 60)), (3, vI x3), (4, vI x4)]) (stf := fun V305 : (Nat → Nat → Int) => []) 187 (fun V305 hI305x => ?_) (fun jn305 => ?_)
          · obtain ⟨hI305, hB305, hF⟩ := hI305x
            try dsimp only
            replace hF := hF.to (jn_s1 hjf305)
            refine x_aload_n C.1 dX10_go_187 7 rfl ?_
            refine x_dup C.1 dX10_go_188 rfl ?_
            obtain ⟨z306, ez306, bz306⟩ := hI305.rd 39 3 (x := -2147483648) (y := 2147483647) (rg_L (Or.inr (Or.inr rfl)) _)
            replace hF := hF.to (rdb_e (z := z306) ez306)
            refine x_getI C (N := 129) (i := 39) (by omega) (xd_L (Or.inr (Or.inr rfl))) vc_X3 wx_X3 3 (by decide) wf_X10_92 rfl dX10_go_189 (a := z306) ez306 ?_
            refine x_iconst C.1 (n := 1) dX10_go_192 ?_
            refine x_isub C.1 (v := z306 - 1) (by omega) dX10_go_193 ?_
            refine x_wrapg ?_
            intro z307 bz307 ew307
            replace hF := hF.to (rdb_e (z := z307) ew307.symm)
            refine x_putI C (N := 129) (i := 39) (by omega) (xd_L (Or.inr (Or.inr rfl))) vc_X3 wx_X3 3 (by decide) wf_X10_92 tyX3 tyX3_ok nmX3 rfl (tyX3_ok 3 (by decide)) rfl dX10_go_194 rfl rfl ?_
            refine x_gV ?_
            intro V308 hV308
            have hI308 : XI G V308 := hI305.up hV308 (rg_L (Or.inr (Or.inr rfl)) _) (by omega) (pr_L (Or.inr (Or.inr rfl)) _)
            have hB308 := hB305.up hV308 (Or.inr (Or.inr (⟨by decide, by decide⟩)))
            replace hF := hF.to (rdb_e (z := V308) hV308.symm)
            refine x_aload C.1 dX10_go_197 5 rfl ?_
            refine x_aload_n C.1 dX10_go_199 6 rfl ?_
            refine x_getA C (N := 129) (i := 105) (by decide) rfl vc_X10 wx_X10 0 (by decide) wf_X10_11 (a := 106) rfl dX10_go_200 ?_
            refine x_iload_n C.1 dX10_go_203 9 rfl ?_
            refine x_aldS C (N := 129) (i := 106) (q := x3) (t := 4) rfl (by decide) rfl (by omega) (by decide) dX10_go_204 (a := c3) ec3 ?_
            refine x_callVv C (As := [.ref (ad c3)]) (rest := []) c2 (xw_at (N := 129) (i := c2) (Nat.lt_of_succ_lt hc2.1) hc2.2.1) vc_X5 (s_copyP l D cy ad G V308 J Rr hI308 hJ hR c2 hc2 c3 hc3 (fun k => pr_39 ec2 (by omega) k)) (l1 := []) (l2 := []) (List.append_nil _).symm (w2 := fun u : Nat → Nat → Int => XW cy ad u J Rr) (fun _ => List.append_nil _) rfl wm_yX5_copy wn_X5 wl_X10_71 wi_yX5_copy we_yX5_copy hd_yX5_copy rfl ⟨Nat.le_of_ble_eq_true rfl, Nat.le_of_ble_eq_true rfl⟩ (Nat.le_of_ble_eq_true rfl) ⟨Nat.le_of_ble_eq_true rfl, Nat.le_of_ble_eq_true rfl⟩ dX10_go_205 (fun V309 h309 => ?_)
            obtain ⟨hI309, hBc309, hFc309⟩ := h309
            replace hF := calUX_i hF hFc309 hBc309
            have hB309 := hB308.tr hBc309 (fun i k h => (Or.inr (Or.inr (⟨by omega, by omega⟩))))
            refine x_aload_n C.1 dX10_go_208 7 rfl ?_
            refine x_getA C (N := 129) (i := 39) (by omega) (xd_L (Or.inr (Or.inr rfl))) vc_X3 wx_X3 1 (by decide) wf_X10_75 (a := 41) rfl dX10_go_209 ?_
            refine x_iload C.1 dX10_go_212 1 rfl ?_
            refine x_aldS C (N := 129) (i := 41) (q := 0) (t := 5) rfl (by omega) (xd_Lb (Or.inr (Or.inr rfl))) (by decide) (by decide) dX10_go_214 (a := c295) ec295 ?_
            refine x_iload C.1 dX10_go_215 0 rfl ?_
            refine x_putI C (N := 129) (i := c295) hc295.1 hc295.2 vc_X4 wx_X4 3 (by decide) wf_X10_79 tyX4 tyX4_ok nmX4 rfl (tyX4_ok 3 (by decide)) rfl dX10_go_217 rfl rfl ?_
            refine x_gV ?_
            intro V310 hV310
            have hI310 : XI G V310 := hI309.up hV310 (rg_E hc295 3) (by omega) (pr_E hc295 _)
            have hB310 := hB309.up hV310 (Or.inr (Or.inr (⟨by omega, by omega⟩)))
            replace hF := hF.to (rdb_e (z := V310) hV310.symm)
            refine x_lv [(8, vI x4), (7, vI 0), (6, vI z181), (5, .ref (ad c2)), (0, .ref (ad 105)), (1, .ref (ad 39)), (2, .ref (ad 60)), (3, vI x3), (4, vI x4)] [2, 3, 4, 5, 6, 7, 8, 9, 10] rfl ?_
            exact jn293 V310 ⟨hI310, hB310, hF⟩
          · refine x_if_ne C.1 (tgt := 187) dX10_go_173 (by decide) (by omega) (fun hc311 => ?_) (fun hc311 => ?_)
            · replace hF := hF.to (if_pos hc311)
              exact jn305 V302 ⟨hI302, hB302, hF⟩
            · replace hF := hF.to (if_neg (fun hh => hh hc311))
              refine x_aload_n C.1 dX10_go_176 6 rfl ?_
              refine x_aload_n C.1 dX10_go_177 7 rfl ?_
              refine x_aload_n C.1 dX10_go_178 8 rfl ?_
              refine x_iload_n C.1 dX10_go_179 9 rfl ?_
              refine x_iconst C.1 (n := 1) dX10_go_180 ?_
              refine x_iadd C.1 (v := x3 + 1) (by omega) dX10_go_181 ?_
              refine x_iload C.1 dX10_go_182 2 rfl ?_
              refine x_callSv C (As := [.ref (ad 105), .ref (ad 39), .ref (ad 60), vI (x3 + 1), vI x4]) (rest := []) (s_go4 l D cy ad G V302 J Rr hI302 hJ hR (x3 + 1) ⟨by omega, by omega⟩ x4 ⟨by omega, by omega⟩) (l1 := []) (l2 := []) (List.append_nil _).symm (w2 := fun u : Nat → Nat → Int => XW cy ad u J Rr) (fun _ => List.append_nil _) rfl wm_yX10_go wn_X10 wl_X10_50 wi_yX10_go hd_yX10_go rfl ⟨Nat.le_of_ble_eq_true rfl, Nat.le_of_ble_eq_true rfl⟩ (Nat.le_of_ble_eq_true rfl) ⟨Nat.le_of_ble_eq_true rfl, Nat.le_of_ble_eq_true rfl⟩ dX10_go_184 (fun V312 h312 => ?_)
              obtain ⟨hI312, hBc312, hFc312⟩ := h312
              replace hF := calUX_i hF hFc312 hBc312
              have hB312 := hB302.tr hBc312 (fun i k h => (h.elim (fun h => (Or.inl h)) (fun h => (h.elim (fun h => (Or.inr (Or.inl h))) (fun h => (Or.inr (Or.inr (h))))))))
              exact jn305 V312 ⟨hI312, hB312, hF⟩
        · replace hF := hF.to (if_neg hc294)
          refine x_goto C.1 (tgt := 220) dX10_go_91 (by decide) ?_
          exact jn293 V182 ⟨hI182, hB182, hF⟩
    · replace hF := hF.to (if_neg hc273)
      refine x_iconst C.1 (n := 1) dX10_go_60 ?_
      refine x_goto C.1 (tgt := 65) dX10_go_61 (by decide) ?_
      refine x_istore C.1 (lv' := [(7, vI 1), (6, vI z181), (5, .ref (ad c2)), (0, .ref (ad 105)), (1, .ref (ad 39)), (2, .ref (ad 60)), (3, vI x3), (4, vI x4)]) dX10_go_65 (by decide) rfl ?_
      refine x_iload C.1 dX10_go_67 7 rfl ?_
      refine x_iload C.1 dX10_go_69 0 rfl ?_
      refine x_if_eq_f C.1 (tgt := 78) dX10_go_71 (by decide) (by decide) (by decide) ?_
      refine x_iconst C.1 (n := 1) dX10_go_74 ?_
      refine x_goto C.1 (tgt := 79) dX10_go_75 (by decide) ?_
      refine x_iadd C.1 (v := x4 + 1) (by omega) dX10_go_79 ?_
      refine x_wrapg ?_
      intro z313 bz313 ew313
      replace hF := hF.to (rdb_e (z := z313) ew313.symm)
      refine x_istore C.1 (lv' := [(8, vI z313), (7, vI 1), (6, vI z181), (5, .ref (ad c2)), (0, .ref (ad 105)), (1, .ref (ad 39)), (2, .ref (ad 60)), (3, vI x3), (4, vI x4)]) dX10_go_80 (by decide) rfl ?_
      refine x_iload C.1 dX10_go_82 0 rfl ?_
      refine x_aload_n C.1 dX10_go_84 4 rfl ?_
      obtain ⟨z314, ez314, bz314⟩ := hI182.rd 105 6 (x := -2147483648) (y := 2147483647) rfl
      replace hF := hF.to (rdb_e (z := z314) ez314)
      refine x_getI C (N := 129) (i := 105) (by decide) rfl vc_X10 wx_X10 6 (by decide) wf_X10_47 rfl dX10_go_85 (a := z314) ez314 ?_
      obtain ⟨jf336, hjf336, hF⟩ := jn_ex hF
      refine x_join (I := fun V336 : (Nat → Nat → Int) => XI G V336 ∧ FB (fun i k : Nat => (105 ≤ i ∧ i ≤ 123) ∨ (69 ≤ i ∧ i ≤ 71) ∨ (39 ≤ i ∧ i ≤ 57)) V V336 ∧ Imp (jf336 V336) (f_s_go3 x3 x4 V J Rr)) (wsf := fun V336 : (Nat → Nat → Int) => XW cy ad V336 J Rr) (lvf := fun V336 : (Nat → Nat → Int) => [(8, vI z313), (7, vI 1), (6, vI z181), (5, .ref (ad c2)), (0, .ref (ad 105)), (1, .ref (ad 39)), (2, .ref (ad 60)), (3, vI x3), (4, vI x4)]) (stf := fun V336 : (Nat → Nat → Int) => []) 220 (fun V336 hI336x => ?_) (fun jn336 => ?_)
      · obtain ⟨hI336, hB336, hF⟩ := hI336x
        try dsimp only
        replace hF := hF.to (jn_s1 hjf336)
        refine x_iinc C.1 (v := z181 - 1) (lv' := [(6, vI (z181 - 1)), (8, vI z313), (7, vI 1), (5, .ref (ad c2)), (0, .ref (ad 105)), (1, .ref (ad 39)), (2, .ref (ad 60)), (3, vI x3), (4, vI x4)]) (by omega) dX10_go_220 2 rfl (by decide) rfl ?_
        refine x_goto C.1 (tgt := 46) dX10_go_223 (by decide) ?_
        refine x_lv [(6, vI (z181 - 1)), (5, .ref (ad c2)), (0, .ref (ad 105)), (1, .ref (ad 39)), (2, .ref (ad 60)), (3, vI x3), (4, vI x4)] [0, 3, 4, 5, 6, 7, 8] rfl ?_
        have hmu182 : ((z181 - 1) - (-2)).toNat < (z181 - (-2)).toNat := (by omega)
        exact ih182 (z181 - 1, V336) ⟨⟨by omega, by omega⟩, hI336, hB336, ⟨nf182, Nat.lt_of_lt_of_le hmu182 (Nat.le_of_lt_succ hn182), hF⟩⟩ hmu182
      · refine x_icmp_le C.1 (tgt := 94) dX10_go_88 (by decide) (by omega) (by omega) (fun hc337 => ?_) (fun hc337 => ?_)
        · replace hF := hF.to (if_pos hc337)
          refine x_iload C.1 dX10_go_94 1 rfl ?_
          refine x_if_eq_f C.1 (tgt := 109) dX10_go_96 (by decide) (by decide) (by decide) ?_
          refine x_aload_n C.1 dX10_go_99 4 rfl ?_
          refine x_getA C (N := 129) (i := 105) (by decide) rfl vc_X10 wx_X10 1 (by decide) wf_X10_17 (a := 107) rfl dX10_go_100 ?_
          refine x_iload C.1 dX10_go_103 2 rfl ?_
          obtain ⟨z338, ez338, bz338⟩ := hI182.rd 107 z181.toNat (x := 0) (y := 7) rfl
          replace hF := hF.to (rdb_e (z := z338) ez338)
          replace hF := hF.fc bz338
          refine x_iald C (N := 129) (i := 107) (q := z181) (by decide) rfl (by omega) (by decide) dX10_go_105 (a := z338) ez338 ?_
          refine x_goto C.1 (tgt := 110) dX10_go_106 (by decide) ?_
          refine x_istore C.1 (lv' := [(9, vI z338), (8, vI z313), (7, vI 1), (6, vI z181), (5, .ref (ad c2)), (0, .ref (ad 105)), (1, .ref (ad 39)), (2, .ref (ad 60)), (3, vI x3), (4, vI x4)]) dX10_go_110 (by decide) rfl ?_
          refine x_aload_n C.1 dX10_go_112 6 rfl ?_
          refine x_getA C (N := 129) (i := 39) (by omega) (xd_L (Or.inr (Or.inr rfl))) vc_X3 wx_X3 1 (by decide) wf_X10_75 (a := 41) rfl dX10_go_113 ?_
          refine x_iload C.1 dX10_go_116 0 rfl ?_
          obtain ⟨c339, ec339, hc339⟩ : ∃ cx : Nat, 39 + 11 + 1 * z338.toNat = cx ∧ isPe cx := ⟨_, rfl, isPe_L (Or.inr (Or.inr rfl)) (by omega)⟩
          replace hF := hF.to (rdb_e (z := c339) ec339)
          refine x_aldS C (N := 129) (i := 41) (q := z338) (t := 5) rfl (by omega) (xd_Lb (Or.inr (Or.inr rfl))) (by omega) (by decide) dX10_go_118 (a := c339) ec339 ?_
          obtain ⟨z340, ez340, bz340⟩ := hI182.rd c339 3 (x := -2147483648) (y := 2147483647) (rg_E hc339 3)
          replace hF := hF.to (rdb_e (z := z340) ez340)
          refine x_getI C (N := 129) (i := c339) hc339.1 hc339.2 vc_X4 wx_X4 3 (by decide) wf_X10_79 rfl dX10_go_119 (a := z340) ez340 ?_
          refine x_istore C.1 (lv' := [(10, vI z340), (9, vI z338), (8, vI z313), (7, vI 1), (6, vI z181), (5, .ref (ad c2)), (0, .ref (ad 105)), (1, .ref (ad 39)), (2, .ref (ad 60)), (3, vI x3), (4, vI x4)]) dX10_go_122 (by decide) rfl ?_
          refine x_iload C.1 dX10_go_124 3 rfl ?_
          refine x_if_eq_f C.1 (tgt := 140) dX10_go_126 (by decide) (by decide) (by decide) ?_
          refine x_aload_n C.1 dX10_go_129 7 rfl ?_
          refine x_aload_n C.1 dX10_go_130 8 rfl ?_
          refine x_iload C.1 dX10_go_131 1 rfl ?_
          refine x_aload_n C.1 dX10_go_133 6 rfl ?_
          obtain ⟨z341, ez341, bz341⟩ := hI182.rd 105 5 (x := 0) (y := 3) rfl
          replace hF := hF.to (rdb_e (z := z341) ez341)
          replace hF := hF.fc bz341
          refine x_getI C (N := 129) (i := 105) (by decide) rfl vc_X10 wx_X10 5 (by decide) wf_X10_28 rfl dX10_go_134 (a := z341) ez341 ?_
          refine x_callVv C (As := [.ref (ad 60), vI z338, vI z341]) (rest := []) 39 (xw_at (N := 129) (i := 39) (by omega) (xd_L (Or.inr (Or.inr rfl)))) vc_X3 (s_giveTo l D cy ad G V182 J Rr hI182 hJ hR 39 (Or.inr (Or.inr rfl)) z338 ⟨by omega, by omega⟩ z341 ⟨by omega, by omega⟩) (l1 := []) (l2 := []) (List.append_nil _).symm (w2 := fun u : Nat → Nat → Int => XW cy ad u J Rr) (fun _ => List.append_nil _) rfl wm_yX3_giveTo wn_X3 wl_X10_84 wi_yX3_giveTo we_yX3_giveTo hd_yX3_giveTo rfl ⟨Nat.le_of_ble_eq_true rfl, Nat.le_of_ble_eq_true rfl⟩ (Nat.le_of_ble_eq_true rfl) ⟨Nat.le_of_ble_eq_true rfl, Nat.le_of_ble_eq_true rfl⟩ dX10_go_137 (fun V342 h342 => ?_)
          obtain ⟨hI342, hBc342, hFc342⟩ := h342
          replace hF := calUX_i hF hFc342 hBc342
          have hB342 := hB182.tr hBc342 (fun i k h => (h.elim (fun h => (Or.inr (Or.inl h))) (fun h => (Or.inr (Or.inr (⟨by omega, by omega⟩))))))
          refine x_aload_n C.1 dX10_go_140 7 rfl ?_
          refine x_aload_n C.1 dX10_go_141 8 rfl ?_
          refine x_aload_n C.1 dX10_go_142 6 rfl ?_
          obtain ⟨z343, ez343, bz343⟩ := hI342.rd 105 5 (x := 0) (y := 3) rfl
          replace hF := hF.to (rdb_e (z := z343) ez343)
          replace hF := hF.fc bz343
          refine x_getI C (N := 129) (i := 105) (by decide) rfl vc_X10 wx_X10 5 (by decide) wf_X10_28 rfl dX10_go_143 (a := z343) ez343 ?_
          refine x_iconst C.1 (n := 0) dX10_go_146 ?_
          refine x_callVv C (As := [.ref (ad 60), vI z343, vI 0]) (rest := []) 39 (xw_at (N := 129) (i := 39) (by omega) (xd_L (Or.inr (Or.inr rfl)))) vc_X3 (s_endDay l D cy ad G V342 J Rr hI342 hJ hR 39 (Or.inr (Or.inr rfl)) z343 ⟨by omega, by omega⟩ 0 ⟨by decide, by decide⟩) (l1 := []) (l2 := []) (List.append_nil _).symm (w2 := fun u : Nat → Nat → Int => XW cy ad u J Rr) (fun _ => List.append_nil _) rfl wm_yX3_endDay wn_X3 wl_X10_88 wi_yX3_endDay we_yX3_endDay hd_yX3_endDay rfl ⟨Nat.le_of_ble_eq_true rfl, Nat.le_of_ble_eq_true rfl⟩ (Nat.le_of_ble_eq_true rfl) ⟨Nat.le_of_ble_eq_true rfl, Nat.le_of_ble_eq_true rfl⟩ dX10_go_147 (fun V344 h344 => ?_)
          obtain ⟨hI344, hBc344, hFc344⟩ := h344
          replace hF := calUX_i hF hFc344 hBc344
          have hB344 := hB342.tr hBc344 (fun i k h => (h.elim (fun h => (Or.inr (Or.inl h))) (fun h => (Or.inr (Or.inr (⟨by omega, by omega⟩))))))
          refine x_aload_n C.1 dX10_go_150 7 rfl ?_
          refine x_dup C.1 dX10_go_151 rfl ?_
          obtain ⟨z345, ez345, bz345⟩ := hI344.rd 39 3 (x := -2147483648) (y := 2147483647) (rg_L (Or.inr (Or.inr rfl)) _)
          replace hF := hF.to (rdb_e (z := z345) ez345)
          refine x_getI C (N := 129) (i := 39) (by omega) (xd_L (Or.inr (Or.inr rfl))) vc_X3 wx_X3 3 (by decide) wf_X10_92 rfl dX10_go_152 (a := z345) ez345 ?_
          refine x_iconst C.1 (n := 1) dX10_go_155 ?_
          refine x_iadd C.1 (v := z345 + 1) (by omega) dX10_go_156 ?_
          refine x_wrapg ?_
          intro z346 bz346 ew346
          replace hF := hF.to (rdb_e (z := z346) ew346.symm)
          refine x_putI C (N := 129) (i := 39) (by omega) (xd_L (Or.inr (Or.inr rfl))) vc_X3 wx_X3 3 (by decide) wf_X10_92 tyX3 tyX3_ok nmX3 rfl (tyX3_ok 3 (by decide)) rfl dX10_go_157 rfl rfl ?_
          refine x_gV ?_
          intro V347 hV347
          have hI347 : XI G V347 := hI344.up hV347 (rg_L (Or.inr (Or.inr rfl)) _) (by omega) (pr_L (Or.inr (Or.inr rfl)) _)
          have hB347 := hB344.up hV347 (Or.inr (Or.inr (⟨by decide, by decide⟩)))
          replace hF := hF.to (rdb_e (z := V347) hV347.symm)
          refine x_aload_n C.1 dX10_go_160 6 rfl ?_
          refine x_getA C (N := 129) (i := 105) (by decide) rfl vc_X10 wx_X10 2 (by decide) wf_X10_21 (a := 108) rfl dX10_go_161 ?_
          refine x_iload_n C.1 dX10_go_164 9 rfl ?_
          refine x_iload C.1 dX10_go_165 4 rfl ?_
          refine x_iast C (N := 129) (i := 108) (q := x3) (a := z181) (by decide) rfl (by omega) (by decide) dX10_go_167 ?_
          refine x_gV ?_
          intro V348 hV348
          have hI348 : XI G V348 := hI347.up hV348 rfl (by omega) rfl
          have hB348 := hB347.up hV348 (Or.inl (⟨by decide, by decide⟩))
          replace hF := hF.to (rdb_e (z := V348) hV348.symm)
          refine x_aload C.1 dX10_go_168 5 rfl ?_
          refine x_callVi C (As := []) (rest := []) c2 (xw_at (N := 129) (i := c2) (Nat.lt_of_succ_lt hc2.1) hc2.2.1) vc_X5 (s_isDeadP l D cy ad G V348 J Rr hI348 hJ hR c2 hc2) (l1 := []) (l2 := []) (List.append_nil _).symm (w2 := fun _ => XW cy ad V348 J Rr) (fun _ => List.append_nil _) rfl wm_yX5_isDead wn_X5 wl_X10_95 wi_yX5_isDead we_yX5_isDead hd_yX5_isDead rfl ⟨Nat.le_of_ble_eq_true rfl, Nat.le_of_ble_eq_true rfl⟩ (Nat.le_of_ble_eq_true rfl) ⟨Nat.le_of_ble_eq_true rfl, Nat.le_of_ble_eq_true rfl⟩ dX10_go_170 (fun z349 u349 bz349 h349 => ?_)
          obtain ⟨bq349, hFc349⟩ := h349
          replace hF := calR_i hF hFc349
          replace hF := hF.fc bq349
          obtain ⟨jf351, hjf351, hF⟩ := jn_ex hF
          refine x_join (I := fun V351 : (Nat → Nat → Int) => XI G V351 ∧ FB (fun i k : Nat => (105 ≤ i ∧ i ≤ 123) ∨ (69 ≤ i ∧ i ≤ 71) ∨ (39 ≤ i ∧ i ≤ 57)) V V351 ∧ Imp (jf351 V351) (f_s_go3 x3 x4 V J Rr)) (wsf := fun V351 : (Nat → Nat → Int) => XW cy ad V351 J Rr) (lvf := fun V351 : (Nat → Nat → Int) => [(10, vI z340), (9, vI z338), (8, vI z313), (7, vI 1), (6, vI z181), (5, .ref (ad c2)), (0, .ref (ad 105)), (1, .ref (ad 39)), (2, .ref (ad 60)), (3, vI x3), (4, vI x4)]) (stf := fun V351 : (Nat → Nat → Int) => []) 187 (fun V351 hI351x => ?_) (fun jn351 => ?_)
          · obtain ⟨hI351, hB351, hF⟩ := hI351x
            try dsimp only
            replace hF := hF.to (jn_s1 hjf351)
            refine x_aload_n C.1 dX10_go_187 7 rfl ?_
            refine x_dup C.1 dX10_go_188 rfl ?_
            obtain ⟨z352, ez352, bz352⟩ := hI351.rd 39 3 (x := -2147483648) (y := 2147483647) (rg_L (Or.inr (Or.inr rfl)) _)
            replace hF := hF.to (rdb_e (z := z352) ez352)
            refine x_getI C (N := 129) (i := 39) (by omega) (xd_L (Or.inr (Or.inr rfl))) vc_X3 wx_X3 3 (by decide) wf_X10_92 rfl dX10_go_189 (a := z352) ez352 ?_
            refine x_iconst C.1 (n := 1) dX10_go_192 ?_
            refine x_isub C.1 (v := z352 - 1) (by omega) dX10_go_193 ?_
            refine x_wrapg ?_
            intro z353 bz353 ew353
            replace hF := hF.to (rdb_e (z := z353) ew353.symm)
            refine x_putI C (N := 129) (i := 39) (by omega) (xd_L (Or.inr (Or.inr rfl))) vc_X3 wx_X3 3 (by decide) wf_X10_92 tyX3 tyX3_ok nmX3 rfl (tyX3_ok 3 (by decide)) rfl dX10_go_194 rfl rfl ?_
            refine x_gV ?_
            intro V354 hV354
            have hI354 : XI G V354 := hI351.up hV354 (rg_L (Or.inr (Or.inr rfl)) _) (by omega) (pr_L (Or.inr (Or.inr rfl)) _)
            have hB354 := hB351.up hV354 (Or.inr (Or.inr (⟨by decide, by decide⟩)))
            replace hF := hF.to (rdb_e (z := V354) hV354.symm)
            refine x_aload C.1 dX10_go_197 5 rfl ?_
            refine x_aload_n C.1 dX10_go_199 6 rfl ?_
            refine x_getA C (N := 129) (i := 105) (by decide) rfl vc_X10 wx_X10 0 (by decide) wf_X10_11 (a := 106) rfl dX10_go_200 ?_
            refine x_iload_n C.1 dX10_go_203 9 rfl ?_
            refine x_aldS C (N := 129) (i := 106) (q := x3) (t := 4) rfl (by decide) rfl (by omega) (by decide) dX10_go_204 (a := c3) ec3 ?_
            refine x_callVv C (As := [.ref (ad c3)]) (rest := []) c2 (xw_at (N := 129) (i := c2) (Nat.lt_of_succ_lt hc2.1) hc2.2.1) vc_X5 (s_copyP l D cy ad G V354 J Rr hI354 hJ hR c2 hc2 c3 hc3 (fun k => pr_39 ec2 (by omega) k)) (l1 := []) (l2 := []) (List.append_nil _).symm (w2 := fun u : Nat → Nat → Int => XW cy ad u J Rr) (fun _ => List.append_nil _) rfl wm_yX5_copy wn_X5 wl_X10_71 wi_yX5_copy we_yX5_copy hd_yX5_copy rfl ⟨Nat.le_of_ble_eq_true rfl, Nat.le_of_ble_eq_true rfl⟩ (Nat.le_of_ble_eq_true rfl) ⟨Nat.le_of_ble_eq_true rfl, Nat.le_of_ble_eq_true rfl⟩ dX10_go_205 (fun V355 h355 => ?_)
            obtain ⟨hI355, hBc355, hFc355⟩ := h355
            replace hF := calUX_i hF hFc355 hBc355
            have hB355 := hB354.tr hBc355 (fun i k h => (Or.inr (Or.inr (⟨by omega, by omega⟩))))
            refine x_aload_n C.1 dX10_go_208 7 rfl ?_
            refine x_getA C (N := 129) (i := 39) (by omega) (xd_L (Or.inr (Or.inr rfl))) vc_X3 wx_X3 1 (by decide) wf_X10_75 (a := 41) rfl dX10_go_209 ?_
            refine x_iload C.1 dX10_go_212 1 rfl ?_
            refine x_aldS C (N := 129) (i := 41) (q := z338) (t := 5) rfl (by omega) (xd_Lb (Or.inr (Or.inr rfl))) (by omega) (by decide) dX10_go_214 (a := c339) ec339 ?_
            refine x_iload C.1 dX10_go_215 0 rfl ?_
            refine x_putI C (N := 129) (i := c339) hc339.1 hc339.2 vc_X4 wx_X4 3 (by decide) wf_X10_79 tyX4 tyX4_ok nmX4 rfl (tyX4_ok 3 (by decide)) rfl dX10_go_217 rfl rfl ?_
            refine x_gV ?_
            intro V356 hV356
            have hI356 : XI G V356 := hI355.up hV356 (rg_E hc339 3) (by omega) (pr_E hc339 _)
            have hB356 := hB355.up hV356 (Or.inr (Or.inr (⟨by omega, by omega⟩)))
            replace hF := hF.to (rdb_e (z := V356) hV356.symm)
            refine x_lv [(8, vI z313), (7, vI 1), (6, vI z181), (5, .ref (ad c2)), (0, .ref (ad 105)), (1, .ref (ad 39)), (2, .ref (ad 60)), (3, vI x3), (4, vI x4)] [2, 3, 4, 5, 6, 7, 8, 9, 10] rfl ?_
            exact jn336 V356 ⟨hI356, hB356, hF⟩
          · refine x_if_ne C.1 (tgt := 187) dX10_go_173 (by decide) (by omega) (fun hc357 => ?_) (fun hc357 => ?_)
            · replace hF := hF.to (if_pos hc357)
              exact jn351 V348 ⟨hI348, hB348, hF⟩
            · replace hF := hF.to (if_neg (fun hh => hh hc357))
              refine x_aload_n C.1 dX10_go_176 6 rfl ?_
              refine x_aload_n C.1 dX10_go_177 7 rfl ?_
              refine x_aload_n C.1 dX10_go_178 8 rfl ?_
              refine x_iload_n C.1 dX10_go_179 9 rfl ?_
              refine x_iconst C.1 (n := 1) dX10_go_180 ?_
              refine x_iadd C.1 (v := x3 + 1) (by omega) dX10_go_181 ?_
              refine x_iload C.1 dX10_go_182 2 rfl ?_
              refine x_callSv C (As := [.ref (ad 105), .ref (ad 39), .ref (ad 60), vI (x3 + 1), vI z313]) (rest := []) (s_go4 l D cy ad G V348 J Rr hI348 hJ hR (x3 + 1) ⟨by omega, by omega⟩ z313 ⟨by omega, by omega⟩) (l1 := []) (l2 := []) (List.append_nil _).symm (w2 := fun u : Nat → Nat → Int => XW cy ad u J Rr) (fun _ => List.append_nil _) rfl wm_yX10_go wn_X10 wl_X10_50 wi_yX10_go hd_yX10_go rfl ⟨Nat.le_of_ble_eq_true rfl, Nat.le_of_ble_eq_true rfl⟩ (Nat.le_of_ble_eq_true rfl) ⟨Nat.le_of_ble_eq_true rfl, Nat.le_of_ble_eq_true rfl⟩ dX10_go_184 (fun V358 h358 => ?_)
              obtain ⟨hI358, hBc358, hFc358⟩ := h358
              replace hF := calUX_i hF hFc358 hBc358
              have hB358 := hB348.tr hBc358 (fun i k h => (h.elim (fun h => (Or.inl h)) (fun h => (h.elim (fun h => (Or.inr (Or.inl h))) (fun h => (Or.inr (Or.inr (h))))))))
              exact jn351 V358 ⟨hI358, hB358, hF⟩
        · replace hF := hF.to (if_neg hc337)
          refine x_goto C.1 (tgt := 220) dX10_go_91 (by decide) ?_
          exact jn336 V182 ⟨hI182, hB182, hF⟩
set_option maxRecDepth 100000 in
def f_s_go2 (x3 : Int) (x4 : Int) (V : Nat → Nat → Int) (J : Nat → Nat → Int) (Rr : Nat → Nat → Nat) : (Nat → Nat → Int) → Prop :=
  rdb (V 105 5) fun z1 => fct (0 ≤ z1 ∧ z1 ≤ 3) <| rdb (39 + 3 + 2 * z1.toNat) fun c2 => rdb (110 + 2 * x3.toNat) fun c3 => calUX (fun i k : Nat => (c3 ≤ i ∧ i ≤ c3 + 1)) V (f_s_copyP c3 c2 V J Rr) fun V4 => rdb (V4 105 4) fun z5 => fct (0 ≤ z5 ∧ z5 ≤ 3) <| lop2 (6) (fun rc182 (z181 : Int) (V182 : Nat → Nat → Int) => (if z181 < 0 then rtn V182 else rdb (V182 105 4) fun z272 => fct (0 ≤ z272 ∧ z272 ≤ 3) <| (if z272 ≤ z181 then rdb (V182 105 6) fun z274 => jnk (fun (V293 : Nat → Nat → Int) => rc182 (z181 - 1) V293) fun jf293 => (if x4 ≤ z274 then rdb (39 + 11 + 1 * 0) fun c295 => rdb (V182 c295 3) fun z296 => rdb (V182 105 5) fun z297 => fct (0 ≤ z297 ∧ z297 ≤ 3) <| calUX (fun i k : Nat => (69 ≤ i ∧ i ≤ 71) ∨ (39 ≤ i ∧ i ≤ 39 + 18)) V182 (f_s_endDay 39 z297 0 V182 J Rr) fun V298 => rdb (V298 39 3) fun z299 => rdb (wr (z299 + 1)) fun z300 => rdb (up2 V298 39 3 z300) fun V301 => rdb (up2 V301 108 x3.toNat z181) fun V302 => calR (f_s_isDeadP c2 V302 J Rr) fun z303 => fct (0 ≤ z303 ∧ z303 ≤ 1) <| jnk (fun (V305 : Nat → Nat → Int) => rdb (V305 39 3) fun z306 => rdb (wr (z306 - 1)) fun z307 => rdb (up2 V305 39 3 z307) fun V308 => calUX (fun i k : Nat => (c2 ≤ i ∧ i ≤ c2 + 1)) V308 (f_s_copyP c2 c3 V308 J Rr) fun V309 => rdb (up2 V309 c295 3 z296) fun V310 => jf293 V310) fun jf305 => (if ¬ z303 = 0 then jf305 V302 else calUX (fun i k : Nat => (105 ≤ i ∧ i ≤ 123) ∨ (69 ≤ i ∧ i ≤ 71) ∨ (39 ≤ i ∧ i ≤ 57)) V302 (f_s_go3 (x3 + 1) x4 V302 J Rr) fun V312 => jf305 V312) else jf293 V182) else rdb (wr (x4 + 1)) fun z313 => rdb (V182 105 6) fun z314 => jnk (fun (V336 : Nat → Nat → Int) => rc182 (z181 - 1) V336) fun jf336 => (if z313 ≤ z314 then rdb (V182 107 z181.toNat) fun z338 => fct (0 ≤ z338 ∧ z338 ≤ 7) <| rdb (39 + 11 + 1 * z338.toNat) fun c339 => rdb (V182 c339 3) fun z340 => rdb (V182 105 5) fun z341 => fct (0 ≤ z341 ∧ z341 ≤ 3) <| calUX (fun i k : Nat => (69 ≤ i ∧ i ≤ 71) ∨ (39 ≤ i ∧ i ≤ 39 + 18)) V182 (f_s_giveTo 39 z338 z341 V182 J Rr) fun V342 => rdb (V342 105 5) fun z343 => fct (0 ≤ z343 ∧ z343 ≤ 3) <| calUX (fun i k : Nat => (69 ≤ i ∧ i ≤ 71) ∨ (39 ≤ i ∧ i ≤ 39 + 18)) V342 (f_s_endDay 39 z343 0 V342 J Rr) fun V344 => rdb (V344 39 3) fun z345 => rdb (wr (z345 + 1)) fun z346 => rdb (up2 V344 39 3 z346) fun V347 => rdb (up2 V347 108 x3.toNat z181) fun V348 => calR (f_s_isDeadP c2 V348 J Rr) fun z349 => fct (0 ≤ z349 ∧ z349 ≤ 1) <| jnk (fun (V351 : Nat → Nat → Int) => rdb (V351 39 3) fun z352 => rdb (wr (z352 - 1)) fun z353 => rdb (up2 V351 39 3 z353) fun V354 => calUX (fun i k : Nat => (c2 ≤ i ∧ i ≤ c2 + 1)) V354 (f_s_copyP c2 c3 V354 J Rr) fun V355 => rdb (up2 V355 c339 3 z340) fun V356 => jf336 V356) fun jf351 => (if ¬ z349 = 0 then jf351 V348 else calUX (fun i k : Nat => (105 ≤ i ∧ i ≤ 123) ∨ (69 ≤ i ∧ i ≤ 71) ∨ (39 ≤ i ∧ i ≤ 57)) V348 (f_s_go3 (x3 + 1) z313 V348 J Rr) fun V358 => jf351 V358) else jf336 V182)))) z5 V4
set_option maxHeartbeats 8000000 in
set_option maxRecDepth 100000 in
theorem s_go2 (l : Launch) (D : va_G) (cy : Nat → ClassId) (ad : Nat → Nat) (G : Nat → Nat → Int) (V J : Nat → Nat → Int) (Rr : Nat → Nat → Nat) (hI : XI G V) (hJ : VJ J) (hR : XR Rr) (x3 : Int) (bx3 : 2 ≤ x3 ∧ x3 ≤ 2) (x4 : Int) (bx4 : -2147483648 ≤ x4 ∧ x4 ≤ 2147483647) : xMv l D (xTY cy) yX10_go cX10_go 11 none 9 245 0 0 [.ref (ad 105), .ref (ad 39), .ref (ad 60), vI x3, vI x4] (XW cy ad V J Rr) (fun u : Nat → Nat → Int => XW cy ad u J Rr) (fun u : Nat → Nat → Int => XI G u ∧ FB (fun i k : Nat => (105 ≤ i ∧ i ≤ 123) ∨ (69 ≤ i ∧ i ≤ 71) ∨ (39 ≤ i ∧ i ≤ 57)) V u ∧ (f_s_go2 x3 x4 V J Rr) u) := by
  refine xMv.mk (lv0 := [(0, .ref (ad 105)), (1, .ref (ad 39)), (2, .ref (ad 60)), (3, vI x3), (4, vI x4)]) (by decide) rfl (Nat.le_of_ble_eq_true rfl) (fun p e s m below meth c A C hr hnm hAe => ?_)
  have C : xC2 p s m _ meth c D A s.heap 11 cX10_go RX10 (xTY cy) := C
  have hB : FB (fun i k : Nat => (105 ≤ i ∧ i ≤ 123) ∨ (69 ≤ i ∧ i ≤ 71) ∨ (39 ≤ i ∧ i ≤ 57)) V V := FB.rf _ _
  have hF := Imp.of_eq (f_s_go2.eq_def x3 x4 V J Rr)
  refine x_aload_n C.1 dX10_go_0 1 rfl ?_
  refine x_getA C (N := 129) (i := 39) (by omega) (xd_L (Or.inr (Or.inr rfl))) vc_X3 wx_X3 0 (by decide) wf_X10_63 (a := 40) rfl dX10_go_1 ?_
  refine x_aload_n C.1 dX10_go_4 0 rfl ?_
  obtain ⟨z1, ez1, bz1⟩ := hI.rd 105 5 (x := 0) (y := 3) rfl
  replace hF := hF.to (rdb_e (z := z1) ez1)
  replace hF := hF.fc bz1
  refine x_getI C (N := 129) (i := 105) (by decide) rfl vc_X10 wx_X10 5 (by decide) wf_X10_28 rfl dX10_go_5 (a := z1) ez1 ?_
  obtain ⟨c2, ec2, hc2⟩ : ∃ cx : Nat, 39 + 3 + 2 * z1.toNat = cx ∧ isPl cx := ⟨_, rfl, isPl_L (Or.inr (Or.inr rfl)) (by omega)⟩
  replace hF := hF.to (rdb_e (z := c2) ec2)
  refine x_aldS C (N := 129) (i := 40) (q := z1) (t := 4) rfl (by omega) (xd_La (Or.inr (Or.inr rfl))) (by omega) (by decide) dX10_go_8 (a := c2) ec2 ?_
  refine x_astore C.1 (lv' := [(5, .ref (ad c2)), (0, .ref (ad 105)), (1, .ref (ad 39)), (2, .ref (ad 60)), (3, vI x3), (4, vI x4)]) dX10_go_9 (by decide) rfl ?_
  refine x_iload_n C.1 dX10_go_11 4 rfl ?_
  refine x_bipush C.1 (n := 7) dX10_go_12 ?_
  refine x_icmp_lt_t C.1 (tgt := 29) dX10_go_14 (by decide) (by omega) (by decide) (by omega) ?_
  refine x_aload_n C.1 dX10_go_29 1 rfl ?_
  refine x_getA C (N := 129) (i := 105) (by decide) rfl vc_X10 wx_X10 0 (by decide) wf_X10_11 (a := 106) rfl dX10_go_30 ?_
  refine x_iload_n C.1 dX10_go_33 4 rfl ?_
  obtain ⟨c3, ec3, hc3⟩ : ∃ cx : Nat, 110 + 2 * x3.toNat = cx ∧ isPl cx := ⟨_, rfl, isPl_Wk (by omega)⟩
  replace hF := hF.to (rdb_e (z := c3) ec3)
  refine x_aldS C (N := 129) (i := 106) (q := x3) (t := 4) rfl (by decide) rfl (by omega) (by decide) dX10_go_34 (a := c3) ec3 ?_
  refine x_aload C.1 dX10_go_35 0 rfl ?_
  refine x_callVv C (As := [.ref (ad c2)]) (rest := []) c3 (xw_at (N := 129) (i := c3) (Nat.lt_of_succ_lt hc3.1) hc3.2.1) vc_X5 (s_copyP l D cy ad G V J Rr hI hJ hR c3 hc3 c2 hc2 (fun k => pr_Wk ec3 (by omega) k)) (l1 := []) (l2 := []) (List.append_nil _).symm (w2 := fun u : Nat → Nat → Int => XW cy ad u J Rr) (fun _ => List.append_nil _) rfl wm_yX5_copy wn_X5 wl_X10_71 wi_yX5_copy we_yX5_copy hd_yX5_copy rfl ⟨Nat.le_of_ble_eq_true rfl, Nat.le_of_ble_eq_true rfl⟩ (Nat.le_of_ble_eq_true rfl) ⟨Nat.le_of_ble_eq_true rfl, Nat.le_of_ble_eq_true rfl⟩ dX10_go_37 (fun V4 h4 => ?_)
  obtain ⟨hI4, hBc4, hFc4⟩ := h4
  replace hF := calUX_i hF hFc4 hBc4
  have hB4 := hB.tr hBc4 (fun i k h => (Or.inl (⟨by omega, by omega⟩)))
  refine x_aload_n C.1 dX10_go_40 1 rfl ?_
  obtain ⟨z5, ez5, bz5⟩ := hI4.rd 105 4 (x := 0) (y := 3) rfl
  replace hF := hF.to (rdb_e (z := z5) ez5)
  replace hF := hF.fc bz5
  refine x_getI C (N := 129) (i := 105) (by decide) rfl vc_X10 wx_X10 4 (by decide) wf_X10_38 rfl dX10_go_41 (a := z5) ez5 ?_
  refine x_istore C.1 (lv' := [(6, vI z5), (5, .ref (ad c2)), (0, .ref (ad 105)), (1, .ref (ad 39)), (2, .ref (ad 60)), (3, vI x3), (4, vI x4)]) dX10_go_44 (by decide) rfl ?_
  obtain ⟨bd182, hbd182, hF⟩ := lop2_ex hF
  refine x_loop (I := fun x : Int × (Nat → Nat → Int) => match x with | (z181, V182) => (-1 ≤ z181 ∧ z181 ≤ 3) ∧ XI G V182 ∧ FB (fun i k : Nat => (105 ≤ i ∧ i ≤ 123) ∨ (69 ≤ i ∧ i ≤ 71) ∨ (39 ≤ i ∧ i ≤ 57)) V V182 ∧ (∃ nf : Nat, (z181 - (-2)).toNat < nf ∧ Imp (lop2 nf bd182 z181 V182) (f_s_go2 x3 x4 V J Rr))) (μ := fun x : Int × (Nat → Nat → Int) => match x with | (z181, V182) => (z181 - (-2)).toNat) (wsf := fun x : Int × (Nat → Nat → Int) => match x with | (z181, V182) => XW cy ad V182 J Rr) (lvf := fun x : Int × (Nat → Nat → Int) => match x with | (z181, V182) => [(6, vI z181), (5, .ref (ad c2)), (0, .ref (ad 105)), (1, .ref (ad 39)), (2, .ref (ad 60)), (3, vI x3), (4, vI x4)]) (fun x hI182x ih182 => ?_) (z5, V4) ⟨⟨by omega, by omega⟩, hI4, hB4, ⟨_, (by omega), hF⟩⟩ rfl rfl
  obtain ⟨z181, V182⟩ := x
  obtain ⟨bz181, hI182, hB182, nf182, hn182, hF⟩ := hI182x
  try dsimp only
  obtain ⟨nf182, rfl⟩ : ∃ mm, nf182 = mm + 1 := ⟨nf182 - 1, (Nat.succ_pred_eq_of_pos (Nat.lt_of_le_of_lt (Nat.zero_le _) hn182)).symm⟩
  replace hF := hF.to (lop2_s hbd182)
  refine x_iload C.1 dX10_go_46 0 rfl ?_
  refine x_if_lt C.1 (tgt := 226) dX10_go_48 (by decide) (by omega) (fun hc271 => ?_) (fun hc271 => ?_)
  · replace hF := hF.to (if_pos hc271)
    exact x_vret (S := (Nat → Nat → Int)) (post := (fun u : Nat → Nat → Int => XI G u ∧ FB (fun i k : Nat => (105 ≤ i ∧ i ≤ 123) ∨ (69 ≤ i ∧ i ≤ 71) ∨ (39 ≤ i ∧ i ≤ 57)) V u ∧ (f_s_go2 x3 x4 V J Rr) u)) (w1 := (fun u : Nat → Nat → Int => XW cy ad u J Rr)) C hr rfl dX10_go_226 V182 rfl ⟨hI182, hB182, hF _ rfl⟩
  · replace hF := hF.to (if_neg hc271)
    refine x_iload C.1 dX10_go_51 0 rfl ?_
    refine x_aload_n C.1 dX10_go_53 2 rfl ?_
    obtain ⟨z272, ez272, bz272⟩ := hI182.rd 105 4 (x := 0) (y := 3) rfl
    replace hF := hF.to (rdb_e (z := z272) ez272)
    replace hF := hF.fc bz272
    refine x_getI C (N := 129) (i := 105) (by decide) rfl vc_X10 wx_X10 4 (by decide) wf_X10_38 rfl dX10_go_54 (a := z272) ez272 ?_
    refine x_icmp_ge C.1 (tgt := 64) dX10_go_57 (by decide) (by omega) (by omega) (fun hc273 => ?_) (fun hc273 => ?_)
    · replace hF := hF.to (if_pos hc273)
      refine x_iconst C.1 (n := 0) dX10_go_64 ?_
      refine x_istore C.1 (lv' := [(7, vI 0), (6, vI z181), (5, .ref (ad c2)), (0, .ref (ad 105)), (1, .ref (ad 39)), (2, .ref (ad 60)), (3, vI x3), (4, vI x4)]) dX10_go_65 (by decide) rfl ?_
      refine x_iload C.1 dX10_go_67 7 rfl ?_
      refine x_iload C.1 dX10_go_69 0 rfl ?_
      refine x_if_eq_t C.1 (tgt := 78) dX10_go_71 (by decide) (by decide) (by decide) ?_
      refine x_iconst C.1 (n := 0) dX10_go_78 ?_
      refine x_iadd C.1 (v := x4) (by omega) dX10_go_79 ?_
      refine x_istore C.1 (lv' := [(8, vI x4), (7, vI 0), (6, vI z181), (5, .ref (ad c2)), (0, .ref (ad 105)), (1, .ref (ad 39)), (2, .ref (ad 60)), (3, vI x3), (4, vI x4)]) dX10_go_80 (by decide) rfl ?_
      refine x_iload C.1 dX10_go_82 0 rfl ?_
      refine x_aload_n C.1 dX10_go_84 4 rfl ?_
      obtain ⟨z274, ez274, bz274⟩ := hI182.rd 105 6 (x := -2147483648) (y := 2147483647) rfl
      replace hF := hF.to (rdb_e (z := z274) ez274)
      refine x_getI C (N := 129) (i := 105) (by decide) rfl vc_X10 wx_X10 6 (by decide) wf_X10_47 rfl dX10_go_85 (a := z274) ez274 ?_
      obtain ⟨jf293, hjf293, hF⟩ := jn_ex hF
      refine x_join (I := fun V293 : (Nat → Nat → Int) => XI G V293 ∧ FB (fun i k : Nat => (105 ≤ i ∧ i ≤ 123) ∨ (69 ≤ i ∧ i ≤ 71) ∨ (39 ≤ i ∧ i ≤ 57)) V V293 ∧ Imp (jf293 V293) (f_s_go2 x3 x4 V J Rr)) (wsf := fun V293 : (Nat → Nat → Int) => XW cy ad V293 J Rr) (lvf := fun V293 : (Nat → Nat → Int) => [(8, vI x4), (7, vI 0), (6, vI z181), (5, .ref (ad c2)), (0, .ref (ad 105)), (1, .ref (ad 39)), (2, .ref (ad 60)), (3, vI x3), (4, vI x4)]) (stf := fun V293 : (Nat → Nat → Int) => []) 220 (fun V293 hI293x => ?_) (fun jn293 => ?_)
      · obtain ⟨hI293, hB293, hF⟩ := hI293x
        try dsimp only
        replace hF := hF.to (jn_s1 hjf293)
        refine x_iinc C.1 (v := z181 - 1) (lv' := [(6, vI (z181 - 1)), (8, vI x4), (7, vI 0), (5, .ref (ad c2)), (0, .ref (ad 105)), (1, .ref (ad 39)), (2, .ref (ad 60)), (3, vI x3), (4, vI x4)]) (by omega) dX10_go_220 2 rfl (by decide) rfl ?_
        refine x_goto C.1 (tgt := 46) dX10_go_223 (by decide) ?_
        refine x_lv [(6, vI (z181 - 1)), (5, .ref (ad c2)), (0, .ref (ad 105)), (1, .ref (ad 39)), (2, .ref (ad 60)), (3, vI x3), (4, vI x4)] [0, 3, 4, 5, 6, 7, 8] rfl ?_
        have hmu182 : ((z181 - 1) - (-2)).toNat < (z181 - (-2)).toNat := (by omega)
        exact ih182 (z181 - 1, V293) ⟨⟨by omega, by omega⟩, hI293, hB293, ⟨nf182, Nat.lt_of_lt_of_le hmu182 (Nat.le_of_lt_succ hn182), hF⟩⟩ hmu182
      · refine x_icmp_le C.1 (tgt := 94) dX10_go_88 (by decide) (by omega) (by omega) (fun hc294 => ?_) (fun hc294 => ?_)
        · replace hF := hF.to (if_pos hc294)
          refine x_iload C.1 dX10_go_94 1 rfl ?_
          refine x_if_eq_t C.1 (tgt := 109) dX10_go_96 (by decide) (by decide) (by decide) ?_
          refine x_iconst C.1 (n := 0) dX10_go_109 ?_
          refine x_istore C.1 (lv' := [(9, vI 0), (8, vI x4), (7, vI 0), (6, vI z181), (5, .ref (ad c2)), (0, .ref (ad 105)), (1, .ref (ad 39)), (2, .ref (ad 60)), (3, vI x3), (4, vI x4)]) dX10_go_110 (by decide) rfl ?_
          refine x_aload_n C.1 dX10_go_112 6 rfl ?_
          refine x_getA C (N := 129) (i := 39) (by omega) (xd_L (Or.inr (Or.inr rfl))) vc_X3 wx_X3 1 (by decide) wf_X10_75 (a := 41) rfl dX10_go_113 ?_
          refine x_iload C.1 dX10_go_116 0 rfl ?_
          obtain ⟨c295, ec295, hc295⟩ : ∃ cx : Nat, 39 + 11 + 1 * 0 = cx ∧ isPe cx := ⟨_, rfl, isPe_L (Or.inr (Or.inr rfl)) (by decide)⟩
          replace hF := hF.to (rdb_e (z := c295) ec295)
          refine x_aldS C (N := 129) (i := 41) (q := 0) (t := 5) rfl (by omega) (xd_Lb (Or.inr (Or.inr rfl))) (by decide) (by decide) dX10_go_118 (a := c295) ec295 ?_
          obtain ⟨z296, ez296, bz296⟩ := hI182.rd c295 3 (x := -2147483648) (y := 2147483647) (rg_E hc295 3)
          replace hF := hF.to (rdb_e (z := z296) ez296)
          refine x_getI C (N := 129) (i := c295) hc295.1 hc295.2 vc_X4 wx_X4 3 (by decide) wf_X10_79 rfl dX10_go_119 (a := z296) ez296 ?_
          refine x_istore C.1 (lv' := [(10, vI z296), (9, vI 0), (8, vI x4), (7, vI 0), (6, vI z181), (5, .ref (ad c2)), (0, .ref (ad 105)), (1, .ref (ad 39)), (2, .ref (ad 60)), (3, vI x3), (4, vI x4)]) dX10_go_122 (by decide) rfl ?_
          refine x_iload C.1 dX10_go_124 3 rfl ?_
          refine x_if_eq_t C.1 (tgt := 140) dX10_go_126 (by decide) (by decide) (by decide) ?_
          refine x_aload_n C.1 dX10_go_140 7 rfl ?_
          refine x_aload_n C.1 dX10_go_141 8 rfl ?_
          refine x_aload_n C.1 dX10_go_142 6 rfl ?_
          obtain ⟨z297, ez297, bz297⟩ := hI182.rd 105 5 (x := 0) (y := 3) rfl
          replace hF := hF.to (rdb_e (z := z297) ez297)
          replace hF := hF.fc bz297
          refine x_getI C (N := 129) (i := 105) (by decide) rfl vc_X10 wx_X10 5 (by decide) wf_X10_28 rfl dX10_go_143 (a := z297) ez297 ?_
          refine x_iconst C.1 (n := 0) dX10_go_146 ?_
          refine x_callVv C (As := [.ref (ad 60), vI z297, vI 0]) (rest := []) 39 (xw_at (N := 129) (i := 39) (by omega) (xd_L (Or.inr (Or.inr rfl)))) vc_X3 (s_endDay l D cy ad G V182 J Rr hI182 hJ hR 39 (Or.inr (Or.inr rfl)) z297 ⟨by omega, by omega⟩ 0 ⟨by decide, by decide⟩) (l1 := []) (l2 := []) (List.append_nil _).symm (w2 := fun u : Nat → Nat → Int => XW cy ad u J Rr) (fun _ => List.append_nil _) rfl wm_yX3_endDay wn_X3 wl_X10_88 wi_yX3_endDay we_yX3_endDay hd_yX3_endDay rfl ⟨Nat.le_of_ble_eq_true rfl, Nat.le_of_ble_eq_true rfl⟩ (Nat.le_of_ble_eq_true rfl) ⟨Nat.le_of_ble_eq_true rfl, Nat.le_of_ble_eq_true rfl⟩ dX10_go_147 (fun V298 h298 => ?_)
          obtain ⟨hI298, hBc298, hFc298⟩ := h298
          replace hF := calUX_i hF hFc298 hBc298
          have hB298 := hB182.tr hBc298 (fun i k h => (h.elim (fun h => (Or.inr (Or.inl h))) (fun h => (Or.inr (Or.inr (⟨by omega, by omega⟩))))))
          refine x_aload_n C.1 dX10_go_150 7 rfl ?_
          refine x_dup C.1 dX10_go_151 rfl ?_
          obtain ⟨z299, ez299, bz299⟩ := hI298.rd 39 3 (x := -2147483648) (y := 2147483647) (rg_L (Or.inr (Or.inr rfl)) _)
          replace hF := hF.to (rdb_e (z := z299) ez299)
          refine x_getI C (N := 129) (i := 39) (by omega) (xd_L (Or.inr (Or.inr rfl))) vc_X3 wx_X3 3 (by decide) wf_X10_92 rfl dX10_go_152 (a := z299) ez299 ?_
          refine x_iconst C.1 (n := 1) dX10_go_155 ?_
          refine x_iadd C.1 (v := z299 + 1) (by omega) dX10_go_156 ?_
          refine x_wrapg ?_
          intro z300 bz300 ew300
          replace hF := hF.to (rdb_e (z := z300) ew300.symm)
          refine x_putI C (N := 129) (i := 39) (by omega) (xd_L (Or.inr (Or.inr rfl))) vc_X3 wx_X3 3 (by decide) wf_X10_92 tyX3 tyX3_ok nmX3 rfl (tyX3_ok 3 (by decide)) rfl dX10_go_157 rfl rfl ?_
          refine x_gV ?_
          intro V301 hV301
          have hI301 : XI G V301 := hI298.up hV301 (rg_L (Or.inr (Or.inr rfl)) _) (by omega) (pr_L (Or.inr (Or.inr rfl)) _)
          have hB301 := hB298.up hV301 (Or.inr (Or.inr (⟨by decide, by decide⟩)))
          replace hF := hF.to (rdb_e (z := V301) hV301.symm)
          refine x_aload_n C.1 dX10_go_160 6 rfl ?_
          refine x_getA C (N := 129) (i := 105) (by decide) rfl vc_X10 wx_X10 2 (by decide) wf_X10_21 (a := 108) rfl dX10_go_161 ?_
          refine x_iload_n C.1 dX10_go_164 9 rfl ?_
          refine x_iload C.1 dX10_go_165 4 rfl ?_
          refine x_iast C (N := 129) (i := 108) (q := x3) (a := z181) (by decide) rfl (by omega) (by decide) dX10_go_167 ?_
          refine x_gV ?_
          intro V302 hV302
          have hI302 : XI G V302 := hI301.up hV302 rfl (by omega) rfl
          have hB302 := hB301.up hV302 (Or.inl (⟨by decide, by decide⟩))
          replace hF := hF.to (rdb_e (z := V302) hV302.symm)
          refine x_aload C.1 dX10_go_168 5 rfl ?_
          refine x_callVi C (As := []) (rest := []) c2 (xw_at (N := 129) (i := c2) (Nat.lt_of_succ_lt hc2.1) hc2.2.1) vc_X5 (s_isDeadP l D cy ad G V302 J Rr hI302 hJ hR c2 hc2) (l1 := []) (l2 := []) (List.append_nil _).symm (w2 := fun _ => XW cy ad V302 J Rr) (fun _ => List.append_nil _) rfl wm_yX5_isDead wn_X5 wl_X10_95 wi_yX5_isDead we_yX5_isDead hd_yX5_isDead rfl ⟨Nat.le_of_ble_eq_true rfl, Nat.le_of_ble_eq_true rfl⟩ (Nat.le_of_ble_eq_true rfl) ⟨Nat.le_of_ble_eq_true rfl, Nat.le_of_ble_eq_true rfl⟩ dX10_go_170 (fun z303 u303 bz303 h303 => ?_)
          obtain ⟨bq303, hFc303⟩ := h303
          replace hF := calR_i hF hFc303
          replace hF := hF.fc bq303
          obtain ⟨jf305, hjf305, hF⟩ := jn_ex hF
          refine x_join (I := fun V305 : (Nat → Nat → Int) => XI G V305 ∧ FB (fun i k : Nat => (105 ≤ i ∧ i ≤ 123) ∨ (69 ≤ i ∧ i ≤ 71) ∨ (39 ≤ i ∧ i ≤ 57)) V V305 ∧ Imp (jf305 V305) (f_s_go2 x3 x4 V J Rr)) (wsf := fun V305 : (Nat → Nat → Int) => XW cy ad V305 J Rr) (lvf := fun V305 : (Nat → Nat → Int) => [(10, vI z296), (9, vI 0), (8, vI x4), (7, vI 0), (6, vI z181), (5, .ref (ad c2)), (0, .ref (ad 105)), (1, .ref (ad 39)), (2, .ref (ad 60)), (3, vI x3), (4, vI x4)]) (stf := fun V305 : (Nat → Nat → Int) => []) 187 (fun V305 hI305x => ?_) (fun jn305 => ?_)
          · obtain ⟨hI305, hB305, hF⟩ := hI305x
            try dsimp only
            replace hF := hF.to (jn_s1 hjf305)
            refine x_aload_n C.1 dX10_go_187 7 rfl ?_
            refine x_dup C.1 dX10_go_188 rfl ?_
            obtain ⟨z306, ez306, bz306⟩ := hI305.rd 39 3 (x := -2147483648) (y := 2147483647) (rg_L (Or.inr (Or.inr rfl)) _)
            replace hF := hF.to (rdb_e (z := z306) ez306)
            refine x_getI C (N := 129) (i := 39) (by omega) (xd_L (Or.inr (Or.inr rfl))) vc_X3 wx_X3 3 (by decide) wf_X10_92 rfl dX10_go_189 (a := z306) ez306 ?_
            refine x_iconst C.1 (n := 1) dX10_go_192 ?_
            refine x_isub C.1 (v := z306 - 1) (by omega) dX10_go_193 ?_
            refine x_wrapg ?_
            intro z307 bz307 ew307
            replace hF := hF.to (rdb_e (z := z307) ew307.symm)
            refine x_putI C (N := 129) (i := 39) (by omega) (xd_L (Or.inr (Or.inr rfl))) vc_X3 wx_X3 3 (by decide) wf_X10_92 tyX3 tyX3_ok nmX3 rfl (tyX3_ok 3 (by decide)) rfl dX10_go_194 rfl rfl ?_
            refine x_gV ?_
            intro V308 hV308
            have hI308 : XI G V308 := hI305.up hV308 (rg_L (Or.inr (Or.inr rfl)) _) (by omega) (pr_L (Or.inr (Or.inr rfl)) _)
            have hB308 := hB305.up hV308 (Or.inr (Or.inr (⟨by decide, by decide⟩)))
            replace hF := hF.to (rdb_e (z := V308) hV308.symm)
            refine x_aload C.1 dX10_go_197 5 rfl ?_
            refine x_aload_n C.1 dX10_go_199 6 rfl ?_
            refine x_getA C (N := 129) (i := 105) (by decide) rfl vc_X10 wx_X10 0 (by decide) wf_X10_11 (a := 106) rfl dX10_go_200 ?_
            refine x_iload_n C.1 dX10_go_203 9 rfl ?_
            refine x_aldS C (N := 129) (i := 106) (q := x3) (t := 4) rfl (by decide) rfl (by omega) (by decide) dX10_go_204 (a := c3) ec3 ?_
            refine x_callVv C (As := [.ref (ad c3)]) (rest := []) c2 (xw_at (N := 129) (i := c2) (Nat.lt_of_succ_lt hc2.1) hc2.2.1) vc_X5 (s_copyP l D cy ad G V308 J Rr hI308 hJ hR c2 hc2 c3 hc3 (fun k => pr_39 ec2 (by omega) k)) (l1 := []) (l2 := []) (List.append_nil _).symm (w2 := fun u : Nat → Nat → Int => XW cy ad u J Rr) (fun _ => List.append_nil _) rfl wm_yX5_copy wn_X5 wl_X10_71 wi_yX5_copy we_yX5_copy hd_yX5_copy rfl ⟨Nat.le_of_ble_eq_true rfl, Nat.le_of_ble_eq_true rfl⟩ (Nat.le_of_ble_eq_true rfl) ⟨Nat.le_of_ble_eq_true rfl, Nat.le_of_ble_eq_true rfl⟩ dX10_go_205 (fun V309 h309 => ?_)
            obtain ⟨hI309, hBc309, hFc309⟩ := h309
            replace hF := calUX_i hF hFc309 hBc309
            have hB309 := hB308.tr hBc309 (fun i k h => (Or.inr (Or.inr (⟨by omega, by omega⟩))))
            refine x_aload_n C.1 dX10_go_208 7 rfl ?_
            refine x_getA C (N := 129) (i := 39) (by omega) (xd_L (Or.inr (Or.inr rfl))) vc_X3 wx_X3 1 (by decide) wf_X10_75 (a := 41) rfl dX10_go_209 ?_
            refine x_iload C.1 dX10_go_212 1 rfl ?_
            refine x_aldS C (N := 129) (i := 41) (q := 0) (t := 5) rfl (by omega) (xd_Lb (Or.inr (Or.inr rfl))) (by decide) (by decide) dX10_go_214 (a := c295) ec295 ?_
            refine x_iload C.1 dX10_go_215 0 rfl ?_
            refine x_putI C (N := 129) (i := c295) hc295.1 hc295.2 vc_X4 wx_X4 3 (by decide) wf_X10_79 tyX4 tyX4_ok nmX4 rfl (tyX4_ok 3 (by decide)) rfl dX10_go_217 rfl rfl ?_
            refine x_gV ?_
            intro V310 hV310
            have hI310 : XI G V310 := hI309.up hV310 (rg_E hc295 3) (by omega) (pr_E hc295 _)
            have hB310 := hB309.up hV310 (Or.inr (Or.inr (⟨by omega, by omega⟩)))
            replace hF := hF.to (rdb_e (z := V310) hV310.symm)
            refine x_lv [(8, vI x4), (7, vI 0), (6, vI z181), (5, .ref (ad c2)), (0, .ref (ad 105)), (1, .ref (ad 39)), (2, .ref (ad 60)), (3, vI x3), (4, vI x4)] [2, 3, 4, 5, 6, 7, 8, 9, 10] rfl ?_
            exact jn293 V310 ⟨hI310, hB310, hF⟩
          · refine x_if_ne C.1 (tgt := 187) dX10_go_173 (by decide) (by omega) (fun hc311 => ?_) (fun hc311 => ?_)
            · replace hF := hF.to (if_pos hc311)
              exact jn305 V302 ⟨hI302, hB302, hF⟩
            · replace hF := hF.to (if_neg (fun hh => hh hc311))
              refine x_aload_n C.1 dX10_go_176 6 rfl ?_
              refine x_aload_n C.1 dX10_go_177 7 rfl ?_
              refine x_aload_n C.1 dX10_go_178 8 rfl ?_
              refine x_iload_n C.1 dX10_go_179 9 rfl ?_
              refine x_iconst C.1 (n := 1) dX10_go_180 ?_
              refine x_iadd C.1 (v := x3 + 1) (by omega) dX10_go_181 ?_
              refine x_iload C.1 dX10_go_182 2 rfl ?_
              refine x_callSv C (As := [.ref (ad 105), .ref (ad 39), .ref (ad 60), vI (x3 + 1), vI x4]) (rest := []) (s_go3 l D cy ad G V302 J Rr hI302 hJ hR (x3 + 1) ⟨by omega, by omega⟩ x4 ⟨by omega, by omega⟩) (l1 := []) (l2 := []) (List.append_nil _).symm (w2 := fun u : Nat → Nat → Int => XW cy ad u J Rr) (fun _ => List.append_nil _) rfl wm_yX10_go wn_X10 wl_X10_50 wi_yX10_go hd_yX10_go rfl ⟨Nat.le_of_ble_eq_true rfl, Nat.le_of_ble_eq_true rfl⟩ (Nat.le_of_ble_eq_true rfl) ⟨Nat.le_of_ble_eq_true rfl, Nat.le_of_ble_eq_true rfl⟩ dX10_go_184 (fun V312 h312 => ?_)
              obtain ⟨hI312, hBc312, hFc312⟩ := h312
              replace hF := calUX_i hF hFc312 hBc312
              have hB312 := hB302.tr hBc312 (fun i k h => (h.elim (fun h => (Or.inl h)) (fun h => (h.elim (fun h => (Or.inr (Or.inl h))) (fun h => (Or.inr (Or.inr (h))))))))
              exact jn305 V312 ⟨hI312, hB312, hF⟩
        · replace hF := hF.to (if_neg hc294)
          refine x_goto C.1 (tgt := 220) dX10_go_91 (by decide) ?_
          exact jn293 V182 ⟨hI182, hB182, hF⟩
    · replace hF := hF.to (if_neg hc273)
      refine x_iconst C.1 (n := 1) dX10_go_60 ?_
      refine x_goto C.1 (tgt := 65) dX10_go_61 (by decide) ?_
      refine x_istore C.1 (lv' := [(7, vI 1), (6, vI z181), (5, .ref (ad c2)), (0, .ref (ad 105)), (1, .ref (ad 39)), (2, .ref (ad 60)), (3, vI x3), (4, vI x4)]) dX10_go_65 (by decide) rfl ?_
      refine x_iload C.1 dX10_go_67 7 rfl ?_
      refine x_iload C.1 dX10_go_69 0 rfl ?_
      refine x_if_eq_f C.1 (tgt := 78) dX10_go_71 (by decide) (by decide) (by decide) ?_
      refine x_iconst C.1 (n := 1) dX10_go_74 ?_
      refine x_goto C.1 (tgt := 79) dX10_go_75 (by decide) ?_
      refine x_iadd C.1 (v := x4 + 1) (by omega) dX10_go_79 ?_
      refine x_wrapg ?_
      intro z313 bz313 ew313
      replace hF := hF.to (rdb_e (z := z313) ew313.symm)
      refine x_istore C.1 (lv' := [(8, vI z313), (7, vI 1), (6, vI z181), (5, .ref (ad c2)), (0, .ref (ad 105)), (1, .ref (ad 39)), (2, .ref (ad 60)), (3, vI x3), (4, vI x4)]) dX10_go_80 (by decide) rfl ?_
      refine x_iload C.1 dX10_go_82 0 rfl ?_
      refine x_aload_n C.1 dX10_go_84 4 rfl ?_
      obtain ⟨z314, ez314, bz314⟩ := hI182.rd 105 6 (x := -2147483648) (y := 2147483647) rfl
      replace hF := hF.to (rdb_e (z := z314) ez314)
      refine x_getI C (N := 129) (i := 105) (by decide) rfl vc_X10 wx_X10 6 (by decide) wf_X10_47 rfl dX10_go_85 (a := z314) ez314 ?_
      obtain ⟨jf336, hjf336, hF⟩ := jn_ex hF
      refine x_join (I := fun V336 : (Nat → Nat → Int) => XI G V336 ∧ FB (fun i k : Nat => (105 ≤ i ∧ i ≤ 123) ∨ (69 ≤ i ∧ i ≤ 71) ∨ (39 ≤ i ∧ i ≤ 57)) V V336 ∧ Imp (jf336 V336) (f_s_go2 x3 x4 V J Rr)) (wsf := fun V336 : (Nat → Nat → Int) => XW cy ad V336 J Rr) (lvf := fun V336 : (Nat → Nat → Int) => [(8, vI z313), (7, vI 1), (6, vI z181), (5, .ref (ad c2)), (0, .ref (ad 105)), (1, .ref (ad 39)), (2, .ref (ad 60)), (3, vI x3), (4, vI x4)]) (stf := fun V336 : (Nat → Nat → Int) => []) 220 (fun V336 hI336x => ?_) (fun jn336 => ?_)
      · obtain ⟨hI336, hB336, hF⟩ := hI336x
        try dsimp only
        replace hF := hF.to (jn_s1 hjf336)
        refine x_iinc C.1 (v := z181 - 1) (lv' := [(6, vI (z181 - 1)), (8, vI z313), (7, vI 1), (5, .ref (ad c2)), (0, .ref (ad 105)), (1, .ref (ad 39)), (2, .ref (ad 60)), (3, vI x3), (4, vI x4)]) (by omega) dX10_go_220 2 rfl (by decide) rfl ?_
        refine x_goto C.1 (tgt := 46) dX10_go_223 (by decide) ?_
        refine x_lv [(6, vI (z181 - 1)), (5, .ref (ad c2)), (0, .ref (ad 105)), (1, .ref (ad 39)), (2, .ref (ad 60)), (3, vI x3), (4, vI x4)] [0, 3, 4, 5, 6, 7, 8] rfl ?_
        have hmu182 : ((z181 - 1) - (-2)).toNat < (z181 - (-2)).toNat := (by omega)
        exact ih182 (z181 - 1, V336) ⟨⟨by omega, by omega⟩, hI336, hB336, ⟨nf182, Nat.lt_of_lt_of_le hmu182 (Nat.le_of_lt_succ hn182), hF⟩⟩ hmu182
      · refine x_icmp_le C.1 (tgt := 94) dX10_go_88 (by decide) (by omega) (by omega) (fun hc337 => ?_) (fun hc337 => ?_)
        · replace hF := hF.to (if_pos hc337)
          refine x_iload C.1 dX10_go_94 1 rfl ?_
          refine x_if_eq_f C.1 (tgt := 109) dX10_go_96 (by decide) (by decide) (by decide) ?_
          refine x_aload_n C.1 dX10_go_99 4 rfl ?_
          refine x_getA C (N := 129) (i := 105) (by decide) rfl vc_X10 wx_X10 1 (by decide) wf_X10_17 (a := 107) rfl dX10_go_100 ?_
          refine x_iload C.1 dX10_go_103 2 rfl ?_
          obtain ⟨z338, ez338, bz338⟩ := hI182.rd 107 z181.toNat (x := 0) (y := 7) rfl
          replace hF := hF.to (rdb_e (z := z338) ez338)
          replace hF := hF.fc bz338
          refine x_iald C (N := 129) (i := 107) (q := z181) (by decide) rfl (by omega) (by decide) dX10_go_105 (a := z338) ez338 ?_
          refine x_goto C.1 (tgt := 110) dX10_go_106 (by decide) ?_
          refine x_istore C.1 (lv' := [(9, vI z338), (8, vI z313), (7, vI 1), (6, vI z181), (5, .ref (ad c2)), (0, .ref (ad 105)), (1, .ref (ad 39)), (2, .ref (ad 60)), (3, vI x3), (4, vI x4)]) dX10_go_110 (by decide) rfl ?_
          refine x_aload_n C.1 dX10_go_112 6 rfl ?_
          refine x_getA C (N := 129) (i := 39) (by omega) (xd_L (Or.inr (Or.inr rfl))) vc_X3 wx_X3 1 (by decide) wf_X10_75 (a := 41) rfl dX10_go_113 ?_
          refine x_iload C.1 dX10_go_116 0 rfl ?_
          obtain ⟨c339, ec339, hc339⟩ : ∃ cx : Nat, 39 + 11 + 1 * z338.toNat = cx ∧ isPe cx := ⟨_, rfl, isPe_L (Or.inr (Or.inr rfl)) (by omega)⟩
          replace hF := hF.to (rdb_e (z := c339) ec339)
          refine x_aldS C (N := 129) (i := 41) (q := z338) (t := 5) rfl (by omega) (xd_Lb (Or.inr (Or.inr rfl))) (by omega) (by decide) dX10_go_118 (a := c339) ec339 ?_
          obtain ⟨z340, ez340, bz340⟩ := hI182.rd c339 3 (x := -2147483648) (y := 2147483647) (rg_E hc339 3)
          replace hF := hF.to (rdb_e (z := z340) ez340)
          refine x_getI C (N := 129) (i := c339) hc339.1 hc339.2 vc_X4 wx_X4 3 (by decide) wf_X10_79 rfl dX10_go_119 (a := z340) ez340 ?_
          refine x_istore C.1 (lv' := [(10, vI z340), (9, vI z338), (8, vI z313), (7, vI 1), (6, vI z181), (5, .ref (ad c2)), (0, .ref (ad 105)), (1, .ref (ad 39)), (2, .ref (ad 60)), (3, vI x3), (4, vI x4)]) dX10_go_122 (by decide) rfl ?_
          refine x_iload C.1 dX10_go_124 3 rfl ?_
          refine x_if_eq_f C.1 (tgt := 140) dX10_go_126 (by decide) (by decide) (by decide) ?_
          refine x_aload_n C.1 dX10_go_129 7 rfl ?_
          refine x_aload_n C.1 dX10_go_130 8 rfl ?_
          refine x_iload C.1 dX10_go_131 1 rfl ?_
          refine x_aload_n C.1 dX10_go_133 6 rfl ?_
          obtain ⟨z341, ez341, bz341⟩ := hI182.rd 105 5 (x := 0) (y := 3) rfl
          replace hF := hF.to (rdb_e (z := z341) ez341)
          replace hF := hF.fc bz341
          refine x_getI C (N := 129) (i := 105) (by decide) rfl vc_X10 wx_X10 5 (by decide) wf_X10_28 rfl dX10_go_134 (a := z341) ez341 ?_
          refine x_callVv C (As := [.ref (ad 60), vI z338, vI z341]) (rest := []) 39 (xw_at (N := 129) (i := 39) (by omega) (xd_L (Or.inr (Or.inr rfl)))) vc_X3 (s_giveTo l D cy ad G V182 J Rr hI182 hJ hR 39 (Or.inr (Or.inr rfl)) z338 ⟨by omega, by omega⟩ z341 ⟨by omega, by omega⟩) (l1 := []) (l2 := []) (List.append_nil _).symm (w2 := fun u : Nat → Nat → Int => XW cy ad u J Rr) (fun _ => List.append_nil _) rfl wm_yX3_giveTo wn_X3 wl_X10_84 wi_yX3_giveTo we_yX3_giveTo hd_yX3_giveTo rfl ⟨Nat.le_of_ble_eq_true rfl, Nat.le_of_ble_eq_true rfl⟩ (Nat.le_of_ble_eq_true rfl) ⟨Nat.le_of_ble_eq_true rfl, Nat.le_of_ble_eq_true rfl⟩ dX10_go_137 (fun V342 h342 => ?_)
          obtain ⟨hI342, hBc342, hFc342⟩ := h342
          replace hF := calUX_i hF hFc342 hBc342
          have hB342 := hB182.tr hBc342 (fun i k h => (h.elim (fun h => (Or.inr (Or.inl h))) (fun h => (Or.inr (Or.inr (⟨by omega, by omega⟩))))))
          refine x_aload_n C.1 dX10_go_140 7 rfl ?_
          refine x_aload_n C.1 dX10_go_141 8 rfl ?_
          refine x_aload_n C.1 dX10_go_142 6 rfl ?_
          obtain ⟨z343, ez343, bz343⟩ := hI342.rd 105 5 (x := 0) (y := 3) rfl
          replace hF := hF.to (rdb_e (z := z343) ez343)
          replace hF := hF.fc bz343
          refine x_getI C (N := 129) (i := 105) (by decide) rfl vc_X10 wx_X10 5 (by decide) wf_X10_28 rfl dX10_go_143 (a := z343) ez343 ?_
          refine x_iconst C.1 (n := 0) dX10_go_146 ?_
          refine x_callVv C (As := [.ref (ad 60), vI z343, vI 0]) (rest := []) 39 (xw_at (N := 129) (i := 39) (by omega) (xd_L (Or.inr (Or.inr rfl)))) vc_X3 (s_endDay l D cy ad G V342 J Rr hI342 hJ hR 39 (Or.inr (Or.inr rfl)) z343 ⟨by omega, by omega⟩ 0 ⟨by decide, by decide⟩) (l1 := []) (l2 := []) (List.append_nil _).symm (w2 := fun u : Nat → Nat → Int => XW cy ad u J Rr) (fun _ => List.append_nil _) rfl wm_yX3_endDay wn_X3 wl_X10_88 wi_yX3_endDay we_yX3_endDay hd_yX3_endDay rfl ⟨Nat.le_of_ble_eq_true rfl, Nat.le_of_ble_eq_true rfl⟩ (Nat.le_of_ble_eq_true rfl) ⟨Nat.le_of_ble_eq_true rfl, Nat.le_of_ble_eq_true rfl⟩ dX10_go_147 (fun V344 h344 => ?_)
          obtain ⟨hI344, hBc344, hFc344⟩ := h344
          replace hF := calUX_i hF hFc344 hBc344
          have hB344 := hB342.tr hBc344 (fun i k h => (h.elim (fun h => (Or.inr (Or.inl h))) (fun h => (Or.inr (Or.inr (⟨by omega, by omega⟩))))))
          refine x_aload_n C.1 dX10_go_150 7 rfl ?_
          refine x_dup C.1 dX10_go_151 rfl ?_
          obtain ⟨z345, ez345, bz345⟩ := hI344.rd 39 3 (x := -2147483648) (y := 2147483647) (rg_L (Or.inr (Or.inr rfl)) _)
          replace hF := hF.to (rdb_e (z := z345) ez345)
          refine x_getI C (N := 129) (i := 39) (by omega) (xd_L (Or.inr (Or.inr rfl))) vc_X3 wx_X3 3 (by decide) wf_X10_92 rfl dX10_go_152 (a := z345) ez345 ?_
          refine x_iconst C.1 (n := 1) dX10_go_155 ?_
          refine x_iadd C.1 (v := z345 + 1) (by omega) dX10_go_156 ?_
          refine x_wrapg ?_
          intro z346 bz346 ew346
          replace hF := hF.to (rdb_e (z := z346) ew346.symm)
          refine x_putI C (N := 129) (i := 39) (by omega) (xd_L (Or.inr (Or.inr rfl))) vc_X3 wx_X3 3 (by decide) wf_X10_92 tyX3 tyX3_ok nmX3 rfl (tyX3_ok 3 (by decide)) rfl dX10_go_157 rfl rfl ?_
          refine x_gV ?_
          intro V347 hV347
          have hI347 : XI G V347 := hI344.up hV347 (rg_L (Or.inr (Or.inr rfl)) _) (by omega) (pr_L (Or.inr (Or.inr rfl)) _)
          have hB347 := hB344.up hV347 (Or.inr (Or.inr (⟨by decide, by decide⟩)))
          replace hF := hF.to (rdb_e (z := V347) hV347.symm)
          refine x_aload_n C.1 dX10_go_160 6 rfl ?_
          refine x_getA C (N := 129) (i := 105) (by decide) rfl vc_X10 wx_X10 2 (by decide) wf_X10_21 (a := 108) rfl dX10_go_161 ?_
          refine x_iload_n C.1 dX10_go_164 9 rfl ?_
          refine x_iload C.1 dX10_go_165 4 rfl ?_
          refine x_iast C (N := 129) (i := 108) (q := x3) (a := z181) (by decide) rfl (by omega) (by decide) dX10_go_167 ?_
          refine x_gV ?_
          intro V348 hV348
          have hI348 : XI G V348 := hI347.up hV348 rfl (by omega) rfl
          have hB348 := hB347.up hV348 (Or.inl (⟨by decide, by decide⟩))
          replace hF := hF.to (rdb_e (z := V348) hV348.symm)
          refine x_aload C.1 dX10_go_168 5 rfl ?_
          refine x_callVi C (As := []) (rest := []) c2 (xw_at (N := 129) (i := c2) (Nat.lt_of_succ_lt hc2.1) hc2.2.1) vc_X5 (s_isDeadP l D cy ad G V348 J Rr hI348 hJ hR c2 hc2) (l1 := []) (l2 := []) (List.append_nil _).symm (w2 := fun _ => XW cy ad V348 J Rr) (fun _ => List.append_nil _) rfl wm_yX5_isDead wn_X5 wl_X10_95 wi_yX5_isDead we_yX5_isDead hd_yX5_isDead rfl ⟨Nat.le_of_ble_eq_true rfl, Nat.le_of_ble_eq_true rfl⟩ (Nat.le_of_ble_eq_true rfl) ⟨Nat.le_of_ble_eq_true rfl, Nat.le_of_ble_eq_true rfl⟩ dX10_go_170 (fun z349 u349 bz349 h349 => ?_)
          obtain ⟨bq349, hFc349⟩ := h349
          replace hF := calR_i hF hFc349
          replace hF := hF.fc bq349
          obtain ⟨jf351, hjf351, hF⟩ := jn_ex hF
          refine x_join (I := fun V351 : (Nat → Nat → Int) => XI G V351 ∧ FB (fun i k : Nat => (105 ≤ i ∧ i ≤ 123) ∨ (69 ≤ i ∧ i ≤ 71) ∨ (39 ≤ i ∧ i ≤ 57)) V V351 ∧ Imp (jf351 V351) (f_s_go2 x3 x4 V J Rr)) (wsf := fun V351 : (Nat → Nat → Int) => XW cy ad V351 J Rr) (lvf := fun V351 : (Nat → Nat → Int) => [(10, vI z340), (9, vI z338), (8, vI z313), (7, vI 1), (6, vI z181), (5, .ref (ad c2)), (0, .ref (ad 105)), (1, .ref (ad 39)), (2, .ref (ad 60)), (3, vI x3), (4, vI x4)]) (stf := fun V351 : (Nat → Nat → Int) => []) 187 (fun V351 hI351x => ?_) (fun jn351 => ?_)
          · obtain ⟨hI351, hB351, hF⟩ := hI351x
            try dsimp only
            replace hF := hF.to (jn_s1 hjf351)
            refine x_aload_n C.1 dX10_go_187 7 rfl ?_
            refine x_dup C.1 dX10_go_188 rfl ?_
            obtain ⟨z352, ez352, bz352⟩ := hI351.rd 39 3 (x := -2147483648) (y := 2147483647) (rg_L (Or.inr (Or.inr rfl)) _)
            replace hF := hF.to (rdb_e (z := z352) ez352)
            refine x_getI C (N := 129) (i := 39) (by omega) (xd_L (Or.inr (Or.inr rfl))) vc_X3 wx_X3 3 (by decide) wf_X10_92 rfl dX10_go_189 (a := z352) ez352 ?_
            refine x_iconst C.1 (n := 1) dX10_go_192 ?_
            refine x_isub C.1 (v := z352 - 1) (by omega) dX10_go_193 ?_
            refine x_wrapg ?_
            intro z353 bz353 ew353
            replace hF := hF.to (rdb_e (z := z353) ew353.symm)
            refine x_putI C (N := 129) (i := 39) (by omega) (xd_L (Or.inr (Or.inr rfl))) vc_X3 wx_X3 3 (by decide) wf_X10_92 tyX3 tyX3_ok nmX3 rfl (tyX3_ok 3 (by decide)) rfl dX10_go_194 rfl rfl ?_
            refine x_gV ?_
            intro V354 hV354
            have hI354 : XI G V354 := hI351.up hV354 (rg_L (Or.inr (Or.inr rfl)) _) (by omega) (pr_L (Or.inr (Or.inr rfl)) _)
            have hB354 := hB351.up hV354 (Or.inr (Or.inr (⟨by decide, by decide⟩)))
            replace hF := hF.to (rdb_e (z := V354) hV354.symm)
            refine x_aload C.1 dX10_go_197 5 rfl ?_
            refine x_aload_n C.1 dX10_go_199 6 rfl ?_
            refine x_getA C (N := 129) (i := 105) (by decide) rfl vc_X10 wx_X10 0 (by decide) wf_X10_11 (a := 106) rfl dX10_go_200 ?_
            refine x_iload_n C.1 dX10_go_203 9 rfl ?_
            refine x_aldS C (N := 129) (i := 106) (q := x3) (t := 4) rfl (by decide) rfl (by omega) (by decide) dX10_go_204 (a := c3) ec3 ?_
            refine x_callVv C (As := [.ref (ad c3)]) (rest := []) c2 (xw_at (N := 129) (i := c2) (Nat.lt_of_succ_lt hc2.1) hc2.2.1) vc_X5 (s_copyP l D cy ad G V354 J Rr hI354 hJ hR c2 hc2 c3 hc3 (fun k => pr_39 ec2 (by omega) k)) (l1 := []) (l2 := []) (List.append_nil _).symm (w2 := fun u : Nat → Nat → Int => XW cy ad u J Rr) (fun _ => List.append_nil _) rfl wm_yX5_copy wn_X5 wl_X10_71 wi_yX5_copy we_yX5_copy hd_yX5_copy rfl ⟨Nat.le_of_ble_eq_true rfl, Nat.le_of_ble_eq_true rfl⟩ (Nat.le_of_ble_eq_true rfl) ⟨Nat.le_of_ble_eq_true rfl, Nat.le_of_ble_eq_true rfl⟩ dX10_go_205 (fun V355 h355 => ?_)
            obtain ⟨hI355, hBc355, hFc355⟩ := h355
            replace hF := calUX_i hF hFc355 hBc355
            have hB355 := hB354.tr hBc355 (fun i k h => (Or.inr (Or.inr (⟨by omega, by omega⟩))))
            refine x_aload_n C.1 dX10_go_208 7 rfl ?_
            refine x_getA C (N := 129) (i := 39) (by omega) (xd_L (Or.inr (Or.inr rfl))) vc_X3 wx_X3 1 (by decide) wf_X10_75 (a := 41) rfl dX10_go_209 ?_
            refine x_iload C.1 dX10_go_212 1 rfl ?_
            refine x_aldS C (N := 129) (i := 41) (q := z338) (t := 5) rfl (by omega) (xd_Lb (Or.inr (Or.inr rfl))) (by omega) (by decide) dX10_go_214 (a := c339) ec339 ?_
            refine x_iload C.1 dX10_go_215 0 rfl ?_
            refine x_putI C (N := 129) (i := c339) hc339.1 hc339.2 vc_X4 wx_X4 3 (by decide) wf_X10_79 tyX4 tyX4_ok nmX4 rfl (tyX4_ok 3 (by decide)) rfl dX10_go_217 rfl rfl ?_
            refine x_gV ?_
            intro V356 hV356
            have hI356 : XI G V356 := hI355.up hV356 (rg_E hc339 3) (by omega) (pr_E hc339 _)
            have hB356 := hB355.up hV356 (Or.inr (Or.inr (⟨by omega, by omega⟩)))
            replace hF := hF.to (rdb_e (z := V356) hV356.symm)
            refine x_lv [(8, vI z313), (7, vI 1), (6, vI z181), (5, .ref (ad c2)), (0, .ref (ad 105)), (1, .ref (ad 39)), (2, .ref (ad 60)), (3, vI x3), (4, vI x4)] [2, 3, 4, 5, 6, 7, 8, 9, 10] rfl ?_
            exact jn336 V356 ⟨hI356, hB356, hF⟩
          · refine x_if_ne C.1 (tgt := 187) dX10_go_173 (by decide) (by omega) (fun hc357 => ?_) (fun hc357 => ?_)
            · replace hF := hF.to (if_pos hc357)
              exact jn351 V348 ⟨hI348, hB348, hF⟩
            · replace hF := hF.to (if_neg (fun hh => hh hc357))
              refine x_aload_n C.1 dX10_go_176 6 rfl ?_
              refine x_aload_n C.1 dX10_go_177 7 rfl ?_
              refine x_aload_n C.1 dX10_go_178 8 rfl ?_
              refine x_iload_n C.1 dX10_go_179 9 rfl ?_
              refine x_iconst C.1 (n := 1) dX10_go_180 ?_
              refine x_iadd C.1 (v := x3 + 1) (by omega) dX10_go_181 ?_
              refine x_iload C.1 dX10_go_182 2 rfl ?_
              refine x_callSv C (As := [.ref (ad 105), .ref (ad 39), .ref (ad 60), vI (x3 + 1), vI z313]) (rest := []) (s_go3 l D cy ad G V348 J Rr hI348 hJ hR (x3 + 1) ⟨by omega, by omega⟩ z313 ⟨by omega, by omega⟩) (l1 := []) (l2 := []) (List.append_nil _).symm (w2 := fun u : Nat → Nat → Int => XW cy ad u J Rr) (fun _ => List.append_nil _) rfl wm_yX10_go wn_X10 wl_X10_50 wi_yX10_go hd_yX10_go rfl ⟨Nat.le_of_ble_eq_true rfl, Nat.le_of_ble_eq_true rfl⟩ (Nat.le_of_ble_eq_true rfl) ⟨Nat.le_of_ble_eq_true rfl, Nat.le_of_ble_eq_true rfl⟩ dX10_go_184 (fun V358 h358 => ?_)
              obtain ⟨hI358, hBc358, hFc358⟩ := h358
              replace hF := calUX_i hF hFc358 hBc358
              have hB358 := hB348.tr hBc358 (fun i k h => (h.elim (fun h => (Or.inl h)) (fun h => (h.elim (fun h => (Or.inr (Or.inl h))) (fun h => (Or.inr (Or.inr (h))))))))
              exact jn351 V358 ⟨hI358, hB358, hF⟩
        · replace hF := hF.to (if_neg hc337)
          refine x_goto C.1 (tgt := 220) dX10_go_91 (by decide) ?_
          exact jn336 V182 ⟨hI182, hB182, hF⟩
set_option maxRecDepth 100000 in
def f_s_go1 (x3 : Int) (x4 : Int) (V : Nat → Nat → Int) (J : Nat → Nat → Int) (Rr : Nat → Nat → Nat) : (Nat → Nat → Int) → Prop :=
  rdb (V 105 5) fun z1 => fct (0 ≤ z1 ∧ z1 ≤ 3) <| rdb (39 + 3 + 2 * z1.toNat) fun c2 => rdb (110 + 2 * x3.toNat) fun c3 => calUX (fun i k : Nat => (c3 ≤ i ∧ i ≤ c3 + 1)) V (f_s_copyP c3 c2 V J Rr) fun V4 => rdb (V4 105 4) fun z5 => fct (0 ≤ z5 ∧ z5 ≤ 3) <| lop2 (6) (fun rc182 (z181 : Int) (V182 : Nat → Nat → Int) => (if z181 < 0 then rtn V182 else rdb (V182 105 4) fun z272 => fct (0 ≤ z272 ∧ z272 ≤ 3) <| (if z272 ≤ z181 then rdb (V182 105 6) fun z274 => jnk (fun (V293 : Nat → Nat → Int) => rc182 (z181 - 1) V293) fun jf293 => (if x4 ≤ z274 then rdb (39 + 11 + 1 * 0) fun c295 => rdb (V182 c295 3) fun z296 => rdb (V182 105 5) fun z297 => fct (0 ≤ z297 ∧ z297 ≤ 3) <| calUX (fun i k : Nat => (69 ≤ i ∧ i ≤ 71) ∨ (39 ≤ i ∧ i ≤ 39 + 18)) V182 (f_s_endDay 39 z297 0 V182 J Rr) fun V298 => rdb (V298 39 3) fun z299 => rdb (wr (z299 + 1)) fun z300 => rdb (up2 V298 39 3 z300) fun V301 => rdb (up2 V301 108 x3.toNat z181) fun V302 => calR (f_s_isDeadP c2 V302 J Rr) fun z303 => fct (0 ≤ z303 ∧ z303 ≤ 1) <| jnk (fun (V305 : Nat → Nat → Int) => rdb (V305 39 3) fun z306 => rdb (wr (z306 - 1)) fun z307 => rdb (up2 V305 39 3 z307) fun V308 => calUX (fun i k : Nat => (c2 ≤ i ∧ i ≤ c2 + 1)) V308 (f_s_copyP c2 c3 V308 J Rr) fun V309 => rdb (up2 V309 c295 3 z296) fun V310 => jf293 V310) fun jf305 => (if ¬ z303 = 0 then jf305 V302 else calUX (fun i k : Nat => (105 ≤ i ∧ i ≤ 123) ∨ (69 ≤ i ∧ i ≤ 71) ∨ (39 ≤ i ∧ i ≤ 57)) V302 (f_s_go2 (x3 + 1) x4 V302 J Rr) fun V312 => jf305 V312) else jf293 V182) else rdb (wr (x4 + 1)) fun z313 => rdb (V182 105 6) fun z314 => jnk (fun (V336 : Nat → Nat → Int) => rc182 (z181 - 1) V336) fun jf336 => (if z313 ≤ z314 then rdb (V182 107 z181.toNat) fun z338 => fct (0 ≤ z338 ∧ z338 ≤ 7) <| rdb (39 + 11 + 1 * z338.toNat) fun c339 => rdb (V182 c339 3) fun z340 => rdb (V182 105 5) fun z341 => fct (0 ≤ z341 ∧ z341 ≤ 3) <| calUX (fun i k : Nat => (69 ≤ i ∧ i ≤ 71) ∨ (39 ≤ i ∧ i ≤ 39 + 18)) V182 (f_s_giveTo 39 z338 z341 V182 J Rr) fun V342 => rdb (V342 105 5) fun z343 => fct (0 ≤ z343 ∧ z343 ≤ 3) <| calUX (fun i k : Nat => (69 ≤ i ∧ i ≤ 71) ∨ (39 ≤ i ∧ i ≤ 39 + 18)) V342 (f_s_endDay 39 z343 0 V342 J Rr) fun V344 => rdb (V344 39 3) fun z345 => rdb (wr (z345 + 1)) fun z346 => rdb (up2 V344 39 3 z346) fun V347 => rdb (up2 V347 108 x3.toNat z181) fun V348 => calR (f_s_isDeadP c2 V348 J Rr) fun z349 => fct (0 ≤ z349 ∧ z349 ≤ 1) <| jnk (fun (V351 : Nat → Nat → Int) => rdb (V351 39 3) fun z352 => rdb (wr (z352 - 1)) fun z353 => rdb (up2 V351 39 3 z353) fun V354 => calUX (fun i k : Nat => (c2 ≤ i ∧ i ≤ c2 + 1)) V354 (f_s_copyP c2 c3 V354 J Rr) fun V355 => rdb (up2 V355 c339 3 z340) fun V356 => jf336 V356) fun jf351 => (if ¬ z349 = 0 then jf351 V348 else calUX (fun i k : Nat => (105 ≤ i ∧ i ≤ 123) ∨ (69 ≤ i ∧ i ≤ 71) ∨ (39 ≤ i ∧ i ≤ 57)) V348 (f_s_go2 (x3 + 1) z313 V348 J Rr) fun V358 => jf351 V358) else jf336 V182)))) z5 V4
set_option maxHeartbeats 8000000 in
set_option maxRecDepth 100000 in
theorem s_go1 (l : Launch) (D : va_G) (cy : Nat → ClassId) (ad : Nat → Nat) (G : Nat → Nat → Int) (V J : Nat → Nat → Int) (Rr : Nat → Nat → Nat) (hI : XI G V) (hJ : VJ J) (hR : XR Rr) (x3 : Int) (bx3 : 1 ≤ x3 ∧ x3 ≤ 1) (x4 : Int) (bx4 : -2147483648 ≤ x4 ∧ x4 ≤ 2147483647) : xMv l D (xTY cy) yX10_go cX10_go 11 none 10 275 0 0 [.ref (ad 105), .ref (ad 39), .ref (ad 60), vI x3, vI x4] (XW cy ad V J Rr) (fun u : Nat → Nat → Int => XW cy ad u J Rr) (fun u : Nat → Nat → Int => XI G u ∧ FB (fun i k : Nat => (105 ≤ i ∧ i ≤ 123) ∨ (69 ≤ i ∧ i ≤ 71) ∨ (39 ≤ i ∧ i ≤ 57)) V u ∧ (f_s_go1 x3 x4 V J Rr) u) := by
  refine xMv.mk (lv0 := [(0, .ref (ad 105)), (1, .ref (ad 39)), (2, .ref (ad 60)), (3, vI x3), (4, vI x4)]) (by decide) rfl (Nat.le_of_ble_eq_true rfl) (fun p e s m below meth c A C hr hnm hAe => ?_)
  have C : xC2 p s m _ meth c D A s.heap 11 cX10_go RX10 (xTY cy) := C
  have hB : FB (fun i k : Nat => (105 ≤ i ∧ i ≤ 123) ∨ (69 ≤ i ∧ i ≤ 71) ∨ (39 ≤ i ∧ i ≤ 57)) V V := FB.rf _ _
  have hF := Imp.of_eq (f_s_go1.eq_def x3 x4 V J Rr)
  refine x_aload_n C.1 dX10_go_0 1 rfl ?_
  refine x_getA C (N := 129) (i := 39) (by omega) (xd_L (Or.inr (Or.inr rfl))) vc_X3 wx_X3 0 (by decide) wf_X10_63 (a := 40) rfl dX10_go_1 ?_
  refine x_aload_n C.1 dX10_go_4 0 rfl ?_
  obtain ⟨z1, ez1, bz1⟩ := hI.rd 105 5 (x := 0) (y := 3) rfl
  replace hF := hF.to (rdb_e (z := z1) ez1)
  replace hF := hF.fc bz1
  refine x_getI C (N := 129) (i := 105) (by decide) rfl vc_X10 wx_X10 5 (by decide) wf_X10_28 rfl dX10_go_5 (a := z1) ez1 ?_
  obtain ⟨c2, ec2, hc2⟩ : ∃ cx : Nat, 39 + 3 + 2 * z1.toNat = cx ∧ isPl cx := ⟨_, rfl, isPl_L (Or.inr (Or.inr rfl)) (by omega)⟩
  replace hF := hF.to (rdb_e (z := c2) ec2)
  refine x_aldS C (N := 129) (i := 40) (q := z1) (t := 4) rfl (by omega) (xd_La (Or.inr (Or.inr rfl))) (by omega) (by decide) dX10_go_8 (a := c2) ec2 ?_
  refine x_astore C.1 (lv' := [(5, .ref (ad c2)), (0, .ref (ad 105)), (1, .ref (ad 39)), (2, .ref (ad 60)), (3, vI x3), (4, vI x4)]) dX10_go_9 (by decide) rfl ?_
  refine x_iload_n C.1 dX10_go_11 4 rfl ?_
  refine x_bipush C.1 (n := 7) dX10_go_12 ?_
  refine x_icmp_lt_t C.1 (tgt := 29) dX10_go_14 (by decide) (by omega) (by decide) (by omega) ?_
  refine x_aload_n C.1 dX10_go_29 1 rfl ?_
  refine x_getA C (N := 129) (i := 105) (by decide) rfl vc_X10 wx_X10 0 (by decide) wf_X10_11 (a := 106) rfl dX10_go_30 ?_
  refine x_iload_n C.1 dX10_go_33 4 rfl ?_
  obtain ⟨c3, ec3, hc3⟩ : ∃ cx : Nat, 110 + 2 * x3.toNat = cx ∧ isPl cx := ⟨_, rfl, isPl_Wk (by omega)⟩
  replace hF := hF.to (rdb_e (z := c3) ec3)
  refine x_aldS C (N := 129) (i := 106) (q := x3) (t := 4) rfl (by decide) rfl (by omega) (by decide) dX10_go_34 (a := c3) ec3 ?_
  refine x_aload C.1 dX10_go_35 0 rfl ?_
  refine x_callVv C (As := [.ref (ad c2)]) (rest := []) c3 (xw_at (N := 129) (i := c3) (Nat.lt_of_succ_lt hc3.1) hc3.2.1) vc_X5 (s_copyP l D cy ad G V J Rr hI hJ hR c3 hc3 c2 hc2 (fun k => pr_Wk ec3 (by omega) k)) (l1 := []) (l2 := []) (List.append_nil _).symm (w2 := fun u : Nat → Nat → Int => XW cy ad u J Rr) (fun _ => List.append_nil _) rfl wm_yX5_copy wn_X5 wl_X10_71 wi_yX5_copy we_yX5_copy hd_yX5_copy rfl ⟨Nat.le_of_ble_eq_true rfl, Nat.le_of_ble_eq_true rfl⟩ (Nat.le_of_ble_eq_true rfl) ⟨Nat.le_of_ble_eq_true rfl, Nat.le_of_ble_eq_true rfl⟩ dX10_go_37 (fun V4 h4 => ?_)
  obtain ⟨hI4, hBc4, hFc4⟩ := h4
  replace hF := calUX_i hF hFc4 hBc4
  have hB4 := hB.tr hBc4 (fun i k h => (Or.inl (⟨by omega, by omega⟩)))
  refine x_aload_n C.1 dX10_go_40 1 rfl ?_
  obtain ⟨z5, ez5, bz5⟩ := hI4.rd 105 4 (x := 0) (y := 3) rfl
  replace hF := hF.to (rdb_e (z := z5) ez5)
  replace hF := hF.fc bz5
  refine x_getI C (N := 129) (i := 105) (by decide) rfl vc_X10 wx_X10 4 (by decide) wf_X10_38 rfl dX10_go_41 (a := z5) ez5 ?_
  refine x_istore C.1 (lv' := [(6, vI z5), (5, .ref (ad c2)), (0, .ref (ad 105)), (1, .ref (ad 39)), (2, .ref (ad 60)), (3, vI x3), (4, vI x4)]) dX10_go_44 (by decide) rfl ?_
  obtain ⟨bd182, hbd182, hF⟩ := lop2_ex hF
  refine x_loop (I := fun x : Int × (Nat → Nat → Int) => match x with | (z181, V182) => (-1 ≤ z181 ∧ z181 ≤ 3) ∧ XI G V182 ∧ FB (fun i k : Nat => (105 ≤ i ∧ i ≤ 123) ∨ (69 ≤ i ∧ i ≤ 71) ∨ (39 ≤ i ∧ i ≤ 57)) V V182 ∧ (∃ nf : Nat, (z181 - (-2)).toNat < nf ∧ Imp (lop2 nf bd182 z181 V182) (f_s_go1 x3 x4 V J Rr))) (μ := fun x : Int × (Nat → Nat → Int) => match x with | (z181, V182) => (z181 - (-2)).toNat) (wsf := fun x : Int × (Nat → Nat → Int) => match x with | (z181, V182) => XW cy ad V182 J Rr) (lvf := fun x : Int × (Nat → Nat → Int) => match x with | (z181, V182) => [(6, vI z181), (5, .ref (ad c2)), (0, .ref (ad 105)), (1, .ref (ad 39)), (2, .ref (ad 60)), (3, vI x3), (4, vI x4)]) (fun x hI182x ih182 => ?_) (z5, V4) ⟨⟨by omega, by omega⟩, hI4, hB4, ⟨_, (by omega), hF⟩⟩ rfl rfl
  obtain ⟨z181, V182⟩ := x
  obtain ⟨bz181, hI182, hB182, nf182, hn182, hF⟩ := hI182x
  try dsimp only
  obtain ⟨nf182, rfl⟩ : ∃ mm, nf182 = mm + 1 := ⟨nf182 - 1, (Nat.succ_pred_eq_of_pos (Nat.lt_of_le_of_lt (Nat.zero_le _) hn182)).symm⟩
  replace hF := hF.to (lop2_s hbd182)
  refine x_iload C.1 dX10_go_46 0 rfl ?_
  refine x_if_lt C.1 (tgt := 226) dX10_go_48 (by decide) (by omega) (fun hc271 => ?_) (fun hc271 => ?_)
  · replace hF := hF.to (if_pos hc271)
    exact x_vret (S := (Nat → Nat → Int)) (post := (fun u : Nat → Nat → Int => XI G u ∧ FB (fun i k : Nat => (105 ≤ i ∧ i ≤ 123) ∨ (69 ≤ i ∧ i ≤ 71) ∨ (39 ≤ i ∧ i ≤ 57)) V u ∧ (f_s_go1 x3 x4 V J Rr) u)) (w1 := (fun u : Nat → Nat → Int => XW cy ad u J Rr)) C hr rfl dX10_go_226 V182 rfl ⟨hI182, hB182, hF _ rfl⟩
  · replace hF := hF.to (if_neg hc271)
    refine x_iload C.1 dX10_go_51 0 rfl ?_
    refine x_aload_n C.1 dX10_go_53 2 rfl ?_
    obtain ⟨z272, ez272, bz272⟩ := hI182.rd 105 4 (x := 0) (y := 3) rfl
    replace hF := hF.to (rdb_e (z := z272) ez272)
    replace hF := hF.fc bz272
    refine x_getI C (N := 129) (i := 105) (by decide) rfl vc_X10 wx_X10 4 (by decide) wf_X10_38 rfl dX10_go_54 (a := z272) ez272 ?_
    refine x_icmp_ge C.1 (tgt := 64) dX10_go_57 (by decide) (by omega) (by omega) (fun hc273 => ?_) (fun hc273 => ?_)
    · replace hF := hF.to (if_pos hc273)
      refine x_iconst C.1 (n := 0) dX10_go_64 ?_
      refine x_istore C.1 (lv' := [(7, vI 0), (6, vI z181), (5, .ref (ad c2)), (0, .ref (ad 105)), (1, .ref (ad 39)), (2, .ref (ad 60)), (3, vI x3), (4, vI x4)]) dX10_go_65 (by decide) rfl ?_
      refine x_iload C.1 dX10_go_67 7 rfl ?_
      refine x_iload C.1 dX10_go_69 0 rfl ?_
      refine x_if_eq_t C.1 (tgt := 78) dX10_go_71 (by decide) (by decide) (by decide) ?_
      refine x_iconst C.1 (n := 0) dX10_go_78 ?_
      refine x_iadd C.1 (v := x4) (by omega) dX10_go_79 ?_
      refine x_istore C.1 (lv' := [(8, vI x4), (7, vI 0), (6, vI z181), (5, .ref (ad c2)), (0, .ref (ad 105)), (1, .ref (ad 39)), (2, .ref (ad 60)), (3, vI x3), (4, vI x4)]) dX10_go_80 (by decide) rfl ?_
      refine x_iload C.1 dX10_go_82 0 rfl ?_
      refine x_aload_n C.1 dX10_go_84 4 rfl ?_
      obtain ⟨z274, ez274, bz274⟩ := hI182.rd 105 6 (x := -2147483648) (y := 2147483647) rfl
      replace hF := hF.to (rdb_e (z := z274) ez274)
      refine x_getI C (N := 129) (i := 105) (by decide) rfl vc_X10 wx_X10 6 (by decide) wf_X10_47 rfl dX10_go_85 (a := z274) ez274 ?_
      obtain ⟨jf293, hjf293, hF⟩ := jn_ex hF
      refine x_join (I := fun V293 : (Nat → Nat → Int) => XI G V293 ∧ FB (fun i k : Nat => (105 ≤ i ∧ i ≤ 123) ∨ (69 ≤ i ∧ i ≤ 71) ∨ (39 ≤ i ∧ i ≤ 57)) V V293 ∧ Imp (jf293 V293) (f_s_go1 x3 x4 V J Rr)) (wsf := fun V293 : (Nat → Nat → Int) => XW cy ad V293 J Rr) (lvf := fun V293 : (Nat → Nat → Int) => [(8, vI x4), (7, vI 0), (6, vI z181), (5, .ref (ad c2)), (0, .ref (ad 105)), (1, .ref (ad 39)), (2, .ref (ad 60)), (3, vI x3), (4, vI x4)]) (stf := fun V293 : (Nat → Nat → Int) => []) 220 (fun V293 hI293x => ?_) (fun jn293 => ?_)
      · obtain ⟨hI293, hB293, hF⟩ := hI293x
        try dsimp only
        replace hF := hF.to (jn_s1 hjf293)
        refine x_iinc C.1 (v := z181 - 1) (lv' := [(6, vI (z181 - 1)), (8, vI x4), (7, vI 0), (5, .ref (ad c2)), (0, .ref (ad 105)), (1, .ref (ad 39)), (2, .ref (ad 60)), (3, vI x3), (4, vI x4)]) (by omega) dX10_go_220 2 rfl (by decide) rfl ?_
        refine x_goto C.1 (tgt := 46) dX10_go_223 (by decide) ?_
        refine x_lv [(6, vI (z181 - 1)), (5, .ref (ad c2)), (0, .ref (ad 105)), (1, .ref (ad 39)), (2, .ref (ad 60)), (3, vI x3), (4, vI x4)] [0, 3, 4, 5, 6, 7, 8] rfl ?_
        have hmu182 : ((z181 - 1) - (-2)).toNat < (z181 - (-2)).toNat := (by omega)
        exact ih182 (z181 - 1, V293) ⟨⟨by omega, by omega⟩, hI293, hB293, ⟨nf182, Nat.lt_of_lt_of_le hmu182 (Nat.le_of_lt_succ hn182), hF⟩⟩ hmu182
      · refine x_icmp_le C.1 (tgt := 94) dX10_go_88 (by decide) (by omega) (by omega) (fun hc294 => ?_) (fun hc294 => ?_)
        · replace hF := hF.to (if_pos hc294)
          refine x_iload C.1 dX10_go_94 1 rfl ?_
          refine x_if_eq_t C.1 (tgt := 109) dX10_go_96 (by decide) (by decide) (by decide) ?_
          refine x_iconst C.1 (n := 0) dX10_go_109 ?_
          refine x_istore C.1 (lv' := [(9, vI 0), (8, vI x4), (7, vI 0), (6, vI z181), (5, .ref (ad c2)), (0, .ref (ad 105)), (1, .ref (ad 39)), (2, .ref (ad 60)), (3, vI x3), (4, vI x4)]) dX10_go_110 (by decide) rfl ?_
          refine x_aload_n C.1 dX10_go_112 6 rfl ?_
          refine x_getA C (N := 129) (i := 39) (by omega) (xd_L (Or.inr (Or.inr rfl))) vc_X3 wx_X3 1 (by decide) wf_X10_75 (a := 41) rfl dX10_go_113 ?_
          refine x_iload C.1 dX10_go_116 0 rfl ?_
          obtain ⟨c295, ec295, hc295⟩ : ∃ cx : Nat, 39 + 11 + 1 * 0 = cx ∧ isPe cx := ⟨_, rfl, isPe_L (Or.inr (Or.inr rfl)) (by decide)⟩
          replace hF := hF.to (rdb_e (z := c295) ec295)
          refine x_aldS C (N := 129) (i := 41) (q := 0) (t := 5) rfl (by omega) (xd_Lb (Or.inr (Or.inr rfl))) (by decide) (by decide) dX10_go_118 (a := c295) ec295 ?_
          obtain ⟨z296, ez296, bz296⟩ := hI182.rd c295 3 (x := -2147483648) (y := 2147483647) (rg_E hc295 3)
          replace hF := hF.to (rdb_e (z := z296) ez296)
          refine x_getI C (N := 129) (i := c295) hc295.1 hc295.2 vc_X4 wx_X4 3 (by decide) wf_X10_79 rfl dX10_go_119 (a := z296) ez296 ?_
          refine x_istore C.1 (lv' := [(10, vI z296), (9, vI 0), (8, vI x4), (7, vI 0), (6, vI z181), (5, .ref (ad c2)), (0, .ref (ad 105)), (1, .ref (ad 39)), (2, .ref (ad 60)), (3, vI x3), (4, vI x4)]) dX10_go_122 (by decide) rfl ?_
          refine x_iload C.1 dX10_go_124 3 rfl ?_
          refine x_if_eq_t C.1 (tgt := 140) dX10_go_126 (by decide) (by decide) (by decide) ?_
          refine x_aload_n C.1 dX10_go_140 7 rfl ?_
          refine x_aload_n C.1 dX10_go_141 8 rfl ?_
          refine x_aload_n C.1 dX10_go_142 6 rfl ?_
          obtain ⟨z297, ez297, bz297⟩ := hI182.rd 105 5 (x := 0) (y := 3) rfl
          replace hF := hF.to (rdb_e (z := z297) ez297)
          replace hF := hF.fc bz297
          refine x_getI C (N := 129) (i := 105) (by decide) rfl vc_X10 wx_X10 5 (by decide) wf_X10_28 rfl dX10_go_143 (a := z297) ez297 ?_
          refine x_iconst C.1 (n := 0) dX10_go_146 ?_
          refine x_callVv C (As := [.ref (ad 60), vI z297, vI 0]) (rest := []) 39 (xw_at (N := 129) (i := 39) (by omega) (xd_L (Or.inr (Or.inr rfl)))) vc_X3 (s_endDay l D cy ad G V182 J Rr hI182 hJ hR 39 (Or.inr (Or.inr rfl)) z297 ⟨by omega, by omega⟩ 0 ⟨by decide, by decide⟩) (l1 := []) (l2 := []) (List.append_nil _).symm (w2 := fun u : Nat → Nat → Int => XW cy ad u J Rr) (fun _ => List.append_nil _) rfl wm_yX3_endDay wn_X3 wl_X10_88 wi_yX3_endDay we_yX3_endDay hd_yX3_endDay rfl ⟨Nat.le_of_ble_eq_true rfl, Nat.le_of_ble_eq_true rfl⟩ (Nat.le_of_ble_eq_true rfl) ⟨Nat.le_of_ble_eq_true rfl, Nat.le_of_ble_eq_true rfl⟩ dX10_go_147 (fun V298 h298 => ?_)
          obtain ⟨hI298, hBc298, hFc298⟩ := h298
          replace hF := calUX_i hF hFc298 hBc298
          have hB298 := hB182.tr hBc298 (fun i k h => (h.elim (fun h => (Or.inr (Or.inl h))) (fun h => (Or.inr (Or.inr (⟨by omega, by omega⟩))))))
          refine x_aload_n C.1 dX10_go_150 7 rfl ?_
          refine x_dup C.1 dX10_go_151 rfl ?_
          obtain ⟨z299, ez299, bz299⟩ := hI298.rd 39 3 (x := -2147483648) (y := 2147483647) (rg_L (Or.inr (Or.inr rfl)) _)
          replace hF := hF.to (rdb_e (z := z299) ez299)
          refine x_getI C (N := 129) (i := 39) (by omega) (xd_L (Or.inr (Or.inr rfl))) vc_X3 wx_X3 3 (by decide) wf_X10_92 rfl dX10_go_152 (a := z299) ez299 ?_
          refine x_iconst C.1 (n := 1) dX10_go_155 ?_
          refine x_iadd C.1 (v := z299 + 1) (by omega) dX10_go_156 ?_
          refine x_wrapg ?_
          intro z300 bz300 ew300
          replace hF := hF.to (rdb_e (z := z300) ew300.symm)
          refine x_putI C (N := 129) (i := 39) (by omega) (xd_L (Or.inr (Or.inr rfl))) vc_X3 wx_X3 3 (by decide) wf_X10_92 tyX3 tyX3_ok nmX3 rfl (tyX3_ok 3 (by decide)) rfl dX10_go_157 rfl rfl ?_
          refine x_gV ?_
          intro V301 hV301
          have hI301 : XI G V301 := hI298.up hV301 (rg_L (Or.inr (Or.inr rfl)) _) (by omega) (pr_L (Or.inr (Or.inr rfl)) _)
          have hB301 := hB298.up hV301 (Or.inr (Or.inr (⟨by decide, by decide⟩)))
          replace hF := hF.to (rdb_e (z := V301) hV301.symm)
          refine x_aload_n C.1 dX10_go_160 6 rfl ?_
          refine x_getA C (N := 129) (i := 105) (by decide) rfl vc_X10 wx_X10 2 (by decide) wf_X10_21 (a := 108) rfl dX10_go_161 ?_
          refine x_iload_n C.1 dX10_go_164 9 rfl ?_
          refine x_iload C.1 dX10_go_165 4 rfl ?_
          refine x_iast C (N := 129) (i := 108) (q := x3) (a := z181) (by decide) rfl (by omega) (by decide) dX10_go_167 ?_
          refine x_gV ?_
          intro V302 hV302
          have hI302 : XI G V302 := hI301.up hV302 rfl (by omega) rfl
          have hB302 := hB301.up hV302 (Or.inl (⟨by decide, by decide⟩))
          replace hF := hF.to (rdb_e (z := V302) hV302.symm)
          refine x_aload C.1 dX10_go_168 5 rfl ?_
          refine x_callVi C (As := []) (rest := []) c2 (xw_at (N := 129) (i := c2) (Nat.lt_of_succ_lt hc2.1) hc2.2.1) vc_X5 (s_isDeadP l D cy ad G V302 J Rr hI302 hJ hR c2 hc2) (l1 := []) (l2 := []) (List.append_nil _).symm (w2 := fun _ => XW cy ad V302 J Rr) (fun _ => List.append_nil _) rfl wm_yX5_isDead wn_X5 wl_X10_95 wi_yX5_isDead we_yX5_isDead hd_yX5_isDead rfl ⟨Nat.le_of_ble_eq_true rfl, Nat.le_of_ble_eq_true rfl⟩ (Nat.le_of_ble_eq_true rfl) ⟨Nat.le_of_ble_eq_true rfl, Nat.le_of_ble_eq_true rfl⟩ dX10_go_170 (fun z303 u303 bz303 h303 => ?_)
          obtain ⟨bq303, hFc303⟩ := h303
          replace hF := calR_i hF hFc303
          replace hF := hF.fc bq303
          obtain ⟨jf305, hjf305, hF⟩ := jn_ex hF
          refine x_join (I := fun V305 : (Nat → Nat → Int) => XI G V305 ∧ FB (fun i k : Nat => (105 ≤ i ∧ i ≤ 123) ∨ (69 ≤ i ∧ i ≤ 71) ∨ (39 ≤ i ∧ i ≤ 57)) V V305 ∧ Imp (jf305 V305) (f_s_go1 x3 x4 V J Rr)) (wsf := fun V305 : (Nat → Nat → Int) => XW cy ad V305 J Rr) (lvf := fun V305 : (Nat → Nat → Int) => [(10, vI z296), (9, vI 0), (8, vI x4), (7, vI 0), (6, vI z181), (5, .ref (ad c2)), (0, .ref (ad 105)), (1, .ref (ad 39)), (2, .ref (ad 60)), (3, vI x3), (4, vI x4)]) (stf := fun V305 : (Nat → Nat → Int) => []) 187 (fun V305 hI305x => ?_) (fun jn305 => ?_)
          · obtain ⟨hI305, hB305, hF⟩ := hI305x
            try dsimp only
            replace hF := hF.to (jn_s1 hjf305)
            refine x_aload_n C.1 dX10_go_187 7 rfl ?_
            refine x_dup C.1 dX10_go_188 rfl ?_
            obtain ⟨z306, ez306, bz306⟩ := hI305.rd 39 3 (x := -2147483648) (y := 2147483647) (rg_L (Or.inr (Or.inr rfl)) _)
            replace hF := hF.to (rdb_e (z := z306) ez306)
            refine x_getI C (N := 129) (i := 39) (by omega) (xd_L (Or.inr (Or.inr rfl))) vc_X3 wx_X3 3 (by decide) wf_X10_92 rfl dX10_go_189 (a := z306) ez306 ?_
            refine x_iconst C.1 (n := 1) dX10_go_192 ?_
            refine x_isub C.1 (v := z306 - 1) (by omega) dX10_go_193 ?_
            refine x_wrapg ?_
            intro z307 bz307 ew307
            replace hF := hF.to (rdb_e (z := z307) ew307.symm)
            refine x_putI C (N := 129) (i := 39) (by omega) (xd_L (Or.inr (Or.inr rfl))) vc_X3 wx_X3 3 (by decide) wf_X10_92 tyX3 tyX3_ok nmX3 rfl (tyX3_ok 3 (by decide)) rfl dX10_go_194 rfl rfl ?_
            refine x_gV ?_
            intro V308 hV308
            have hI308 : XI G V308 := hI305.up hV308 (rg_L (Or.inr (Or.inr rfl)) _) (by omega) (pr_L (Or.inr (Or.inr rfl)) _)
            have hB308 := hB305.up hV308 (Or.inr (Or.inr (⟨by decide, by decide⟩)))
            replace hF := hF.to (rdb_e (z := V308) hV308.symm)
            refine x_aload C.1 dX10_go_197 5 rfl ?_
            refine x_aload_n C.1 dX10_go_199 6 rfl ?_
            refine x_getA C (N := 129) (i := 105) (by decide) rfl vc_X10 wx_X10 0 (by decide) wf_X10_11 (a := 106) rfl dX10_go_200 ?_
            refine x_iload_n C.1 dX10_go_203 9 rfl ?_
            refine x_aldS C (N := 129) (i := 106) (q := x3) (t := 4) rfl (by decide) rfl (by omega) (by decide) dX10_go_204 (a := c3) ec3 ?_
            refine x_callVv C (As := [.ref (ad c3)]) (rest := []) c2 (xw_at (N := 129) (i := c2) (Nat.lt_of_succ_lt hc2.1) hc2.2.1) vc_X5 (s_copyP l D cy ad G V308 J Rr hI308 hJ hR c2 hc2 c3 hc3 (fun k => pr_39 ec2 (by omega) k)) (l1 := []) (l2 := []) (List.append_nil _).symm (w2 := fun u : Nat → Nat → Int => XW cy ad u J Rr) (fun _ => List.append_nil _) rfl wm_yX5_copy wn_X5 wl_X10_71 wi_yX5_copy we_yX5_copy hd_yX5_copy rfl ⟨Nat.le_of_ble_eq_true rfl, Nat.le_of_ble_eq_true rfl⟩ (Nat.le_of_ble_eq_true rfl) ⟨Nat.le_of_ble_eq_true rfl, Nat.le_of_ble_eq_true rfl⟩ dX10_go_205 (fun V309 h309 => ?_)
            obtain ⟨hI309, hBc309, hFc309⟩ := h309
            replace hF := calUX_i hF hFc309 hBc309
            have hB309 := hB308.tr hBc309 (fun i k h => (Or.inr (Or.inr (⟨by omega, by omega⟩))))
            refine x_aload_n C.1 dX10_go_208 7 rfl ?_
            refine x_getA C (N := 129) (i := 39) (by omega) (xd_L (Or.inr (Or.inr rfl))) vc_X3 wx_X3 1 (by decide) wf_X10_75 (a := 41) rfl dX10_go_209 ?_
            refine x_iload C.1 dX10_go_212 1 rfl ?_
            refine x_aldS C (N := 129) (i := 41) (q := 0) (t := 5) rfl (by omega) (xd_Lb (Or.inr (Or.inr rfl))) (by decide) (by decide) dX10_go_214 (a := c295) ec295 ?_
            refine x_iload C.1 dX10_go_215 0 rfl ?_
            refine x_putI C (N := 129) (i := c295) hc295.1 hc295.2 vc_X4 wx_X4 3 (by decide) wf_X10_79 tyX4 tyX4_ok nmX4 rfl (tyX4_ok 3 (by decide)) rfl dX10_go_217 rfl rfl ?_
            refine x_gV ?_
            intro V310 hV310
            have hI310 : XI G V310 := hI309.up hV310 (rg_E hc295 3) (by omega) (pr_E hc295 _)
            have hB310 := hB309.up hV310 (Or.inr (Or.inr (⟨by omega, by omega⟩)))
            replace hF := hF.to (rdb_e (z := V310) hV310.symm)
            refine x_lv [(8, vI x4), (7, vI 0), (6, vI z181), (5, .ref (ad c2)), (0, .ref (ad 105)), (1, .ref (ad 39)), (2, .ref (ad 60)), (3, vI x3), (4, vI x4)] [2, 3, 4, 5, 6, 7, 8, 9, 10] rfl ?_
            exact jn293 V310 ⟨hI310, hB310, hF⟩
          · refine x_if_ne C.1 (tgt := 187) dX10_go_173 (by decide) (by omega) (fun hc311 => ?_) (fun hc311 => ?_)
            · replace hF := hF.to (if_pos hc311)
              exact jn305 V302 ⟨hI302, hB302, hF⟩
            · replace hF := hF.to (if_neg (fun hh => hh hc311))
              refine x_aload_n C.1 dX10_go_176 6 rfl ?_
              refine x_aload_n C.1 dX10_go_177 7 rfl ?_
              refine x_aload_n C.1 dX10_go_178 8 rfl ?_
              refine x_iload_n C.1 dX10_go_179 9 rfl ?_
              refine x_iconst C.1 (n := 1) dX10_go_180 ?_
              refine x_iadd C.1 (v := x3 + 1) (by omega) dX10_go_181 ?_
              refine x_iload C.1 dX10_go_182 2 rfl ?_
              refine x_callSv C (As := [.ref (ad 105), .ref (ad 39), .ref (ad 60), vI (x3 + 1), vI x4]) (rest := []) (s_go2 l D cy ad G V302 J Rr hI302 hJ hR (x3 + 1) ⟨by omega, by omega⟩ x4 ⟨by omega, by omega⟩) (l1 := []) (l2 := []) (List.append_nil _).symm (w2 := fun u : Nat → Nat → Int => XW cy ad u J Rr) (fun _ => List.append_nil _) rfl wm_yX10_go wn_X10 wl_X10_50 wi_yX10_go hd_yX10_go rfl ⟨Nat.le_of_ble_eq_true rfl, Nat.le_of_ble_eq_true rfl⟩ (Nat.le_of_ble_eq_true rfl) ⟨Nat.le_of_ble_eq_true rfl, Nat.le_of_ble_eq_true rfl⟩ dX10_go_184 (fun V312 h312 => ?_)
              obtain ⟨hI312, hBc312, hFc312⟩ := h312
              replace hF := calUX_i hF hFc312 hBc312
              have hB312 := hB302.tr hBc312 (fun i k h => (h.elim (fun h => (Or.inl h)) (fun h => (h.elim (fun h => (Or.inr (Or.inl h))) (fun h => (Or.inr (Or.inr (h))))))))
              exact jn305 V312 ⟨hI312, hB312, hF⟩
        · replace hF := hF.to (if_neg hc294)
          refine x_goto C.1 (tgt := 220) dX10_go_91 (by decide) ?_
          exact jn293 V182 ⟨hI182, hB182, hF⟩
    · replace hF := hF.to (if_neg hc273)
      refine x_iconst C.1 (n := 1) dX10_go_60 ?_
      refine x_goto C.1 (tgt := 65) dX10_go_61 (by decide) ?_
      refine x_istore C.1 (lv' := [(7, vI 1), (6, vI z181), (5, .ref (ad c2)), (0, .ref (ad 105)), (1, .ref (ad 39)), (2, .ref (ad 60)), (3, vI x3), (4, vI x4)]) dX10_go_65 (by decide) rfl ?_
      refine x_iload C.1 dX10_go_67 7 rfl ?_
      refine x_iload C.1 dX10_go_69 0 rfl ?_
      refine x_if_eq_f C.1 (tgt := 78) dX10_go_71 (by decide) (by decide) (by decide) ?_
      refine x_iconst C.1 (n := 1) dX10_go_74 ?_
      refine x_goto C.1 (tgt := 79) dX10_go_75 (by decide) ?_
      refine x_iadd C.1 (v := x4 + 1) (by omega) dX10_go_79 ?_
      refine x_wrapg ?_
      intro z313 bz313 ew313
      replace hF := hF.to (rdb_e (z := z313) ew313.symm)
      refine x_istore C.1 (lv' := [(8, vI z313), (7, vI 1), (6, vI z181), (5, .ref (ad c2)), (0, .ref (ad 105)), (1, .ref (ad 39)), (2, .ref (ad 60)), (3, vI x3), (4, vI x4)]) dX10_go_80 (by decide) rfl ?_
      refine x_iload C.1 dX10_go_82 0 rfl ?_
      refine x_aload_n C.1 dX10_go_84 4 rfl ?_
      obtain ⟨z314, ez314, bz314⟩ := hI182.rd 105 6 (x := -2147483648) (y := 2147483647) rfl
      replace hF := hF.to (rdb_e (z := z314) ez314)
      refine x_getI C (N := 129) (i := 105) (by decide) rfl vc_X10 wx_X10 6 (by decide) wf_X10_47 rfl dX10_go_85 (a := z314) ez314 ?_
      obtain ⟨jf336, hjf336, hF⟩ := jn_ex hF
      refine x_join (I := fun V336 : (Nat → Nat → Int) => XI G V336 ∧ FB (fun i k : Nat => (105 ≤ i ∧ i ≤ 123) ∨ (69 ≤ i ∧ i ≤ 71) ∨ (39 ≤ i ∧ i ≤ 57)) V V336 ∧ Imp (jf336 V336) (f_s_go1 x3 x4 V J Rr)) (wsf := fun V336 : (Nat → Nat → Int) => XW cy ad V336 J Rr) (lvf := fun V336 : (Nat → Nat → Int) => [(8, vI z313), (7, vI 1), (6, vI z181), (5, .ref (ad c2)), (0, .ref (ad 105)), (1, .ref (ad 39)), (2, .ref (ad 60)), (3, vI x3), (4, vI x4)]) (stf := fun V336 : (Nat → Nat → Int) => []) 220 (fun V336 hI336x => ?_) (fun jn336 => ?_)
      · obtain ⟨hI336, hB336, hF⟩ := hI336x
        try dsimp only
        replace hF := hF.to (jn_s1 hjf336)
        refine x_iinc C.1 (v := z181 - 1) (lv' := [(6, vI (z181 - 1)), (8, vI z313), (7, vI 1), (5, .ref (ad c2)), (0, .ref (ad 105)), (1, .ref (ad 39)), (2, .ref (ad 60)), (3, vI x3), (4, vI x4)]) (by omega) dX10_go_220 2 rfl (by decide) rfl ?_
        refine x_goto C.1 (tgt := 46) dX10_go_223 (by decide) ?_
        refine x_lv [(6, vI (z181 - 1)), (5, .ref (ad c2)), (0, .ref (ad 105)), (1, .ref (ad 39)), (2, .ref (ad 60)), (3, vI x3), (4, vI x4)] [0, 3, 4, 5, 6, 7, 8] rfl ?_
        have hmu182 : ((z181 - 1) - (-2)).toNat < (z181 - (-2)).toNat := (by omega)
        exact ih182 (z181 - 1, V336) ⟨⟨by omega, by omega⟩, hI336, hB336, ⟨nf182, Nat.lt_of_lt_of_le hmu182 (Nat.le_of_lt_succ hn182), hF⟩⟩ hmu182
      · refine x_icmp_le C.1 (tgt := 94) dX10_go_88 (by decide) (by omega) (by omega) (fun hc337 => ?_) (fun hc337 => ?_)
        · replace hF := hF.to (if_pos hc337)
          refine x_iload C.1 dX10_go_94 1 rfl ?_
          refine x_if_eq_f C.1 (tgt := 109) dX10_go_96 (by decide) (by decide) (by decide) ?_
          refine x_aload_n C.1 dX10_go_99 4 rfl ?_
          refine x_getA C (N := 129) (i := 105) (by decide) rfl vc_X10 wx_X10 1 (by decide) wf_X10_17 (a := 107) rfl dX10_go_100 ?_
          refine x_iload C.1 dX10_go_103 2 rfl ?_
          obtain ⟨z338, ez338, bz338⟩ := hI182.rd 107 z181.toNat (x := 0) (y := 7) rfl
          replace hF := hF.to (rdb_e (z := z338) ez338)
          replace hF := hF.fc bz338
          refine x_iald C (N := 129) (i := 107) (q := z181) (by decide) rfl (by omega) (by decide) dX10_go_105 (a := z338) ez338 ?_
          refine x_goto C.1 (tgt := 110) dX10_go_106 (by decide) ?_
          refine x_istore C.1 (lv' := [(9, vI z338), (8, vI z313), (7, vI 1), (6, vI z181), (5, .ref (ad c2)), (0, .ref (ad 105)), (1, .ref (ad 39)), (2, .ref (ad 60)), (3, vI x3), (4, vI x4)]) dX10_go_110 (by decide) rfl ?_
          refine x_aload_n C.1 dX10_go_112 6 rfl ?_
          refine x_getA C (N := 129) (i := 39) (by omega) (xd_L (Or.inr (Or.inr rfl))) vc_X3 wx_X3 1 (by decide) wf_X10_75 (a := 41) rfl dX10_go_113 ?_
          refine x_iload C.1 dX10_go_116 0 rfl ?_
          obtain ⟨c339, ec339, hc339⟩ : ∃ cx : Nat, 39 + 11 + 1 * z338.toNat = cx ∧ isPe cx := ⟨_, rfl, isPe_L (Or.inr (Or.inr rfl)) (by omega)⟩
          replace hF := hF.to (rdb_e (z := c339) ec339)
          refine x_aldS C (N := 129) (i := 41) (q := z338) (t := 5) rfl (by omega) (xd_Lb (Or.inr (Or.inr rfl))) (by omega) (by decide) dX10_go_118 (a := c339) ec339 ?_
          obtain ⟨z340, ez340, bz340⟩ := hI182.rd c339 3 (x := -2147483648) (y := 2147483647) (rg_E hc339 3)
          replace hF := hF.to (rdb_e (z := z340) ez340)
          refine x_getI C (N := 129) (i := c339) hc339.1 hc339.2 vc_X4 wx_X4 3 (by decide) wf_X10_79 rfl dX10_go_119 (a := z340) ez340 ?_
          refine x_istore C.1 (lv' := [(10, vI z340), (9, vI z338), (8, vI z313), (7, vI 1), (6, vI z181), (5, .ref (ad c2)), (0, .ref (ad 105)), (1, .ref (ad 39)), (2, .ref (ad 60)), (3, vI x3), (4, vI x4)]) dX10_go_122 (by decide) rfl ?_
          refine x_iload C.1 dX10_go_124 3 rfl ?_
          refine x_if_eq_f C.1 (tgt := 140) dX10_go_126 (by decide) (by decide) (by decide) ?_
          refine x_aload_n C.1 dX10_go_129 7 rfl ?_
          refine x_aload_n C.1 dX10_go_130 8 rfl ?_
          refine x_iload C.1 dX10_go_131 1 rfl ?_
          refine x_aload_n C.1 dX10_go_133 6 rfl ?_
          obtain ⟨z341, ez341, bz341⟩ := hI182.rd 105 5 (x := 0) (y := 3) rfl
          replace hF := hF.to (rdb_e (z := z341) ez341)
          replace hF := hF.fc bz341
          refine x_getI C (N := 129) (i := 105) (by decide) rfl vc_X10 wx_X10 5 (by decide) wf_X10_28 rfl dX10_go_134 (a := z341) ez341 ?_
          refine x_callVv C (As := [.ref (ad 60), vI z338, vI z341]) (rest := []) 39 (xw_at (N := 129) (i := 39) (by omega) (xd_L (Or.inr (Or.inr rfl)))) vc_X3 (s_giveTo l D cy ad G V182 J Rr hI182 hJ hR 39 (Or.inr (Or.inr rfl)) z338 ⟨by omega, by omega⟩ z341 ⟨by omega, by omega⟩) (l1 := []) (l2 := []) (List.append_nil _).symm (w2 := fun u : Nat → Nat → Int => XW cy ad u J Rr) (fun _ => List.append_nil _) rfl wm_yX3_giveTo wn_X3 wl_X10_84 wi_yX3_giveTo we_yX3_giveTo hd_yX3_giveTo rfl ⟨Nat.le_of_ble_eq_true rfl, Nat.le_of_ble_eq_true rfl⟩ (Nat.le_of_ble_eq_true rfl) ⟨Nat.le_of_ble_eq_true rfl, Nat.le_of_ble_eq_true rfl⟩ dX10_go_137 (fun V342 h342 => ?_)
          obtain ⟨hI342, hBc342, hFc342⟩ := h342
          replace hF := calUX_i hF hFc342 hBc342
          have hB342 := hB182.tr hBc342 (fun i k h => (h.elim (fun h => (Or.inr (Or.inl h))) (fun h => (Or.inr (Or.inr (⟨by omega, by omega⟩))))))
          refine x_aload_n C.1 dX10_go_140 7 rfl ?_
          refine x_aload_n C.1 dX10_go_141 8 rfl ?_
          refine x_aload_n C.1 dX10_go_142 6 rfl ?_
          obtain ⟨z343, ez343, bz343⟩ := hI342.rd 105 5 (x := 0) (y := 3) rfl
          replace hF := hF.to (rdb_e (z := z343) ez343)
          replace hF := hF.fc bz343
          refine x_getI C (N := 129) (i := 105) (by decide) rfl vc_X10 wx_X10 5 (by decide) wf_X10_28 rfl dX10_go_143 (a := z343) ez343 ?_
          refine x_iconst C.1 (n := 0) dX10_go_146 ?_
          refine x_callVv C (As := [.ref (ad 60), vI z343, vI 0]) (rest := []) 39 (xw_at (N := 129) (i := 39) (by omega) (xd_L (Or.inr (Or.inr rfl)))) vc_X3 (s_endDay l D cy ad G V342 J Rr hI342 hJ hR 39 (Or.inr (Or.inr rfl)) z343 ⟨by omega, by omega⟩ 0 ⟨by decide, by decide⟩) (l1 := []) (l2 := []) (List.append_nil _).symm (w2 := fun u : Nat → Nat → Int => XW cy ad u J Rr) (fun _ => List.append_nil _) rfl wm_yX3_endDay wn_X3 wl_X10_88 wi_yX3_endDay we_yX3_endDay hd_yX3_endDay rfl ⟨Nat.le_of_ble_eq_true rfl, Nat.le_of_ble_eq_true rfl⟩ (Nat.le_of_ble_eq_true rfl) ⟨Nat.le_of_ble_eq_true rfl, Nat.le_of_ble_eq_true rfl⟩ dX10_go_147 (fun V344 h344 => ?_)
          obtain ⟨hI344, hBc344, hFc344⟩ := h344
          replace hF := calUX_i hF hFc344 hBc344
          have hB344 := hB342.tr hBc344 (fun i k h => (h.elim (fun h => (Or.inr (Or.inl h))) (fun h => (Or.inr (Or.inr (⟨by omega, by omega⟩))))))
          refine x_aload_n C.1 dX10_go_150 7 rfl ?_
          refine x_dup C.1 dX10_go_151 rfl ?_
          obtain ⟨z345, ez345, bz345⟩ := hI344.rd 39 3 (x := -2147483648) (y := 2147483647) (rg_L (Or.inr (Or.inr rfl)) _)
          replace hF := hF.to (rdb_e (z := z345) ez345)
          refine x_getI C (N := 129) (i := 39) (by omega) (xd_L (Or.inr (Or.inr rfl))) vc_X3 wx_X3 3 (by decide) wf_X10_92 rfl dX10_go_152 (a := z345) ez345 ?_
          refine x_iconst C.1 (n := 1) dX10_go_155 ?_
          refine x_iadd C.1 (v := z345 + 1) (by omega) dX10_go_156 ?_
          refine x_wrapg ?_
          intro z346 bz346 ew346
          replace hF := hF.to (rdb_e (z := z346) ew346.symm)
          refine x_putI C (N := 129) (i := 39) (by omega) (xd_L (Or.inr (Or.inr rfl))) vc_X3 wx_X3 3 (by decide) wf_X10_92 tyX3 tyX3_ok nmX3 rfl (tyX3_ok 3 (by decide)) rfl dX10_go_157 rfl rfl ?_
          refine x_gV ?_
          intro V347 hV347
          have hI347 : XI G V347 := hI344.up hV347 (rg_L (Or.inr (Or.inr rfl)) _) (by omega) (pr_L (Or.inr (Or.inr rfl)) _)
          have hB347 := hB344.up hV347 (Or.inr (Or.inr (⟨by decide, by decide⟩)))
          replace hF := hF.to (rdb_e (z := V347) hV347.symm)
          refine x_aload_n C.1 dX10_go_160 6 rfl ?_
          refine x_getA C (N := 129) (i := 105) (by decide) rfl vc_X10 wx_X10 2 (by decide) wf_X10_21 (a := 108) rfl dX10_go_161 ?_
          refine x_iload_n C.1 dX10_go_164 9 rfl ?_
          refine x_iload C.1 dX10_go_165 4 rfl ?_
          refine x_iast C (N := 129) (i := 108) (q := x3) (a := z181) (by decide) rfl (by omega) (by decide) dX10_go_167 ?_
          refine x_gV ?_
          intro V348 hV348
          have hI348 : XI G V348 := hI347.up hV348 rfl (by omega) rfl
          have hB348 := hB347.up hV348 (Or.inl (⟨by decide, by decide⟩))
          replace hF := hF.to (rdb_e (z := V348) hV348.symm)
          refine x_aload C.1 dX10_go_168 5 rfl ?_
          refine x_callVi C (As := []) (rest := []) c2 (xw_at (N := 129) (i := c2) (Nat.lt_of_succ_lt hc2.1) hc2.2.1) vc_X5 (s_isDeadP l D cy ad G V348 J Rr hI348 hJ hR c2 hc2) (l1 := []) (l2 := []) (List.append_nil _).symm (w2 := fun _ => XW cy ad V348 J Rr) (fun _ => List.append_nil _) rfl wm_yX5_isDead wn_X5 wl_X10_95 wi_yX5_isDead we_yX5_isDead hd_yX5_isDead rfl ⟨Nat.le_of_ble_eq_true rfl, Nat.le_of_ble_eq_true rfl⟩ (Nat.le_of_ble_eq_true rfl) ⟨Nat.le_of_ble_eq_true rfl, Nat.le_of_ble_eq_true rfl⟩ dX10_go_170 (fun z349 u349 bz349 h349 => ?_)
          obtain ⟨bq349, hFc349⟩ := h349
          replace hF := calR_i hF hFc349
          replace hF := hF.fc bq349
          obtain ⟨jf351, hjf351, hF⟩ := jn_ex hF
          refine x_join (I := fun V351 : (Nat → Nat → Int) => XI G V351 ∧ FB (fun i k : Nat => (105 ≤ i ∧ i ≤ 123) ∨ (69 ≤ i ∧ i ≤ 71) ∨ (39 ≤ i ∧ i ≤ 57)) V V351 ∧ Imp (jf351 V351) (f_s_go1 x3 x4 V J Rr)) (wsf := fun V351 : (Nat → Nat → Int) => XW cy ad V351 J Rr) (lvf := fun V351 : (Nat → Nat → Int) => [(10, vI z340), (9, vI z338), (8, vI z313), (7, vI 1), (6, vI z181), (5, .ref (ad c2)), (0, .ref (ad 105)), (1, .ref (ad 39)), (2, .ref (ad 60)), (3, vI x3), (4, vI x4)]) (stf := fun V351 : (Nat → Nat → Int) => []) 187 (fun V351 hI351x => ?_) (fun jn351 => ?_)
          · obtain ⟨hI351, hB351, hF⟩ := hI351x
            try dsimp only
            replace hF := hF.to (jn_s1 hjf351)
            refine x_aload_n C.1 dX10_go_187 7 rfl ?_
            refine x_dup C.1 dX10_go_188 rfl ?_
            obtain ⟨z352, ez352, bz352⟩ := hI351.rd 39 3 (x := -2147483648) (y := 2147483647) (rg_L (Or.inr (Or.inr rfl)) _)
            replace hF := hF.to (rdb_e (z := z352) ez352)
            refine x_getI C (N := 129) (i := 39) (by omega) (xd_L (Or.inr (Or.inr rfl))) vc_X3 wx_X3 3 (by decide) wf_X10_92 rfl dX10_go_189 (a := z352) ez352 ?_
            refine x_iconst C.1 (n := 1) dX10_go_192 ?_
            refine x_isub C.1 (v := z352 - 1) (by omega) dX10_go_193 ?_
            refine x_wrapg ?_
            intro z353 bz353 ew353
            replace hF := hF.to (rdb_e (z := z353) ew353.symm)
            refine x_putI C (N := 129) (i := 39) (by omega) (xd_L (Or.inr (Or.inr rfl))) vc_X3 wx_X3 3 (by decide) wf_X10_92 tyX3 tyX3_ok nmX3 rfl (tyX3_ok 3 (by decide)) rfl dX10_go_194 rfl rfl ?_
            refine x_gV ?_
            intro V354 hV354
            have hI354 : XI G V354 := hI351.up hV354 (rg_L (Or.inr (Or.inr rfl)) _) (by omega) (pr_L (Or.inr (Or.inr rfl)) _)
            have hB354 := hB351.up hV354 (Or.inr (Or.inr (⟨by decide, by decide⟩)))
            replace hF := hF.to (rdb_e (z := V354) hV354.symm)
            refine x_aload C.1 dX10_go_197 5 rfl ?_
            refine x_aload_n C.1 dX10_go_199 6 rfl ?_
            refine x_getA C (N := 129) (i := 105) (by decide) rfl vc_X10 wx_X10 0 (by decide) wf_X10_11 (a := 106) rfl dX10_go_200 ?_
            refine x_iload_n C.1 dX10_go_203 9 rfl ?_
            refine x_aldS C (N := 129) (i := 106) (q := x3) (t := 4) rfl (by decide) rfl (by omega) (by decide) dX10_go_204 (a := c3) ec3 ?_
            refine x_callVv C (As := [.ref (ad c3)]) (rest := []) c2 (xw_at (N := 129) (i := c2) (Nat.lt_of_succ_lt hc2.1) hc2.2.1) vc_X5 (s_copyP l D cy ad G V354 J Rr hI354 hJ hR c2 hc2 c3 hc3 (fun k => pr_39 ec2 (by omega) k)) (l1 := []) (l2 := []) (List.append_nil _).symm (w2 := fun u : Nat → Nat → Int => XW cy ad u J Rr) (fun _ => List.append_nil _) rfl wm_yX5_copy wn_X5 wl_X10_71 wi_yX5_copy we_yX5_copy hd_yX5_copy rfl ⟨Nat.le_of_ble_eq_true rfl, Nat.le_of_ble_eq_true rfl⟩ (Nat.le_of_ble_eq_true rfl) ⟨Nat.le_of_ble_eq_true rfl, Nat.le_of_ble_eq_true rfl⟩ dX10_go_205 (fun V355 h355 => ?_)
            obtain ⟨hI355, hBc355, hFc355⟩ := h355
            replace hF := calUX_i hF hFc355 hBc355
            have hB355 := hB354.tr hBc355 (fun i k h => (Or.inr (Or.inr (⟨by omega, by omega⟩))))
            refine x_aload_n C.1 dX10_go_208 7 rfl ?_
            refine x_getA C (N := 129) (i := 39) (by omega) (xd_L (Or.inr (Or.inr rfl))) vc_X3 wx_X3 1 (by decide) wf_X10_75 (a := 41) rfl dX10_go_209 ?_
            refine x_iload C.1 dX10_go_212 1 rfl ?_
            refine x_aldS C (N := 129) (i := 41) (q := z338) (t := 5) rfl (by omega) (xd_Lb (Or.inr (Or.inr rfl))) (by omega) (by decide) dX10_go_214 (a := c339) ec339 ?_
            refine x_iload C.1 dX10_go_215 0 rfl ?_
            refine x_putI C (N := 129) (i := c339) hc339.1 hc339.2 vc_X4 wx_X4 3 (by decide) wf_X10_79 tyX4 tyX4_ok nmX4 rfl (tyX4_ok 3 (by decide)) rfl dX10_go_217 rfl rfl ?_
            refine x_gV ?_
            intro V356 hV356
            have hI356 : XI G V356 := hI355.up hV356 (rg_E hc339 3) (by omega) (pr_E hc339 _)
            have hB356 := hB355.up hV356 (Or.inr (Or.inr (⟨by omega, by omega⟩)))
            replace hF := hF.to (rdb_e (z := V356) hV356.symm)
            refine x_lv [(8, vI z313), (7, vI 1), (6, vI z181), (5, .ref (ad c2)), (0, .ref (ad 105)), (1, .ref (ad 39)), (2, .ref (ad 60)), (3, vI x3), (4, vI x4)] [2, 3, 4, 5, 6, 7, 8, 9, 10] rfl ?_
            exact jn336 V356 ⟨hI356, hB356, hF⟩
          · refine x_if_ne C.1 (tgt := 187) dX10_go_173 (by decide) (by omega) (fun hc357 => ?_) (fun hc357 => ?_)
            · replace hF := hF.to (if_pos hc357)
              exact jn351 V348 ⟨hI348, hB348, hF⟩
            · replace hF := hF.to (if_neg (fun hh => hh hc357))
              refine x_aload_n C.1 dX10_go_176 6 rfl ?_
              refine x_aload_n C.1 dX10_go_177 7 rfl ?_
              refine x_aload_n C.1 dX10_go_178 8 rfl ?_
              refine x_iload_n C.1 dX10_go_179 9 rfl ?_
              refine x_iconst C.1 (n := 1) dX10_go_180 ?_
              refine x_iadd C.1 (v := x3 + 1) (by omega) dX10_go_181 ?_
              refine x_iload C.1 dX10_go_182 2 rfl ?_
              refine x_callSv C (As := [.ref (ad 105), .ref (ad 39), .ref (ad 60), vI (x3 + 1), vI z313]) (rest := []) (s_go2 l D cy ad G V348 J Rr hI348 hJ hR (x3 + 1) ⟨by omega, by omega⟩ z313 ⟨by omega, by omega⟩) (l1 := []) (l2 := []) (List.append_nil _).symm (w2 := fun u : Nat → Nat → Int => XW cy ad u J Rr) (fun _ => List.append_nil _) rfl wm_yX10_go wn_X10 wl_X10_50 wi_yX10_go hd_yX10_go rfl ⟨Nat.le_of_ble_eq_true rfl, Nat.le_of_ble_eq_true rfl⟩ (Nat.le_of_ble_eq_true rfl) ⟨Nat.le_of_ble_eq_true rfl, Nat.le_of_ble_eq_true rfl⟩ dX10_go_184 (fun V358 h358 => ?_)
              obtain ⟨hI358, hBc358, hFc358⟩ := h358
              replace hF := calUX_i hF hFc358 hBc358
              have hB358 := hB348.tr hBc358 (fun i k h => (h.elim (fun h => (Or.inl h)) (fun h => (h.elim (fun h => (Or.inr (Or.inl h))) (fun h => (Or.inr (Or.inr (h))))))))
              exact jn351 V358 ⟨hI358, hB358, hF⟩
        · replace hF := hF.to (if_neg hc337)
          refine x_goto C.1 (tgt := 220) dX10_go_91 (by decide) ?_
          exact jn336 V182 ⟨hI182, hB182, hF⟩
set_option maxRecDepth 100000 in
def f_s_go0 (x3 : Int) (x4 : Int) (V : Nat → Nat → Int) (J : Nat → Nat → Int) (Rr : Nat → Nat → Nat) : (Nat → Nat → Int) → Prop :=
  rdb (V 105 5) fun z1 => fct (0 ≤ z1 ∧ z1 ≤ 3) <| rdb (39 + 3 + 2 * z1.toNat) fun c2 => rdb (110 + 2 * x3.toNat) fun c3 => calUX (fun i k : Nat => (c3 ≤ i ∧ i ≤ c3 + 1)) V (f_s_copyP c3 c2 V J Rr) fun V4 => rdb (V4 105 4) fun z5 => fct (0 ≤ z5 ∧ z5 ≤ 3) <| lop2 (6) (fun rc182 (z181 : Int) (V182 : Nat → Nat → Int) => (if z181 < 0 then rtn V182 else rdb (V182 105 4) fun z272 => fct (0 ≤ z272 ∧ z272 ≤ 3) <| (if z272 ≤ z181 then rdb (V182 105 6) fun z274 => jnk (fun (V293 : Nat → Nat → Int) => rc182 (z181 - 1) V293) fun jf293 => (if x4 ≤ z274 then rdb (39 + 11 + 1 * 0) fun c295 => rdb (V182 c295 3) fun z296 => rdb (V182 105 5) fun z297 => fct (0 ≤ z297 ∧ z297 ≤ 3) <| calUX (fun i k : Nat => (69 ≤ i ∧ i ≤ 71) ∨ (39 ≤ i ∧ i ≤ 39 + 18)) V182 (f_s_endDay 39 z297 0 V182 J Rr) fun V298 => rdb (V298 39 3) fun z299 => rdb (wr (z299 + 1)) fun z300 => rdb (up2 V298 39 3 z300) fun V301 => rdb (up2 V301 108 x3.toNat z181) fun V302 => calR (f_s_isDeadP c2 V302 J Rr) fun z303 => fct (0 ≤ z303 ∧ z303 ≤ 1) <| jnk (fun (V305 : Nat → Nat → Int) => rdb (V305 39 3) fun z306 => rdb (wr (z306 - 1)) fun z307 => rdb (up2 V305 39 3 z307) fun V308 => calUX (fun i k : Nat => (c2 ≤ i ∧ i ≤ c2 + 1)) V308 (f_s_copyP c2 c3 V308 J Rr) fun V309 => rdb (up2 V309 c295 3 z296) fun V310 => jf293 V310) fun jf305 => (if ¬ z303 = 0 then jf305 V302 else calUX (fun i k : Nat => (105 ≤ i ∧ i ≤ 123) ∨ (69 ≤ i ∧ i ≤ 71) ∨ (39 ≤ i ∧ i ≤ 57)) V302 (f_s_go1 (x3 + 1) x4 V302 J Rr) fun V312 => jf305 V312) else jf293 V182) else rdb (wr (x4 + 1)) fun z313 => rdb (V182 105 6) fun z314 => jnk (fun (V336 : Nat → Nat → Int) => rc182 (z181 - 1) V336) fun jf336 => (if z313 ≤ z314 then rdb (V182 107 z181.toNat) fun z338 => fct (0 ≤ z338 ∧ z338 ≤ 7) <| rdb (39 + 11 + 1 * z338.toNat) fun c339 => rdb (V182 c339 3) fun z340 => rdb (V182 105 5) fun z341 => fct (0 ≤ z341 ∧ z341 ≤ 3) <| calUX (fun i k : Nat => (69 ≤ i ∧ i ≤ 71) ∨ (39 ≤ i ∧ i ≤ 39 + 18)) V182 (f_s_giveTo 39 z338 z341 V182 J Rr) fun V342 => rdb (V342 105 5) fun z343 => fct (0 ≤ z343 ∧ z343 ≤ 3) <| calUX (fun i k : Nat => (69 ≤ i ∧ i ≤ 71) ∨ (39 ≤ i ∧ i ≤ 39 + 18)) V342 (f_s_endDay 39 z343 0 V342 J Rr) fun V344 => rdb (V344 39 3) fun z345 => rdb (wr (z345 + 1)) fun z346 => rdb (up2 V344 39 3 z346) fun V347 => rdb (up2 V347 108 x3.toNat z181) fun V348 => calR (f_s_isDeadP c2 V348 J Rr) fun z349 => fct (0 ≤ z349 ∧ z349 ≤ 1) <| jnk (fun (V351 : Nat → Nat → Int) => rdb (V351 39 3) fun z352 => rdb (wr (z352 - 1)) fun z353 => rdb (up2 V351 39 3 z353) fun V354 => calUX (fun i k : Nat => (c2 ≤ i ∧ i ≤ c2 + 1)) V354 (f_s_copyP c2 c3 V354 J Rr) fun V355 => rdb (up2 V355 c339 3 z340) fun V356 => jf336 V356) fun jf351 => (if ¬ z349 = 0 then jf351 V348 else calUX (fun i k : Nat => (105 ≤ i ∧ i ≤ 123) ∨ (69 ≤ i ∧ i ≤ 71) ∨ (39 ≤ i ∧ i ≤ 57)) V348 (f_s_go1 (x3 + 1) z313 V348 J Rr) fun V358 => jf351 V358) else jf336 V182)))) z5 V4
set_option maxHeartbeats 8000000 in
set_option maxRecDepth 100000 in
theorem s_go0 (l : Launch) (D : va_G) (cy : Nat → ClassId) (ad : Nat → Nat) (G : Nat → Nat → Int) (V J : Nat → Nat → Int) (Rr : Nat → Nat → Nat) (hI : XI G V) (hJ : VJ J) (hR : XR Rr) (x3 : Int) (bx3 : 0 ≤ x3 ∧ x3 ≤ 0) (x4 : Int) (bx4 : -2147483648 ≤ x4 ∧ x4 ≤ 2147483647) : xMv l D (xTY cy) yX10_go cX10_go 11 none 11 305 0 0 [.ref (ad 105), .ref (ad 39), .ref (ad 60), vI x3, vI x4] (XW cy ad V J Rr) (fun u : Nat → Nat → Int => XW cy ad u J Rr) (fun u : Nat → Nat → Int => XI G u ∧ FB (fun i k : Nat => (105 ≤ i ∧ i ≤ 123) ∨ (69 ≤ i ∧ i ≤ 71) ∨ (39 ≤ i ∧ i ≤ 57)) V u ∧ (f_s_go0 x3 x4 V J Rr) u) := by
  refine xMv.mk (lv0 := [(0, .ref (ad 105)), (1, .ref (ad 39)), (2, .ref (ad 60)), (3, vI x3), (4, vI x4)]) (by decide) rfl (Nat.le_of_ble_eq_true rfl) (fun p e s m below meth c A C hr hnm hAe => ?_)
  have C : xC2 p s m _ meth c D A s.heap 11 cX10_go RX10 (xTY cy) := C
  have hB : FB (fun i k : Nat => (105 ≤ i ∧ i ≤ 123) ∨ (69 ≤ i ∧ i ≤ 71) ∨ (39 ≤ i ∧ i ≤ 57)) V V := FB.rf _ _
  have hF := Imp.of_eq (f_s_go0.eq_def x3 x4 V J Rr)
  refine x_aload_n C.1 dX10_go_0 1 rfl ?_
  refine x_getA C (N := 129) (i := 39) (by omega) (xd_L (Or.inr (Or.inr rfl))) vc_X3 wx_X3 0 (by decide) wf_X10_63 (a := 40) rfl dX10_go_1 ?_
  refine x_aload_n C.1 dX10_go_4 0 rfl ?_
  obtain ⟨z1, ez1, bz1⟩ := hI.rd 105 5 (x := 0) (y := 3) rfl
  replace hF := hF.to (rdb_e (z := z1) ez1)
  replace hF := hF.fc bz1
  refine x_getI C (N := 129) (i := 105) (by decide) rfl vc_X10 wx_X10 5 (by decide) wf_X10_28 rfl dX10_go_5 (a := z1) ez1 ?_
  obtain ⟨c2, ec2, hc2⟩ : ∃ cx : Nat, 39 + 3 + 2 * z1.toNat = cx ∧ isPl cx := ⟨_, rfl, isPl_L (Or.inr (Or.inr rfl)) (by omega)⟩
  replace hF := hF.to (rdb_e (z := c2) ec2)
  refine x_aldS C (N := 129) (i := 40) (q := z1) (t := 4) rfl (by omega) (xd_La (Or.inr (Or.inr rfl))) (by omega) (by decide) dX10_go_8 (a := c2) ec2 ?_
  refine x_astore C.1 (lv' := [(5, .ref (ad c2)), (0, .ref (ad 105)), (1, .ref (ad 39)), (2, .ref (ad 60)), (3, vI x3), (4, vI x4)]) dX10_go_9 (by decide) rfl ?_
  refine x_iload_n C.1 dX10_go_11 4 rfl ?_
  refine x_bipush C.1 (n := 7) dX10_go_12 ?_
  refine x_icmp_lt_t C.1 (tgt := 29) dX10_go_14 (by decide) (by omega) (by decide) (by omega) ?_
  refine x_aload_n C.1 dX10_go_29 1 rfl ?_
  refine x_getA C (N := 129) (i := 105) (by decide) rfl vc_X10 wx_X10 0 (by decide) wf_X10_11 (a := 106) rfl dX10_go_30 ?_
  refine x_iload_n C.1 dX10_go_33 4 rfl ?_
  obtain ⟨c3, ec3, hc3⟩ : ∃ cx : Nat, 110 + 2 * x3.toNat = cx ∧ isPl cx := ⟨_, rfl, isPl_Wk (by omega)⟩
  replace hF := hF.to (rdb_e (z := c3) ec3)
  refine x_aldS C (N := 129) (i := 106) (q := x3) (t := 4) rfl (by decide) rfl (by omega) (by decide) dX10_go_34 (a := c3) ec3 ?_
  refine x_aload C.1 dX10_go_35 0 rfl ?_
  refine x_callVv C (As := [.ref (ad c2)]) (rest := []) c3 (xw_at (N := 129) (i := c3) (Nat.lt_of_succ_lt hc3.1) hc3.2.1) vc_X5 (s_copyP l D cy ad G V J Rr hI hJ hR c3 hc3 c2 hc2 (fun k => pr_Wk ec3 (by omega) k)) (l1 := []) (l2 := []) (List.append_nil _).symm (w2 := fun u : Nat → Nat → Int => XW cy ad u J Rr) (fun _ => List.append_nil _) rfl wm_yX5_copy wn_X5 wl_X10_71 wi_yX5_copy we_yX5_copy hd_yX5_copy rfl ⟨Nat.le_of_ble_eq_true rfl, Nat.le_of_ble_eq_true rfl⟩ (Nat.le_of_ble_eq_true rfl) ⟨Nat.le_of_ble_eq_true rfl, Nat.le_of_ble_eq_true rfl⟩ dX10_go_37 (fun V4 h4 => ?_)
  obtain ⟨hI4, hBc4, hFc4⟩ := h4
  replace hF := calUX_i hF hFc4 hBc4
  have hB4 := hB.tr hBc4 (fun i k h => (Or.inl (⟨by omega, by omega⟩)))
  refine x_aload_n C.1 dX10_go_40 1 rfl ?_
  obtain ⟨z5, ez5, bz5⟩ := hI4.rd 105 4 (x := 0) (y := 3) rfl
  replace hF := hF.to (rdb_e (z := z5) ez5)
  replace hF := hF.fc bz5
  refine x_getI C (N := 129) (i := 105) (by decide) rfl vc_X10 wx_X10 4 (by decide) wf_X10_38 rfl dX10_go_41 (a := z5) ez5 ?_
  refine x_istore C.1 (lv' := [(6, vI z5), (5, .ref (ad c2)), (0, .ref (ad 105)), (1, .ref (ad 39)), (2, .ref (ad 60)), (3, vI x3), (4, vI x4)]) dX10_go_44 (by decide) rfl ?_
  obtain ⟨bd182, hbd182, hF⟩ := lop2_ex hF
  refine x_loop (I := fun x : Int × (Nat → Nat → Int) => match x with | (z181, V182) => (-1 ≤ z181 ∧ z181 ≤ 3) ∧ XI G V182 ∧ FB (fun i k : Nat => (105 ≤ i ∧ i ≤ 123) ∨ (69 ≤ i ∧ i ≤ 71) ∨ (39 ≤ i ∧ i ≤ 57)) V V182 ∧ (∃ nf : Nat, (z181 - (-2)).toNat < nf ∧ Imp (lop2 nf bd182 z181 V182) (f_s_go0 x3 x4 V J Rr))) (μ := fun x : Int × (Nat → Nat → Int) => match x with | (z181, V182) => (z181 - (-2)).toNat) (wsf := fun x : Int × (Nat → Nat → Int) => match x with | (z181, V182) => XW cy ad V182 J Rr) (lvf := fun x : Int × (Nat → Nat → Int) => match x with | (z181, V182) => [(6, vI z181), (5, .ref (ad c2)), (0, .ref (ad 105)), (1, .ref (ad 39)), (2, .ref (ad 60)), (3, vI x3), (4, vI x4)]) (fun x hI182x ih182 => ?_) (z5, V4) ⟨⟨by omega, by omega⟩, hI4, hB4, ⟨_, (by omega), hF⟩⟩ rfl rfl
  obtain ⟨z181, V182⟩ := x
  obtain ⟨bz181, hI182, hB182, nf182, hn182, hF⟩ := hI182x
  try dsimp only
  obtain ⟨nf182, rfl⟩ : ∃ mm, nf182 = mm + 1 := ⟨nf182 - 1, (Nat.succ_pred_eq_of_pos (Nat.lt_of_le_of_lt (Nat.zero_le _) hn182)).symm⟩
  replace hF := hF.to (lop2_s hbd182)
  refine x_iload C.1 dX10_go_46 0 rfl ?_
  refine x_if_lt C.1 (tgt := 226) dX10_go_48 (by decide) (by omega) (fun hc271 => ?_) (fun hc271 => ?_)
  · replace hF := hF.to (if_pos hc271)
    exact x_vret (S := (Nat → Nat → Int)) (post := (fun u : Nat → Nat → Int => XI G u ∧ FB (fun i k : Nat => (105 ≤ i ∧ i ≤ 123) ∨ (69 ≤ i ∧ i ≤ 71) ∨ (39 ≤ i ∧ i ≤ 57)) V u ∧ (f_s_go0 x3 x4 V J Rr) u)) (w1 := (fun u : Nat → Nat → Int => XW cy ad u J Rr)) C hr rfl dX10_go_226 V182 rfl ⟨hI182, hB182, hF _ rfl⟩
  · replace hF := hF.to (if_neg hc271)
    refine x_iload C.1 dX10_go_51 0 rfl ?_
    refine x_aload_n C.1 dX10_go_53 2 rfl ?_
    obtain ⟨z272, ez272, bz272⟩ := hI182.rd 105 4 (x := 0) (y := 3) rfl
    replace hF := hF.to (rdb_e (z := z272) ez272)
    replace hF := hF.fc bz272
    refine x_getI C (N := 129) (i := 105) (by decide) rfl vc_X10 wx_X10 4 (by decide) wf_X10_38 rfl dX10_go_54 (a := z272) ez272 ?_
    refine x_icmp_ge C.1 (tgt := 64) dX10_go_57 (by decide) (by omega) (by omega) (fun hc273 => ?_) (fun hc273 => ?_)
    · replace hF := hF.to (if_pos hc273)
      refine x_iconst C.1 (n := 0) dX10_go_64 ?_
      refine x_istore C.1 (lv' := [(7, vI 0), (6, vI z181), (5, .ref (ad c2)), (0, .ref (ad 105)), (1, .ref (ad 39)), (2, .ref (ad 60)), (3, vI x3), (4, vI x4)]) dX10_go_65 (by decide) rfl ?_
      refine x_iload C.1 dX10_go_67 7 rfl ?_
      refine x_iload C.1 dX10_go_69 0 rfl ?_
      refine x_if_eq_t C.1 (tgt := 78) dX10_go_71 (by decide) (by decide) (by decide) ?_
      refine x_iconst C.1 (n := 0) dX10_go_78 ?_
      refine x_iadd C.1 (v := x4) (by omega) dX10_go_79 ?_
      refine x_istore C.1 (lv' := [(8, vI x4), (7, vI 0), (6, vI z181), (5, .ref (ad c2)), (0, .ref (ad 105)), (1, .ref (ad 39)), (2, .ref (ad 60)), (3, vI x3), (4, vI x4)]) dX10_go_80 (by decide) rfl ?_
      refine x_iload C.1 dX10_go_82 0 rfl ?_
      refine x_aload_n C.1 dX10_go_84 4 rfl ?_
      obtain ⟨z274, ez274, bz274⟩ := hI182.rd 105 6 (x := -2147483648) (y := 2147483647) rfl
      replace hF := hF.to (rdb_e (z := z274) ez274)
      refine x_getI C (N := 129) (i := 105) (by decide) rfl vc_X10 wx_X10 6 (by decide) wf_X10_47 rfl dX10_go_85 (a := z274) ez274 ?_
      obtain ⟨jf293, hjf293, hF⟩ := jn_ex hF
      refine x_join (I := fun V293 : (Nat → Nat → Int) => XI G V293 ∧ FB (fun i k : Nat => (105 ≤ i ∧ i ≤ 123) ∨ (69 ≤ i ∧ i ≤ 71) ∨ (39 ≤ i ∧ i ≤ 57)) V V293 ∧ Imp (jf293 V293) (f_s_go0 x3 x4 V J Rr)) (wsf := fun V293 : (Nat → Nat → Int) => XW cy ad V293 J Rr) (lvf := fun V293 : (Nat → Nat → Int) => [(8, vI x4), (7, vI 0), (6, vI z181), (5, .ref (ad c2)), (0, .ref (ad 105)), (1, .ref (ad 39)), (2, .ref (ad 60)), (3, vI x3), (4, vI x4)]) (stf := fun V293 : (Nat → Nat → Int) => []) 220 (fun V293 hI293x => ?_) (fun jn293 => ?_)
      · obtain ⟨hI293, hB293, hF⟩ := hI293x
        try dsimp only
        replace hF := hF.to (jn_s1 hjf293)
        refine x_iinc C.1 (v := z181 - 1) (lv' := [(6, vI (z181 - 1)), (8, vI x4), (7, vI 0), (5, .ref (ad c2)), (0, .ref (ad 105)), (1, .ref (ad 39)), (2, .ref (ad 60)), (3, vI x3), (4, vI x4)]) (by omega) dX10_go_220 2 rfl (by decide) rfl ?_
        refine x_goto C.1 (tgt := 46) dX10_go_223 (by decide) ?_
        refine x_lv [(6, vI (z181 - 1)), (5, .ref (ad c2)), (0, .ref (ad 105)), (1, .ref (ad 39)), (2, .ref (ad 60)), (3, vI x3), (4, vI x4)] [0, 3, 4, 5, 6, 7, 8] rfl ?_
        have hmu182 : ((z181 - 1) - (-2)).toNat < (z181 - (-2)).toNat := (by omega)
        exact ih182 (z181 - 1, V293) ⟨⟨by omega, by omega⟩, hI293, hB293, ⟨nf182, Nat.lt_of_lt_of_le hmu182 (Nat.le_of_lt_succ hn182), hF⟩⟩ hmu182
      · refine x_icmp_le C.1 (tgt := 94) dX10_go_88 (by decide) (by omega) (by omega) (fun hc294 => ?_) (fun hc294 => ?_)
        · replace hF := hF.to (if_pos hc294)
          refine x_iload C.1 dX10_go_94 1 rfl ?_
          refine x_if_eq_t C.1 (tgt := 109) dX10_go_96 (by decide) (by decide) (by decide) ?_
          refine x_iconst C.1 (n := 0) dX10_go_109 ?_
          refine x_istore C.1 (lv' := [(9, vI 0), (8, vI x4), (7, vI 0), (6, vI z181), (5, .ref (ad c2)), (0, .ref (ad 105)), (1, .ref (ad 39)), (2, .ref (ad 60)), (3, vI x3), (4, vI x4)]) dX10_go_110 (by decide) rfl ?_
          refine x_aload_n C.1 dX10_go_112 6 rfl ?_
          refine x_getA C (N := 129) (i := 39) (by omega) (xd_L (Or.inr (Or.inr rfl))) vc_X3 wx_X3 1 (by decide) wf_X10_75 (a := 41) rfl dX10_go_113 ?_
          refine x_iload C.1 dX10_go_116 0 rfl ?_
          obtain ⟨c295, ec295, hc295⟩ : ∃ cx : Nat, 39 + 11 + 1 * 0 = cx ∧ isPe cx := ⟨_, rfl, isPe_L (Or.inr (Or.inr rfl)) (by decide)⟩
          replace hF := hF.to (rdb_e (z := c295) ec295)
          refine x_aldS C (N := 129) (i := 41) (q := 0) (t := 5) rfl (by omega) (xd_Lb (Or.inr (Or.inr rfl))) (by decide) (by decide) dX10_go_118 (a := c295) ec295 ?_
          obtain ⟨z296, ez296, bz296⟩ := hI182.rd c295 3 (x := -2147483648) (y := 2147483647) (rg_E hc295 3)
          replace hF := hF.to (rdb_e (z := z296) ez296)
          refine x_getI C (N := 129) (i := c295) hc295.1 hc295.2 vc_X4 wx_X4 3 (by decide) wf_X10_79 rfl dX10_go_119 (a := z296) ez296 ?_
          refine x_istore C.1 (lv' := [(10, vI z296), (9, vI 0), (8, vI x4), (7, vI 0), (6, vI z181), (5, .ref (ad c2)), (0, .ref (ad 105)), (1, .ref (ad 39)), (2, .ref (ad 60)), (3, vI x3), (4, vI x4)]) dX10_go_122 (by decide) rfl ?_
          refine x_iload C.1 dX10_go_124 3 rfl ?_
          refine x_if_eq_t C.1 (tgt := 140) dX10_go_126 (by decide) (by decide) (by decide) ?_
          refine x_aload_n C.1 dX10_go_140 7 rfl ?_
          refine x_aload_n C.1 dX10_go_141 8 rfl ?_
          refine x_aload_n C.1 dX10_go_142 6 rfl ?_
          obtain ⟨z297, ez297, bz297⟩ := hI182.rd 105 5 (x := 0) (y := 3) rfl
          replace hF := hF.to (rdb_e (z := z297) ez297)
          replace hF := hF.fc bz297
          refine x_getI C (N := 129) (i := 105) (by decide) rfl vc_X10 wx_X10 5 (by decide) wf_X10_28 rfl dX10_go_143 (a := z297) ez297 ?_
          refine x_iconst C.1 (n := 0) dX10_go_146 ?_
          refine x_callVv C (As := [.ref (ad 60), vI z297, vI 0]) (rest := []) 39 (xw_at (N := 129) (i := 39) (by omega) (xd_L (Or.inr (Or.inr rfl)))) vc_X3 (s_endDay l D cy ad G V182 J Rr hI182 hJ hR 39 (Or.inr (Or.inr rfl)) z297 ⟨by omega, by omega⟩ 0 ⟨by decide, by decide⟩) (l1 := []) (l2 := []) (List.append_nil _).symm (w2 := fun u : Nat → Nat → Int => XW cy ad u J Rr) (fun _ => List.append_nil _) rfl wm_yX3_endDay wn_X3 wl_X10_88 wi_yX3_endDay we_yX3_endDay hd_yX3_endDay rfl ⟨Nat.le_of_ble_eq_true rfl, Nat.le_of_ble_eq_true rfl⟩ (Nat.le_of_ble_eq_true rfl) ⟨Nat.le_of_ble_eq_true rfl, Nat.le_of_ble_eq_true rfl⟩ dX10_go_147 (fun V298 h298 => ?_)
          obtain ⟨hI298, hBc298, hFc298⟩ := h298
          replace hF := calUX_i hF hFc298 hBc298
          have hB298 := hB182.tr hBc298 (fun i k h => (h.elim (fun h => (Or.inr (Or.inl h))) (fun h => (Or.inr (Or.inr (⟨by omega, by omega⟩))))))
          refine x_aload_n C.1 dX10_go_150 7 rfl ?_
          refine x_dup C.1 dX10_go_151 rfl ?_
          obtain ⟨z299, ez299, bz299⟩ := hI298.rd 39 3 (x := -2147483648) (y := 2147483647) (rg_L (Or.inr (Or.inr rfl)) _)
          replace hF := hF.to (rdb_e (z := z299) ez299)
          refine x_getI C (N := 129) (i := 39) (by omega) (xd_L (Or.inr (Or.inr rfl))) vc_X3 wx_X3 3 (by decide) wf_X10_92 rfl dX10_go_152 (a := z299) ez299 ?_
          refine x_iconst C.1 (n := 1) dX10_go_155 ?_
          refine x_iadd C.1 (v := z299 + 1) (by omega) dX10_go_156 ?_
          refine x_wrapg ?_
          intro z300 bz300 ew300
          replace hF := hF.to (rdb_e (z := z300) ew300.symm)
          refine x_putI C (N := 129) (i := 39) (by omega) (xd_L (Or.inr (Or.inr rfl))) vc_X3 wx_X3 3 (by decide) wf_X10_92 tyX3 tyX3_ok nmX3 rfl (tyX3_ok 3 (by decide)) rfl dX10_go_157 rfl rfl ?_
          refine x_gV ?_
          intro V301 hV301
          have hI301 : XI G V301 := hI298.up hV301 (rg_L (Or.inr (Or.inr rfl)) _) (by omega) (pr_L (Or.inr (Or.inr rfl)) _)
          have hB301 := hB298.up hV301 (Or.inr (Or.inr (⟨by decide, by decide⟩)))
          replace hF := hF.to (rdb_e (z := V301) hV301.symm)
          refine x_aload_n C.1 dX10_go_160 6 rfl ?_
          refine x_getA C (N := 129) (i := 105) (by decide) rfl vc_X10 wx_X10 2 (by decide) wf_X10_21 (a := 108) rfl dX10_go_161 ?_
          refine x_iload_n C.1 dX10_go_164 9 rfl ?_
          refine x_iload C.1 dX10_go_165 4 rfl ?_
          refine x_iast C (N := 129) (i := 108) (q := x3) (a := z181) (by decide) rfl (by omega) (by decide) dX10_go_167 ?_
          refine x_gV ?_
          intro V302 hV302
          have hI302 : XI G V302 := hI301.up hV302 rfl (by omega) rfl
          have hB302 := hB301.up hV302 (Or.inl (⟨by decide, by decide⟩))
          replace hF := hF.to (rdb_e (z := V302) hV302.symm)
          refine x_aload C.1 dX10_go_168 5 rfl ?_
          refine x_callVi C (As := []) (rest := []) c2 (xw_at (N := 129) (i := c2) (Nat.lt_of_succ_lt hc2.1) hc2.2.1) vc_X5 (s_isDeadP l D cy ad G V302 J Rr hI302 hJ hR c2 hc2) (l1 := []) (l2 := []) (List.append_nil _).symm (w2 := fun _ => XW cy ad V302 J Rr) (fun _ => List.append_nil _) rfl wm_yX5_isDead wn_X5 wl_X10_95 wi_yX5_isDead we_yX5_isDead hd_yX5_isDead rfl ⟨Nat.le_of_ble_eq_true rfl, Nat.le_of_ble_eq_true rfl⟩ (Nat.le_of_ble_eq_true rfl) ⟨Nat.le_of_ble_eq_true rfl, Nat.le_of_ble_eq_true rfl⟩ dX10_go_170 (fun z303 u303 bz303 h303 => ?_)
          obtain ⟨bq303, hFc303⟩ := h303
          replace hF := calR_i hF hFc303
          replace hF := hF.fc bq303
          obtain ⟨jf305, hjf305, hF⟩ := jn_ex hF
          refine x_join (I := fun V305 : (Nat → Nat → Int) => XI G V305 ∧ FB (fun i k : Nat => (105 ≤ i ∧ i ≤ 123) ∨ (69 ≤ i ∧ i ≤ 71) ∨ (39 ≤ i ∧ i ≤ 57)) V V305 ∧ Imp (jf305 V305) (f_s_go0 x3 x4 V J Rr)) (wsf := fun V305 : (Nat → Nat → Int) => XW cy ad V305 J Rr) (lvf := fun V305 : (Nat → Nat → Int) => [(10, vI z296), (9, vI 0), (8, vI x4), (7, vI 0), (6, vI z181), (5, .ref (ad c2)), (0, .ref (ad 105)), (1, .ref (ad 39)), (2, .ref (ad 60)), (3, vI x3), (4, vI x4)]) (stf := fun V305 : (Nat → Nat → Int) => []) 187 (fun V305 hI305x => ?_) (fun jn305 => ?_)
          · obtain ⟨hI305, hB305, hF⟩ := hI305x
            try dsimp only
            replace hF := hF.to (jn_s1 hjf305)
            refine x_aload_n C.1 dX10_go_187 7 rfl ?_
            refine x_dup C.1 dX10_go_188 rfl ?_
            obtain ⟨z306, ez306, bz306⟩ := hI305.rd 39 3 (x := -2147483648) (y := 2147483647) (rg_L (Or.inr (Or.inr rfl)) _)
            replace hF := hF.to (rdb_e (z := z306) ez306)
            refine x_getI C (N := 129) (i := 39) (by omega) (xd_L (Or.inr (Or.inr rfl))) vc_X3 wx_X3 3 (by decide) wf_X10_92 rfl dX10_go_189 (a := z306) ez306 ?_
            refine x_iconst C.1 (n := 1) dX10_go_192 ?_
            refine x_isub C.1 (v := z306 - 1) (by omega) dX10_go_193 ?_
            refine x_wrapg ?_
            intro z307 bz307 ew307
            replace hF := hF.to (rdb_e (z := z307) ew307.symm)
            refine x_putI C (N := 129) (i := 39) (by omega) (xd_L (Or.inr (Or.inr rfl))) vc_X3 wx_X3 3 (by decide) wf_X10_92 tyX3 tyX3_ok nmX3 rfl (tyX3_ok 3 (by decide)) rfl dX10_go_194 rfl rfl ?_
            refine x_gV ?_
            intro V308 hV308
            have hI308 : XI G V308 := hI305.up hV308 (rg_L (Or.inr (Or.inr rfl)) _) (by omega) (pr_L (Or.inr (Or.inr rfl)) _)
            have hB308 := hB305.up hV308 (Or.inr (Or.inr (⟨by decide, by decide⟩)))
            replace hF := hF.to (rdb_e (z := V308) hV308.symm)
            refine x_aload C.1 dX10_go_197 5 rfl ?_
            refine x_aload_n C.1 dX10_go_199 6 rfl ?_
            refine x_getA C (N := 129) (i := 105) (by decide) rfl vc_X10 wx_X10 0 (by decide) wf_X10_11 (a := 106) rfl dX10_go_200 ?_
            refine x_iload_n C.1 dX10_go_203 9 rfl ?_
            refine x_aldS C (N := 129) (i := 106) (q := x3) (t := 4) rfl (by decide) rfl (by omega) (by decide) dX10_go_204 (a := c3) ec3 ?_
            refine x_callVv C (As := [.ref (ad c3)]) (rest := []) c2 (xw_at (N := 129) (i := c2) (Nat.lt_of_succ_lt hc2.1) hc2.2.1) vc_X5 (s_copyP l D cy ad G V308 J Rr hI308 hJ hR c2 hc2 c3 hc3 (fun k => pr_39 ec2 (by omega) k)) (l1 := []) (l2 := []) (List.append_nil _).symm (w2 := fun u : Nat → Nat → Int => XW cy ad u J Rr) (fun _ => List.append_nil _) rfl wm_yX5_copy wn_X5 wl_X10_71 wi_yX5_copy we_yX5_copy hd_yX5_copy rfl ⟨Nat.le_of_ble_eq_true rfl, Nat.le_of_ble_eq_true rfl⟩ (Nat.le_of_ble_eq_true rfl) ⟨Nat.le_of_ble_eq_true rfl, Nat.le_of_ble_eq_true rfl⟩ dX10_go_205 (fun V309 h309 => ?_)
            obtain ⟨hI309, hBc309, hFc309⟩ := h309
            replace hF := calUX_i hF hFc309 hBc309
            have hB309 := hB308.tr hBc309 (fun i k h => (Or.inr (Or.inr (⟨by omega, by omega⟩))))
            refine x_aload_n C.1 dX10_go_208 7 rfl ?_
            refine x_getA C (N := 129) (i := 39) (by omega) (xd_L (Or.inr (Or.inr rfl))) vc_X3 wx_X3 1 (by decide) wf_X10_75 (a := 41) rfl dX10_go_209 ?_
            refine x_iload C.1 dX10_go_212 1 rfl ?_
            refine x_aldS C (N := 129) (i := 41) (q := 0) (t := 5) rfl (by omega) (xd_Lb (Or.inr (Or.inr rfl))) (by decide) (by decide) dX10_go_214 (a := c295) ec295 ?_
            refine x_iload C.1 dX10_go_215 0 rfl ?_
            refine x_putI C (N := 129) (i := c295) hc295.1 hc295.2 vc_X4 wx_X4 3 (by decide) wf_X10_79 tyX4 tyX4_ok nmX4 rfl (tyX4_ok 3 (by decide)) rfl dX10_go_217 rfl rfl ?_
            refine x_gV ?_
            intro V310 hV310
            have hI310 : XI G V310 := hI309.up hV310 (rg_E hc295 3) (by omega) (pr_E hc295 _)
            have hB310 := hB309.up hV310 (Or.inr (Or.inr (⟨by omega, by omega⟩)))
            replace hF := hF.to (rdb_e (z := V310) hV310.symm)
            refine x_lv [(8, vI x4), (7, vI 0), (6, vI z181), (5, .ref (ad c2)), (0, .ref (ad 105)), (1, .ref (ad 39)), (2, .ref (ad 60)), (3, vI x3), (4, vI x4)] [2, 3, 4, 5, 6, 7, 8, 9, 10] rfl ?_
            exact jn293 V310 ⟨hI310, hB310, hF⟩
          · refine x_if_ne C.1 (tgt := 187) dX10_go_173 (by decide) (by omega) (fun hc311 => ?_) (fun hc311 => ?_)
            · replace hF := hF.to (if_pos hc311)
              exact jn305 V302 ⟨hI302, hB302, hF⟩
            · replace hF := hF.to (if_neg (fun hh => hh hc311))
              refine x_aload_n C.1 dX10_go_176 6 rfl ?_
              refine x_aload_n C.1 dX10_go_177 7 rfl ?_
              refine x_aload_n C.1 dX10_go_178 8 rfl ?_
              refine x_iload_n C.1 dX10_go_179 9 rfl ?_
              refine x_iconst C.1 (n := 1) dX10_go_180 ?_
              refine x_iadd C.1 (v := x3 + 1) (by omega) dX10_go_181 ?_
              refine x_iload C.1 dX10_go_182 2 rfl ?_
              refine x_callSv C (As := [.ref (ad 105), .ref (ad 39), .ref (ad 60), vI (x3 + 1), vI x4]) (rest := []) (s_go1 l D cy ad G V302 J Rr hI302 hJ hR (x3 + 1) ⟨by omega, by omega⟩ x4 ⟨by omega, by omega⟩) (l1 := []) (l2 := []) (List.append_nil _).symm (w2 := fun u : Nat → Nat → Int => XW cy ad u J Rr) (fun _ => List.append_nil _) rfl wm_yX10_go wn_X10 wl_X10_50 wi_yX10_go hd_yX10_go rfl ⟨Nat.le_of_ble_eq_true rfl, Nat.le_of_ble_eq_true rfl⟩ (Nat.le_of_ble_eq_true rfl) ⟨Nat.le_of_ble_eq_true rfl, Nat.le_of_ble_eq_true rfl⟩ dX10_go_184 (fun V312 h312 => ?_)
              obtain ⟨hI312, hBc312, hFc312⟩ := h312
              replace hF := calUX_i hF hFc312 hBc312
              have hB312 := hB302.tr hBc312 (fun i k h => (h.elim (fun h => (Or.inl h)) (fun h => (h.elim (fun h => (Or.inr (Or.inl h))) (fun h => (Or.inr (Or.inr (h))))))))
              exact jn305 V312 ⟨hI312, hB312, hF⟩
        · replace hF := hF.to (if_neg hc294)
          refine x_goto C.1 (tgt := 220) dX10_go_91 (by decide) ?_
          exact jn293 V182 ⟨hI182, hB182, hF⟩
    · replace hF := hF.to (if_neg hc273)
      refine x_iconst C.1 (n := 1) dX10_go_60 ?_
      refine x_goto C.1 (tgt := 65) dX10_go_61 (by decide) ?_
      refine x_istore C.1 (lv' := [(7, vI 1), (6, vI z181), (5, .ref (ad c2)), (0, .ref (ad 105)), (1, .ref (ad 39)), (2, .ref (ad 60)), (3, vI x3), (4, vI x4)]) dX10_go_65 (by decide) rfl ?_
      refine x_iload C.1 dX10_go_67 7 rfl ?_
      refine x_iload C.1 dX10_go_69 0 rfl ?_
      refine x_if_eq_f C.1 (tgt := 78) dX10_go_71 (by decide) (by decide) (by decide) ?_
      refine x_iconst C.1 (n := 1) dX10_go_74 ?_
      refine x_goto C.1 (tgt := 79) dX10_go_75 (by decide) ?_
      refine x_iadd C.1 (v := x4 + 1) (by omega) dX10_go_79 ?_
      refine x_wrapg ?_
      intro z313 bz313 ew313
      replace hF := hF.to (rdb_e (z := z313) ew313.symm)
      refine x_istore C.1 (lv' := [(8, vI z313), (7, vI 1), (6, vI z181), (5, .ref (ad c2)), (0, .ref (ad 105)), (1, .ref (ad 39)), (2, .ref (ad 60)), (3, vI x3), (4, vI x4)]) dX10_go_80 (by decide) rfl ?_
      refine x_iload C.1 dX10_go_82 0 rfl ?_
      refine x_aload_n C.1 dX10_go_84 4 rfl ?_
      obtain ⟨z314, ez314, bz314⟩ := hI182.rd 105 6 (x := -2147483648) (y := 2147483647) rfl
      replace hF := hF.to (rdb_e (z := z314) ez314)
      refine x_getI C (N := 129) (i := 105) (by decide) rfl vc_X10 wx_X10 6 (by decide) wf_X10_47 rfl dX10_go_85 (a := z314) ez314 ?_
      obtain ⟨jf336, hjf336, hF⟩ := jn_ex hF
      refine x_join (I := fun V336 : (Nat → Nat → Int) => XI G V336 ∧ FB (fun i k : Nat => (105 ≤ i ∧ i ≤ 123) ∨ (69 ≤ i ∧ i ≤ 71) ∨ (39 ≤ i ∧ i ≤ 57)) V V336 ∧ Imp (jf336 V336) (f_s_go0 x3 x4 V J Rr)) (wsf := fun V336 : (Nat → Nat → Int) => XW cy ad V336 J Rr) (lvf := fun V336 : (Nat → Nat → Int) => [(8, vI z313), (7, vI 1), (6, vI z181), (5, .ref (ad c2)), (0, .ref (ad 105)), (1, .ref (ad 39)), (2, .ref (ad 60)), (3, vI x3), (4, vI x4)]) (stf := fun V336 : (Nat → Nat → Int) => []) 220 (fun V336 hI336x => ?_) (fun jn336 => ?_)
      · obtain ⟨hI336, hB336, hF⟩ := hI336x
        try dsimp only
        replace hF := hF.to (jn_s1 hjf336)
        refine x_iinc C.1 (v := z181 - 1) (lv' := [(6, vI (z181 - 1)), (8, vI z313), (7, vI 1), (5, .ref (ad c2)), (0, .ref (ad 105)), (1, .ref (ad 39)), (2, .ref (ad 60)), (3, vI x3), (4, vI x4)]) (by omega) dX10_go_220 2 rfl (by decide) rfl ?_
        refine x_goto C.1 (tgt := 46) dX10_go_223 (by decide) ?_
        refine x_lv [(6, vI (z181 - 1)), (5, .ref (ad c2)), (0, .ref (ad 105)), (1, .ref (ad 39)), (2, .ref (ad 60)), (3, vI x3), (4, vI x4)] [0, 3, 4, 5, 6, 7, 8] rfl ?_
        have hmu182 : ((z181 - 1) - (-2)).toNat < (z181 - (-2)).toNat := (by omega)
        exact ih182 (z181 - 1, V336) ⟨⟨by omega, by omega⟩, hI336, hB336, ⟨nf182, Nat.lt_of_lt_of_le hmu182 (Nat.le_of_lt_succ hn182), hF⟩⟩ hmu182
      · refine x_icmp_le C.1 (tgt := 94) dX10_go_88 (by decide) (by omega) (by omega) (fun hc337 => ?_) (fun hc337 => ?_)
        · replace hF := hF.to (if_pos hc337)
          refine x_iload C.1 dX10_go_94 1 rfl ?_
          refine x_if_eq_f C.1 (tgt := 109) dX10_go_96 (by decide) (by decide) (by decide) ?_
          refine x_aload_n C.1 dX10_go_99 4 rfl ?_
          refine x_getA C (N := 129) (i := 105) (by decide) rfl vc_X10 wx_X10 1 (by decide) wf_X10_17 (a := 107) rfl dX10_go_100 ?_
          refine x_iload C.1 dX10_go_103 2 rfl ?_
          obtain ⟨z338, ez338, bz338⟩ := hI182.rd 107 z181.toNat (x := 0) (y := 7) rfl
          replace hF := hF.to (rdb_e (z := z338) ez338)
          replace hF := hF.fc bz338
          refine x_iald C (N := 129) (i := 107) (q := z181) (by decide) rfl (by omega) (by decide) dX10_go_105 (a := z338) ez338 ?_
          refine x_goto C.1 (tgt := 110) dX10_go_106 (by decide) ?_
          refine x_istore C.1 (lv' := [(9, vI z338), (8, vI z313), (7, vI 1), (6, vI z181), (5, .ref (ad c2)), (0, .ref (ad 105)), (1, .ref (ad 39)), (2, .ref (ad 60)), (3, vI x3), (4, vI x4)]) dX10_go_110 (by decide) rfl ?_
          refine x_aload_n C.1 dX10_go_112 6 rfl ?_
          refine x_getA C (N := 129) (i := 39) (by omega) (xd_L (Or.inr (Or.inr rfl))) vc_X3 wx_X3 1 (by decide) wf_X10_75 (a := 41) rfl dX10_go_113 ?_
          refine x_iload C.1 dX10_go_116 0 rfl ?_
          obtain ⟨c339, ec339, hc339⟩ : ∃ cx : Nat, 39 + 11 + 1 * z338.toNat = cx ∧ isPe cx := ⟨_, rfl, isPe_L (Or.inr (Or.inr rfl)) (by omega)⟩
          replace hF := hF.to (rdb_e (z := c339) ec339)
          refine x_aldS C (N := 129) (i := 41) (q := z338) (t := 5) rfl (by omega) (xd_Lb (Or.inr (Or.inr rfl))) (by omega) (by decide) dX10_go_118 (a := c339) ec339 ?_
          obtain ⟨z340, ez340, bz340⟩ := hI182.rd c339 3 (x := -2147483648) (y := 2147483647) (rg_E hc339 3)
          replace hF := hF.to (rdb_e (z := z340) ez340)
          refine x_getI C (N := 129) (i := c339) hc339.1 hc339.2 vc_X4 wx_X4 3 (by decide) wf_X10_79 rfl dX10_go_119 (a := z340) ez340 ?_
          refine x_istore C.1 (lv' := [(10, vI z340), (9, vI z338), (8, vI z313), (7, vI 1), (6, vI z181), (5, .ref (ad c2)), (0, .ref (ad 105)), (1, .ref (ad 39)), (2, .ref (ad 60)), (3, vI x3), (4, vI x4)]) dX10_go_122 (by decide) rfl ?_
          refine x_iload C.1 dX10_go_124 3 rfl ?_
          refine x_if_eq_f C.1 (tgt := 140) dX10_go_126 (by decide) (by decide) (by decide) ?_
          refine x_aload_n C.1 dX10_go_129 7 rfl ?_
          refine x_aload_n C.1 dX10_go_130 8 rfl ?_
          refine x_iload C.1 dX10_go_131 1 rfl ?_
          refine x_aload_n C.1 dX10_go_133 6 rfl ?_
          obtain ⟨z341, ez341, bz341⟩ := hI182.rd 105 5 (x := 0) (y := 3) rfl
          replace hF := hF.to (rdb_e (z := z341) ez341)
          replace hF := hF.fc bz341
          refine x_getI C (N := 129) (i := 105) (by decide) rfl vc_X10 wx_X10 5 (by decide) wf_X10_28 rfl dX10_go_134 (a := z341) ez341 ?_
          refine x_callVv C (As := [.ref (ad 60), vI z338, vI z341]) (rest := []) 39 (xw_at (N := 129) (i := 39) (by omega) (xd_L (Or.inr (Or.inr rfl)))) vc_X3 (s_giveTo l D cy ad G V182 J Rr hI182 hJ hR 39 (Or.inr (Or.inr rfl)) z338 ⟨by omega, by omega⟩ z341 ⟨by omega, by omega⟩) (l1 := []) (l2 := []) (List.append_nil _).symm (w2 := fun u : Nat → Nat → Int => XW cy ad u J Rr) (fun _ => List.append_nil _) rfl wm_yX3_giveTo wn_X3 wl_X10_84 wi_yX3_giveTo we_yX3_giveTo hd_yX3_giveTo rfl ⟨Nat.le_of_ble_eq_true rfl, Nat.le_of_ble_eq_true rfl⟩ (Nat.le_of_ble_eq_true rfl) ⟨Nat.le_of_ble_eq_true rfl, Nat.le_of_ble_eq_true rfl⟩ dX10_go_137 (fun V342 h342 => ?_)
          obtain ⟨hI342, hBc342, hFc342⟩ := h342
          replace hF := calUX_i hF hFc342 hBc342
          have hB342 := hB182.tr hBc342 (fun i k h => (h.elim (fun h => (Or.inr (Or.inl h))) (fun h => (Or.inr (Or.inr (⟨by omega, by omega⟩))))))
          refine x_aload_n C.1 dX10_go_140 7 rfl ?_
          refine x_aload_n C.1 dX10_go_141 8 rfl ?_
          refine x_aload_n C.1 dX10_go_142 6 rfl ?_
          obtain ⟨z343, ez343, bz343⟩ := hI342.rd 105 5 (x := 0) (y := 3) rfl
          replace hF := hF.to (rdb_e (z := z343) ez343)
          replace hF := hF.fc bz343
          refine x_getI C (N := 129) (i := 105) (by decide) rfl vc_X10 wx_X10 5 (by decide) wf_X10_28 rfl dX10_go_143 (a := z343) ez343 ?_
          refine x_iconst C.1 (n := 0) dX10_go_146 ?_
          refine x_callVv C (As := [.ref (ad 60), vI z343, vI 0]) (rest := []) 39 (xw_at (N := 129) (i := 39) (by omega) (xd_L (Or.inr (Or.inr rfl)))) vc_X3 (s_endDay l D cy ad G V342 J Rr hI342 hJ hR 39 (Or.inr (Or.inr rfl)) z343 ⟨by omega, by omega⟩ 0 ⟨by decide, by decide⟩) (l1 := []) (l2 := []) (List.append_nil _).symm (w2 := fun u : Nat → Nat → Int => XW cy ad u J Rr) (fun _ => List.append_nil _) rfl wm_yX3_endDay wn_X3 wl_X10_88 wi_yX3_endDay we_yX3_endDay hd_yX3_endDay rfl ⟨Nat.le_of_ble_eq_true rfl, Nat.le_of_ble_eq_true rfl⟩ (Nat.le_of_ble_eq_true rfl) ⟨Nat.le_of_ble_eq_true rfl, Nat.le_of_ble_eq_true rfl⟩ dX10_go_147 (fun V344 h344 => ?_)
          obtain ⟨hI344, hBc344, hFc344⟩ := h344
          replace hF := calUX_i hF hFc344 hBc344
          have hB344 := hB342.tr hBc344 (fun i k h => (h.elim (fun h => (Or.inr (Or.inl h))) (fun h => (Or.inr (Or.inr (⟨by omega, by omega⟩))))))
          refine x_aload_n C.1 dX10_go_150 7 rfl ?_
          refine x_dup C.1 dX10_go_151 rfl ?_
          obtain ⟨z345, ez345, bz345⟩ := hI344.rd 39 3 (x := -2147483648) (y := 2147483647) (rg_L (Or.inr (Or.inr rfl)) _)
          replace hF := hF.to (rdb_e (z := z345) ez345)
          refine x_getI C (N := 129) (i := 39) (by omega) (xd_L (Or.inr (Or.inr rfl))) vc_X3 wx_X3 3 (by decide) wf_X10_92 rfl dX10_go_152 (a := z345) ez345 ?_
          refine x_iconst C.1 (n := 1) dX10_go_155 ?_
          refine x_iadd C.1 (v := z345 + 1) (by omega) dX10_go_156 ?_
          refine x_wrapg ?_
          intro z346 bz346 ew346
          replace hF := hF.to (rdb_e (z := z346) ew346.symm)
          refine x_putI C (N := 129) (i := 39) (by omega) (xd_L (Or.inr (Or.inr rfl))) vc_X3 wx_X3 3 (by decide) wf_X10_92 tyX3 tyX3_ok nmX3 rfl (tyX3_ok 3 (by decide)) rfl dX10_go_157 rfl rfl ?_
          refine x_gV ?_
          intro V347 hV347
          have hI347 : XI G V347 := hI344.up hV347 (rg_L (Or.inr (Or.inr rfl)) _) (by omega) (pr_L (Or.inr (Or.inr rfl)) _)
          have hB347 := hB344.up hV347 (Or.inr (Or.inr (⟨by decide, by decide⟩)))
          replace hF := hF.to (rdb_e (z := V347) hV347.symm)
          refine x_aload_n C.1 dX10_go_160 6 rfl ?_
          refine x_getA C (N := 129) (i := 105) (by decide) rfl vc_X10 wx_X10 2 (by decide) wf_X10_21 (a := 108) rfl dX10_go_161 ?_
          refine x_iload_n C.1 dX10_go_164 9 rfl ?_
          refine x_iload C.1 dX10_go_165 4 rfl ?_
          refine x_iast C (N := 129) (i := 108) (q := x3) (a := z181) (by decide) rfl (by omega) (by decide) dX10_go_167 ?_
          refine x_gV ?_
          intro V348 hV348
          have hI348 : XI G V348 := hI347.up hV348 rfl (by omega) rfl
          have hB348 := hB347.up hV348 (Or.inl (⟨by decide, by decide⟩))
          replace hF := hF.to (rdb_e (z := V348) hV348.symm)
          refine x_aload C.1 dX10_go_168 5 rfl ?_
          refine x_callVi C (As := []) (rest := []) c2 (xw_at (N := 129) (i := c2) (Nat.lt_of_succ_lt hc2.1) hc2.2.1) vc_X5 (s_isDeadP l D cy ad G V348 J Rr hI348 hJ hR c2 hc2) (l1 := []) (l2 := []) (List.append_nil _).symm (w2 := fun _ => XW cy ad V348 J Rr) (fun _ => List.append_nil _) rfl wm_yX5_isDead wn_X5 wl_X10_95 wi_yX5_isDead we_yX5_isDead hd_yX5_isDead rfl ⟨Nat.le_of_ble_eq_true rfl, Nat.le_of_ble_eq_true rfl⟩ (Nat.le_of_ble_eq_true rfl) ⟨Nat.le_of_ble_eq_true rfl, Nat.le_of_ble_eq_true rfl⟩ dX10_go_170 (fun z349 u349 bz349 h349 => ?_)
          obtain ⟨bq349, hFc349⟩ := h349
          replace hF := calR_i hF hFc349
          replace hF := hF.fc bq349
          obtain ⟨jf351, hjf351, hF⟩ := jn_ex hF
          refine x_join (I := fun V351 : (Nat → Nat → Int) => XI G V351 ∧ FB (fun i k : Nat => (105 ≤ i ∧ i ≤ 123) ∨ (69 ≤ i ∧ i ≤ 71) ∨ (39 ≤ i ∧ i ≤ 57)) V V351 ∧ Imp (jf351 V351) (f_s_go0 x3 x4 V J Rr)) (wsf := fun V351 : (Nat → Nat → Int) => XW cy ad V351 J Rr) (lvf := fun V351 : (Nat → Nat → Int) => [(10, vI z340), (9, vI z338), (8, vI z313), (7, vI 1), (6, vI z181), (5, .ref (ad c2)), (0, .ref (ad 105)), (1, .ref (ad 39)), (2, .ref (ad 60)), (3, vI x3), (4, vI x4)]) (stf := fun V351 : (Nat → Nat → Int) => []) 187 (fun V351 hI351x => ?_) (fun jn351 => ?_)
          · obtain ⟨hI351, hB351, hF⟩ := hI351x
            try dsimp only
            replace hF := hF.to (jn_s1 hjf351)
            refine x_aload_n C.1 dX10_go_187 7 rfl ?_
            refine x_dup C.1 dX10_go_188 rfl ?_
            obtain ⟨z352, ez352, bz352⟩ := hI351.rd 39 3 (x := -2147483648) (y := 2147483647) (rg_L (Or.inr (Or.inr rfl)) _)
            replace hF := hF.to (rdb_e (z := z352) ez352)
            refine x_getI C (N := 129) (i := 39) (by omega) (xd_L (Or.inr (Or.inr rfl))) vc_X3 wx_X3 3 (by decide) wf_X10_92 rfl dX10_go_189 (a := z352) ez352 ?_
            refine x_iconst C.1 (n := 1) dX10_go_192 ?_
            refine x_isub C.1 (v := z352 - 1) (by omega) dX10_go_193 ?_
            refine x_wrapg ?_
            intro z353 bz353 ew353
            replace hF := hF.to (rdb_e (z := z353) ew353.symm)
            refine x_putI C (N := 129) (i := 39) (by omega) (xd_L (Or.inr (Or.inr rfl))) vc_X3 wx_X3 3 (by decide) wf_X10_92 tyX3 tyX3_ok nmX3 rfl (tyX3_ok 3 (by decide)) rfl dX10_go_194 rfl rfl ?_
            refine x_gV ?_
            intro V354 hV354
            have hI354 : XI G V354 := hI351.up hV354 (rg_L (Or.inr (Or.inr rfl)) _) (by omega) (pr_L (Or.inr (Or.inr rfl)) _)
            have hB354 := hB351.up hV354 (Or.inr (Or.inr (⟨by decide, by decide⟩)))
            replace hF := hF.to (rdb_e (z := V354) hV354.symm)
            refine x_aload C.1 dX10_go_197 5 rfl ?_
            refine x_aload_n C.1 dX10_go_199 6 rfl ?_
            refine x_getA C (N := 129) (i := 105) (by decide) rfl vc_X10 wx_X10 0 (by decide) wf_X10_11 (a := 106) rfl dX10_go_200 ?_
            refine x_iload_n C.1 dX10_go_203 9 rfl ?_
            refine x_aldS C (N := 129) (i := 106) (q := x3) (t := 4) rfl (by decide) rfl (by omega) (by decide) dX10_go_204 (a := c3) ec3 ?_
            refine x_callVv C (As := [.ref (ad c3)]) (rest := []) c2 (xw_at (N := 129) (i := c2) (Nat.lt_of_succ_lt hc2.1) hc2.2.1) vc_X5 (s_copyP l D cy ad G V354 J Rr hI354 hJ hR c2 hc2 c3 hc3 (fun k => pr_39 ec2 (by omega) k)) (l1 := []) (l2 := []) (List.append_nil _).symm (w2 := fun u : Nat → Nat → Int => XW cy ad u J Rr) (fun _ => List.append_nil _) rfl wm_yX5_copy wn_X5 wl_X10_71 wi_yX5_copy we_yX5_copy hd_yX5_copy rfl ⟨Nat.le_of_ble_eq_true rfl, Nat.le_of_ble_eq_true rfl⟩ (Nat.le_of_ble_eq_true rfl) ⟨Nat.le_of_ble_eq_true rfl, Nat.le_of_ble_eq_true rfl⟩ dX10_go_205 (fun V355 h355 => ?_)
            obtain ⟨hI355, hBc355, hFc355⟩ := h355
            replace hF := calUX_i hF hFc355 hBc355
            have hB355 := hB354.tr hBc355 (fun i k h => (Or.inr (Or.inr (⟨by omega, by omega⟩))))
            refine x_aload_n C.1 dX10_go_208 7 rfl ?_
            refine x_getA C (N := 129) (i := 39) (by omega) (xd_L (Or.inr (Or.inr rfl))) vc_X3 wx_X3 1 (by decide) wf_X10_75 (a := 41) rfl dX10_go_209 ?_
            refine x_iload C.1 dX10_go_212 1 rfl ?_
            refine x_aldS C (N := 129) (i := 41) (q := z338) (t := 5) rfl (by omega) (xd_Lb (Or.inr (Or.inr rfl))) (by omega) (by decide) dX10_go_214 (a := c339) ec339 ?_
            refine x_iload C.1 dX10_go_215 0 rfl ?_
            refine x_putI C (N := 129) (i := c339) hc339.1 hc339.2 vc_X4 wx_X4 3 (by decide) wf_X10_79 tyX4 tyX4_ok nmX4 rfl (tyX4_ok 3 (by decide)) rfl dX10_go_217 rfl rfl ?_
            refine x_gV ?_
            intro V356 hV356
            have hI356 : XI G V356 := hI355.up hV356 (rg_E hc339 3) (by omega) (pr_E hc339 _)
            have hB356 := hB355.up hV356 (Or.inr (Or.inr (⟨by omega, by omega⟩)))
            replace hF := hF.to (rdb_e (z := V356) hV356.symm)
            refine x_lv [(8, vI z313), (7, vI 1), (6, vI z181), (5, .ref (ad c2)), (0, .ref (ad 105)), (1, .ref (ad 39)), (2, .ref (ad 60)), (3, vI x3), (4, vI x4)] [2, 3, 4, 5, 6, 7, 8, 9, 10] rfl ?_
            exact jn336 V356 ⟨hI356, hB356, hF⟩
          · refine x_if_ne C.1 (tgt := 187) dX10_go_173 (by decide) (by omega) (fun hc357 => ?_) (fun hc357 => ?_)
            · replace hF := hF.to (if_pos hc357)
              exact jn351 V348 ⟨hI348, hB348, hF⟩
            · replace hF := hF.to (if_neg (fun hh => hh hc357))
              refine x_aload_n C.1 dX10_go_176 6 rfl ?_
              refine x_aload_n C.1 dX10_go_177 7 rfl ?_
              refine x_aload_n C.1 dX10_go_178 8 rfl ?_
              refine x_iload_n C.1 dX10_go_179 9 rfl ?_
              refine x_iconst C.1 (n := 1) dX10_go_180 ?_
              refine x_iadd C.1 (v := x3 + 1) (by omega) dX10_go_181 ?_
              refine x_iload C.1 dX10_go_182 2 rfl ?_
              refine x_callSv C (As := [.ref (ad 105), .ref (ad 39), .ref (ad 60), vI (x3 + 1), vI z313]) (rest := []) (s_go1 l D cy ad G V348 J Rr hI348 hJ hR (x3 + 1) ⟨by omega, by omega⟩ z313 ⟨by omega, by omega⟩) (l1 := []) (l2 := []) (List.append_nil _).symm (w2 := fun u : Nat → Nat → Int => XW cy ad u J Rr) (fun _ => List.append_nil _) rfl wm_yX10_go wn_X10 wl_X10_50 wi_yX10_go hd_yX10_go rfl ⟨Nat.le_of_ble_eq_true rfl, Nat.le_of_ble_eq_true rfl⟩ (Nat.le_of_ble_eq_true rfl) ⟨Nat.le_of_ble_eq_true rfl, Nat.le_of_ble_eq_true rfl⟩ dX10_go_184 (fun V358 h358 => ?_)
              obtain ⟨hI358, hBc358, hFc358⟩ := h358
              replace hF := calUX_i hF hFc358 hBc358
              have hB358 := hB348.tr hBc358 (fun i k h => (h.elim (fun h => (Or.inl h)) (fun h => (h.elim (fun h => (Or.inr (Or.inl h))) (fun h => (Or.inr (Or.inr (h))))))))
              exact jn351 V358 ⟨hI358, hB358, hF⟩
        · replace hF := hF.to (if_neg hc337)
          refine x_goto C.1 (tgt := 220) dX10_go_91 (by decide) ?_
          exact jn336 V182 ⟨hI182, hB182, hF⟩
theorem dX10_find_0 : decode cX10_find 0 = .ok (.aload_n 0, 1) := by decide +kernel
theorem dX10_find_1 : decode cX10_find 1 = .ok (.iload_n 3, 1) := by decide +kernel
theorem dX10_find_2 : decode cX10_find 2 = .ok (.putfield 28, 3) := by decide +kernel
theorem dX10_find_5 : decode cX10_find 5 = .ok (.aload_n 0, 1) := by decide +kernel
theorem dX10_find_6 : decode cX10_find 6 = .ok (.iload 4, 2) := by decide +kernel
theorem dX10_find_8 : decode cX10_find 8 = .ok (.iconst 3, 1) := by decide +kernel
theorem dX10_find_9 : decode cX10_find 9 = .ok (.invokestatic 32, 3) := by decide +kernel
theorem dX10_find_12 : decode cX10_find 12 = .ok (.putfield 38, 3) := by decide +kernel
theorem dX10_find_15 : decode cX10_find 15 = .ok (.aload_n 1, 1) := by decide +kernel
theorem dX10_find_16 : decode cX10_find 16 = .ok (.aload_n 0, 1) := by decide +kernel
theorem dX10_find_17 : decode cX10_find 17 = .ok (.getfield 38, 3) := by decide +kernel
theorem dX10_find_20 : decode cX10_find 20 = .ok (.aload_n 0, 1) := by decide +kernel
theorem dX10_find_21 : decode cX10_find 21 = .ok (.getfield 17, 3) := by decide +kernel
theorem dX10_find_24 : decode cX10_find 24 = .ok (.invokevirtual 41, 3) := by decide +kernel
theorem dX10_find_27 : decode cX10_find 27 = .ok (.aload_n 0, 1) := by decide +kernel
theorem dX10_find_28 : decode cX10_find 28 = .ok (.bipush 8, 2) := by decide +kernel
theorem dX10_find_30 : decode cX10_find 30 = .ok (.putfield 47, 3) := by decide +kernel
theorem dX10_find_33 : decode cX10_find 33 = .ok (.aload_n 0, 1) := by decide +kernel
theorem dX10_find_34 : decode cX10_find 34 = .ok (.aload_n 1, 1) := by decide +kernel
theorem dX10_find_35 : decode cX10_find 35 = .ok (.aload_n 2, 1) := by decide +kernel
theorem dX10_find_36 : decode cX10_find 36 = .ok (.iconst 0, 1) := by decide +kernel
theorem dX10_find_37 : decode cX10_find 37 = .ok (.iconst 0, 1) := by decide +kernel
theorem dX10_find_38 : decode cX10_find 38 = .ok (.invokestatic 50, 3) := by decide +kernel
theorem dX10_find_41 : decode cX10_find 41 = .ok (.aload_n 0, 1) := by decide +kernel
theorem dX10_find_42 : decode cX10_find 42 = .ok (.getfield 47, 3) := by decide +kernel
theorem dX10_find_45 : decode cX10_find 45 = .ok (.bipush 7, 2) := by decide +kernel
theorem dX10_find_47 : decode cX10_find 47 = .ok (.if_icmp .gt 7, 3) := by decide +kernel
theorem dX10_find_50 : decode cX10_find 50 = .ok (.iconst 1, 1) := by decide +kernel
theorem dX10_find_51 : decode cX10_find 51 = .ok (.goto 4, 3) := by decide +kernel
theorem dX10_find_54 : decode cX10_find 54 = .ok (.iconst 0, 1) := by decide +kernel
theorem dX10_find_55 : decode cX10_find 55 = .ok (.ireturn, 1) := by decide +kernel
set_option maxRecDepth 100000 in
def f_s_find (x3 : Int) (x4 : Int) (V : Nat → Nat → Int) (J : Nat → Nat → Int) (Rr : Nat → Nat → Nat) : (Int × (Nat → Nat → Int)) → Prop :=
  rdb (up2 V 105 5 x3) fun V1 => rdb (min x4 3) fun z2 => fct (0 ≤ z2 ∧ z2 ≤ 3) <| rdb (up2 V1 105 4 z2) fun V3 => calUX (fun i k : Nat => (107 ≤ i ∧ i ≤ 107)) V3 (f_s_fillLowest 39 z2 107 V3 J Rr) fun V4 => rdb (up2 V4 105 6 8) fun V5 => calUX (fun i k : Nat => (105 ≤ i ∧ i ≤ 123) ∨ (69 ≤ i ∧ i ≤ 71) ∨ (39 ≤ i ∧ i ≤ 57)) V5 (f_s_go0 0 0 V5 J Rr) fun V6 => rdb (V6 105 6) fun z7 => (if 7 < z7 then rtn (0, V6) else rtn (1, V6))
set_option maxHeartbeats 8000000 in
set_option maxRecDepth 100000 in
theorem s_find (l : Launch) (D : va_G) (cy : Nat → ClassId) (ad : Nat → Nat) (G : Nat → Nat → Int) (V J : Nat → Nat → Int) (Rr : Nat → Nat → Nat) (hI : XI G V) (hJ : VJ J) (hR : XR Rr) (x3 : Int) (bx3 : 0 ≤ x3 ∧ x3 ≤ 3) (x4 : Int) (bx4 : 0 ≤ x4 ∧ x4 ≤ 3) : xMi l D (xTY cy) yX10_find cX10_find 5 (some .boolean) 12 335 0 0 [.ref (ad 105), .ref (ad 39), .ref (ad 60), vI x3, vI x4] (XW cy ad V J Rr) (fun u : Nat → Nat → Int => XW cy ad u J Rr) (fun a (u : Nat → Nat → Int) => XI G u ∧ (0 ≤ a ∧ a ≤ 1) ∧ FB (fun i k : Nat => (105 ≤ i ∧ i ≤ 123) ∨ (69 ≤ i ∧ i ≤ 71) ∨ (39 ≤ i ∧ i ≤ 57)) V u ∧ (f_s_find x3 x4 V J Rr) (a, u)) := by
  refine xMi.mk (lv0 := [(0, .ref (ad 105)), (1, .ref (ad 39)), (2, .ref (ad 60)), (3, vI x3), (4, vI x4)]) (by decide) rfl (Nat.le_of_ble_eq_true rfl) (fun p e s m below meth c A C hr hnm hAe => ?_)
  have C : xC2 p s m _ meth c D A s.heap 5 cX10_find RX10 (xTY cy) := C
  have hB : FB (fun i k : Nat => (105 ≤ i ∧ i ≤ 123) ∨ (69 ≤ i ∧ i ≤ 71) ∨ (39 ≤ i ∧ i ≤ 57)) V V := FB.rf _ _
  have hF := Imp.of_eq (f_s_find.eq_def x3 x4 V J Rr)
  refine x_aload_n C.1 dX10_find_0 0 rfl ?_
  refine x_iload_n C.1 dX10_find_1 3 rfl ?_
  refine x_putI C (N := 129) (i := 105) (by decide) rfl vc_X10 wx_X10 5 (by decide) wf_X10_28 tyX10 tyX10_ok nmX10 rfl (tyX10_ok 5 (by decide)) rfl dX10_find_2 rfl rfl ?_
  refine x_gV ?_
  intro V1 hV1
  have hI1 : XI G V1 := hI.up hV1 rfl (by omega) rfl
  have hB1 := hB.up hV1 (Or.inl (⟨by decide, by decide⟩))
  replace hF := hF.to (rdb_e (z := V1) hV1.symm)
  refine x_aload_n C.1 dX10_find_5 0 rfl ?_
  refine x_iload C.1 dX10_find_6 4 rfl ?_
  refine x_iconst C.1 (n := 3) dX10_find_8 ?_
  refine x_mmin C wl_X10_32 (by omega) (by decide) dX10_find_9 ⟨Nat.le_of_ble_eq_true rfl, Nat.le_of_ble_eq_true rfl⟩ (Nat.le_of_ble_eq_true rfl) ⟨Nat.le_of_ble_eq_true rfl, Nat.le_of_ble_eq_true rfl⟩ (fun z2 hx2 => ?_)
  have bz2 : 0 ≤ z2 ∧ z2 ≤ 3 := by omega
  replace hF := hF.to (rdb_e (z := z2) (by omega))
  replace hF := hF.fc bz2
  clear hx2
  refine x_putI C (N := 129) (i := 105) (by decide) rfl vc_X10 wx_X10 4 (by decide) wf_X10_38 tyX10 tyX10_ok nmX10 rfl (tyX10_ok 4 (by decide)) rfl dX10_find_12 rfl rfl ?_
  refine x_gV ?_
  intro V3 hV3
  have hI3 : XI G V3 := hI1.up hV3 rfl (by omega) rfl
  have hB3 := hB1.up hV3 (Or.inl (⟨by decide, by decide⟩))
  replace hF := hF.to (rdb_e (z := V3) hV3.symm)
  refine x_aload_n C.1 dX10_find_15 1 rfl ?_
  refine x_aload_n C.1 dX10_find_16 0 rfl ?_
  refine x_getI C (N := 129) (i := 105) (by decide) rfl vc_X10 wx_X10 4 (by decide) wf_X10_38 rfl dX10_find_17 (a := z2) ((congrFun (congrFun hV3 105) 4).trans (up2_s _ _ _ _)) ?_
  refine x_aload_n C.1 dX10_find_20 0 rfl ?_
  refine x_getA C (N := 129) (i := 105) (by decide) rfl vc_X10 wx_X10 1 (by decide) wf_X10_17 (a := 107) rfl dX10_find_21 ?_
  refine x_callVv C (As := [vI z2, .ref (ad 107)]) (rest := []) 39 (xw_at (N := 129) (i := 39) (by omega) (xd_L (Or.inr (Or.inr rfl)))) vc_X3 (s_fillLowest l D cy ad G V3 J Rr hI3 hJ hR 39 (Or.inr (Or.inr rfl)) z2 ⟨by omega, by omega⟩ 107 (Or.inr rfl)) (l1 := []) (l2 := []) (List.append_nil _).symm (w2 := fun u : Nat → Nat → Int => XW cy ad u J Rr) (fun _ => List.append_nil _) rfl wm_yX3_fillLowest wn_X3 wl_X10_41 wi_yX3_fillLowest we_yX3_fillLowest hd_yX3_fillLowest rfl ⟨Nat.le_of_ble_eq_true rfl, Nat.le_of_ble_eq_true rfl⟩ (Nat.le_of_ble_eq_true rfl) ⟨Nat.le_of_ble_eq_true rfl, Nat.le_of_ble_eq_true rfl⟩ dX10_find_24 (fun V4 h4 => ?_)
  obtain ⟨hI4, hBc4, hFc4⟩ := h4
  replace hF := calUX_i hF hFc4 hBc4
  have hB4 := hB3.tr hBc4 (fun i k h => (Or.inl (⟨by omega, by omega⟩)))
  refine x_aload_n C.1 dX10_find_27 0 rfl ?_
  refine x_bipush C.1 (n := 8) dX10_find_28 ?_
  refine x_putI C (N := 129) (i := 105) (by decide) rfl vc_X10 wx_X10 6 (by decide) wf_X10_47 tyX10 tyX10_ok nmX10 rfl (tyX10_ok 6 (by decide)) rfl dX10_find_30 rfl rfl ?_
  refine x_gV ?_
  intro V5 hV5
  have hI5 : XI G V5 := hI4.up hV5 rfl (by decide) rfl
  have hB5 := hB4.up hV5 (Or.inl (⟨by decide, by decide⟩))
  replace hF := hF.to (rdb_e (z := V5) hV5.symm)
  refine x_aload_n C.1 dX10_find_33 0 rfl ?_
  refine x_aload_n C.1 dX10_find_34 1 rfl ?_
  refine x_aload_n C.1 dX10_find_35 2 rfl ?_
  refine x_iconst C.1 (n := 0) dX10_find_36 ?_
  refine x_iconst C.1 (n := 0) dX10_find_37 ?_
  refine x_callSv C (As := [.ref (ad 105), .ref (ad 39), .ref (ad 60), vI 0, vI 0]) (rest := []) (s_go0 l D cy ad G V5 J Rr hI5 hJ hR 0 ⟨by decide, by decide⟩ 0 ⟨by decide, by decide⟩) (l1 := []) (l2 := []) (List.append_nil _).symm (w2 := fun u : Nat → Nat → Int => XW cy ad u J Rr) (fun _ => List.append_nil _) rfl wm_yX10_go wn_X10 wl_X10_50 wi_yX10_go hd_yX10_go rfl ⟨Nat.le_of_ble_eq_true rfl, Nat.le_of_ble_eq_true rfl⟩ (Nat.le_of_ble_eq_true rfl) ⟨Nat.le_of_ble_eq_true rfl, Nat.le_of_ble_eq_true rfl⟩ dX10_find_38 (fun V6 h6 => ?_)
  obtain ⟨hI6, hBc6, hFc6⟩ := h6
  replace hF := calUX_i hF hFc6 hBc6
  have hB6 := hB5.tr hBc6 (fun i k h => (h.elim (fun h => (Or.inl h)) (fun h => (h.elim (fun h => (Or.inr (Or.inl h))) (fun h => (Or.inr (Or.inr (h))))))))
  refine x_aload_n C.1 dX10_find_41 0 rfl ?_
  obtain ⟨z7, ez7, bz7⟩ := hI6.rd 105 6 (x := -2147483648) (y := 2147483647) rfl
  replace hF := hF.to (rdb_e (z := z7) ez7)
  refine x_getI C (N := 129) (i := 105) (by decide) rfl vc_X10 wx_X10 6 (by decide) wf_X10_47 rfl dX10_find_42 (a := z7) ez7 ?_
  refine x_bipush C.1 (n := 7) dX10_find_45 ?_
  refine x_icmp_gt C.1 (tgt := 54) dX10_find_47 (by decide) (by omega) (by decide) (fun hc8 => ?_) (fun hc8 => ?_)
  · replace hF := hF.to (if_pos hc8)
    refine x_iconst C.1 (n := 0) dX10_find_54 ?_
    exact x_zret (S := (Nat → Nat → Int)) (post := (fun a (u : Nat → Nat → Int) => XI G u ∧ (0 ≤ a ∧ a ≤ 1) ∧ FB (fun i k : Nat => (105 ≤ i ∧ i ≤ 123) ∨ (69 ≤ i ∧ i ≤ 71) ∨ (39 ≤ i ∧ i ≤ 57)) V u ∧ (f_s_find x3 x4 V J Rr) (a, u))) (w1 := (fun u : Nat → Nat → Int => XW cy ad u J Rr)) (a := 0) C hr rfl dX10_find_55 (by decide) V6 rfl ⟨hI6, ⟨by decide, by decide⟩, hB6, hF _ rfl⟩
  · replace hF := hF.to (if_neg hc8)
    refine x_iconst C.1 (n := 1) dX10_find_50 ?_
    refine x_goto C.1 (tgt := 55) dX10_find_51 (by decide) ?_
    exact x_zret (S := (Nat → Nat → Int)) (post := (fun a (u : Nat → Nat → Int) => XI G u ∧ (0 ≤ a ∧ a ≤ 1) ∧ FB (fun i k : Nat => (105 ≤ i ∧ i ≤ 123) ∨ (69 ≤ i ∧ i ≤ 71) ∨ (39 ≤ i ∧ i ≤ 57)) V u ∧ (f_s_find x3 x4 V J Rr) (a, u))) (w1 := (fun u : Nat → Nat → Int => XW cy ad u J Rr)) (a := 1) C hr rfl dX10_find_55 (by decide) V6 rfl ⟨hI6, ⟨by decide, by decide⟩, hB6, hF _ rfl⟩
theorem dX10_comer_0 : decode cX10_comer 0 = .ok (.aload_n 0, 1) := by decide +kernel
theorem dX10_comer_1 : decode cX10_comer 1 = .ok (.getfield 24, 3) := by decide +kernel
theorem dX10_comer_4 : decode cX10_comer 4 = .ok (.iload_n 1, 1) := by decide +kernel
theorem dX10_comer_5 : decode cX10_comer 5 = .ok (.iaload, 1) := by decide +kernel
theorem dX10_comer_6 : decode cX10_comer 6 = .ok (.aload_n 0, 1) := by decide +kernel
theorem dX10_comer_7 : decode cX10_comer 7 = .ok (.getfield 38, 3) := by decide +kernel
theorem dX10_comer_10 : decode cX10_comer 10 = .ok (.if_icmp .ge 17, 3) := by decide +kernel
theorem dX10_comer_13 : decode cX10_comer 13 = .ok (.aload_n 0, 1) := by decide +kernel
theorem dX10_comer_14 : decode cX10_comer 14 = .ok (.getfield 17, 3) := by decide +kernel
theorem dX10_comer_17 : decode cX10_comer 17 = .ok (.aload_n 0, 1) := by decide +kernel
theorem dX10_comer_18 : decode cX10_comer 18 = .ok (.getfield 24, 3) := by decide +kernel
theorem dX10_comer_21 : decode cX10_comer 21 = .ok (.iload_n 1, 1) := by decide +kernel
theorem dX10_comer_22 : decode cX10_comer 22 = .ok (.iaload, 1) := by decide +kernel
theorem dX10_comer_23 : decode cX10_comer 23 = .ok (.iaload, 1) := by decide +kernel
theorem dX10_comer_24 : decode cX10_comer 24 = .ok (.goto 5, 3) := by decide +kernel
theorem dX10_comer_27 : decode cX10_comer 27 = .ok (.bipush (-3), 2) := by decide +kernel
theorem dX10_comer_29 : decode cX10_comer 29 = .ok (.ireturn, 1) := by decide +kernel
set_option maxRecDepth 100000 in
def f_s_comer (x1 : Int) (V : Nat → Nat → Int) (J : Nat → Nat → Int) (Rr : Nat → Nat → Nat) : (Int) → Prop :=
  rdb (V 109 x1.toNat) fun z1 => fct (0 ≤ z1 ∧ z1 ≤ 7) <| rdb (V 105 4) fun z2 => fct (0 ≤ z2 ∧ z2 ≤ 3) <| (if z2 ≤ z1 then rtn ((-3)) else rdb (V 107 z1.toNat) fun z4 => fct (0 ≤ z4 ∧ z4 ≤ 7) <| rtn z4)
set_option maxHeartbeats 8000000 in
set_option maxRecDepth 100000 in
theorem s_comer (l : Launch) (D : va_G) (cy : Nat → ClassId) (ad : Nat → Nat) (G : Nat → Nat → Int) (V J : Nat → Nat → Int) (Rr : Nat → Nat → Nat) (hI : XI G V) (hJ : VJ J) (hR : XR Rr) (x1 : Int) (bx1 : 0 ≤ x1 ∧ x1 ≤ 6) : xMi l D (xTY cy) yX10_comer cX10_comer 2 (some .int) 0 0 0 0 [.ref (ad 105), vI x1] (XW cy ad V J Rr) (fun _ : Unit => XW cy ad V J Rr) (fun a (u : Unit) => (f_s_comer x1 V J Rr) a) := by
  refine xMi.mk (lv0 := [(0, .ref (ad 105)), (1, vI x1)]) (by decide) rfl (Nat.le_of_ble_eq_true rfl) (fun p e s m below meth c A C hr hnm hAe => ?_)
  have C : xC2 p s m _ meth c D A s.heap 2 cX10_comer RX10 (xTY cy) := C
  have hF := Imp.of_eq (f_s_comer.eq_def x1 V J Rr)
  refine x_aload_n C.1 dX10_comer_0 0 rfl ?_
  refine x_getA C (N := 129) (i := 105) (by decide) rfl vc_X10 wx_X10 3 (by decide) wf_X10_24 (a := 109) rfl dX10_comer_1 ?_
  refine x_iload_n C.1 dX10_comer_4 1 rfl ?_
  obtain ⟨z1, ez1, bz1⟩ := hI.rd 109 x1.toNat (x := 0) (y := 7) rfl
  replace hF := hF.to (rdb_e (z := z1) ez1)
  replace hF := hF.fc bz1
  refine x_iald C (N := 129) (i := 109) (q := x1) (by decide) rfl (by omega) (by decide) dX10_comer_5 (a := z1) ez1 ?_
  refine x_aload_n C.1 dX10_comer_6 0 rfl ?_
  obtain ⟨z2, ez2, bz2⟩ := hI.rd 105 4 (x := 0) (y := 3) rfl
  replace hF := hF.to (rdb_e (z := z2) ez2)
  replace hF := hF.fc bz2
  refine x_getI C (N := 129) (i := 105) (by decide) rfl vc_X10 wx_X10 4 (by decide) wf_X10_38 rfl dX10_comer_7 (a := z2) ez2 ?_
  refine x_icmp_ge C.1 (tgt := 27) dX10_comer_10 (by decide) (by omega) (by omega) (fun hc3 => ?_) (fun hc3 => ?_)
  · replace hF := hF.to (if_pos hc3)
    refine x_bipush C.1 (n := -3) dX10_comer_27 ?_
    exact x_iret (S := Unit) (post := (fun a (u : Unit) => (f_s_comer x1 V J Rr) a)) (w1 := (fun _ : Unit => XW cy ad V J Rr)) (a := (-3)) C hr rfl dX10_comer_29 (by decide) () rfl (hF _ rfl)
  · replace hF := hF.to (if_neg hc3)
    refine x_aload_n C.1 dX10_comer_13 0 rfl ?_
    refine x_getA C (N := 129) (i := 105) (by decide) rfl vc_X10 wx_X10 1 (by decide) wf_X10_17 (a := 107) rfl dX10_comer_14 ?_
    refine x_aload_n C.1 dX10_comer_17 0 rfl ?_
    refine x_getA C (N := 129) (i := 105) (by decide) rfl vc_X10 wx_X10 3 (by decide) wf_X10_24 (a := 109) rfl dX10_comer_18 ?_
    refine x_iload_n C.1 dX10_comer_21 1 rfl ?_
    refine x_iald C (N := 129) (i := 109) (q := x1) (by decide) rfl (by omega) (by decide) dX10_comer_22 (a := z1) ez1 ?_
    obtain ⟨z4, ez4, bz4⟩ := hI.rd 107 z1.toNat (x := 0) (y := 7) rfl
    replace hF := hF.to (rdb_e (z := z4) ez4)
    replace hF := hF.fc bz4
    refine x_iald C (N := 129) (i := 107) (q := z1) (by decide) rfl (by omega) (by decide) dX10_comer_23 (a := z4) ez4 ?_
    refine x_goto C.1 (tgt := 29) dX10_comer_24 (by decide) ?_
    exact x_iret (S := Unit) (post := (fun a (u : Unit) => (f_s_comer x1 V J Rr) a)) (w1 := (fun _ : Unit => XW cy ad V J Rr)) (a := z4) C hr rfl dX10_comer_29 (by omega) () rfl (hF _ rfl)
