theorem hd_yX9_begin : yX9_begin.cls ≠ "java/lang/invoke/MethodHandle" ∧ yX9_begin.cls ≠ "java/lang/invoke/VarHandle" ∧ (parseMethodDescriptor yX9_begin.desc).map (fun d => d.parameters.length) = some 1 := by decide +kernel
theorem hd_yX9_beginWhen : yX9_beginWhen.cls ≠ "java/lang/invoke/MethodHandle" ∧ yX9_beginWhen.cls ≠ "java/lang/invoke/VarHandle" ∧ (parseMethodDescriptor yX9_beginWhen.desc).map (fun d => d.parameters.length) = some 0 := by decide +kernel
theorem hd_yX9_end : yX9_end.cls ≠ "java/lang/invoke/MethodHandle" ∧ yX9_end.cls ≠ "java/lang/invoke/VarHandle" ∧ (parseMethodDescriptor yX9_end.desc).map (fun d => d.parameters.length) = some 0 := by decide +kernel
theorem dX6_clause_0 : decode cX6_clause 0 = .ok (.aload_n 0, 1) := by decide +kernel
theorem dX6_clause_1 : decode cX6_clause 1 = .ok (.invokevirtual 54, 3) := by decide +kernel
theorem dX6_clause_4 : decode cX6_clause 4 = .ok (.istore_n 2, 1) := by decide +kernel
theorem dX6_clause_5 : decode cX6_clause 5 = .ok (.iload_n 2, 1) := by decide +kernel
theorem dX6_clause_6 : decode cX6_clause 6 = .ok (.ifCond .lt 12, 3) := by decide +kernel
theorem dX6_clause_9 : decode cX6_clause 9 = .ok (.aload_n 1, 1) := by decide +kernel
theorem dX6_clause_10 : decode cX6_clause 10 = .ok (.iload_n 2, 1) := by decide +kernel
theorem dX6_clause_11 : decode cX6_clause 11 = .ok (.i2c, 1) := by decide +kernel
theorem dX6_clause_12 : decode cX6_clause 12 = .ok (.invokevirtual 62, 3) := by decide +kernel
theorem dX6_clause_15 : decode cX6_clause 15 = .ok (.ifCond .ge 9, 3) := by decide +kernel
theorem dX6_clause_18 : decode cX6_clause 18 = .ok (.aload_n 0, 1) := by decide +kernel
theorem dX6_clause_19 : decode cX6_clause 19 = .ok (.iconst 1, 1) := by decide +kernel
theorem dX6_clause_20 : decode cX6_clause 20 = .ok (.invokevirtual 58, 3) := by decide +kernel
theorem dX6_clause_23 : decode cX6_clause 23 = .ok (.ireturn, 1) := by decide +kernel
theorem dX6_clause_24 : decode cX6_clause 24 = .ok (.aload_n 0, 1) := by decide +kernel
theorem dX6_clause_25 : decode cX6_clause 25 = .ok (.getfield 12, 3) := by decide +kernel
theorem dX6_clause_28 : decode cX6_clause 28 = .ok (.getfield 42, 3) := by decide +kernel
theorem dX6_clause_31 : decode cX6_clause 31 = .ok (.bipush 14, 2) := by decide +kernel
theorem dX6_clause_33 : decode cX6_clause 33 = .ok (.if_icmp .lt 9, 3) := by decide +kernel
theorem dX6_clause_36 : decode cX6_clause 36 = .ok (.aload_n 0, 1) := by decide +kernel
theorem dX6_clause_37 : decode cX6_clause 37 = .ok (.iconst 4, 1) := by decide +kernel
theorem dX6_clause_38 : decode cX6_clause 38 = .ok (.invokevirtual 58, 3) := by decide +kernel
theorem dX6_clause_41 : decode cX6_clause 41 = .ok (.ireturn, 1) := by decide +kernel
theorem dX6_clause_42 : decode cX6_clause 42 = .ok (.aload_n 0, 1) := by decide +kernel
theorem dX6_clause_43 : decode cX6_clause 43 = .ok (.getfield 12, 3) := by decide +kernel
theorem dX6_clause_46 : decode cX6_clause 46 = .ok (.iload_n 2, 1) := by decide +kernel
theorem dX6_clause_47 : decode cX6_clause 47 = .ok (.i2c, 1) := by decide +kernel
theorem dX6_clause_48 : decode cX6_clause 48 = .ok (.invokevirtual 67, 3) := by decide +kernel
theorem dX6_clause_51 : decode cX6_clause 51 = .ok (.aload_n 0, 1) := by decide +kernel
theorem dX6_clause_52 : decode cX6_clause 52 = .ok (.dup, 1) := by decide +kernel
theorem dX6_clause_53 : decode cX6_clause 53 = .ok (.getfield 22, 3) := by decide +kernel
theorem dX6_clause_56 : decode cX6_clause 56 = .ok (.iconst 1, 1) := by decide +kernel
theorem dX6_clause_57 : decode cX6_clause 57 = .ok (.iadd, 1) := by decide +kernel
theorem dX6_clause_58 : decode cX6_clause 58 = .ok (.putfield 22, 3) := by decide +kernel
theorem dX6_clause_61 : decode cX6_clause 61 = .ok (.aload_n 0, 1) := by decide +kernel
theorem dX6_clause_62 : decode cX6_clause 62 = .ok (.invokevirtual 71, 3) := by decide +kernel
theorem dX6_clause_65 : decode cX6_clause 65 = .ok (.ifCond .ne 5, 3) := by decide +kernel
theorem dX6_clause_68 : decode cX6_clause 68 = .ok (.iconst 0, 1) := by decide +kernel
theorem dX6_clause_69 : decode cX6_clause 69 = .ok (.ireturn, 1) := by decide +kernel
theorem dX6_clause_70 : decode cX6_clause 70 = .ok (.aload_n 0, 1) := by decide +kernel
theorem dX6_clause_71 : decode cX6_clause 71 = .ok (.invokevirtual 54, 3) := by decide +kernel
theorem dX6_clause_74 : decode cX6_clause 74 = .ok (.bipush 40, 2) := by decide +kernel
theorem dX6_clause_76 : decode cX6_clause 76 = .ok (.if_icmp .eq 9, 3) := by decide +kernel
theorem dX6_clause_79 : decode cX6_clause 79 = .ok (.aload_n 0, 1) := by decide +kernel
theorem dX6_clause_80 : decode cX6_clause 80 = .ok (.iconst 1, 1) := by decide +kernel
theorem dX6_clause_81 : decode cX6_clause 81 = .ok (.invokevirtual 58, 3) := by decide +kernel
theorem dX6_clause_84 : decode cX6_clause 84 = .ok (.ireturn, 1) := by decide +kernel
theorem dX6_clause_85 : decode cX6_clause 85 = .ok (.aload_n 0, 1) := by decide +kernel
theorem dX6_clause_86 : decode cX6_clause 86 = .ok (.getfield 12, 3) := by decide +kernel
theorem dX6_clause_89 : decode cX6_clause 89 = .ok (.invokevirtual 75, 3) := by decide +kernel
theorem dX6_clause_92 : decode cX6_clause 92 = .ok (.aload_n 0, 1) := by decide +kernel
theorem dX6_clause_93 : decode cX6_clause 93 = .ok (.bipush 41, 2) := by decide +kernel
theorem dX6_clause_95 : decode cX6_clause 95 = .ok (.invokevirtual 78, 3) := by decide +kernel
theorem dX6_clause_98 : decode cX6_clause 98 = .ok (.ifCond .ne 5, 3) := by decide +kernel
theorem dX6_clause_101 : decode cX6_clause 101 = .ok (.iconst 0, 1) := by decide +kernel
theorem dX6_clause_102 : decode cX6_clause 102 = .ok (.ireturn, 1) := by decide +kernel
theorem dX6_clause_103 : decode cX6_clause 103 = .ok (.aload_n 0, 1) := by decide +kernel
theorem dX6_clause_104 : decode cX6_clause 104 = .ok (.getfield 12, 3) := by decide +kernel
theorem dX6_clause_107 : decode cX6_clause 107 = .ok (.invokevirtual 81, 3) := by decide +kernel
theorem dX6_clause_110 : decode cX6_clause 110 = .ok (.iconst 1, 1) := by decide +kernel
theorem dX6_clause_111 : decode cX6_clause 111 = .ok (.ireturn, 1) := by decide +kernel
set_option maxRecDepth 100000 in
def f_r_clause (k1 : Nat) (V : Nat → Nat → Int) (J : Nat → Nat → Int) (Rr : Nat → Nat → Nat) : (Int × (Nat → Nat → Int)) → Prop :=
  calR (f_r_peek V J Rr) fun z1 => (if z1 < 0 then calVX (fun i k : Nat => (72 ≤ i ∧ i ≤ 72)) V (f_r_fail 1 V J Rr) fun z3 V3 => fct (0 ≤ z3 ∧ z3 ≤ 0) <| rtn (z3, V3) else rdb (iC z1) fun z4 => fct (0 ≤ z4 ∧ z4 ≤ 65535) <| calR (f_j_indexOf k1 z4) fun z5 => (if 0 ≤ z5 then rdb (Rr 72 1) fun t7 => rdb (V t7 5) fun z8 => fct (0 ≤ z8 ∧ z8 ≤ 14) <| (if z8 < 14 then rdb (iC z1) fun z10 => fct (0 ≤ z10 ∧ z10 ≤ 65535) <| calUX (fun i k : Nat => (t7 ≤ i ∧ i ≤ t7 + 4)) V (f_r_begin t7 z10 V J Rr) fun V11 => rdb (V11 72 2) fun z12 => rdb (wr (z12 + 1)) fun z13 => rdb (up2 V11 72 2 z13) fun V14 => calVX (fun i k : Nat => (72 ≤ i ∧ i ≤ 72) ∨ (Rr 72 1 ≤ i ∧ i ≤ Rr 72 1 + 4)) V14 (f_r_sum0 V14 J Rr) fun z15 V15 => fct (0 ≤ z15 ∧ z15 ≤ 1) <| (if ¬ z15 = 0 then calR (f_r_peek V15 J Rr) fun z18 => (if z18 = 40 then calUX (fun i k : Nat => (t7 ≤ i ∧ i ≤ t7 + 4)) V15 (f_r_beginWhen t7 V15 J Rr) fun V20 => calVX (fun i k : Nat => (72 ≤ i ∧ i ≤ 72) ∨ (Rr 72 1 ≤ i ∧ i ≤ Rr 72 1 + 4)) V20 (f_r_bracket0 41 V20 J Rr) fun z21 V21 => fct (0 ≤ z21 ∧ z21 ≤ 1) <| (if ¬ z21 = 0 then calUX (fun i k : Nat => (t7 ≤ i ∧ i ≤ t7 + 4)) V21 (f_r_end t7 V21 J Rr) fun V24 => rtn (1, V24) else rtn (0, V21)) else calVX (fun i k : Nat => (72 ≤ i ∧ i ≤ 72)) V15 (f_r_fail 1 V15 J Rr) fun z25 V25 => fct (0 ≤ z25 ∧ z25 ≤ 0) <| rtn (z25, V25)) else rtn (0, V15)) else calVX (fun i k : Nat => (72 ≤ i ∧ i ≤ 72)) V (f_r_fail 4 V J Rr) fun z26 V26 => fct (0 ≤ z26 ∧ z26 ≤ 0) <| rtn (z26, V26)) else calVX (fun i k : Nat => (72 ≤ i ∧ i ≤ 72)) V (f_r_fail 1 V J Rr) fun z27 V27 => fct (0 ≤ z27 ∧ z27 ≤ 0) <| rtn (z27, V27)))
set_option maxHeartbeats 8000000 in
set_option maxRecDepth 100000 in
theorem r_clause (l : Launch) (D : va_G) (cy : Nat → ClassId) (aK aV : Nat → Nat) (ad : Nat → Nat) (G : Nat → Nat → Int) (V J : Nat → Nat → Int) (Rr : Nat → Nat → Nat) (hI : XI G V) (hJ : VJ J) (hR : XR Rr) (k1 : Nat) (hk1 : k1 < 3) (hop : V 72 4 = 0) : zMiS l D (xTY cy) aK aV yX6_clause cX6_clause 3 (some .boolean) 55 1188 0 0 [.ref (ad 72), .ref (aK k1)] (XW cy ad V J Rr) (fun u : Nat → Nat → Int => XW cy ad u J Rr) (fun a (u : Nat → Nat → Int) => XI G u ∧ (0 ≤ a ∧ a ≤ 1) ∧ Sp a (u 72 4 = 0) ∧ FB (fun i k : Nat => (72 ≤ i ∧ i ≤ 72) ∨ (Rr 72 1 ≤ i ∧ i ≤ Rr 72 1 + 4)) V u ∧ (f_r_clause k1 V J Rr) (a, u)) := by
  refine zMiS.mk (lv0 := [(0, .ref (ad 72)), (1, .ref (aK k1))]) (by decide) rfl (Nat.le_of_ble_eq_true rfl) (fun p e s m below meth c A C hr hnm hAe hE => ?_)
  have C : xC2 p s m _ meth c D A s.heap 3 cX6_clause RX6 (xTY cy) := C
  have hB : FB (fun i k : Nat => (72 ≤ i ∧ i ≤ 72) ∨ (Rr 72 1 ≤ i ∧ i ≤ Rr 72 1 + 4)) V V := FB.rf _ _
  have hF := Imp.of_eq (f_r_clause.eq_def k1 V J Rr)
  refine x_aload_n C.1 dX6_clause_0 0 rfl ?_
  refine x_callVi C (As := []) (rest := []) 72 (xw_at (N := 129) (i := 72) (by decide) rfl) vc_X6 (r_peek l D cy ad V V J Rr (XI.toT hI) hJ hR ) (l1 := []) (l2 := []) (List.append_nil _).symm (w2 := fun _ => XW cy ad V J Rr) (fun _ => List.append_nil _) rfl wm_yX6_peek wn_X6 wl_X6_54 wi_yX6_peek we_yX6_peek hd_yX6_peek rfl ⟨Nat.le_of_ble_eq_true rfl, Nat.le_of_ble_eq_true rfl⟩ (Nat.le_of_ble_eq_true rfl) ⟨Nat.le_of_ble_eq_true rfl, Nat.le_of_ble_eq_true rfl⟩ dX6_clause_1 (fun z1 u1 bz1 h1 => ?_)
  have hFc1 := h1
  replace hF := calR_i hF hFc1
  refine x_istore_n C.1 (lv' := [(2, vI z1), (0, .ref (ad 72)), (1, .ref (aK k1))]) dX6_clause_4 (by decide) rfl ?_
  refine x_iload_n C.1 dX6_clause_5 0 rfl ?_
  refine x_if_lt C.1 (tgt := 18) dX6_clause_6 (by decide) (by omega) (fun hc2 => ?_) (fun hc2 => ?_)
  · replace hF := hF.to (if_pos hc2)
    refine x_aload_n C.1 dX6_clause_18 1 rfl ?_
    refine x_iconst C.1 (n := 1) dX6_clause_19 ?_
    refine x_callVi C (As := [vI 1]) (rest := []) 72 (xw_at (N := 129) (i := 72) (by decide) rfl) vc_X6 (r_fail l D cy ad V V J Rr (XI.toT hI) hJ hR 1 ⟨by decide, by decide⟩) (l1 := []) (l2 := []) (List.append_nil _).symm (w2 := fun u : Nat → Nat → Int => XW cy ad u J Rr) (fun _ => List.append_nil _) rfl wm_yX6_fail wn_X6 wl_X6_58 wi_yX6_fail we_yX6_fail hd_yX6_fail rfl ⟨Nat.le_of_ble_eq_true rfl, Nat.le_of_ble_eq_true rfl⟩ (Nat.le_of_ble_eq_true rfl) ⟨Nat.le_of_ble_eq_true rfl, Nat.le_of_ble_eq_true rfl⟩ dX6_clause_20 (fun z3 V3 bz3 h3 => ?_)
    obtain ⟨hI3, bq3, hx3_0, hBc3, hFc3⟩ := h3
    replace hF := calVX_i hF hFc3 hBc3
    replace hF := hF.fc bq3
    have hB3 := hB.tr hBc3 (fun i k h => (Or.inl h))
    have hI3c := TI.back hI hI3
    exact x_zret (S := (Nat → Nat → Int)) (post := (fun a (u : Nat → Nat → Int) => XI G u ∧ (0 ≤ a ∧ a ≤ 1) ∧ Sp a (u 72 4 = 0) ∧ FB (fun i k : Nat => (72 ≤ i ∧ i ≤ 72) ∨ (Rr 72 1 ≤ i ∧ i ≤ Rr 72 1 + 4)) V u ∧ (f_r_clause k1 V J Rr) (a, u))) (w1 := (fun u : Nat → Nat → Int => XW cy ad u J Rr)) (a := z3) C hr rfl dX6_clause_23 (by omega) V3 rfl ⟨hI3c, ⟨by omega, by omega⟩, (Sp.all (hx3_0.trans hop) (by omega)), hB3, hF _ rfl⟩
  · replace hF := hF.to (if_neg hc2)
    refine x_aload_n C.1 dX6_clause_9 2 rfl ?_
    refine x_iload_n C.1 dX6_clause_10 0 rfl ?_
    refine x_i2c C.1 dX6_clause_11 ?_
    obtain ⟨z4, hz4, bz4⟩ : ∃ z : Int, iC z1 = z ∧ (0 ≤ z ∧ z ≤ 65535) := ⟨_, rfl, iC_r _⟩
    rw [hz4]
    replace hF := hF.to (rdb_e (z := z4) hz4)
    replace hF := hF.fc bz4
    refine x_callJiS C hE hk1 (As := [vI z4]) (rest := []) (j_indexOf l D cy aK aV k1 hk1 z4 ⟨by omega, by omega⟩) (l1 := []) (l2 := _) rfl (w2 := fun _ => _) (fun _ => rfl) rfl wm_yJ0_indexOf_0f7a4 wn_J0 wl_X6_62 wi_yJ0_indexOf_0f7a4 we_yJ0_indexOf_0f7a4 hd_yJ0_indexOf_0f7a4 rfl ⟨Nat.le_of_ble_eq_true rfl, Nat.le_of_ble_eq_true rfl⟩ (Nat.le_of_ble_eq_true rfl) ⟨Nat.le_of_ble_eq_true rfl, Nat.le_of_ble_eq_true rfl⟩ dX6_clause_12 (fun z5 u5 bz5 h5 => ?_)
    have hFc5 := h5
    replace hF := calR_i hF hFc5
    refine x_if_ge C.1 (tgt := 24) dX6_clause_15 (by decide) (by omega) (fun hc6 => ?_) (fun hc6 => ?_)
    · replace hF := hF.to (if_pos hc6)
      refine x_aload_n C.1 dX6_clause_24 1 rfl ?_
      obtain ⟨t7, et7, ht7⟩ := XR.into hR
      replace hF := hF.to (rdb_e (z := t7) et7)
      refine x_getR C (N := 129) (i := 72) (by decide) rfl vc_X6 wx_X6 1 (by decide) wf_X6_12 rfl dX6_clause_25 (a := t7) et7 ?_
      obtain ⟨z8, ez8, bz8⟩ := hI.rd t7 5 (x := 0) (y := 14) (rg_T ht7 5)
      replace hF := hF.to (rdb_e (z := z8) ez8)
      replace hF := hF.fc bz8
      refine x_getI C (N := 129) (i := t7) (by omega) (xd_T ht7) vc_X9 wx_X9 5 (by decide) wf_X6_42 rfl dX6_clause_28 (a := z8) ez8 ?_
      refine x_bipush C.1 (n := 14) dX6_clause_31 ?_
      refine x_icmp_lt C.1 (tgt := 42) dX6_clause_33 (by decide) (by omega) (by decide) (fun hc9 => ?_) (fun hc9 => ?_)
      · replace hF := hF.to (if_pos hc9)
        refine x_aload_n C.1 dX6_clause_42 1 rfl ?_
        refine x_getR C (N := 129) (i := 72) (by decide) rfl vc_X6 wx_X6 1 (by decide) wf_X6_12 rfl dX6_clause_43 (a := t7) et7 ?_
        refine x_iload_n C.1 dX6_clause_46 0 rfl ?_
        refine x_i2c C.1 dX6_clause_47 ?_
        obtain ⟨z10, hz10, bz10⟩ : ∃ z : Int, iC z1 = z ∧ (0 ≤ z ∧ z ≤ 65535) := ⟨_, rfl, iC_r _⟩
        rw [hz10]
        replace hF := hF.to (rdb_e (z := z10) hz10)
        replace hF := hF.fc bz10
        refine x_callVv C (As := [vI z10]) (rest := []) t7 (xw_at (N := 129) (i := t7) (by omega) (xd_T ht7)) vc_X9 (r_begin l D cy ad V V J Rr (XI.toT hI) hJ hR t7 ht7 z10 ⟨by omega, by omega⟩ (by rw [ez8]; omega)) (l1 := []) (l2 := []) (List.append_nil _).symm (w2 := fun u : Nat → Nat → Int => XW cy ad u J Rr) (fun _ => List.append_nil _) rfl wm_yX9_begin wn_X9 wl_X6_67 wi_yX9_begin we_yX9_begin hd_yX9_begin rfl ⟨Nat.le_of_ble_eq_true rfl, Nat.le_of_ble_eq_true rfl⟩ (Nat.le_of_ble_eq_true rfl) ⟨Nat.le_of_ble_eq_true rfl, Nat.le_of_ble_eq_true rfl⟩ dX6_clause_48 (fun V11 h11 => ?_)
        obtain ⟨hI11, hx11_0, hBc11, hFc11⟩ := h11
        replace hF := calUX_i hF hFc11 hBc11
        have hB11 := hB.tr hBc11 (fun i k h => (Or.inr (⟨by omega, by omega⟩)))
        have hI11c := TI.back hI hI11
        refine x_aload_n C.1 dX6_clause_51 1 rfl ?_
        refine x_dup C.1 dX6_clause_52 rfl ?_
        obtain ⟨z12, ez12, bz12⟩ := hI11c.rd 72 2 (x := -2147483648) (y := 2147483647) rfl
        replace hF := hF.to (rdb_e (z := z12) ez12)
        refine x_getI C (N := 129) (i := 72) (by decide) rfl vc_X6 wx_X6 2 (by decide) wf_X6_22 rfl dX6_clause_53 (a := z12) ez12 ?_
        refine x_iconst C.1 (n := 1) dX6_clause_56 ?_
        refine x_iadd C.1 (v := z12 + 1) (by omega) dX6_clause_57 ?_
        refine x_wrapg ?_
        intro z13 bz13 ew13
        replace hF := hF.to (rdb_e (z := z13) ew13.symm)
        refine x_putI C (N := 129) (i := 72) (by decide) rfl vc_X6 wx_X6 2 (by decide) wf_X6_22 tyX6 tyX6_ok nmX6 rfl (tyX6_ok 2 (by decide)) rfl dX6_clause_58 rfl rfl ?_
        refine x_gV ?_
        intro V14 hV14
        have hI14 : XI G V14 := hI11c.up hV14 rfl (by omega) rfl
        have hB14 := hB11.up hV14 (Or.inl (⟨by decide, by decide⟩))
        replace hF := hF.to (rdb_e (z := V14) hV14.symm)
        refine x_aload_n C.1 dX6_clause_61 1 rfl ?_
        refine x_callViS C hE (As := []) (rest := []) 72 (xw_at (N := 129) (i := 72) (by decide) rfl) vc_X6 (r_sum0 l D cy aK aV ad V14 V14 J Rr (XI.toT hI14) hJ hR ((congrFun (congrFun hV14 72) 4).trans ((up2_n _ _ (Or.inr (by decide))).trans (hx11_0.trans hop)))) (l1 := []) (l2 := []) (List.append_nil _).symm (w2 := fun u : Nat → Nat → Int => XW cy ad u J Rr) (fun _ => List.append_nil _) rfl wm_yX6_sum wn_X6 wl_X6_71 wi_yX6_sum we_yX6_sum hd_yX6_sum rfl ⟨Nat.le_of_ble_eq_true rfl, Nat.le_of_ble_eq_true rfl⟩ (Nat.le_of_ble_eq_true rfl) ⟨Nat.le_of_ble_eq_true rfl, Nat.le_of_ble_eq_true rfl⟩ dX6_clause_62 (fun z15 V15 bz15 h15 => ?_)
        obtain ⟨hI15, bq15, hx15_0, hBc15, hFc15⟩ := h15
        replace hF := calVX_i hF hFc15 hBc15
        replace hF := hF.fc bq15
        have hB15 := hB14.tr hBc15 (fun i k h => (h.elim (fun h => (Or.inl h)) (fun h => (Or.inr (h)))))
        have hI15c := TI.back hI14 hI15
        refine x_if_ne C.1 (tgt := 70) dX6_clause_65 (by decide) (by omega) (fun hc16 => ?_) (fun hc16 => ?_)
        · replace hF := hF.to (if_pos hc16)
          have hon17 := Sp.on hx15_0 (by omega)
          refine x_aload_n C.1 dX6_clause_70 1 rfl ?_
          refine x_callVi C (As := []) (rest := []) 72 (xw_at (N := 129) (i := 72) (by decide) rfl) vc_X6 (r_peek l D cy ad V15 V15 J Rr (XI.toT hI15c) hJ hR ) (l1 := []) (l2 := []) (List.append_nil _).symm (w2 := fun _ => XW cy ad V15 J Rr) (fun _ => List.append_nil _) rfl wm_yX6_peek wn_X6 wl_X6_54 wi_yX6_peek we_yX6_peek hd_yX6_peek rfl ⟨Nat.le_of_ble_eq_true rfl, Nat.le_of_ble_eq_true rfl⟩ (Nat.le_of_ble_eq_true rfl) ⟨Nat.le_of_ble_eq_true rfl, Nat.le_of_ble_eq_true rfl⟩ dX6_clause_71 (fun z18 u18 bz18 h18 => ?_)
          have hFc18 := h18
          replace hF := calR_i hF hFc18
          refine x_bipush C.1 (n := 40) dX6_clause_74 ?_
          refine x_icmp_eq C.1 (tgt := 85) dX6_clause_76 (by decide) (by omega) (by decide) (fun hc19 => ?_) (fun hc19 => ?_)
          · replace hF := hF.to (if_pos hc19)
            refine x_aload_n C.1 dX6_clause_85 1 rfl ?_
            refine x_getR C (N := 129) (i := 72) (by decide) rfl vc_X6 wx_X6 1 (by decide) wf_X6_12 rfl dX6_clause_86 (a := t7) et7 ?_
            refine x_callVv C (As := []) (rest := []) t7 (xw_at (N := 129) (i := t7) (by omega) (xd_T ht7)) vc_X9 (r_beginWhen l D cy ad V15 V15 J Rr (XI.toT hI15c) hJ hR t7 ht7 (by rw [((hI15.keep ht7).trans ((congrFun (congrFun hV14 t7) 5).trans ((up2_n _ _ (Or.inl (by omega))).trans ((hI11.keep ht7).trans ez8))))]; omega)) (l1 := []) (l2 := []) (List.append_nil _).symm (w2 := fun u : Nat → Nat → Int => XW cy ad u J Rr) (fun _ => List.append_nil _) rfl wm_yX9_beginWhen wn_X9 wl_X6_75 wi_yX9_beginWhen we_yX9_beginWhen hd_yX9_beginWhen rfl ⟨Nat.le_of_ble_eq_true rfl, Nat.le_of_ble_eq_true rfl⟩ (Nat.le_of_ble_eq_true rfl) ⟨Nat.le_of_ble_eq_true rfl, Nat.le_of_ble_eq_true rfl⟩ dX6_clause_89 (fun V20 h20 => ?_)
            obtain ⟨hI20, hx20_0, hBc20, hFc20⟩ := h20
            replace hF := calUX_i hF hFc20 hBc20
            have hB20 := hB15.tr hBc20 (fun i k h => (Or.inr (⟨by omega, by omega⟩)))
            have hI20c := TI.back hI15c hI20
            refine x_aload_n C.1 dX6_clause_92 1 rfl ?_
            refine x_bipush C.1 (n := 41) dX6_clause_93 ?_
            refine x_callViS C hE (As := [vI 41]) (rest := []) 72 (xw_at (N := 129) (i := 72) (by decide) rfl) vc_X6 (r_bracket0 l D cy aK aV ad V20 V20 J Rr (XI.toT hI20c) hJ hR 41 ⟨by decide, by decide⟩ (hx20_0.trans hon17)) (l1 := []) (l2 := []) (List.append_nil _).symm (w2 := fun u : Nat → Nat → Int => XW cy ad u J Rr) (fun _ => List.append_nil _) rfl wm_yX6_bracket wn_X6 wl_X6_78 wi_yX6_bracket we_yX6_bracket hd_yX6_bracket rfl ⟨Nat.le_of_ble_eq_true rfl, Nat.le_of_ble_eq_true rfl⟩ (Nat.le_of_ble_eq_true rfl) ⟨Nat.le_of_ble_eq_true rfl, Nat.le_of_ble_eq_true rfl⟩ dX6_clause_95 (fun z21 V21 bz21 h21 => ?_)
            obtain ⟨hI21, bq21, hx21_0, hBc21, hFc21⟩ := h21
            replace hF := calVX_i hF hFc21 hBc21
            replace hF := hF.fc bq21
            have hB21 := hB20.tr hBc21 (fun i k h => (h.elim (fun h => (Or.inl h)) (fun h => (Or.inr (h)))))
            have hI21c := TI.back hI20c hI21
            refine x_if_ne C.1 (tgt := 103) dX6_clause_98 (by decide) (by omega) (fun hc22 => ?_) (fun hc22 => ?_)
            · replace hF := hF.to (if_pos hc22)
              have hon23 := Sp.on hx21_0 (by omega)
              refine x_aload_n C.1 dX6_clause_103 1 rfl ?_
              refine x_getR C (N := 129) (i := 72) (by decide) rfl vc_X6 wx_X6 1 (by decide) wf_X6_12 rfl dX6_clause_104 (a := t7) et7 ?_
              refine x_callVv C (As := []) (rest := []) t7 (xw_at (N := 129) (i := t7) (by omega) (xd_T ht7)) vc_X9 (r_end l D cy ad G V21 J Rr hI21c hJ hR t7 ht7 (by rw [((hI21.keep ht7).trans ((hI20.keep ht7).trans ((hI15.keep ht7).trans ((congrFun (congrFun hV14 t7) 5).trans ((up2_n _ _ (Or.inl (by omega))).trans ((hI11.keep ht7).trans ez8))))))]; omega)) (l1 := []) (l2 := []) (List.append_nil _).symm (w2 := fun u : Nat → Nat → Int => XW cy ad u J Rr) (fun _ => List.append_nil _) rfl wm_yX9_end wn_X9 wl_X6_81 wi_yX9_end we_yX9_end hd_yX9_end rfl ⟨Nat.le_of_ble_eq_true rfl, Nat.le_of_ble_eq_true rfl⟩ (Nat.le_of_ble_eq_true rfl) ⟨Nat.le_of_ble_eq_true rfl, Nat.le_of_ble_eq_true rfl⟩ dX6_clause_107 (fun V24 h24 => ?_)
              obtain ⟨hI24, hx24_0, hBc24, hFc24⟩ := h24
              replace hF := calUX_i hF hFc24 hBc24
              have hB24 := hB21.tr hBc24 (fun i k h => (Or.inr (⟨by omega, by omega⟩)))
              refine x_iconst C.1 (n := 1) dX6_clause_110 ?_
              exact x_zret (S := (Nat → Nat → Int)) (post := (fun a (u : Nat → Nat → Int) => XI G u ∧ (0 ≤ a ∧ a ≤ 1) ∧ Sp a (u 72 4 = 0) ∧ FB (fun i k : Nat => (72 ≤ i ∧ i ≤ 72) ∨ (Rr 72 1 ≤ i ∧ i ≤ Rr 72 1 + 4)) V u ∧ (f_r_clause k1 V J Rr) (a, u))) (w1 := (fun u : Nat → Nat → Int => XW cy ad u J Rr)) (a := 1) C hr rfl dX6_clause_111 (by decide) V24 rfl ⟨hI24, ⟨by decide, by decide⟩, (Or.inr ⟨rfl, (hx24_0.trans hon23)⟩), hB24, hF _ rfl⟩
            · replace hF := hF.to (if_neg (fun hh => hh hc22))
              refine x_iconst C.1 (n := 0) dX6_clause_101 ?_
              exact x_zret (S := (Nat → Nat → Int)) (post := (fun a (u : Nat → Nat → Int) => XI G u ∧ (0 ≤ a ∧ a ≤ 1) ∧ Sp a (u 72 4 = 0) ∧ FB (fun i k : Nat => (72 ≤ i ∧ i ≤ 72) ∨ (Rr 72 1 ≤ i ∧ i ≤ Rr 72 1 + 4)) V u ∧ (f_r_clause k1 V J Rr) (a, u))) (w1 := (fun u : Nat → Nat → Int => XW cy ad u J Rr)) (a := 0) C hr rfl dX6_clause_102 (by decide) V21 rfl ⟨hI21c, ⟨by decide, by decide⟩, (Or.inl rfl), hB21, hF _ rfl⟩
          · replace hF := hF.to (if_neg hc19)
            refine x_aload_n C.1 dX6_clause_79 1 rfl ?_
            refine x_iconst C.1 (n := 1) dX6_clause_80 ?_
            refine x_callVi C (As := [vI 1]) (rest := []) 72 (xw_at (N := 129) (i := 72) (by decide) rfl) vc_X6 (r_fail l D cy ad V15 V15 J Rr (XI.toT hI15c) hJ hR 1 ⟨by decide, by decide⟩) (l1 := []) (l2 := []) (List.append_nil _).symm (w2 := fun u : Nat → Nat → Int => XW cy ad u J Rr) (fun _ => List.append_nil _) rfl wm_yX6_fail wn_X6 wl_X6_58 wi_yX6_fail we_yX6_fail hd_yX6_fail rfl ⟨Nat.le_of_ble_eq_true rfl, Nat.le_of_ble_eq_true rfl⟩ (Nat.le_of_ble_eq_true rfl) ⟨Nat.le_of_ble_eq_true rfl, Nat.le_of_ble_eq_true rfl⟩ dX6_clause_81 (fun z25 V25 bz25 h25 => ?_)
            obtain ⟨hI25, bq25, hx25_0, hBc25, hFc25⟩ := h25
            replace hF := calVX_i hF hFc25 hBc25
            replace hF := hF.fc bq25
            have hB25 := hB15.tr hBc25 (fun i k h => (Or.inl h))
            have hI25c := TI.back hI15c hI25
            exact x_zret (S := (Nat → Nat → Int)) (post := (fun a (u : Nat → Nat → Int) => XI G u ∧ (0 ≤ a ∧ a ≤ 1) ∧ Sp a (u 72 4 = 0) ∧ FB (fun i k : Nat => (72 ≤ i ∧ i ≤ 72) ∨ (Rr 72 1 ≤ i ∧ i ≤ Rr 72 1 + 4)) V u ∧ (f_r_clause k1 V J Rr) (a, u))) (w1 := (fun u : Nat → Nat → Int => XW cy ad u J Rr)) (a := z25) C hr rfl dX6_clause_84 (by omega) V25 rfl ⟨hI25c, ⟨by omega, by omega⟩, (Sp.all (hx25_0.trans hon17) (by omega)), hB25, hF _ rfl⟩
        · replace hF := hF.to (if_neg (fun hh => hh hc16))
          refine x_iconst C.1 (n := 0) dX6_clause_68 ?_
          exact x_zret (S := (Nat → Nat → Int)) (post := (fun a (u : Nat → Nat → Int) => XI G u ∧ (0 ≤ a ∧ a ≤ 1) ∧ Sp a (u 72 4 = 0) ∧ FB (fun i k : Nat => (72 ≤ i ∧ i ≤ 72) ∨ (Rr 72 1 ≤ i ∧ i ≤ Rr 72 1 + 4)) V u ∧ (f_r_clause k1 V J Rr) (a, u))) (w1 := (fun u : Nat → Nat → Int => XW cy ad u J Rr)) (a := 0) C hr rfl dX6_clause_69 (by decide) V15 rfl ⟨hI15c, ⟨by decide, by decide⟩, (Or.inl rfl), hB15, hF _ rfl⟩
      · replace hF := hF.to (if_neg hc9)
        refine x_aload_n C.1 dX6_clause_36 1 rfl ?_
        refine x_iconst C.1 (n := 4) dX6_clause_37 ?_
        refine x_callVi C (As := [vI 4]) (rest := []) 72 (xw_at (N := 129) (i := 72) (by decide) rfl) vc_X6 (r_fail l D cy ad V V J Rr (XI.toT hI) hJ hR 4 ⟨by decide, by decide⟩) (l1 := []) (l2 := []) (List.append_nil _).symm (w2 := fun u : Nat → Nat → Int => XW cy ad u J Rr) (fun _ => List.append_nil _) rfl wm_yX6_fail wn_X6 wl_X6_58 wi_yX6_fail we_yX6_fail hd_yX6_fail rfl ⟨Nat.le_of_ble_eq_true rfl, Nat.le_of_ble_eq_true rfl⟩ (Nat.le_of_ble_eq_true rfl) ⟨Nat.le_of_ble_eq_true rfl, Nat.le_of_ble_eq_true rfl⟩ dX6_clause_38 (fun z26 V26 bz26 h26 => ?_)
        obtain ⟨hI26, bq26, hx26_0, hBc26, hFc26⟩ := h26
        replace hF := calVX_i hF hFc26 hBc26
        replace hF := hF.fc bq26
        have hB26 := hB.tr hBc26 (fun i k h => (Or.inl h))
        have hI26c := TI.back hI hI26
        exact x_zret (S := (Nat → Nat → Int)) (post := (fun a (u : Nat → Nat → Int) => XI G u ∧ (0 ≤ a ∧ a ≤ 1) ∧ Sp a (u 72 4 = 0) ∧ FB (fun i k : Nat => (72 ≤ i ∧ i ≤ 72) ∨ (Rr 72 1 ≤ i ∧ i ≤ Rr 72 1 + 4)) V u ∧ (f_r_clause k1 V J Rr) (a, u))) (w1 := (fun u : Nat → Nat → Int => XW cy ad u J Rr)) (a := z26) C hr rfl dX6_clause_41 (by omega) V26 rfl ⟨hI26c, ⟨by omega, by omega⟩, (Sp.all (hx26_0.trans hop) (by omega)), hB26, hF _ rfl⟩
    · replace hF := hF.to (if_neg hc6)
      refine x_aload_n C.1 dX6_clause_18 1 rfl ?_
      refine x_iconst C.1 (n := 1) dX6_clause_19 ?_
      refine x_callVi C (As := [vI 1]) (rest := []) 72 (xw_at (N := 129) (i := 72) (by decide) rfl) vc_X6 (r_fail l D cy ad V V J Rr (XI.toT hI) hJ hR 1 ⟨by decide, by decide⟩) (l1 := []) (l2 := []) (List.append_nil _).symm (w2 := fun u : Nat → Nat → Int => XW cy ad u J Rr) (fun _ => List.append_nil _) rfl wm_yX6_fail wn_X6 wl_X6_58 wi_yX6_fail we_yX6_fail hd_yX6_fail rfl ⟨Nat.le_of_ble_eq_true rfl, Nat.le_of_ble_eq_true rfl⟩ (Nat.le_of_ble_eq_true rfl) ⟨Nat.le_of_ble_eq_true rfl, Nat.le_of_ble_eq_true rfl⟩ dX6_clause_20 (fun z27 V27 bz27 h27 => ?_)
      obtain ⟨hI27, bq27, hx27_0, hBc27, hFc27⟩ := h27
      replace hF := calVX_i hF hFc27 hBc27
      replace hF := hF.fc bq27
      have hB27 := hB.tr hBc27 (fun i k h => (Or.inl h))
      have hI27c := TI.back hI hI27
      exact x_zret (S := (Nat → Nat → Int)) (post := (fun a (u : Nat → Nat → Int) => XI G u ∧ (0 ≤ a ∧ a ≤ 1) ∧ Sp a (u 72 4 = 0) ∧ FB (fun i k : Nat => (72 ≤ i ∧ i ≤ 72) ∨ (Rr 72 1 ≤ i ∧ i ≤ Rr 72 1 + 4)) V u ∧ (f_r_clause k1 V J Rr) (a, u))) (w1 := (fun u : Nat → Nat → Int => XW cy ad u J Rr)) (a := z27) C hr rfl dX6_clause_23 (by omega) V27 rfl ⟨hI27c, ⟨by omega, by omega⟩, (Sp.all (hx27_0.trans hop) (by omega)), hB27, hF _ rfl⟩
theorem hd_yX6_clause : yX6_clause.cls ≠ "java/lang/invoke/MethodHandle" ∧ yX6_clause.cls ≠ "java/lang/invoke/VarHandle" ∧ (parseMethodDescriptor yX6_clause.desc).map (fun d => d.parameters.length) = some 1 := by decide +kernel
theorem hd_yX9_empty : yX9_empty.cls ≠ "java/lang/invoke/MethodHandle" ∧ yX9_empty.cls ≠ "java/lang/invoke/VarHandle" ∧ (parseMethodDescriptor yX9_empty.desc).map (fun d => d.parameters.length) = some 0 := by decide +kernel
theorem dX6_read_0 : decode cX6_read 0 = .ok (.aload_n 0, 1) := by decide +kernel
theorem dX6_read_1 : decode cX6_read 1 = .ok (.iconst 0, 1) := by decide +kernel
theorem dX6_read_2 : decode cX6_read 2 = .ok (.putfield 22, 3) := by decide +kernel
theorem dX6_read_5 : decode cX6_read 5 = .ok (.aload_n 0, 1) := by decide +kernel
theorem dX6_read_6 : decode cX6_read 6 = .ok (.iload_n 1, 1) := by decide +kernel
theorem dX6_read_7 : decode cX6_read 7 = .ok (.putfield 26, 3) := by decide +kernel
theorem dX6_read_10 : decode cX6_read 10 = .ok (.aload_n 0, 1) := by decide +kernel
theorem dX6_read_11 : decode cX6_read 11 = .ok (.iconst 0, 1) := by decide +kernel
theorem dX6_read_12 : decode cX6_read 12 = .ok (.putfield 29, 3) := by decide +kernel
theorem dX6_read_15 : decode cX6_read 15 = .ok (.aload_n 0, 1) := by decide +kernel
theorem dX6_read_16 : decode cX6_read 16 = .ok (.iconst 0, 1) := by decide +kernel
theorem dX6_read_17 : decode cX6_read 17 = .ok (.putfield 32, 3) := by decide +kernel
theorem dX6_read_20 : decode cX6_read 20 = .ok (.aload_n 0, 1) := by decide +kernel
theorem dX6_read_21 : decode cX6_read 21 = .ok (.getfield 12, 3) := by decide +kernel
theorem dX6_read_24 : decode cX6_read 24 = .ok (.invokevirtual 35, 3) := by decide +kernel
theorem dX6_read_27 : decode cX6_read 27 = .ok (.iconst 0, 1) := by decide +kernel
theorem dX6_read_28 : decode cX6_read 28 = .ok (.istore_n 3, 1) := by decide +kernel
theorem dX6_read_29 : decode cX6_read 29 = .ok (.iload_n 3, 1) := by decide +kernel
theorem dX6_read_30 : decode cX6_read 30 = .ok (.bipush 14, 2) := by decide +kernel
theorem dX6_read_32 : decode cX6_read 32 = .ok (.if_icmp .gt 55, 3) := by decide +kernel
theorem dX6_read_35 : decode cX6_read 35 = .ok (.aload_n 0, 1) := by decide +kernel
theorem dX6_read_36 : decode cX6_read 36 = .ok (.aload_n 2, 1) := by decide +kernel
theorem dX6_read_37 : decode cX6_read 37 = .ok (.invokevirtual 38, 3) := by decide +kernel
theorem dX6_read_40 : decode cX6_read 40 = .ok (.ifCond .ne 8, 3) := by decide +kernel
theorem dX6_read_43 : decode cX6_read 43 = .ok (.aload_n 0, 1) := by decide +kernel
theorem dX6_read_44 : decode cX6_read 44 = .ok (.getfield 32, 3) := by decide +kernel
theorem dX6_read_47 : decode cX6_read 47 = .ok (.ireturn, 1) := by decide +kernel
theorem dX6_read_48 : decode cX6_read 48 = .ok (.aload_n 0, 1) := by decide +kernel
theorem dX6_read_49 : decode cX6_read 49 = .ok (.getfield 22, 3) := by decide +kernel
theorem dX6_read_52 : decode cX6_read 52 = .ok (.aload_n 0, 1) := by decide +kernel
theorem dX6_read_53 : decode cX6_read 53 = .ok (.getfield 26, 3) := by decide +kernel
theorem dX6_read_56 : decode cX6_read 56 = .ok (.if_icmp .lt 11, 3) := by decide +kernel
theorem dX6_read_59 : decode cX6_read 59 = .ok (.aload_n 0, 1) := by decide +kernel
theorem dX6_read_60 : decode cX6_read 60 = .ok (.getfield 12, 3) := by decide +kernel
theorem dX6_read_63 : decode cX6_read 63 = .ok (.getfield 42, 3) := by decide +kernel
theorem dX6_read_66 : decode cX6_read 66 = .ok (.ireturn, 1) := by decide +kernel
theorem dX6_read_67 : decode cX6_read 67 = .ok (.aload_n 0, 1) := by decide +kernel
theorem dX6_read_68 : decode cX6_read 68 = .ok (.bipush 59, 2) := by decide +kernel
theorem dX6_read_70 : decode cX6_read 70 = .ok (.invokevirtual 45, 3) := by decide +kernel
theorem dX6_read_73 : decode cX6_read 73 = .ok (.ifCond .ne 8, 3) := by decide +kernel
theorem dX6_read_76 : decode cX6_read 76 = .ok (.aload_n 0, 1) := by decide +kernel
theorem dX6_read_77 : decode cX6_read 77 = .ok (.getfield 32, 3) := by decide +kernel
theorem dX6_read_80 : decode cX6_read 80 = .ok (.ireturn, 1) := by decide +kernel
theorem dX6_read_81 : decode cX6_read 81 = .ok (.iinc 3 1, 3) := by decide +kernel
theorem dX6_read_84 : decode cX6_read 84 = .ok (.goto (-55), 3) := by decide +kernel
theorem dX6_read_87 : decode cX6_read 87 = .ok (.aload_n 0, 1) := by decide +kernel
theorem dX6_read_88 : decode cX6_read 88 = .ok (.getfield 32, 3) := by decide +kernel
theorem dX6_read_91 : decode cX6_read 91 = .ok (.ireturn, 1) := by decide +kernel
set_option maxRecDepth 100000 in
def f_r_read (x1 : Int) (k2 : Nat) (V : Nat → Nat → Int) (J : Nat → Nat → Int) (Rr : Nat → Nat → Nat) : (Int × (Nat → Nat → Int)) → Prop :=
  rdb (up2 V 72 2 0) fun V1 => rdb (up2 V1 72 3 x1) fun V2 => rdb (up2 V2 72 4 0) fun V3 => rdb (up2 V3 72 5 0) fun V4 => rdb (Rr 72 1) fun t5 => calUX (fun i k : Nat => (t5 ≤ i ∧ i ≤ t5 + 4)) V4 (f_r_empty t5 V4 J Rr) fun V6 => lop2 (17) (fun rc84 (z82 : Int) (V84 : Nat → Nat → Int) => (if 14 < z82 then rdb (V84 72 5) fun z99 => rtn (z99, V84) else calVX (fun i k : Nat => (72 ≤ i ∧ i ≤ 72) ∨ (Rr 72 1 ≤ i ∧ i ≤ Rr 72 1 + 4)) V84 (f_r_clause k2 V84 J Rr) fun z100 V100 => fct (0 ≤ z100 ∧ z100 ≤ 1) <| (if ¬ z100 = 0 then rdb (V100 72 2) fun z103 => rdb (V100 72 3) fun z104 => (if z103 < z104 then calVX (fun i k : Nat => (72 ≤ i ∧ i ≤ 72)) V100 (f_r_sign 59 V100 J Rr) fun z106 V106 => fct (0 ≤ z106 ∧ z106 ≤ 1) <| (if ¬ z106 = 0 then rc84 (z82 + 1) V106 else rdb (V106 72 5) fun z108 => rtn (z108, V106)) else rdb (V100 t5 5) fun z109 => fct (0 ≤ z109 ∧ z109 ≤ 14) <| rtn (z109, V100)) else rdb (V100 72 5) fun z110 => rtn (z110, V100)))) 0 V6
set_option maxHeartbeats 8000000 in
set_option maxRecDepth 100000 in
theorem r_read (l : Launch) (D : va_G) (cy : Nat → ClassId) (aK aV : Nat → Nat) (ad : Nat → Nat) (G : Nat → Nat → Int) (V J : Nat → Nat → Int) (Rr : Nat → Nat → Nat) (hI : XI G V) (hJ : VJ J) (hR : XR Rr) (x1 : Int) (bx1 : -2147483648 ≤ x1 ∧ x1 ≤ 2147483647) (k2 : Nat) (hk2 : k2 < 3) : zMiS l D (xTY cy) aK aV yX6_read cX6_read 4 (some .int) 56 1210 0 0 [.ref (ad 72), vI x1, .ref (aK k2)] (XW cy ad V J Rr) (fun u : Nat → Nat → Int => XW cy ad u J Rr) (fun a (u : Nat → Nat → Int) => XI G u ∧ FB (fun i k : Nat => (72 ≤ i ∧ i ≤ 72) ∨ (Rr 72 1 ≤ i ∧ i ≤ Rr 72 1 + 4)) V u ∧ (f_r_read x1 k2 V J Rr) (a, u)) := by
  refine zMiS.mk (lv0 := [(0, .ref (ad 72)), (1, vI x1), (2, .ref (aK k2))]) (by decide) rfl (Nat.le_of_ble_eq_true rfl) (fun p e s m below meth c A C hr hnm hAe hE => ?_)
  have C : xC2 p s m _ meth c D A s.heap 4 cX6_read RX6 (xTY cy) := C
  have hB : FB (fun i k : Nat => (72 ≤ i ∧ i ≤ 72) ∨ (Rr 72 1 ≤ i ∧ i ≤ Rr 72 1 + 4)) V V := FB.rf _ _
  have hF := Imp.of_eq (f_r_read.eq_def x1 k2 V J Rr)
  refine x_aload_n C.1 dX6_read_0 0 rfl ?_
  refine x_iconst C.1 (n := 0) dX6_read_1 ?_
  refine x_putI C (N := 129) (i := 72) (by decide) rfl vc_X6 wx_X6 2 (by decide) wf_X6_22 tyX6 tyX6_ok nmX6 rfl (tyX6_ok 2 (by decide)) rfl dX6_read_2 rfl rfl ?_
  refine x_gV ?_
  intro V1 hV1
  have hI1 : XI G V1 := hI.up hV1 rfl (by decide) rfl
  have hB1 := hB.up hV1 (Or.inl (⟨by decide, by decide⟩))
  replace hF := hF.to (rdb_e (z := V1) hV1.symm)
  refine x_aload_n C.1 dX6_read_5 0 rfl ?_
  refine x_iload_n C.1 dX6_read_6 1 rfl ?_
  refine x_putI C (N := 129) (i := 72) (by decide) rfl vc_X6 wx_X6 3 (by decide) wf_X6_26 tyX6 tyX6_ok nmX6 rfl (tyX6_ok 3 (by decide)) rfl dX6_read_7 rfl rfl ?_
  refine x_gV ?_
  intro V2 hV2
  have hI2 : XI G V2 := hI1.up hV2 rfl (by omega) rfl
  have hB2 := hB1.up hV2 (Or.inl (⟨by decide, by decide⟩))
  replace hF := hF.to (rdb_e (z := V2) hV2.symm)
  refine x_aload_n C.1 dX6_read_10 0 rfl ?_
  refine x_iconst C.1 (n := 0) dX6_read_11 ?_
  refine x_putI C (N := 129) (i := 72) (by decide) rfl vc_X6 wx_X6 4 (by decide) wf_X6_29 tyX6 tyX6_ok nmX6 rfl (tyX6_ok 4 (by decide)) rfl dX6_read_12 rfl rfl ?_
  refine x_gV ?_
  intro V3 hV3
  have hI3 : XI G V3 := hI2.up hV3 rfl (by decide) rfl
  have hB3 := hB2.up hV3 (Or.inl (⟨by decide, by decide⟩))
  replace hF := hF.to (rdb_e (z := V3) hV3.symm)
  refine x_aload_n C.1 dX6_read_15 0 rfl ?_
  refine x_iconst C.1 (n := 0) dX6_read_16 ?_
  refine x_putI C (N := 129) (i := 72) (by decide) rfl vc_X6 wx_X6 5 (by decide) wf_X6_32 tyX6 tyX6_ok nmX6 rfl (tyX6_ok 5 (by decide)) rfl dX6_read_17 rfl rfl ?_
  refine x_gV ?_
  intro V4 hV4
  have hI4 : XI G V4 := hI3.up hV4 rfl (by decide) rfl
  have hB4 := hB3.up hV4 (Or.inl (⟨by decide, by decide⟩))
  replace hF := hF.to (rdb_e (z := V4) hV4.symm)
  refine x_aload_n C.1 dX6_read_20 0 rfl ?_
  obtain ⟨t5, et5, ht5⟩ := XR.into hR
  replace hF := hF.to (rdb_e (z := t5) et5)
  refine x_getR C (N := 129) (i := 72) (by decide) rfl vc_X6 wx_X6 1 (by decide) wf_X6_12 rfl dX6_read_21 (a := t5) et5 ?_
  refine x_callVv C (As := []) (rest := []) t5 (xw_at (N := 129) (i := t5) (by omega) (xd_T ht5)) vc_X9 (r_empty l D cy ad G V4 J Rr hI4 hJ hR t5 ht5) (l1 := []) (l2 := []) (List.append_nil _).symm (w2 := fun u : Nat → Nat → Int => XW cy ad u J Rr) (fun _ => List.append_nil _) rfl wm_yX9_empty wn_X9 wl_X6_35 wi_yX9_empty we_yX9_empty hd_yX9_empty rfl ⟨Nat.le_of_ble_eq_true rfl, Nat.le_of_ble_eq_true rfl⟩ (Nat.le_of_ble_eq_true rfl) ⟨Nat.le_of_ble_eq_true rfl, Nat.le_of_ble_eq_true rfl⟩ dX6_read_24 (fun V6 h6 => ?_)
  obtain ⟨hI6, hx6_0, hBc6, hFc6⟩ := h6
  replace hF := calUX_i hF hFc6 hBc6
  have hB6 := hB4.tr hBc6 (fun i k h => (Or.inr (⟨by omega, by omega⟩)))
  refine x_iconst C.1 (n := 0) dX6_read_27 ?_
  refine x_istore_n C.1 (lv' := [(3, vI 0), (0, .ref (ad 72)), (1, vI x1), (2, .ref (aK k2))]) dX6_read_28 (by decide) rfl ?_
  obtain ⟨bd84, hbd84, hF⟩ := lop2_ex hF
  refine x_loop (I := fun x : Int × (Nat → Nat → Int) => match x with | (z82, V84) => (0 ≤ z82 ∧ z82 ≤ 15) ∧ XI G V84 ∧ FB (fun i k : Nat => (72 ≤ i ∧ i ≤ 72) ∨ (Rr 72 1 ≤ i ∧ i ≤ Rr 72 1 + 4)) V V84 ∧ V84 72 4 = 0 ∧ (∃ nf : Nat, (16 - z82).toNat < nf ∧ Imp (lop2 nf bd84 z82 V84) (f_r_read x1 k2 V J Rr))) (μ := fun x : Int × (Nat → Nat → Int) => match x with | (z82, V84) => (16 - z82).toNat) (wsf := fun x : Int × (Nat → Nat → Int) => match x with | (z82, V84) => XW cy ad V84 J Rr) (lvf := fun x : Int × (Nat → Nat → Int) => match x with | (z82, V84) => [(3, vI z82), (0, .ref (ad 72)), (1, vI x1), (2, .ref (aK k2))]) (fun x hI84x ih84 => ?_) (0, V6) ⟨⟨by decide, by decide⟩, hI6, hB6, (hx6_0.trans ((congrFun (congrFun hV4 72) 4).trans ((up2_n _ _ (Or.inr (by decide))).trans ((congrFun (congrFun hV3 72) 4).trans (up2_s _ _ _ _))))), ⟨_, (by omega), hF⟩⟩ rfl rfl
  obtain ⟨z82, V84⟩ := x
  obtain ⟨bz82, hI84, hB84, hk83_0, nf84, hn84, hF⟩ := hI84x
  try dsimp only
  obtain ⟨nf84, rfl⟩ : ∃ mm, nf84 = mm + 1 := ⟨nf84 - 1, (Nat.succ_pred_eq_of_pos (Nat.lt_of_le_of_lt (Nat.zero_le _) hn84)).symm⟩
  replace hF := hF.to (lop2_s hbd84)
  refine x_iload_n C.1 dX6_read_29 0 rfl ?_
  refine x_bipush C.1 (n := 14) dX6_read_30 ?_
  refine x_icmp_gt C.1 (tgt := 87) dX6_read_32 (by decide) (by omega) (by decide) (fun hc98 => ?_) (fun hc98 => ?_)
  · replace hF := hF.to (if_pos hc98)
    refine x_aload_n C.1 dX6_read_87 1 rfl ?_
    obtain ⟨z99, ez99, bz99⟩ := hI84.rd 72 5 (x := -2147483648) (y := 2147483647) rfl
    replace hF := hF.to (rdb_e (z := z99) ez99)
    refine x_getI C (N := 129) (i := 72) (by decide) rfl vc_X6 wx_X6 5 (by decide) wf_X6_32 rfl dX6_read_88 (a := z99) ez99 ?_
    exact x_iret (S := (Nat → Nat → Int)) (post := (fun a (u : Nat → Nat → Int) => XI G u ∧ FB (fun i k : Nat => (72 ≤ i ∧ i ≤ 72) ∨ (Rr 72 1 ≤ i ∧ i ≤ Rr 72 1 + 4)) V u ∧ (f_r_read x1 k2 V J Rr) (a, u))) (w1 := (fun u : Nat → Nat → Int => XW cy ad u J Rr)) (a := z99) C hr rfl dX6_read_91 (by omega) V84 rfl ⟨hI84, hB84, hF _ rfl⟩
  · replace hF := hF.to (if_neg hc98)
    refine x_aload_n C.1 dX6_read_35 1 rfl ?_
    refine x_aload_n C.1 dX6_read_36 3 rfl ?_
    refine x_callViS C hE (As := [.ref (aK k2)]) (rest := []) 72 (xw_at (N := 129) (i := 72) (by decide) rfl) vc_X6 (r_clause l D cy aK aV ad G V84 J Rr hI84 hJ hR k2 hk2 hk83_0) (l1 := []) (l2 := []) (List.append_nil _).symm (w2 := fun u : Nat → Nat → Int => XW cy ad u J Rr) (fun _ => List.append_nil _) rfl wm_yX6_clause wn_X6 wl_X6_38 wi_yX6_clause we_yX6_clause hd_yX6_clause rfl ⟨Nat.le_of_ble_eq_true rfl, Nat.le_of_ble_eq_true rfl⟩ (Nat.le_of_ble_eq_true rfl) ⟨Nat.le_of_ble_eq_true rfl, Nat.le_of_ble_eq_true rfl⟩ dX6_read_37 (fun z100 V100 bz100 h100 => ?_)
    obtain ⟨hI100, bq100, hx100_0, hBc100, hFc100⟩ := h100
    replace hF := calVX_i hF hFc100 hBc100
    replace hF := hF.fc bq100
    have hB100 := hB84.tr hBc100 (fun i k h => (h.elim (fun h => (Or.inl h)) (fun h => (Or.inr (h)))))
    refine x_if_ne C.1 (tgt := 48) dX6_read_40 (by decide) (by omega) (fun hc101 => ?_) (fun hc101 => ?_)
    · replace hF := hF.to (if_pos hc101)
      have hon102 := Sp.on hx100_0 (by omega)
      refine x_aload_n C.1 dX6_read_48 1 rfl ?_
      obtain ⟨z103, ez103, bz103⟩ := hI100.rd 72 2 (x := -2147483648) (y := 2147483647) rfl
      replace hF := hF.to (rdb_e (z := z103) ez103)
      refine x_getI C (N := 129) (i := 72) (by decide) rfl vc_X6 wx_X6 2 (by decide) wf_X6_22 rfl dX6_read_49 (a := z103) ez103 ?_
      refine x_aload_n C.1 dX6_read_52 1 rfl ?_
      obtain ⟨z104, ez104, bz104⟩ := hI100.rd 72 3 (x := -2147483648) (y := 2147483647) rfl
      replace hF := hF.to (rdb_e (z := z104) ez104)
      refine x_getI C (N := 129) (i := 72) (by decide) rfl vc_X6 wx_X6 3 (by decide) wf_X6_26 rfl dX6_read_53 (a := z104) ez104 ?_
      refine x_icmp_lt C.1 (tgt := 67) dX6_read_56 (by decide) (by omega) (by omega) (fun hc105 => ?_) (fun hc105 => ?_)
      · replace hF := hF.to (if_pos hc105)
        refine x_aload_n C.1 dX6_read_67 1 rfl ?_
        refine x_bipush C.1 (n := 59) dX6_read_68 ?_
        refine x_callVi C (As := [vI 59]) (rest := []) 72 (xw_at (N := 129) (i := 72) (by decide) rfl) vc_X6 (r_sign l D cy ad V100 V100 J Rr (XI.toT hI100) hJ hR 59 ⟨by decide, by decide⟩) (l1 := []) (l2 := []) (List.append_nil _).symm (w2 := fun u : Nat → Nat → Int => XW cy ad u J Rr) (fun _ => List.append_nil _) rfl wm_yX6_sign wn_X6 wl_X6_45 wi_yX6_sign we_yX6_sign hd_yX6_sign rfl ⟨Nat.le_of_ble_eq_true rfl, Nat.le_of_ble_eq_true rfl⟩ (Nat.le_of_ble_eq_true rfl) ⟨Nat.le_of_ble_eq_true rfl, Nat.le_of_ble_eq_true rfl⟩ dX6_read_70 (fun z106 V106 bz106 h106 => ?_)
        obtain ⟨hI106, bq106, hx106_0, hBc106, hFc106⟩ := h106
        replace hF := calVX_i hF hFc106 hBc106
        replace hF := hF.fc bq106
        have hB106 := hB100.tr hBc106 (fun i k h => (Or.inl h))
        have hI106c := TI.back hI100 hI106
        refine x_if_ne C.1 (tgt := 81) dX6_read_73 (by decide) (by omega) (fun hc107 => ?_) (fun hc107 => ?_)
        · replace hF := hF.to (if_pos hc107)
          refine x_iinc C.1 (v := z82 + 1) (lv' := [(3, vI (z82 + 1)), (0, .ref (ad 72)), (1, vI x1), (2, .ref (aK k2))]) (by omega) dX6_read_81 0 rfl (by decide) rfl ?_
          refine x_goto C.1 (tgt := 29) dX6_read_84 (by decide) ?_
          have hmu84 : (16 - (z82 + 1)).toNat < (16 - z82).toNat := (by omega)
          exact ih84 (z82 + 1, V106) ⟨⟨by omega, by omega⟩, hI106c, hB106, (hx106_0.trans hon102), ⟨nf84, Nat.lt_of_lt_of_le hmu84 (Nat.le_of_lt_succ hn84), hF⟩⟩ hmu84
        · replace hF := hF.to (if_neg (fun hh => hh hc107))
          refine x_aload_n C.1 dX6_read_76 1 rfl ?_
          obtain ⟨z108, ez108, bz108⟩ := hI106c.rd 72 5 (x := -2147483648) (y := 2147483647) rfl
          replace hF := hF.to (rdb_e (z := z108) ez108)
          refine x_getI C (N := 129) (i := 72) (by decide) rfl vc_X6 wx_X6 5 (by decide) wf_X6_32 rfl dX6_read_77 (a := z108) ez108 ?_
          exact x_iret (S := (Nat → Nat → Int)) (post := (fun a (u : Nat → Nat → Int) => XI G u ∧ FB (fun i k : Nat => (72 ≤ i ∧ i ≤ 72) ∨ (Rr 72 1 ≤ i ∧ i ≤ Rr 72 1 + 4)) V u ∧ (f_r_read x1 k2 V J Rr) (a, u))) (w1 := (fun u : Nat → Nat → Int => XW cy ad u J Rr)) (a := z108) C hr rfl dX6_read_80 (by omega) V106 rfl ⟨hI106c, hB106, hF _ rfl⟩
      · replace hF := hF.to (if_neg hc105)
        refine x_aload_n C.1 dX6_read_59 1 rfl ?_
        refine x_getR C (N := 129) (i := 72) (by decide) rfl vc_X6 wx_X6 1 (by decide) wf_X6_12 rfl dX6_read_60 (a := t5) et5 ?_
        obtain ⟨z109, ez109, bz109⟩ := hI100.rd t5 5 (x := 0) (y := 14) (rg_T ht5 5)
        replace hF := hF.to (rdb_e (z := z109) ez109)
        replace hF := hF.fc bz109
        refine x_getI C (N := 129) (i := t5) (by omega) (xd_T ht5) vc_X9 wx_X9 5 (by decide) wf_X6_42 rfl dX6_read_63 (a := z109) ez109 ?_
        exact x_iret (S := (Nat → Nat → Int)) (post := (fun a (u : Nat → Nat → Int) => XI G u ∧ FB (fun i k : Nat => (72 ≤ i ∧ i ≤ 72) ∨ (Rr 72 1 ≤ i ∧ i ≤ Rr 72 1 + 4)) V u ∧ (f_r_read x1 k2 V J Rr) (a, u))) (w1 := (fun u : Nat → Nat → Int => XW cy ad u J Rr)) (a := z109) C hr rfl dX6_read_66 (by omega) V100 rfl ⟨hI100, hB100, hF _ rfl⟩
    · replace hF := hF.to (if_neg (fun hh => hh hc101))
      refine x_aload_n C.1 dX6_read_43 1 rfl ?_
      obtain ⟨z110, ez110, bz110⟩ := hI100.rd 72 5 (x := -2147483648) (y := 2147483647) rfl
      replace hF := hF.to (rdb_e (z := z110) ez110)
      refine x_getI C (N := 129) (i := 72) (by decide) rfl vc_X6 wx_X6 5 (by decide) wf_X6_32 rfl dX6_read_44 (a := z110) ez110 ?_
      exact x_iret (S := (Nat → Nat → Int)) (post := (fun a (u : Nat → Nat → Int) => XI G u ∧ FB (fun i k : Nat => (72 ≤ i ∧ i ≤ 72) ∨ (Rr 72 1 ≤ i ∧ i ≤ Rr 72 1 + 4)) V u ∧ (f_r_read x1 k2 V J Rr) (a, u))) (w1 := (fun u : Nat → Nat → Int => XW cy ad u J Rr)) (a := z110) C hr rfl dX6_read_47 (by omega) V100 rfl ⟨hI100, hB100, hF _ rfl⟩
theorem dX6_swap_0 : decode cX6_swap 0 = .ok (.aload_n 0, 1) := by decide +kernel
theorem dX6_swap_1 : decode cX6_swap 1 = .ok (.getfield 12, 3) := by decide +kernel
theorem dX6_swap_4 : decode cX6_swap 4 = .ok (.astore_n 2, 1) := by decide +kernel
theorem dX6_swap_5 : decode cX6_swap 5 = .ok (.aload_n 0, 1) := by decide +kernel
theorem dX6_swap_6 : decode cX6_swap 6 = .ok (.aload_n 1, 1) := by decide +kernel
theorem dX6_swap_7 : decode cX6_swap 7 = .ok (.putfield 12, 3) := by decide +kernel
theorem dX6_swap_10 : decode cX6_swap 10 = .ok (.aload_n 2, 1) := by decide +kernel
theorem dX6_swap_11 : decode cX6_swap 11 = .ok (.areturn, 1) := by decide +kernel
set_option maxRecDepth 100000 in
def f_r_swap (k1 : Nat) (V : Nat → Nat → Int) (J : Nat → Nat → Int) (Rr : Nat → Nat → Nat) : (Nat × xS) → Prop :=
  rdb (Rr 72 1) fun t1 => rdb (up2 Rr 72 1 k1) fun R2 => rtn (t1, (V, J, R2))
set_option maxHeartbeats 8000000 in
set_option maxRecDepth 100000 in
theorem r_swap (l : Launch) (D : va_G) (cy : Nat → ClassId) (ad : Nat → Nat) (G : Nat → Nat → Int) (V J : Nat → Nat → Int) (Rr : Nat → Nat → Nat) (hI : XI G V) (hJ : VJ J) (hR : XR Rr) (k1 : Nat) (hk1 : isTx k1) : zMr l D (xTY cy) ad yX6_swap cX6_swap 3 (some (.object "LandingTree$Text")) 0 0 0 0 [.ref (ad 72), .ref (ad k1)] (XW cy ad V J Rr) (fun u : xS => XW cy ad u.1 u.2.1 u.2.2) (fun a (u : xS) => XS G u ∧ isTx a ∧ FB (fun _ _ => False) V u.1 ∧ (f_r_swap k1 V J Rr) (a, u)) := by
  refine zMr.mk (lv0 := [(0, .ref (ad 72)), (1, .ref (ad k1))]) (by decide) rfl (Nat.le_of_ble_eq_true rfl) (fun p e s m below meth c A C hr hnm hAe => ?_)
  have C : xC2 p s m _ meth c D A s.heap 3 cX6_swap RX6 (xTY cy) := C
  have hB : FB (fun _ _ => False) V V := FB.rf _ _
  have hF := Imp.of_eq (f_r_swap.eq_def k1 V J Rr)
  refine x_aload_n C.1 dX6_swap_0 0 rfl ?_
  obtain ⟨t1, et1, ht1⟩ := XR.into hR
  replace hF := hF.to (rdb_e (z := t1) et1)
  refine x_getR C (N := 129) (i := 72) (by decide) rfl vc_X6 wx_X6 1 (by decide) wf_X6_12 rfl dX6_swap_1 (a := t1) et1 ?_
  refine x_astore_n C.1 (lv' := [(2, .ref (ad t1)), (0, .ref (ad 72)), (1, .ref (ad k1))]) dX6_swap_4 (by decide) rfl ?_
  refine x_aload_n C.1 dX6_swap_5 1 rfl ?_
  refine x_aload_n C.1 dX6_swap_6 2 rfl ?_
  refine x_putR C (N := 129) (i := 72) (by decide) rfl vc_X6 wx_X6 1 (by decide) wf_X6_12 tyX6 tyX6_ok nmX6 rfl (tyX6_ok 1 (by decide)) rfl dX6_swap_7 rfl rfl ?_
  refine x_gR ?_
  intro R2 hRe2
  have hR2 : XR R2 := hR.up hRe2 (rf_into hk1)
  replace hF := hF.to (rdb_e (z := R2) hRe2.symm)
  refine x_aload_n C.1 dX6_swap_10 0 rfl ?_
  exact x_aret (S := xS) (post := (fun a (u : xS) => XS G u ∧ isTx a ∧ FB (fun _ _ => False) V u.1 ∧ (f_r_swap k1 V J Rr) (a, u))) (w1 := (fun u : xS => XW cy ad u.1 u.2.1 u.2.2)) (a := t1) C hr rfl dX6_swap_11 (V, J, R2) rfl ⟨⟨hI, hJ, hR2⟩, ht1, hB, hF _ rfl⟩
theorem hd_yX6_read : yX6_read.cls ≠ "java/lang/invoke/MethodHandle" ∧ yX6_read.cls ≠ "java/lang/invoke/VarHandle" ∧ (parseMethodDescriptor yX6_read.desc).map (fun d => d.parameters.length) = some 2 := by decide +kernel
theorem hd_yX6_swap : yX6_swap.cls ≠ "java/lang/invoke/MethodHandle" ∧ yX6_swap.cls ≠ "java/lang/invoke/VarHandle" ∧ (parseMethodDescriptor yX6_swap.desc).map (fun d => d.parameters.length) = some 1 := by decide +kernel
theorem dX1_writeLaw_0 : decode cX1_writeLaw 0 = .ok (.aload_n 0, 1) := by decide +kernel
theorem dX1_writeLaw_1 : decode cX1_writeLaw 1 = .ok (.getfield 41, 3) := by decide +kernel
theorem dX1_writeLaw_4 : decode cX1_writeLaw 4 = .ok (.iload_n 1, 1) := by decide +kernel
theorem dX1_writeLaw_5 : decode cX1_writeLaw 5 = .ok (.ldc 45, 2) := by decide +kernel
theorem dX1_writeLaw_7 : decode cX1_writeLaw 7 = .ok (.invokevirtual 47, 3) := by decide +kernel
theorem dX1_writeLaw_10 : decode cX1_writeLaw 10 = .ok (.istore_n 2, 1) := by decide +kernel
theorem dX1_writeLaw_11 : decode cX1_writeLaw 11 = .ok (.iload_n 2, 1) := by decide +kernel
theorem dX1_writeLaw_12 : decode cX1_writeLaw 12 = .ok (.ifCond .le 18, 3) := by decide +kernel
theorem dX1_writeLaw_15 : decode cX1_writeLaw 15 = .ok (.aload_n 0, 1) := by decide +kernel
theorem dX1_writeLaw_16 : decode cX1_writeLaw 16 = .ok (.aload_n 0, 1) := by decide +kernel
theorem dX1_writeLaw_17 : decode cX1_writeLaw 17 = .ok (.getfield 41, 3) := by decide +kernel
theorem dX1_writeLaw_20 : decode cX1_writeLaw 20 = .ok (.aload_n 0, 1) := by decide +kernel
theorem dX1_writeLaw_21 : decode cX1_writeLaw 21 = .ok (.getfield 12, 3) := by decide +kernel
theorem dX1_writeLaw_24 : decode cX1_writeLaw 24 = .ok (.invokevirtual 51, 3) := by decide +kernel
theorem dX1_writeLaw_27 : decode cX1_writeLaw 27 = .ok (.putfield 12, 3) := by decide +kernel
theorem dX1_writeLaw_30 : decode cX1_writeLaw 30 = .ok (.iload_n 2, 1) := by decide +kernel
theorem dX1_writeLaw_31 : decode cX1_writeLaw 31 = .ok (.ireturn, 1) := by decide +kernel
set_option maxRecDepth 100000 in
def f_b_writeLaw (x1 : Int) (V : Nat → Nat → Int) (J : Nat → Nat → Int) (Rr : Nat → Nat → Nat) : (Int × xS) → Prop :=
  calVX (fun i k : Nat => (72 ≤ i ∧ i ≤ 72) ∨ (Rr 72 1 ≤ i ∧ i ≤ Rr 72 1 + 4)) V (f_r_read x1 0 V J Rr) fun z1 V1 => (if z1 ≤ 0 then rtn (z1, (V1, J, Rr)) else rdb (Rr 60 0) fun t3 => calSX (fun _ _ => False) V1 (f_r_swap t3 V1 J Rr) fun z4 V4 J4 R4 => rdb (up2 R4 60 0 z4) fun R5 => rtn (z1, (V4, J4, R5)))
set_option maxHeartbeats 8000000 in
set_option maxRecDepth 100000 in
theorem b_writeLaw (l : Launch) (D : va_G) (cy : Nat → ClassId) (aK aV : Nat → Nat) (ad : Nat → Nat) (G : Nat → Nat → Int) (V J : Nat → Nat → Int) (Rr : Nat → Nat → Nat) (hI : XI G V) (hJ : VJ J) (hR : XR Rr) (x1 : Int) (bx1 : -2147483648 ≤ x1 ∧ x1 ≤ 2147483647) : zMiS l D (xTY cy) aK aV yX1_writeLaw cX1_writeLaw 3 (some .int) 57 1233 0 0 [.ref (ad 60), vI x1] (XW cy ad V J Rr) (fun u : xS => XW cy ad u.1 u.2.1 u.2.2) (fun a (u : xS) => XS G u ∧ FB (fun i k : Nat => (72 ≤ i ∧ i ≤ 72) ∨ (Rr 72 1 ≤ i ∧ i ≤ Rr 72 1 + 4)) V u.1 ∧ (f_b_writeLaw x1 V J Rr) (a, u)) := by
  refine zMiS.mk (lv0 := [(0, .ref (ad 60)), (1, vI x1)]) (by decide) rfl (Nat.le_of_ble_eq_true rfl) (fun p e s m below meth c A C hr hnm hAe hE => ?_)
  have C : xC2 p s m _ meth c D A s.heap 3 cX1_writeLaw RX1 (xTY cy) := C
  have hB : FB (fun i k : Nat => (72 ≤ i ∧ i ≤ 72) ∨ (Rr 72 1 ≤ i ∧ i ≤ Rr 72 1 + 4)) V V := FB.rf _ _
  have hF := Imp.of_eq (f_b_writeLaw.eq_def x1 V J Rr)
  refine x_aload_n C.1 dX1_writeLaw_0 0 rfl ?_
  refine x_getA C (N := 129) (i := 60) (by decide) rfl vc_X1 wx_X1 5 (by decide) wf_X1_41 (a := 72) rfl dX1_writeLaw_1 ?_
  refine x_iload_n C.1 dX1_writeLaw_4 1 rfl ?_
  refine x_ldcS C hE.2.2.1 dX1_writeLaw_5 ?_
  refine x_callViS C hE (As := [vI x1, .ref (aK 0)]) (rest := []) 72 (xw_at (N := 129) (i := 72) (by decide) rfl) vc_X6 (r_read l D cy aK aV ad G V J Rr hI hJ hR x1 ⟨by omega, by omega⟩ 0 (by decide)) (l1 := []) (l2 := []) (List.append_nil _).symm (w2 := fun u : Nat → Nat → Int => XW cy ad u J Rr) (fun _ => List.append_nil _) rfl wm_yX6_read wn_X6 wl_X1_47 wi_yX6_read we_yX6_read hd_yX6_read rfl ⟨Nat.le_of_ble_eq_true rfl, Nat.le_of_ble_eq_true rfl⟩ (Nat.le_of_ble_eq_true rfl) ⟨Nat.le_of_ble_eq_true rfl, Nat.le_of_ble_eq_true rfl⟩ dX1_writeLaw_7 (fun z1 V1 bz1 h1 => ?_)
  obtain ⟨hI1, hBc1, hFc1⟩ := h1
  replace hF := calVX_i hF hFc1 hBc1
  have hB1 := hB.tr hBc1 (fun i k h => (h.elim (fun h => (Or.inl h)) (fun h => (Or.inr (h)))))
  refine x_istore_n C.1 (lv' := [(2, vI z1), (0, .ref (ad 60)), (1, vI x1)]) dX1_writeLaw_10 (by decide) rfl ?_
  refine x_iload_n C.1 dX1_writeLaw_11 0 rfl ?_
  refine x_if_le C.1 (tgt := 30) dX1_writeLaw_12 (by decide) (by omega) (fun hc2 => ?_) (fun hc2 => ?_)
  · replace hF := hF.to (if_pos hc2)
    refine x_iload_n C.1 dX1_writeLaw_30 0 rfl ?_
    exact x_iret (S := xS) (post := (fun a (u : xS) => XS G u ∧ FB (fun i k : Nat => (72 ≤ i ∧ i ≤ 72) ∨ (Rr 72 1 ≤ i ∧ i ≤ Rr 72 1 + 4)) V u.1 ∧ (f_b_writeLaw x1 V J Rr) (a, u))) (w1 := (fun u : xS => XW cy ad u.1 u.2.1 u.2.2)) (a := z1) C hr rfl dX1_writeLaw_31 (by omega) (V1, J, Rr) rfl ⟨⟨hI1, hJ, hR⟩, hB1, hF _ rfl⟩
  · replace hF := hF.to (if_neg hc2)
    refine x_aload_n C.1 dX1_writeLaw_15 1 rfl ?_
    refine x_aload_n C.1 dX1_writeLaw_16 1 rfl ?_
    refine x_getA C (N := 129) (i := 60) (by decide) rfl vc_X1 wx_X1 5 (by decide) wf_X1_41 (a := 72) rfl dX1_writeLaw_17 ?_
    refine x_aload_n C.1 dX1_writeLaw_20 1 rfl ?_
    obtain ⟨t3, et3, ht3⟩ := XR.law hR
    replace hF := hF.to (rdb_e (z := t3) et3)
    refine x_getR C (N := 129) (i := 60) (by decide) rfl vc_X1 wx_X1 0 (by decide) wf_X1_12 rfl dX1_writeLaw_21 (a := t3) et3 ?_
    refine x_callVr C (As := [.ref (ad t3)]) (rest := [.ref (ad 60)]) 72 (xw_at (N := 129) (i := 72) (by decide) rfl) vc_X6 (r_swap l D cy ad G V1 J Rr hI1 hJ hR t3 ht3) (l1 := []) (l2 := []) (List.append_nil _).symm (w2 := fun u : xS => XW cy ad u.1 u.2.1 u.2.2) (fun _ => List.append_nil _) rfl wm_yX6_swap wn_X6 wl_X1_51 wi_yX6_swap we_yX6_swap hd_yX6_swap rfl ⟨Nat.le_of_ble_eq_true rfl, Nat.le_of_ble_eq_true rfl⟩ (Nat.le_of_ble_eq_true rfl) ⟨Nat.le_of_ble_eq_true rfl, Nat.le_of_ble_eq_true rfl⟩ dX1_writeLaw_24 (fun z4 u4 h4 => ?_)
    obtain ⟨V4, J4, R4⟩ := u4
    obtain ⟨hS4, hx4_0, hBc4, hFc4⟩ := h4
    replace hF := calSX_i hF hFc4 hBc4
    have hB4 := hB1.tr hBc4 (fun _ _ h => h.elim)
    obtain ⟨hI4, hJ4, hR4⟩ := hS4
    dsimp only at hI4 hJ4 hR4 ⊢
    refine x_putR C (N := 129) (i := 60) (by decide) rfl vc_X1 wx_X1 0 (by decide) wf_X1_12 tyX1 tyX1_ok nmX1 rfl (tyX1_ok 0 (by decide)) rfl dX1_writeLaw_27 rfl rfl ?_
    refine x_gR ?_
    intro R5 hRe5
    have hR5 : XR R5 := hR4.up hRe5 (rf_law hx4_0)
    replace hF := hF.to (rdb_e (z := R5) hRe5.symm)
    refine x_iload_n C.1 dX1_writeLaw_30 0 rfl ?_
    exact x_iret (S := xS) (post := (fun a (u : xS) => XS G u ∧ FB (fun i k : Nat => (72 ≤ i ∧ i ≤ 72) ∨ (Rr 72 1 ≤ i ∧ i ≤ Rr 72 1 + 4)) V u.1 ∧ (f_b_writeLaw x1 V J Rr) (a, u))) (w1 := (fun u : xS => XW cy ad u.1 u.2.1 u.2.2)) (a := z1) C hr rfl dX1_writeLaw_31 (by omega) (V4, J4, R5) rfl ⟨⟨hI4, hJ4, hR5⟩, hB4, hF _ rfl⟩
theorem dX1_writeRule_0 : decode cX1_writeRule 0 = .ok (.aload_n 0, 1) := by decide +kernel
theorem dX1_writeRule_1 : decode cX1_writeRule 1 = .ok (.getfield 41, 3) := by decide +kernel
theorem dX1_writeRule_4 : decode cX1_writeRule 4 = .ok (.iload_n 2, 1) := by decide +kernel
theorem dX1_writeRule_5 : decode cX1_writeRule 5 = .ok (.ldc 55, 2) := by decide +kernel
theorem dX1_writeRule_7 : decode cX1_writeRule 7 = .ok (.invokevirtual 47, 3) := by decide +kernel
theorem dX1_writeRule_10 : decode cX1_writeRule 10 = .ok (.istore_n 3, 1) := by decide +kernel
theorem dX1_writeRule_11 : decode cX1_writeRule 11 = .ok (.iload_n 3, 1) := by decide +kernel
theorem dX1_writeRule_12 : decode cX1_writeRule 12 = .ok (.ifCond .le 22, 3) := by decide +kernel
theorem dX1_writeRule_15 : decode cX1_writeRule 15 = .ok (.aload_n 0, 1) := by decide +kernel
theorem dX1_writeRule_16 : decode cX1_writeRule 16 = .ok (.getfield 18, 3) := by decide +kernel
theorem dX1_writeRule_19 : decode cX1_writeRule 19 = .ok (.iload_n 1, 1) := by decide +kernel
theorem dX1_writeRule_20 : decode cX1_writeRule 20 = .ok (.aload_n 0, 1) := by decide +kernel
theorem dX1_writeRule_21 : decode cX1_writeRule 21 = .ok (.getfield 41, 3) := by decide +kernel
theorem dX1_writeRule_24 : decode cX1_writeRule 24 = .ok (.aload_n 0, 1) := by decide +kernel
theorem dX1_writeRule_25 : decode cX1_writeRule 25 = .ok (.getfield 18, 3) := by decide +kernel
theorem dX1_writeRule_28 : decode cX1_writeRule 28 = .ok (.iload_n 1, 1) := by decide +kernel
theorem dX1_writeRule_29 : decode cX1_writeRule 29 = .ok (.aaload, 1) := by decide +kernel
theorem dX1_writeRule_30 : decode cX1_writeRule 30 = .ok (.invokevirtual 51, 3) := by decide +kernel
theorem dX1_writeRule_33 : decode cX1_writeRule 33 = .ok (.aastore, 1) := by decide +kernel
theorem dX1_writeRule_34 : decode cX1_writeRule 34 = .ok (.iload_n 3, 1) := by decide +kernel
theorem dX1_writeRule_35 : decode cX1_writeRule 35 = .ok (.ireturn, 1) := by decide +kernel
set_option maxRecDepth 100000 in
def f_b_writeRule (x1 : Int) (x2 : Int) (V : Nat → Nat → Int) (J : Nat → Nat → Int) (Rr : Nat → Nat → Nat) : (Int × xS) → Prop :=
  calVX (fun i k : Nat => (72 ≤ i ∧ i ≤ 72) ∨ (Rr 72 1 ≤ i ∧ i ≤ Rr 72 1 + 4)) V (f_r_read x2 2 V J Rr) fun z1 V1 => (if z1 ≤ 0 then rtn (z1, (V1, J, Rr)) else rdb (Rr 66 x1.toNat) fun t3 => calSX (fun _ _ => False) V1 (f_r_swap t3 V1 J Rr) fun z4 V4 J4 R4 => rdb (up2 R4 66 x1.toNat z4) fun R5 => rtn (z1, (V4, J4, R5)))
set_option maxHeartbeats 8000000 in
set_option maxRecDepth 100000 in
theorem b_writeRule (l : Launch) (D : va_G) (cy : Nat → ClassId) (aK aV : Nat → Nat) (ad : Nat → Nat) (G : Nat → Nat → Int) (V J : Nat → Nat → Int) (Rr : Nat → Nat → Nat) (hI : XI G V) (hJ : VJ J) (hR : XR Rr) (x1 : Int) (bx1 : 0 ≤ x1 ∧ x1 ≤ 3) (x2 : Int) (bx2 : -2147483648 ≤ x2 ∧ x2 ≤ 2147483647) : zMiS l D (xTY cy) aK aV yX1_writeRule cX1_writeRule 4 (some .int) 57 1233 0 0 [.ref (ad 60), vI x1, vI x2] (XW cy ad V J Rr) (fun u : xS => XW cy ad u.1 u.2.1 u.2.2) (fun a (u : xS) => XS G u ∧ FB (fun i k : Nat => (72 ≤ i ∧ i ≤ 72) ∨ (Rr 72 1 ≤ i ∧ i ≤ Rr 72 1 + 4)) V u.1 ∧ (f_b_writeRule x1 x2 V J Rr) (a, u)) := by
  refine zMiS.mk (lv0 := [(0, .ref (ad 60)), (1, vI x1), (2, vI x2)]) (by decide) rfl (Nat.le_of_ble_eq_true rfl) (fun p e s m below meth c A C hr hnm hAe hE => ?_)
  have C : xC2 p s m _ meth c D A s.heap 4 cX1_writeRule RX1 (xTY cy) := C
  have hB : FB (fun i k : Nat => (72 ≤ i ∧ i ≤ 72) ∨ (Rr 72 1 ≤ i ∧ i ≤ Rr 72 1 + 4)) V V := FB.rf _ _
  have hF := Imp.of_eq (f_b_writeRule.eq_def x1 x2 V J Rr)
  refine x_aload_n C.1 dX1_writeRule_0 0 rfl ?_
  refine x_getA C (N := 129) (i := 60) (by decide) rfl vc_X1 wx_X1 5 (by decide) wf_X1_41 (a := 72) rfl dX1_writeRule_1 ?_
  refine x_iload_n C.1 dX1_writeRule_4 2 rfl ?_
  refine x_ldcS C hE.2.2.2.2 dX1_writeRule_5 ?_
  refine x_callViS C hE (As := [vI x2, .ref (aK 2)]) (rest := []) 72 (xw_at (N := 129) (i := 72) (by decide) rfl) vc_X6 (r_read l D cy aK aV ad G V J Rr hI hJ hR x2 ⟨by omega, by omega⟩ 2 (by decide)) (l1 := []) (l2 := []) (List.append_nil _).symm (w2 := fun u : Nat → Nat → Int => XW cy ad u J Rr) (fun _ => List.append_nil _) rfl wm_yX6_read wn_X6 wl_X1_47 wi_yX6_read we_yX6_read hd_yX6_read rfl ⟨Nat.le_of_ble_eq_true rfl, Nat.le_of_ble_eq_true rfl⟩ (Nat.le_of_ble_eq_true rfl) ⟨Nat.le_of_ble_eq_true rfl, Nat.le_of_ble_eq_true rfl⟩ dX1_writeRule_7 (fun z1 V1 bz1 h1 => ?_)
  obtain ⟨hI1, hBc1, hFc1⟩ := h1
  replace hF := calVX_i hF hFc1 hBc1
  have hB1 := hB.tr hBc1 (fun i k h => (h.elim (fun h => (Or.inl h)) (fun h => (Or.inr (h)))))
  refine x_istore_n C.1 (lv' := [(3, vI z1), (0, .ref (ad 60)), (1, vI x1), (2, vI x2)]) dX1_writeRule_10 (by decide) rfl ?_
  refine x_iload_n C.1 dX1_writeRule_11 0 rfl ?_
  refine x_if_le C.1 (tgt := 34) dX1_writeRule_12 (by decide) (by omega) (fun hc2 => ?_) (fun hc2 => ?_)
  · replace hF := hF.to (if_pos hc2)
    refine x_iload_n C.1 dX1_writeRule_34 0 rfl ?_
    exact x_iret (S := xS) (post := (fun a (u : xS) => XS G u ∧ FB (fun i k : Nat => (72 ≤ i ∧ i ≤ 72) ∨ (Rr 72 1 ≤ i ∧ i ≤ Rr 72 1 + 4)) V u.1 ∧ (f_b_writeRule x1 x2 V J Rr) (a, u))) (w1 := (fun u : xS => XW cy ad u.1 u.2.1 u.2.2)) (a := z1) C hr rfl dX1_writeRule_35 (by omega) (V1, J, Rr) rfl ⟨⟨hI1, hJ, hR⟩, hB1, hF _ rfl⟩
  · replace hF := hF.to (if_neg hc2)
    refine x_aload_n C.1 dX1_writeRule_15 1 rfl ?_
    refine x_getA C (N := 129) (i := 60) (by decide) rfl vc_X1 wx_X1 1 (by decide) wf_X1_18 (a := 66) rfl dX1_writeRule_16 ?_
    refine x_iload_n C.1 dX1_writeRule_19 2 rfl ?_
    refine x_aload_n C.1 dX1_writeRule_20 1 rfl ?_
    refine x_getA C (N := 129) (i := 60) (by decide) rfl vc_X1 wx_X1 5 (by decide) wf_X1_41 (a := 72) rfl dX1_writeRule_21 ?_
    refine x_aload_n C.1 dX1_writeRule_24 1 rfl ?_
    refine x_getA C (N := 129) (i := 60) (by decide) rfl vc_X1 wx_X1 1 (by decide) wf_X1_18 (a := 66) rfl dX1_writeRule_25 ?_
    refine x_iload_n C.1 dX1_writeRule_28 2 rfl ?_
    obtain ⟨t3, et3, ht3⟩ := hR.rule (k := x1.toNat) (by omega)
    replace hF := hF.to (rdb_e (z := t3) et3)
    refine x_aldR C (N := 129) (i := 66) (q := x1) (t := 6) rfl (by decide) rfl (by omega) (by decide) dX1_writeRule_29 (a := t3) et3 ?_
    refine x_callVr C (As := [.ref (ad t3)]) (rest := [vI x1, .ref (ad 66)]) 72 (xw_at (N := 129) (i := 72) (by decide) rfl) vc_X6 (r_swap l D cy ad G V1 J Rr hI1 hJ hR t3 ht3) (l1 := []) (l2 := []) (List.append_nil _).symm (w2 := fun u : xS => XW cy ad u.1 u.2.1 u.2.2) (fun _ => List.append_nil _) rfl wm_yX6_swap wn_X6 wl_X1_51 wi_yX6_swap we_yX6_swap hd_yX6_swap rfl ⟨Nat.le_of_ble_eq_true rfl, Nat.le_of_ble_eq_true rfl⟩ (Nat.le_of_ble_eq_true rfl) ⟨Nat.le_of_ble_eq_true rfl, Nat.le_of_ble_eq_true rfl⟩ dX1_writeRule_30 (fun z4 u4 h4 => ?_)
    obtain ⟨V4, J4, R4⟩ := u4
    obtain ⟨hS4, hx4_0, hBc4, hFc4⟩ := h4
    replace hF := calSX_i hF hFc4 hBc4
    have hB4 := hB1.tr hBc4 (fun _ _ h => h.elim)
    obtain ⟨hI4, hJ4, hR4⟩ := hS4
    dsimp only at hI4 hJ4 hR4 ⊢
    refine x_astR C (N := 129) (i := 66) (j := z4) (q := x1) (t := 6) rfl (by decide) rfl (by omega) (xd_T hx4_0) vc_X9 (by omega) (by decide) dX1_writeRule_33 ?_
    refine x_gR ?_
    intro R5 hRe5
    have hR5 : XR R5 := hR4.up hRe5 (rf_rule hx4_0)
    replace hF := hF.to (rdb_e (z := R5) hRe5.symm)
    refine x_iload_n C.1 dX1_writeRule_34 0 rfl ?_
    exact x_iret (S := xS) (post := (fun a (u : xS) => XS G u ∧ FB (fun i k : Nat => (72 ≤ i ∧ i ≤ 72) ∨ (Rr 72 1 ≤ i ∧ i ≤ Rr 72 1 + 4)) V u.1 ∧ (f_b_writeRule x1 x2 V J Rr) (a, u))) (w1 := (fun u : xS => XW cy ad u.1 u.2.1 u.2.2)) (a := z1) C hr rfl dX1_writeRule_35 (by omega) (V4, J4, R5) rfl ⟨⟨hI4, hJ4, hR5⟩, hB4, hF _ rfl⟩
theorem hd_yX1_writeLaw : yX1_writeLaw.cls ≠ "java/lang/invoke/MethodHandle" ∧ yX1_writeLaw.cls ≠ "java/lang/invoke/VarHandle" ∧ (parseMethodDescriptor yX1_writeLaw.desc).map (fun d => d.parameters.length) = some 1 := by decide +kernel
theorem dX11_law_0 : decode cX11_law 0 = .ok (.iload_n 1, 1) := by decide +kernel
theorem dX11_law_1 : decode cX11_law 1 = .ok (.iconst 1, 1) := by decide +kernel
theorem dX11_law_2 : decode cX11_law 2 = .ok (.sipush 200, 3) := by decide +kernel
theorem dX11_law_5 : decode cX11_law 5 = .ok (.invokestatic 74, 3) := by decide +kernel
theorem dX11_law_8 : decode cX11_law 8 = .ok (.ifCond .eq 14, 3) := by decide +kernel
theorem dX11_law_11 : decode cX11_law 11 = .ok (.iload_n 1, 1) := by decide +kernel
theorem dX11_law_12 : decode cX11_law 12 = .ok (.aload_n 0, 1) := by decide +kernel
theorem dX11_law_13 : decode cX11_law 13 = .ok (.getfield 25, 3) := by decide +kernel
theorem dX11_law_16 : decode cX11_law 16 = .ok (.getfield 120, 3) := by decide +kernel
theorem dX11_law_19 : decode cX11_law 19 = .ok (.if_icmp .le 5, 3) := by decide +kernel
theorem dX11_law_22 : decode cX11_law 22 = .ok (.iconst (-1), 1) := by decide +kernel
theorem dX11_law_23 : decode cX11_law 23 = .ok (.ireturn, 1) := by decide +kernel
theorem dX11_law_24 : decode cX11_law 24 = .ok (.aload_n 0, 1) := by decide +kernel
theorem dX11_law_25 : decode cX11_law 25 = .ok (.getfield 34, 3) := by decide +kernel
theorem dX11_law_28 : decode cX11_law 28 = .ok (.iload_n 1, 1) := by decide +kernel
theorem dX11_law_29 : decode cX11_law 29 = .ok (.invokevirtual 125, 3) := by decide +kernel
theorem dX11_law_32 : decode cX11_law 32 = .ok (.istore_n 2, 1) := by decide +kernel
theorem dX11_law_33 : decode cX11_law 33 = .ok (.aload_n 0, 1) := by decide +kernel
theorem dX11_law_34 : decode cX11_law 34 = .ok (.getfield 25, 3) := by decide +kernel
theorem dX11_law_37 : decode cX11_law 37 = .ok (.iconst 0, 1) := by decide +kernel
theorem dX11_law_38 : decode cX11_law 38 = .ok (.putfield 120, 3) := by decide +kernel
theorem dX11_law_41 : decode cX11_law 41 = .ok (.iload_n 2, 1) := by decide +kernel
theorem dX11_law_42 : decode cX11_law 42 = .ok (.ireturn, 1) := by decide +kernel
set_option maxRecDepth 100000 in
def f_s_law (x1 : Int) (V : Nat → Nat → Int) (J : Nat → Nat → Int) (Rr : Nat → Nat → Nat) : (Int × xS) → Prop :=
  calR (f_s_isWithin x1 1 200) fun z1 => fct (0 ≤ z1 ∧ z1 ≤ 1) <| (if z1 = 0 then rtn ((-1), (V, J, Rr)) else rdb (V 58 1) fun z4 => fct (0 ≤ z4 ∧ z4 ≤ 220) <| (if x1 ≤ z4 then calSX (fun i k : Nat => (72 ≤ i ∧ i ≤ 72) ∨ (Rr 72 1 ≤ i ∧ i ≤ Rr 72 1 + 4)) V (f_b_writeLaw x1 V J Rr) fun z6 V6 J6 R6 => rdb (up2 V6 58 1 0) fun V7 => rtn (z6, (V7, J6, R6)) else rtn ((-1), (V, J, Rr))))
set_option maxHeartbeats 8000000 in
set_option maxRecDepth 100000 in
theorem s_law (l : Launch) (D : va_G) (cy : Nat → ClassId) (aK aV : Nat → Nat) (ad : Nat → Nat) (G : Nat → Nat → Int) (V J : Nat → Nat → Int) (Rr : Nat → Nat → Nat) (hI : XI G V) (hJ : VJ J) (hR : XR Rr) (x1 : Int) (bx1 : -2147483648 ≤ x1 ∧ x1 ≤ 2147483647) : zMiS l D (xTY cy) aK aV yX11_law cX11_law 3 (some .int) 58 1255 0 0 [.ref (ad 0), vI x1] (XW cy ad V J Rr) (fun u : xS => XW cy ad u.1 u.2.1 u.2.2) (fun a (u : xS) => XS G u ∧ FB (fun i k : Nat => (72 ≤ i ∧ i ≤ 72) ∨ (Rr 72 1 ≤ i ∧ i ≤ Rr 72 1 + 4) ∨ (58 ≤ i ∧ i ≤ 59)) V u.1 ∧ (f_s_law x1 V J Rr) (a, u)) := by
  refine zMiS.mk (lv0 := [(0, .ref (ad 0)), (1, vI x1)]) (by decide) rfl (Nat.le_of_ble_eq_true rfl) (fun p e s m below meth c A C hr hnm hAe hE => ?_)
  have C : xC2 p s m _ meth c D A s.heap 3 cX11_law RX11 (xTY cy) := C
  have hB : FB (fun i k : Nat => (72 ≤ i ∧ i ≤ 72) ∨ (Rr 72 1 ≤ i ∧ i ≤ Rr 72 1 + 4) ∨ (58 ≤ i ∧ i ≤ 59)) V V := FB.rf _ _
  have hF := Imp.of_eq (f_s_law.eq_def x1 V J Rr)
  refine x_iload_n C.1 dX11_law_0 1 rfl ?_
  refine x_iconst C.1 (n := 1) dX11_law_1 ?_
  refine x_sipush C.1 (n := 200) dX11_law_2 ?_
  refine x_callSi C (As := [vI x1, vI 1, vI 200]) (rest := []) (s_isWithin l D cy x1 ⟨by omega, by omega⟩ 1 ⟨by decide, by decide⟩ 200 ⟨by decide, by decide⟩) (l1 := []) (l2 := _) rfl (w2 := fun _ => _) (fun _ => rfl) rfl wm_yX11_isWithin wn_X11 wl_X11_74 wi_yX11_isWithin hd_yX11_isWithin rfl ⟨Nat.le_of_ble_eq_true rfl, Nat.le_of_ble_eq_true rfl⟩ (Nat.le_of_ble_eq_true rfl) ⟨Nat.le_of_ble_eq_true rfl, Nat.le_of_ble_eq_true rfl⟩ dX11_law_5 (fun z1 u1 bz1 h1 => ?_)
  obtain ⟨bq1, hx1_0, hFc1⟩ := h1
  replace hF := calR_i hF hFc1
  replace hF := hF.fc bq1
  refine x_if_eq C.1 (tgt := 22) dX11_law_8 (by decide) (by omega) (fun hc2 => ?_) (fun hc2 => ?_)
  · replace hF := hF.to (if_pos hc2)
    refine x_iconst C.1 (n := -1) dX11_law_22 ?_
    exact x_iret (S := xS) (post := (fun a (u : xS) => XS G u ∧ FB (fun i k : Nat => (72 ≤ i ∧ i ≤ 72) ∨ (Rr 72 1 ≤ i ∧ i ≤ Rr 72 1 + 4) ∨ (58 ≤ i ∧ i ≤ 59)) V u.1 ∧ (f_s_law x1 V J Rr) (a, u))) (w1 := (fun u : xS => XW cy ad u.1 u.2.1 u.2.2)) (a := (-1)) C hr rfl dX11_law_23 (by decide) (V, J, Rr) rfl ⟨⟨hI, hJ, hR⟩, hB, hF _ rfl⟩
  · replace hF := hF.to (if_neg hc2)
    have hon3 := Sq.on hx1_0 (by omega)
    refine x_iload_n C.1 dX11_law_11 1 rfl ?_
    refine x_aload_n C.1 dX11_law_12 0 rfl ?_
    refine x_getA C (N := 129) (i := 0) (by decide) rfl vc_X11 wx_X11 4 (by decide) wf_X11_25 (a := 58) rfl dX11_law_13 ?_
    obtain ⟨z4, ez4, bz4⟩ := hI.rd 58 1 (x := 0) (y := 220) rfl
    replace hF := hF.to (rdb_e (z := z4) ez4)
    replace hF := hF.fc bz4
    refine x_getI C (N := 129) (i := 58) (by decide) rfl vc_X8 wx_X8 1 (by decide) wf_X11_120 rfl dX11_law_16 (a := z4) ez4 ?_
    refine x_icmp_le C.1 (tgt := 24) dX11_law_19 (by decide) (by omega) (by omega) (fun hc5 => ?_) (fun hc5 => ?_)
    · replace hF := hF.to (if_pos hc5)
      refine x_aload_n C.1 dX11_law_24 0 rfl ?_
      refine x_getA C (N := 129) (i := 0) (by decide) rfl vc_X11 wx_X11 5 (by decide) wf_X11_34 (a := 60) rfl dX11_law_25 ?_
      refine x_iload_n C.1 dX11_law_28 1 rfl ?_
      refine x_callViS C hE (As := [vI x1]) (rest := []) 60 (xw_at (N := 129) (i := 60) (by decide) rfl) vc_X1 (b_writeLaw l D cy aK aV ad G V J Rr hI hJ hR x1 ⟨by omega, by omega⟩) (l1 := []) (l2 := []) (List.append_nil _).symm (w2 := fun u : xS => XW cy ad u.1 u.2.1 u.2.2) (fun _ => List.append_nil _) rfl wm_yX1_writeLaw wn_X1 wl_X11_125 wi_yX1_writeLaw we_yX1_writeLaw hd_yX1_writeLaw rfl ⟨Nat.le_of_ble_eq_true rfl, Nat.le_of_ble_eq_true rfl⟩ (Nat.le_of_ble_eq_true rfl) ⟨Nat.le_of_ble_eq_true rfl, Nat.le_of_ble_eq_true rfl⟩ dX11_law_29 (fun z6 u6 bz6 h6 => ?_)
      obtain ⟨V6, J6, R6⟩ := u6
      obtain ⟨hS6, hBc6, hFc6⟩ := h6
      replace hF := calSX_i hF hFc6 hBc6
      have hB6 := hB.tr hBc6 (fun i k h => (h.elim (fun h => (Or.inl h)) (fun h => (Or.inr (Or.inl h)))))
      obtain ⟨hI6, hJ6, hR6⟩ := hS6
      dsimp only at hI6 hJ6 hR6 ⊢
      refine x_istore_n C.1 (lv' := [(2, vI z6), (0, .ref (ad 0)), (1, vI x1)]) dX11_law_32 (by decide) rfl ?_
      refine x_aload_n C.1 dX11_law_33 1 rfl ?_
      refine x_getA C (N := 129) (i := 0) (by decide) rfl vc_X11 wx_X11 4 (by decide) wf_X11_25 (a := 58) rfl dX11_law_34 ?_
      refine x_iconst C.1 (n := 0) dX11_law_37 ?_
      refine x_putI C (N := 129) (i := 58) (by decide) rfl vc_X8 wx_X8 1 (by decide) wf_X11_120 tyX8 tyX8_ok nmX8 rfl (tyX8_ok 1 (by decide)) rfl dX11_law_38 rfl rfl ?_
      refine x_gV ?_
      intro V7 hV7
      have hI7 : XI G V7 := hI6.up hV7 rfl (by decide) rfl
      have hB7 := hB6.up hV7 (Or.inr (Or.inr (⟨by decide, by decide⟩)))
      replace hF := hF.to (rdb_e (z := V7) hV7.symm)
      refine x_iload_n C.1 dX11_law_41 0 rfl ?_
      exact x_iret (S := xS) (post := (fun a (u : xS) => XS G u ∧ FB (fun i k : Nat => (72 ≤ i ∧ i ≤ 72) ∨ (Rr 72 1 ≤ i ∧ i ≤ Rr 72 1 + 4) ∨ (58 ≤ i ∧ i ≤ 59)) V u.1 ∧ (f_s_law x1 V J Rr) (a, u))) (w1 := (fun u : xS => XW cy ad u.1 u.2.1 u.2.2)) (a := z6) C hr rfl dX11_law_42 (by omega) (V7, J6, R6) rfl ⟨⟨hI7, hJ6, hR6⟩, hB7, hF _ rfl⟩
    · replace hF := hF.to (if_neg hc5)
      refine x_iconst C.1 (n := -1) dX11_law_22 ?_
      exact x_iret (S := xS) (post := (fun a (u : xS) => XS G u ∧ FB (fun i k : Nat => (72 ≤ i ∧ i ≤ 72) ∨ (Rr 72 1 ≤ i ∧ i ≤ Rr 72 1 + 4) ∨ (58 ≤ i ∧ i ≤ 59)) V u.1 ∧ (f_s_law x1 V J Rr) (a, u))) (w1 := (fun u : xS => XW cy ad u.1 u.2.1 u.2.2)) (a := (-1)) C hr rfl dX11_law_23 (by decide) (V, J, Rr) rfl ⟨⟨hI, hJ, hR⟩, hB, hF _ rfl⟩
theorem hd_yX1_writeRule : yX1_writeRule.cls ≠ "java/lang/invoke/MethodHandle" ∧ yX1_writeRule.cls ≠ "java/lang/invoke/VarHandle" ∧ (parseMethodDescriptor yX1_writeRule.desc).map (fun d => d.parameters.length) = some 2 := by decide +kernel
theorem dX11_rule_0 : decode cX11_rule 0 = .ok (.iload_n 1, 1) := by decide +kernel
theorem dX11_rule_1 : decode cX11_rule 1 = .ok (.iconst 4, 1) := by decide +kernel
theorem dX11_rule_2 : decode cX11_rule 2 = .ok (.invokestatic 70, 3) := by decide +kernel
theorem dX11_rule_5 : decode cX11_rule 5 = .ok (.ifCond .eq 25, 3) := by decide +kernel
theorem dX11_rule_8 : decode cX11_rule 8 = .ok (.iload_n 2, 1) := by decide +kernel
theorem dX11_rule_9 : decode cX11_rule 9 = .ok (.iconst 1, 1) := by decide +kernel
theorem dX11_rule_10 : decode cX11_rule 10 = .ok (.sipush 200, 3) := by decide +kernel
theorem dX11_rule_13 : decode cX11_rule 13 = .ok (.invokestatic 74, 3) := by decide +kernel
theorem dX11_rule_16 : decode cX11_rule 16 = .ok (.ifCond .eq 14, 3) := by decide +kernel
theorem dX11_rule_19 : decode cX11_rule 19 = .ok (.iload_n 2, 1) := by decide +kernel
theorem dX11_rule_20 : decode cX11_rule 20 = .ok (.aload_n 0, 1) := by decide +kernel
theorem dX11_rule_21 : decode cX11_rule 21 = .ok (.getfield 25, 3) := by decide +kernel
theorem dX11_rule_24 : decode cX11_rule 24 = .ok (.getfield 120, 3) := by decide +kernel
theorem dX11_rule_27 : decode cX11_rule 27 = .ok (.if_icmp .le 5, 3) := by decide +kernel
theorem dX11_rule_30 : decode cX11_rule 30 = .ok (.iconst (-1), 1) := by decide +kernel
theorem dX11_rule_31 : decode cX11_rule 31 = .ok (.ireturn, 1) := by decide +kernel
theorem dX11_rule_32 : decode cX11_rule 32 = .ok (.aload_n 0, 1) := by decide +kernel
theorem dX11_rule_33 : decode cX11_rule 33 = .ok (.getfield 34, 3) := by decide +kernel
theorem dX11_rule_36 : decode cX11_rule 36 = .ok (.iload_n 1, 1) := by decide +kernel
theorem dX11_rule_37 : decode cX11_rule 37 = .ok (.iload_n 2, 1) := by decide +kernel
theorem dX11_rule_38 : decode cX11_rule 38 = .ok (.invokevirtual 128, 3) := by decide +kernel
theorem dX11_rule_41 : decode cX11_rule 41 = .ok (.istore_n 3, 1) := by decide +kernel
theorem dX11_rule_42 : decode cX11_rule 42 = .ok (.aload_n 0, 1) := by decide +kernel
theorem dX11_rule_43 : decode cX11_rule 43 = .ok (.getfield 25, 3) := by decide +kernel
theorem dX11_rule_46 : decode cX11_rule 46 = .ok (.iconst 0, 1) := by decide +kernel
theorem dX11_rule_47 : decode cX11_rule 47 = .ok (.putfield 120, 3) := by decide +kernel
theorem dX11_rule_50 : decode cX11_rule 50 = .ok (.iload_n 3, 1) := by decide +kernel
theorem dX11_rule_51 : decode cX11_rule 51 = .ok (.ireturn, 1) := by decide +kernel
set_option maxRecDepth 100000 in
def f_s_rule (x1 : Int) (x2 : Int) (V : Nat → Nat → Int) (J : Nat → Nat → Int) (Rr : Nat → Nat → Nat) : (Int × xS) → Prop :=
  calR (f_s_isPlace x1 4) fun z1 => fct (0 ≤ z1 ∧ z1 ≤ 1) <| (if z1 = 0 then rtn ((-1), (V, J, Rr)) else calR (f_s_isWithin x2 1 200) fun z4 => fct (0 ≤ z4 ∧ z4 ≤ 1) <| (if z4 = 0 then rtn ((-1), (V, J, Rr)) else rdb (V 58 1) fun z7 => fct (0 ≤ z7 ∧ z7 ≤ 220) <| (if x2 ≤ z7 then calSX (fun i k : Nat => (72 ≤ i ∧ i ≤ 72) ∨ (Rr 72 1 ≤ i ∧ i ≤ Rr 72 1 + 4)) V (f_b_writeRule x1 x2 V J Rr) fun z9 V9 J9 R9 => rdb (up2 V9 58 1 0) fun V10 => rtn (z9, (V10, J9, R9)) else rtn ((-1), (V, J, Rr)))))
set_option maxHeartbeats 8000000 in
set_option maxRecDepth 100000 in
theorem s_rule (l : Launch) (D : va_G) (cy : Nat → ClassId) (aK aV : Nat → Nat) (ad : Nat → Nat) (G : Nat → Nat → Int) (V J : Nat → Nat → Int) (Rr : Nat → Nat → Nat) (hI : XI G V) (hJ : VJ J) (hR : XR Rr) (x1 : Int) (bx1 : -2147483648 ≤ x1 ∧ x1 ≤ 2147483647) (x2 : Int) (bx2 : -2147483648 ≤ x2 ∧ x2 ≤ 2147483647) : zMiS l D (xTY cy) aK aV yX11_rule cX11_rule 4 (some .int) 58 1256 0 0 [.ref (ad 0), vI x1, vI x2] (XW cy ad V J Rr) (fun u : xS => XW cy ad u.1 u.2.1 u.2.2) (fun a (u : xS) => XS G u ∧ FB (fun i k : Nat => (72 ≤ i ∧ i ≤ 72) ∨ (Rr 72 1 ≤ i ∧ i ≤ Rr 72 1 + 4) ∨ (58 ≤ i ∧ i ≤ 59)) V u.1 ∧ (f_s_rule x1 x2 V J Rr) (a, u)) := by
  refine zMiS.mk (lv0 := [(0, .ref (ad 0)), (1, vI x1), (2, vI x2)]) (by decide) rfl (Nat.le_of_ble_eq_true rfl) (fun p e s m below meth c A C hr hnm hAe hE => ?_)
  have C : xC2 p s m _ meth c D A s.heap 4 cX11_rule RX11 (xTY cy) := C
  have hB : FB (fun i k : Nat => (72 ≤ i ∧ i ≤ 72) ∨ (Rr 72 1 ≤ i ∧ i ≤ Rr 72 1 + 4) ∨ (58 ≤ i ∧ i ≤ 59)) V V := FB.rf _ _
  have hF := Imp.of_eq (f_s_rule.eq_def x1 x2 V J Rr)
  refine x_iload_n C.1 dX11_rule_0 1 rfl ?_
  refine x_iconst C.1 (n := 4) dX11_rule_1 ?_
  refine x_callSi C (As := [vI x1, vI 4]) (rest := []) (s_isPlace l D cy x1 ⟨by omega, by omega⟩ 4 ⟨by decide, by decide⟩) (l1 := []) (l2 := _) rfl (w2 := fun _ => _) (fun _ => rfl) rfl wm_yX11_isPlace wn_X11 wl_X11_70 wi_yX11_isPlace hd_yX11_isPlace rfl ⟨Nat.le_of_ble_eq_true rfl, Nat.le_of_ble_eq_true rfl⟩ (Nat.le_of_ble_eq_true rfl) ⟨Nat.le_of_ble_eq_true rfl, Nat.le_of_ble_eq_true rfl⟩ dX11_rule_2 (fun z1 u1 bz1 h1 => ?_)
  obtain ⟨bq1, hx1_0, hFc1⟩ := h1
  replace hF := calR_i hF hFc1
  replace hF := hF.fc bq1
  refine x_if_eq C.1 (tgt := 30) dX11_rule_5 (by decide) (by omega) (fun hc2 => ?_) (fun hc2 => ?_)
  · replace hF := hF.to (if_pos hc2)
    refine x_iconst C.1 (n := -1) dX11_rule_30 ?_
    exact x_iret (S := xS) (post := (fun a (u : xS) => XS G u ∧ FB (fun i k : Nat => (72 ≤ i ∧ i ≤ 72) ∨ (Rr 72 1 ≤ i ∧ i ≤ Rr 72 1 + 4) ∨ (58 ≤ i ∧ i ≤ 59)) V u.1 ∧ (f_s_rule x1 x2 V J Rr) (a, u))) (w1 := (fun u : xS => XW cy ad u.1 u.2.1 u.2.2)) (a := (-1)) C hr rfl dX11_rule_31 (by decide) (V, J, Rr) rfl ⟨⟨hI, hJ, hR⟩, hB, hF _ rfl⟩
  · replace hF := hF.to (if_neg hc2)
    have hon3 := Sq.on hx1_0 (by omega)
    refine x_iload_n C.1 dX11_rule_8 2 rfl ?_
    refine x_iconst C.1 (n := 1) dX11_rule_9 ?_
    refine x_sipush C.1 (n := 200) dX11_rule_10 ?_
    refine x_callSi C (As := [vI x2, vI 1, vI 200]) (rest := []) (s_isWithin l D cy x2 ⟨by omega, by omega⟩ 1 ⟨by decide, by decide⟩ 200 ⟨by decide, by decide⟩) (l1 := []) (l2 := _) rfl (w2 := fun _ => _) (fun _ => rfl) rfl wm_yX11_isWithin wn_X11 wl_X11_74 wi_yX11_isWithin hd_yX11_isWithin rfl ⟨Nat.le_of_ble_eq_true rfl, Nat.le_of_ble_eq_true rfl⟩ (Nat.le_of_ble_eq_true rfl) ⟨Nat.le_of_ble_eq_true rfl, Nat.le_of_ble_eq_true rfl⟩ dX11_rule_13 (fun z4 u4 bz4 h4 => ?_)
    obtain ⟨bq4, hx4_0, hFc4⟩ := h4
    replace hF := calR_i hF hFc4
    replace hF := hF.fc bq4
    refine x_if_eq C.1 (tgt := 30) dX11_rule_16 (by decide) (by omega) (fun hc5 => ?_) (fun hc5 => ?_)
    · replace hF := hF.to (if_pos hc5)
      refine x_iconst C.1 (n := -1) dX11_rule_30 ?_
      exact x_iret (S := xS) (post := (fun a (u : xS) => XS G u ∧ FB (fun i k : Nat => (72 ≤ i ∧ i ≤ 72) ∨ (Rr 72 1 ≤ i ∧ i ≤ Rr 72 1 + 4) ∨ (58 ≤ i ∧ i ≤ 59)) V u.1 ∧ (f_s_rule x1 x2 V J Rr) (a, u))) (w1 := (fun u : xS => XW cy ad u.1 u.2.1 u.2.2)) (a := (-1)) C hr rfl dX11_rule_31 (by decide) (V, J, Rr) rfl ⟨⟨hI, hJ, hR⟩, hB, hF _ rfl⟩
    · replace hF := hF.to (if_neg hc5)
      have hon6 := Sq.on hx4_0 (by omega)
      refine x_iload_n C.1 dX11_rule_19 2 rfl ?_
      refine x_aload_n C.1 dX11_rule_20 0 rfl ?_
      refine x_getA C (N := 129) (i := 0) (by decide) rfl vc_X11 wx_X11 4 (by decide) wf_X11_25 (a := 58) rfl dX11_rule_21 ?_
      obtain ⟨z7, ez7, bz7⟩ := hI.rd 58 1 (x := 0) (y := 220) rfl
      replace hF := hF.to (rdb_e (z := z7) ez7)
      replace hF := hF.fc bz7
      refine x_getI C (N := 129) (i := 58) (by decide) rfl vc_X8 wx_X8 1 (by decide) wf_X11_120 rfl dX11_rule_24 (a := z7) ez7 ?_
      refine x_icmp_le C.1 (tgt := 32) dX11_rule_27 (by decide) (by omega) (by omega) (fun hc8 => ?_) (fun hc8 => ?_)
      · replace hF := hF.to (if_pos hc8)
        refine x_aload_n C.1 dX11_rule_32 0 rfl ?_
        refine x_getA C (N := 129) (i := 0) (by decide) rfl vc_X11 wx_X11 5 (by decide) wf_X11_34 (a := 60) rfl dX11_rule_33 ?_
        refine x_iload_n C.1 dX11_rule_36 1 rfl ?_
        refine x_iload_n C.1 dX11_rule_37 2 rfl ?_
        refine x_callViS C hE (As := [vI x1, vI x2]) (rest := []) 60 (xw_at (N := 129) (i := 60) (by decide) rfl) vc_X1 (b_writeRule l D cy aK aV ad G V J Rr hI hJ hR x1 ⟨by omega, by omega⟩ x2 ⟨by omega, by omega⟩) (l1 := []) (l2 := []) (List.append_nil _).symm (w2 := fun u : xS => XW cy ad u.1 u.2.1 u.2.2) (fun _ => List.append_nil _) rfl wm_yX1_writeRule wn_X1 wl_X11_128 wi_yX1_writeRule we_yX1_writeRule hd_yX1_writeRule rfl ⟨Nat.le_of_ble_eq_true rfl, Nat.le_of_ble_eq_true rfl⟩ (Nat.le_of_ble_eq_true rfl) ⟨Nat.le_of_ble_eq_true rfl, Nat.le_of_ble_eq_true rfl⟩ dX11_rule_38 (fun z9 u9 bz9 h9 => ?_)
        obtain ⟨V9, J9, R9⟩ := u9
        obtain ⟨hS9, hBc9, hFc9⟩ := h9
        replace hF := calSX_i hF hFc9 hBc9
        have hB9 := hB.tr hBc9 (fun i k h => (h.elim (fun h => (Or.inl h)) (fun h => (Or.inr (Or.inl h)))))
        obtain ⟨hI9, hJ9, hR9⟩ := hS9
        dsimp only at hI9 hJ9 hR9 ⊢
        refine x_istore_n C.1 (lv' := [(3, vI z9), (0, .ref (ad 0)), (1, vI x1), (2, vI x2)]) dX11_rule_41 (by decide) rfl ?_
        refine x_aload_n C.1 dX11_rule_42 1 rfl ?_
        refine x_getA C (N := 129) (i := 0) (by decide) rfl vc_X11 wx_X11 4 (by decide) wf_X11_25 (a := 58) rfl dX11_rule_43 ?_
        refine x_iconst C.1 (n := 0) dX11_rule_46 ?_
        refine x_putI C (N := 129) (i := 58) (by decide) rfl vc_X8 wx_X8 1 (by decide) wf_X11_120 tyX8 tyX8_ok nmX8 rfl (tyX8_ok 1 (by decide)) rfl dX11_rule_47 rfl rfl ?_
        refine x_gV ?_
        intro V10 hV10
        have hI10 : XI G V10 := hI9.up hV10 rfl (by decide) rfl
        have hB10 := hB9.up hV10 (Or.inr (Or.inr (⟨by decide, by decide⟩)))
        replace hF := hF.to (rdb_e (z := V10) hV10.symm)
        refine x_iload_n C.1 dX11_rule_50 0 rfl ?_
        exact x_iret (S := xS) (post := (fun a (u : xS) => XS G u ∧ FB (fun i k : Nat => (72 ≤ i ∧ i ≤ 72) ∨ (Rr 72 1 ≤ i ∧ i ≤ Rr 72 1 + 4) ∨ (58 ≤ i ∧ i ≤ 59)) V u.1 ∧ (f_s_rule x1 x2 V J Rr) (a, u))) (w1 := (fun u : xS => XW cy ad u.1 u.2.1 u.2.2)) (a := z9) C hr rfl dX11_rule_51 (by omega) (V10, J9, R9) rfl ⟨⟨hI10, hJ9, hR9⟩, hB10, hF _ rfl⟩
      · replace hF := hF.to (if_neg hc8)
        refine x_iconst C.1 (n := -1) dX11_rule_30 ?_
        exact x_iret (S := xS) (post := (fun a (u : xS) => XS G u ∧ FB (fun i k : Nat => (72 ≤ i ∧ i ≤ 72) ∨ (Rr 72 1 ≤ i ∧ i ≤ Rr 72 1 + 4) ∨ (58 ≤ i ∧ i ≤ 59)) V u.1 ∧ (f_s_rule x1 x2 V J Rr) (a, u))) (w1 := (fun u : xS => XW cy ad u.1 u.2.1 u.2.2)) (a := (-1)) C hr rfl dX11_rule_31 (by decide) (V, J, Rr) rfl ⟨⟨hI, hJ, hR⟩, hB, hF _ rfl⟩
