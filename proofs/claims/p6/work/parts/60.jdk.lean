theorem dJ0_isLatin1_aae02_0 : decode cJ0_isLatin1_aae02 0 = .ok (.getstatic 38, 3) := by decide +kernel
theorem dJ0_isLatin1_aae02_3 : decode cJ0_isLatin1_aae02 3 = .ok (.ifCond .eq 14, 3) := by decide +kernel
theorem dJ0_isLatin1_aae02_6 : decode cJ0_isLatin1_aae02 6 = .ok (.aload_n 0, 1) := by decide +kernel
theorem dJ0_isLatin1_aae02_7 : decode cJ0_isLatin1_aae02 7 = .ok (.getfield 15, 3) := by decide +kernel
theorem dJ0_isLatin1_aae02_10 : decode cJ0_isLatin1_aae02 10 = .ok (.ifCond .ne 7, 3) := by decide +kernel
theorem dJ0_isLatin1_aae02_13 : decode cJ0_isLatin1_aae02 13 = .ok (.iconst 1, 1) := by decide +kernel
theorem dJ0_isLatin1_aae02_14 : decode cJ0_isLatin1_aae02 14 = .ok (.goto 4, 3) := by decide +kernel
theorem dJ0_isLatin1_aae02_18 : decode cJ0_isLatin1_aae02 18 = .ok (.ireturn, 1) := by decide +kernel
set_option maxRecDepth 100000 in
def f_j_isLatin1 (k0 : Nat) : (Int) → Prop :=
  rtn 1
set_option maxHeartbeats 8000000 in
set_option maxRecDepth 100000 in
theorem j_isLatin1 (l : Launch) (D : va_G) (cy : Nat → ClassId) (aK aV : Nat → Nat) (k0 : Nat) (hk0 : k0 < 3) : zMiS l D (xTY cy) aK aV yJ0_isLatin1_aae02 cJ0_isLatin1_aae02 1 (some .boolean) 0 0 0 0 [.ref (aK k0)] [] (fun _ : Unit => []) (fun a (u : Unit) => (1 ≤ a ∧ a ≤ 1) ∧ (f_j_isLatin1 k0) a) := by
  refine zMiS.mk (lv0 := [(0, .ref (aK k0))]) (by decide) rfl (Nat.le_of_ble_eq_true rfl) (fun p e s m below meth c A C hr hnm hAe hE => ?_)
  have C : xC2 p s m _ meth c D A s.heap 1 cJ0_isLatin1_aae02 RJ0 (xTY cy) := C
  have hF := Imp.of_eq (f_j_isLatin1.eq_def k0)
  refine x_zcom C hE dJ0_isLatin1_aae02_0 ?_
  refine x_if_eq_f C.1 (tgt := 17) dJ0_isLatin1_aae02_3 (by decide) (by decide) (by decide) ?_
  refine x_aload_n C.1 dJ0_isLatin1_aae02_6 0 rfl ?_
  refine x_fcod C hE hk0 dJ0_isLatin1_aae02_7 ?_
  refine x_if_ne_f C.1 (tgt := 17) dJ0_isLatin1_aae02_10 (by decide) (by decide) (by decide) ?_
  refine x_iconst C.1 (n := 1) dJ0_isLatin1_aae02_13 ?_
  refine x_goto C.1 (tgt := 18) dJ0_isLatin1_aae02_14 (by decide) ?_
  exact x_zret (S := Unit) (post := (fun a (u : Unit) => (1 ≤ a ∧ a ≤ 1) ∧ (f_j_isLatin1 k0) a)) (w1 := (fun _ : Unit => [])) (a := 1) C hr rfl dJ0_isLatin1_aae02_18 (by decide) () rfl ⟨⟨by decide, by decide⟩, hF _ rfl⟩
theorem dJ0_coder_7d493_0 : decode cJ0_coder_7d493 0 = .ok (.getstatic 38, 3) := by decide +kernel
theorem dJ0_coder_7d493_3 : decode cJ0_coder_7d493 3 = .ok (.ifCond .eq 10, 3) := by decide +kernel
theorem dJ0_coder_7d493_6 : decode cJ0_coder_7d493 6 = .ok (.aload_n 0, 1) := by decide +kernel
theorem dJ0_coder_7d493_7 : decode cJ0_coder_7d493 7 = .ok (.getfield 15, 3) := by decide +kernel
theorem dJ0_coder_7d493_10 : decode cJ0_coder_7d493 10 = .ok (.goto 4, 3) := by decide +kernel
theorem dJ0_coder_7d493_14 : decode cJ0_coder_7d493 14 = .ok (.ireturn, 1) := by decide +kernel
set_option maxRecDepth 100000 in
def f_j_coder (k0 : Nat) : (Int) → Prop :=
  rtn 0
set_option maxHeartbeats 8000000 in
set_option maxRecDepth 100000 in
theorem j_coder (l : Launch) (D : va_G) (cy : Nat → ClassId) (aK aV : Nat → Nat) (k0 : Nat) (hk0 : k0 < 3) : zMiS l D (xTY cy) aK aV yJ0_coder_7d493 cJ0_coder_7d493 1 (some .byte) 0 0 0 0 [.ref (aK k0)] [] (fun _ : Unit => []) (fun a (u : Unit) => (0 ≤ a ∧ a ≤ 0) ∧ (f_j_coder k0) a) := by
  refine zMiS.mk (lv0 := [(0, .ref (aK k0))]) (by decide) rfl (Nat.le_of_ble_eq_true rfl) (fun p e s m below meth c A C hr hnm hAe hE => ?_)
  have C : xC2 p s m _ meth c D A s.heap 1 cJ0_coder_7d493 RJ0 (xTY cy) := C
  have hF := Imp.of_eq (f_j_coder.eq_def k0)
  refine x_zcom C hE dJ0_coder_7d493_0 ?_
  refine x_if_eq_f C.1 (tgt := 13) dJ0_coder_7d493_3 (by decide) (by decide) (by decide) ?_
  refine x_aload_n C.1 dJ0_coder_7d493_6 0 rfl ?_
  refine x_fcod C hE hk0 dJ0_coder_7d493_7 ?_
  refine x_goto C.1 (tgt := 14) dJ0_coder_7d493_10 (by decide) ?_
  exact x_bret (S := Unit) (post := (fun a (u : Unit) => (0 ≤ a ∧ a ≤ 0) ∧ (f_j_coder k0) a)) (w1 := (fun _ : Unit => [])) (a := 0) C hr dJ0_coder_7d493_14 (by omega) () rfl ⟨⟨by decide, by decide⟩, hF _ rfl⟩
theorem hd_yJ0_coder_7d493 : yJ0_coder_7d493.cls ≠ "java/lang/invoke/MethodHandle" ∧ yJ0_coder_7d493.cls ≠ "java/lang/invoke/VarHandle" ∧ (parseMethodDescriptor yJ0_coder_7d493.desc).map (fun d => d.parameters.length) = some 0 := by decide +kernel
theorem dJ0_length_8abf5_0 : decode cJ0_length_8abf5 0 = .ok (.aload_n 0, 1) := by decide +kernel
theorem dJ0_length_8abf5_1 : decode cJ0_length_8abf5 1 = .ok (.getfield 9, 3) := by decide +kernel
theorem dJ0_length_8abf5_4 : decode cJ0_length_8abf5 4 = .ok (.arraylength, 1) := by decide +kernel
theorem dJ0_length_8abf5_5 : decode cJ0_length_8abf5 5 = .ok (.aload_n 0, 1) := by decide +kernel
theorem dJ0_length_8abf5_6 : decode cJ0_length_8abf5 6 = .ok (.invokevirtual 335, 3) := by decide +kernel
theorem dJ0_length_8abf5_9 : decode cJ0_length_8abf5 9 = .ok (.ishr, 1) := by decide +kernel
theorem dJ0_length_8abf5_10 : decode cJ0_length_8abf5 10 = .ok (.ireturn, 1) := by decide +kernel
set_option maxRecDepth 100000 in
def f_j_length (k0 : Nat) : (Int) → Prop :=
  calR (f_j_coder k0) fun z2 => fct (0 ≤ z2 ∧ z2 ≤ 0) <| rdb (iShr ((zsl k0)) z2) fun z3 => rtn z3
set_option maxHeartbeats 8000000 in
set_option maxRecDepth 100000 in
theorem j_length (l : Launch) (D : va_G) (cy : Nat → ClassId) (aK aV : Nat → Nat) (k0 : Nat) (hk0 : k0 < 3) : zMiS l D (xTY cy) aK aV yJ0_length_8abf5 cJ0_length_8abf5 1 (some .int) 1 20 0 0 [.ref (aK k0)] [] (fun _ : Unit => []) (fun a (u : Unit) => (f_j_length k0) a) := by
  refine zMiS.mk (lv0 := [(0, .ref (aK k0))]) (by decide) rfl (Nat.le_of_ble_eq_true rfl) (fun p e s m below meth c A C hr hnm hAe hE => ?_)
  have C : xC2 p s m _ meth c D A s.heap 1 cJ0_length_8abf5 RJ0 (xTY cy) := C
  have hF := Imp.of_eq (f_j_length.eq_def k0)
  refine x_aload_n C.1 dJ0_length_8abf5_0 0 rfl ?_
  refine x_fval C hE hk0 dJ0_length_8abf5_1 ?_
  refine x_tlenS C hE hk0 dJ0_length_8abf5_4 ?_
  have hsl1 := zsl_b hk0
  refine x_aload_n C.1 dJ0_length_8abf5_5 0 rfl ?_
  refine x_callJiS C hE hk0 (As := []) (rest := [vI ((zsl k0))]) (j_coder l D cy aK aV k0 hk0) (l1 := []) (l2 := _) rfl (w2 := fun _ => _) (fun _ => rfl) rfl wm_yJ0_coder_7d493 wn_J0 wl_J0_335 wi_yJ0_coder_7d493 we_yJ0_coder_7d493 hd_yJ0_coder_7d493 rfl ⟨Nat.le_of_ble_eq_true rfl, Nat.le_of_ble_eq_true rfl⟩ (Nat.le_of_ble_eq_true rfl) ⟨Nat.le_of_ble_eq_true rfl, Nat.le_of_ble_eq_true rfl⟩ dJ0_length_8abf5_6 (fun z2 u2 bz2 h2 => ?_)
  obtain ⟨bq2, hFc2⟩ := h2
  replace hF := calR_i hF hFc2
  replace hF := hF.fc bq2
  obtain ⟨z3, hz3, bz3⟩ : ∃ z : Int, iShr ((zsl k0)) z2 = z ∧ (-2147483648 ≤ z ∧ z ≤ 2147483647) := ⟨_, rfl, xi_r _⟩
  replace hF := hF.to (rdb_e (z := z3) hz3)
  refine x_ishr C.1 (v := z3) hz3 dJ0_length_8abf5_9 ?_
  exact x_iret (S := Unit) (post := (fun a (u : Unit) => (f_j_length k0) a)) (w1 := (fun _ : Unit => [])) (a := z3) C hr rfl dJ0_length_8abf5_10 (by omega) () rfl (hF _ rfl)
theorem dJ1_canEncode_9a6ad_0 : decode cJ1_canEncode_9a6ad 0 = .ok (.iload_n 0, 1) := by decide +kernel
theorem dJ1_canEncode_9a6ad_1 : decode cJ1_canEncode_9a6ad 1 = .ok (.ifCond .lt 14, 3) := by decide +kernel
theorem dJ1_canEncode_9a6ad_4 : decode cJ1_canEncode_9a6ad 4 = .ok (.iload_n 0, 1) := by decide +kernel
theorem dJ1_canEncode_9a6ad_5 : decode cJ1_canEncode_9a6ad 5 = .ok (.sipush 255, 3) := by decide +kernel
theorem dJ1_canEncode_9a6ad_8 : decode cJ1_canEncode_9a6ad 8 = .ok (.if_icmp .gt 7, 3) := by decide +kernel
theorem dJ1_canEncode_9a6ad_11 : decode cJ1_canEncode_9a6ad 11 = .ok (.iconst 1, 1) := by decide +kernel
theorem dJ1_canEncode_9a6ad_12 : decode cJ1_canEncode_9a6ad 12 = .ok (.goto 4, 3) := by decide +kernel
theorem dJ1_canEncode_9a6ad_15 : decode cJ1_canEncode_9a6ad 15 = .ok (.iconst 0, 1) := by decide +kernel
theorem dJ1_canEncode_9a6ad_16 : decode cJ1_canEncode_9a6ad 16 = .ok (.ireturn, 1) := by decide +kernel
set_option maxRecDepth 100000 in
def f_j_canEncode (x0 : Int) : (Int) → Prop :=
  (if x0 < 0 then rtn 0 else (if 255 < x0 then rtn 0 else rtn 1))
set_option maxHeartbeats 8000000 in
set_option maxRecDepth 100000 in
theorem j_canEncode (l : Launch) (D : va_G) (cy : Nat → ClassId) (x0 : Int) (bx0 : -2147483648 ≤ x0 ∧ x0 ≤ 2147483647) : xMi l D (xTY cy) yJ1_canEncode_9a6ad cJ1_canEncode_9a6ad 1 (some .boolean) 0 0 0 0 [vI x0] [] (fun _ : Unit => []) (fun a (u : Unit) => (0 ≤ a ∧ a ≤ 1) ∧ (f_j_canEncode x0) a) := by
  refine xMi.mk (lv0 := [(0, vI x0)]) (by decide) rfl (Nat.le_of_ble_eq_true rfl) (fun p e s m below meth c A C hr hnm hAe => ?_)
  have C : xC2 p s m _ meth c D A s.heap 1 cJ1_canEncode_9a6ad RJ1 (xTY cy) := C
  have hF := Imp.of_eq (f_j_canEncode.eq_def x0)
  refine x_iload_n C.1 dJ1_canEncode_9a6ad_0 0 rfl ?_
  refine x_if_lt C.1 (tgt := 15) dJ1_canEncode_9a6ad_1 (by decide) (by omega) (fun hc1 => ?_) (fun hc1 => ?_)
  · replace hF := hF.to (if_pos hc1)
    refine x_iconst C.1 (n := 0) dJ1_canEncode_9a6ad_15 ?_
    exact x_zret (S := Unit) (post := (fun a (u : Unit) => (0 ≤ a ∧ a ≤ 1) ∧ (f_j_canEncode x0) a)) (w1 := (fun _ : Unit => [])) (a := 0) C hr rfl dJ1_canEncode_9a6ad_16 (by decide) () rfl ⟨⟨by decide, by decide⟩, hF _ rfl⟩
  · replace hF := hF.to (if_neg hc1)
    refine x_iload_n C.1 dJ1_canEncode_9a6ad_4 0 rfl ?_
    refine x_sipush C.1 (n := 255) dJ1_canEncode_9a6ad_5 ?_
    refine x_icmp_gt C.1 (tgt := 15) dJ1_canEncode_9a6ad_8 (by decide) (by omega) (by decide) (fun hc2 => ?_) (fun hc2 => ?_)
    · replace hF := hF.to (if_pos hc2)
      refine x_iconst C.1 (n := 0) dJ1_canEncode_9a6ad_15 ?_
      exact x_zret (S := Unit) (post := (fun a (u : Unit) => (0 ≤ a ∧ a ≤ 1) ∧ (f_j_canEncode x0) a)) (w1 := (fun _ : Unit => [])) (a := 0) C hr rfl dJ1_canEncode_9a6ad_16 (by decide) () rfl ⟨⟨by decide, by decide⟩, hF _ rfl⟩
    · replace hF := hF.to (if_neg hc2)
      refine x_iconst C.1 (n := 1) dJ1_canEncode_9a6ad_11 ?_
      refine x_goto C.1 (tgt := 16) dJ1_canEncode_9a6ad_12 (by decide) ?_
      exact x_zret (S := Unit) (post := (fun a (u : Unit) => (0 ≤ a ∧ a ≤ 1) ∧ (f_j_canEncode x0) a)) (w1 := (fun _ : Unit => [])) (a := 1) C hr rfl dJ1_canEncode_9a6ad_16 (by decide) () rfl ⟨⟨by decide, by decide⟩, hF _ rfl⟩
theorem dJ1_indexOfChar_4cfef_0 : decode cJ1_indexOfChar_4cfef 0 = .ok (.iload_n 1, 1) := by decide +kernel
theorem dJ1_indexOfChar_4cfef_1 : decode cJ1_indexOfChar_4cfef 1 = .ok (.i2b, 1) := by decide +kernel
theorem dJ1_indexOfChar_4cfef_2 : decode cJ1_indexOfChar_4cfef 2 = .ok (.istore 4, 2) := by decide +kernel
theorem dJ1_indexOfChar_4cfef_4 : decode cJ1_indexOfChar_4cfef 4 = .ok (.iload_n 2, 1) := by decide +kernel
theorem dJ1_indexOfChar_4cfef_5 : decode cJ1_indexOfChar_4cfef 5 = .ok (.istore 5, 2) := by decide +kernel
theorem dJ1_indexOfChar_4cfef_7 : decode cJ1_indexOfChar_4cfef 7 = .ok (.iload 5, 2) := by decide +kernel
theorem dJ1_indexOfChar_4cfef_9 : decode cJ1_indexOfChar_4cfef 9 = .ok (.iload_n 3, 1) := by decide +kernel
theorem dJ1_indexOfChar_4cfef_10 : decode cJ1_indexOfChar_4cfef 10 = .ok (.if_icmp .ge 21, 3) := by decide +kernel
theorem dJ1_indexOfChar_4cfef_13 : decode cJ1_indexOfChar_4cfef 13 = .ok (.aload_n 0, 1) := by decide +kernel
theorem dJ1_indexOfChar_4cfef_14 : decode cJ1_indexOfChar_4cfef 14 = .ok (.iload 5, 2) := by decide +kernel
theorem dJ1_indexOfChar_4cfef_16 : decode cJ1_indexOfChar_4cfef 16 = .ok (.baload, 1) := by decide +kernel
theorem dJ1_indexOfChar_4cfef_17 : decode cJ1_indexOfChar_4cfef 17 = .ok (.iload 4, 2) := by decide +kernel
theorem dJ1_indexOfChar_4cfef_19 : decode cJ1_indexOfChar_4cfef 19 = .ok (.if_icmp .ne 6, 3) := by decide +kernel
theorem dJ1_indexOfChar_4cfef_22 : decode cJ1_indexOfChar_4cfef 22 = .ok (.iload 5, 2) := by decide +kernel
theorem dJ1_indexOfChar_4cfef_24 : decode cJ1_indexOfChar_4cfef 24 = .ok (.ireturn, 1) := by decide +kernel
theorem dJ1_indexOfChar_4cfef_25 : decode cJ1_indexOfChar_4cfef 25 = .ok (.iinc 5 1, 3) := by decide +kernel
theorem dJ1_indexOfChar_4cfef_28 : decode cJ1_indexOfChar_4cfef 28 = .ok (.goto (-21), 3) := by decide +kernel
theorem dJ1_indexOfChar_4cfef_31 : decode cJ1_indexOfChar_4cfef 31 = .ok (.iconst (-1), 1) := by decide +kernel
theorem dJ1_indexOfChar_4cfef_32 : decode cJ1_indexOfChar_4cfef 32 = .ok (.ireturn, 1) := by decide +kernel
set_option maxRecDepth 100000 in
def f_j_indexOfChar (k0 : Nat) (x1 : Int) (x2 : Int) (x3 : Int) : (Int) → Prop :=
  rdb (iB x1) fun z1 => fct (-128 ≤ z1 ∧ z1 ≤ 127) <| lop1 (2147483649) (fun rc10 (z9 : Int) => (if x3 ≤ z9 then rtn ((-1)) else rdb (zsb k0 z9) fun z15 => (if ¬ z15 = z1 then rc10 (z9 + 1) else rtn z9))) x2
set_option maxHeartbeats 8000000 in
set_option maxRecDepth 100000 in
theorem j_indexOfChar (l : Launch) (D : va_G) (cy : Nat → ClassId) (aK aV : Nat → Nat) (k0 : Nat) (hk0 : k0 < 3) (x1 : Int) (bx1 : -2147483648 ≤ x1 ∧ x1 ≤ 2147483647) (x2 : Int) (bx2 : 0 ≤ x2 ∧ x2 ≤ 2147483647) (x3 : Int) (bx3 : -2147483648 ≤ x3 ∧ x3 ≤ 2147483647) (hto : x3 ≤ zsl k0) : zMiS l D (xTY cy) aK aV yJ1_indexOfChar_4cfef cJ1_indexOfChar_4cfef 6 (some .int) 0 0 0 0 [.ref (aV k0), vI x1, vI x2, vI x3] [] (fun _ : Unit => []) (fun a (u : Unit) => (f_j_indexOfChar k0 x1 x2 x3) a) := by
  refine zMiS.mk (lv0 := [(0, .ref (aV k0)), (1, vI x1), (2, vI x2), (3, vI x3)]) (by decide) rfl (Nat.le_of_ble_eq_true rfl) (fun p e s m below meth c A C hr hnm hAe hE => ?_)
  have C : xC2 p s m _ meth c D A s.heap 6 cJ1_indexOfChar_4cfef RJ1 (xTY cy) := C
  have hF := Imp.of_eq (f_j_indexOfChar.eq_def k0 x1 x2 x3)
  refine x_iload_n C.1 dJ1_indexOfChar_4cfef_0 1 rfl ?_
  refine x_i2b C.1 dJ1_indexOfChar_4cfef_1 ?_
  obtain ⟨z1, hz1, bz1⟩ : ∃ z : Int, iB x1 = z ∧ (-128 ≤ z ∧ z ≤ 127) := ⟨_, rfl, iB_r _⟩
  rw [hz1]
  replace hF := hF.to (rdb_e (z := z1) hz1)
  replace hF := hF.fc bz1
  refine x_istore C.1 (lv' := [(4, vI z1), (0, .ref (aV k0)), (1, vI x1), (2, vI x2), (3, vI x3)]) dJ1_indexOfChar_4cfef_2 (by decide) rfl ?_
  refine x_iload_n C.1 dJ1_indexOfChar_4cfef_4 3 rfl ?_
  refine x_istore C.1 (lv' := [(5, vI x2), (4, vI z1), (0, .ref (aV k0)), (1, vI x1), (2, vI x2), (3, vI x3)]) dJ1_indexOfChar_4cfef_5 (by decide) rfl ?_
  obtain ⟨bd10, hbd10, hF⟩ := lop1_ex hF
  refine x_loop (I := fun z9 : Int => (0 ≤ z9 ∧ z9 ≤ 2147483647) ∧ (∃ nf : Nat, (2147483648 - z9).toNat < nf ∧ Imp (lop1 nf bd10 z9) (f_j_indexOfChar k0 x1 x2 x3))) (μ := fun z9 : Int => (2147483648 - z9).toNat) (wsf := fun z9 : Int => []) (lvf := fun z9 : Int => [(5, vI z9), (4, vI z1), (0, .ref (aV k0)), (1, vI x1), (2, vI x2), (3, vI x3)]) (fun z9 hI10x ih10 => ?_) x2 ⟨⟨by omega, by omega⟩, ⟨_, (by omega), hF⟩⟩ rfl rfl
  obtain ⟨bz9, nf10, hn10, hF⟩ := hI10x
  try dsimp only
  obtain ⟨nf10, rfl⟩ : ∃ mm, nf10 = mm + 1 := ⟨nf10 - 1, (Nat.succ_pred_eq_of_pos (Nat.lt_of_le_of_lt (Nat.zero_le _) hn10)).symm⟩
  replace hF := hF.to (lop1_s hbd10)
  refine x_iload C.1 dJ1_indexOfChar_4cfef_7 0 rfl ?_
  refine x_iload_n C.1 dJ1_indexOfChar_4cfef_9 5 rfl ?_
  refine x_icmp_ge C.1 (tgt := 31) dJ1_indexOfChar_4cfef_10 (by decide) (by omega) (by omega) (fun hc14 => ?_) (fun hc14 => ?_)
  · replace hF := hF.to (if_pos hc14)
    refine x_iconst C.1 (n := -1) dJ1_indexOfChar_4cfef_31 ?_
    exact x_iret (S := Unit) (post := (fun a (u : Unit) => (f_j_indexOfChar k0 x1 x2 x3) a)) (w1 := (fun _ : Unit => [])) (a := (-1)) C hr rfl dJ1_indexOfChar_4cfef_32 (by decide) () rfl (hF _ rfl)
  · replace hF := hF.to (if_neg hc14)
    refine x_aload_n C.1 dJ1_indexOfChar_4cfef_13 2 rfl ?_
    refine x_iload C.1 dJ1_indexOfChar_4cfef_14 0 rfl ?_
    refine x_tbS C hE hk0 (q := z9) (by omega) dJ1_indexOfChar_4cfef_16 (fun z15 bz15 ew15 => ?_)
    replace hF := hF.to (rdb_e (z := z15) ew15.symm)
    refine x_iload C.1 dJ1_indexOfChar_4cfef_17 1 rfl ?_
    refine x_icmp_ne C.1 (tgt := 25) dJ1_indexOfChar_4cfef_19 (by decide) (by omega) (by omega) (fun hc16 => ?_) (fun hc16 => ?_)
    · replace hF := hF.to (if_pos hc16)
      refine x_iinc C.1 (v := z9 + 1) (lv' := [(5, vI (z9 + 1)), (4, vI z1), (0, .ref (aV k0)), (1, vI x1), (2, vI x2), (3, vI x3)]) (by omega) dJ1_indexOfChar_4cfef_25 0 rfl (by decide) rfl ?_
      refine x_goto C.1 (tgt := 7) dJ1_indexOfChar_4cfef_28 (by decide) ?_
      have hmu10 : (2147483648 - (z9 + 1)).toNat < (2147483648 - z9).toNat := (by omega)
      exact ih10 (z9 + 1) ⟨⟨by omega, by omega⟩, ⟨nf10, Nat.lt_of_lt_of_le hmu10 (Nat.le_of_lt_succ hn10), hF⟩⟩ hmu10
    · replace hF := hF.to (if_neg (fun hh => hh hc16))
      refine x_iload C.1 dJ1_indexOfChar_4cfef_22 0 rfl ?_
      exact x_iret (S := Unit) (post := (fun a (u : Unit) => (f_j_indexOfChar k0 x1 x2 x3) a)) (w1 := (fun _ : Unit => [])) (a := z9) C hr rfl dJ1_indexOfChar_4cfef_24 (by omega) () rfl (hF _ rfl)
theorem hd_yJ1_canEncode_9a6ad : yJ1_canEncode_9a6ad.cls ≠ "java/lang/invoke/MethodHandle" ∧ yJ1_canEncode_9a6ad.cls ≠ "java/lang/invoke/VarHandle" ∧ (parseMethodDescriptor yJ1_canEncode_9a6ad.desc).map (fun d => d.parameters.length) = some 1 := by decide +kernel
theorem hd_yJ1_indexOfChar_4cfef : yJ1_indexOfChar_4cfef.cls ≠ "java/lang/invoke/MethodHandle" ∧ yJ1_indexOfChar_4cfef.cls ≠ "java/lang/invoke/VarHandle" ∧ (parseMethodDescriptor yJ1_indexOfChar_4cfef.desc).map (fun d => d.parameters.length) = some 4 := by decide +kernel
theorem dJ1_indexOf_4cfef_0 : decode cJ1_indexOf_4cfef 0 = .ok (.iload_n 1, 1) := by decide +kernel
theorem dJ1_indexOf_4cfef_1 : decode cJ1_indexOf_4cfef 1 = .ok (.invokestatic 88, 3) := by decide +kernel
theorem dJ1_indexOf_4cfef_4 : decode cJ1_indexOf_4cfef 4 = .ok (.ifCond .ne 5, 3) := by decide +kernel
theorem dJ1_indexOf_4cfef_7 : decode cJ1_indexOf_4cfef 7 = .ok (.iconst (-1), 1) := by decide +kernel
theorem dJ1_indexOf_4cfef_8 : decode cJ1_indexOf_4cfef 8 = .ok (.ireturn, 1) := by decide +kernel
theorem dJ1_indexOf_4cfef_9 : decode cJ1_indexOf_4cfef 9 = .ok (.iload_n 2, 1) := by decide +kernel
theorem dJ1_indexOf_4cfef_10 : decode cJ1_indexOf_4cfef 10 = .ok (.iconst 0, 1) := by decide +kernel
theorem dJ1_indexOf_4cfef_11 : decode cJ1_indexOf_4cfef 11 = .ok (.invokestatic 92, 3) := by decide +kernel
theorem dJ1_indexOf_4cfef_14 : decode cJ1_indexOf_4cfef 14 = .ok (.istore_n 2, 1) := by decide +kernel
theorem dJ1_indexOf_4cfef_15 : decode cJ1_indexOf_4cfef 15 = .ok (.iload_n 3, 1) := by decide +kernel
theorem dJ1_indexOf_4cfef_16 : decode cJ1_indexOf_4cfef 16 = .ok (.aload_n 0, 1) := by decide +kernel
theorem dJ1_indexOf_4cfef_17 : decode cJ1_indexOf_4cfef 17 = .ok (.arraylength, 1) := by decide +kernel
theorem dJ1_indexOf_4cfef_18 : decode cJ1_indexOf_4cfef 18 = .ok (.invokestatic 38, 3) := by decide +kernel
theorem dJ1_indexOf_4cfef_21 : decode cJ1_indexOf_4cfef 21 = .ok (.istore_n 3, 1) := by decide +kernel
theorem dJ1_indexOf_4cfef_22 : decode cJ1_indexOf_4cfef 22 = .ok (.iload_n 2, 1) := by decide +kernel
theorem dJ1_indexOf_4cfef_23 : decode cJ1_indexOf_4cfef 23 = .ok (.iload_n 3, 1) := by decide +kernel
theorem dJ1_indexOf_4cfef_24 : decode cJ1_indexOf_4cfef 24 = .ok (.if_icmp .lt 5, 3) := by decide +kernel
theorem dJ1_indexOf_4cfef_27 : decode cJ1_indexOf_4cfef 27 = .ok (.iconst (-1), 1) := by decide +kernel
theorem dJ1_indexOf_4cfef_28 : decode cJ1_indexOf_4cfef 28 = .ok (.ireturn, 1) := by decide +kernel
theorem dJ1_indexOf_4cfef_29 : decode cJ1_indexOf_4cfef 29 = .ok (.aload_n 0, 1) := by decide +kernel
theorem dJ1_indexOf_4cfef_30 : decode cJ1_indexOf_4cfef 30 = .ok (.iload_n 1, 1) := by decide +kernel
theorem dJ1_indexOf_4cfef_31 : decode cJ1_indexOf_4cfef 31 = .ok (.iload_n 2, 1) := by decide +kernel
theorem dJ1_indexOf_4cfef_32 : decode cJ1_indexOf_4cfef 32 = .ok (.iload_n 3, 1) := by decide +kernel
theorem dJ1_indexOf_4cfef_33 : decode cJ1_indexOf_4cfef 33 = .ok (.invokestatic 95, 3) := by decide +kernel
theorem dJ1_indexOf_4cfef_36 : decode cJ1_indexOf_4cfef 36 = .ok (.ireturn, 1) := by decide +kernel
set_option maxRecDepth 100000 in
def f_j_indexOfL (k0 : Nat) (x1 : Int) (x2 : Int) (x3 : Int) : (Int) → Prop :=
  calR (f_j_canEncode x1) fun z1 => fct (0 ≤ z1 ∧ z1 ≤ 1) <| (if ¬ z1 = 0 then rdb (max x2 0) fun z3 => fct (0 ≤ z3 ∧ z3 ≤ 2147483647) <| rdb (min x3 ((zsl k0))) fun z5 => fct (-2147483648 ≤ z5 ∧ z5 ≤ 13) <| (if z3 < z5 then calR (f_j_indexOfChar k0 x1 z3 z5) fun z7 => rtn z7 else rtn ((-1))) else rtn ((-1)))
set_option maxHeartbeats 8000000 in
set_option maxRecDepth 100000 in
theorem j_indexOfL (l : Launch) (D : va_G) (cy : Nat → ClassId) (aK aV : Nat → Nat) (k0 : Nat) (hk0 : k0 < 3) (x1 : Int) (bx1 : -2147483648 ≤ x1 ∧ x1 ≤ 2147483647) (x2 : Int) (bx2 : -2147483648 ≤ x2 ∧ x2 ≤ 2147483647) (x3 : Int) (bx3 : -2147483648 ≤ x3 ∧ x3 ≤ 2147483647) : zMiS l D (xTY cy) aK aV yJ1_indexOf_4cfef cJ1_indexOf_4cfef 4 (some .int) 1 25 0 0 [.ref (aV k0), vI x1, vI x2, vI x3] [] (fun _ : Unit => []) (fun a (u : Unit) => (f_j_indexOfL k0 x1 x2 x3) a) := by
  refine zMiS.mk (lv0 := [(0, .ref (aV k0)), (1, vI x1), (2, vI x2), (3, vI x3)]) (by decide) rfl (Nat.le_of_ble_eq_true rfl) (fun p e s m below meth c A C hr hnm hAe hE => ?_)
  have C : xC2 p s m _ meth c D A s.heap 4 cJ1_indexOf_4cfef RJ1 (xTY cy) := C
  have hF := Imp.of_eq (f_j_indexOfL.eq_def k0 x1 x2 x3)
  refine x_iload_n C.1 dJ1_indexOf_4cfef_0 1 rfl ?_
  refine x_callSi C (As := [vI x1]) (rest := []) (j_canEncode l D cy x1 ⟨by omega, by omega⟩) (l1 := []) (l2 := _) rfl (w2 := fun _ => _) (fun _ => rfl) rfl wm_yJ1_canEncode_9a6ad wn_J1 wl_J1_88 wi_yJ1_canEncode_9a6ad hd_yJ1_canEncode_9a6ad rfl ⟨Nat.le_of_ble_eq_true rfl, Nat.le_of_ble_eq_true rfl⟩ (Nat.le_of_ble_eq_true rfl) ⟨Nat.le_of_ble_eq_true rfl, Nat.le_of_ble_eq_true rfl⟩ dJ1_indexOf_4cfef_1 (fun z1 u1 bz1 h1 => ?_)
  obtain ⟨bq1, hFc1⟩ := h1
  replace hF := calR_i hF hFc1
  replace hF := hF.fc bq1
  refine x_if_ne C.1 (tgt := 9) dJ1_indexOf_4cfef_4 (by decide) (by omega) (fun hc2 => ?_) (fun hc2 => ?_)
  · replace hF := hF.to (if_pos hc2)
    refine x_iload_n C.1 dJ1_indexOf_4cfef_9 2 rfl ?_
    refine x_iconst C.1 (n := 0) dJ1_indexOf_4cfef_10 ?_
    refine x_mmax C wl_J1_92 (by omega) (by decide) dJ1_indexOf_4cfef_11 ⟨Nat.le_of_ble_eq_true rfl, Nat.le_of_ble_eq_true rfl⟩ (Nat.le_of_ble_eq_true rfl) ⟨Nat.le_of_ble_eq_true rfl, Nat.le_of_ble_eq_true rfl⟩ (fun z3 hx3 => ?_)
    have bz3 : 0 ≤ z3 ∧ z3 ≤ 2147483647 := by omega
    replace hF := hF.to (rdb_e (z := z3) (by omega))
    replace hF := hF.fc bz3
    refine x_istore_n C.1 (lv' := [(2, vI z3), (0, .ref (aV k0)), (1, vI x1), (3, vI x3)]) dJ1_indexOf_4cfef_14 (by decide) rfl ?_
    refine x_iload_n C.1 dJ1_indexOf_4cfef_15 3 rfl ?_
    refine x_aload_n C.1 dJ1_indexOf_4cfef_16 1 rfl ?_
    refine x_tlenS C hE hk0 dJ1_indexOf_4cfef_17 ?_
    have hsl4 := zsl_b hk0
    refine x_mmin C wl_J1_38 (by omega) (by omega) dJ1_indexOf_4cfef_18 ⟨Nat.le_of_ble_eq_true rfl, Nat.le_of_ble_eq_true rfl⟩ (Nat.le_of_ble_eq_true rfl) ⟨Nat.le_of_ble_eq_true rfl, Nat.le_of_ble_eq_true rfl⟩ (fun z5 hx5 => ?_)
    have bz5 : -2147483648 ≤ z5 ∧ z5 ≤ 13 := by omega
    replace hF := hF.to (rdb_e (z := z5) (by omega))
    replace hF := hF.fc bz5
    refine x_istore_n C.1 (lv' := [(3, vI z5), (2, vI z3), (0, .ref (aV k0)), (1, vI x1)]) dJ1_indexOf_4cfef_21 (by decide) rfl ?_
    refine x_iload_n C.1 dJ1_indexOf_4cfef_22 1 rfl ?_
    refine x_iload_n C.1 dJ1_indexOf_4cfef_23 0 rfl ?_
    refine x_icmp_lt C.1 (tgt := 29) dJ1_indexOf_4cfef_24 (by decide) (by omega) (by omega) (fun hc6 => ?_) (fun hc6 => ?_)
    · replace hF := hF.to (if_pos hc6)
      refine x_aload_n C.1 dJ1_indexOf_4cfef_29 2 rfl ?_
      refine x_iload_n C.1 dJ1_indexOf_4cfef_30 3 rfl ?_
      refine x_iload_n C.1 dJ1_indexOf_4cfef_31 1 rfl ?_
      refine x_iload_n C.1 dJ1_indexOf_4cfef_32 0 rfl ?_
      refine x_callSiS C hE (As := [.ref (aV k0), vI x1, vI z3, vI z5]) (rest := []) (j_indexOfChar l D cy aK aV k0 hk0 x1 ⟨by omega, by omega⟩ z3 ⟨by omega, by omega⟩ z5 ⟨by omega, by omega⟩ (by omega)) (l1 := []) (l2 := _) rfl (w2 := fun _ => _) (fun _ => rfl) rfl wm_yJ1_indexOfChar_4cfef wn_J1 wl_J1_95 wi_yJ1_indexOfChar_4cfef hd_yJ1_indexOfChar_4cfef rfl ⟨Nat.le_of_ble_eq_true rfl, Nat.le_of_ble_eq_true rfl⟩ (Nat.le_of_ble_eq_true rfl) ⟨Nat.le_of_ble_eq_true rfl, Nat.le_of_ble_eq_true rfl⟩ dJ1_indexOf_4cfef_33 (fun z7 u7 bz7 h7 => ?_)
      have hFc7 := h7
      replace hF := calR_i hF hFc7
      exact x_iret (S := Unit) (post := (fun a (u : Unit) => (f_j_indexOfL k0 x1 x2 x3) a)) (w1 := (fun _ : Unit => [])) (a := z7) C hr rfl dJ1_indexOf_4cfef_36 (by omega) () rfl (hF _ rfl)
    · replace hF := hF.to (if_neg hc6)
      refine x_iconst C.1 (n := -1) dJ1_indexOf_4cfef_27 ?_
      exact x_iret (S := Unit) (post := (fun a (u : Unit) => (f_j_indexOfL k0 x1 x2 x3) a)) (w1 := (fun _ : Unit => [])) (a := (-1)) C hr rfl dJ1_indexOf_4cfef_28 (by decide) () rfl (hF _ rfl)
  · replace hF := hF.to (if_neg (fun hh => hh hc2))
    refine x_iconst C.1 (n := -1) dJ1_indexOf_4cfef_7 ?_
    exact x_iret (S := Unit) (post := (fun a (u : Unit) => (f_j_indexOfL k0 x1 x2 x3) a)) (w1 := (fun _ : Unit => [])) (a := (-1)) C hr rfl dJ1_indexOf_4cfef_8 (by decide) () rfl (hF _ rfl)
theorem hd_yJ0_isLatin1_aae02 : yJ0_isLatin1_aae02.cls ≠ "java/lang/invoke/MethodHandle" ∧ yJ0_isLatin1_aae02.cls ≠ "java/lang/invoke/VarHandle" ∧ (parseMethodDescriptor yJ0_isLatin1_aae02.desc).map (fun d => d.parameters.length) = some 0 := by decide +kernel
theorem hd_yJ0_length_8abf5 : yJ0_length_8abf5.cls ≠ "java/lang/invoke/MethodHandle" ∧ yJ0_length_8abf5.cls ≠ "java/lang/invoke/VarHandle" ∧ (parseMethodDescriptor yJ0_length_8abf5.desc).map (fun d => d.parameters.length) = some 0 := by decide +kernel
theorem hd_yJ1_indexOf_4cfef : yJ1_indexOf_4cfef.cls ≠ "java/lang/invoke/MethodHandle" ∧ yJ1_indexOf_4cfef.cls ≠ "java/lang/invoke/VarHandle" ∧ (parseMethodDescriptor yJ1_indexOf_4cfef.desc).map (fun d => d.parameters.length) = some 4 := by decide +kernel
theorem dJ0_indexOf_7cf53_0 : decode cJ0_indexOf_7cf53 0 = .ok (.aload_n 0, 1) := by decide +kernel
theorem dJ0_indexOf_7cf53_1 : decode cJ0_indexOf_7cf53 1 = .ok (.invokevirtual 492, 3) := by decide +kernel
theorem dJ0_indexOf_7cf53_4 : decode cJ0_indexOf_7cf53 4 = .ok (.ifCond .eq 19, 3) := by decide +kernel
theorem dJ0_indexOf_7cf53_7 : decode cJ0_indexOf_7cf53 7 = .ok (.aload_n 0, 1) := by decide +kernel
theorem dJ0_indexOf_7cf53_8 : decode cJ0_indexOf_7cf53 8 = .ok (.getfield 9, 3) := by decide +kernel
theorem dJ0_indexOf_7cf53_11 : decode cJ0_indexOf_7cf53 11 = .ok (.iload_n 1, 1) := by decide +kernel
theorem dJ0_indexOf_7cf53_12 : decode cJ0_indexOf_7cf53 12 = .ok (.iload_n 2, 1) := by decide +kernel
theorem dJ0_indexOf_7cf53_13 : decode cJ0_indexOf_7cf53 13 = .ok (.aload_n 0, 1) := by decide +kernel
theorem dJ0_indexOf_7cf53_14 : decode cJ0_indexOf_7cf53 14 = .ok (.invokevirtual 505, 3) := by decide +kernel
theorem dJ0_indexOf_7cf53_17 : decode cJ0_indexOf_7cf53 17 = .ok (.invokestatic 637, 3) := by decide +kernel
theorem dJ0_indexOf_7cf53_20 : decode cJ0_indexOf_7cf53 20 = .ok (.goto 16, 3) := by decide +kernel
theorem dJ0_indexOf_7cf53_36 : decode cJ0_indexOf_7cf53 36 = .ok (.ireturn, 1) := by decide +kernel
set_option maxRecDepth 100000 in
def f_j_indexOf2 (k0 : Nat) (x1 : Int) (x2 : Int) : (Int) → Prop :=
  calR (f_j_isLatin1 k0) fun z1 => fct (1 ≤ z1 ∧ z1 ≤ 1) <| calR (f_j_length k0) fun z2 => calR (f_j_indexOfL k0 x1 x2 z2) fun z3 => rtn z3
set_option maxHeartbeats 8000000 in
set_option maxRecDepth 100000 in
theorem j_indexOf2 (l : Launch) (D : va_G) (cy : Nat → ClassId) (aK aV : Nat → Nat) (k0 : Nat) (hk0 : k0 < 3) (x1 : Int) (bx1 : -2147483648 ≤ x1 ∧ x1 ≤ 2147483647) (x2 : Int) (bx2 : -2147483648 ≤ x2 ∧ x2 ≤ 2147483647) : zMiS l D (xTY cy) aK aV yJ0_indexOf_7cf53 cJ0_indexOf_7cf53 3 (some .int) 2 48 0 0 [.ref (aK k0), vI x1, vI x2] [] (fun _ : Unit => []) (fun a (u : Unit) => (f_j_indexOf2 k0 x1 x2) a) := by
  refine zMiS.mk (lv0 := [(0, .ref (aK k0)), (1, vI x1), (2, vI x2)]) (by decide) rfl (Nat.le_of_ble_eq_true rfl) (fun p e s m below meth c A C hr hnm hAe hE => ?_)
  have C : xC2 p s m _ meth c D A s.heap 3 cJ0_indexOf_7cf53 RJ0 (xTY cy) := C
  have hF := Imp.of_eq (f_j_indexOf2.eq_def k0 x1 x2)
  refine x_aload_n C.1 dJ0_indexOf_7cf53_0 0 rfl ?_
  refine x_callJiS C hE hk0 (As := []) (rest := []) (j_isLatin1 l D cy aK aV k0 hk0) (l1 := []) (l2 := _) rfl (w2 := fun _ => _) (fun _ => rfl) rfl wm_yJ0_isLatin1_aae02 wn_J0 wl_J0_492 wi_yJ0_isLatin1_aae02 we_yJ0_isLatin1_aae02 hd_yJ0_isLatin1_aae02 rfl ⟨Nat.le_of_ble_eq_true rfl, Nat.le_of_ble_eq_true rfl⟩ (Nat.le_of_ble_eq_true rfl) ⟨Nat.le_of_ble_eq_true rfl, Nat.le_of_ble_eq_true rfl⟩ dJ0_indexOf_7cf53_1 (fun z1 u1 bz1 h1 => ?_)
  obtain ⟨bq1, hFc1⟩ := h1
  replace hF := calR_i hF hFc1
  replace hF := hF.fc bq1
  refine x_if_eq_f C.1 (tgt := 23) dJ0_indexOf_7cf53_4 (by decide) (by omega) (by omega) ?_
  refine x_aload_n C.1 dJ0_indexOf_7cf53_7 0 rfl ?_
  refine x_fval C hE hk0 dJ0_indexOf_7cf53_8 ?_
  refine x_iload_n C.1 dJ0_indexOf_7cf53_11 1 rfl ?_
  refine x_iload_n C.1 dJ0_indexOf_7cf53_12 2 rfl ?_
  refine x_aload_n C.1 dJ0_indexOf_7cf53_13 0 rfl ?_
  refine x_callJiS C hE hk0 (As := []) (rest := [vI x2, vI x1, .ref (aV k0)]) (j_length l D cy aK aV k0 hk0) (l1 := []) (l2 := _) rfl (w2 := fun _ => _) (fun _ => rfl) rfl wm_yJ0_length_8abf5 wn_J0 wl_J0_505 wi_yJ0_length_8abf5 we_yJ0_length_8abf5 hd_yJ0_length_8abf5 rfl ⟨Nat.le_of_ble_eq_true rfl, Nat.le_of_ble_eq_true rfl⟩ (Nat.le_of_ble_eq_true rfl) ⟨Nat.le_of_ble_eq_true rfl, Nat.le_of_ble_eq_true rfl⟩ dJ0_indexOf_7cf53_14 (fun z2 u2 bz2 h2 => ?_)
  have hFc2 := h2
  replace hF := calR_i hF hFc2
  refine x_callSiS C hE (As := [.ref (aV k0), vI x1, vI x2, vI z2]) (rest := []) (j_indexOfL l D cy aK aV k0 hk0 x1 ⟨by omega, by omega⟩ x2 ⟨by omega, by omega⟩ z2 ⟨by omega, by omega⟩) (l1 := []) (l2 := _) rfl (w2 := fun _ => _) (fun _ => rfl) rfl wm_yJ1_indexOf_4cfef wn_J1 wl_J0_637 wi_yJ1_indexOf_4cfef hd_yJ1_indexOf_4cfef rfl ⟨Nat.le_of_ble_eq_true rfl, Nat.le_of_ble_eq_true rfl⟩ (Nat.le_of_ble_eq_true rfl) ⟨Nat.le_of_ble_eq_true rfl, Nat.le_of_ble_eq_true rfl⟩ dJ0_indexOf_7cf53_17 (fun z3 u3 bz3 h3 => ?_)
  have hFc3 := h3
  replace hF := calR_i hF hFc3
  refine x_goto C.1 (tgt := 36) dJ0_indexOf_7cf53_20 (by decide) ?_
  exact x_iret (S := Unit) (post := (fun a (u : Unit) => (f_j_indexOf2 k0 x1 x2) a)) (w1 := (fun _ : Unit => [])) (a := z3) C hr rfl dJ0_indexOf_7cf53_36 (by omega) () rfl (hF _ rfl)
theorem hd_yJ0_indexOf_7cf53 : yJ0_indexOf_7cf53.cls ≠ "java/lang/invoke/MethodHandle" ∧ yJ0_indexOf_7cf53.cls ≠ "java/lang/invoke/VarHandle" ∧ (parseMethodDescriptor yJ0_indexOf_7cf53.desc).map (fun d => d.parameters.length) = some 2 := by decide +kernel
theorem dJ0_indexOf_0f7a4_0 : decode cJ0_indexOf_0f7a4 0 = .ok (.aload_n 0, 1) := by decide +kernel
theorem dJ0_indexOf_0f7a4_1 : decode cJ0_indexOf_0f7a4 1 = .ok (.iload_n 1, 1) := by decide +kernel
theorem dJ0_indexOf_0f7a4_2 : decode cJ0_indexOf_0f7a4 2 = .ok (.iconst 0, 1) := by decide +kernel
theorem dJ0_indexOf_0f7a4_3 : decode cJ0_indexOf_0f7a4 3 = .ok (.invokevirtual 633, 3) := by decide +kernel
theorem dJ0_indexOf_0f7a4_6 : decode cJ0_indexOf_0f7a4 6 = .ok (.ireturn, 1) := by decide +kernel
set_option maxRecDepth 100000 in
def f_j_indexOf (k0 : Nat) (x1 : Int) : (Int) → Prop :=
  calR (f_j_indexOf2 k0 x1 0) fun z1 => rtn z1
set_option maxHeartbeats 8000000 in
set_option maxRecDepth 100000 in
theorem j_indexOf (l : Launch) (D : va_G) (cy : Nat → ClassId) (aK aV : Nat → Nat) (k0 : Nat) (hk0 : k0 < 3) (x1 : Int) (bx1 : -2147483648 ≤ x1 ∧ x1 ≤ 2147483647) : zMiS l D (xTY cy) aK aV yJ0_indexOf_0f7a4 cJ0_indexOf_0f7a4 2 (some .int) 3 70 0 0 [.ref (aK k0), vI x1] [] (fun _ : Unit => []) (fun a (u : Unit) => (f_j_indexOf k0 x1) a) := by
  refine zMiS.mk (lv0 := [(0, .ref (aK k0)), (1, vI x1)]) (by decide) rfl (Nat.le_of_ble_eq_true rfl) (fun p e s m below meth c A C hr hnm hAe hE => ?_)
  have C : xC2 p s m _ meth c D A s.heap 2 cJ0_indexOf_0f7a4 RJ0 (xTY cy) := C
  have hF := Imp.of_eq (f_j_indexOf.eq_def k0 x1)
  refine x_aload_n C.1 dJ0_indexOf_0f7a4_0 0 rfl ?_
  refine x_iload_n C.1 dJ0_indexOf_0f7a4_1 1 rfl ?_
  refine x_iconst C.1 (n := 0) dJ0_indexOf_0f7a4_2 ?_
  refine x_callJiS C hE hk0 (As := [vI x1, vI 0]) (rest := []) (j_indexOf2 l D cy aK aV k0 hk0 x1 ⟨by omega, by omega⟩ 0 ⟨by decide, by decide⟩) (l1 := []) (l2 := _) rfl (w2 := fun _ => _) (fun _ => rfl) rfl wm_yJ0_indexOf_7cf53 wn_J0 wl_J0_633 wi_yJ0_indexOf_7cf53 we_yJ0_indexOf_7cf53 hd_yJ0_indexOf_7cf53 rfl ⟨Nat.le_of_ble_eq_true rfl, Nat.le_of_ble_eq_true rfl⟩ (Nat.le_of_ble_eq_true rfl) ⟨Nat.le_of_ble_eq_true rfl, Nat.le_of_ble_eq_true rfl⟩ dJ0_indexOf_0f7a4_3 (fun z1 u1 bz1 h1 => ?_)
  have hFc1 := h1
  replace hF := calR_i hF hFc1
  exact x_iret (S := Unit) (post := (fun a (u : Unit) => (f_j_indexOf k0 x1) a)) (w1 := (fun _ : Unit => [])) (a := z1) C hr rfl dJ0_indexOf_0f7a4_6 (by omega) () rfl (hF _ rfl)
