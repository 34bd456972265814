theorem dX12_gcd_0 : decode cX12_gcd 0 = .ok (.lload_n 0, 1) := by decide +kernel
theorem dX12_gcd_1 : decode cX12_gcd 1 = .ok (.lstore 4, 2) := by decide +kernel
theorem dX12_gcd_3 : decode cX12_gcd 3 = .ok (.lload_n 2, 1) := by decide +kernel
theorem dX12_gcd_4 : decode cX12_gcd 4 = .ok (.lstore 6, 2) := by decide +kernel
theorem dX12_gcd_6 : decode cX12_gcd 6 = .ok (.lload 6, 2) := by decide +kernel
theorem dX12_gcd_8 : decode cX12_gcd 8 = .ok (.lconst 0, 1) := by decide +kernel
theorem dX12_gcd_9 : decode cX12_gcd 9 = .ok (.lcmp, 1) := by decide +kernel
theorem dX12_gcd_10 : decode cX12_gcd 10 = .ok (.ifCond .eq 21, 3) := by decide +kernel
theorem dX12_gcd_13 : decode cX12_gcd 13 = .ok (.lload 4, 2) := by decide +kernel
theorem dX12_gcd_15 : decode cX12_gcd 15 = .ok (.lload 6, 2) := by decide +kernel
theorem dX12_gcd_17 : decode cX12_gcd 17 = .ok (.lrem, 1) := by decide +kernel
theorem dX12_gcd_18 : decode cX12_gcd 18 = .ok (.lstore 8, 2) := by decide +kernel
theorem dX12_gcd_20 : decode cX12_gcd 20 = .ok (.lload 6, 2) := by decide +kernel
theorem dX12_gcd_22 : decode cX12_gcd 22 = .ok (.lstore 4, 2) := by decide +kernel
theorem dX12_gcd_24 : decode cX12_gcd 24 = .ok (.lload 8, 2) := by decide +kernel
theorem dX12_gcd_26 : decode cX12_gcd 26 = .ok (.lstore 6, 2) := by decide +kernel
theorem dX12_gcd_28 : decode cX12_gcd 28 = .ok (.goto (-22), 3) := by decide +kernel
theorem dX12_gcd_31 : decode cX12_gcd 31 = .ok (.lload 4, 2) := by decide +kernel
theorem dX12_gcd_33 : decode cX12_gcd 33 = .ok (.lreturn, 1) := by decide +kernel
set_option maxRecDepth 100000 in
def f_m_gcd (x0 : Int) (x1 : Int) : (Int) → Prop :=
  lop2 (x1.natAbs + 1) (fun rc11 (z9 : Int) (z10 : Int) => (if (lcI z9 0) = 0 then rtn z10 else rdb (jRem z10 z9) fun z14 => rc11 z14 z9)) x1 x0
set_option maxHeartbeats 8000000 in
set_option maxRecDepth 100000 in
theorem m_gcd (l : Launch) (D : va_G) (cy : Nat → ClassId) (x0 : Int) (bx0 : -9223372036854775808 ≤ x0 ∧ x0 ≤ 9223372036854775807) (x1 : Int) (bx1 : -9223372036854775808 ≤ x1 ∧ x1 ≤ 9223372036854775807) : xMl l D (xTY cy) yX12_gcd cX12_gcd 10 (some .long) 0 0 0 0 [vJ x0, vJ x1] [] (fun _ : Unit => []) (fun a (u : Unit) => (¬ a = 0 ∨ (x0 = 0 ∧ x1 = 0)) ∧ (f_m_gcd x0 x1) a) := by
  refine xMl.mk (lv0 := [(0, vJ x0), (2, vJ x1)]) (by decide) rfl (Nat.le_of_ble_eq_true rfl) (fun p e s m below meth c A C hr hnm hAe => ?_)
  have C : xC2 p s m _ meth c D A s.heap 10 cX12_gcd RX12 (xTY cy) := C
  have hF := Imp.of_eq (f_m_gcd.eq_def x0 x1)
  refine x_lload_n C.1 dX12_gcd_0 0 rfl ?_
  refine x_lstore C.1 (lv' := [(4, vJ x0), (0, vJ x0), (2, vJ x1)]) dX12_gcd_1 (by decide) rfl ?_
  refine x_lload_n C.1 dX12_gcd_3 2 rfl ?_
  refine x_lstore C.1 (lv' := [(6, vJ x1), (4, vJ x0), (0, vJ x0), (2, vJ x1)]) dX12_gcd_4 (by decide) rfl ?_
  obtain ⟨bd11, hbd11, hF⟩ := lop2_ex hF
  refine x_loop (I := fun x : Int × Int => match x with | (z9, z10) => (-9223372036854775808 ≤ z9 ∧ z9 ≤ 9223372036854775807) ∧ (-9223372036854775808 ≤ z10 ∧ z10 ≤ 9223372036854775807) ∧ ((x0 = 0 ∧ x1 = 0) ∨ ¬ z10 = 0 ∨ ¬ z9 = 0) ∧ (∃ nf : Nat, z9.natAbs < nf ∧ Imp (lop2 nf bd11 z9 z10) (f_m_gcd x0 x1))) (μ := fun x : Int × Int => match x with | (z9, z10) => z9.natAbs) (wsf := fun x : Int × Int => match x with | (z9, z10) => []) (lvf := fun x : Int × Int => match x with | (z9, z10) => [(6, vJ z9), (4, vJ z10), (0, vJ x0), (2, vJ x1)]) (fun x hI11x ih11 => ?_) (x1, x0) ⟨⟨by omega, by omega⟩, ⟨by omega, by omega⟩, (by omega), ⟨_, (Nat.lt_succ_self _), hF⟩⟩ rfl rfl
  obtain ⟨z9, z10⟩ := x
  obtain ⟨bz9, bz10, hg, nf11, hn11, hF⟩ := hI11x
  try dsimp only
  obtain ⟨nf11, rfl⟩ : ∃ mm, nf11 = mm + 1 := ⟨nf11 - 1, (Nat.succ_pred_eq_of_pos (Nat.lt_of_le_of_lt (Nat.zero_le _) hn11)).symm⟩
  replace hF := hF.to (lop2_s hbd11)
  refine x_lload C.1 dX12_gcd_6 0 rfl ?_
  refine x_lconst0 C.1 dX12_gcd_8 ?_
  refine x_lcmp C.1 rfl dX12_gcd_9 (by omega) (by decide) ?_
  have bz12 := lcI_r2 z9 0
  refine x_if_eq C.1 (tgt := 31) dX12_gcd_10 (by decide) (by omega) (fun hc13 => ?_) (fun hc13 => ?_)
  · replace hF := hF.to (if_pos hc13)
    rw [lcI_eq] at hc13
    refine x_lload C.1 dX12_gcd_31 1 rfl ?_
    exact x_lret (S := Unit) (post := (fun a (u : Unit) => (¬ a = 0 ∨ (x0 = 0 ∧ x1 = 0)) ∧ (f_m_gcd x0 x1) a)) (w1 := (fun _ : Unit => [])) (a := z10) C hr rfl dX12_gcd_33 (by omega) () rfl ⟨(by omega), hF _ rfl⟩
  · replace hF := hF.to (if_neg hc13)
    rw [lcI_eq] at hc13
    refine x_lload C.1 dX12_gcd_13 1 rfl ?_
    refine x_lload C.1 dX12_gcd_15 0 rfl ?_
    obtain ⟨z14, hz14, bz14, hl14⟩ : ∃ z : Int, jRem z10 z9 = z ∧ R64 z ∧ z.natAbs < (z9).natAbs := ⟨_, rfl, xj_r _, jRem_lt (by omega) (by omega) (by omega)⟩
    replace hF := hF.to (rdb_e (z := z14) hz14)
    refine x_lrem C.1 (v := z14) hz14 dX12_gcd_17 (by omega) (by omega) ?_
    refine x_lstore C.1 (lv' := [(8, vJ z14), (6, vJ z9), (4, vJ z10), (0, vJ x0), (2, vJ x1)]) dX12_gcd_18 (by decide) rfl ?_
    refine x_lload C.1 dX12_gcd_20 1 rfl ?_
    refine x_lstore C.1 (lv' := [(4, vJ z9), (8, vJ z14), (6, vJ z9), (0, vJ x0), (2, vJ x1)]) dX12_gcd_22 (by decide) rfl ?_
    refine x_lload C.1 dX12_gcd_24 1 rfl ?_
    refine x_lstore C.1 (lv' := [(6, vJ z14), (4, vJ z9), (8, vJ z14), (0, vJ x0), (2, vJ x1)]) dX12_gcd_26 (by decide) rfl ?_
    refine x_goto C.1 (tgt := 6) dX12_gcd_28 (by decide) ?_
    refine x_lv [(6, vJ z14), (4, vJ z9), (0, vJ x0), (2, vJ x1)] [0, 1, 3, 4] rfl ?_
    have hmu11 : z14.natAbs < z9.natAbs := (by first | omega | assumption)
    exact ih11 (z14, z9) ⟨⟨by omega, by omega⟩, ⟨by omega, by omega⟩, (by omega), ⟨nf11, Nat.lt_of_lt_of_le hmu11 (Nat.le_of_lt_succ hn11), hF⟩⟩ hmu11
theorem hd_yX12_gcd : yX12_gcd.cls ≠ "java/lang/invoke/MethodHandle" ∧ yX12_gcd.cls ≠ "java/lang/invoke/VarHandle" ∧ (parseMethodDescriptor yX12_gcd.desc).map (fun d => d.parameters.length) = some 2 := by decide +kernel
theorem dX12_through_0 : decode cX12_through 0 = .ok (.lload_n 0, 1) := by decide +kernel
theorem dX12_through_1 : decode cX12_through 1 = .ok (.lload_n 2, 1) := by decide +kernel
theorem dX12_through_2 : decode cX12_through 2 = .ok (.invokestatic 114, 3) := by decide +kernel
theorem dX12_through_5 : decode cX12_through 5 = .ok (.lstore 5, 2) := by decide +kernel
theorem dX12_through_7 : decode cX12_through 7 = .ok (.iload 4, 2) := by decide +kernel
theorem dX12_through_9 : decode cX12_through 9 = .ok (.ifCond .ne 10, 3) := by decide +kernel
theorem dX12_through_12 : decode cX12_through 12 = .ok (.lload_n 0, 1) := by decide +kernel
theorem dX12_through_13 : decode cX12_through 13 = .ok (.lload 5, 2) := by decide +kernel
theorem dX12_through_15 : decode cX12_through 15 = .ok (.ldiv, 1) := by decide +kernel
theorem dX12_through_16 : decode cX12_through 16 = .ok (.goto 7, 3) := by decide +kernel
theorem dX12_through_19 : decode cX12_through 19 = .ok (.lload_n 2, 1) := by decide +kernel
theorem dX12_through_20 : decode cX12_through 20 = .ok (.lload 5, 2) := by decide +kernel
theorem dX12_through_22 : decode cX12_through 22 = .ok (.ldiv, 1) := by decide +kernel
theorem dX12_through_23 : decode cX12_through 23 = .ok (.lreturn, 1) := by decide +kernel
set_option maxRecDepth 100000 in
def f_m_through (x0 : Int) (x1 : Int) (x2 : Int) : (Int) → Prop :=
  calR (f_m_gcd x0 x1) fun z1 => (if ¬ x2 = 0 then rdb (jDiv x1 z1) fun z3 => rtn z3 else rdb (jDiv x0 z1) fun z4 => rtn z4)
set_option maxHeartbeats 8000000 in
set_option maxRecDepth 100000 in
theorem m_through (l : Launch) (D : va_G) (cy : Nat → ClassId) (x0 : Int) (bx0 : -9223372036854775808 ≤ x0 ∧ x0 ≤ 9223372036854775807) (x1 : Int) (bx1 : -9223372036854775808 ≤ x1 ∧ x1 ≤ 9223372036854775807) (x2 : Int) (bx2 : -2147483648 ≤ x2 ∧ x2 ≤ 2147483647) (hnz : ¬ x1 = 0) : xMl l D (xTY cy) yX12_through cX12_through 7 (some .long) 1 29 0 0 [vJ x0, vJ x1, vI x2] [] (fun _ : Unit => []) (fun a (u : Unit) => (f_m_through x0 x1 x2) a) := by
  refine xMl.mk (lv0 := [(0, vJ x0), (2, vJ x1), (4, vI x2)]) (by decide) rfl (Nat.le_of_ble_eq_true rfl) (fun p e s m below meth c A C hr hnm hAe => ?_)
  have C : xC2 p s m _ meth c D A s.heap 7 cX12_through RX12 (xTY cy) := C
  have hF := Imp.of_eq (f_m_through.eq_def x0 x1 x2)
  refine x_lload_n C.1 dX12_through_0 0 rfl ?_
  refine x_lload_n C.1 dX12_through_1 1 rfl ?_
  refine x_callSl C (As := [vJ x0, vJ x1]) (rest := []) (m_gcd l D cy x0 ⟨by omega, by omega⟩ x1 ⟨by omega, by omega⟩) (l1 := []) (l2 := _) rfl (w2 := fun _ => _) (fun _ => rfl) rfl wm_yX12_gcd wn_X12 wl_X12_114 wi_yX12_gcd hd_yX12_gcd rfl ⟨Nat.le_of_ble_eq_true rfl, Nat.le_of_ble_eq_true rfl⟩ (Nat.le_of_ble_eq_true rfl) ⟨Nat.le_of_ble_eq_true rfl, Nat.le_of_ble_eq_true rfl⟩ dX12_through_2 (fun z1 u1 bz1 h1 => ?_)
  obtain ⟨hx1_0, hFc1⟩ := h1
  replace hF := calR_i hF hFc1
  refine x_lstore C.1 (lv' := [(5, vJ z1), (0, vJ x0), (2, vJ x1), (4, vI x2)]) dX12_through_5 (by decide) rfl ?_
  refine x_iload C.1 dX12_through_7 3 rfl ?_
  refine x_if_ne C.1 (tgt := 19) dX12_through_9 (by decide) (by omega) (fun hc2 => ?_) (fun hc2 => ?_)
  · replace hF := hF.to (if_pos hc2)
    refine x_lload_n C.1 dX12_through_19 2 rfl ?_
    refine x_lload C.1 dX12_through_20 0 rfl ?_
    obtain ⟨z3, hz3, bz3⟩ : ∃ z : Int, jDiv x1 z1 = z ∧ R64 z := ⟨_, rfl, xj_r _⟩
    replace hF := hF.to (rdb_e (z := z3) hz3)
    refine x_ldiv C.1 (v := z3) hz3 dX12_through_22 (by omega) (by omega) ?_
    exact x_lret (S := Unit) (post := (fun a (u : Unit) => (f_m_through x0 x1 x2) a)) (w1 := (fun _ : Unit => [])) (a := z3) C hr rfl dX12_through_23 (by omega) () rfl (hF _ rfl)
  · replace hF := hF.to (if_neg (fun hh => hh hc2))
    refine x_lload_n C.1 dX12_through_12 1 rfl ?_
    refine x_lload C.1 dX12_through_13 0 rfl ?_
    obtain ⟨z4, hz4, bz4⟩ : ∃ z : Int, jDiv x0 z1 = z ∧ R64 z := ⟨_, rfl, xj_r _⟩
    replace hF := hF.to (rdb_e (z := z4) hz4)
    refine x_ldiv C.1 (v := z4) hz4 dX12_through_15 (by omega) (by omega) ?_
    refine x_goto C.1 (tgt := 23) dX12_through_16 (by decide) ?_
    exact x_lret (S := Unit) (post := (fun a (u : Unit) => (f_m_through x0 x1 x2) a)) (w1 := (fun _ : Unit => [])) (a := z4) C hr rfl dX12_through_23 (by omega) () rfl (hF _ rfl)
theorem hd_yX12_through : yX12_through.cls ≠ "java/lang/invoke/MethodHandle" ∧ yX12_through.cls ≠ "java/lang/invoke/VarHandle" ∧ (parseMethodDescriptor yX12_through.desc).map (fun d => d.parameters.length) = some 3 := by decide +kernel
theorem dX12_share_0 : decode cX12_share 0 = .ok (.iconst 0, 1) := by decide +kernel
theorem dX12_share_1 : decode cX12_share 1 = .ok (.istore_n 3, 1) := by decide +kernel
theorem dX12_share_2 : decode cX12_share 2 = .ok (.bipush (-2), 2) := by decide +kernel
theorem dX12_share_4 : decode cX12_share 4 = .ok (.istore 4, 2) := by decide +kernel
theorem dX12_share_6 : decode cX12_share 6 = .ok (.iconst 0, 1) := by decide +kernel
theorem dX12_share_7 : decode cX12_share 7 = .ok (.istore 5, 2) := by decide +kernel
theorem dX12_share_9 : decode cX12_share 9 = .ok (.iload 5, 2) := by decide +kernel
theorem dX12_share_11 : decode cX12_share 11 = .ok (.bipush 8, 2) := by decide +kernel
theorem dX12_share_13 : decode cX12_share 13 = .ok (.if_icmp .ge 81, 3) := by decide +kernel
theorem dX12_share_16 : decode cX12_share 16 = .ok (.aload_n 0, 1) := by decide +kernel
theorem dX12_share_17 : decode cX12_share 17 = .ok (.iload 5, 2) := by decide +kernel
theorem dX12_share_19 : decode cX12_share 19 = .ok (.invokevirtual 259, 3) := by decide +kernel
theorem dX12_share_22 : decode cX12_share 22 = .ok (.ifCond .ne 6, 3) := by decide +kernel
theorem dX12_share_25 : decode cX12_share 25 = .ok (.goto 63, 3) := by decide +kernel
theorem dX12_share_28 : decode cX12_share 28 = .ok (.iload_n 3, 1) := by decide +kernel
theorem dX12_share_29 : decode cX12_share 29 = .ok (.aload_n 0, 1) := by decide +kernel
theorem dX12_share_30 : decode cX12_share 30 = .ok (.getfield 7, 3) := by decide +kernel
theorem dX12_share_33 : decode cX12_share 33 = .ok (.bipush 68, 2) := by decide +kernel
theorem dX12_share_35 : decode cX12_share 35 = .ok (.iload 5, 2) := by decide +kernel
theorem dX12_share_37 : decode cX12_share 37 = .ok (.iadd, 1) := by decide +kernel
theorem dX12_share_38 : decode cX12_share 38 = .ok (.iaload, 1) := by decide +kernel
theorem dX12_share_39 : decode cX12_share 39 = .ok (.iadd, 1) := by decide +kernel
theorem dX12_share_40 : decode cX12_share 40 = .ok (.istore_n 3, 1) := by decide +kernel
theorem dX12_share_41 : decode cX12_share 41 = .ok (.aload_n 0, 1) := by decide +kernel
theorem dX12_share_42 : decode cX12_share 42 = .ok (.getfield 7, 3) := by decide +kernel
theorem dX12_share_45 : decode cX12_share 45 = .ok (.bipush 68, 2) := by decide +kernel
theorem dX12_share_47 : decode cX12_share 47 = .ok (.iload 5, 2) := by decide +kernel
theorem dX12_share_49 : decode cX12_share 49 = .ok (.iadd, 1) := by decide +kernel
theorem dX12_share_50 : decode cX12_share 50 = .ok (.iaload, 1) := by decide +kernel
theorem dX12_share_51 : decode cX12_share 51 = .ok (.ifCond .le 37, 3) := by decide +kernel
theorem dX12_share_54 : decode cX12_share 54 = .ok (.iload 4, 2) := by decide +kernel
theorem dX12_share_56 : decode cX12_share 56 = .ok (.bipush (-2), 2) := by decide +kernel
theorem dX12_share_58 : decode cX12_share 58 = .ok (.if_icmp .eq 26, 3) := by decide +kernel
theorem dX12_share_61 : decode cX12_share 61 = .ok (.aload_n 0, 1) := by decide +kernel
theorem dX12_share_62 : decode cX12_share 62 = .ok (.getfield 7, 3) := by decide +kernel
theorem dX12_share_65 : decode cX12_share 65 = .ok (.bipush 68, 2) := by decide +kernel
theorem dX12_share_67 : decode cX12_share 67 = .ok (.iload 5, 2) := by decide +kernel
theorem dX12_share_69 : decode cX12_share 69 = .ok (.iadd, 1) := by decide +kernel
theorem dX12_share_70 : decode cX12_share 70 = .ok (.iaload, 1) := by decide +kernel
theorem dX12_share_71 : decode cX12_share 71 = .ok (.aload_n 0, 1) := by decide +kernel
theorem dX12_share_72 : decode cX12_share 72 = .ok (.getfield 7, 3) := by decide +kernel
theorem dX12_share_75 : decode cX12_share 75 = .ok (.bipush 68, 2) := by decide +kernel
theorem dX12_share_77 : decode cX12_share 77 = .ok (.iload 4, 2) := by decide +kernel
theorem dX12_share_79 : decode cX12_share 79 = .ok (.iadd, 1) := by decide +kernel
theorem dX12_share_80 : decode cX12_share 80 = .ok (.iaload, 1) := by decide +kernel
theorem dX12_share_81 : decode cX12_share 81 = .ok (.if_icmp .le 7, 3) := by decide +kernel
theorem dX12_share_84 : decode cX12_share 84 = .ok (.iload 5, 2) := by decide +kernel
theorem dX12_share_86 : decode cX12_share 86 = .ok (.istore 4, 2) := by decide +kernel
theorem dX12_share_88 : decode cX12_share 88 = .ok (.iinc 5 1, 3) := by decide +kernel
theorem dX12_share_91 : decode cX12_share 91 = .ok (.goto (-82), 3) := by decide +kernel
theorem dX12_share_94 : decode cX12_share 94 = .ok (.iload_n 1, 1) := by decide +kernel
theorem dX12_share_95 : decode cX12_share 95 = .ok (.iconst (-1), 1) := by decide +kernel
theorem dX12_share_96 : decode cX12_share 96 = .ok (.if_icmp .ne 14, 3) := by decide +kernel
theorem dX12_share_99 : decode cX12_share 99 = .ok (.iload_n 2, 1) := by decide +kernel
theorem dX12_share_100 : decode cX12_share 100 = .ok (.ifCond .ne 8, 3) := by decide +kernel
theorem dX12_share_103 : decode cX12_share 103 = .ok (.iload 4, 2) := by decide +kernel
theorem dX12_share_105 : decode cX12_share 105 = .ok (.goto 4, 3) := by decide +kernel
theorem dX12_share_108 : decode cX12_share 108 = .ok (.iconst (-1), 1) := by decide +kernel
theorem dX12_share_109 : decode cX12_share 109 = .ok (.ireturn, 1) := by decide +kernel
theorem dX12_share_110 : decode cX12_share 110 = .ok (.aload_n 0, 1) := by decide +kernel
theorem dX12_share_111 : decode cX12_share 111 = .ok (.iload_n 1, 1) := by decide +kernel
theorem dX12_share_112 : decode cX12_share 112 = .ok (.invokevirtual 259, 3) := by decide +kernel
theorem dX12_share_115 : decode cX12_share 115 = .ok (.ifCond .eq 12, 3) := by decide +kernel
theorem dX12_share_118 : decode cX12_share 118 = .ok (.iload_n 2, 1) := by decide +kernel
theorem dX12_share_119 : decode cX12_share 119 = .ok (.iconst 0, 1) := by decide +kernel
theorem dX12_share_120 : decode cX12_share 120 = .ok (.iconst 1, 1) := by decide +kernel
theorem dX12_share_121 : decode cX12_share 121 = .ok (.invokestatic 126, 3) := by decide +kernel
theorem dX12_share_124 : decode cX12_share 124 = .ok (.ifCond .ne 5, 3) := by decide +kernel
theorem dX12_share_127 : decode cX12_share 127 = .ok (.iconst (-1), 1) := by decide +kernel
theorem dX12_share_128 : decode cX12_share 128 = .ok (.ireturn, 1) := by decide +kernel
theorem dX12_share_129 : decode cX12_share 129 = .ok (.iload_n 3, 1) := by decide +kernel
theorem dX12_share_130 : decode cX12_share 130 = .ok (.ifCond .ne 7, 3) := by decide +kernel
theorem dX12_share_133 : decode cX12_share 133 = .ok (.iload_n 2, 1) := by decide +kernel
theorem dX12_share_134 : decode cX12_share 134 = .ok (.goto 20, 3) := by decide +kernel
theorem dX12_share_137 : decode cX12_share 137 = .ok (.aload_n 0, 1) := by decide +kernel
theorem dX12_share_138 : decode cX12_share 138 = .ok (.getfield 7, 3) := by decide +kernel
theorem dX12_share_141 : decode cX12_share 141 = .ok (.bipush 68, 2) := by decide +kernel
theorem dX12_share_143 : decode cX12_share 143 = .ok (.iload_n 1, 1) := by decide +kernel
theorem dX12_share_144 : decode cX12_share 144 = .ok (.iadd, 1) := by decide +kernel
theorem dX12_share_145 : decode cX12_share 145 = .ok (.iaload, 1) := by decide +kernel
theorem dX12_share_146 : decode cX12_share 146 = .ok (.i2l, 1) := by decide +kernel
theorem dX12_share_147 : decode cX12_share 147 = .ok (.iload_n 3, 1) := by decide +kernel
theorem dX12_share_148 : decode cX12_share 148 = .ok (.i2l, 1) := by decide +kernel
theorem dX12_share_149 : decode cX12_share 149 = .ok (.iload_n 2, 1) := by decide +kernel
theorem dX12_share_150 : decode cX12_share 150 = .ok (.invokestatic 382, 3) := by decide +kernel
theorem dX12_share_153 : decode cX12_share 153 = .ok (.l2i, 1) := by decide +kernel
theorem dX12_share_154 : decode cX12_share 154 = .ok (.ireturn, 1) := by decide +kernel
set_option maxRecDepth 100000 in
def f_m_share (x1 : Int) (x2 : Int) (V : Nat → Nat → Int) (J : Nat → Nat → Int) (Rr : Nat → Nat → Nat) : (Int) → Prop :=
  lop3 (10) (fun rc189 (z186 : Int) (z187 : Int) (z188 : Int) => (if 8 ≤ z186 then (if ¬ x1 = (-1) then calR (f_m_isPerson x1 V J Rr) fun z262 => fct (0 ≤ z262 ∧ z262 ≤ 1) <| (if z262 = 0 then rtn ((-1)) else calR (f_m_in x2 0 1) fun z265 => fct (0 ≤ z265 ∧ z265 ≤ 1) <| (if ¬ z265 = 0 then (if ¬ z188 = 0 then rdb (V 1 ((x1 + 68).toNat)) fun z269 => calR (f_m_through z269 z188 x2) fun z270 => rdb (iL z270) fun z271 => rtn z271 else rtn x2) else rtn ((-1)))) else (if ¬ x2 = 0 then rtn ((-1)) else rtn z187)) else calR (f_m_isPerson z186 V J Rr) fun z273 => fct (0 ≤ z273 ∧ z273 ≤ 1) <| jnk (fun (z281 : Int) (z282 : Int) => rc189 (z186 + 1) z282 z281) fun jf283 => (if ¬ z273 = 0 then rdb (V 1 ((z186 + 68).toNat)) fun z286 => rdb (wr (z188 + z286)) fun z287 => (if z286 ≤ 0 then jf283 z287 z187 else (if z187 = (-2) then jf283 z287 z186 else rdb (V 1 ((z187 + 68).toNat)) fun z290 => (if z286 ≤ z290 then jf283 z287 z187 else jf283 z287 z186))) else jf283 z188 z187))) 0 ((-2)) 0
set_option maxHeartbeats 8000000 in
set_option maxRecDepth 100000 in
theorem m_share (l : Launch) (D : va_G) (cy : Nat → ClassId) (ad : Nat → Nat) (G : Nat → Nat → Int) (V J : Nat → Nat → Int) (Rr : Nat → Nat → Nat) (hI : MI G V) (hJ : VJ J) (hR : MR Rr) (x1 : Int) (bx1 : -2147483648 ≤ x1 ∧ x1 ≤ 2147483647) (x2 : Int) (bx2 : -2147483648 ≤ x2 ∧ x2 ≤ 2147483647) : xMi l D (xTY cy) yX12_share cX12_share 6 (some .int) 2 55 0 0 [.ref (ad 0), vI x1, vI x2] (MW cy ad V J Rr) (fun _ : Unit => MW cy ad V J Rr) (fun a (u : Unit) => (f_m_share x1 x2 V J Rr) a) := by
  refine xMi.mk (lv0 := [(0, .ref (ad 0)), (1, vI x1), (2, vI x2)]) (by decide) rfl (Nat.le_of_ble_eq_true rfl) (fun p e s m below meth c A C hr hnm hAe => ?_)
  have C : xC2 p s m _ meth c D A s.heap 6 cX12_share RX12 (xTY cy) := C
  have hF := Imp.of_eq (f_m_share.eq_def x1 x2 V J Rr)
  refine x_iconst C.1 (n := 0) dX12_share_0 ?_
  refine x_istore_n C.1 (lv' := [(3, vI 0), (0, .ref (ad 0)), (1, vI x1), (2, vI x2)]) dX12_share_1 (by decide) rfl ?_
  refine x_bipush C.1 (n := -2) dX12_share_2 ?_
  refine x_istore C.1 (lv' := [(4, vI (-2)), (3, vI 0), (0, .ref (ad 0)), (1, vI x1), (2, vI x2)]) dX12_share_4 (by decide) rfl ?_
  refine x_iconst C.1 (n := 0) dX12_share_6 ?_
  refine x_istore C.1 (lv' := [(5, vI 0), (4, vI (-2)), (3, vI 0), (0, .ref (ad 0)), (1, vI x1), (2, vI x2)]) dX12_share_7 (by decide) rfl ?_
  obtain ⟨bd189, hbd189, hF⟩ := lop3_ex hF
  refine x_loop (I := fun x : Int × Int × Int => match x with | (z186, z187, z188) => (0 ≤ z186 ∧ z186 ≤ 8) ∧ (-2 ≤ z187 ∧ z187 ≤ 7) ∧ (-2147483648 ≤ z188 ∧ z188 ≤ 2147483647) ∧ (∃ nf : Nat, (9 - z186).toNat < nf ∧ Imp (lop3 nf bd189 z186 z187 z188) (f_m_share x1 x2 V J Rr))) (μ := fun x : Int × Int × Int => match x with | (z186, z187, z188) => (9 - z186).toNat) (wsf := fun x : Int × Int × Int => match x with | (z186, z187, z188) => MW cy ad V J Rr) (lvf := fun x : Int × Int × Int => match x with | (z186, z187, z188) => [(5, vI z186), (4, vI z187), (3, vI z188), (0, .ref (ad 0)), (1, vI x1), (2, vI x2)]) (fun x hI189x ih189 => ?_) (0, (-2), 0) ⟨⟨by decide, by decide⟩, ⟨by decide, by decide⟩, ⟨by decide, by decide⟩, ⟨_, (by omega), hF⟩⟩ rfl rfl
  obtain ⟨z186, z187, z188⟩ := x
  obtain ⟨bz186, bz187, bz188, nf189, hn189, hF⟩ := hI189x
  try dsimp only
  obtain ⟨nf189, rfl⟩ : ∃ mm, nf189 = mm + 1 := ⟨nf189 - 1, (Nat.succ_pred_eq_of_pos (Nat.lt_of_le_of_lt (Nat.zero_le _) hn189)).symm⟩
  replace hF := hF.to (lop3_s hbd189)
  refine x_iload C.1 dX12_share_9 0 rfl ?_
  refine x_bipush C.1 (n := 8) dX12_share_11 ?_
  refine x_icmp_ge C.1 (tgt := 94) dX12_share_13 (by decide) (by omega) (by decide) (fun hc260 => ?_) (fun hc260 => ?_)
  · replace hF := hF.to (if_pos hc260)
    refine x_iload_n C.1 dX12_share_94 4 rfl ?_
    refine x_iconst C.1 (n := -1) dX12_share_95 ?_
    refine x_icmp_ne C.1 (tgt := 110) dX12_share_96 (by decide) (by omega) (by decide) (fun hc261 => ?_) (fun hc261 => ?_)
    · replace hF := hF.to (if_pos hc261)
      refine x_aload_n C.1 dX12_share_110 3 rfl ?_
      refine x_iload_n C.1 dX12_share_111 4 rfl ?_
      refine x_callVi C (As := [vI x1]) (rest := []) 0 (xw_at (N := 33) (i := 0) (by decide) rfl) vc_X12 (m_isPerson l D cy ad G V J Rr hI hJ hR x1 ⟨by omega, by omega⟩) (l1 := []) (l2 := []) (List.append_nil _).symm (w2 := fun _ => MW cy ad V J Rr) (fun _ => List.append_nil _) rfl wm_yX12_isPerson wn_X12 wl_X12_259 wi_yX12_isPerson we_yX12_isPerson hd_yX12_isPerson rfl ⟨Nat.le_of_ble_eq_true rfl, Nat.le_of_ble_eq_true rfl⟩ (Nat.le_of_ble_eq_true rfl) ⟨Nat.le_of_ble_eq_true rfl, Nat.le_of_ble_eq_true rfl⟩ dX12_share_112 (fun z262 u262 bz262 h262 => ?_)
      obtain ⟨hon262, hFc262⟩ := h262
      replace hF := calR_i hF hFc262
      replace hF := hF.fc hon262.r
      have bq262 := Sp.r hon262
      refine x_if_eq C.1 (tgt := 127) dX12_share_115 (by decide) (by omega) (fun hc263 => ?_) (fun hc263 => ?_)
      · replace hF := hF.to (if_pos hc263)
        refine x_iconst C.1 (n := -1) dX12_share_127 ?_
        exact x_iret (S := Unit) (post := (fun a (u : Unit) => (f_m_share x1 x2 V J Rr) a)) (w1 := (fun _ : Unit => MW cy ad V J Rr)) (a := (-1)) C hr rfl dX12_share_128 (by decide) () rfl (hF _ rfl)
      · replace hF := hF.to (if_neg hc263)
        have hon264 := Sp.on hon262 (by omega)
        refine x_iload_n C.1 dX12_share_118 5 rfl ?_
        refine x_iconst C.1 (n := 0) dX12_share_119 ?_
        refine x_iconst C.1 (n := 1) dX12_share_120 ?_
        refine x_callSi C (As := [vI x2, vI 0, vI 1]) (rest := []) (m_in l D cy x2 ⟨by omega, by omega⟩ 0 ⟨by decide, by decide⟩ 1 ⟨by decide, by decide⟩) (l1 := []) (l2 := _) rfl (w2 := fun _ => _) (fun _ => rfl) rfl wm_yX12_in wn_X12 wl_X12_126 wi_yX12_in hd_yX12_in rfl ⟨Nat.le_of_ble_eq_true rfl, Nat.le_of_ble_eq_true rfl⟩ (Nat.le_of_ble_eq_true rfl) ⟨Nat.le_of_ble_eq_true rfl, Nat.le_of_ble_eq_true rfl⟩ dX12_share_121 (fun z265 u265 bz265 h265 => ?_)
        obtain ⟨bq265, hx265_0, hFc265⟩ := h265
        replace hF := calR_i hF hFc265
        replace hF := hF.fc bq265
        refine x_if_ne C.1 (tgt := 129) dX12_share_124 (by decide) (by omega) (fun hc266 => ?_) (fun hc266 => ?_)
        · replace hF := hF.to (if_pos hc266)
          have hon267 := Sq.on hx265_0 (by omega)
          refine x_iload_n C.1 dX12_share_129 2 rfl ?_
          refine x_if_ne C.1 (tgt := 137) dX12_share_130 (by decide) (by omega) (fun hc268 => ?_) (fun hc268 => ?_)
          · replace hF := hF.to (if_pos hc268)
            refine x_aload_n C.1 dX12_share_137 3 rfl ?_
            refine x_getA C (N := 33) (i := 0) (by decide) rfl vc_X12 wx_X12 0 (by decide) wf_X12_7 (a := 1) rfl dX12_share_138 ?_
            refine x_bipush C.1 (n := 68) dX12_share_141 ?_
            refine x_iload_n C.1 dX12_share_143 4 rfl ?_
            refine x_iadd C.1 (v := x1 + 68) (by omega) dX12_share_144 ?_
            obtain ⟨z269, ez269, bz269⟩ := hI.rd 1 ((x1 + 68).toNat) (x := -2147483648) (y := 2147483647) (rgN_81 (Or.inl rfl) (by omega))
            replace hF := hF.to (rdb_e (z := z269) ez269)
            refine x_iald C (N := 33) (i := 1) (q := x1 + 68) (by decide) rfl (by omega) (by decide) dX12_share_145 (a := z269) ez269 ?_
            refine x_i2l C.1 dX12_share_146 (by omega) ?_
            refine x_iload_n C.1 dX12_share_147 2 rfl ?_
            refine x_i2l C.1 dX12_share_148 (by omega) ?_
            refine x_iload_n C.1 dX12_share_149 5 rfl ?_
            refine x_callSl C (As := [vJ z269, vJ z188, vI x2]) (rest := []) (m_through l D cy z269 ⟨by omega, by omega⟩ z188 ⟨by omega, by omega⟩ x2 ⟨by omega, by omega⟩ (by omega)) (l1 := []) (l2 := _) rfl (w2 := fun _ => _) (fun _ => rfl) rfl wm_yX12_through wn_X12 wl_X12_382 wi_yX12_through hd_yX12_through rfl ⟨Nat.le_of_ble_eq_true rfl, Nat.le_of_ble_eq_true rfl⟩ (Nat.le_of_ble_eq_true rfl) ⟨Nat.le_of_ble_eq_true rfl, Nat.le_of_ble_eq_true rfl⟩ dX12_share_150 (fun z270 u270 bz270 h270 => ?_)
            have hFc270 := h270
            replace hF := calR_i hF hFc270
            refine x_l2i C.1 dX12_share_153 ?_
            obtain ⟨z271, hz271, bz271⟩ : ∃ z : Int, iL z270 = z ∧ (-2147483648 ≤ z ∧ z ≤ 2147483647) := ⟨_, rfl, xi_r _⟩
            rw [hz271]
            replace hF := hF.to (rdb_e (z := z271) hz271)
            exact x_iret (S := Unit) (post := (fun a (u : Unit) => (f_m_share x1 x2 V J Rr) a)) (w1 := (fun _ : Unit => MW cy ad V J Rr)) (a := z271) C hr rfl dX12_share_154 (by omega) () rfl (hF _ rfl)
          · replace hF := hF.to (if_neg (fun hh => hh hc268))
            refine x_iload_n C.1 dX12_share_133 5 rfl ?_
            refine x_goto C.1 (tgt := 154) dX12_share_134 (by decide) ?_
            exact x_iret (S := Unit) (post := (fun a (u : Unit) => (f_m_share x1 x2 V J Rr) a)) (w1 := (fun _ : Unit => MW cy ad V J Rr)) (a := x2) C hr rfl dX12_share_154 (by omega) () rfl (hF _ rfl)
        · replace hF := hF.to (if_neg (fun hh => hh hc266))
          refine x_iconst C.1 (n := -1) dX12_share_127 ?_
          exact x_iret (S := Unit) (post := (fun a (u : Unit) => (f_m_share x1 x2 V J Rr) a)) (w1 := (fun _ : Unit => MW cy ad V J Rr)) (a := (-1)) C hr rfl dX12_share_128 (by decide) () rfl (hF _ rfl)
    · replace hF := hF.to (if_neg (fun hh => hh hc261))
      refine x_iload_n C.1 dX12_share_99 5 rfl ?_
      refine x_if_ne C.1 (tgt := 108) dX12_share_100 (by decide) (by omega) (fun hc272 => ?_) (fun hc272 => ?_)
      · replace hF := hF.to (if_pos hc272)
        refine x_iconst C.1 (n := -1) dX12_share_108 ?_
        exact x_iret (S := Unit) (post := (fun a (u : Unit) => (f_m_share x1 x2 V J Rr) a)) (w1 := (fun _ : Unit => MW cy ad V J Rr)) (a := (-1)) C hr rfl dX12_share_109 (by decide) () rfl (hF _ rfl)
      · replace hF := hF.to (if_neg (fun hh => hh hc272))
        refine x_iload C.1 dX12_share_103 1 rfl ?_
        refine x_goto C.1 (tgt := 109) dX12_share_105 (by decide) ?_
        exact x_iret (S := Unit) (post := (fun a (u : Unit) => (f_m_share x1 x2 V J Rr) a)) (w1 := (fun _ : Unit => MW cy ad V J Rr)) (a := z187) C hr rfl dX12_share_109 (by omega) () rfl (hF _ rfl)
  · replace hF := hF.to (if_neg hc260)
    refine x_aload_n C.1 dX12_share_16 3 rfl ?_
    refine x_iload C.1 dX12_share_17 0 rfl ?_
    refine x_callVi C (As := [vI z186]) (rest := []) 0 (xw_at (N := 33) (i := 0) (by decide) rfl) vc_X12 (m_isPerson l D cy ad G V J Rr hI hJ hR z186 ⟨by omega, by omega⟩) (l1 := []) (l2 := []) (List.append_nil _).symm (w2 := fun _ => MW cy ad V J Rr) (fun _ => List.append_nil _) rfl wm_yX12_isPerson wn_X12 wl_X12_259 wi_yX12_isPerson we_yX12_isPerson hd_yX12_isPerson rfl ⟨Nat.le_of_ble_eq_true rfl, Nat.le_of_ble_eq_true rfl⟩ (Nat.le_of_ble_eq_true rfl) ⟨Nat.le_of_ble_eq_true rfl, Nat.le_of_ble_eq_true rfl⟩ dX12_share_19 (fun z273 u273 bz273 h273 => ?_)
    obtain ⟨hon273, hFc273⟩ := h273
    replace hF := calR_i hF hFc273
    replace hF := hF.fc hon273.r
    have bq273 := Sp.r hon273
    obtain ⟨jf283, hjf283, hF⟩ := jn_ex hF
    refine x_join (I := fun x : Int × Int => match x with | (z281, z282) => (-2147483648 ≤ z281 ∧ z281 ≤ 2147483647) ∧ (-2 ≤ z282 ∧ z282 ≤ 7) ∧ Imp (jf283 z281 z282) (f_m_share x1 x2 V J Rr)) (wsf := fun x : Int × Int => match x with | (z281, z282) => MW cy ad V J Rr) (lvf := fun x : Int × Int => match x with | (z281, z282) => [(3, vI z281), (5, vI z186), (4, vI z282), (0, .ref (ad 0)), (1, vI x1), (2, vI x2)]) (stf := fun x : Int × Int => match x with | (z281, z282) => []) 88 (fun x hI283x => ?_) (fun jn283 => ?_)
    · obtain ⟨z281, z282⟩ := x
      obtain ⟨bz281, bz282, hF⟩ := hI283x
      try dsimp only
      replace hF := hF.to (jn_s2 hjf283)
      refine x_iinc C.1 (v := z186 + 1) (lv' := [(5, vI (z186 + 1)), (3, vI z281), (4, vI z282), (0, .ref (ad 0)), (1, vI x1), (2, vI x2)]) (by omega) dX12_share_88 1 rfl (by decide) rfl ?_
      refine x_goto C.1 (tgt := 9) dX12_share_91 (by decide) ?_
      refine x_lv [(5, vI (z186 + 1)), (4, vI z282), (3, vI z281), (0, .ref (ad 0)), (1, vI x1), (2, vI x2)] [0, 2, 1, 3, 4, 5] rfl ?_
      have hmu189 : (9 - (z186 + 1)).toNat < (9 - z186).toNat := (by omega)
      exact ih189 (z186 + 1, z282, z281) ⟨⟨by omega, by omega⟩, ⟨by omega, by omega⟩, ⟨by omega, by omega⟩, ⟨nf189, Nat.lt_of_lt_of_le hmu189 (Nat.le_of_lt_succ hn189), hF⟩⟩ hmu189
    · refine x_if_ne C.1 (tgt := 28) dX12_share_22 (by decide) (by omega) (fun hc284 => ?_) (fun hc284 => ?_)
      · replace hF := hF.to (if_pos hc284)
        have hon285 := Sp.on hon273 (by omega)
        refine x_iload_n C.1 dX12_share_28 2 rfl ?_
        refine x_aload_n C.1 dX12_share_29 3 rfl ?_
        refine x_getA C (N := 33) (i := 0) (by decide) rfl vc_X12 wx_X12 0 (by decide) wf_X12_7 (a := 1) rfl dX12_share_30 ?_
        refine x_bipush C.1 (n := 68) dX12_share_33 ?_
        refine x_iload C.1 dX12_share_35 0 rfl ?_
        refine x_iadd C.1 (v := z186 + 68) (by omega) dX12_share_37 ?_
        obtain ⟨z286, ez286, bz286⟩ := hI.rd 1 ((z186 + 68).toNat) (x := -2147483648) (y := 2147483647) (rgN_81 (Or.inl rfl) (by omega))
        replace hF := hF.to (rdb_e (z := z286) ez286)
        refine x_iald C (N := 33) (i := 1) (q := z186 + 68) (by decide) rfl (by omega) (by decide) dX12_share_38 (a := z286) ez286 ?_
        refine x_iadd C.1 (v := z188 + z286) (by omega) dX12_share_39 ?_
        refine x_wrapg ?_
        intro z287 bz287 ew287
        replace hF := hF.to (rdb_e (z := z287) ew287.symm)
        refine x_istore_n C.1 (lv' := [(3, vI z287), (5, vI z186), (4, vI z187), (0, .ref (ad 0)), (1, vI x1), (2, vI x2)]) dX12_share_40 (by decide) rfl ?_
        refine x_aload_n C.1 dX12_share_41 3 rfl ?_
        refine x_getA C (N := 33) (i := 0) (by decide) rfl vc_X12 wx_X12 0 (by decide) wf_X12_7 (a := 1) rfl dX12_share_42 ?_
        refine x_bipush C.1 (n := 68) dX12_share_45 ?_
        refine x_iload C.1 dX12_share_47 1 rfl ?_
        refine x_iadd C.1 (v := z186 + 68) (by omega) dX12_share_49 ?_
        refine x_iald C (N := 33) (i := 1) (q := z186 + 68) (by decide) rfl (by omega) (by decide) dX12_share_50 (a := z286) ez286 ?_
        refine x_if_le C.1 (tgt := 88) dX12_share_51 (by decide) (by omega) (fun hc288 => ?_) (fun hc288 => ?_)
        · replace hF := hF.to (if_pos hc288)
          exact jn283 (z287, z187) ⟨⟨by omega, by omega⟩, ⟨by omega, by omega⟩, hF⟩
        · replace hF := hF.to (if_neg hc288)
          refine x_iload C.1 dX12_share_54 2 rfl ?_
          refine x_bipush C.1 (n := -2) dX12_share_56 ?_
          refine x_icmp_eq C.1 (tgt := 84) dX12_share_58 (by decide) (by omega) (by decide) (fun hc289 => ?_) (fun hc289 => ?_)
          · replace hF := hF.to (if_pos hc289)
            refine x_iload C.1 dX12_share_84 1 rfl ?_
            refine x_istore C.1 (lv' := [(4, vI z186), (3, vI z287), (5, vI z186), (0, .ref (ad 0)), (1, vI x1), (2, vI x2)]) dX12_share_86 (by decide) rfl ?_
            refine x_lv [(3, vI z287), (5, vI z186), (4, vI z186), (0, .ref (ad 0)), (1, vI x1), (2, vI x2)] [1, 2, 0, 3, 4, 5] rfl ?_
            exact jn283 (z287, z186) ⟨⟨by omega, by omega⟩, ⟨by omega, by omega⟩, hF⟩
          · replace hF := hF.to (if_neg hc289)
            refine x_aload_n C.1 dX12_share_61 3 rfl ?_
            refine x_getA C (N := 33) (i := 0) (by decide) rfl vc_X12 wx_X12 0 (by decide) wf_X12_7 (a := 1) rfl dX12_share_62 ?_
            refine x_bipush C.1 (n := 68) dX12_share_65 ?_
            refine x_iload C.1 dX12_share_67 1 rfl ?_
            refine x_iadd C.1 (v := z186 + 68) (by omega) dX12_share_69 ?_
            refine x_iald C (N := 33) (i := 1) (q := z186 + 68) (by decide) rfl (by omega) (by decide) dX12_share_70 (a := z286) ez286 ?_
            refine x_aload_n C.1 dX12_share_71 3 rfl ?_
            refine x_getA C (N := 33) (i := 0) (by decide) rfl vc_X12 wx_X12 0 (by decide) wf_X12_7 (a := 1) rfl dX12_share_72 ?_
            refine x_bipush C.1 (n := 68) dX12_share_75 ?_
            refine x_iload C.1 dX12_share_77 2 rfl ?_
            refine x_iadd C.1 (v := z187 + 68) (by omega) dX12_share_79 ?_
            obtain ⟨z290, ez290, bz290⟩ : ∃ z : Int, V 1 ((z187 + 68).toNat) = z ∧ R32 z := ⟨_, rfl, hI.vr _ _⟩
            replace hF := hF.to (rdb_e (z := z290) ez290)
            refine x_iald C (N := 33) (i := 1) (q := z187 + 68) (by decide) rfl (by omega) (by decide) dX12_share_80 (a := z290) ez290 ?_
            refine x_icmp_le C.1 (tgt := 88) dX12_share_81 (by decide) (by omega) (by omega) (fun hc291 => ?_) (fun hc291 => ?_)
            · replace hF := hF.to (if_pos hc291)
              exact jn283 (z287, z187) ⟨⟨by omega, by omega⟩, ⟨by omega, by omega⟩, hF⟩
            · replace hF := hF.to (if_neg hc291)
              refine x_iload C.1 dX12_share_84 1 rfl ?_
              refine x_istore C.1 (lv' := [(4, vI z186), (3, vI z287), (5, vI z186), (0, .ref (ad 0)), (1, vI x1), (2, vI x2)]) dX12_share_86 (by decide) rfl ?_
              refine x_lv [(3, vI z287), (5, vI z186), (4, vI z186), (0, .ref (ad 0)), (1, vI x1), (2, vI x2)] [1, 2, 0, 3, 4, 5] rfl ?_
              exact jn283 (z287, z186) ⟨⟨by omega, by omega⟩, ⟨by omega, by omega⟩, hF⟩
      · replace hF := hF.to (if_neg (fun hh => hh hc284))
        refine x_goto C.1 (tgt := 88) dX12_share_25 (by decide) ?_
        refine x_lv [(3, vI z188), (5, vI z186), (4, vI z187), (0, .ref (ad 0)), (1, vI x1), (2, vI x2)] [2, 0, 1, 3, 4, 5] rfl ?_
        exact jn283 (z188, z187) ⟨⟨by omega, by omega⟩, ⟨by omega, by omega⟩, hF⟩
theorem dX12_seed_0 : decode cX12_seed 0 = .ok (.iload_n 1, 1) := by decide +kernel
theorem dX12_seed_1 : decode cX12_seed 1 = .ok (.iconst 0, 1) := by decide +kernel
theorem dX12_seed_2 : decode cX12_seed 2 = .ok (.ldc_w 416, 3) := by decide +kernel
theorem dX12_seed_5 : decode cX12_seed 5 = .ok (.invokestatic 126, 3) := by decide +kernel
theorem dX12_seed_8 : decode cX12_seed 8 = .ok (.ifCond .ne 5, 3) := by decide +kernel
theorem dX12_seed_11 : decode cX12_seed 11 = .ok (.iconst 0, 1) := by decide +kernel
theorem dX12_seed_12 : decode cX12_seed 12 = .ok (.ireturn, 1) := by decide +kernel
theorem dX12_seed_13 : decode cX12_seed 13 = .ok (.aload_n 0, 1) := by decide +kernel
theorem dX12_seed_14 : decode cX12_seed 14 = .ok (.getfield 7, 3) := by decide +kernel
theorem dX12_seed_17 : decode cX12_seed 17 = .ok (.bipush 80, 2) := by decide +kernel
theorem dX12_seed_19 : decode cX12_seed 19 = .ok (.iload_n 1, 1) := by decide +kernel
theorem dX12_seed_20 : decode cX12_seed 20 = .ok (.iastore, 1) := by decide +kernel
theorem dX12_seed_21 : decode cX12_seed 21 = .ok (.iconst 1, 1) := by decide +kernel
theorem dX12_seed_22 : decode cX12_seed 22 = .ok (.ireturn, 1) := by decide +kernel
set_option maxRecDepth 100000 in
def f_m_seed (x1 : Int) (V : Nat → Nat → Int) (J : Nat → Nat → Int) (Rr : Nat → Nat → Nat) : (Int × (Nat → Nat → Int)) → Prop :=
  calR (f_m_in x1 0 65535) fun z1 => fct (0 ≤ z1 ∧ z1 ≤ 1) <| (if ¬ z1 = 0 then rdb (up2 V 1 80 x1) fun V4 => rtn (1, V4) else rtn (0, V))
set_option maxHeartbeats 8000000 in
set_option maxRecDepth 100000 in
theorem m_seed (l : Launch) (D : va_G) (cy : Nat → ClassId) (ad : Nat → Nat) (G : Nat → Nat → Int) (V J : Nat → Nat → Int) (Rr : Nat → Nat → Nat) (hI : MI G V) (hJ : VJ J) (hR : MR Rr) (x1 : Int) (bx1 : -2147483648 ≤ x1 ∧ x1 ≤ 2147483647) : xMi l D (xTY cy) yX12_seed cX12_seed 2 (some .boolean) 1 22 0 0 [.ref (ad 0), vI x1] (MW cy ad V J Rr) (fun u : Nat → Nat → Int => MW cy ad u J Rr) (fun a (u : Nat → Nat → Int) => MI G u ∧ ((a = 1 ∧ 0 ≤ x1 ∧ x1 ≤ 65535) ∨ (a = 0 ∧ ¬ (0 ≤ x1 ∧ x1 ≤ 65535))) ∧ FBm 36893488147419103232 V u ∧ (f_m_seed x1 V J Rr) (a, u)) := by
  refine xMi.mk (lv0 := [(0, .ref (ad 0)), (1, vI x1)]) (by decide) rfl (Nat.le_of_ble_eq_true rfl) (fun p e s m below meth c A C hr hnm hAe => ?_)
  have C : xC2 p s m _ meth c D A s.heap 2 cX12_seed RX12 (xTY cy) := C
  have hB : FBm 36893488147419103232 V V := FBm.rf _ _
  have hF := Imp.of_eq (f_m_seed.eq_def x1 V J Rr)
  refine x_iload_n C.1 dX12_seed_0 1 rfl ?_
  refine x_iconst C.1 (n := 0) dX12_seed_1 ?_
  refine x_ldcw C.1 (n := 65535) wq_X12_416 dX12_seed_2 ?_
  refine x_callSi C (As := [vI x1, vI 0, vI 65535]) (rest := []) (m_in l D cy x1 ⟨by omega, by omega⟩ 0 ⟨by decide, by decide⟩ 65535 ⟨by decide, by decide⟩) (l1 := []) (l2 := _) rfl (w2 := fun _ => _) (fun _ => rfl) rfl wm_yX12_in wn_X12 wl_X12_126 wi_yX12_in hd_yX12_in rfl ⟨Nat.le_of_ble_eq_true rfl, Nat.le_of_ble_eq_true rfl⟩ (Nat.le_of_ble_eq_true rfl) ⟨Nat.le_of_ble_eq_true rfl, Nat.le_of_ble_eq_true rfl⟩ dX12_seed_5 (fun z1 u1 bz1 h1 => ?_)
  obtain ⟨bq1, hx1_0, hFc1⟩ := h1
  replace hF := calR_i hF hFc1
  replace hF := hF.fc bq1
  refine x_if_ne C.1 (tgt := 13) dX12_seed_8 (by decide) (by omega) (fun hc2 => ?_) (fun hc2 => ?_)
  · replace hF := hF.to (if_pos hc2)
    have hon3 := Sq.on hx1_0 (by omega)
    refine x_aload_n C.1 dX12_seed_13 0 rfl ?_
    refine x_getA C (N := 33) (i := 0) (by decide) rfl vc_X12 wx_X12 0 (by decide) wf_X12_7 (a := 1) rfl dX12_seed_14 ?_
    refine x_bipush C.1 (n := 80) dX12_seed_17 ?_
    refine x_iload_n C.1 dX12_seed_19 1 rfl ?_
    refine x_iast C (N := 33) (i := 1) (q := 80) (a := x1) (by decide) rfl (by decide) (by decide) dX12_seed_20 ?_
    rw [show (80 : Int).toNat = 80 from rfl]
    refine x_gV ?_
    intro V4 hV4
    have hI4 : MI G V4 := hI.up hV4 (rgN_81 (Or.inl rfl) (by decide)) (by omega) rfl (Or.inr (by decide))
    have hB4 := hB.up hV4 (by rw [mkey_r (by decide)]; rfl)
    replace hF := hF.to (rdb_e (z := V4) hV4.symm)
    refine x_iconst C.1 (n := 1) dX12_seed_21 ?_
    exact x_zret (S := (Nat → Nat → Int)) (post := (fun a (u : Nat → Nat → Int) => MI G u ∧ ((a = 1 ∧ 0 ≤ x1 ∧ x1 ≤ 65535) ∨ (a = 0 ∧ ¬ (0 ≤ x1 ∧ x1 ≤ 65535))) ∧ FBm 36893488147419103232 V u ∧ (f_m_seed x1 V J Rr) (a, u))) (w1 := (fun u : Nat → Nat → Int => MW cy ad u J Rr)) (a := 1) C hr rfl dX12_seed_22 (by decide) V4 rfl ⟨hI4, (by omega), hB4, hF _ rfl⟩
  · replace hF := hF.to (if_neg (fun hh => hh hc2))
    have hof5 := Sq.off hx1_0 (by omega)
    refine x_iconst C.1 (n := 0) dX12_seed_11 ?_
    exact x_zret (S := (Nat → Nat → Int)) (post := (fun a (u : Nat → Nat → Int) => MI G u ∧ ((a = 1 ∧ 0 ≤ x1 ∧ x1 ≤ 65535) ∨ (a = 0 ∧ ¬ (0 ≤ x1 ∧ x1 ≤ 65535))) ∧ FBm 36893488147419103232 V u ∧ (f_m_seed x1 V J Rr) (a, u))) (w1 := (fun u : Nat → Nat → Int => MW cy ad u J Rr)) (a := 0) C hr rfl dX12_seed_12 (by decide) V rfl ⟨hI, (by omega), hB, hF _ rfl⟩
theorem dX12_tapeNumber_0 : decode cX12_tapeNumber 0 = .ok (.iconst 0, 1) := by decide +kernel
theorem dX12_tapeNumber_1 : decode cX12_tapeNumber 1 = .ok (.istore_n 2, 1) := by decide +kernel
theorem dX12_tapeNumber_2 : decode cX12_tapeNumber 2 = .ok (.iconst 4, 1) := by decide +kernel
theorem dX12_tapeNumber_3 : decode cX12_tapeNumber 3 = .ok (.iload_n 1, 1) := by decide +kernel
theorem dX12_tapeNumber_4 : decode cX12_tapeNumber 4 = .ok (.imul, 1) := by decide +kernel
theorem dX12_tapeNumber_5 : decode cX12_tapeNumber 5 = .ok (.istore_n 3, 1) := by decide +kernel
theorem dX12_tapeNumber_6 : decode cX12_tapeNumber 6 = .ok (.iload_n 3, 1) := by decide +kernel
theorem dX12_tapeNumber_7 : decode cX12_tapeNumber 7 = .ok (.iconst 4, 1) := by decide +kernel
theorem dX12_tapeNumber_8 : decode cX12_tapeNumber 8 = .ok (.iload_n 1, 1) := by decide +kernel
theorem dX12_tapeNumber_9 : decode cX12_tapeNumber 9 = .ok (.imul, 1) := by decide +kernel
theorem dX12_tapeNumber_10 : decode cX12_tapeNumber 10 = .ok (.iconst 4, 1) := by decide +kernel
theorem dX12_tapeNumber_11 : decode cX12_tapeNumber 11 = .ok (.iadd, 1) := by decide +kernel
theorem dX12_tapeNumber_12 : decode cX12_tapeNumber 12 = .ok (.if_icmp .ge 25, 3) := by decide +kernel
theorem dX12_tapeNumber_15 : decode cX12_tapeNumber 15 = .ok (.iload_n 2, 1) := by decide +kernel
theorem dX12_tapeNumber_16 : decode cX12_tapeNumber 16 = .ok (.bipush 8, 2) := by decide +kernel
theorem dX12_tapeNumber_18 : decode cX12_tapeNumber 18 = .ok (.ishl, 1) := by decide +kernel
theorem dX12_tapeNumber_19 : decode cX12_tapeNumber 19 = .ok (.aload_n 0, 1) := by decide +kernel
theorem dX12_tapeNumber_20 : decode cX12_tapeNumber 20 = .ok (.getfield 19, 3) := by decide +kernel
theorem dX12_tapeNumber_23 : decode cX12_tapeNumber 23 = .ok (.iload_n 3, 1) := by decide +kernel
theorem dX12_tapeNumber_24 : decode cX12_tapeNumber 24 = .ok (.baload, 1) := by decide +kernel
theorem dX12_tapeNumber_25 : decode cX12_tapeNumber 25 = .ok (.sipush 255, 3) := by decide +kernel
theorem dX12_tapeNumber_28 : decode cX12_tapeNumber 28 = .ok (.iand, 1) := by decide +kernel
theorem dX12_tapeNumber_29 : decode cX12_tapeNumber 29 = .ok (.ior, 1) := by decide +kernel
theorem dX12_tapeNumber_30 : decode cX12_tapeNumber 30 = .ok (.istore_n 2, 1) := by decide +kernel
theorem dX12_tapeNumber_31 : decode cX12_tapeNumber 31 = .ok (.iinc 3 1, 3) := by decide +kernel
theorem dX12_tapeNumber_34 : decode cX12_tapeNumber 34 = .ok (.goto (-28), 3) := by decide +kernel
theorem dX12_tapeNumber_37 : decode cX12_tapeNumber 37 = .ok (.iload_n 2, 1) := by decide +kernel
theorem dX12_tapeNumber_38 : decode cX12_tapeNumber 38 = .ok (.ireturn, 1) := by decide +kernel
set_option maxRecDepth 100000 in
def f_m_tapeNumber (x1 : Int) (V : Nat → Nat → Int) (J : Nat → Nat → Int) (Rr : Nat → Nat → Nat) : (Int) → Prop :=
  lop2 (222) (fun rc42 (z40 : Int) (z41 : Int) => (if 4 * x1 + 4 ≤ z40 then rtn z41 else rdb (iShl z41 8) fun z49 => rdb (V 4 z40.toNat) fun z50 => fct (-128 ≤ z50 ∧ z50 ≤ 127) <| rdb (iAnd z50 255) fun z51 => fct (0 ≤ z51 ∧ z51 ≤ 255) <| rdb (iOr z49 z51) fun z52 => rc42 (z40 + 1) z52)) (4 * x1) 0
set_option maxHeartbeats 8000000 in
set_option maxRecDepth 100000 in
theorem m_tapeNumber (l : Launch) (D : va_G) (cy : Nat → ClassId) (ad : Nat → Nat) (G : Nat → Nat → Int) (V J : Nat → Nat → Int) (Rr : Nat → Nat → Nat) (hI : MI G V) (hJ : VJ J) (hR : MR Rr) (x1 : Int) (bx1 : 0 ≤ x1 ∧ x1 ≤ 54) : xMi l D (xTY cy) yX12_tapeNumber cX12_tapeNumber 4 (some .int) 0 0 0 0 [.ref (ad 0), vI x1] (MW cy ad V J Rr) (fun _ : Unit => MW cy ad V J Rr) (fun a (u : Unit) => (f_m_tapeNumber x1 V J Rr) a) := by
  refine xMi.mk (lv0 := [(0, .ref (ad 0)), (1, vI x1)]) (by decide) rfl (Nat.le_of_ble_eq_true rfl) (fun p e s m below meth c A C hr hnm hAe => ?_)
  have C : xC2 p s m _ meth c D A s.heap 4 cX12_tapeNumber RX12 (xTY cy) := C
  have hF := Imp.of_eq (f_m_tapeNumber.eq_def x1 V J Rr)
  refine x_iconst C.1 (n := 0) dX12_tapeNumber_0 ?_
  refine x_istore_n C.1 (lv' := [(2, vI 0), (0, .ref (ad 0)), (1, vI x1)]) dX12_tapeNumber_1 (by decide) rfl ?_
  refine x_iconst C.1 (n := 4) dX12_tapeNumber_2 ?_
  refine x_iload_n C.1 dX12_tapeNumber_3 2 rfl ?_
  refine x_imul C.1 (v := 4 * x1) (by omega) dX12_tapeNumber_4 ?_
  refine x_istore_n C.1 (lv' := [(3, vI (4 * x1)), (2, vI 0), (0, .ref (ad 0)), (1, vI x1)]) dX12_tapeNumber_5 (by decide) rfl ?_
  obtain ⟨bd42, hbd42, hF⟩ := lop2_ex hF
  refine x_loop (I := fun x : Int × Int => match x with | (z40, z41) => (0 ≤ z40 ∧ z40 ≤ 220) ∧ (-2147483648 ≤ z41 ∧ z41 ≤ 2147483647) ∧ (∃ nf : Nat, (221 - z40).toNat < nf ∧ Imp (lop2 nf bd42 z40 z41) (f_m_tapeNumber x1 V J Rr))) (μ := fun x : Int × Int => match x with | (z40, z41) => (221 - z40).toNat) (wsf := fun x : Int × Int => match x with | (z40, z41) => MW cy ad V J Rr) (lvf := fun x : Int × Int => match x with | (z40, z41) => [(3, vI z40), (2, vI z41), (0, .ref (ad 0)), (1, vI x1)]) (fun x hI42x ih42 => ?_) (4 * x1, 0) ⟨⟨by omega, by omega⟩, ⟨by decide, by decide⟩, ⟨_, (by omega), hF⟩⟩ rfl rfl
  obtain ⟨z40, z41⟩ := x
  obtain ⟨bz40, bz41, nf42, hn42, hF⟩ := hI42x
  try dsimp only
  obtain ⟨nf42, rfl⟩ : ∃ mm, nf42 = mm + 1 := ⟨nf42 - 1, (Nat.succ_pred_eq_of_pos (Nat.lt_of_le_of_lt (Nat.zero_le _) hn42)).symm⟩
  replace hF := hF.to (lop2_s hbd42)
  refine x_iload_n C.1 dX12_tapeNumber_6 0 rfl ?_
  refine x_iconst C.1 (n := 4) dX12_tapeNumber_7 ?_
  refine x_iload_n C.1 dX12_tapeNumber_8 3 rfl ?_
  refine x_imul C.1 (v := 4 * x1) (by omega) dX12_tapeNumber_9 ?_
  refine x_iconst C.1 (n := 4) dX12_tapeNumber_10 ?_
  refine x_iadd C.1 (v := 4 * x1 + 4) (by omega) dX12_tapeNumber_11 ?_
  refine x_icmp_ge C.1 (tgt := 37) dX12_tapeNumber_12 (by decide) (by omega) (by omega) (fun hc48 => ?_) (fun hc48 => ?_)
  · replace hF := hF.to (if_pos hc48)
    refine x_iload_n C.1 dX12_tapeNumber_37 1 rfl ?_
    exact x_iret (S := Unit) (post := (fun a (u : Unit) => (f_m_tapeNumber x1 V J Rr) a)) (w1 := (fun _ : Unit => MW cy ad V J Rr)) (a := z41) C hr rfl dX12_tapeNumber_38 (by omega) () rfl (hF _ rfl)
  · replace hF := hF.to (if_neg hc48)
    refine x_iload_n C.1 dX12_tapeNumber_15 1 rfl ?_
    refine x_bipush C.1 (n := 8) dX12_tapeNumber_16 ?_
    obtain ⟨z49, hz49, bz49⟩ : ∃ z : Int, iShl z41 8 = z ∧ (-2147483648 ≤ z ∧ z ≤ 2147483647) := ⟨_, rfl, xi_r _⟩
    replace hF := hF.to (rdb_e (z := z49) hz49)
    refine x_ishl C.1 (v := z49) hz49 dX12_tapeNumber_18 ?_
    refine x_aload_n C.1 dX12_tapeNumber_19 2 rfl ?_
    refine x_getA C (N := 33) (i := 0) (by decide) rfl vc_X12 wx_X12 3 (by decide) wf_X12_19 (a := 4) rfl dX12_tapeNumber_20 ?_
    refine x_iload_n C.1 dX12_tapeNumber_23 0 rfl ?_
    obtain ⟨z50, ez50, bz50⟩ := hI.rd 4 z40.toNat (x := -128) (y := 127) rfl
    replace hF := hF.to (rdb_e (z := z50) ez50)
    replace hF := hF.fc bz50
    refine x_bald C (N := 33) (i := 4) (q := z40) (by decide) rfl (by omega) (by decide) dX12_tapeNumber_24 (a := z50) ez50 ?_
    refine x_sipush C.1 (n := 255) dX12_tapeNumber_25 ?_
    obtain ⟨z51, hz51, bz51⟩ : ∃ z : Int, iAnd z50 255 = z ∧ (0 ≤ z ∧ z ≤ 255) := ⟨_, rfl, iAnd_leB _ (by decide)⟩
    replace hF := hF.to (rdb_e (z := z51) hz51)
    replace hF := hF.fc bz51
    refine x_iand C.1 (v := z51) hz51 dX12_tapeNumber_28 ?_
    obtain ⟨z52, hz52, bz52⟩ : ∃ z : Int, iOr z49 z51 = z ∧ (-2147483648 ≤ z ∧ z ≤ 2147483647) := ⟨_, rfl, xi_r _⟩
    replace hF := hF.to (rdb_e (z := z52) hz52)
    refine x_ior C.1 (v := z52) hz52 dX12_tapeNumber_29 ?_
    refine x_istore_n C.1 (lv' := [(2, vI z52), (3, vI z40), (0, .ref (ad 0)), (1, vI x1)]) dX12_tapeNumber_30 (by decide) rfl ?_
    refine x_iinc C.1 (v := z40 + 1) (lv' := [(3, vI (z40 + 1)), (2, vI z52), (0, .ref (ad 0)), (1, vI x1)]) (by omega) dX12_tapeNumber_31 1 rfl (by decide) rfl ?_
    refine x_goto C.1 (tgt := 6) dX12_tapeNumber_34 (by decide) ?_
    have hmu42 : (221 - (z40 + 1)).toNat < (221 - z40).toNat := (by omega)
    exact ih42 (z40 + 1, z52) ⟨⟨by omega, by omega⟩, ⟨by omega, by omega⟩, ⟨nf42, Nat.lt_of_lt_of_le hmu42 (Nat.le_of_lt_succ hn42), hF⟩⟩ hmu42
theorem hd_yX12_tapeNumber : yX12_tapeNumber.cls ≠ "java/lang/invoke/MethodHandle" ∧ yX12_tapeNumber.cls ≠ "java/lang/invoke/VarHandle" ∧ (parseMethodDescriptor yX12_tapeNumber.desc).map (fun d => d.parameters.length) = some 1 := by decide +kernel
theorem dX12_check_0 : decode cX12_check 0 = .ok (.aload_n 0, 1) := by decide +kernel
theorem dX12_check_1 : decode cX12_check 1 = .ok (.iload_n 1, 1) := by decide +kernel
theorem dX12_check_2 : decode cX12_check 2 = .ok (.invokevirtual 122, 3) := by decide +kernel
theorem dX12_check_5 : decode cX12_check 5 = .ok (.ifCond .eq 23, 3) := by decide +kernel
theorem dX12_check_8 : decode cX12_check 8 = .ok (.iload_n 2, 1) := by decide +kernel
theorem dX12_check_9 : decode cX12_check 9 = .ok (.iconst 0, 1) := by decide +kernel
theorem dX12_check_10 : decode cX12_check 10 = .ok (.bipush 7, 2) := by decide +kernel
theorem dX12_check_12 : decode cX12_check 12 = .ok (.invokestatic 126, 3) := by decide +kernel
theorem dX12_check_15 : decode cX12_check 15 = .ok (.ifCond .eq 13, 3) := by decide +kernel
theorem dX12_check_18 : decode cX12_check 18 = .ok (.iload_n 2, 1) := by decide +kernel
theorem dX12_check_19 : decode cX12_check 19 = .ok (.aload_n 0, 1) := by decide +kernel
theorem dX12_check_20 : decode cX12_check 20 = .ok (.getfield 137, 3) := by decide +kernel
theorem dX12_check_23 : decode cX12_check 23 = .ok (.iconst 4, 1) := by decide +kernel
theorem dX12_check_24 : decode cX12_check 24 = .ok (.idiv, 1) := by decide +kernel
theorem dX12_check_25 : decode cX12_check 25 = .ok (.if_icmp .le 6, 3) := by decide +kernel
theorem dX12_check_28 : decode cX12_check 28 = .ok (.bipush (-2), 2) := by decide +kernel
theorem dX12_check_30 : decode cX12_check 30 = .ok (.ireturn, 1) := by decide +kernel
theorem dX12_check_31 : decode cX12_check 31 = .ok (.aload_n 0, 1) := by decide +kernel
theorem dX12_check_32 : decode cX12_check 32 = .ok (.iconst 0, 1) := by decide +kernel
theorem dX12_check_33 : decode cX12_check 33 = .ok (.putfield 137, 3) := by decide +kernel
theorem dX12_check_36 : decode cX12_check 36 = .ok (.iconst 0, 1) := by decide +kernel
theorem dX12_check_37 : decode cX12_check 37 = .ok (.istore_n 3, 1) := by decide +kernel
theorem dX12_check_38 : decode cX12_check 38 = .ok (.iload_n 3, 1) := by decide +kernel
theorem dX12_check_39 : decode cX12_check 39 = .ok (.iload_n 2, 1) := by decide +kernel
theorem dX12_check_40 : decode cX12_check 40 = .ok (.if_icmp .ge 36, 3) := by decide +kernel
theorem dX12_check_43 : decode cX12_check 43 = .ok (.aload_n 0, 1) := by decide +kernel
theorem dX12_check_44 : decode cX12_check 44 = .ok (.iload_n 3, 1) := by decide +kernel
theorem dX12_check_45 : decode cX12_check 45 = .ok (.invokevirtual 421, 3) := by decide +kernel
theorem dX12_check_48 : decode cX12_check 48 = .ok (.aload_n 0, 1) := by decide +kernel
theorem dX12_check_49 : decode cX12_check 49 = .ok (.getfield 7, 3) := by decide +kernel
theorem dX12_check_52 : decode cX12_check 52 = .ok (.bipush 24, 2) := by decide +kernel
theorem dX12_check_54 : decode cX12_check 54 = .ok (.bipush 7, 2) := by decide +kernel
theorem dX12_check_56 : decode cX12_check 56 = .ok (.iload_n 1, 1) := by decide +kernel
theorem dX12_check_57 : decode cX12_check 57 = .ok (.imul, 1) := by decide +kernel
theorem dX12_check_58 : decode cX12_check 58 = .ok (.iadd, 1) := by decide +kernel
theorem dX12_check_59 : decode cX12_check 59 = .ok (.bipush 6, 2) := by decide +kernel
theorem dX12_check_61 : decode cX12_check 61 = .ok (.iadd, 1) := by decide +kernel
theorem dX12_check_62 : decode cX12_check 62 = .ok (.iload_n 3, 1) := by decide +kernel
theorem dX12_check_63 : decode cX12_check 63 = .ok (.isub, 1) := by decide +kernel
theorem dX12_check_64 : decode cX12_check 64 = .ok (.iaload, 1) := by decide +kernel
theorem dX12_check_65 : decode cX12_check 65 = .ok (.if_icmp .eq 5, 3) := by decide +kernel
theorem dX12_check_68 : decode cX12_check 68 = .ok (.iload_n 3, 1) := by decide +kernel
theorem dX12_check_69 : decode cX12_check 69 = .ok (.ireturn, 1) := by decide +kernel
theorem dX12_check_70 : decode cX12_check 70 = .ok (.iinc 3 1, 3) := by decide +kernel
theorem dX12_check_73 : decode cX12_check 73 = .ok (.goto (-35), 3) := by decide +kernel
theorem dX12_check_76 : decode cX12_check 76 = .ok (.iconst (-1), 1) := by decide +kernel
theorem dX12_check_77 : decode cX12_check 77 = .ok (.ireturn, 1) := by decide +kernel
set_option maxRecDepth 100000 in
def f_m_check (x1 : Int) (x2 : Int) (V : Nat → Nat → Int) (J : Nat → Nat → Int) (Rr : Nat → Nat → Nat) : (Int × (Nat → Nat → Int)) → Prop :=
  calR (f_m_isPlant x1 V J Rr) fun z1 => fct (0 ≤ z1 ∧ z1 ≤ 1) <| (if z1 = 0 then rtn ((-2), V) else calR (f_m_in x2 0 7) fun z4 => fct (0 ≤ z4 ∧ z4 ≤ 1) <| (if z4 = 0 then rtn ((-2), V) else rdb (V 0 4) fun z7 => fct (0 ≤ z7 ∧ z7 ≤ 220) <| rdb (iDiv z7 4) fun z8 => fct (0 ≤ z8 ∧ z8 ≤ 220) <| (if x2 ≤ z8 then rdb (up2 V 0 4 0) fun V10 => lop1 (9) (fun rc41 (z40 : Int) => (if x2 ≤ z40 then rtn ((-1), V10) else calR (f_m_tapeNumber z40 V10 J Rr) fun z47 => rdb (V10 1 ((7 * x1 - z40 + 30).toNat)) fun z48 => (if z47 = z48 then rc41 (z40 + 1) else rtn (z40, V10)))) 0 else rtn ((-2), V))))
set_option maxHeartbeats 8000000 in
set_option maxRecDepth 100000 in
theorem m_check (l : Launch) (D : va_G) (cy : Nat → ClassId) (ad : Nat → Nat) (G : Nat → Nat → Int) (V J : Nat → Nat → Int) (Rr : Nat → Nat → Nat) (hI : MI G V) (hJ : VJ J) (hR : MR Rr) (x1 : Int) (bx1 : -2147483648 ≤ x1 ∧ x1 ≤ 2147483647) (x2 : Int) (bx2 : -2147483648 ≤ x2 ∧ x2 ≤ 2147483647) : xMi l D (xTY cy) yX12_check cX12_check 4 (some .int) 2 42 0 0 [.ref (ad 0), vI x1, vI x2] (MW cy ad V J Rr) (fun u : Nat → Nat → Int => MW cy ad u J Rr) (fun a (u : Nat → Nat → Int) => MI G u ∧ FBm 16 V u ∧ (f_m_check x1 x2 V J Rr) (a, u)) := by
  refine xMi.mk (lv0 := [(0, .ref (ad 0)), (1, vI x1), (2, vI x2)]) (by decide) rfl (Nat.le_of_ble_eq_true rfl) (fun p e s m below meth c A C hr hnm hAe => ?_)
  have C : xC2 p s m _ meth c D A s.heap 4 cX12_check RX12 (xTY cy) := C
  have hB : FBm 16 V V := FBm.rf _ _
  have hF := Imp.of_eq (f_m_check.eq_def x1 x2 V J Rr)
  refine x_aload_n C.1 dX12_check_0 0 rfl ?_
  refine x_iload_n C.1 dX12_check_1 1 rfl ?_
  refine x_callVi C (As := [vI x1]) (rest := []) 0 (xw_at (N := 33) (i := 0) (by decide) rfl) vc_X12 (m_isPlant l D cy ad G V J Rr hI hJ hR x1 ⟨by omega, by omega⟩) (l1 := []) (l2 := []) (List.append_nil _).symm (w2 := fun _ => MW cy ad V J Rr) (fun _ => List.append_nil _) rfl wm_yX12_isPlant wn_X12 wl_X12_122 wi_yX12_isPlant we_yX12_isPlant hd_yX12_isPlant rfl ⟨Nat.le_of_ble_eq_true rfl, Nat.le_of_ble_eq_true rfl⟩ (Nat.le_of_ble_eq_true rfl) ⟨Nat.le_of_ble_eq_true rfl, Nat.le_of_ble_eq_true rfl⟩ dX12_check_2 (fun z1 u1 bz1 h1 => ?_)
  obtain ⟨hon1, hFc1⟩ := h1
  replace hF := calR_i hF hFc1
  replace hF := hF.fc hon1.r
  have bq1 := Sp.r hon1
  refine x_if_eq C.1 (tgt := 28) dX12_check_5 (by decide) (by omega) (fun hc2 => ?_) (fun hc2 => ?_)
  · replace hF := hF.to (if_pos hc2)
    refine x_bipush C.1 (n := -2) dX12_check_28 ?_
    exact x_iret (S := (Nat → Nat → Int)) (post := (fun a (u : Nat → Nat → Int) => MI G u ∧ FBm 16 V u ∧ (f_m_check x1 x2 V J Rr) (a, u))) (w1 := (fun u : Nat → Nat → Int => MW cy ad u J Rr)) (a := (-2)) C hr rfl dX12_check_30 (by decide) V rfl ⟨hI, hB, hF _ rfl⟩
  · replace hF := hF.to (if_neg hc2)
    have hon3 := Sp.on hon1 (by omega)
    refine x_iload_n C.1 dX12_check_8 2 rfl ?_
    refine x_iconst C.1 (n := 0) dX12_check_9 ?_
    refine x_bipush C.1 (n := 7) dX12_check_10 ?_
    refine x_callSi C (As := [vI x2, vI 0, vI 7]) (rest := []) (m_in l D cy x2 ⟨by omega, by omega⟩ 0 ⟨by decide, by decide⟩ 7 ⟨by decide, by decide⟩) (l1 := []) (l2 := _) rfl (w2 := fun _ => _) (fun _ => rfl) rfl wm_yX12_in wn_X12 wl_X12_126 wi_yX12_in hd_yX12_in rfl ⟨Nat.le_of_ble_eq_true rfl, Nat.le_of_ble_eq_true rfl⟩ (Nat.le_of_ble_eq_true rfl) ⟨Nat.le_of_ble_eq_true rfl, Nat.le_of_ble_eq_true rfl⟩ dX12_check_12 (fun z4 u4 bz4 h4 => ?_)
    obtain ⟨bq4, hx4_0, hFc4⟩ := h4
    replace hF := calR_i hF hFc4
    replace hF := hF.fc bq4
    refine x_if_eq C.1 (tgt := 28) dX12_check_15 (by decide) (by omega) (fun hc5 => ?_) (fun hc5 => ?_)
    · replace hF := hF.to (if_pos hc5)
      refine x_bipush C.1 (n := -2) dX12_check_28 ?_
      exact x_iret (S := (Nat → Nat → Int)) (post := (fun a (u : Nat → Nat → Int) => MI G u ∧ FBm 16 V u ∧ (f_m_check x1 x2 V J Rr) (a, u))) (w1 := (fun u : Nat → Nat → Int => MW cy ad u J Rr)) (a := (-2)) C hr rfl dX12_check_30 (by decide) V rfl ⟨hI, hB, hF _ rfl⟩
    · replace hF := hF.to (if_neg hc5)
      have hon6 := Sq.on hx4_0 (by omega)
      refine x_iload_n C.1 dX12_check_18 2 rfl ?_
      refine x_aload_n C.1 dX12_check_19 0 rfl ?_
      obtain ⟨z7, ez7, bz7⟩ := hI.rd 0 4 (x := 0) (y := 220) rfl
      replace hF := hF.to (rdb_e (z := z7) ez7)
      replace hF := hF.fc bz7
      refine x_getI C (N := 33) (i := 0) (by decide) rfl vc_X12 wx_X12 4 (by decide) wf_X12_137 rfl dX12_check_20 (a := z7) ez7 ?_
      refine x_iconst C.1 (n := 4) dX12_check_23 ?_
      obtain ⟨z8, hz8, bz8⟩ : ∃ z : Int, iDiv z7 4 = z ∧ (0 ≤ z ∧ z ≤ 220) := ⟨_, rfl, iDiv_n (by omega) (by omega)⟩
      replace hF := hF.to (rdb_e (z := z8) hz8)
      replace hF := hF.fc bz8
      refine x_idiv C.1 (v := z8) hz8 dX12_check_24 (by decide) (by decide) ?_
      refine x_icmp_le C.1 (tgt := 31) dX12_check_25 (by decide) (by omega) (by omega) (fun hc9 => ?_) (fun hc9 => ?_)
      · replace hF := hF.to (if_pos hc9)
        refine x_aload_n C.1 dX12_check_31 0 rfl ?_
        refine x_iconst C.1 (n := 0) dX12_check_32 ?_
        refine x_putI C (N := 33) (i := 0) (by decide) rfl vc_X12 wx_X12 4 (by decide) wf_X12_137 tyX12 tyX12_ok nmX12 rfl (tyX12_ok 4 (by decide)) rfl dX12_check_33 rfl rfl ?_
        refine x_gV ?_
        intro V10 hV10
        have hI10 : MI G V10 := hI.up hV10 rfl (by decide) rfl (Or.inl (by decide))
        have hB10 := hB.up hV10 rfl
        replace hF := hF.to (rdb_e (z := V10) hV10.symm)
        refine x_iconst C.1 (n := 0) dX12_check_36 ?_
        refine x_istore_n C.1 (lv' := [(3, vI 0), (0, .ref (ad 0)), (1, vI x1), (2, vI x2)]) dX12_check_37 (by decide) rfl ?_
        obtain ⟨bd41, hbd41, hF⟩ := lop1_ex hF
        refine x_loop (I := fun z40 : Int => (0 ≤ z40 ∧ z40 ≤ 7) ∧ (∃ nf : Nat, (8 - z40).toNat < nf ∧ Imp (lop1 nf bd41 z40) (f_m_check x1 x2 V J Rr))) (μ := fun z40 : Int => (8 - z40).toNat) (wsf := fun z40 : Int => MW cy ad V10 J Rr) (lvf := fun z40 : Int => [(3, vI z40), (0, .ref (ad 0)), (1, vI x1), (2, vI x2)]) (fun z40 hI41x ih41 => ?_) 0 ⟨⟨by decide, by decide⟩, ⟨_, (by omega), hF⟩⟩ rfl rfl
        obtain ⟨bz40, nf41, hn41, hF⟩ := hI41x
        try dsimp only
        obtain ⟨nf41, rfl⟩ : ∃ mm, nf41 = mm + 1 := ⟨nf41 - 1, (Nat.succ_pred_eq_of_pos (Nat.lt_of_le_of_lt (Nat.zero_le _) hn41)).symm⟩
        replace hF := hF.to (lop1_s hbd41)
        refine x_iload_n C.1 dX12_check_38 0 rfl ?_
        refine x_iload_n C.1 dX12_check_39 3 rfl ?_
        refine x_icmp_ge C.1 (tgt := 76) dX12_check_40 (by decide) (by omega) (by omega) (fun hc46 => ?_) (fun hc46 => ?_)
        · replace hF := hF.to (if_pos hc46)
          refine x_iconst C.1 (n := -1) dX12_check_76 ?_
          exact x_iret (S := (Nat → Nat → Int)) (post := (fun a (u : Nat → Nat → Int) => MI G u ∧ FBm 16 V u ∧ (f_m_check x1 x2 V J Rr) (a, u))) (w1 := (fun u : Nat → Nat → Int => MW cy ad u J Rr)) (a := (-1)) C hr rfl dX12_check_77 (by decide) V10 rfl ⟨hI10, hB10, hF _ rfl⟩
        · replace hF := hF.to (if_neg hc46)
          refine x_aload_n C.1 dX12_check_43 1 rfl ?_
          refine x_iload_n C.1 dX12_check_44 0 rfl ?_
          refine x_callVi C (As := [vI z40]) (rest := []) 0 (xw_at (N := 33) (i := 0) (by decide) rfl) vc_X12 (m_tapeNumber l D cy ad G V10 J Rr hI10 hJ hR z40 ⟨by omega, by omega⟩) (l1 := []) (l2 := []) (List.append_nil _).symm (w2 := fun _ => MW cy ad V10 J Rr) (fun _ => List.append_nil _) rfl wm_yX12_tapeNumber wn_X12 wl_X12_421 wi_yX12_tapeNumber we_yX12_tapeNumber hd_yX12_tapeNumber rfl ⟨Nat.le_of_ble_eq_true rfl, Nat.le_of_ble_eq_true rfl⟩ (Nat.le_of_ble_eq_true rfl) ⟨Nat.le_of_ble_eq_true rfl, Nat.le_of_ble_eq_true rfl⟩ dX12_check_45 (fun z47 u47 bz47 h47 => ?_)
          have hFc47 := h47
          replace hF := calR_i hF hFc47
          refine x_aload_n C.1 dX12_check_48 1 rfl ?_
          refine x_getA C (N := 33) (i := 0) (by decide) rfl vc_X12 wx_X12 0 (by decide) wf_X12_7 (a := 1) rfl dX12_check_49 ?_
          refine x_bipush C.1 (n := 24) dX12_check_52 ?_
          refine x_bipush C.1 (n := 7) dX12_check_54 ?_
          refine x_iload_n C.1 dX12_check_56 2 rfl ?_
          refine x_imul C.1 (v := 7 * x1) (by omega) dX12_check_57 ?_
          refine x_iadd C.1 (v := 7 * x1 + 24) (by omega) dX12_check_58 ?_
          refine x_bipush C.1 (n := 6) dX12_check_59 ?_
          refine x_iadd C.1 (v := 7 * x1 + 30) (by omega) dX12_check_61 ?_
          refine x_iload_n C.1 dX12_check_62 0 rfl ?_
          refine x_isub C.1 (v := 7 * x1 - z40 + 30) (by omega) dX12_check_63 ?_
          obtain ⟨z48, ez48, bz48⟩ := hI10.rd 1 ((7 * x1 - z40 + 30).toNat) (x := -2147483648) (y := 2147483647) (rgN_60 (Or.inl rfl) (by omega))
          replace hF := hF.to (rdb_e (z := z48) ez48)
          refine x_iald C (N := 33) (i := 1) (q := 7 * x1 - z40 + 30) (by decide) rfl (by omega) (by decide) dX12_check_64 (a := z48) ez48 ?_
          refine x_icmp_eq C.1 (tgt := 70) dX12_check_65 (by decide) (by omega) (by omega) (fun hc49 => ?_) (fun hc49 => ?_)
          · replace hF := hF.to (if_pos hc49)
            refine x_iinc C.1 (v := z40 + 1) (lv' := [(3, vI (z40 + 1)), (0, .ref (ad 0)), (1, vI x1), (2, vI x2)]) (by omega) dX12_check_70 0 rfl (by decide) rfl ?_
            refine x_goto C.1 (tgt := 38) dX12_check_73 (by decide) ?_
            have hmu41 : (8 - (z40 + 1)).toNat < (8 - z40).toNat := (by omega)
            exact ih41 (z40 + 1) ⟨⟨by omega, by omega⟩, ⟨nf41, Nat.lt_of_lt_of_le hmu41 (Nat.le_of_lt_succ hn41), hF⟩⟩ hmu41
          · replace hF := hF.to (if_neg hc49)
            refine x_iload_n C.1 dX12_check_68 0 rfl ?_
            exact x_iret (S := (Nat → Nat → Int)) (post := (fun a (u : Nat → Nat → Int) => MI G u ∧ FBm 16 V u ∧ (f_m_check x1 x2 V J Rr) (a, u))) (w1 := (fun u : Nat → Nat → Int => MW cy ad u J Rr)) (a := z40) C hr rfl dX12_check_69 (by omega) V10 rfl ⟨hI10, hB10, hF _ rfl⟩
      · replace hF := hF.to (if_neg hc9)
        refine x_bipush C.1 (n := -2) dX12_check_28 ?_
        exact x_iret (S := (Nat → Nat → Int)) (post := (fun a (u : Nat → Nat → Int) => MI G u ∧ FBm 16 V u ∧ (f_m_check x1 x2 V J Rr) (a, u))) (w1 := (fun u : Nat → Nat → Int => MW cy ad u J Rr)) (a := (-2)) C hr rfl dX12_check_30 (by decide) V rfl ⟨hI, hB, hF _ rfl⟩
theorem dX12_count_0 : decode cX12_count 0 = .ok (.iload_n 1, 1) := by decide +kernel
theorem dX12_count_1 : decode cX12_count 1 = .ok (.tableswitch 95 0 6 #[43, 51, 59, 67, 75, 82, 87], 43) := by decide +kernel
theorem dX12_count_44 : decode cX12_count 44 = .ok (.aload_n 0, 1) := by decide +kernel
theorem dX12_count_45 : decode cX12_count 45 = .ok (.getfield 7, 3) := by decide +kernel
theorem dX12_count_48 : decode cX12_count 48 = .ok (.bipush 79, 2) := by decide +kernel
theorem dX12_count_50 : decode cX12_count 50 = .ok (.iaload, 1) := by decide +kernel
theorem dX12_count_51 : decode cX12_count 51 = .ok (.ireturn, 1) := by decide +kernel
theorem dX12_count_52 : decode cX12_count 52 = .ok (.aload_n 0, 1) := by decide +kernel
theorem dX12_count_53 : decode cX12_count 53 = .ok (.getfield 7, 3) := by decide +kernel
theorem dX12_count_56 : decode cX12_count 56 = .ok (.bipush 76, 2) := by decide +kernel
theorem dX12_count_58 : decode cX12_count 58 = .ok (.iaload, 1) := by decide +kernel
theorem dX12_count_59 : decode cX12_count 59 = .ok (.ireturn, 1) := by decide +kernel
theorem dX12_count_60 : decode cX12_count 60 = .ok (.aload_n 0, 1) := by decide +kernel
theorem dX12_count_61 : decode cX12_count 61 = .ok (.getfield 7, 3) := by decide +kernel
theorem dX12_count_64 : decode cX12_count 64 = .ok (.bipush 77, 2) := by decide +kernel
theorem dX12_count_66 : decode cX12_count 66 = .ok (.iaload, 1) := by decide +kernel
theorem dX12_count_67 : decode cX12_count 67 = .ok (.ireturn, 1) := by decide +kernel
theorem dX12_count_68 : decode cX12_count 68 = .ok (.aload_n 0, 1) := by decide +kernel
theorem dX12_count_69 : decode cX12_count 69 = .ok (.getfield 7, 3) := by decide +kernel
theorem dX12_count_72 : decode cX12_count 72 = .ok (.bipush 78, 2) := by decide +kernel
theorem dX12_count_74 : decode cX12_count 74 = .ok (.iaload, 1) := by decide +kernel
theorem dX12_count_75 : decode cX12_count 75 = .ok (.ireturn, 1) := by decide +kernel
theorem dX12_count_76 : decode cX12_count 76 = .ok (.aload_n 0, 1) := by decide +kernel
theorem dX12_count_77 : decode cX12_count 77 = .ok (.getfield 44, 3) := by decide +kernel
theorem dX12_count_80 : decode cX12_count 80 = .ok (.iconst 0, 1) := by decide +kernel
theorem dX12_count_81 : decode cX12_count 81 = .ok (.iaload, 1) := by decide +kernel
theorem dX12_count_82 : decode cX12_count 82 = .ok (.ireturn, 1) := by decide +kernel
theorem dX12_count_83 : decode cX12_count 83 = .ok (.aload_n 0, 1) := by decide +kernel
theorem dX12_count_84 : decode cX12_count 84 = .ok (.getfield 137, 3) := by decide +kernel
theorem dX12_count_87 : decode cX12_count 87 = .ok (.ireturn, 1) := by decide +kernel
theorem dX12_count_88 : decode cX12_count 88 = .ok (.aload_n 0, 1) := by decide +kernel
theorem dX12_count_89 : decode cX12_count 89 = .ok (.getfield 7, 3) := by decide +kernel
theorem dX12_count_92 : decode cX12_count 92 = .ok (.bipush 80, 2) := by decide +kernel
theorem dX12_count_94 : decode cX12_count 94 = .ok (.iaload, 1) := by decide +kernel
theorem dX12_count_95 : decode cX12_count 95 = .ok (.ireturn, 1) := by decide +kernel
theorem dX12_count_96 : decode cX12_count 96 = .ok (.iload_n 1, 1) := by decide +kernel
theorem dX12_count_97 : decode cX12_count 97 = .ok (.bipush 10, 2) := by decide +kernel
theorem dX12_count_99 : decode cX12_count 99 = .ok (.bipush 13, 2) := by decide +kernel
theorem dX12_count_101 : decode cX12_count 101 = .ok (.invokestatic 126, 3) := by decide +kernel
theorem dX12_count_104 : decode cX12_count 104 = .ok (.ifCond .eq 13, 3) := by decide +kernel
theorem dX12_count_107 : decode cX12_count 107 = .ok (.aload_n 0, 1) := by decide +kernel
theorem dX12_count_108 : decode cX12_count 108 = .ok (.getfield 44, 3) := by decide +kernel
theorem dX12_count_111 : decode cX12_count 111 = .ok (.iload_n 1, 1) := by decide +kernel
theorem dX12_count_112 : decode cX12_count 112 = .ok (.bipush 9, 2) := by decide +kernel
theorem dX12_count_114 : decode cX12_count 114 = .ok (.isub, 1) := by decide +kernel
theorem dX12_count_115 : decode cX12_count 115 = .ok (.iaload, 1) := by decide +kernel
theorem dX12_count_116 : decode cX12_count 116 = .ok (.ireturn, 1) := by decide +kernel
theorem dX12_count_117 : decode cX12_count 117 = .ok (.iload_n 1, 1) := by decide +kernel
theorem dX12_count_118 : decode cX12_count 118 = .ok (.bipush 20, 2) := by decide +kernel
theorem dX12_count_120 : decode cX12_count 120 = .ok (.bipush 27, 2) := by decide +kernel
theorem dX12_count_122 : decode cX12_count 122 = .ok (.invokestatic 126, 3) := by decide +kernel
theorem dX12_count_125 : decode cX12_count 125 = .ok (.ifCond .eq 27, 3) := by decide +kernel
theorem dX12_count_128 : decode cX12_count 128 = .ok (.aload_n 0, 1) := by decide +kernel
theorem dX12_count_129 : decode cX12_count 129 = .ok (.iload_n 1, 1) := by decide +kernel
theorem dX12_count_130 : decode cX12_count 130 = .ok (.bipush 20, 2) := by decide +kernel
theorem dX12_count_132 : decode cX12_count 132 = .ok (.isub, 1) := by decide +kernel
theorem dX12_count_133 : decode cX12_count 133 = .ok (.invokevirtual 259, 3) := by decide +kernel
theorem dX12_count_136 : decode cX12_count 136 = .ok (.ifCond .eq 16, 3) := by decide +kernel
theorem dX12_count_139 : decode cX12_count 139 = .ok (.aload_n 0, 1) := by decide +kernel
theorem dX12_count_140 : decode cX12_count 140 = .ok (.getfield 7, 3) := by decide +kernel
theorem dX12_count_143 : decode cX12_count 143 = .ok (.bipush 52, 2) := by decide +kernel
theorem dX12_count_145 : decode cX12_count 145 = .ok (.iload_n 1, 1) := by decide +kernel
theorem dX12_count_146 : decode cX12_count 146 = .ok (.iadd, 1) := by decide +kernel
theorem dX12_count_147 : decode cX12_count 147 = .ok (.bipush 20, 2) := by decide +kernel
theorem dX12_count_149 : decode cX12_count 149 = .ok (.isub, 1) := by decide +kernel
theorem dX12_count_150 : decode cX12_count 150 = .ok (.iaload, 1) := by decide +kernel
theorem dX12_count_151 : decode cX12_count 151 = .ok (.ireturn, 1) := by decide +kernel
theorem dX12_count_152 : decode cX12_count 152 = .ok (.iload_n 1, 1) := by decide +kernel
theorem dX12_count_153 : decode cX12_count 153 = .ok (.bipush 30, 2) := by decide +kernel
theorem dX12_count_155 : decode cX12_count 155 = .ok (.bipush 37, 2) := by decide +kernel
theorem dX12_count_157 : decode cX12_count 157 = .ok (.invokestatic 126, 3) := by decide +kernel
theorem dX12_count_160 : decode cX12_count 160 = .ok (.ifCond .eq 27, 3) := by decide +kernel
theorem dX12_count_163 : decode cX12_count 163 = .ok (.aload_n 0, 1) := by decide +kernel
theorem dX12_count_164 : decode cX12_count 164 = .ok (.iload_n 1, 1) := by decide +kernel
theorem dX12_count_165 : decode cX12_count 165 = .ok (.bipush 30, 2) := by decide +kernel
theorem dX12_count_167 : decode cX12_count 167 = .ok (.isub, 1) := by decide +kernel
theorem dX12_count_168 : decode cX12_count 168 = .ok (.invokevirtual 259, 3) := by decide +kernel
theorem dX12_count_171 : decode cX12_count 171 = .ok (.ifCond .eq 16, 3) := by decide +kernel
theorem dX12_count_174 : decode cX12_count 174 = .ok (.aload_n 0, 1) := by decide +kernel
theorem dX12_count_175 : decode cX12_count 175 = .ok (.getfield 7, 3) := by decide +kernel
theorem dX12_count_178 : decode cX12_count 178 = .ok (.bipush 60, 2) := by decide +kernel
theorem dX12_count_180 : decode cX12_count 180 = .ok (.iload_n 1, 1) := by decide +kernel
theorem dX12_count_181 : decode cX12_count 181 = .ok (.iadd, 1) := by decide +kernel
theorem dX12_count_182 : decode cX12_count 182 = .ok (.bipush 30, 2) := by decide +kernel
theorem dX12_count_184 : decode cX12_count 184 = .ok (.isub, 1) := by decide +kernel
theorem dX12_count_185 : decode cX12_count 185 = .ok (.iaload, 1) := by decide +kernel
theorem dX12_count_186 : decode cX12_count 186 = .ok (.ireturn, 1) := by decide +kernel
theorem dX12_count_187 : decode cX12_count 187 = .ok (.iload_n 1, 1) := by decide +kernel
theorem dX12_count_188 : decode cX12_count 188 = .ok (.bipush 40, 2) := by decide +kernel
theorem dX12_count_190 : decode cX12_count 190 = .ok (.bipush 47, 2) := by decide +kernel
theorem dX12_count_192 : decode cX12_count 192 = .ok (.invokestatic 126, 3) := by decide +kernel
theorem dX12_count_195 : decode cX12_count 195 = .ok (.ifCond .eq 29, 3) := by decide +kernel
theorem dX12_count_198 : decode cX12_count 198 = .ok (.aload_n 0, 1) := by decide +kernel
theorem dX12_count_199 : decode cX12_count 199 = .ok (.iload_n 1, 1) := by decide +kernel
theorem dX12_count_200 : decode cX12_count 200 = .ok (.bipush 40, 2) := by decide +kernel
theorem dX12_count_202 : decode cX12_count 202 = .ok (.isub, 1) := by decide +kernel
theorem dX12_count_203 : decode cX12_count 203 = .ok (.invokevirtual 259, 3) := by decide +kernel
theorem dX12_count_206 : decode cX12_count 206 = .ok (.ifCond .eq 18, 3) := by decide +kernel
theorem dX12_count_209 : decode cX12_count 209 = .ok (.aload_n 0, 1) := by decide +kernel
theorem dX12_count_210 : decode cX12_count 210 = .ok (.getfield 7, 3) := by decide +kernel
theorem dX12_count_213 : decode cX12_count 213 = .ok (.bipush 68, 2) := by decide +kernel
theorem dX12_count_215 : decode cX12_count 215 = .ok (.iload_n 1, 1) := by decide +kernel
theorem dX12_count_216 : decode cX12_count 216 = .ok (.iadd, 1) := by decide +kernel
theorem dX12_count_217 : decode cX12_count 217 = .ok (.bipush 40, 2) := by decide +kernel
theorem dX12_count_219 : decode cX12_count 219 = .ok (.isub, 1) := by decide +kernel
theorem dX12_count_220 : decode cX12_count 220 = .ok (.iaload, 1) := by decide +kernel
theorem dX12_count_221 : decode cX12_count 221 = .ok (.goto 4, 3) := by decide +kernel
theorem dX12_count_224 : decode cX12_count 224 = .ok (.iconst (-1), 1) := by decide +kernel
theorem dX12_count_225 : decode cX12_count 225 = .ok (.ireturn, 1) := by decide +kernel
set_option maxRecDepth 100000 in
def f_m_count (x1 : Int) (V : Nat → Nat → Int) (J : Nat → Nat → Int) (Rr : Nat → Nat → Nat) : (Int) → Prop :=
  (if x1 = 0 then rdb (V 1 79) fun z2 => rtn z2 else (if x1 = 1 then rdb (V 1 76) fun z4 => rtn z4 else (if x1 = 2 then rdb (V 1 77) fun z6 => rtn z6 else (if x1 = 3 then rdb (V 1 78) fun z8 => rtn z8 else (if x1 = 4 then rdb (V 12 0) fun z10 => fct (0 ≤ z10 ∧ z10 ≤ 14) <| rtn z10 else (if x1 = 5 then rdb (V 0 4) fun z12 => fct (0 ≤ z12 ∧ z12 ≤ 220) <| rtn z12 else (if x1 = 6 then rdb (V 1 80) fun z14 => rtn z14 else calR (f_m_in x1 10 13) fun z15 => fct (0 ≤ z15 ∧ z15 ≤ 1) <| (if z15 = 0 then calR (f_m_in x1 20 27) fun z17 => fct (0 ≤ z17 ∧ z17 ≤ 1) <| (if z17 = 0 then calR (f_m_in x1 30 37) fun z19 => fct (0 ≤ z19 ∧ z19 ≤ 1) <| (if z19 = 0 then calR (f_m_in x1 40 47) fun z21 => fct (0 ≤ z21 ∧ z21 ≤ 1) <| (if z21 = 0 then rtn ((-1)) else calR (f_m_isPerson (x1 - 40) V J Rr) fun z24 => fct (0 ≤ z24 ∧ z24 ≤ 1) <| (if z24 = 0 then rtn ((-1)) else rdb (V 1 ((x1 + 28).toNat)) fun z27 => rtn z27)) else calR (f_m_isPerson (x1 - 30) V J Rr) fun z29 => fct (0 ≤ z29 ∧ z29 ≤ 1) <| (if z29 = 0 then calR (f_m_in x1 40 47) fun z31 => fct (0 ≤ z31 ∧ z31 ≤ 1) <| (if z31 = 0 then rtn ((-1)) else calR (f_m_isPerson (x1 - 40) V J Rr) fun z34 => fct (0 ≤ z34 ∧ z34 ≤ 1) <| (if z34 = 0 then rtn ((-1)) else rdb (V 1 ((x1 + 28).toNat)) fun z37 => rtn z37)) else rdb (V 1 ((x1 + 30).toNat)) fun z39 => fct (0 ≤ z39 ∧ z39 ≤ 3) <| rtn z39)) else calR (f_m_isPerson (x1 - 20) V J Rr) fun z41 => fct (0 ≤ z41 ∧ z41 ≤ 1) <| (if z41 = 0 then calR (f_m_in x1 30 37) fun z43 => fct (0 ≤ z43 ∧ z43 ≤ 1) <| (if z43 = 0 then calR (f_m_in x1 40 47) fun z45 => fct (0 ≤ z45 ∧ z45 ≤ 1) <| (if z45 = 0 then rtn ((-1)) else calR (f_m_isPerson (x1 - 40) V J Rr) fun z48 => fct (0 ≤ z48 ∧ z48 ≤ 1) <| (if z48 = 0 then rtn ((-1)) else rdb (V 1 ((x1 + 28).toNat)) fun z51 => rtn z51)) else calR (f_m_isPerson (x1 - 30) V J Rr) fun z53 => fct (0 ≤ z53 ∧ z53 ≤ 1) <| (if z53 = 0 then calR (f_m_in x1 40 47) fun z55 => fct (0 ≤ z55 ∧ z55 ≤ 1) <| (if z55 = 0 then rtn ((-1)) else calR (f_m_isPerson (x1 - 40) V J Rr) fun z58 => fct (0 ≤ z58 ∧ z58 ≤ 1) <| (if z58 = 0 then rtn ((-1)) else rdb (V 1 ((x1 + 28).toNat)) fun z61 => rtn z61)) else rdb (V 1 ((x1 + 30).toNat)) fun z63 => rtn z63)) else rdb (V 1 ((x1 + 32).toNat)) fun z65 => rtn z65)) else rdb (V 12 ((x1 - 9).toNat)) fun z67 => fct (0 ≤ z67 ∧ z67 ≤ 14) <| rtn z67))))))))
set_option maxHeartbeats 8000000 in
set_option maxRecDepth 100000 in
theorem m_count (l : Launch) (D : va_G) (cy : Nat → ClassId) (ad : Nat → Nat) (G : Nat → Nat → Int) (V J : Nat → Nat → Int) (Rr : Nat → Nat → Nat) (hI : MI G V) (hJ : VJ J) (hR : MR Rr) (x1 : Int) (bx1 : -2147483648 ≤ x1 ∧ x1 ≤ 2147483647) : xMi l D (xTY cy) yX12_count cX12_count 2 (some .int) 2 42 0 0 [.ref (ad 0), vI x1] (MW cy ad V J Rr) (fun _ : Unit => MW cy ad V J Rr) (fun a (u : Unit) => (f_m_count x1 V J Rr) a) := by
  refine xMi.mk (lv0 := [(0, .ref (ad 0)), (1, vI x1)]) (by decide) rfl (Nat.le_of_ble_eq_true rfl) (fun p e s m below meth c A C hr hnm hAe => ?_)
  have C : xC2 p s m _ meth c D A s.heap 2 cX12_count RX12 (xTY cy) := C
  have hF := Imp.of_eq (f_m_count.eq_def x1 V J Rr)
  refine x_iload_n C.1 dX12_count_0 1 rfl ?_
  by_cases hs1 : x1 = 0
  · replace hF := hF.to (if_pos hs1)
    refine x_tabIn C.1 0 hs1 (by decide) (tgt := 44) dX12_count_1 (by decide) (by decide) rfl (by decide) ?_
    refine x_aload_n C.1 dX12_count_44 0 rfl ?_
    refine x_getA C (N := 33) (i := 0) (by decide) rfl vc_X12 wx_X12 0 (by decide) wf_X12_7 (a := 1) rfl dX12_count_45 ?_
    refine x_bipush C.1 (n := 79) dX12_count_48 ?_
    obtain ⟨z2, ez2, bz2⟩ := hI.rd 1 79 (x := -2147483648) (y := 2147483647) (rgN_81 (Or.inl rfl) (by decide))
    replace hF := hF.to (rdb_e (z := z2) ez2)
    refine x_iald C (N := 33) (i := 1) (q := 79) (by decide) rfl (by decide) (by decide) dX12_count_50 (a := z2) ez2 ?_
    exact x_iret (S := Unit) (post := (fun a (u : Unit) => (f_m_count x1 V J Rr) a)) (w1 := (fun _ : Unit => MW cy ad V J Rr)) (a := z2) C hr rfl dX12_count_51 (by omega) () rfl (hF _ rfl)
  replace hF := hF.to (if_neg hs1)
  by_cases hs3 : x1 = 1
  · replace hF := hF.to (if_pos hs3)
    refine x_tabIn C.1 1 hs3 (by decide) (tgt := 52) dX12_count_1 (by decide) (by decide) rfl (by decide) ?_
    refine x_aload_n C.1 dX12_count_52 0 rfl ?_
    refine x_getA C (N := 33) (i := 0) (by decide) rfl vc_X12 wx_X12 0 (by decide) wf_X12_7 (a := 1) rfl dX12_count_53 ?_
    refine x_bipush C.1 (n := 76) dX12_count_56 ?_
    obtain ⟨z4, ez4, bz4⟩ := hI.rd 1 76 (x := -2147483648) (y := 2147483647) (rgN_81 (Or.inl rfl) (by decide))
    replace hF := hF.to (rdb_e (z := z4) ez4)
    refine x_iald C (N := 33) (i := 1) (q := 76) (by decide) rfl (by decide) (by decide) dX12_count_58 (a := z4) ez4 ?_
    exact x_iret (S := Unit) (post := (fun a (u : Unit) => (f_m_count x1 V J Rr) a)) (w1 := (fun _ : Unit => MW cy ad V J Rr)) (a := z4) C hr rfl dX12_count_59 (by omega) () rfl (hF _ rfl)
  replace hF := hF.to (if_neg hs3)
  by_cases hs5 : x1 = 2
  · replace hF := hF.to (if_pos hs5)
    refine x_tabIn C.1 2 hs5 (by decide) (tgt := 60) dX12_count_1 (by decide) (by decide) rfl (by decide) ?_
    refine x_aload_n C.1 dX12_count_60 0 rfl ?_
    refine x_getA C (N := 33) (i := 0) (by decide) rfl vc_X12 wx_X12 0 (by decide) wf_X12_7 (a := 1) rfl dX12_count_61 ?_
    refine x_bipush C.1 (n := 77) dX12_count_64 ?_
    obtain ⟨z6, ez6, bz6⟩ := hI.rd 1 77 (x := -2147483648) (y := 2147483647) (rgN_81 (Or.inl rfl) (by decide))
    replace hF := hF.to (rdb_e (z := z6) ez6)
    refine x_iald C (N := 33) (i := 1) (q := 77) (by decide) rfl (by decide) (by decide) dX12_count_66 (a := z6) ez6 ?_
    exact x_iret (S := Unit) (post := (fun a (u : Unit) => (f_m_count x1 V J Rr) a)) (w1 := (fun _ : Unit => MW cy ad V J Rr)) (a := z6) C hr rfl dX12_count_67 (by omega) () rfl (hF _ rfl)
  replace hF := hF.to (if_neg hs5)
  by_cases hs7 : x1 = 3
  · replace hF := hF.to (if_pos hs7)
    refine x_tabIn C.1 3 hs7 (by decide) (tgt := 68) dX12_count_1 (by decide) (by decide) rfl (by decide) ?_
    refine x_aload_n C.1 dX12_count_68 0 rfl ?_
    refine x_getA C (N := 33) (i := 0) (by decide) rfl vc_X12 wx_X12 0 (by decide) wf_X12_7 (a := 1) rfl dX12_count_69 ?_
    refine x_bipush C.1 (n := 78) dX12_count_72 ?_
    obtain ⟨z8, ez8, bz8⟩ := hI.rd 1 78 (x := -2147483648) (y := 2147483647) (rgN_81 (Or.inl rfl) (by decide))
    replace hF := hF.to (rdb_e (z := z8) ez8)
    refine x_iald C (N := 33) (i := 1) (q := 78) (by decide) rfl (by decide) (by decide) dX12_count_74 (a := z8) ez8 ?_
    exact x_iret (S := Unit) (post := (fun a (u : Unit) => (f_m_count x1 V J Rr) a)) (w1 := (fun _ : Unit => MW cy ad V J Rr)) (a := z8) C hr rfl dX12_count_75 (by omega) () rfl (hF _ rfl)
  replace hF := hF.to (if_neg hs7)
  by_cases hs9 : x1 = 4
  · replace hF := hF.to (if_pos hs9)
    refine x_tabIn C.1 4 hs9 (by decide) (tgt := 76) dX12_count_1 (by decide) (by decide) rfl (by decide) ?_
    refine x_aload_n C.1 dX12_count_76 0 rfl ?_
    refine x_getA C (N := 33) (i := 0) (by decide) rfl vc_X12 wx_X12 20 (by decide) wf_X12_44 (a := 12) rfl dX12_count_77 ?_
    refine x_iconst C.1 (n := 0) dX12_count_80 ?_
    obtain ⟨z10, ez10, bz10⟩ := hI.rd 12 0 (x := 0) (y := 14) rfl
    replace hF := hF.to (rdb_e (z := z10) ez10)
    replace hF := hF.fc bz10
    refine x_iald C (N := 33) (i := 12) (q := 0) (by decide) rfl (by decide) (by decide) dX12_count_81 (a := z10) ez10 ?_
    exact x_iret (S := Unit) (post := (fun a (u : Unit) => (f_m_count x1 V J Rr) a)) (w1 := (fun _ : Unit => MW cy ad V J Rr)) (a := z10) C hr rfl dX12_count_82 (by omega) () rfl (hF _ rfl)
  replace hF := hF.to (if_neg hs9)
  by_cases hs11 : x1 = 5
  · replace hF := hF.to (if_pos hs11)
    refine x_tabIn C.1 5 hs11 (by decide) (tgt := 83) dX12_count_1 (by decide) (by decide) rfl (by decide) ?_
    refine x_aload_n C.1 dX12_count_83 0 rfl ?_
    obtain ⟨z12, ez12, bz12⟩ := hI.rd 0 4 (x := 0) (y := 220) rfl
    replace hF := hF.to (rdb_e (z := z12) ez12)
    replace hF := hF.fc bz12
    refine x_getI C (N := 33) (i := 0) (by decide) rfl vc_X12 wx_X12 4 (by decide) wf_X12_137 rfl dX12_count_84 (a := z12) ez12 ?_
    exact x_iret (S := Unit) (post := (fun a (u : Unit) => (f_m_count x1 V J Rr) a)) (w1 := (fun _ : Unit => MW cy ad V J Rr)) (a := z12) C hr rfl dX12_count_87 (by omega) () rfl (hF _ rfl)
  replace hF := hF.to (if_neg hs11)
  by_cases hs13 : x1 = 6
  · replace hF := hF.to (if_pos hs13)
    refine x_tabIn C.1 6 hs13 (by decide) (tgt := 88) dX12_count_1 (by decide) (by decide) rfl (by decide) ?_
    refine x_aload_n C.1 dX12_count_88 0 rfl ?_
    refine x_getA C (N := 33) (i := 0) (by decide) rfl vc_X12 wx_X12 0 (by decide) wf_X12_7 (a := 1) rfl dX12_count_89 ?_
    refine x_bipush C.1 (n := 80) dX12_count_92 ?_
    obtain ⟨z14, ez14, bz14⟩ := hI.rd 1 80 (x := -2147483648) (y := 2147483647) (rgN_81 (Or.inl rfl) (by decide))
    replace hF := hF.to (rdb_e (z := z14) ez14)
    refine x_iald C (N := 33) (i := 1) (q := 80) (by decide) rfl (by decide) (by decide) dX12_count_94 (a := z14) ez14 ?_
    exact x_iret (S := Unit) (post := (fun a (u : Unit) => (f_m_count x1 V J Rr) a)) (w1 := (fun _ : Unit => MW cy ad V J Rr)) (a := z14) C hr rfl dX12_count_95 (by omega) () rfl (hF _ rfl)
  replace hF := hF.to (if_neg hs13)
  refine x_tabOut C.1 (tgt := 96) (by omega) dX12_count_1 (by omega) (by decide) ?_
  refine x_iload_n C.1 dX12_count_96 1 rfl ?_
  refine x_bipush C.1 (n := 10) dX12_count_97 ?_
  refine x_bipush C.1 (n := 13) dX12_count_99 ?_
  refine x_callSi C (As := [vI x1, vI 10, vI 13]) (rest := []) (m_in l D cy x1 ⟨by omega, by omega⟩ 10 ⟨by decide, by decide⟩ 13 ⟨by decide, by decide⟩) (l1 := []) (l2 := _) rfl (w2 := fun _ => _) (fun _ => rfl) rfl wm_yX12_in wn_X12 wl_X12_126 wi_yX12_in hd_yX12_in rfl ⟨Nat.le_of_ble_eq_true rfl, Nat.le_of_ble_eq_true rfl⟩ (Nat.le_of_ble_eq_true rfl) ⟨Nat.le_of_ble_eq_true rfl, Nat.le_of_ble_eq_true rfl⟩ dX12_count_101 (fun z15 u15 bz15 h15 => ?_)
  obtain ⟨bq15, hx15_0, hFc15⟩ := h15
  replace hF := calR_i hF hFc15
  replace hF := hF.fc bq15
  refine x_if_eq C.1 (tgt := 117) dX12_count_104 (by decide) (by omega) (fun hc16 => ?_) (fun hc16 => ?_)
  · replace hF := hF.to (if_pos hc16)
    refine x_iload_n C.1 dX12_count_117 1 rfl ?_
    refine x_bipush C.1 (n := 20) dX12_count_118 ?_
    refine x_bipush C.1 (n := 27) dX12_count_120 ?_
    refine x_callSi C (As := [vI x1, vI 20, vI 27]) (rest := []) (m_in l D cy x1 ⟨by omega, by omega⟩ 20 ⟨by decide, by decide⟩ 27 ⟨by decide, by decide⟩) (l1 := []) (l2 := _) rfl (w2 := fun _ => _) (fun _ => rfl) rfl wm_yX12_in wn_X12 wl_X12_126 wi_yX12_in hd_yX12_in rfl ⟨Nat.le_of_ble_eq_true rfl, Nat.le_of_ble_eq_true rfl⟩ (Nat.le_of_ble_eq_true rfl) ⟨Nat.le_of_ble_eq_true rfl, Nat.le_of_ble_eq_true rfl⟩ dX12_count_122 (fun z17 u17 bz17 h17 => ?_)
    obtain ⟨bq17, hx17_0, hFc17⟩ := h17
    replace hF := calR_i hF hFc17
    replace hF := hF.fc bq17
    refine x_if_eq C.1 (tgt := 152) dX12_count_125 (by decide) (by omega) (fun hc18 => ?_) (fun hc18 => ?_)
    · replace hF := hF.to (if_pos hc18)
      refine x_iload_n C.1 dX12_count_152 1 rfl ?_
      refine x_bipush C.1 (n := 30) dX12_count_153 ?_
      refine x_bipush C.1 (n := 37) dX12_count_155 ?_
      refine x_callSi C (As := [vI x1, vI 30, vI 37]) (rest := []) (m_in l D cy x1 ⟨by omega, by omega⟩ 30 ⟨by decide, by decide⟩ 37 ⟨by decide, by decide⟩) (l1 := []) (l2 := _) rfl (w2 := fun _ => _) (fun _ => rfl) rfl wm_yX12_in wn_X12 wl_X12_126 wi_yX12_in hd_yX12_in rfl ⟨Nat.le_of_ble_eq_true rfl, Nat.le_of_ble_eq_true rfl⟩ (Nat.le_of_ble_eq_true rfl) ⟨Nat.le_of_ble_eq_true rfl, Nat.le_of_ble_eq_true rfl⟩ dX12_count_157 (fun z19 u19 bz19 h19 => ?_)
      obtain ⟨bq19, hx19_0, hFc19⟩ := h19
      replace hF := calR_i hF hFc19
      replace hF := hF.fc bq19
      refine x_if_eq C.1 (tgt := 187) dX12_count_160 (by decide) (by omega) (fun hc20 => ?_) (fun hc20 => ?_)
      · replace hF := hF.to (if_pos hc20)
        refine x_iload_n C.1 dX12_count_187 1 rfl ?_
        refine x_bipush C.1 (n := 40) dX12_count_188 ?_
        refine x_bipush C.1 (n := 47) dX12_count_190 ?_
        refine x_callSi C (As := [vI x1, vI 40, vI 47]) (rest := []) (m_in l D cy x1 ⟨by omega, by omega⟩ 40 ⟨by decide, by decide⟩ 47 ⟨by decide, by decide⟩) (l1 := []) (l2 := _) rfl (w2 := fun _ => _) (fun _ => rfl) rfl wm_yX12_in wn_X12 wl_X12_126 wi_yX12_in hd_yX12_in rfl ⟨Nat.le_of_ble_eq_true rfl, Nat.le_of_ble_eq_true rfl⟩ (Nat.le_of_ble_eq_true rfl) ⟨Nat.le_of_ble_eq_true rfl, Nat.le_of_ble_eq_true rfl⟩ dX12_count_192 (fun z21 u21 bz21 h21 => ?_)
        obtain ⟨bq21, hx21_0, hFc21⟩ := h21
        replace hF := calR_i hF hFc21
        replace hF := hF.fc bq21
        refine x_if_eq C.1 (tgt := 224) dX12_count_195 (by decide) (by omega) (fun hc22 => ?_) (fun hc22 => ?_)
        · replace hF := hF.to (if_pos hc22)
          refine x_iconst C.1 (n := -1) dX12_count_224 ?_
          exact x_iret (S := Unit) (post := (fun a (u : Unit) => (f_m_count x1 V J Rr) a)) (w1 := (fun _ : Unit => MW cy ad V J Rr)) (a := (-1)) C hr rfl dX12_count_225 (by decide) () rfl (hF _ rfl)
        · replace hF := hF.to (if_neg hc22)
          have hon23 := Sq.on hx21_0 (by omega)
          refine x_aload_n C.1 dX12_count_198 0 rfl ?_
          refine x_iload_n C.1 dX12_count_199 1 rfl ?_
          refine x_bipush C.1 (n := 40) dX12_count_200 ?_
          refine x_isub C.1 (v := x1 - 40) (by omega) dX12_count_202 ?_
          refine x_callVi C (As := [vI (x1 - 40)]) (rest := []) 0 (xw_at (N := 33) (i := 0) (by decide) rfl) vc_X12 (m_isPerson l D cy ad G V J Rr hI hJ hR (x1 - 40) ⟨by omega, by omega⟩) (l1 := []) (l2 := []) (List.append_nil _).symm (w2 := fun _ => MW cy ad V J Rr) (fun _ => List.append_nil _) rfl wm_yX12_isPerson wn_X12 wl_X12_259 wi_yX12_isPerson we_yX12_isPerson hd_yX12_isPerson rfl ⟨Nat.le_of_ble_eq_true rfl, Nat.le_of_ble_eq_true rfl⟩ (Nat.le_of_ble_eq_true rfl) ⟨Nat.le_of_ble_eq_true rfl, Nat.le_of_ble_eq_true rfl⟩ dX12_count_203 (fun z24 u24 bz24 h24 => ?_)
          obtain ⟨hon24, hFc24⟩ := h24
          replace hF := calR_i hF hFc24
          replace hF := hF.fc hon24.r
          have bq24 := Sp.r hon24
          refine x_if_eq C.1 (tgt := 224) dX12_count_206 (by decide) (by omega) (fun hc25 => ?_) (fun hc25 => ?_)
          · replace hF := hF.to (if_pos hc25)
            refine x_iconst C.1 (n := -1) dX12_count_224 ?_
            exact x_iret (S := Unit) (post := (fun a (u : Unit) => (f_m_count x1 V J Rr) a)) (w1 := (fun _ : Unit => MW cy ad V J Rr)) (a := (-1)) C hr rfl dX12_count_225 (by decide) () rfl (hF _ rfl)
          · replace hF := hF.to (if_neg hc25)
            have hon26 := Sp.on hon24 (by omega)
            refine x_aload_n C.1 dX12_count_209 0 rfl ?_
            refine x_getA C (N := 33) (i := 0) (by decide) rfl vc_X12 wx_X12 0 (by decide) wf_X12_7 (a := 1) rfl dX12_count_210 ?_
            refine x_bipush C.1 (n := 68) dX12_count_213 ?_
            refine x_iload_n C.1 dX12_count_215 1 rfl ?_
            refine x_iadd C.1 (v := x1 + 68) (by omega) dX12_count_216 ?_
            refine x_bipush C.1 (n := 40) dX12_count_217 ?_
            refine x_isub C.1 (v := x1 + 28) (by omega) dX12_count_219 ?_
            obtain ⟨z27, ez27, bz27⟩ := hI.rd 1 ((x1 + 28).toNat) (x := -2147483648) (y := 2147483647) (rgN_81 (Or.inl rfl) (by omega))
            replace hF := hF.to (rdb_e (z := z27) ez27)
            refine x_iald C (N := 33) (i := 1) (q := x1 + 28) (by decide) rfl (by omega) (by decide) dX12_count_220 (a := z27) ez27 ?_
            refine x_goto C.1 (tgt := 225) dX12_count_221 (by decide) ?_
            exact x_iret (S := Unit) (post := (fun a (u : Unit) => (f_m_count x1 V J Rr) a)) (w1 := (fun _ : Unit => MW cy ad V J Rr)) (a := z27) C hr rfl dX12_count_225 (by omega) () rfl (hF _ rfl)
      · replace hF := hF.to (if_neg hc20)
        have hon28 := Sq.on hx19_0 (by omega)
        refine x_aload_n C.1 dX12_count_163 0 rfl ?_
        refine x_iload_n C.1 dX12_count_164 1 rfl ?_
        refine x_bipush C.1 (n := 30) dX12_count_165 ?_
        refine x_isub C.1 (v := x1 - 30) (by omega) dX12_count_167 ?_
        refine x_callVi C (As := [vI (x1 - 30)]) (rest := []) 0 (xw_at (N := 33) (i := 0) (by decide) rfl) vc_X12 (m_isPerson l D cy ad G V J Rr hI hJ hR (x1 - 30) ⟨by omega, by omega⟩) (l1 := []) (l2 := []) (List.append_nil _).symm (w2 := fun _ => MW cy ad V J Rr) (fun _ => List.append_nil _) rfl wm_yX12_isPerson wn_X12 wl_X12_259 wi_yX12_isPerson we_yX12_isPerson hd_yX12_isPerson rfl ⟨Nat.le_of_ble_eq_true rfl, Nat.le_of_ble_eq_true rfl⟩ (Nat.le_of_ble_eq_true rfl) ⟨Nat.le_of_ble_eq_true rfl, Nat.le_of_ble_eq_true rfl⟩ dX12_count_168 (fun z29 u29 bz29 h29 => ?_)
        obtain ⟨hon29, hFc29⟩ := h29
        replace hF := calR_i hF hFc29
        replace hF := hF.fc hon29.r
        have bq29 := Sp.r hon29
        refine x_if_eq C.1 (tgt := 187) dX12_count_171 (by decide) (by omega) (fun hc30 => ?_) (fun hc30 => ?_)
        · replace hF := hF.to (if_pos hc30)
          refine x_iload_n C.1 dX12_count_187 1 rfl ?_
          refine x_bipush C.1 (n := 40) dX12_count_188 ?_
          refine x_bipush C.1 (n := 47) dX12_count_190 ?_
          refine x_callSi C (As := [vI x1, vI 40, vI 47]) (rest := []) (m_in l D cy x1 ⟨by omega, by omega⟩ 40 ⟨by decide, by decide⟩ 47 ⟨by decide, by decide⟩) (l1 := []) (l2 := _) rfl (w2 := fun _ => _) (fun _ => rfl) rfl wm_yX12_in wn_X12 wl_X12_126 wi_yX12_in hd_yX12_in rfl ⟨Nat.le_of_ble_eq_true rfl, Nat.le_of_ble_eq_true rfl⟩ (Nat.le_of_ble_eq_true rfl) ⟨Nat.le_of_ble_eq_true rfl, Nat.le_of_ble_eq_true rfl⟩ dX12_count_192 (fun z31 u31 bz31 h31 => ?_)
          obtain ⟨bq31, hx31_0, hFc31⟩ := h31
          replace hF := calR_i hF hFc31
          replace hF := hF.fc bq31
          refine x_if_eq C.1 (tgt := 224) dX12_count_195 (by decide) (by omega) (fun hc32 => ?_) (fun hc32 => ?_)
          · replace hF := hF.to (if_pos hc32)
            refine x_iconst C.1 (n := -1) dX12_count_224 ?_
            exact x_iret (S := Unit) (post := (fun a (u : Unit) => (f_m_count x1 V J Rr) a)) (w1 := (fun _ : Unit => MW cy ad V J Rr)) (a := (-1)) C hr rfl dX12_count_225 (by decide) () rfl (hF _ rfl)
          · replace hF := hF.to (if_neg hc32)
            have hon33 := Sq.on hx31_0 (by omega)
            refine x_aload_n C.1 dX12_count_198 0 rfl ?_
            refine x_iload_n C.1 dX12_count_199 1 rfl ?_
            refine x_bipush C.1 (n := 40) dX12_count_200 ?_
            refine x_isub C.1 (v := x1 - 40) (by omega) dX12_count_202 ?_
            refine x_callVi C (As := [vI (x1 - 40)]) (rest := []) 0 (xw_at (N := 33) (i := 0) (by decide) rfl) vc_X12 (m_isPerson l D cy ad G V J Rr hI hJ hR (x1 - 40) ⟨by omega, by omega⟩) (l1 := []) (l2 := []) (List.append_nil _).symm (w2 := fun _ => MW cy ad V J Rr) (fun _ => List.append_nil _) rfl wm_yX12_isPerson wn_X12 wl_X12_259 wi_yX12_isPerson we_yX12_isPerson hd_yX12_isPerson rfl ⟨Nat.le_of_ble_eq_true rfl, Nat.le_of_ble_eq_true rfl⟩ (Nat.le_of_ble_eq_true rfl) ⟨Nat.le_of_ble_eq_true rfl, Nat.le_of_ble_eq_true rfl⟩ dX12_count_203 (fun z34 u34 bz34 h34 => ?_)
            obtain ⟨hon34, hFc34⟩ := h34
            replace hF := calR_i hF hFc34
            replace hF := hF.fc hon34.r
            have bq34 := Sp.r hon34
            refine x_if_eq C.1 (tgt := 224) dX12_count_206 (by decide) (by omega) (fun hc35 => ?_) (fun hc35 => ?_)
            · replace hF := hF.to (if_pos hc35)
              refine x_iconst C.1 (n := -1) dX12_count_224 ?_
              exact x_iret (S := Unit) (post := (fun a (u : Unit) => (f_m_count x1 V J Rr) a)) (w1 := (fun _ : Unit => MW cy ad V J Rr)) (a := (-1)) C hr rfl dX12_count_225 (by decide) () rfl (hF _ rfl)
            · replace hF := hF.to (if_neg hc35)
              have hon36 := Sp.on hon34 (by omega)
              refine x_aload_n C.1 dX12_count_209 0 rfl ?_
              refine x_getA C (N := 33) (i := 0) (by decide) rfl vc_X12 wx_X12 0 (by decide) wf_X12_7 (a := 1) rfl dX12_count_210 ?_
              refine x_bipush C.1 (n := 68) dX12_count_213 ?_
              refine x_iload_n C.1 dX12_count_215 1 rfl ?_
              refine x_iadd C.1 (v := x1 + 68) (by omega) dX12_count_216 ?_
              refine x_bipush C.1 (n := 40) dX12_count_217 ?_
              refine x_isub C.1 (v := x1 + 28) (by omega) dX12_count_219 ?_
              obtain ⟨z37, ez37, bz37⟩ : ∃ z : Int, V 1 ((x1 + 28).toNat) = z ∧ R32 z := ⟨_, rfl, hI.vr _ _⟩
              replace hF := hF.to (rdb_e (z := z37) ez37)
              refine x_iald C (N := 33) (i := 1) (q := x1 + 28) (by decide) rfl (by omega) (by decide) dX12_count_220 (a := z37) ez37 ?_
              refine x_goto C.1 (tgt := 225) dX12_count_221 (by decide) ?_
              exact x_iret (S := Unit) (post := (fun a (u : Unit) => (f_m_count x1 V J Rr) a)) (w1 := (fun _ : Unit => MW cy ad V J Rr)) (a := z37) C hr rfl dX12_count_225 (by omega) () rfl (hF _ rfl)
        · replace hF := hF.to (if_neg hc30)
          have hon38 := Sp.on hon29 (by omega)
          refine x_aload_n C.1 dX12_count_174 0 rfl ?_
          refine x_getA C (N := 33) (i := 0) (by decide) rfl vc_X12 wx_X12 0 (by decide) wf_X12_7 (a := 1) rfl dX12_count_175 ?_
          refine x_bipush C.1 (n := 60) dX12_count_178 ?_
          refine x_iload_n C.1 dX12_count_180 1 rfl ?_
          refine x_iadd C.1 (v := x1 + 60) (by omega) dX12_count_181 ?_
          refine x_bipush C.1 (n := 30) dX12_count_182 ?_
          refine x_isub C.1 (v := x1 + 30) (by omega) dX12_count_184 ?_
          obtain ⟨z39, ez39, bz39⟩ := hI.rd 1 ((x1 + 30).toNat) (x := 0) (y := 3) (rgN_68 (Or.inl rfl) (by omega))
          replace hF := hF.to (rdb_e (z := z39) ez39)
          replace hF := hF.fc bz39
          refine x_iald C (N := 33) (i := 1) (q := x1 + 30) (by decide) rfl (by omega) (by decide) dX12_count_185 (a := z39) ez39 ?_
          exact x_iret (S := Unit) (post := (fun a (u : Unit) => (f_m_count x1 V J Rr) a)) (w1 := (fun _ : Unit => MW cy ad V J Rr)) (a := z39) C hr rfl dX12_count_186 (by omega) () rfl (hF _ rfl)
    · replace hF := hF.to (if_neg hc18)
      have hon40 := Sq.on hx17_0 (by omega)
      refine x_aload_n C.1 dX12_count_128 0 rfl ?_
      refine x_iload_n C.1 dX12_count_129 1 rfl ?_
      refine x_bipush C.1 (n := 20) dX12_count_130 ?_
      refine x_isub C.1 (v := x1 - 20) (by omega) dX12_count_132 ?_
      refine x_callVi C (As := [vI (x1 - 20)]) (rest := []) 0 (xw_at (N := 33) (i := 0) (by decide) rfl) vc_X12 (m_isPerson l D cy ad G V J Rr hI hJ hR (x1 - 20) ⟨by omega, by omega⟩) (l1 := []) (l2 := []) (List.append_nil _).symm (w2 := fun _ => MW cy ad V J Rr) (fun _ => List.append_nil _) rfl wm_yX12_isPerson wn_X12 wl_X12_259 wi_yX12_isPerson we_yX12_isPerson hd_yX12_isPerson rfl ⟨Nat.le_of_ble_eq_true rfl, Nat.le_of_ble_eq_true rfl⟩ (Nat.le_of_ble_eq_true rfl) ⟨Nat.le_of_ble_eq_true rfl, Nat.le_of_ble_eq_true rfl⟩ dX12_count_133 (fun z41 u41 bz41 h41 => ?_)
      obtain ⟨hon41, hFc41⟩ := h41
      replace hF := calR_i hF hFc41
      replace hF := hF.fc hon41.r
      have bq41 := Sp.r hon41
      refine x_if_eq C.1 (tgt := 152) dX12_count_136 (by decide) (by omega) (fun hc42 => ?_) (fun hc42 => ?_)
      · replace hF := hF.to (if_pos hc42)
        refine x_iload_n C.1 dX12_count_152 1 rfl ?_
        refine x_bipush C.1 (n := 30) dX12_count_153 ?_
        refine x_bipush C.1 (n := 37) dX12_count_155 ?_
        refine x_callSi C (As := [vI x1, vI 30, vI 37]) (rest := []) (m_in l D cy x1 ⟨by omega, by omega⟩ 30 ⟨by decide, by decide⟩ 37 ⟨by decide, by decide⟩) (l1 := []) (l2 := _) rfl (w2 := fun _ => _) (fun _ => rfl) rfl wm_yX12_in wn_X12 wl_X12_126 wi_yX12_in hd_yX12_in rfl ⟨Nat.le_of_ble_eq_true rfl, Nat.le_of_ble_eq_true rfl⟩ (Nat.le_of_ble_eq_true rfl) ⟨Nat.le_of_ble_eq_true rfl, Nat.le_of_ble_eq_true rfl⟩ dX12_count_157 (fun z43 u43 bz43 h43 => ?_)
        obtain ⟨bq43, hx43_0, hFc43⟩ := h43
        replace hF := calR_i hF hFc43
        replace hF := hF.fc bq43
        refine x_if_eq C.1 (tgt := 187) dX12_count_160 (by decide) (by omega) (fun hc44 => ?_) (fun hc44 => ?_)
        · replace hF := hF.to (if_pos hc44)
          refine x_iload_n C.1 dX12_count_187 1 rfl ?_
          refine x_bipush C.1 (n := 40) dX12_count_188 ?_
          refine x_bipush C.1 (n := 47) dX12_count_190 ?_
          refine x_callSi C (As := [vI x1, vI 40, vI 47]) (rest := []) (m_in l D cy x1 ⟨by omega, by omega⟩ 40 ⟨by decide, by decide⟩ 47 ⟨by decide, by decide⟩) (l1 := []) (l2 := _) rfl (w2 := fun _ => _) (fun _ => rfl) rfl wm_yX12_in wn_X12 wl_X12_126 wi_yX12_in hd_yX12_in rfl ⟨Nat.le_of_ble_eq_true rfl, Nat.le_of_ble_eq_true rfl⟩ (Nat.le_of_ble_eq_true rfl) ⟨Nat.le_of_ble_eq_true rfl, Nat.le_of_ble_eq_true rfl⟩ dX12_count_192 (fun z45 u45 bz45 h45 => ?_)
          obtain ⟨bq45, hx45_0, hFc45⟩ := h45
          replace hF := calR_i hF hFc45
          replace hF := hF.fc bq45
          refine x_if_eq C.1 (tgt := 224) dX12_count_195 (by decide) (by omega) (fun hc46 => ?_) (fun hc46 => ?_)
          · replace hF := hF.to (if_pos hc46)
            refine x_iconst C.1 (n := -1) dX12_count_224 ?_
            exact x_iret (S := Unit) (post := (fun a (u : Unit) => (f_m_count x1 V J Rr) a)) (w1 := (fun _ : Unit => MW cy ad V J Rr)) (a := (-1)) C hr rfl dX12_count_225 (by decide) () rfl (hF _ rfl)
          · replace hF := hF.to (if_neg hc46)
            have hon47 := Sq.on hx45_0 (by omega)
            refine x_aload_n C.1 dX12_count_198 0 rfl ?_
            refine x_iload_n C.1 dX12_count_199 1 rfl ?_
            refine x_bipush C.1 (n := 40) dX12_count_200 ?_
            refine x_isub C.1 (v := x1 - 40) (by omega) dX12_count_202 ?_
            refine x_callVi C (As := [vI (x1 - 40)]) (rest := []) 0 (xw_at (N := 33) (i := 0) (by decide) rfl) vc_X12 (m_isPerson l D cy ad G V J Rr hI hJ hR (x1 - 40) ⟨by omega, by omega⟩) (l1 := []) (l2 := []) (List.append_nil _).symm (w2 := fun _ => MW cy ad V J Rr) (fun _ => List.append_nil _) rfl wm_yX12_isPerson wn_X12 wl_X12_259 wi_yX12_isPerson we_yX12_isPerson hd_yX12_isPerson rfl ⟨Nat.le_of_ble_eq_true rfl, Nat.le_of_ble_eq_true rfl⟩ (Nat.le_of_ble_eq_true rfl) ⟨Nat.le_of_ble_eq_true rfl, Nat.le_of_ble_eq_true rfl⟩ dX12_count_203 (fun z48 u48 bz48 h48 => ?_)
            obtain ⟨hon48, hFc48⟩ := h48
            replace hF := calR_i hF hFc48
            replace hF := hF.fc hon48.r
            have bq48 := Sp.r hon48
            refine x_if_eq C.1 (tgt := 224) dX12_count_206 (by decide) (by omega) (fun hc49 => ?_) (fun hc49 => ?_)
            · replace hF := hF.to (if_pos hc49)
              refine x_iconst C.1 (n := -1) dX12_count_224 ?_
              exact x_iret (S := Unit) (post := (fun a (u : Unit) => (f_m_count x1 V J Rr) a)) (w1 := (fun _ : Unit => MW cy ad V J Rr)) (a := (-1)) C hr rfl dX12_count_225 (by decide) () rfl (hF _ rfl)
            · replace hF := hF.to (if_neg hc49)
              have hon50 := Sp.on hon48 (by omega)
              refine x_aload_n C.1 dX12_count_209 0 rfl ?_
              refine x_getA C (N := 33) (i := 0) (by decide) rfl vc_X12 wx_X12 0 (by decide) wf_X12_7 (a := 1) rfl dX12_count_210 ?_
              refine x_bipush C.1 (n := 68) dX12_count_213 ?_
              refine x_iload_n C.1 dX12_count_215 1 rfl ?_
              refine x_iadd C.1 (v := x1 + 68) (by omega) dX12_count_216 ?_
              refine x_bipush C.1 (n := 40) dX12_count_217 ?_
              refine x_isub C.1 (v := x1 + 28) (by omega) dX12_count_219 ?_
              obtain ⟨z51, ez51, bz51⟩ := hI.rd 1 ((x1 + 28).toNat) (x := -2147483648) (y := 2147483647) (rgN_60 (Or.inl rfl) (by omega))
              replace hF := hF.to (rdb_e (z := z51) ez51)
              refine x_iald C (N := 33) (i := 1) (q := x1 + 28) (by decide) rfl (by omega) (by decide) dX12_count_220 (a := z51) ez51 ?_
              refine x_goto C.1 (tgt := 225) dX12_count_221 (by decide) ?_
              exact x_iret (S := Unit) (post := (fun a (u : Unit) => (f_m_count x1 V J Rr) a)) (w1 := (fun _ : Unit => MW cy ad V J Rr)) (a := z51) C hr rfl dX12_count_225 (by omega) () rfl (hF _ rfl)
        · replace hF := hF.to (if_neg hc44)
          have hon52 := Sq.on hx43_0 (by omega)
          refine x_aload_n C.1 dX12_count_163 0 rfl ?_
          refine x_iload_n C.1 dX12_count_164 1 rfl ?_
          refine x_bipush C.1 (n := 30) dX12_count_165 ?_
          refine x_isub C.1 (v := x1 - 30) (by omega) dX12_count_167 ?_
          refine x_callVi C (As := [vI (x1 - 30)]) (rest := []) 0 (xw_at (N := 33) (i := 0) (by decide) rfl) vc_X12 (m_isPerson l D cy ad G V J Rr hI hJ hR (x1 - 30) ⟨by omega, by omega⟩) (l1 := []) (l2 := []) (List.append_nil _).symm (w2 := fun _ => MW cy ad V J Rr) (fun _ => List.append_nil _) rfl wm_yX12_isPerson wn_X12 wl_X12_259 wi_yX12_isPerson we_yX12_isPerson hd_yX12_isPerson rfl ⟨Nat.le_of_ble_eq_true rfl, Nat.le_of_ble_eq_true rfl⟩ (Nat.le_of_ble_eq_true rfl) ⟨Nat.le_of_ble_eq_true rfl, Nat.le_of_ble_eq_true rfl⟩ dX12_count_168 (fun z53 u53 bz53 h53 => ?_)
          obtain ⟨hon53, hFc53⟩ := h53
          replace hF := calR_i hF hFc53
          replace hF := hF.fc hon53.r
          have bq53 := Sp.r hon53
          refine x_if_eq C.1 (tgt := 187) dX12_count_171 (by decide) (by omega) (fun hc54 => ?_) (fun hc54 => ?_)
          · replace hF := hF.to (if_pos hc54)
            refine x_iload_n C.1 dX12_count_187 1 rfl ?_
            refine x_bipush C.1 (n := 40) dX12_count_188 ?_
            refine x_bipush C.1 (n := 47) dX12_count_190 ?_
            refine x_callSi C (As := [vI x1, vI 40, vI 47]) (rest := []) (m_in l D cy x1 ⟨by omega, by omega⟩ 40 ⟨by decide, by decide⟩ 47 ⟨by decide, by decide⟩) (l1 := []) (l2 := _) rfl (w2 := fun _ => _) (fun _ => rfl) rfl wm_yX12_in wn_X12 wl_X12_126 wi_yX12_in hd_yX12_in rfl ⟨Nat.le_of_ble_eq_true rfl, Nat.le_of_ble_eq_true rfl⟩ (Nat.le_of_ble_eq_true rfl) ⟨Nat.le_of_ble_eq_true rfl, Nat.le_of_ble_eq_true rfl⟩ dX12_count_192 (fun z55 u55 bz55 h55 => ?_)
            obtain ⟨bq55, hx55_0, hFc55⟩ := h55
            replace hF := calR_i hF hFc55
            replace hF := hF.fc bq55
            refine x_if_eq C.1 (tgt := 224) dX12_count_195 (by decide) (by omega) (fun hc56 => ?_) (fun hc56 => ?_)
            · replace hF := hF.to (if_pos hc56)
              refine x_iconst C.1 (n := -1) dX12_count_224 ?_
              exact x_iret (S := Unit) (post := (fun a (u : Unit) => (f_m_count x1 V J Rr) a)) (w1 := (fun _ : Unit => MW cy ad V J Rr)) (a := (-1)) C hr rfl dX12_count_225 (by decide) () rfl (hF _ rfl)
            · replace hF := hF.to (if_neg hc56)
              have hon57 := Sq.on hx55_0 (by omega)
              refine x_aload_n C.1 dX12_count_198 0 rfl ?_
              refine x_iload_n C.1 dX12_count_199 1 rfl ?_
              refine x_bipush C.1 (n := 40) dX12_count_200 ?_
              refine x_isub C.1 (v := x1 - 40) (by omega) dX12_count_202 ?_
              refine x_callVi C (As := [vI (x1 - 40)]) (rest := []) 0 (xw_at (N := 33) (i := 0) (by decide) rfl) vc_X12 (m_isPerson l D cy ad G V J Rr hI hJ hR (x1 - 40) ⟨by omega, by omega⟩) (l1 := []) (l2 := []) (List.append_nil _).symm (w2 := fun _ => MW cy ad V J Rr) (fun _ => List.append_nil _) rfl wm_yX12_isPerson wn_X12 wl_X12_259 wi_yX12_isPerson we_yX12_isPerson hd_yX12_isPerson rfl ⟨Nat.le_of_ble_eq_true rfl, Nat.le_of_ble_eq_true rfl⟩ (Nat.le_of_ble_eq_true rfl) ⟨Nat.le_of_ble_eq_true rfl, Nat.le_of_ble_eq_true rfl⟩ dX12_count_203 (fun z58 u58 bz58 h58 => ?_)
              obtain ⟨hon58, hFc58⟩ := h58
              replace hF := calR_i hF hFc58
              replace hF := hF.fc hon58.r
              have bq58 := Sp.r hon58
              refine x_if_eq C.1 (tgt := 224) dX12_count_206 (by decide) (by omega) (fun hc59 => ?_) (fun hc59 => ?_)
              · replace hF := hF.to (if_pos hc59)
                refine x_iconst C.1 (n := -1) dX12_count_224 ?_
                exact x_iret (S := Unit) (post := (fun a (u : Unit) => (f_m_count x1 V J Rr) a)) (w1 := (fun _ : Unit => MW cy ad V J Rr)) (a := (-1)) C hr rfl dX12_count_225 (by decide) () rfl (hF _ rfl)
              · replace hF := hF.to (if_neg hc59)
                have hon60 := Sp.on hon58 (by omega)
                refine x_aload_n C.1 dX12_count_209 0 rfl ?_
                refine x_getA C (N := 33) (i := 0) (by decide) rfl vc_X12 wx_X12 0 (by decide) wf_X12_7 (a := 1) rfl dX12_count_210 ?_
                refine x_bipush C.1 (n := 68) dX12_count_213 ?_
                refine x_iload_n C.1 dX12_count_215 1 rfl ?_
                refine x_iadd C.1 (v := x1 + 68) (by omega) dX12_count_216 ?_
                refine x_bipush C.1 (n := 40) dX12_count_217 ?_
                refine x_isub C.1 (v := x1 + 28) (by omega) dX12_count_219 ?_
                obtain ⟨z61, ez61, bz61⟩ := hI.rd 1 ((x1 + 28).toNat) (x := -2147483648) (y := 2147483647) (rgN_60 (Or.inl rfl) (by omega))
                replace hF := hF.to (rdb_e (z := z61) ez61)
                refine x_iald C (N := 33) (i := 1) (q := x1 + 28) (by decide) rfl (by omega) (by decide) dX12_count_220 (a := z61) ez61 ?_
                refine x_goto C.1 (tgt := 225) dX12_count_221 (by decide) ?_
                exact x_iret (S := Unit) (post := (fun a (u : Unit) => (f_m_count x1 V J Rr) a)) (w1 := (fun _ : Unit => MW cy ad V J Rr)) (a := z61) C hr rfl dX12_count_225 (by omega) () rfl (hF _ rfl)
          · replace hF := hF.to (if_neg hc54)
            have hon62 := Sp.on hon53 (by omega)
            refine x_aload_n C.1 dX12_count_174 0 rfl ?_
            refine x_getA C (N := 33) (i := 0) (by decide) rfl vc_X12 wx_X12 0 (by decide) wf_X12_7 (a := 1) rfl dX12_count_175 ?_
            refine x_bipush C.1 (n := 60) dX12_count_178 ?_
            refine x_iload_n C.1 dX12_count_180 1 rfl ?_
            refine x_iadd C.1 (v := x1 + 60) (by omega) dX12_count_181 ?_
            refine x_bipush C.1 (n := 30) dX12_count_182 ?_
            refine x_isub C.1 (v := x1 + 30) (by omega) dX12_count_184 ?_
            obtain ⟨z63, ez63, bz63⟩ := hI.rd 1 ((x1 + 30).toNat) (x := -2147483648) (y := 2147483647) (rgN_60 (Or.inl rfl) (by omega))
            replace hF := hF.to (rdb_e (z := z63) ez63)
            refine x_iald C (N := 33) (i := 1) (q := x1 + 30) (by decide) rfl (by omega) (by decide) dX12_count_185 (a := z63) ez63 ?_
            exact x_iret (S := Unit) (post := (fun a (u : Unit) => (f_m_count x1 V J Rr) a)) (w1 := (fun _ : Unit => MW cy ad V J Rr)) (a := z63) C hr rfl dX12_count_186 (by omega) () rfl (hF _ rfl)
      · replace hF := hF.to (if_neg hc42)
        have hon64 := Sp.on hon41 (by omega)
        refine x_aload_n C.1 dX12_count_139 0 rfl ?_
        refine x_getA C (N := 33) (i := 0) (by decide) rfl vc_X12 wx_X12 0 (by decide) wf_X12_7 (a := 1) rfl dX12_count_140 ?_
        refine x_bipush C.1 (n := 52) dX12_count_143 ?_
        refine x_iload_n C.1 dX12_count_145 1 rfl ?_
        refine x_iadd C.1 (v := x1 + 52) (by omega) dX12_count_146 ?_
        refine x_bipush C.1 (n := 20) dX12_count_147 ?_
        refine x_isub C.1 (v := x1 + 32) (by omega) dX12_count_149 ?_
        obtain ⟨z65, ez65, bz65⟩ := hI.rd 1 ((x1 + 32).toNat) (x := -2147483648) (y := 2147483647) (rgN_60 (Or.inl rfl) (by omega))
        replace hF := hF.to (rdb_e (z := z65) ez65)
        refine x_iald C (N := 33) (i := 1) (q := x1 + 32) (by decide) rfl (by omega) (by decide) dX12_count_150 (a := z65) ez65 ?_
        exact x_iret (S := Unit) (post := (fun a (u : Unit) => (f_m_count x1 V J Rr) a)) (w1 := (fun _ : Unit => MW cy ad V J Rr)) (a := z65) C hr rfl dX12_count_151 (by omega) () rfl (hF _ rfl)
  · replace hF := hF.to (if_neg hc16)
    have hon66 := Sq.on hx15_0 (by omega)
    refine x_aload_n C.1 dX12_count_107 0 rfl ?_
    refine x_getA C (N := 33) (i := 0) (by decide) rfl vc_X12 wx_X12 20 (by decide) wf_X12_44 (a := 12) rfl dX12_count_108 ?_
    refine x_iload_n C.1 dX12_count_111 1 rfl ?_
    refine x_bipush C.1 (n := 9) dX12_count_112 ?_
    refine x_isub C.1 (v := x1 - 9) (by omega) dX12_count_114 ?_
    obtain ⟨z67, ez67, bz67⟩ := hI.rd 12 ((x1 - 9).toNat) (x := 0) (y := 14) rfl
    replace hF := hF.to (rdb_e (z := z67) ez67)
    replace hF := hF.fc bz67
    refine x_iald C (N := 33) (i := 12) (q := x1 - 9) (by decide) rfl (by omega) (by decide) dX12_count_115 (a := z67) ez67 ?_
    exact x_iret (S := Unit) (post := (fun a (u : Unit) => (f_m_count x1 V J Rr) a)) (w1 := (fun _ : Unit => MW cy ad V J Rr)) (a := z67) C hr rfl dX12_count_116 (by omega) () rfl (hF _ rfl)
theorem dX12_gainOf_0 : decode cX12_gainOf 0 = .ok (.iload_n 1, 1) := by decide +kernel
theorem dX12_gainOf_1 : decode cX12_gainOf 1 = .ok (.iload_n 2, 1) := by decide +kernel
theorem dX12_gainOf_2 : decode cX12_gainOf 2 = .ok (.invokestatic 118, 3) := by decide +kernel
theorem dX12_gainOf_5 : decode cX12_gainOf 5 = .ok (.ifCond .eq 17, 3) := by decide +kernel
theorem dX12_gainOf_8 : decode cX12_gainOf 8 = .ok (.aload_n 0, 1) := by decide +kernel
theorem dX12_gainOf_9 : decode cX12_gainOf 9 = .ok (.getfield 105, 3) := by decide +kernel
theorem dX12_gainOf_12 : decode cX12_gainOf 12 = .ok (.iload_n 2, 1) := by decide +kernel
theorem dX12_gainOf_13 : decode cX12_gainOf 13 = .ok (.iaload, 1) := by decide +kernel
theorem dX12_gainOf_14 : decode cX12_gainOf 14 = .ok (.aload_n 0, 1) := by decide +kernel
theorem dX12_gainOf_15 : decode cX12_gainOf 15 = .ok (.getfield 102, 3) := by decide +kernel
theorem dX12_gainOf_18 : decode cX12_gainOf 18 = .ok (.iload_n 2, 1) := by decide +kernel
theorem dX12_gainOf_19 : decode cX12_gainOf 19 = .ok (.iaload, 1) := by decide +kernel
theorem dX12_gainOf_20 : decode cX12_gainOf 20 = .ok (.isub, 1) := by decide +kernel
theorem dX12_gainOf_21 : decode cX12_gainOf 21 = .ok (.ireturn, 1) := by decide +kernel
theorem dX12_gainOf_22 : decode cX12_gainOf 22 = .ok (.iload_n 1, 1) := by decide +kernel
theorem dX12_gainOf_23 : decode cX12_gainOf 23 = .ok (.ifCond .ne 7, 3) := by decide +kernel
theorem dX12_gainOf_26 : decode cX12_gainOf 26 = .ok (.iconst 0, 1) := by decide +kernel
theorem dX12_gainOf_27 : decode cX12_gainOf 27 = .ok (.goto 9, 3) := by decide +kernel
theorem dX12_gainOf_30 : decode cX12_gainOf 30 = .ok (.aload_n 0, 1) := by decide +kernel
theorem dX12_gainOf_31 : decode cX12_gainOf 31 = .ok (.getfield 105, 3) := by decide +kernel
theorem dX12_gainOf_34 : decode cX12_gainOf 34 = .ok (.iload_n 2, 1) := by decide +kernel
theorem dX12_gainOf_35 : decode cX12_gainOf 35 = .ok (.iaload, 1) := by decide +kernel
theorem dX12_gainOf_36 : decode cX12_gainOf 36 = .ok (.ireturn, 1) := by decide +kernel
set_option maxRecDepth 100000 in
def f_m_gainOf (x1 : Int) (x2 : Int) (V : Nat → Nat → Int) (J : Nat → Nat → Int) (Rr : Nat → Nat → Nat) : (Int) → Prop :=
  calR (f_m_has x1 x2) fun z1 => fct (0 ≤ z1 ∧ z1 ≤ 1) <| (if z1 = 0 then (if ¬ x1 = 0 then rdb (V 32 x2.toNat) fun z4 => rtn z4 else rtn 0) else rdb (V 32 x2.toNat) fun z6 => rdb (V 31 x2.toNat) fun z7 => rdb (wr (z6 - z7)) fun z8 => rtn z8)
set_option maxHeartbeats 8000000 in
set_option maxRecDepth 100000 in
theorem m_gainOf (l : Launch) (D : va_G) (cy : Nat → ClassId) (ad : Nat → Nat) (G : Nat → Nat → Int) (V J : Nat → Nat → Int) (Rr : Nat → Nat → Nat) (hI : MI G V) (hJ : VJ J) (hR : MR Rr) (x1 : Int) (bx1 : -2147483648 ≤ x1 ∧ x1 ≤ 2147483647) (x2 : Int) (bx2 : 0 ≤ x2 ∧ x2 ≤ 5) : xMi l D (xTY cy) yX12_gainOf cX12_gainOf 3 (some .int) 1 21 0 0 [.ref (ad 0), vI x1, vI x2] (MW cy ad V J Rr) (fun _ : Unit => MW cy ad V J Rr) (fun a (u : Unit) => (f_m_gainOf x1 x2 V J Rr) a) := by
  refine xMi.mk (lv0 := [(0, .ref (ad 0)), (1, vI x1), (2, vI x2)]) (by decide) rfl (Nat.le_of_ble_eq_true rfl) (fun p e s m below meth c A C hr hnm hAe => ?_)
  have C : xC2 p s m _ meth c D A s.heap 3 cX12_gainOf RX12 (xTY cy) := C
  have hF := Imp.of_eq (f_m_gainOf.eq_def x1 x2 V J Rr)
  refine x_iload_n C.1 dX12_gainOf_0 1 rfl ?_
  refine x_iload_n C.1 dX12_gainOf_1 2 rfl ?_
  refine x_callSi C (As := [vI x1, vI x2]) (rest := []) (m_has l D cy x1 ⟨by omega, by omega⟩ x2 ⟨by omega, by omega⟩) (l1 := []) (l2 := _) rfl (w2 := fun _ => _) (fun _ => rfl) rfl wm_yX12_has wn_X12 wl_X12_118 wi_yX12_has hd_yX12_has rfl ⟨Nat.le_of_ble_eq_true rfl, Nat.le_of_ble_eq_true rfl⟩ (Nat.le_of_ble_eq_true rfl) ⟨Nat.le_of_ble_eq_true rfl, Nat.le_of_ble_eq_true rfl⟩ dX12_gainOf_2 (fun z1 u1 bz1 h1 => ?_)
  obtain ⟨bq1, hx1_0, hFc1⟩ := h1
  replace hF := calR_i hF hFc1
  replace hF := hF.fc bq1
  refine x_if_eq C.1 (tgt := 22) dX12_gainOf_5 (by decide) (by omega) (fun hc2 => ?_) (fun hc2 => ?_)
  · replace hF := hF.to (if_pos hc2)
    refine x_iload_n C.1 dX12_gainOf_22 1 rfl ?_
    refine x_if_ne C.1 (tgt := 30) dX12_gainOf_23 (by decide) (by omega) (fun hc3 => ?_) (fun hc3 => ?_)
    · replace hF := hF.to (if_pos hc3)
      refine x_aload_n C.1 dX12_gainOf_30 0 rfl ?_
      refine x_getA C (N := 33) (i := 0) (by decide) rfl vc_X12 wx_X12 52 (by decide) wf_X12_105 (a := 32) rfl dX12_gainOf_31 ?_
      refine x_iload_n C.1 dX12_gainOf_34 2 rfl ?_
      obtain ⟨z4, ez4, bz4⟩ := hI.rd 32 x2.toNat (x := -2147483648) (y := 2147483647) rfl
      replace hF := hF.to (rdb_e (z := z4) ez4)
      refine x_iald C (N := 33) (i := 32) (q := x2) (by decide) rfl (by omega) (by decide) dX12_gainOf_35 (a := z4) ez4 ?_
      exact x_iret (S := Unit) (post := (fun a (u : Unit) => (f_m_gainOf x1 x2 V J Rr) a)) (w1 := (fun _ : Unit => MW cy ad V J Rr)) (a := z4) C hr rfl dX12_gainOf_36 (by omega) () rfl (hF _ rfl)
    · replace hF := hF.to (if_neg (fun hh => hh hc3))
      refine x_iconst C.1 (n := 0) dX12_gainOf_26 ?_
      refine x_goto C.1 (tgt := 36) dX12_gainOf_27 (by decide) ?_
      exact x_iret (S := Unit) (post := (fun a (u : Unit) => (f_m_gainOf x1 x2 V J Rr) a)) (w1 := (fun _ : Unit => MW cy ad V J Rr)) (a := 0) C hr rfl dX12_gainOf_36 (by decide) () rfl (hF _ rfl)
  · replace hF := hF.to (if_neg hc2)
    have hon5 := Sq.on hx1_0 (by omega)
    refine x_aload_n C.1 dX12_gainOf_8 0 rfl ?_
    refine x_getA C (N := 33) (i := 0) (by decide) rfl vc_X12 wx_X12 52 (by decide) wf_X12_105 (a := 32) rfl dX12_gainOf_9 ?_
    refine x_iload_n C.1 dX12_gainOf_12 2 rfl ?_
    obtain ⟨z6, ez6, bz6⟩ := hI.rd 32 x2.toNat (x := -2147483648) (y := 2147483647) rfl
    replace hF := hF.to (rdb_e (z := z6) ez6)
    refine x_iald C (N := 33) (i := 32) (q := x2) (by decide) rfl (by omega) (by decide) dX12_gainOf_13 (a := z6) ez6 ?_
    refine x_aload_n C.1 dX12_gainOf_14 0 rfl ?_
    refine x_getA C (N := 33) (i := 0) (by decide) rfl vc_X12 wx_X12 51 (by decide) wf_X12_102 (a := 31) rfl dX12_gainOf_15 ?_
    refine x_iload_n C.1 dX12_gainOf_18 2 rfl ?_
    obtain ⟨z7, ez7, bz7⟩ := hI.rd 31 x2.toNat (x := -2147483648) (y := 2147483647) rfl
    replace hF := hF.to (rdb_e (z := z7) ez7)
    refine x_iald C (N := 33) (i := 31) (q := x2) (by decide) rfl (by omega) (by decide) dX12_gainOf_19 (a := z7) ez7 ?_
    refine x_isub C.1 (v := z6 - z7) (by omega) dX12_gainOf_20 ?_
    refine x_wrapg ?_
    intro z8 bz8 ew8
    replace hF := hF.to (rdb_e (z := z8) ew8.symm)
    exact x_iret (S := Unit) (post := (fun a (u : Unit) => (f_m_gainOf x1 x2 V J Rr) a)) (w1 := (fun _ : Unit => MW cy ad V J Rr)) (a := z8) C hr rfl dX12_gainOf_21 (by omega) () rfl (hF _ rfl)
theorem hd_yX12_max : yX12_max.cls ≠ "java/lang/invoke/MethodHandle" ∧ yX12_max.cls ≠ "java/lang/invoke/VarHandle" ∧ (parseMethodDescriptor yX12_max.desc).map (fun d => d.parameters.length) = some 2 := by decide +kernel
theorem dX12_whoDid_0 : decode cX12_whoDid 0 = .ok (.iload_n 1, 1) := by decide +kernel
theorem dX12_whoDid_1 : decode cX12_whoDid 1 = .ok (.iconst 1, 1) := by decide +kernel
theorem dX12_whoDid_2 : decode cX12_whoDid 2 = .ok (.bipush 6, 2) := by decide +kernel
theorem dX12_whoDid_4 : decode cX12_whoDid 4 = .ok (.invokestatic 126, 3) := by decide +kernel
theorem dX12_whoDid_7 : decode cX12_whoDid 7 = .ok (.ifCond .eq 63, 3) := by decide +kernel
theorem dX12_whoDid_10 : decode cX12_whoDid 10 = .ok (.iload_n 2, 1) := by decide +kernel
theorem dX12_whoDid_11 : decode cX12_whoDid 11 = .ok (.iconst 1, 1) := by decide +kernel
theorem dX12_whoDid_12 : decode cX12_whoDid 12 = .ok (.sipush 255, 3) := by decide +kernel
theorem dX12_whoDid_15 : decode cX12_whoDid 15 = .ok (.invokestatic 126, 3) := by decide +kernel
theorem dX12_whoDid_18 : decode cX12_whoDid 18 = .ok (.ifCond .eq 52, 3) := by decide +kernel
theorem dX12_whoDid_21 : decode cX12_whoDid 21 = .ok (.iload_n 2, 1) := by decide +kernel
theorem dX12_whoDid_22 : decode cX12_whoDid 22 = .ok (.invokestatic 247, 3) := by decide +kernel
theorem dX12_whoDid_25 : decode cX12_whoDid 25 = .ok (.iconst 5, 1) := by decide +kernel
theorem dX12_whoDid_26 : decode cX12_whoDid 26 = .ok (.if_icmp .gt 44, 3) := by decide +kernel
theorem dX12_whoDid_29 : decode cX12_whoDid 29 = .ok (.iload_n 3, 1) := by decide +kernel
theorem dX12_whoDid_30 : decode cX12_whoDid 30 = .ok (.iconst 1, 1) := by decide +kernel
theorem dX12_whoDid_31 : decode cX12_whoDid 31 = .ok (.bipush 9, 2) := by decide +kernel
theorem dX12_whoDid_33 : decode cX12_whoDid 33 = .ok (.invokestatic 126, 3) := by decide +kernel
theorem dX12_whoDid_36 : decode cX12_whoDid 36 = .ok (.ifCond .eq 34, 3) := by decide +kernel
theorem dX12_whoDid_39 : decode cX12_whoDid 39 = .ok (.iload 4, 2) := by decide +kernel
theorem dX12_whoDid_41 : decode cX12_whoDid 41 = .ok (.iconst 0, 1) := by decide +kernel
theorem dX12_whoDid_42 : decode cX12_whoDid 42 = .ok (.bipush 9, 2) := by decide +kernel
theorem dX12_whoDid_44 : decode cX12_whoDid 44 = .ok (.invokestatic 126, 3) := by decide +kernel
theorem dX12_whoDid_47 : decode cX12_whoDid 47 = .ok (.ifCond .eq 23, 3) := by decide +kernel
theorem dX12_whoDid_50 : decode cX12_whoDid 50 = .ok (.iload 5, 2) := by decide +kernel
theorem dX12_whoDid_52 : decode cX12_whoDid 52 = .ok (.iconst 0, 1) := by decide +kernel
theorem dX12_whoDid_53 : decode cX12_whoDid 53 = .ok (.iconst 2, 1) := by decide +kernel
theorem dX12_whoDid_54 : decode cX12_whoDid 54 = .ok (.invokestatic 126, 3) := by decide +kernel
theorem dX12_whoDid_57 : decode cX12_whoDid 57 = .ok (.ifCond .eq 13, 3) := by decide +kernel
theorem dX12_whoDid_60 : decode cX12_whoDid 60 = .ok (.iload_n 1, 1) := by decide +kernel
theorem dX12_whoDid_61 : decode cX12_whoDid 61 = .ok (.iconst 1, 1) := by decide +kernel
theorem dX12_whoDid_62 : decode cX12_whoDid 62 = .ok (.iadd, 1) := by decide +kernel
theorem dX12_whoDid_63 : decode cX12_whoDid 63 = .ok (.aload_n 0, 1) := by decide +kernel
theorem dX12_whoDid_64 : decode cX12_whoDid 64 = .ok (.getfield 137, 3) := by decide +kernel
theorem dX12_whoDid_67 : decode cX12_whoDid 67 = .ok (.if_icmp .le 7, 3) := by decide +kernel
theorem dX12_whoDid_70 : decode cX12_whoDid 70 = .ok (.ldc2_w 345, 3) := by decide +kernel
theorem dX12_whoDid_73 : decode cX12_whoDid 73 = .ok (.lreturn, 1) := by decide +kernel
theorem dX12_whoDid_74 : decode cX12_whoDid 74 = .ok (.aload_n 0, 1) := by decide +kernel
theorem dX12_whoDid_75 : decode cX12_whoDid 75 = .ok (.iconst 0, 1) := by decide +kernel
theorem dX12_whoDid_76 : decode cX12_whoDid 76 = .ok (.putfield 137, 3) := by decide +kernel
theorem dX12_whoDid_79 : decode cX12_whoDid 79 = .ok (.lconst 1, 1) := by decide +kernel
theorem dX12_whoDid_80 : decode cX12_whoDid 80 = .ok (.lstore 6, 2) := by decide +kernel
theorem dX12_whoDid_82 : decode cX12_whoDid 82 = .ok (.bipush (-2), 2) := by decide +kernel
theorem dX12_whoDid_84 : decode cX12_whoDid 84 = .ok (.istore 8, 2) := by decide +kernel
theorem dX12_whoDid_86 : decode cX12_whoDid 86 = .ok (.iconst 0, 1) := by decide +kernel
theorem dX12_whoDid_87 : decode cX12_whoDid 87 = .ok (.istore 9, 2) := by decide +kernel
theorem dX12_whoDid_89 : decode cX12_whoDid 89 = .ok (.iconst 0, 1) := by decide +kernel
theorem dX12_whoDid_90 : decode cX12_whoDid 90 = .ok (.istore 10, 2) := by decide +kernel
theorem dX12_whoDid_92 : decode cX12_whoDid 92 = .ok (.iload 10, 2) := by decide +kernel
theorem dX12_whoDid_94 : decode cX12_whoDid 94 = .ok (.iload_n 1, 1) := by decide +kernel
theorem dX12_whoDid_95 : decode cX12_whoDid 95 = .ok (.if_icmp .ge 130, 3) := by decide +kernel
theorem dX12_whoDid_98 : decode cX12_whoDid 98 = .ok (.iconst 0, 1) := by decide +kernel
theorem dX12_whoDid_99 : decode cX12_whoDid 99 = .ok (.istore 11, 2) := by decide +kernel
theorem dX12_whoDid_101 : decode cX12_whoDid 101 = .ok (.iload_n 2, 1) := by decide +kernel
theorem dX12_whoDid_102 : decode cX12_whoDid 102 = .ok (.istore 12, 2) := by decide +kernel
theorem dX12_whoDid_104 : decode cX12_whoDid 104 = .ok (.iconst 0, 1) := by decide +kernel
theorem dX12_whoDid_105 : decode cX12_whoDid 105 = .ok (.istore 13, 2) := by decide +kernel
theorem dX12_whoDid_107 : decode cX12_whoDid 107 = .ok (.iload 13, 2) := by decide +kernel
theorem dX12_whoDid_109 : decode cX12_whoDid 109 = .ok (.sipush 256, 3) := by decide +kernel
theorem dX12_whoDid_112 : decode cX12_whoDid 112 = .ok (.if_icmp .ge 76, 3) := by decide +kernel
theorem dX12_whoDid_115 : decode cX12_whoDid 115 = .ok (.iload 13, 2) := by decide +kernel
theorem dX12_whoDid_117 : decode cX12_whoDid 117 = .ok (.iload_n 2, 1) := by decide +kernel
theorem dX12_whoDid_118 : decode cX12_whoDid 118 = .ok (.iconst (-1), 1) := by decide +kernel
theorem dX12_whoDid_119 : decode cX12_whoDid 119 = .ok (.ixor, 1) := by decide +kernel
theorem dX12_whoDid_120 : decode cX12_whoDid 120 = .ok (.iand, 1) := by decide +kernel
theorem dX12_whoDid_121 : decode cX12_whoDid 121 = .ok (.ifCond .ne 61, 3) := by decide +kernel
theorem dX12_whoDid_124 : decode cX12_whoDid 124 = .ok (.iconst 0, 1) := by decide +kernel
theorem dX12_whoDid_125 : decode cX12_whoDid 125 = .ok (.aload_n 0, 1) := by decide +kernel
theorem dX12_whoDid_126 : decode cX12_whoDid 126 = .ok (.getfield 19, 3) := by decide +kernel
theorem dX12_whoDid_129 : decode cX12_whoDid 129 = .ok (.iload 10, 2) := by decide +kernel
theorem dX12_whoDid_131 : decode cX12_whoDid 131 = .ok (.baload, 1) := by decide +kernel
theorem dX12_whoDid_132 : decode cX12_whoDid 132 = .ok (.sipush 255, 3) := by decide +kernel
theorem dX12_whoDid_135 : decode cX12_whoDid 135 = .ok (.iand, 1) := by decide +kernel
theorem dX12_whoDid_136 : decode cX12_whoDid 136 = .ok (.iload_n 3, 1) := by decide +kernel
theorem dX12_whoDid_137 : decode cX12_whoDid 137 = .ok (.iload 13, 2) := by decide +kernel
theorem dX12_whoDid_139 : decode cX12_whoDid 139 = .ok (.invokestatic 247, 3) := by decide +kernel
theorem dX12_whoDid_142 : decode cX12_whoDid 142 = .ok (.imul, 1) := by decide +kernel
theorem dX12_whoDid_143 : decode cX12_whoDid 143 = .ok (.iadd, 1) := by decide +kernel
theorem dX12_whoDid_144 : decode cX12_whoDid 144 = .ok (.iload 4, 2) := by decide +kernel
theorem dX12_whoDid_146 : decode cX12_whoDid 146 = .ok (.isub, 1) := by decide +kernel
theorem dX12_whoDid_147 : decode cX12_whoDid 147 = .ok (.invokestatic 272, 3) := by decide +kernel
theorem dX12_whoDid_150 : decode cX12_whoDid 150 = .ok (.aload_n 0, 1) := by decide +kernel
theorem dX12_whoDid_151 : decode cX12_whoDid 151 = .ok (.getfield 19, 3) := by decide +kernel
theorem dX12_whoDid_154 : decode cX12_whoDid 154 = .ok (.iload 10, 2) := by decide +kernel
theorem dX12_whoDid_156 : decode cX12_whoDid 156 = .ok (.iconst 1, 1) := by decide +kernel
theorem dX12_whoDid_157 : decode cX12_whoDid 157 = .ok (.iadd, 1) := by decide +kernel
theorem dX12_whoDid_158 : decode cX12_whoDid 158 = .ok (.baload, 1) := by decide +kernel
theorem dX12_whoDid_159 : decode cX12_whoDid 159 = .ok (.sipush 255, 3) := by decide +kernel
theorem dX12_whoDid_162 : decode cX12_whoDid 162 = .ok (.iand, 1) := by decide +kernel
theorem dX12_whoDid_163 : decode cX12_whoDid 163 = .ok (.if_icmp .eq 6, 3) := by decide +kernel
theorem dX12_whoDid_166 : decode cX12_whoDid 166 = .ok (.goto 16, 3) := by decide +kernel
theorem dX12_whoDid_169 : decode cX12_whoDid 169 = .ok (.iload 11, 2) := by decide +kernel
theorem dX12_whoDid_171 : decode cX12_whoDid 171 = .ok (.iconst 1, 1) := by decide +kernel
theorem dX12_whoDid_172 : decode cX12_whoDid 172 = .ok (.iadd, 1) := by decide +kernel
theorem dX12_whoDid_173 : decode cX12_whoDid 173 = .ok (.istore 11, 2) := by decide +kernel
theorem dX12_whoDid_175 : decode cX12_whoDid 175 = .ok (.iload 12, 2) := by decide +kernel
theorem dX12_whoDid_177 : decode cX12_whoDid 177 = .ok (.iload 13, 2) := by decide +kernel
theorem dX12_whoDid_179 : decode cX12_whoDid 179 = .ok (.iand, 1) := by decide +kernel
theorem dX12_whoDid_180 : decode cX12_whoDid 180 = .ok (.istore 12, 2) := by decide +kernel
theorem dX12_whoDid_182 : decode cX12_whoDid 182 = .ok (.iinc 13 1, 3) := by decide +kernel
theorem dX12_whoDid_185 : decode cX12_whoDid 185 = .ok (.goto (-78), 3) := by decide +kernel
theorem dX12_whoDid_188 : decode cX12_whoDid 188 = .ok (.lload 6, 2) := by decide +kernel
theorem dX12_whoDid_190 : decode cX12_whoDid 190 = .ok (.iload 11, 2) := by decide +kernel
theorem dX12_whoDid_192 : decode cX12_whoDid 192 = .ok (.i2l, 1) := by decide +kernel
theorem dX12_whoDid_193 : decode cX12_whoDid 193 = .ok (.lmul, 1) := by decide +kernel
theorem dX12_whoDid_194 : decode cX12_whoDid 194 = .ok (.lstore 6, 2) := by decide +kernel
theorem dX12_whoDid_196 : decode cX12_whoDid 196 = .ok (.iload 11, 2) := by decide +kernel
theorem dX12_whoDid_198 : decode cX12_whoDid 198 = .ok (.ifCond .ne 14, 3) := by decide +kernel
theorem dX12_whoDid_201 : decode cX12_whoDid 201 = .ok (.iload 8, 2) := by decide +kernel
theorem dX12_whoDid_203 : decode cX12_whoDid 203 = .ok (.bipush (-2), 2) := by decide +kernel
theorem dX12_whoDid_205 : decode cX12_whoDid 205 = .ok (.if_icmp .ne 7, 3) := by decide +kernel
theorem dX12_whoDid_208 : decode cX12_whoDid 208 = .ok (.iload 10, 2) := by decide +kernel
theorem dX12_whoDid_210 : decode cX12_whoDid 210 = .ok (.istore 8, 2) := by decide +kernel
theorem dX12_whoDid_212 : decode cX12_whoDid 212 = .ok (.iload 9, 2) := by decide +kernel
theorem dX12_whoDid_214 : decode cX12_whoDid 214 = .ok (.iload 12, 2) := by decide +kernel
theorem dX12_whoDid_216 : decode cX12_whoDid 216 = .ok (.ior, 1) := by decide +kernel
theorem dX12_whoDid_217 : decode cX12_whoDid 217 = .ok (.istore 9, 2) := by decide +kernel
theorem dX12_whoDid_219 : decode cX12_whoDid 219 = .ok (.iinc 10 1, 3) := by decide +kernel
theorem dX12_whoDid_222 : decode cX12_whoDid 222 = .ok (.goto (-130), 3) := by decide +kernel
theorem dX12_whoDid_225 : decode cX12_whoDid 225 = .ok (.iload 5, 2) := by decide +kernel
theorem dX12_whoDid_227 : decode cX12_whoDid 227 = .ok (.ifCond .ne 8, 3) := by decide +kernel
theorem dX12_whoDid_230 : decode cX12_whoDid 230 = .ok (.lload 6, 2) := by decide +kernel
theorem dX12_whoDid_232 : decode cX12_whoDid 232 = .ok (.goto 29, 3) := by decide +kernel
theorem dX12_whoDid_235 : decode cX12_whoDid 235 = .ok (.iload 5, 2) := by decide +kernel
theorem dX12_whoDid_237 : decode cX12_whoDid 237 = .ok (.iconst 1, 1) := by decide +kernel
theorem dX12_whoDid_238 : decode cX12_whoDid 238 = .ok (.if_icmp .ne 9, 3) := by decide +kernel
theorem dX12_whoDid_241 : decode cX12_whoDid 241 = .ok (.iload 8, 2) := by decide +kernel
theorem dX12_whoDid_243 : decode cX12_whoDid 243 = .ok (.i2l, 1) := by decide +kernel
theorem dX12_whoDid_244 : decode cX12_whoDid 244 = .ok (.goto 17, 3) := by decide +kernel
theorem dX12_whoDid_247 : decode cX12_whoDid 247 = .ok (.lload 6, 2) := by decide +kernel
theorem dX12_whoDid_249 : decode cX12_whoDid 249 = .ok (.lconst 0, 1) := by decide +kernel
theorem dX12_whoDid_250 : decode cX12_whoDid 250 = .ok (.lcmp, 1) := by decide +kernel
theorem dX12_whoDid_251 : decode cX12_whoDid 251 = .ok (.ifCond .ne 7, 3) := by decide +kernel
theorem dX12_whoDid_254 : decode cX12_whoDid 254 = .ok (.lconst 0, 1) := by decide +kernel
theorem dX12_whoDid_255 : decode cX12_whoDid 255 = .ok (.goto 6, 3) := by decide +kernel
theorem dX12_whoDid_258 : decode cX12_whoDid 258 = .ok (.iload 9, 2) := by decide +kernel
theorem dX12_whoDid_260 : decode cX12_whoDid 260 = .ok (.i2l, 1) := by decide +kernel
theorem dX12_whoDid_261 : decode cX12_whoDid 261 = .ok (.lreturn, 1) := by decide +kernel
set_option maxRecDepth 100000 in
def f_m_whoDid (x1 : Int) (x2 : Int) (x3 : Int) (x4 : Int) (x5 : Int) (V : Nat → Nat → Int) (J : Nat → Nat → Int) (Rr : Nat → Nat → Nat) : (Int × (Nat → Nat → Int)) → Prop :=
  calR (f_m_in x1 1 6) fun z1 => fct (0 ≤ z1 ∧ z1 ≤ 1) <| (if z1 = 0 then rtn ((-1), V) else calR (f_m_in x2 1 255) fun z4 => fct (0 ≤ z4 ∧ z4 ≤ 1) <| (if z4 = 0 then rtn ((-1), V) else calR (f_m_bits x2) fun z7 => (if 5 < z7 then rtn ((-1), V) else calR (f_m_in x3 1 9) fun z9 => fct (0 ≤ z9 ∧ z9 ≤ 1) <| (if z9 = 0 then rtn ((-1), V) else calR (f_m_in x4 0 9) fun z12 => fct (0 ≤ z12 ∧ z12 ≤ 1) <| (if z12 = 0 then rtn ((-1), V) else calR (f_m_in x5 0 2) fun z15 => fct (0 ≤ z15 ∧ z15 ≤ 1) <| (if z15 = 0 then rtn ((-1), V) else rdb (V 0 4) fun z18 => fct (0 ≤ z18 ∧ z18 ≤ 220) <| (if x1 + 1 ≤ z18 then rdb (up2 V 0 4 0) fun V20 => lop4 (8) (fun rc5370 (z5366 : Int) (z5367 : Int) (z5368 : Int) (z5369 : Int) => (if x1 ≤ z5366 then (if ¬ x5 = 0 then (if ¬ x5 = 1 then (if ¬ (lcI z5369 0) = 0 then rtn (z5367, V20) else rtn (0, V20)) else rtn (z5368, V20)) else rtn (z5369, V20)) else lop3 (258) (fun rc7196 (z7193 : Int) (z7194 : Int) (z7195 : Int) => (if 256 ≤ z7193 then rdb (wrJ (z5369 * z7195)) fun z7302 => jnk (fun (z7304 : Int) => rdb (iOr z5367 z7194) fun z7306 => rc5370 (z5366 + 1) z7306 z7304 z7302) fun jf7305 => (if ¬ z7195 = 0 then jf7305 z5368 else (if ¬ z5368 = (-2) then jf7305 z5368 else jf7305 z5366)) else rdb (iXor x2 (-1)) fun z7309 => rdb (iAnd z7193 z7309) fun z7310 => fct (0 ≤ z7310 ∧ z7310 ≤ 255) <| jnk (fun (z7324 : Int) (z7325 : Int) => rc7196 (z7193 + 1) z7324 z7325) fun jf7326 => (if ¬ z7310 = 0 then jf7326 z7194 z7195 else rdb (V20 4 z5366.toNat) fun z7328 => fct (-128 ≤ z7328 ∧ z7328 ≤ 127) <| rdb (iAnd z7328 255) fun z7329 => fct (0 ≤ z7329 ∧ z7329 ≤ 255) <| calR (f_m_bits z7193) fun z7330 => rdb (wr (x3 * z7330)) fun z7331 => rdb (wr (z7329 + z7331)) fun z7332 => rdb (wr (z7332 - x4)) fun z7333 => calR (f_m_max 0 z7333) fun z7334 => rdb (V20 4 ((z5366 + 1).toNat)) fun z7336 => fct (-128 ≤ z7336 ∧ z7336 ≤ 127) <| rdb (iAnd z7336 255) fun z7337 => fct (0 ≤ z7337 ∧ z7337 ≤ 255) <| (if z7334 = z7337 then rdb (wr (z7195 + 1)) fun z7339 => rdb (iAnd z7194 z7193) fun z7340 => fct (0 ≤ z7340 ∧ z7340 ≤ 255) <| jf7326 z7340 z7339 else jf7326 z7194 z7195)))) 0 x2 0)) 0 0 ((-2)) 1 else rtn ((-1), V))))))))
set_option maxHeartbeats 8000000 in
set_option maxRecDepth 100000 in
theorem m_whoDid (l : Launch) (D : va_G) (cy : Nat → ClassId) (ad : Nat → Nat) (G : Nat → Nat → Int) (V J : Nat → Nat → Int) (Rr : Nat → Nat → Nat) (hI : MI G V) (hJ : VJ J) (hR : MR Rr) (x1 : Int) (bx1 : -2147483648 ≤ x1 ∧ x1 ≤ 2147483647) (x2 : Int) (bx2 : -2147483648 ≤ x2 ∧ x2 ≤ 2147483647) (x3 : Int) (bx3 : -2147483648 ≤ x3 ∧ x3 ≤ 2147483647) (x4 : Int) (bx4 : -2147483648 ≤ x4 ∧ x4 ≤ 2147483647) (x5 : Int) (bx5 : -2147483648 ≤ x5 ∧ x5 ≤ 2147483647) : xMl l D (xTY cy) yX12_whoDid cX12_whoDid 14 (some .long) 1 22 0 0 [.ref (ad 0), vI x1, vI x2, vI x3, vI x4, vI x5] (MW cy ad V J Rr) (fun u : Nat → Nat → Int => MW cy ad u J Rr) (fun a (u : Nat → Nat → Int) => MI G u ∧ FBm 16 V u ∧ (f_m_whoDid x1 x2 x3 x4 x5 V J Rr) (a, u)) := by
  refine xMl.mk (lv0 := [(0, .ref (ad 0)), (1, vI x1), (2, vI x2), (3, vI x3), (4, vI x4), (5, vI x5)]) (by decide) rfl (Nat.le_of_ble_eq_true rfl) (fun p e s m below meth c A C hr hnm hAe => ?_)
  have C : xC2 p s m _ meth c D A s.heap 14 cX12_whoDid RX12 (xTY cy) := C
  have hB : FBm 16 V V := FBm.rf _ _
  have hF := Imp.of_eq (f_m_whoDid.eq_def x1 x2 x3 x4 x5 V J Rr)
  refine x_iload_n C.1 dX12_whoDid_0 1 rfl ?_
  refine x_iconst C.1 (n := 1) dX12_whoDid_1 ?_
  refine x_bipush C.1 (n := 6) dX12_whoDid_2 ?_
  refine x_callSi C (As := [vI x1, vI 1, vI 6]) (rest := []) (m_in l D cy x1 ⟨by omega, by omega⟩ 1 ⟨by decide, by decide⟩ 6 ⟨by decide, by decide⟩) (l1 := []) (l2 := _) rfl (w2 := fun _ => _) (fun _ => rfl) rfl wm_yX12_in wn_X12 wl_X12_126 wi_yX12_in hd_yX12_in rfl ⟨Nat.le_of_ble_eq_true rfl, Nat.le_of_ble_eq_true rfl⟩ (Nat.le_of_ble_eq_true rfl) ⟨Nat.le_of_ble_eq_true rfl, Nat.le_of_ble_eq_true rfl⟩ dX12_whoDid_4 (fun z1 u1 bz1 h1 => ?_)
  obtain ⟨bq1, hx1_0, hFc1⟩ := h1
  replace hF := calR_i hF hFc1
  replace hF := hF.fc bq1
  refine x_if_eq C.1 (tgt := 70) dX12_whoDid_7 (by decide) (by omega) (fun hc2 => ?_) (fun hc2 => ?_)
  · replace hF := hF.to (if_pos hc2)
    refine x_ldc2 C.1 (n := -1) wq_X12_345 dX12_whoDid_70 ?_
    exact x_lret (S := (Nat → Nat → Int)) (post := (fun a (u : Nat → Nat → Int) => MI G u ∧ FBm 16 V u ∧ (f_m_whoDid x1 x2 x3 x4 x5 V J Rr) (a, u))) (w1 := (fun u : Nat → Nat → Int => MW cy ad u J Rr)) (a := (-1)) C hr rfl dX12_whoDid_73 (by decide) V rfl ⟨hI, hB, hF _ rfl⟩
  · replace hF := hF.to (if_neg hc2)
    have hon3 := Sq.on hx1_0 (by omega)
    refine x_iload_n C.1 dX12_whoDid_10 2 rfl ?_
    refine x_iconst C.1 (n := 1) dX12_whoDid_11 ?_
    refine x_sipush C.1 (n := 255) dX12_whoDid_12 ?_
    refine x_callSi C (As := [vI x2, vI 1, vI 255]) (rest := []) (m_in l D cy x2 ⟨by omega, by omega⟩ 1 ⟨by decide, by decide⟩ 255 ⟨by decide, by decide⟩) (l1 := []) (l2 := _) rfl (w2 := fun _ => _) (fun _ => rfl) rfl wm_yX12_in wn_X12 wl_X12_126 wi_yX12_in hd_yX12_in rfl ⟨Nat.le_of_ble_eq_true rfl, Nat.le_of_ble_eq_true rfl⟩ (Nat.le_of_ble_eq_true rfl) ⟨Nat.le_of_ble_eq_true rfl, Nat.le_of_ble_eq_true rfl⟩ dX12_whoDid_15 (fun z4 u4 bz4 h4 => ?_)
    obtain ⟨bq4, hx4_0, hFc4⟩ := h4
    replace hF := calR_i hF hFc4
    replace hF := hF.fc bq4
    refine x_if_eq C.1 (tgt := 70) dX12_whoDid_18 (by decide) (by omega) (fun hc5 => ?_) (fun hc5 => ?_)
    · replace hF := hF.to (if_pos hc5)
      refine x_ldc2 C.1 (n := -1) wq_X12_345 dX12_whoDid_70 ?_
      exact x_lret (S := (Nat → Nat → Int)) (post := (fun a (u : Nat → Nat → Int) => MI G u ∧ FBm 16 V u ∧ (f_m_whoDid x1 x2 x3 x4 x5 V J Rr) (a, u))) (w1 := (fun u : Nat → Nat → Int => MW cy ad u J Rr)) (a := (-1)) C hr rfl dX12_whoDid_73 (by decide) V rfl ⟨hI, hB, hF _ rfl⟩
    · replace hF := hF.to (if_neg hc5)
      have hon6 := Sq.on hx4_0 (by omega)
      refine x_iload_n C.1 dX12_whoDid_21 2 rfl ?_
      refine x_callSi C (As := [vI x2]) (rest := []) (m_bits l D cy x2 ⟨by omega, by omega⟩) (l1 := []) (l2 := _) rfl (w2 := fun _ => _) (fun _ => rfl) rfl wm_yX12_bits wn_X12 wl_X12_247 wi_yX12_bits hd_yX12_bits rfl ⟨Nat.le_of_ble_eq_true rfl, Nat.le_of_ble_eq_true rfl⟩ (Nat.le_of_ble_eq_true rfl) ⟨Nat.le_of_ble_eq_true rfl, Nat.le_of_ble_eq_true rfl⟩ dX12_whoDid_22 (fun z7 u7 bz7 h7 => ?_)
      have hFc7 := h7
      replace hF := calR_i hF hFc7
      refine x_iconst C.1 (n := 5) dX12_whoDid_25 ?_
      refine x_icmp_gt C.1 (tgt := 70) dX12_whoDid_26 (by decide) (by omega) (by decide) (fun hc8 => ?_) (fun hc8 => ?_)
      · replace hF := hF.to (if_pos hc8)
        refine x_ldc2 C.1 (n := -1) wq_X12_345 dX12_whoDid_70 ?_
        exact x_lret (S := (Nat → Nat → Int)) (post := (fun a (u : Nat → Nat → Int) => MI G u ∧ FBm 16 V u ∧ (f_m_whoDid x1 x2 x3 x4 x5 V J Rr) (a, u))) (w1 := (fun u : Nat → Nat → Int => MW cy ad u J Rr)) (a := (-1)) C hr rfl dX12_whoDid_73 (by decide) V rfl ⟨hI, hB, hF _ rfl⟩
      · replace hF := hF.to (if_neg hc8)
        refine x_iload_n C.1 dX12_whoDid_29 3 rfl ?_
        refine x_iconst C.1 (n := 1) dX12_whoDid_30 ?_
        refine x_bipush C.1 (n := 9) dX12_whoDid_31 ?_
        refine x_callSi C (As := [vI x3, vI 1, vI 9]) (rest := []) (m_in l D cy x3 ⟨by omega, by omega⟩ 1 ⟨by decide, by decide⟩ 9 ⟨by decide, by decide⟩) (l1 := []) (l2 := _) rfl (w2 := fun _ => _) (fun _ => rfl) rfl wm_yX12_in wn_X12 wl_X12_126 wi_yX12_in hd_yX12_in rfl ⟨Nat.le_of_ble_eq_true rfl, Nat.le_of_ble_eq_true rfl⟩ (Nat.le_of_ble_eq_true rfl) ⟨Nat.le_of_ble_eq_true rfl, Nat.le_of_ble_eq_true rfl⟩ dX12_whoDid_33 (fun z9 u9 bz9 h9 => ?_)
        obtain ⟨bq9, hx9_0, hFc9⟩ := h9
        replace hF := calR_i hF hFc9
        replace hF := hF.fc bq9
        refine x_if_eq C.1 (tgt := 70) dX12_whoDid_36 (by decide) (by omega) (fun hc10 => ?_) (fun hc10 => ?_)
        · replace hF := hF.to (if_pos hc10)
          refine x_ldc2 C.1 (n := -1) wq_X12_345 dX12_whoDid_70 ?_
          exact x_lret (S := (Nat → Nat → Int)) (post := (fun a (u : Nat → Nat → Int) => MI G u ∧ FBm 16 V u ∧ (f_m_whoDid x1 x2 x3 x4 x5 V J Rr) (a, u))) (w1 := (fun u : Nat → Nat → Int => MW cy ad u J Rr)) (a := (-1)) C hr rfl dX12_whoDid_73 (by decide) V rfl ⟨hI, hB, hF _ rfl⟩
        · replace hF := hF.to (if_neg hc10)
          have hon11 := Sq.on hx9_0 (by omega)
          refine x_iload C.1 dX12_whoDid_39 4 rfl ?_
          refine x_iconst C.1 (n := 0) dX12_whoDid_41 ?_
          refine x_bipush C.1 (n := 9) dX12_whoDid_42 ?_
          refine x_callSi C (As := [vI x4, vI 0, vI 9]) (rest := []) (m_in l D cy x4 ⟨by omega, by omega⟩ 0 ⟨by decide, by decide⟩ 9 ⟨by decide, by decide⟩) (l1 := []) (l2 := _) rfl (w2 := fun _ => _) (fun _ => rfl) rfl wm_yX12_in wn_X12 wl_X12_126 wi_yX12_in hd_yX12_in rfl ⟨Nat.le_of_ble_eq_true rfl, Nat.le_of_ble_eq_true rfl⟩ (Nat.le_of_ble_eq_true rfl) ⟨Nat.le_of_ble_eq_true rfl, Nat.le_of_ble_eq_true rfl⟩ dX12_whoDid_44 (fun z12 u12 bz12 h12 => ?_)
          obtain ⟨bq12, hx12_0, hFc12⟩ := h12
          replace hF := calR_i hF hFc12
          replace hF := hF.fc bq12
          refine x_if_eq C.1 (tgt := 70) dX12_whoDid_47 (by decide) (by omega) (fun hc13 => ?_) (fun hc13 => ?_)
          · replace hF := hF.to (if_pos hc13)
            refine x_ldc2 C.1 (n := -1) wq_X12_345 dX12_whoDid_70 ?_
            exact x_lret (S := (Nat → Nat → Int)) (post := (fun a (u : Nat → Nat → Int) => MI G u ∧ FBm 16 V u ∧ (f_m_whoDid x1 x2 x3 x4 x5 V J Rr) (a, u))) (w1 := (fun u : Nat → Nat → Int => MW cy ad u J Rr)) (a := (-1)) C hr rfl dX12_whoDid_73 (by decide) V rfl ⟨hI, hB, hF _ rfl⟩
          · replace hF := hF.to (if_neg hc13)
            have hon14 := Sq.on hx12_0 (by omega)
            refine x_iload C.1 dX12_whoDid_50 5 rfl ?_
            refine x_iconst C.1 (n := 0) dX12_whoDid_52 ?_
            refine x_iconst C.1 (n := 2) dX12_whoDid_53 ?_
            refine x_callSi C (As := [vI x5, vI 0, vI 2]) (rest := []) (m_in l D cy x5 ⟨by omega, by omega⟩ 0 ⟨by decide, by decide⟩ 2 ⟨by decide, by decide⟩) (l1 := []) (l2 := _) rfl (w2 := fun _ => _) (fun _ => rfl) rfl wm_yX12_in wn_X12 wl_X12_126 wi_yX12_in hd_yX12_in rfl ⟨Nat.le_of_ble_eq_true rfl, Nat.le_of_ble_eq_true rfl⟩ (Nat.le_of_ble_eq_true rfl) ⟨Nat.le_of_ble_eq_true rfl, Nat.le_of_ble_eq_true rfl⟩ dX12_whoDid_54 (fun z15 u15 bz15 h15 => ?_)
            obtain ⟨bq15, hx15_0, hFc15⟩ := h15
            replace hF := calR_i hF hFc15
            replace hF := hF.fc bq15
            refine x_if_eq C.1 (tgt := 70) dX12_whoDid_57 (by decide) (by omega) (fun hc16 => ?_) (fun hc16 => ?_)
            · replace hF := hF.to (if_pos hc16)
              refine x_ldc2 C.1 (n := -1) wq_X12_345 dX12_whoDid_70 ?_
              exact x_lret (S := (Nat → Nat → Int)) (post := (fun a (u : Nat → Nat → Int) => MI G u ∧ FBm 16 V u ∧ (f_m_whoDid x1 x2 x3 x4 x5 V J Rr) (a, u))) (w1 := (fun u : Nat → Nat → Int => MW cy ad u J Rr)) (a := (-1)) C hr rfl dX12_whoDid_73 (by decide) V rfl ⟨hI, hB, hF _ rfl⟩
            · replace hF := hF.to (if_neg hc16)
              have hon17 := Sq.on hx15_0 (by omega)
              refine x_iload_n C.1 dX12_whoDid_60 1 rfl ?_
              refine x_iconst C.1 (n := 1) dX12_whoDid_61 ?_
              refine x_iadd C.1 (v := x1 + 1) (by omega) dX12_whoDid_62 ?_
              refine x_aload_n C.1 dX12_whoDid_63 0 rfl ?_
              obtain ⟨z18, ez18, bz18⟩ := hI.rd 0 4 (x := 0) (y := 220) rfl
              replace hF := hF.to (rdb_e (z := z18) ez18)
              replace hF := hF.fc bz18
              refine x_getI C (N := 33) (i := 0) (by decide) rfl vc_X12 wx_X12 4 (by decide) wf_X12_137 rfl dX12_whoDid_64 (a := z18) ez18 ?_
              refine x_icmp_le C.1 (tgt := 74) dX12_whoDid_67 (by decide) (by omega) (by omega) (fun hc19 => ?_) (fun hc19 => ?_)
              · replace hF := hF.to (if_pos hc19)
                refine x_aload_n C.1 dX12_whoDid_74 0 rfl ?_
                refine x_iconst C.1 (n := 0) dX12_whoDid_75 ?_
                refine x_putI C (N := 33) (i := 0) (by decide) rfl vc_X12 wx_X12 4 (by decide) wf_X12_137 tyX12 tyX12_ok nmX12 rfl (tyX12_ok 4 (by decide)) rfl dX12_whoDid_76 rfl rfl ?_
                refine x_gV ?_
                intro V20 hV20
                have hI20 : MI G V20 := hI.up hV20 rfl (by decide) rfl (Or.inl (by decide))
                have hB20 := hB.up hV20 rfl
                replace hF := hF.to (rdb_e (z := V20) hV20.symm)
                refine x_lconst1 C.1 dX12_whoDid_79 ?_
                refine x_lstore C.1 (lv' := [(6, vJ 1), (0, .ref (ad 0)), (1, vI x1), (2, vI x2), (3, vI x3), (4, vI x4), (5, vI x5)]) dX12_whoDid_80 (by decide) rfl ?_
                refine x_bipush C.1 (n := -2) dX12_whoDid_82 ?_
                refine x_istore C.1 (lv' := [(8, vI (-2)), (6, vJ 1), (0, .ref (ad 0)), (1, vI x1), (2, vI x2), (3, vI x3), (4, vI x4), (5, vI x5)]) dX12_whoDid_84 (by decide) rfl ?_
                refine x_iconst C.1 (n := 0) dX12_whoDid_86 ?_
                refine x_istore C.1 (lv' := [(9, vI 0), (8, vI (-2)), (6, vJ 1), (0, .ref (ad 0)), (1, vI x1), (2, vI x2), (3, vI x3), (4, vI x4), (5, vI x5)]) dX12_whoDid_87 (by decide) rfl ?_
                refine x_iconst C.1 (n := 0) dX12_whoDid_89 ?_
                refine x_istore C.1 (lv' := [(10, vI 0), (9, vI 0), (8, vI (-2)), (6, vJ 1), (0, .ref (ad 0)), (1, vI x1), (2, vI x2), (3, vI x3), (4, vI x4), (5, vI x5)]) dX12_whoDid_90 (by decide) rfl ?_
                obtain ⟨bd5370, hbd5370, hF⟩ := lop4_ex hF
                refine x_loop (I := fun x : Int × Int × Int × Int => match x with | (z5366, z5367, z5368, z5369) => (0 ≤ z5366 ∧ z5366 ≤ 6) ∧ (-2147483648 ≤ z5367 ∧ z5367 ≤ 2147483647) ∧ (-2 ≤ z5368 ∧ z5368 ≤ 2147483647) ∧ (-9223372036854775808 ≤ z5369 ∧ z5369 ≤ 9223372036854775807) ∧ (∃ nf : Nat, (7 - z5366).toNat < nf ∧ Imp (lop4 nf bd5370 z5366 z5367 z5368 z5369) (f_m_whoDid x1 x2 x3 x4 x5 V J Rr))) (μ := fun x : Int × Int × Int × Int => match x with | (z5366, z5367, z5368, z5369) => (7 - z5366).toNat) (wsf := fun x : Int × Int × Int × Int => match x with | (z5366, z5367, z5368, z5369) => MW cy ad V20 J Rr) (lvf := fun x : Int × Int × Int × Int => match x with | (z5366, z5367, z5368, z5369) => [(10, vI z5366), (9, vI z5367), (8, vI z5368), (6, vJ z5369), (0, .ref (ad 0)), (1, vI x1), (2, vI x2), (3, vI x3), (4, vI x4), (5, vI x5)]) (fun x hI5370x ih5370 => ?_) (0, 0, (-2), 1) ⟨⟨by decide, by decide⟩, ⟨by decide, by decide⟩, ⟨by decide, by decide⟩, ⟨by decide, by decide⟩, ⟨_, (by omega), hF⟩⟩ rfl rfl
                obtain ⟨z5366, z5367, z5368, z5369⟩ := x
                obtain ⟨bz5366, bz5367, bz5368, bz5369, nf5370, hn5370, hF⟩ := hI5370x
                try dsimp only
                obtain ⟨nf5370, rfl⟩ : ∃ mm, nf5370 = mm + 1 := ⟨nf5370 - 1, (Nat.succ_pred_eq_of_pos (Nat.lt_of_le_of_lt (Nat.zero_le _) hn5370)).symm⟩
                replace hF := hF.to (lop4_s hbd5370)
                refine x_iload C.1 dX12_whoDid_92 0 rfl ?_
                refine x_iload_n C.1 dX12_whoDid_94 5 rfl ?_
                refine x_icmp_ge C.1 (tgt := 225) dX12_whoDid_95 (by decide) (by omega) (by omega) (fun hc6846 => ?_) (fun hc6846 => ?_)
                · replace hF := hF.to (if_pos hc6846)
                  refine x_iload C.1 dX12_whoDid_225 9 rfl ?_
                  refine x_if_ne C.1 (tgt := 235) dX12_whoDid_227 (by decide) (by omega) (fun hc6847 => ?_) (fun hc6847 => ?_)
                  · replace hF := hF.to (if_pos hc6847)
                    refine x_iload C.1 dX12_whoDid_235 9 rfl ?_
                    refine x_iconst C.1 (n := 1) dX12_whoDid_237 ?_
                    refine x_icmp_ne C.1 (tgt := 247) dX12_whoDid_238 (by decide) (by omega) (by decide) (fun hc6848 => ?_) (fun hc6848 => ?_)
                    · replace hF := hF.to (if_pos hc6848)
                      refine x_lload C.1 dX12_whoDid_247 3 rfl ?_
                      refine x_lconst0 C.1 dX12_whoDid_249 ?_
                      refine x_lcmp C.1 rfl dX12_whoDid_250 (by omega) (by decide) ?_
                      have bz6849 := lcI_r2 z5369 0
                      refine x_if_ne C.1 (tgt := 258) dX12_whoDid_251 (by decide) (by omega) (fun hc6850 => ?_) (fun hc6850 => ?_)
                      · replace hF := hF.to (if_pos hc6850)
                        rw [lcI_eq] at hc6850
                        refine x_iload C.1 dX12_whoDid_258 1 rfl ?_
                        refine x_i2l C.1 dX12_whoDid_260 (by omega) ?_
                        exact x_lret (S := (Nat → Nat → Int)) (post := (fun a (u : Nat → Nat → Int) => MI G u ∧ FBm 16 V u ∧ (f_m_whoDid x1 x2 x3 x4 x5 V J Rr) (a, u))) (w1 := (fun u : Nat → Nat → Int => MW cy ad u J Rr)) (a := z5367) C hr rfl dX12_whoDid_261 (by omega) V20 rfl ⟨hI20, hB20, hF _ rfl⟩
                      · replace hF := hF.to (if_neg (fun hh => hh hc6850))
                        rw [lcI_eq] at hc6850
                        refine x_lconst0 C.1 dX12_whoDid_254 ?_
                        refine x_goto C.1 (tgt := 261) dX12_whoDid_255 (by decide) ?_
                        exact x_lret (S := (Nat → Nat → Int)) (post := (fun a (u : Nat → Nat → Int) => MI G u ∧ FBm 16 V u ∧ (f_m_whoDid x1 x2 x3 x4 x5 V J Rr) (a, u))) (w1 := (fun u : Nat → Nat → Int => MW cy ad u J Rr)) (a := 0) C hr rfl dX12_whoDid_261 (by decide) V20 rfl ⟨hI20, hB20, hF _ rfl⟩
                    · replace hF := hF.to (if_neg (fun hh => hh hc6848))
                      refine x_iload C.1 dX12_whoDid_241 2 rfl ?_
                      refine x_i2l C.1 dX12_whoDid_243 (by omega) ?_
                      refine x_goto C.1 (tgt := 261) dX12_whoDid_244 (by decide) ?_
                      exact x_lret (S := (Nat → Nat → Int)) (post := (fun a (u : Nat → Nat → Int) => MI G u ∧ FBm 16 V u ∧ (f_m_whoDid x1 x2 x3 x4 x5 V J Rr) (a, u))) (w1 := (fun u : Nat → Nat → Int => MW cy ad u J Rr)) (a := z5368) C hr rfl dX12_whoDid_261 (by omega) V20 rfl ⟨hI20, hB20, hF _ rfl⟩
                  · replace hF := hF.to (if_neg (fun hh => hh hc6847))
                    refine x_lload C.1 dX12_whoDid_230 3 rfl ?_
                    refine x_goto C.1 (tgt := 261) dX12_whoDid_232 (by decide) ?_
                    exact x_lret (S := (Nat → Nat → Int)) (post := (fun a (u : Nat → Nat → Int) => MI G u ∧ FBm 16 V u ∧ (f_m_whoDid x1 x2 x3 x4 x5 V J Rr) (a, u))) (w1 := (fun u : Nat → Nat → Int => MW cy ad u J Rr)) (a := z5369) C hr rfl dX12_whoDid_261 (by omega) V20 rfl ⟨hI20, hB20, hF _ rfl⟩
                · replace hF := hF.to (if_neg hc6846)
                  refine x_iconst C.1 (n := 0) dX12_whoDid_98 ?_
                  refine x_istore C.1 (lv' := [(11, vI 0), (10, vI z5366), (9, vI z5367), (8, vI z5368), (6, vJ z5369), (0, .ref (ad 0)), (1, vI x1), (2, vI x2), (3, vI x3), (4, vI x4), (5, vI x5)]) dX12_whoDid_99 (by decide) rfl ?_
                  refine x_iload_n C.1 dX12_whoDid_101 7 rfl ?_
                  refine x_istore C.1 (lv' := [(12, vI x2), (11, vI 0), (10, vI z5366), (9, vI z5367), (8, vI z5368), (6, vJ z5369), (0, .ref (ad 0)), (1, vI x1), (2, vI x2), (3, vI x3), (4, vI x4), (5, vI x5)]) dX12_whoDid_102 (by decide) rfl ?_
                  refine x_iconst C.1 (n := 0) dX12_whoDid_104 ?_
                  refine x_istore C.1 (lv' := [(13, vI 0), (12, vI x2), (11, vI 0), (10, vI z5366), (9, vI z5367), (8, vI z5368), (6, vJ z5369), (0, .ref (ad 0)), (1, vI x1), (2, vI x2), (3, vI x3), (4, vI x4), (5, vI x5)]) dX12_whoDid_105 (by decide) rfl ?_
                  obtain ⟨bd7196, hbd7196, hF⟩ := lop3_ex hF
                  refine x_loop (I := fun x : Int × Int × Int => match x with | (z7193, z7194, z7195) => (0 ≤ z7193 ∧ z7193 ≤ 256) ∧ (0 ≤ z7194 ∧ z7194 ≤ 255) ∧ (-2147483648 ≤ z7195 ∧ z7195 ≤ 2147483647) ∧ (∃ nf : Nat, (257 - z7193).toNat < nf ∧ Imp (lop3 nf bd7196 z7193 z7194 z7195) (f_m_whoDid x1 x2 x3 x4 x5 V J Rr))) (μ := fun x : Int × Int × Int => match x with | (z7193, z7194, z7195) => (257 - z7193).toNat) (wsf := fun x : Int × Int × Int => match x with | (z7193, z7194, z7195) => MW cy ad V20 J Rr) (lvf := fun x : Int × Int × Int => match x with | (z7193, z7194, z7195) => [(13, vI z7193), (12, vI z7194), (11, vI z7195), (10, vI z5366), (9, vI z5367), (8, vI z5368), (6, vJ z5369), (0, .ref (ad 0)), (1, vI x1), (2, vI x2), (3, vI x3), (4, vI x4), (5, vI x5)]) (fun x hI7196x ih7196 => ?_) (0, x2, 0) ⟨⟨by decide, by decide⟩, ⟨by omega, by omega⟩, ⟨by decide, by decide⟩, ⟨_, (by omega), hF⟩⟩ rfl rfl
                  obtain ⟨z7193, z7194, z7195⟩ := x
                  obtain ⟨bz7193, bz7194, bz7195, nf7196, hn7196, hF⟩ := hI7196x
                  try dsimp only
                  obtain ⟨nf7196, rfl⟩ : ∃ mm, nf7196 = mm + 1 := ⟨nf7196 - 1, (Nat.succ_pred_eq_of_pos (Nat.lt_of_le_of_lt (Nat.zero_le _) hn7196)).symm⟩
                  replace hF := hF.to (lop3_s hbd7196)
                  refine x_iload C.1 dX12_whoDid_107 0 rfl ?_
                  refine x_sipush C.1 (n := 256) dX12_whoDid_109 ?_
                  refine x_icmp_ge C.1 (tgt := 188) dX12_whoDid_112 (by decide) (by omega) (by decide) (fun hc7301 => ?_) (fun hc7301 => ?_)
                  · replace hF := hF.to (if_pos hc7301)
                    refine x_lload C.1 dX12_whoDid_188 6 rfl ?_
                    refine x_iload C.1 dX12_whoDid_190 2 rfl ?_
                    refine x_i2l C.1 dX12_whoDid_192 (by omega) ?_
                    refine x_lmul C.1 rfl dX12_whoDid_193 ?_
                    refine x_wrapJg ?_
                    intro z7302 bz7302 ew7302
                    replace hF := hF.to (rdb_e (z := z7302) ew7302.symm)
                    refine x_lstore C.1 (lv' := [(6, vJ z7302), (13, vI z7193), (12, vI z7194), (11, vI z7195), (10, vI z5366), (9, vI z5367), (8, vI z5368), (0, .ref (ad 0)), (1, vI x1), (2, vI x2), (3, vI x3), (4, vI x4), (5, vI x5)]) dX12_whoDid_194 (by decide) rfl ?_
                    refine x_iload C.1 dX12_whoDid_196 3 rfl ?_
                    obtain ⟨jf7305, hjf7305, hF⟩ := jn_ex hF
                    refine x_join (I := fun z7304 : Int => (-2 ≤ z7304 ∧ z7304 ≤ 2147483647) ∧ Imp (jf7305 z7304) (f_m_whoDid x1 x2 x3 x4 x5 V J Rr)) (wsf := fun z7304 : Int => MW cy ad V20 J Rr) (lvf := fun z7304 : Int => [(6, vJ z7302), (13, vI z7193), (12, vI z7194), (11, vI z7195), (10, vI z5366), (9, vI z5367), (8, vI z7304), (0, .ref (ad 0)), (1, vI x1), (2, vI x2), (3, vI x3), (4, vI x4), (5, vI x5)]) (stf := fun z7304 : Int => []) 212 (fun z7304 hI7305x => ?_) (fun jn7305 => ?_)
                    · obtain ⟨bz7304, hF⟩ := hI7305x
                      try dsimp only
                      replace hF := hF.to (jn_s1 hjf7305)
                      refine x_iload C.1 dX12_whoDid_212 5 rfl ?_
                      refine x_iload C.1 dX12_whoDid_214 2 rfl ?_
                      obtain ⟨z7306, hz7306, bz7306⟩ : ∃ z : Int, iOr z5367 z7194 = z ∧ (-2147483648 ≤ z ∧ z ≤ 2147483647) := ⟨_, rfl, xi_r _⟩
                      replace hF := hF.to (rdb_e (z := z7306) hz7306)
                      refine x_ior C.1 (v := z7306) hz7306 dX12_whoDid_216 ?_
                      refine x_istore C.1 (lv' := [(9, vI z7306), (6, vJ z7302), (13, vI z7193), (12, vI z7194), (11, vI z7195), (10, vI z5366), (8, vI z7304), (0, .ref (ad 0)), (1, vI x1), (2, vI x2), (3, vI x3), (4, vI x4), (5, vI x5)]) dX12_whoDid_217 (by decide) rfl ?_
                      refine x_iinc C.1 (v := z5366 + 1) (lv' := [(10, vI (z5366 + 1)), (9, vI z7306), (6, vJ z7302), (13, vI z7193), (12, vI z7194), (11, vI z7195), (8, vI z7304), (0, .ref (ad 0)), (1, vI x1), (2, vI x2), (3, vI x3), (4, vI x4), (5, vI x5)]) (by omega) dX12_whoDid_219 5 rfl (by decide) rfl ?_
                      refine x_goto C.1 (tgt := 92) dX12_whoDid_222 (by decide) ?_
                      refine x_lv [(10, vI (z5366 + 1)), (9, vI z7306), (8, vI z7304), (6, vJ z7302), (0, .ref (ad 0)), (1, vI x1), (2, vI x2), (3, vI x3), (4, vI x4), (5, vI x5)] [0, 1, 6, 2, 7, 8, 9, 10, 11, 12] rfl ?_
                      have hmu5370 : (7 - (z5366 + 1)).toNat < (7 - z5366).toNat := (by omega)
                      exact ih5370 (z5366 + 1, z7306, z7304, z7302) ⟨⟨by omega, by omega⟩, ⟨by omega, by omega⟩, ⟨by omega, by omega⟩, ⟨by omega, by omega⟩, ⟨nf5370, Nat.lt_of_lt_of_le hmu5370 (Nat.le_of_lt_succ hn5370), hF⟩⟩ hmu5370
                    · refine x_if_ne C.1 (tgt := 212) dX12_whoDid_198 (by decide) (by omega) (fun hc7307 => ?_) (fun hc7307 => ?_)
                      · replace hF := hF.to (if_pos hc7307)
                        exact jn7305 z5368 ⟨⟨by omega, by omega⟩, hF⟩
                      · replace hF := hF.to (if_neg (fun hh => hh hc7307))
                        refine x_iload C.1 dX12_whoDid_201 6 rfl ?_
                        refine x_bipush C.1 (n := -2) dX12_whoDid_203 ?_
                        refine x_icmp_ne C.1 (tgt := 212) dX12_whoDid_205 (by decide) (by omega) (by decide) (fun hc7308 => ?_) (fun hc7308 => ?_)
                        · replace hF := hF.to (if_pos hc7308)
                          exact jn7305 z5368 ⟨⟨by omega, by omega⟩, hF⟩
                        · replace hF := hF.to (if_neg (fun hh => hh hc7308))
                          refine x_iload C.1 dX12_whoDid_208 4 rfl ?_
                          refine x_istore C.1 (lv' := [(8, vI z5366), (6, vJ z7302), (13, vI z7193), (12, vI z7194), (11, vI z7195), (10, vI z5366), (9, vI z5367), (0, .ref (ad 0)), (1, vI x1), (2, vI x2), (3, vI x3), (4, vI x4), (5, vI x5)]) dX12_whoDid_210 (by decide) rfl ?_
                          refine x_lv [(6, vJ z7302), (13, vI z7193), (12, vI z7194), (11, vI z7195), (10, vI z5366), (9, vI z5367), (8, vI z5366), (0, .ref (ad 0)), (1, vI x1), (2, vI x2), (3, vI x3), (4, vI x4), (5, vI x5)] [1, 2, 3, 4, 5, 6, 0, 7, 8, 9, 10, 11, 12] rfl ?_
                          exact jn7305 z5366 ⟨⟨by omega, by omega⟩, hF⟩
                  · replace hF := hF.to (if_neg hc7301)
                    refine x_iload C.1 dX12_whoDid_115 0 rfl ?_
                    refine x_iload_n C.1 dX12_whoDid_117 9 rfl ?_
                    refine x_iconst C.1 (n := -1) dX12_whoDid_118 ?_
                    obtain ⟨z7309, hz7309, bz7309⟩ : ∃ z : Int, iXor x2 (-1) = z ∧ (-2147483648 ≤ z ∧ z ≤ 2147483647) := ⟨_, rfl, xi_r _⟩
                    replace hF := hF.to (rdb_e (z := z7309) hz7309)
                    refine x_ixor C.1 (v := z7309) hz7309 dX12_whoDid_119 ?_
                    obtain ⟨z7310, hz7310, bz7310⟩ : ∃ z : Int, iAnd z7193 z7309 = z ∧ (0 ≤ z ∧ z ≤ 255) := ⟨_, rfl, iAnd_leA _ (by omega)⟩
                    replace hF := hF.to (rdb_e (z := z7310) hz7310)
                    replace hF := hF.fc bz7310
                    refine x_iand C.1 (v := z7310) hz7310 dX12_whoDid_120 ?_
                    obtain ⟨jf7326, hjf7326, hF⟩ := jn_ex hF
                    refine x_join (I := fun x : Int × Int => match x with | (z7324, z7325) => (0 ≤ z7324 ∧ z7324 ≤ 255) ∧ (-2147483648 ≤ z7325 ∧ z7325 ≤ 2147483647) ∧ Imp (jf7326 z7324 z7325) (f_m_whoDid x1 x2 x3 x4 x5 V J Rr)) (wsf := fun x : Int × Int => match x with | (z7324, z7325) => MW cy ad V20 J Rr) (lvf := fun x : Int × Int => match x with | (z7324, z7325) => [(13, vI z7193), (12, vI z7324), (11, vI z7325), (10, vI z5366), (9, vI z5367), (8, vI z5368), (6, vJ z5369), (0, .ref (ad 0)), (1, vI x1), (2, vI x2), (3, vI x3), (4, vI x4), (5, vI x5)]) (stf := fun x : Int × Int => match x with | (z7324, z7325) => []) 182 (fun x hI7326x => ?_) (fun jn7326 => ?_)
                    · obtain ⟨z7324, z7325⟩ := x
                      obtain ⟨bz7324, bz7325, hF⟩ := hI7326x
                      try dsimp only
                      replace hF := hF.to (jn_s2 hjf7326)
                      refine x_iinc C.1 (v := z7193 + 1) (lv' := [(13, vI (z7193 + 1)), (12, vI z7324), (11, vI z7325), (10, vI z5366), (9, vI z5367), (8, vI z5368), (6, vJ z5369), (0, .ref (ad 0)), (1, vI x1), (2, vI x2), (3, vI x3), (4, vI x4), (5, vI x5)]) (by omega) dX12_whoDid_182 0 rfl (by decide) rfl ?_
                      refine x_goto C.1 (tgt := 107) dX12_whoDid_185 (by decide) ?_
                      have hmu7196 : (257 - (z7193 + 1)).toNat < (257 - z7193).toNat := (by omega)
                      exact ih7196 (z7193 + 1, z7324, z7325) ⟨⟨by omega, by omega⟩, ⟨by omega, by omega⟩, ⟨by omega, by omega⟩, ⟨nf7196, Nat.lt_of_lt_of_le hmu7196 (Nat.le_of_lt_succ hn7196), hF⟩⟩ hmu7196
                    · refine x_if_ne C.1 (tgt := 182) dX12_whoDid_121 (by decide) (by omega) (fun hc7327 => ?_) (fun hc7327 => ?_)
                      · replace hF := hF.to (if_pos hc7327)
                        exact jn7326 (z7194, z7195) ⟨⟨by omega, by omega⟩, ⟨by omega, by omega⟩, hF⟩
                      · replace hF := hF.to (if_neg (fun hh => hh hc7327))
                        refine x_iconst C.1 (n := 0) dX12_whoDid_124 ?_
                        refine x_aload_n C.1 dX12_whoDid_125 7 rfl ?_
                        refine x_getA C (N := 33) (i := 0) (by decide) rfl vc_X12 wx_X12 3 (by decide) wf_X12_19 (a := 4) rfl dX12_whoDid_126 ?_
                        refine x_iload C.1 dX12_whoDid_129 3 rfl ?_
                        obtain ⟨z7328, ez7328, bz7328⟩ := hI20.rd 4 z5366.toNat (x := -128) (y := 127) rfl
                        replace hF := hF.to (rdb_e (z := z7328) ez7328)
                        replace hF := hF.fc bz7328
                        refine x_bald C (N := 33) (i := 4) (q := z5366) (by decide) rfl (by omega) (by decide) dX12_whoDid_131 (a := z7328) ez7328 ?_
                        refine x_sipush C.1 (n := 255) dX12_whoDid_132 ?_
                        obtain ⟨z7329, hz7329, bz7329⟩ : ∃ z : Int, iAnd z7328 255 = z ∧ (0 ≤ z ∧ z ≤ 255) := ⟨_, rfl, iAnd_leB _ (by decide)⟩
                        replace hF := hF.to (rdb_e (z := z7329) hz7329)
                        replace hF := hF.fc bz7329
                        refine x_iand C.1 (v := z7329) hz7329 dX12_whoDid_135 ?_
                        refine x_iload_n C.1 dX12_whoDid_136 10 rfl ?_
                        refine x_iload C.1 dX12_whoDid_137 0 rfl ?_
                        refine x_callSi C (As := [vI z7193]) (rest := [vI x3, vI z7329, vI 0]) (m_bits l D cy z7193 ⟨by omega, by omega⟩) (l1 := []) (l2 := _) rfl (w2 := fun _ => _) (fun _ => rfl) rfl wm_yX12_bits wn_X12 wl_X12_247 wi_yX12_bits hd_yX12_bits rfl ⟨Nat.le_of_ble_eq_true rfl, Nat.le_of_ble_eq_true rfl⟩ (Nat.le_of_ble_eq_true rfl) ⟨Nat.le_of_ble_eq_true rfl, Nat.le_of_ble_eq_true rfl⟩ dX12_whoDid_139 (fun z7330 u7330 bz7330 h7330 => ?_)
                        have hFc7330 := h7330
                        replace hF := calR_i hF hFc7330
                        refine x_imul C.1 rfl dX12_whoDid_142 ?_
                        refine x_wrapg ?_
                        intro z7331 bz7331 ew7331
                        replace hF := hF.to (rdb_e (z := z7331) ew7331.symm)
                        refine x_iadd C.1 (v := z7329 + z7331) (by omega) dX12_whoDid_143 ?_
                        refine x_wrapg ?_
                        intro z7332 bz7332 ew7332
                        replace hF := hF.to (rdb_e (z := z7332) ew7332.symm)
                        refine x_iload C.1 dX12_whoDid_144 11 rfl ?_
                        refine x_isub C.1 (v := z7332 - x4) (by omega) dX12_whoDid_146 ?_
                        refine x_wrapg ?_
                        intro z7333 bz7333 ew7333
                        replace hF := hF.to (rdb_e (z := z7333) ew7333.symm)
                        refine x_callSi C (As := [vI 0, vI z7333]) (rest := []) (m_max l D cy 0 ⟨by decide, by decide⟩ z7333 ⟨by omega, by omega⟩) (l1 := []) (l2 := _) rfl (w2 := fun _ => _) (fun _ => rfl) rfl wm_yX12_max wn_X12 wl_X12_272 wi_yX12_max hd_yX12_max rfl ⟨Nat.le_of_ble_eq_true rfl, Nat.le_of_ble_eq_true rfl⟩ (Nat.le_of_ble_eq_true rfl) ⟨Nat.le_of_ble_eq_true rfl, Nat.le_of_ble_eq_true rfl⟩ dX12_whoDid_147 (fun z7334 u7334 bz7334 h7334 => ?_)
                        obtain ⟨hx7334_0, hFc7334⟩ := h7334
                        replace hF := calR_i hF hFc7334
                        have bm7335 : 0 ≤ z7334 ∧ z7334 ≤ 2147483647 := by omega
                        skip
                        refine x_aload_n C.1 dX12_whoDid_150 7 rfl ?_
                        refine x_getA C (N := 33) (i := 0) (by decide) rfl vc_X12 wx_X12 3 (by decide) wf_X12_19 (a := 4) rfl dX12_whoDid_151 ?_
                        refine x_iload C.1 dX12_whoDid_154 3 rfl ?_
                        refine x_iconst C.1 (n := 1) dX12_whoDid_156 ?_
                        refine x_iadd C.1 (v := z5366 + 1) (by omega) dX12_whoDid_157 ?_
                        obtain ⟨z7336, ez7336, bz7336⟩ := hI20.rd 4 ((z5366 + 1).toNat) (x := -128) (y := 127) rfl
                        replace hF := hF.to (rdb_e (z := z7336) ez7336)
                        replace hF := hF.fc bz7336
                        refine x_bald C (N := 33) (i := 4) (q := z5366 + 1) (by decide) rfl (by omega) (by decide) dX12_whoDid_158 (a := z7336) ez7336 ?_
                        refine x_sipush C.1 (n := 255) dX12_whoDid_159 ?_
                        obtain ⟨z7337, hz7337, bz7337⟩ : ∃ z : Int, iAnd z7336 255 = z ∧ (0 ≤ z ∧ z ≤ 255) := ⟨_, rfl, iAnd_leB _ (by decide)⟩
                        replace hF := hF.to (rdb_e (z := z7337) hz7337)
                        replace hF := hF.fc bz7337
                        refine x_iand C.1 (v := z7337) hz7337 dX12_whoDid_162 ?_
                        refine x_icmp_eq C.1 (tgt := 169) dX12_whoDid_163 (by decide) (by omega) (by omega) (fun hc7338 => ?_) (fun hc7338 => ?_)
                        · replace hF := hF.to (if_pos hc7338)
                          refine x_iload C.1 dX12_whoDid_169 2 rfl ?_
                          refine x_iconst C.1 (n := 1) dX12_whoDid_171 ?_
                          refine x_iadd C.1 (v := z7195 + 1) (by omega) dX12_whoDid_172 ?_
                          refine x_wrapg ?_
                          intro z7339 bz7339 ew7339
                          replace hF := hF.to (rdb_e (z := z7339) ew7339.symm)
                          refine x_istore C.1 (lv' := [(11, vI z7339), (13, vI z7193), (12, vI z7194), (10, vI z5366), (9, vI z5367), (8, vI z5368), (6, vJ z5369), (0, .ref (ad 0)), (1, vI x1), (2, vI x2), (3, vI x3), (4, vI x4), (5, vI x5)]) dX12_whoDid_173 (by decide) rfl ?_
                          refine x_iload C.1 dX12_whoDid_175 2 rfl ?_
                          refine x_iload C.1 dX12_whoDid_177 1 rfl ?_
                          obtain ⟨z7340, hz7340, bz7340⟩ : ∃ z : Int, iAnd z7194 z7193 = z ∧ (0 ≤ z ∧ z ≤ 255) := ⟨_, rfl, iAnd_leB _ (by omega)⟩
                          replace hF := hF.to (rdb_e (z := z7340) hz7340)
                          replace hF := hF.fc bz7340
                          refine x_iand C.1 (v := z7340) hz7340 dX12_whoDid_179 ?_
                          refine x_istore C.1 (lv' := [(12, vI z7340), (11, vI z7339), (13, vI z7193), (10, vI z5366), (9, vI z5367), (8, vI z5368), (6, vJ z5369), (0, .ref (ad 0)), (1, vI x1), (2, vI x2), (3, vI x3), (4, vI x4), (5, vI x5)]) dX12_whoDid_180 (by decide) rfl ?_
                          refine x_lv [(13, vI z7193), (12, vI z7340), (11, vI z7339), (10, vI z5366), (9, vI z5367), (8, vI z5368), (6, vJ z5369), (0, .ref (ad 0)), (1, vI x1), (2, vI x2), (3, vI x3), (4, vI x4), (5, vI x5)] [2, 0, 1, 3, 4, 5, 6, 7, 8, 9, 10, 11, 12] rfl ?_
                          exact jn7326 (z7340, z7339) ⟨⟨by omega, by omega⟩, ⟨by omega, by omega⟩, hF⟩
                        · replace hF := hF.to (if_neg hc7338)
                          refine x_goto C.1 (tgt := 182) dX12_whoDid_166 (by decide) ?_
                          exact jn7326 (z7194, z7195) ⟨⟨by omega, by omega⟩, ⟨by omega, by omega⟩, hF⟩
              · replace hF := hF.to (if_neg hc19)
                refine x_ldc2 C.1 (n := -1) wq_X12_345 dX12_whoDid_70 ?_
                exact x_lret (S := (Nat → Nat → Int)) (post := (fun a (u : Nat → Nat → Int) => MI G u ∧ FBm 16 V u ∧ (f_m_whoDid x1 x2 x3 x4 x5 V J Rr) (a, u))) (w1 := (fun u : Nat → Nat → Int => MW cy ad u J Rr)) (a := (-1)) C hr rfl dX12_whoDid_73 (by decide) V rfl ⟨hI, hB, hF _ rfl⟩
