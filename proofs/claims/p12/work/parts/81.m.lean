theorem hd_yX12_endsPiece : yX12_endsPiece.cls ≠ "java/lang/invoke/MethodHandle" ∧ yX12_endsPiece.cls ≠ "java/lang/invoke/VarHandle" ∧ (parseMethodDescriptor yX12_endsPiece.desc).map (fun d => d.parameters.length) = some 0 := by decide +kernel
theorem hd_yX12_readsSum : yX12_readsSum.cls ≠ "java/lang/invoke/MethodHandle" ∧ yX12_readsSum.cls ≠ "java/lang/invoke/VarHandle" ∧ (parseMethodDescriptor yX12_readsSum.desc).map (fun d => d.parameters.length) = some 0 := by decide +kernel
theorem dX12_readsCompared_0 : decode cX12_readsCompared 0 = .ok (.aload_n 0, 1) := by decide +kernel
theorem dX12_readsCompared_1 : decode cX12_readsCompared 1 = .ok (.invokevirtual 207, 3) := by decide +kernel
theorem dX12_readsCompared_4 : decode cX12_readsCompared 4 = .ok (.ifCond .ne 5, 3) := by decide +kernel
theorem dX12_readsCompared_7 : decode cX12_readsCompared 7 = .ok (.iconst 0, 1) := by decide +kernel
theorem dX12_readsCompared_8 : decode cX12_readsCompared 8 = .ok (.ireturn, 1) := by decide +kernel
theorem dX12_readsCompared_9 : decode cX12_readsCompared 9 = .ok (.aload_n 0, 1) := by decide +kernel
theorem dX12_readsCompared_10 : decode cX12_readsCompared 10 = .ok (.invokevirtual 150, 3) := by decide +kernel
theorem dX12_readsCompared_13 : decode cX12_readsCompared 13 = .ok (.bipush 60, 2) := by decide +kernel
theorem dX12_readsCompared_15 : decode cX12_readsCompared 15 = .ok (.if_icmp .ne 8, 3) := by decide +kernel
theorem dX12_readsCompared_18 : decode cX12_readsCompared 18 = .ok (.bipush 7, 2) := by decide +kernel
theorem dX12_readsCompared_20 : decode cX12_readsCompared 20 = .ok (.goto 32, 3) := by decide +kernel
theorem dX12_readsCompared_23 : decode cX12_readsCompared 23 = .ok (.aload_n 0, 1) := by decide +kernel
theorem dX12_readsCompared_24 : decode cX12_readsCompared 24 = .ok (.invokevirtual 150, 3) := by decide +kernel
theorem dX12_readsCompared_27 : decode cX12_readsCompared 27 = .ok (.bipush 62, 2) := by decide +kernel
theorem dX12_readsCompared_29 : decode cX12_readsCompared 29 = .ok (.if_icmp .ne 8, 3) := by decide +kernel
theorem dX12_readsCompared_32 : decode cX12_readsCompared 32 = .ok (.bipush 8, 2) := by decide +kernel
theorem dX12_readsCompared_34 : decode cX12_readsCompared 34 = .ok (.goto 18, 3) := by decide +kernel
theorem dX12_readsCompared_37 : decode cX12_readsCompared 37 = .ok (.aload_n 0, 1) := by decide +kernel
theorem dX12_readsCompared_38 : decode cX12_readsCompared 38 = .ok (.invokevirtual 150, 3) := by decide +kernel
theorem dX12_readsCompared_41 : decode cX12_readsCompared 41 = .ok (.bipush 61, 2) := by decide +kernel
theorem dX12_readsCompared_43 : decode cX12_readsCompared 43 = .ok (.if_icmp .ne 8, 3) := by decide +kernel
theorem dX12_readsCompared_46 : decode cX12_readsCompared 46 = .ok (.bipush 9, 2) := by decide +kernel
theorem dX12_readsCompared_48 : decode cX12_readsCompared 48 = .ok (.goto 4, 3) := by decide +kernel
theorem dX12_readsCompared_51 : decode cX12_readsCompared 51 = .ok (.iconst (-1), 1) := by decide +kernel
theorem dX12_readsCompared_52 : decode cX12_readsCompared 52 = .ok (.istore_n 1, 1) := by decide +kernel
theorem dX12_readsCompared_53 : decode cX12_readsCompared 53 = .ok (.iload_n 1, 1) := by decide +kernel
theorem dX12_readsCompared_54 : decode cX12_readsCompared 54 = .ok (.iconst (-1), 1) := by decide +kernel
theorem dX12_readsCompared_55 : decode cX12_readsCompared 55 = .ok (.if_icmp .ne 13, 3) := by decide +kernel
theorem dX12_readsCompared_58 : decode cX12_readsCompared 58 = .ok (.aload_n 0, 1) := by decide +kernel
theorem dX12_readsCompared_59 : decode cX12_readsCompared 59 = .ok (.iconst 1, 1) := by decide +kernel
theorem dX12_readsCompared_60 : decode cX12_readsCompared 60 = .ok (.aload_n 0, 1) := by decide +kernel
theorem dX12_readsCompared_61 : decode cX12_readsCompared 61 = .ok (.getfield 144, 3) := by decide +kernel
theorem dX12_readsCompared_64 : decode cX12_readsCompared 64 = .ok (.invokevirtual 157, 3) := by decide +kernel
theorem dX12_readsCompared_67 : decode cX12_readsCompared 67 = .ok (.ireturn, 1) := by decide +kernel
theorem dX12_readsCompared_68 : decode cX12_readsCompared 68 = .ok (.aload_n 0, 1) := by decide +kernel
theorem dX12_readsCompared_69 : decode cX12_readsCompared 69 = .ok (.aload_n 0, 1) := by decide +kernel
theorem dX12_readsCompared_70 : decode cX12_readsCompared 70 = .ok (.getfield 144, 3) := by decide +kernel
theorem dX12_readsCompared_73 : decode cX12_readsCompared 73 = .ok (.iconst 1, 1) := by decide +kernel
theorem dX12_readsCompared_74 : decode cX12_readsCompared 74 = .ok (.iadd, 1) := by decide +kernel
theorem dX12_readsCompared_75 : decode cX12_readsCompared 75 = .ok (.putfield 144, 3) := by decide +kernel
theorem dX12_readsCompared_78 : decode cX12_readsCompared 78 = .ok (.aload_n 0, 1) := by decide +kernel
theorem dX12_readsCompared_79 : decode cX12_readsCompared 79 = .ok (.invokevirtual 207, 3) := by decide +kernel
theorem dX12_readsCompared_82 : decode cX12_readsCompared 82 = .ok (.ifCond .ne 5, 3) := by decide +kernel
theorem dX12_readsCompared_85 : decode cX12_readsCompared 85 = .ok (.iconst 0, 1) := by decide +kernel
theorem dX12_readsCompared_86 : decode cX12_readsCompared 86 = .ok (.ireturn, 1) := by decide +kernel
theorem dX12_readsCompared_87 : decode cX12_readsCompared 87 = .ok (.aload_n 0, 1) := by decide +kernel
theorem dX12_readsCompared_88 : decode cX12_readsCompared 88 = .ok (.iload_n 1, 1) := by decide +kernel
theorem dX12_readsCompared_89 : decode cX12_readsCompared 89 = .ok (.iconst 0, 1) := by decide +kernel
theorem dX12_readsCompared_90 : decode cX12_readsCompared 90 = .ok (.invokevirtual 180, 3) := by decide +kernel
theorem dX12_readsCompared_93 : decode cX12_readsCompared 93 = .ok (.aload_n 0, 1) := by decide +kernel
theorem dX12_readsCompared_94 : decode cX12_readsCompared 94 = .ok (.invokevirtual 210, 3) := by decide +kernel
theorem dX12_readsCompared_97 : decode cX12_readsCompared 97 = .ok (.iconst 1, 1) := by decide +kernel
theorem dX12_readsCompared_98 : decode cX12_readsCompared 98 = .ok (.ireturn, 1) := by decide +kernel
set_option maxRecDepth 100000 in
def f_m_readsCompared (V : Nat → Nat → Int) (J : Nat → Nat → Int) (Rr : Nat → Nat → Nat) : (Int × (Nat → Nat → Int)) → Prop :=
  rdb (V 0 5) fun z1 => fct (0 ≤ z1 ∧ z1 ≤ 220) <| rdb (V 0 6) fun z2 => fct (0 ≤ z2 ∧ z2 ≤ 220) <| rdb (V 0 10) fun z3 => fct (0 ≤ z3 ∧ z3 ≤ 220) <| rdb (V 0 11) fun z4 => fct (0 ≤ z4 ∧ z4 ≤ 220) <| calVM 1770887431076116959136 V (f_m_readsSum V J Rr) fun z5 V5 => fct (0 ≤ z5 ∧ z5 ≤ 1) <| (if ¬ z5 = 0 then rdb (V5 0 5) fun z9 => fct (0 ≤ z9 ∧ z9 ≤ 220) <| rdb (V5 0 6) fun z10 => fct (0 ≤ z10 ∧ z10 ≤ 220) <| rdb (V5 0 10) fun z11 => fct (0 ≤ z11 ∧ z11 ≤ 220) <| rdb (V5 0 11) fun z12 => fct (0 ≤ z12 ∧ z12 ≤ 220) <| calR (f_m_here V5 J Rr) fun z13 => fct (-1 ≤ z13 ∧ z13 ≤ 255) <| (if ¬ z13 = 60 then calR (f_m_here V5 J Rr) fun z15 => fct (-1 ≤ z15 ∧ z15 ≤ 255) <| (if ¬ z15 = 62 then calR (f_m_here V5 J Rr) fun z17 => fct (-1 ≤ z17 ∧ z17 ≤ 255) <| (if ¬ z17 = 61 then calVM 128 V5 (f_m_wrongAt 1 z9 V5 J Rr) fun z19 V19 => fct (0 ≤ z19 ∧ z19 ≤ 0) <| rtn (z19, V19) else rdb (up2 V5 0 5 (z9 + 1)) fun V20 => calVM 1770887431076116959136 V20 (f_m_readsSum V20 J Rr) fun z21 V21 => fct (0 ≤ z21 ∧ z21 ≤ 1) <| (if ¬ z21 = 0 then rdb (V21 0 5) fun z24 => fct (0 ≤ z24 ∧ z24 ≤ 220) <| rdb (V21 0 6) fun z25 => fct (0 ≤ z25 ∧ z25 ≤ 220) <| rdb (V21 0 10) fun z26 => fct (0 ≤ z26 ∧ z26 ≤ 220) <| rdb (V21 0 11) fun z27 => fct (0 ≤ z27 ∧ z27 ≤ 220) <| calUM 590295810358705652736 V21 (f_m_notes 9 0 V21 J Rr) fun V28 => calUM 590295810358705655296 V28 (f_m_endsPiece V28 J Rr) fun V29 => rtn (1, V29) else rtn (0, V21))) else rdb (up2 V5 0 5 (z9 + 1)) fun V30 => calVM 1770887431076116959136 V30 (f_m_readsSum V30 J Rr) fun z31 V31 => fct (0 ≤ z31 ∧ z31 ≤ 1) <| (if ¬ z31 = 0 then rdb (V31 0 5) fun z34 => fct (0 ≤ z34 ∧ z34 ≤ 220) <| rdb (V31 0 6) fun z35 => fct (0 ≤ z35 ∧ z35 ≤ 220) <| rdb (V31 0 10) fun z36 => fct (0 ≤ z36 ∧ z36 ≤ 220) <| rdb (V31 0 11) fun z37 => fct (0 ≤ z37 ∧ z37 ≤ 220) <| calUM 590295810358705652736 V31 (f_m_notes 8 0 V31 J Rr) fun V38 => calUM 590295810358705655296 V38 (f_m_endsPiece V38 J Rr) fun V39 => rtn (1, V39) else rtn (0, V31))) else rdb (up2 V5 0 5 (z9 + 1)) fun V40 => calVM 1770887431076116959136 V40 (f_m_readsSum V40 J Rr) fun z41 V41 => fct (0 ≤ z41 ∧ z41 ≤ 1) <| (if ¬ z41 = 0 then rdb (V41 0 5) fun z44 => fct (0 ≤ z44 ∧ z44 ≤ 220) <| rdb (V41 0 6) fun z45 => fct (0 ≤ z45 ∧ z45 ≤ 220) <| rdb (V41 0 10) fun z46 => fct (0 ≤ z46 ∧ z46 ≤ 220) <| rdb (V41 0 11) fun z47 => fct (0 ≤ z47 ∧ z47 ≤ 220) <| calUM 590295810358705652736 V41 (f_m_notes 7 0 V41 J Rr) fun V48 => calUM 590295810358705655296 V48 (f_m_endsPiece V48 J Rr) fun V49 => rtn (1, V49) else rtn (0, V41))) else rtn (0, V5))
set_option maxHeartbeats 8000000 in
set_option maxRecDepth 100000 in
theorem m_readsCompared (l : Launch) (D : va_G) (cy : Nat → ClassId) (ad : Nat → Nat) (G : Nat → Nat → Int) (V J : Nat → Nat → Int) (Rr : Nat → Nat → Nat) (hI : MI G V) (hJ : VJ J) (hR : MR Rr) (f : Int) (hC : CI f 0 0 V) (hP : PG V) (h0 : 0 < V 0 11) : xMi l D (xTY cy) yX12_readsCompared cX12_readsCompared 2 (some .boolean) 5 104 0 0 [.ref (ad 0)] (MW cy ad V J Rr) (fun u : Nat → Nat → Int => MW cy ad u J Rr) (fun a (u : Nat → Nat → Int) => MI G u ∧ (0 ≤ a ∧ a ≤ 1) ∧ (Sp a (pQ f 0 1 V u ∧ V 0 5 < u 0 5)) ∧ FBm 1770887431076116959136 V u ∧ (f_m_readsCompared V J Rr) (a, u)) := by
  refine xMi.mk (lv0 := [(0, .ref (ad 0))]) (by decide) rfl (Nat.le_of_ble_eq_true rfl) (fun p e s m below meth c A C hr hnm hAe => ?_)
  have C : xC2 p s m _ meth c D A s.heap 2 cX12_readsCompared RX12 (xTY cy) := C
  have hB : FBm 1770887431076116959136 V V := FBm.rf _ _
  have hF := Imp.of_eq (f_m_readsCompared.eq_def V J Rr)
  obtain ⟨z1, ez1, bz1⟩ := hI.rd 0 5 (x := 0) (y := 220) rfl
  replace hF := hF.to (rdb_e (z := z1) ez1)
  replace hF := hF.fc bz1
  obtain ⟨z2, ez2, bz2⟩ := hI.rd 0 6 (x := 0) (y := 220) rfl
  replace hF := hF.to (rdb_e (z := z2) ez2)
  replace hF := hF.fc bz2
  obtain ⟨z3, ez3, bz3⟩ := hI.rd 0 10 (x := 0) (y := 220) rfl
  replace hF := hF.to (rdb_e (z := z3) ez3)
  replace hF := hF.fc bz3
  obtain ⟨z4, ez4, bz4⟩ := hI.rd 0 11 (x := 0) (y := 220) rfl
  replace hF := hF.to (rdb_e (z := z4) ez4)
  replace hF := hF.fc bz4
  have hc2v := hC.c200 hP
  rw [ez1, ez3, ez4] at hc2v
  have hpzv := hP
  unfold PG at hpzv
  rw [ez1, ez2, ez3, ez4] at hpzv
  refine x_aload_n C.1 dX12_readsCompared_0 0 rfl ?_
  refine x_callVi C (As := []) (rest := []) 0 (xw_at (N := 33) (i := 0) (by decide) rfl) vc_X12 (m_readsSum l D cy ad G V J Rr hI hJ hR hP hC.cp hC.tio) (l1 := []) (l2 := []) (List.append_nil _).symm (w2 := fun u : Nat → Nat → Int => MW cy ad u J Rr) (fun _ => List.append_nil _) rfl wm_yX12_readsSum wn_X12 wl_X12_207 wi_yX12_readsSum we_yX12_readsSum hd_yX12_readsSum rfl ⟨Nat.le_of_ble_eq_true rfl, Nat.le_of_ble_eq_true rfl⟩ (Nat.le_of_ble_eq_true rfl) ⟨Nat.le_of_ble_eq_true rfl, Nat.le_of_ble_eq_true rfl⟩ dX12_readsCompared_1 (fun z5 V5 bz5 h5 => ?_)
  obtain ⟨hI5, bq5, hx5_0, hBc5, hFc5⟩ := h5
  replace hF := calVM_i hF hFc5 hBc5
  replace hF := hF.fc bq5
  have hB5 := hB.tr hBc5 (m := 1770887431076116959136) rfl
  refine x_if_ne C.1 (tgt := 9) dX12_readsCompared_4 (by decide) (by omega) (fun hc6 => ?_) (fun hc6 => ?_)
  · replace hF := hF.to (if_pos hc6)
    have hon7 := Sp.on hx5_0 (by omega)
    have hq1 : pQ f 0 1 V V5 := sumC hC (Int.le_refl 0) h0 hon7
    obtain ⟨z9, ez9, bz9⟩ := hI5.rd 0 5 (x := 0) (y := 220) rfl
    replace hF := hF.to (rdb_e (z := z9) ez9)
    replace hF := hF.fc bz9
    obtain ⟨z10, ez10, bz10⟩ := hI5.rd 0 6 (x := 0) (y := 220) rfl
    replace hF := hF.to (rdb_e (z := z10) ez10)
    replace hF := hF.fc bz10
    obtain ⟨z11, ez11, bz11⟩ := hI5.rd 0 10 (x := 0) (y := 220) rfl
    replace hF := hF.to (rdb_e (z := z11) ez11)
    replace hF := hF.fc bz11
    obtain ⟨z12, ez12, bz12⟩ := hI5.rd 0 11 (x := 0) (y := 220) rfl
    replace hF := hF.to (rdb_e (z := z12) ez12)
    replace hF := hF.fc bz12
    have hc2s := hq1.1.c200 hq1.2.1
    rw [ez9, ez11, ez12] at hc2s
    have hpzs := hq1.2.1
    unfold PG at hpzs
    rw [ez9, ez10, ez11, ez12] at hpzs
    refine x_aload_n C.1 dX12_readsCompared_9 0 rfl ?_
    refine x_callVi C (As := []) (rest := []) 0 (xw_at (N := 33) (i := 0) (by decide) rfl) vc_X12 (m_here l D cy ad G V5 J Rr hI5 hJ hR ) (l1 := []) (l2 := []) (List.append_nil _).symm (w2 := fun _ => MW cy ad V5 J Rr) (fun _ => List.append_nil _) rfl wm_yX12_here wn_X12 wl_X12_150 wi_yX12_here we_yX12_here hd_yX12_here rfl ⟨Nat.le_of_ble_eq_true rfl, Nat.le_of_ble_eq_true rfl⟩ (Nat.le_of_ble_eq_true rfl) ⟨Nat.le_of_ble_eq_true rfl, Nat.le_of_ble_eq_true rfl⟩ dX12_readsCompared_10 (fun z13 u13 bz13 h13 => ?_)
    obtain ⟨bq13, hx13_0, hx13_1, hFc13⟩ := h13
    replace hF := calR_i hF hFc13
    replace hF := hF.fc bq13
    rw [ez9, ez10] at hx13_0
    refine x_bipush C.1 (n := 60) dX12_readsCompared_13 ?_
    refine x_icmp_ne C.1 (tgt := 23) dX12_readsCompared_15 (by decide) (by omega) (by decide) (fun hc14 => ?_) (fun hc14 => ?_)
    · replace hF := hF.to (if_pos hc14)
      refine x_aload_n C.1 dX12_readsCompared_23 0 rfl ?_
      refine x_callVi C (As := []) (rest := []) 0 (xw_at (N := 33) (i := 0) (by decide) rfl) vc_X12 (m_here l D cy ad G V5 J Rr hI5 hJ hR ) (l1 := []) (l2 := []) (List.append_nil _).symm (w2 := fun _ => MW cy ad V5 J Rr) (fun _ => List.append_nil _) rfl wm_yX12_here wn_X12 wl_X12_150 wi_yX12_here we_yX12_here hd_yX12_here rfl ⟨Nat.le_of_ble_eq_true rfl, Nat.le_of_ble_eq_true rfl⟩ (Nat.le_of_ble_eq_true rfl) ⟨Nat.le_of_ble_eq_true rfl, Nat.le_of_ble_eq_true rfl⟩ dX12_readsCompared_24 (fun z15 u15 bz15 h15 => ?_)
      obtain ⟨bq15, hx15_0, hx15_1, hFc15⟩ := h15
      replace hF := calR_i hF hFc15
      replace hF := hF.fc bq15
      rw [ez9, ez10] at hx15_0
      refine x_bipush C.1 (n := 62) dX12_readsCompared_27 ?_
      refine x_icmp_ne C.1 (tgt := 37) dX12_readsCompared_29 (by decide) (by omega) (by decide) (fun hc16 => ?_) (fun hc16 => ?_)
      · replace hF := hF.to (if_pos hc16)
        refine x_aload_n C.1 dX12_readsCompared_37 0 rfl ?_
        refine x_callVi C (As := []) (rest := []) 0 (xw_at (N := 33) (i := 0) (by decide) rfl) vc_X12 (m_here l D cy ad G V5 J Rr hI5 hJ hR ) (l1 := []) (l2 := []) (List.append_nil _).symm (w2 := fun _ => MW cy ad V5 J Rr) (fun _ => List.append_nil _) rfl wm_yX12_here wn_X12 wl_X12_150 wi_yX12_here we_yX12_here hd_yX12_here rfl ⟨Nat.le_of_ble_eq_true rfl, Nat.le_of_ble_eq_true rfl⟩ (Nat.le_of_ble_eq_true rfl) ⟨Nat.le_of_ble_eq_true rfl, Nat.le_of_ble_eq_true rfl⟩ dX12_readsCompared_38 (fun z17 u17 bz17 h17 => ?_)
        obtain ⟨bq17, hx17_0, hx17_1, hFc17⟩ := h17
        replace hF := calR_i hF hFc17
        replace hF := hF.fc bq17
        rw [ez9, ez10] at hx17_0
        refine x_bipush C.1 (n := 61) dX12_readsCompared_41 ?_
        refine x_icmp_ne C.1 (tgt := 51) dX12_readsCompared_43 (by decide) (by omega) (by decide) (fun hc18 => ?_) (fun hc18 => ?_)
        · replace hF := hF.to (if_pos hc18)
          refine x_iconst C.1 (n := -1) dX12_readsCompared_51 ?_
          refine x_istore_n C.1 (lv' := [(1, vI (-1)), (0, .ref (ad 0))]) dX12_readsCompared_52 (by decide) rfl ?_
          refine x_iload_n C.1 dX12_readsCompared_53 0 rfl ?_
          refine x_iconst C.1 (n := -1) dX12_readsCompared_54 ?_
          refine x_icmp_ne_f C.1 (tgt := 68) dX12_readsCompared_55 (by decide) (by decide) (by decide) (by decide) ?_
          refine x_aload_n C.1 dX12_readsCompared_58 1 rfl ?_
          refine x_iconst C.1 (n := 1) dX12_readsCompared_59 ?_
          refine x_aload_n C.1 dX12_readsCompared_60 1 rfl ?_
          refine x_getI C (N := 33) (i := 0) (by decide) rfl vc_X12 wx_X12 5 (by decide) wf_X12_144 rfl dX12_readsCompared_61 (a := z9) ez9 ?_
          refine x_callVi C (As := [vI 1, vI z9]) (rest := []) 0 (xw_at (N := 33) (i := 0) (by decide) rfl) vc_X12 (m_wrongAt l D cy ad G V5 J Rr hI5 hJ hR 1 ⟨by decide, by decide⟩ z9 ⟨by omega, by omega⟩) (l1 := []) (l2 := []) (List.append_nil _).symm (w2 := fun u : Nat → Nat → Int => MW cy ad u J Rr) (fun _ => List.append_nil _) rfl wm_yX12_wrongAt wn_X12 wl_X12_157 wi_yX12_wrongAt we_yX12_wrongAt hd_yX12_wrongAt rfl ⟨Nat.le_of_ble_eq_true rfl, Nat.le_of_ble_eq_true rfl⟩ (Nat.le_of_ble_eq_true rfl) ⟨Nat.le_of_ble_eq_true rfl, Nat.le_of_ble_eq_true rfl⟩ dX12_readsCompared_64 (fun z19 V19 bz19 h19 => ?_)
          obtain ⟨hI19, bq19, hx19_0, hBc19, hFc19⟩ := h19
          replace hF := calVM_i hF hFc19 hBc19
          replace hF := hF.fc bq19
          have hB19 := hB5.tr hBc19 (m := 128) rfl
          exact x_zret (S := (Nat → Nat → Int)) (post := (fun a (u : Nat → Nat → Int) => MI G u ∧ (0 ≤ a ∧ a ≤ 1) ∧ (Sp a (pQ f 0 1 V u ∧ V 0 5 < u 0 5)) ∧ FBm 1770887431076116959136 V u ∧ (f_m_readsCompared V J Rr) (a, u))) (w1 := (fun u : Nat → Nat → Int => MW cy ad u J Rr)) (a := z19) C hr rfl dX12_readsCompared_67 (by omega) V19 rfl ⟨hI19, ⟨by omega, by omega⟩, (Or.inl (by omega)), hB19, hF _ rfl⟩
        · replace hF := hF.to (if_neg (fun hh => hh hc18))
          refine x_bipush C.1 (n := 9) dX12_readsCompared_46 ?_
          refine x_goto C.1 (tgt := 52) dX12_readsCompared_48 (by decide) ?_
          refine x_istore_n C.1 (lv' := [(1, vI 9), (0, .ref (ad 0))]) dX12_readsCompared_52 (by decide) rfl ?_
          refine x_iload_n C.1 dX12_readsCompared_53 0 rfl ?_
          refine x_iconst C.1 (n := -1) dX12_readsCompared_54 ?_
          refine x_icmp_ne_t C.1 (tgt := 68) dX12_readsCompared_55 (by decide) (by decide) (by decide) (by decide) ?_
          refine x_aload_n C.1 dX12_readsCompared_68 1 rfl ?_
          refine x_aload_n C.1 dX12_readsCompared_69 1 rfl ?_
          refine x_getI C (N := 33) (i := 0) (by decide) rfl vc_X12 wx_X12 5 (by decide) wf_X12_144 rfl dX12_readsCompared_70 (a := z9) ez9 ?_
          refine x_iconst C.1 (n := 1) dX12_readsCompared_73 ?_
          refine x_iadd C.1 (v := z9 + 1) (by omega) dX12_readsCompared_74 ?_
          refine x_putI C (N := 33) (i := 0) (by decide) rfl vc_X12 wx_X12 5 (by decide) wf_X12_144 tyX12 tyX12_ok nmX12 rfl (tyX12_ok 5 (by decide)) rfl dX12_readsCompared_75 rfl rfl ?_
          refine x_gV ?_
          intro V20 hV20
          have hI20 : MI G V20 := hI5.up hV20 rfl (by omega) rfl (Or.inl (by decide))
          have hB20 := hB5.up hV20 rfl
          replace hF := hF.to (rdb_e (z := V20) hV20.symm)
          have hk : pQ f 1 1 V5 V20 := sgnC hq1.1 hq1.2.1 hq1.2.2.2 (by rw [ez9, ez10]; omega) (by rw [hV20, ez9])
          refine x_aload_n C.1 dX12_readsCompared_78 1 rfl ?_
          refine x_callVi C (As := []) (rest := []) 0 (xw_at (N := 33) (i := 0) (by decide) rfl) vc_X12 (m_readsSum l D cy ad G V20 J Rr hI20 hJ hR hk.2.1 hk.1.cp hk.1.tio) (l1 := []) (l2 := []) (List.append_nil _).symm (w2 := fun u : Nat → Nat → Int => MW cy ad u J Rr) (fun _ => List.append_nil _) rfl wm_yX12_readsSum wn_X12 wl_X12_207 wi_yX12_readsSum we_yX12_readsSum hd_yX12_readsSum rfl ⟨Nat.le_of_ble_eq_true rfl, Nat.le_of_ble_eq_true rfl⟩ (Nat.le_of_ble_eq_true rfl) ⟨Nat.le_of_ble_eq_true rfl, Nat.le_of_ble_eq_true rfl⟩ dX12_readsCompared_79 (fun z21 V21 bz21 h21 => ?_)
          obtain ⟨hI21, bq21, hx21_0, hBc21, hFc21⟩ := h21
          replace hF := calVM_i hF hFc21 hBc21
          replace hF := hF.fc bq21
          have hB21 := hB20.tr hBc21 (m := 1770887431076116959136) rfl
          refine x_if_ne C.1 (tgt := 87) dX12_readsCompared_82 (by decide) (by omega) (fun hc22 => ?_) (fun hc22 => ?_)
          · replace hF := hF.to (if_pos hc22)
            have hon23 := Sp.on hx21_0 (by omega)
            have hq3 : pQ f 1 2 V20 V21 := sumC hk.1 (by omega) hk.2.2.2 hon23
            obtain ⟨z24, ez24, bz24⟩ := hI21.rd 0 5 (x := 0) (y := 220) rfl
            replace hF := hF.to (rdb_e (z := z24) ez24)
            replace hF := hF.fc bz24
            obtain ⟨z25, ez25, bz25⟩ := hI21.rd 0 6 (x := 0) (y := 220) rfl
            replace hF := hF.to (rdb_e (z := z25) ez25)
            replace hF := hF.fc bz25
            obtain ⟨z26, ez26, bz26⟩ := hI21.rd 0 10 (x := 0) (y := 220) rfl
            replace hF := hF.to (rdb_e (z := z26) ez26)
            replace hF := hF.fc bz26
            obtain ⟨z27, ez27, bz27⟩ := hI21.rd 0 11 (x := 0) (y := 220) rfl
            replace hF := hF.to (rdb_e (z := z27) ez27)
            replace hF := hF.fc bz27
            have hc2t := hq3.1.c200 hq3.2.1
            rw [ez24, ez26, ez27] at hc2t
            have hpzt := hq3.2.1
            unfold PG at hpzt
            rw [ez24, ez25, ez26, ez27] at hpzt
            refine x_aload_n C.1 dX12_readsCompared_87 1 rfl ?_
            refine x_iload_n C.1 dX12_readsCompared_88 0 rfl ?_
            refine x_iconst C.1 (n := 0) dX12_readsCompared_89 ?_
            refine x_callVv C (As := [vI 9, vI 0]) (rest := []) 0 (xw_at (N := 33) (i := 0) (by decide) rfl) vc_X12 (m_notes l D cy ad G V21 J Rr hI21 hJ hR 9 ⟨by decide, by decide⟩ 0 ⟨by decide, by decide⟩ (by rw [ez26]; omega)) (l1 := []) (l2 := []) (List.append_nil _).symm (w2 := fun u : Nat → Nat → Int => MW cy ad u J Rr) (fun _ => List.append_nil _) rfl wm_yX12_notes wn_X12 wl_X12_180 wi_yX12_notes we_yX12_notes hd_yX12_notes rfl ⟨Nat.le_of_ble_eq_true rfl, Nat.le_of_ble_eq_true rfl⟩ (Nat.le_of_ble_eq_true rfl) ⟨Nat.le_of_ble_eq_true rfl, Nat.le_of_ble_eq_true rfl⟩ dX12_readsCompared_90 (fun V28 h28 => ?_)
            obtain ⟨hI28, hx28_0, hBc28, hFc28⟩ := h28
            replace hF := calUM_i hF hFc28 hBc28
            have hB28 := hB21.tr hBc28 (m := 590295810358705652736) rfl
            have hk4 : pQ f 0 1 V21 V28 := binC hq3.1 hq3.2.1 hq3.2.2.2 (by omega) hx28_0
            refine x_aload_n C.1 dX12_readsCompared_93 1 rfl ?_
            refine x_callVv C (As := []) (rest := []) 0 (xw_at (N := 33) (i := 0) (by decide) rfl) vc_X12 (m_endsPiece l D cy ad G V28 J Rr hI28 hJ hR f 0 hk4.1 hk4.2.1 hk4.2.2.2) (l1 := []) (l2 := []) (List.append_nil _).symm (w2 := fun u : Nat → Nat → Int => MW cy ad u J Rr) (fun _ => List.append_nil _) rfl wm_yX12_endsPiece wn_X12 wl_X12_210 wi_yX12_endsPiece we_yX12_endsPiece hd_yX12_endsPiece rfl ⟨Nat.le_of_ble_eq_true rfl, Nat.le_of_ble_eq_true rfl⟩ (Nat.le_of_ble_eq_true rfl) ⟨Nat.le_of_ble_eq_true rfl, Nat.le_of_ble_eq_true rfl⟩ dX12_readsCompared_94 (fun V29 h29 => ?_)
            obtain ⟨hI29, hx29_0, hBc29, hFc29⟩ := h29
            replace hF := calUM_i hF hFc29 hBc29
            have hB29 := hB28.tr hBc29 (m := 590295810358705655296) rfl
            refine x_iconst C.1 (n := 1) dX12_readsCompared_97 ?_
            exact x_zret (S := (Nat → Nat → Int)) (post := (fun a (u : Nat → Nat → Int) => MI G u ∧ (0 ≤ a ∧ a ≤ 1) ∧ (Sp a (pQ f 0 1 V u ∧ V 0 5 < u 0 5)) ∧ FBm 1770887431076116959136 V u ∧ (f_m_readsCompared V J Rr) (a, u))) (w1 := (fun u : Nat → Nat → Int => MW cy ad u J Rr)) (a := 1) C hr rfl dX12_readsCompared_98 (by decide) V29 rfl ⟨hI29, ⟨by decide, by decide⟩, (Or.inr ⟨rfl, pQ.tr (((hq1.2.2.1.tr hk.2.2.1).tr hq3.2.2.1).tr hk4.2.2.1) hx29_0.1, Int.lt_of_lt_of_le hon7.2.2.2.2.2.2 (((hk.2.2.1.tr hq3.2.2.1).tr hk4.2.2.1).tr hx29_0.1.2.2.1).2.2.2.2⟩), hB29, hF _ rfl⟩
          · replace hF := hF.to (if_neg (fun hh => hh hc22))
            refine x_iconst C.1 (n := 0) dX12_readsCompared_85 ?_
            exact x_zret (S := (Nat → Nat → Int)) (post := (fun a (u : Nat → Nat → Int) => MI G u ∧ (0 ≤ a ∧ a ≤ 1) ∧ (Sp a (pQ f 0 1 V u ∧ V 0 5 < u 0 5)) ∧ FBm 1770887431076116959136 V u ∧ (f_m_readsCompared V J Rr) (a, u))) (w1 := (fun u : Nat → Nat → Int => MW cy ad u J Rr)) (a := 0) C hr rfl dX12_readsCompared_86 (by decide) V21 rfl ⟨hI21, ⟨by decide, by decide⟩, (Or.inl rfl), hB21, hF _ rfl⟩
      · replace hF := hF.to (if_neg (fun hh => hh hc16))
        refine x_bipush C.1 (n := 8) dX12_readsCompared_32 ?_
        refine x_goto C.1 (tgt := 52) dX12_readsCompared_34 (by decide) ?_
        refine x_istore_n C.1 (lv' := [(1, vI 8), (0, .ref (ad 0))]) dX12_readsCompared_52 (by decide) rfl ?_
        refine x_iload_n C.1 dX12_readsCompared_53 0 rfl ?_
        refine x_iconst C.1 (n := -1) dX12_readsCompared_54 ?_
        refine x_icmp_ne_t C.1 (tgt := 68) dX12_readsCompared_55 (by decide) (by decide) (by decide) (by decide) ?_
        refine x_aload_n C.1 dX12_readsCompared_68 1 rfl ?_
        refine x_aload_n C.1 dX12_readsCompared_69 1 rfl ?_
        refine x_getI C (N := 33) (i := 0) (by decide) rfl vc_X12 wx_X12 5 (by decide) wf_X12_144 rfl dX12_readsCompared_70 (a := z9) ez9 ?_
        refine x_iconst C.1 (n := 1) dX12_readsCompared_73 ?_
        refine x_iadd C.1 (v := z9 + 1) (by omega) dX12_readsCompared_74 ?_
        refine x_putI C (N := 33) (i := 0) (by decide) rfl vc_X12 wx_X12 5 (by decide) wf_X12_144 tyX12 tyX12_ok nmX12 rfl (tyX12_ok 5 (by decide)) rfl dX12_readsCompared_75 rfl rfl ?_
        refine x_gV ?_
        intro V30 hV30
        have hI30 : MI G V30 := hI5.up hV30 rfl (by omega) rfl (Or.inl (by decide))
        have hB30 := hB5.up hV30 rfl
        replace hF := hF.to (rdb_e (z := V30) hV30.symm)
        have hk : pQ f 1 1 V5 V30 := sgnC hq1.1 hq1.2.1 hq1.2.2.2 (by rw [ez9, ez10]; omega) (by rw [hV30, ez9])
        refine x_aload_n C.1 dX12_readsCompared_78 1 rfl ?_
        refine x_callVi C (As := []) (rest := []) 0 (xw_at (N := 33) (i := 0) (by decide) rfl) vc_X12 (m_readsSum l D cy ad G V30 J Rr hI30 hJ hR hk.2.1 hk.1.cp hk.1.tio) (l1 := []) (l2 := []) (List.append_nil _).symm (w2 := fun u : Nat → Nat → Int => MW cy ad u J Rr) (fun _ => List.append_nil _) rfl wm_yX12_readsSum wn_X12 wl_X12_207 wi_yX12_readsSum we_yX12_readsSum hd_yX12_readsSum rfl ⟨Nat.le_of_ble_eq_true rfl, Nat.le_of_ble_eq_true rfl⟩ (Nat.le_of_ble_eq_true rfl) ⟨Nat.le_of_ble_eq_true rfl, Nat.le_of_ble_eq_true rfl⟩ dX12_readsCompared_79 (fun z31 V31 bz31 h31 => ?_)
        obtain ⟨hI31, bq31, hx31_0, hBc31, hFc31⟩ := h31
        replace hF := calVM_i hF hFc31 hBc31
        replace hF := hF.fc bq31
        have hB31 := hB30.tr hBc31 (m := 1770887431076116959136) rfl
        refine x_if_ne C.1 (tgt := 87) dX12_readsCompared_82 (by decide) (by omega) (fun hc32 => ?_) (fun hc32 => ?_)
        · replace hF := hF.to (if_pos hc32)
          have hon33 := Sp.on hx31_0 (by omega)
          have hq3 : pQ f 1 2 V30 V31 := sumC hk.1 (by omega) hk.2.2.2 hon33
          obtain ⟨z34, ez34, bz34⟩ := hI31.rd 0 5 (x := 0) (y := 220) rfl
          replace hF := hF.to (rdb_e (z := z34) ez34)
          replace hF := hF.fc bz34
          obtain ⟨z35, ez35, bz35⟩ := hI31.rd 0 6 (x := 0) (y := 220) rfl
          replace hF := hF.to (rdb_e (z := z35) ez35)
          replace hF := hF.fc bz35
          obtain ⟨z36, ez36, bz36⟩ := hI31.rd 0 10 (x := 0) (y := 220) rfl
          replace hF := hF.to (rdb_e (z := z36) ez36)
          replace hF := hF.fc bz36
          obtain ⟨z37, ez37, bz37⟩ := hI31.rd 0 11 (x := 0) (y := 220) rfl
          replace hF := hF.to (rdb_e (z := z37) ez37)
          replace hF := hF.fc bz37
          have hc2t := hq3.1.c200 hq3.2.1
          rw [ez34, ez36, ez37] at hc2t
          have hpzt := hq3.2.1
          unfold PG at hpzt
          rw [ez34, ez35, ez36, ez37] at hpzt
          refine x_aload_n C.1 dX12_readsCompared_87 1 rfl ?_
          refine x_iload_n C.1 dX12_readsCompared_88 0 rfl ?_
          refine x_iconst C.1 (n := 0) dX12_readsCompared_89 ?_
          refine x_callVv C (As := [vI 8, vI 0]) (rest := []) 0 (xw_at (N := 33) (i := 0) (by decide) rfl) vc_X12 (m_notes l D cy ad G V31 J Rr hI31 hJ hR 8 ⟨by decide, by decide⟩ 0 ⟨by decide, by decide⟩ (by rw [ez36]; omega)) (l1 := []) (l2 := []) (List.append_nil _).symm (w2 := fun u : Nat → Nat → Int => MW cy ad u J Rr) (fun _ => List.append_nil _) rfl wm_yX12_notes wn_X12 wl_X12_180 wi_yX12_notes we_yX12_notes hd_yX12_notes rfl ⟨Nat.le_of_ble_eq_true rfl, Nat.le_of_ble_eq_true rfl⟩ (Nat.le_of_ble_eq_true rfl) ⟨Nat.le_of_ble_eq_true rfl, Nat.le_of_ble_eq_true rfl⟩ dX12_readsCompared_90 (fun V38 h38 => ?_)
          obtain ⟨hI38, hx38_0, hBc38, hFc38⟩ := h38
          replace hF := calUM_i hF hFc38 hBc38
          have hB38 := hB31.tr hBc38 (m := 590295810358705652736) rfl
          have hk4 : pQ f 0 1 V31 V38 := binC hq3.1 hq3.2.1 hq3.2.2.2 (by omega) hx38_0
          refine x_aload_n C.1 dX12_readsCompared_93 1 rfl ?_
          refine x_callVv C (As := []) (rest := []) 0 (xw_at (N := 33) (i := 0) (by decide) rfl) vc_X12 (m_endsPiece l D cy ad G V38 J Rr hI38 hJ hR f 0 hk4.1 hk4.2.1 hk4.2.2.2) (l1 := []) (l2 := []) (List.append_nil _).symm (w2 := fun u : Nat → Nat → Int => MW cy ad u J Rr) (fun _ => List.append_nil _) rfl wm_yX12_endsPiece wn_X12 wl_X12_210 wi_yX12_endsPiece we_yX12_endsPiece hd_yX12_endsPiece rfl ⟨Nat.le_of_ble_eq_true rfl, Nat.le_of_ble_eq_true rfl⟩ (Nat.le_of_ble_eq_true rfl) ⟨Nat.le_of_ble_eq_true rfl, Nat.le_of_ble_eq_true rfl⟩ dX12_readsCompared_94 (fun V39 h39 => ?_)
          obtain ⟨hI39, hx39_0, hBc39, hFc39⟩ := h39
          replace hF := calUM_i hF hFc39 hBc39
          have hB39 := hB38.tr hBc39 (m := 590295810358705655296) rfl
          refine x_iconst C.1 (n := 1) dX12_readsCompared_97 ?_
          exact x_zret (S := (Nat → Nat → Int)) (post := (fun a (u : Nat → Nat → Int) => MI G u ∧ (0 ≤ a ∧ a ≤ 1) ∧ (Sp a (pQ f 0 1 V u ∧ V 0 5 < u 0 5)) ∧ FBm 1770887431076116959136 V u ∧ (f_m_readsCompared V J Rr) (a, u))) (w1 := (fun u : Nat → Nat → Int => MW cy ad u J Rr)) (a := 1) C hr rfl dX12_readsCompared_98 (by decide) V39 rfl ⟨hI39, ⟨by decide, by decide⟩, (Or.inr ⟨rfl, pQ.tr (((hq1.2.2.1.tr hk.2.2.1).tr hq3.2.2.1).tr hk4.2.2.1) hx39_0.1, Int.lt_of_lt_of_le hon7.2.2.2.2.2.2 (((hk.2.2.1.tr hq3.2.2.1).tr hk4.2.2.1).tr hx39_0.1.2.2.1).2.2.2.2⟩), hB39, hF _ rfl⟩
        · replace hF := hF.to (if_neg (fun hh => hh hc32))
          refine x_iconst C.1 (n := 0) dX12_readsCompared_85 ?_
          exact x_zret (S := (Nat → Nat → Int)) (post := (fun a (u : Nat → Nat → Int) => MI G u ∧ (0 ≤ a ∧ a ≤ 1) ∧ (Sp a (pQ f 0 1 V u ∧ V 0 5 < u 0 5)) ∧ FBm 1770887431076116959136 V u ∧ (f_m_readsCompared V J Rr) (a, u))) (w1 := (fun u : Nat → Nat → Int => MW cy ad u J Rr)) (a := 0) C hr rfl dX12_readsCompared_86 (by decide) V31 rfl ⟨hI31, ⟨by decide, by decide⟩, (Or.inl rfl), hB31, hF _ rfl⟩
    · replace hF := hF.to (if_neg (fun hh => hh hc14))
      refine x_bipush C.1 (n := 7) dX12_readsCompared_18 ?_
      refine x_goto C.1 (tgt := 52) dX12_readsCompared_20 (by decide) ?_
      refine x_istore_n C.1 (lv' := [(1, vI 7), (0, .ref (ad 0))]) dX12_readsCompared_52 (by decide) rfl ?_
      refine x_iload_n C.1 dX12_readsCompared_53 0 rfl ?_
      refine x_iconst C.1 (n := -1) dX12_readsCompared_54 ?_
      refine x_icmp_ne_t C.1 (tgt := 68) dX12_readsCompared_55 (by decide) (by decide) (by decide) (by decide) ?_
      refine x_aload_n C.1 dX12_readsCompared_68 1 rfl ?_
      refine x_aload_n C.1 dX12_readsCompared_69 1 rfl ?_
      refine x_getI C (N := 33) (i := 0) (by decide) rfl vc_X12 wx_X12 5 (by decide) wf_X12_144 rfl dX12_readsCompared_70 (a := z9) ez9 ?_
      refine x_iconst C.1 (n := 1) dX12_readsCompared_73 ?_
      refine x_iadd C.1 (v := z9 + 1) (by omega) dX12_readsCompared_74 ?_
      refine x_putI C (N := 33) (i := 0) (by decide) rfl vc_X12 wx_X12 5 (by decide) wf_X12_144 tyX12 tyX12_ok nmX12 rfl (tyX12_ok 5 (by decide)) rfl dX12_readsCompared_75 rfl rfl ?_
      refine x_gV ?_
      intro V40 hV40
      have hI40 : MI G V40 := hI5.up hV40 rfl (by omega) rfl (Or.inl (by decide))
      have hB40 := hB5.up hV40 rfl
      replace hF := hF.to (rdb_e (z := V40) hV40.symm)
      have hk : pQ f 1 1 V5 V40 := sgnC hq1.1 hq1.2.1 hq1.2.2.2 (by rw [ez9, ez10]; omega) (by rw [hV40, ez9])
      refine x_aload_n C.1 dX12_readsCompared_78 1 rfl ?_
      refine x_callVi C (As := []) (rest := []) 0 (xw_at (N := 33) (i := 0) (by decide) rfl) vc_X12 (m_readsSum l D cy ad G V40 J Rr hI40 hJ hR hk.2.1 hk.1.cp hk.1.tio) (l1 := []) (l2 := []) (List.append_nil _).symm (w2 := fun u : Nat → Nat → Int => MW cy ad u J Rr) (fun _ => List.append_nil _) rfl wm_yX12_readsSum wn_X12 wl_X12_207 wi_yX12_readsSum we_yX12_readsSum hd_yX12_readsSum rfl ⟨Nat.le_of_ble_eq_true rfl, Nat.le_of_ble_eq_true rfl⟩ (Nat.le_of_ble_eq_true rfl) ⟨Nat.le_of_ble_eq_true rfl, Nat.le_of_ble_eq_true rfl⟩ dX12_readsCompared_79 (fun z41 V41 bz41 h41 => ?_)
      obtain ⟨hI41, bq41, hx41_0, hBc41, hFc41⟩ := h41
      replace hF := calVM_i hF hFc41 hBc41
      replace hF := hF.fc bq41
      have hB41 := hB40.tr hBc41 (m := 1770887431076116959136) rfl
      refine x_if_ne C.1 (tgt := 87) dX12_readsCompared_82 (by decide) (by omega) (fun hc42 => ?_) (fun hc42 => ?_)
      · replace hF := hF.to (if_pos hc42)
        have hon43 := Sp.on hx41_0 (by omega)
        have hq3 : pQ f 1 2 V40 V41 := sumC hk.1 (by omega) hk.2.2.2 hon43
        obtain ⟨z44, ez44, bz44⟩ := hI41.rd 0 5 (x := 0) (y := 220) rfl
        replace hF := hF.to (rdb_e (z := z44) ez44)
        replace hF := hF.fc bz44
        obtain ⟨z45, ez45, bz45⟩ := hI41.rd 0 6 (x := 0) (y := 220) rfl
        replace hF := hF.to (rdb_e (z := z45) ez45)
        replace hF := hF.fc bz45
        obtain ⟨z46, ez46, bz46⟩ := hI41.rd 0 10 (x := 0) (y := 220) rfl
        replace hF := hF.to (rdb_e (z := z46) ez46)
        replace hF := hF.fc bz46
        obtain ⟨z47, ez47, bz47⟩ := hI41.rd 0 11 (x := 0) (y := 220) rfl
        replace hF := hF.to (rdb_e (z := z47) ez47)
        replace hF := hF.fc bz47
        have hc2t := hq3.1.c200 hq3.2.1
        rw [ez44, ez46, ez47] at hc2t
        have hpzt := hq3.2.1
        unfold PG at hpzt
        rw [ez44, ez45, ez46, ez47] at hpzt
        refine x_aload_n C.1 dX12_readsCompared_87 1 rfl ?_
        refine x_iload_n C.1 dX12_readsCompared_88 0 rfl ?_
        refine x_iconst C.1 (n := 0) dX12_readsCompared_89 ?_
        refine x_callVv C (As := [vI 7, vI 0]) (rest := []) 0 (xw_at (N := 33) (i := 0) (by decide) rfl) vc_X12 (m_notes l D cy ad G V41 J Rr hI41 hJ hR 7 ⟨by decide, by decide⟩ 0 ⟨by decide, by decide⟩ (by rw [ez46]; omega)) (l1 := []) (l2 := []) (List.append_nil _).symm (w2 := fun u : Nat → Nat → Int => MW cy ad u J Rr) (fun _ => List.append_nil _) rfl wm_yX12_notes wn_X12 wl_X12_180 wi_yX12_notes we_yX12_notes hd_yX12_notes rfl ⟨Nat.le_of_ble_eq_true rfl, Nat.le_of_ble_eq_true rfl⟩ (Nat.le_of_ble_eq_true rfl) ⟨Nat.le_of_ble_eq_true rfl, Nat.le_of_ble_eq_true rfl⟩ dX12_readsCompared_90 (fun V48 h48 => ?_)
        obtain ⟨hI48, hx48_0, hBc48, hFc48⟩ := h48
        replace hF := calUM_i hF hFc48 hBc48
        have hB48 := hB41.tr hBc48 (m := 590295810358705652736) rfl
        have hk4 : pQ f 0 1 V41 V48 := binC hq3.1 hq3.2.1 hq3.2.2.2 (by omega) hx48_0
        refine x_aload_n C.1 dX12_readsCompared_93 1 rfl ?_
        refine x_callVv C (As := []) (rest := []) 0 (xw_at (N := 33) (i := 0) (by decide) rfl) vc_X12 (m_endsPiece l D cy ad G V48 J Rr hI48 hJ hR f 0 hk4.1 hk4.2.1 hk4.2.2.2) (l1 := []) (l2 := []) (List.append_nil _).symm (w2 := fun u : Nat → Nat → Int => MW cy ad u J Rr) (fun _ => List.append_nil _) rfl wm_yX12_endsPiece wn_X12 wl_X12_210 wi_yX12_endsPiece we_yX12_endsPiece hd_yX12_endsPiece rfl ⟨Nat.le_of_ble_eq_true rfl, Nat.le_of_ble_eq_true rfl⟩ (Nat.le_of_ble_eq_true rfl) ⟨Nat.le_of_ble_eq_true rfl, Nat.le_of_ble_eq_true rfl⟩ dX12_readsCompared_94 (fun V49 h49 => ?_)
        obtain ⟨hI49, hx49_0, hBc49, hFc49⟩ := h49
        replace hF := calUM_i hF hFc49 hBc49
        have hB49 := hB48.tr hBc49 (m := 590295810358705655296) rfl
        refine x_iconst C.1 (n := 1) dX12_readsCompared_97 ?_
        exact x_zret (S := (Nat → Nat → Int)) (post := (fun a (u : Nat → Nat → Int) => MI G u ∧ (0 ≤ a ∧ a ≤ 1) ∧ (Sp a (pQ f 0 1 V u ∧ V 0 5 < u 0 5)) ∧ FBm 1770887431076116959136 V u ∧ (f_m_readsCompared V J Rr) (a, u))) (w1 := (fun u : Nat → Nat → Int => MW cy ad u J Rr)) (a := 1) C hr rfl dX12_readsCompared_98 (by decide) V49 rfl ⟨hI49, ⟨by decide, by decide⟩, (Or.inr ⟨rfl, pQ.tr (((hq1.2.2.1.tr hk.2.2.1).tr hq3.2.2.1).tr hk4.2.2.1) hx49_0.1, Int.lt_of_lt_of_le hon7.2.2.2.2.2.2 (((hk.2.2.1.tr hq3.2.2.1).tr hk4.2.2.1).tr hx49_0.1.2.2.1).2.2.2.2⟩), hB49, hF _ rfl⟩
      · replace hF := hF.to (if_neg (fun hh => hh hc42))
        refine x_iconst C.1 (n := 0) dX12_readsCompared_85 ?_
        exact x_zret (S := (Nat → Nat → Int)) (post := (fun a (u : Nat → Nat → Int) => MI G u ∧ (0 ≤ a ∧ a ≤ 1) ∧ (Sp a (pQ f 0 1 V u ∧ V 0 5 < u 0 5)) ∧ FBm 1770887431076116959136 V u ∧ (f_m_readsCompared V J Rr) (a, u))) (w1 := (fun u : Nat → Nat → Int => MW cy ad u J Rr)) (a := 0) C hr rfl dX12_readsCompared_86 (by decide) V41 rfl ⟨hI41, ⟨by decide, by decide⟩, (Or.inl rfl), hB41, hF _ rfl⟩
  · replace hF := hF.to (if_neg (fun hh => hh hc6))
    refine x_iconst C.1 (n := 0) dX12_readsCompared_7 ?_
    exact x_zret (S := (Nat → Nat → Int)) (post := (fun a (u : Nat → Nat → Int) => MI G u ∧ (0 ≤ a ∧ a ≤ 1) ∧ (Sp a (pQ f 0 1 V u ∧ V 0 5 < u 0 5)) ∧ FBm 1770887431076116959136 V u ∧ (f_m_readsCompared V J Rr) (a, u))) (w1 := (fun u : Nat → Nat → Int => MW cy ad u J Rr)) (a := 0) C hr rfl dX12_readsCompared_8 (by decide) V5 rfl ⟨hI5, ⟨by decide, by decide⟩, (Or.inl rfl), hB5, hF _ rfl⟩
