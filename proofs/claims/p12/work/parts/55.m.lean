theorem hd_yX12_wrongAt : yX12_wrongAt.cls ≠ "java/lang/invoke/MethodHandle" ∧ yX12_wrongAt.cls ≠ "java/lang/invoke/VarHandle" ∧ (parseMethodDescriptor yX12_wrongAt.desc).map (fun d => d.parameters.length) = some 2 := by decide +kernel
theorem dX12_takes_0 : decode cX12_takes 0 = .ok (.aload_n 0, 1) := by decide +kernel
theorem dX12_takes_1 : decode cX12_takes 1 = .ok (.invokevirtual 150, 3) := by decide +kernel
theorem dX12_takes_4 : decode cX12_takes 4 = .ok (.iload_n 1, 1) := by decide +kernel
theorem dX12_takes_5 : decode cX12_takes 5 = .ok (.if_icmp .eq 13, 3) := by decide +kernel
theorem dX12_takes_8 : decode cX12_takes 8 = .ok (.aload_n 0, 1) := by decide +kernel
theorem dX12_takes_9 : decode cX12_takes 9 = .ok (.iconst 1, 1) := by decide +kernel
theorem dX12_takes_10 : decode cX12_takes 10 = .ok (.aload_n 0, 1) := by decide +kernel
theorem dX12_takes_11 : decode cX12_takes 11 = .ok (.getfield 144, 3) := by decide +kernel
theorem dX12_takes_14 : decode cX12_takes 14 = .ok (.invokevirtual 157, 3) := by decide +kernel
theorem dX12_takes_17 : decode cX12_takes 17 = .ok (.ireturn, 1) := by decide +kernel
theorem dX12_takes_18 : decode cX12_takes 18 = .ok (.aload_n 0, 1) := by decide +kernel
theorem dX12_takes_19 : decode cX12_takes 19 = .ok (.aload_n 0, 1) := by decide +kernel
theorem dX12_takes_20 : decode cX12_takes 20 = .ok (.getfield 144, 3) := by decide +kernel
theorem dX12_takes_23 : decode cX12_takes 23 = .ok (.iconst 1, 1) := by decide +kernel
theorem dX12_takes_24 : decode cX12_takes 24 = .ok (.iadd, 1) := by decide +kernel
theorem dX12_takes_25 : decode cX12_takes 25 = .ok (.putfield 144, 3) := by decide +kernel
theorem dX12_takes_28 : decode cX12_takes 28 = .ok (.iconst 1, 1) := by decide +kernel
theorem dX12_takes_29 : decode cX12_takes 29 = .ok (.ireturn, 1) := by decide +kernel
set_option maxRecDepth 100000 in
def f_m_takes (x1 : Int) (V : Nat → Nat → Int) (J : Nat → Nat → Int) (Rr : Nat → Nat → Nat) : (Int × (Nat → Nat → Int)) → Prop :=
  rdb (V 0 5) fun z1 => fct (0 ≤ z1 ∧ z1 ≤ 220) <| rdb (V 0 6) fun z2 => fct (0 ≤ z2 ∧ z2 ≤ 220) <| calR (f_m_here V J Rr) fun z3 => fct (-1 ≤ z3 ∧ z3 ≤ 255) <| (if z3 = x1 then rdb (up2 V 0 5 (z1 + 1)) fun V5 => rtn (1, V5) else calVM 128 V (f_m_wrongAt 1 z1 V J Rr) fun z6 V6 => fct (0 ≤ z6 ∧ z6 ≤ 0) <| rtn (z6, V6))
set_option maxHeartbeats 8000000 in
set_option maxRecDepth 100000 in
theorem m_takes (l : Launch) (D : va_G) (cy : Nat → ClassId) (ad : Nat → Nat) (G : Nat → Nat → Int) (V J : Nat → Nat → Int) (Rr : Nat → Nat → Nat) (hI : MI G V) (hJ : VJ J) (hR : MR Rr) (x1 : Int) (bx1 : 0 ≤ x1 ∧ x1 ≤ 65535) : xMi l D (xTY cy) yX12_takes cX12_takes 2 (some .boolean) 1 22 0 0 [.ref (ad 0), vI x1] (MW cy ad V J Rr) (fun u : Nat → Nat → Int => MW cy ad u J Rr) (fun a (u : Nat → Nat → Int) => MI G u ∧ (0 ≤ a ∧ a ≤ 1) ∧ Sp a (u 0 5 = V 0 5 + 1) ∧ V 0 5 ≤ u 0 5 ∧ (∀ i k : Nat, (i ≠ 0 ∨ (k ≠ 5 ∧ k ≠ 7)) → u i k = V i k) ∧ FBm 160 V u ∧ (f_m_takes x1 V J Rr) (a, u)) := by
  refine xMi.mk (lv0 := [(0, .ref (ad 0)), (1, vI x1)]) (by decide) rfl (Nat.le_of_ble_eq_true rfl) (fun p e s m below meth c A C hr hnm hAe => ?_)
  have C : xC2 p s m _ meth c D A s.heap 2 cX12_takes RX12 (xTY cy) := C
  have hB : FBm 160 V V := FBm.rf _ _
  have hF := Imp.of_eq (f_m_takes.eq_def x1 V J Rr)
  obtain ⟨z1, ez1, bz1⟩ := hI.rd 0 5 (x := 0) (y := 220) rfl
  replace hF := hF.to (rdb_e (z := z1) ez1)
  replace hF := hF.fc bz1
  obtain ⟨z2, ez2, bz2⟩ := hI.rd 0 6 (x := 0) (y := 220) rfl
  replace hF := hF.to (rdb_e (z := z2) ez2)
  replace hF := hF.fc bz2
  refine x_aload_n C.1 dX12_takes_0 0 rfl ?_
  refine x_callVi C (As := []) (rest := []) 0 (xw_at (N := 33) (i := 0) (by decide) rfl) vc_X12 (m_here l D cy ad G V J Rr hI hJ hR ) (l1 := []) (l2 := []) (List.append_nil _).symm (w2 := fun _ => MW cy ad V J Rr) (fun _ => List.append_nil _) rfl wm_yX12_here wn_X12 wl_X12_150 wi_yX12_here we_yX12_here hd_yX12_here rfl ⟨Nat.le_of_ble_eq_true rfl, Nat.le_of_ble_eq_true rfl⟩ (Nat.le_of_ble_eq_true rfl) ⟨Nat.le_of_ble_eq_true rfl, Nat.le_of_ble_eq_true rfl⟩ dX12_takes_1 (fun z3 u3 bz3 h3 => ?_)
  obtain ⟨bq3, hx3_0, hx3_1, hFc3⟩ := h3
  replace hF := calR_i hF hFc3
  replace hF := hF.fc bq3
  rw [ez1, ez2] at hx3_0
  refine x_iload_n C.1 dX12_takes_4 1 rfl ?_
  refine x_icmp_eq C.1 (tgt := 18) dX12_takes_5 (by decide) (by omega) (by omega) (fun hc4 => ?_) (fun hc4 => ?_)
  · replace hF := hF.to (if_pos hc4)
    refine x_aload_n C.1 dX12_takes_18 0 rfl ?_
    refine x_aload_n C.1 dX12_takes_19 0 rfl ?_
    refine x_getI C (N := 33) (i := 0) (by decide) rfl vc_X12 wx_X12 5 (by decide) wf_X12_144 rfl dX12_takes_20 (a := z1) ez1 ?_
    refine x_iconst C.1 (n := 1) dX12_takes_23 ?_
    refine x_iadd C.1 (v := z1 + 1) (by omega) dX12_takes_24 ?_
    refine x_putI C (N := 33) (i := 0) (by decide) rfl vc_X12 wx_X12 5 (by decide) wf_X12_144 tyX12 tyX12_ok nmX12 rfl (tyX12_ok 5 (by decide)) rfl dX12_takes_25 rfl rfl ?_
    refine x_gV ?_
    intro V5 hV5
    have hI5 : MI G V5 := hI.up hV5 rfl (by omega) rfl (Or.inl (by decide))
    have hB5 := hB.up hV5 rfl
    replace hF := hF.to (rdb_e (z := V5) hV5.symm)
    refine x_iconst C.1 (n := 1) dX12_takes_28 ?_
    exact x_zret (S := (Nat → Nat → Int)) (post := (fun a (u : Nat → Nat → Int) => MI G u ∧ (0 ≤ a ∧ a ≤ 1) ∧ Sp a (u 0 5 = V 0 5 + 1) ∧ V 0 5 ≤ u 0 5 ∧ (∀ i k : Nat, (i ≠ 0 ∨ (k ≠ 5 ∧ k ≠ 7)) → u i k = V i k) ∧ FBm 160 V u ∧ (f_m_takes x1 V J Rr) (a, u))) (w1 := (fun u : Nat → Nat → Int => MW cy ad u J Rr)) (a := 1) C hr rfl dX12_takes_29 (by decide) V5 rfl ⟨hI5, ⟨by decide, by decide⟩, (Or.inr ⟨rfl, by rw [((congrFun (congrFun hV5 0) 5).trans (up2_s _ _ _ _))]; omega⟩), (by rw [((congrFun (congrFun hV5 0) 5).trans (up2_s _ _ _ _))]; omega), (fun i k h => (congrFun (congrFun hV5 i) k).trans (up2_n _ _ (by omega))), hB5, hF _ rfl⟩
  · replace hF := hF.to (if_neg hc4)
    refine x_aload_n C.1 dX12_takes_8 0 rfl ?_
    refine x_iconst C.1 (n := 1) dX12_takes_9 ?_
    refine x_aload_n C.1 dX12_takes_10 0 rfl ?_
    refine x_getI C (N := 33) (i := 0) (by decide) rfl vc_X12 wx_X12 5 (by decide) wf_X12_144 rfl dX12_takes_11 (a := z1) ez1 ?_
    refine x_callVi C (As := [vI 1, vI z1]) (rest := []) 0 (xw_at (N := 33) (i := 0) (by decide) rfl) vc_X12 (m_wrongAt l D cy ad G V J Rr hI hJ hR 1 ⟨by decide, by decide⟩ z1 ⟨by omega, by omega⟩) (l1 := []) (l2 := []) (List.append_nil _).symm (w2 := fun u : Nat → Nat → Int => MW cy ad u J Rr) (fun _ => List.append_nil _) rfl wm_yX12_wrongAt wn_X12 wl_X12_157 wi_yX12_wrongAt we_yX12_wrongAt hd_yX12_wrongAt rfl ⟨Nat.le_of_ble_eq_true rfl, Nat.le_of_ble_eq_true rfl⟩ (Nat.le_of_ble_eq_true rfl) ⟨Nat.le_of_ble_eq_true rfl, Nat.le_of_ble_eq_true rfl⟩ dX12_takes_14 (fun z6 V6 bz6 h6 => ?_)
    obtain ⟨hI6, bq6, hx6_0, hBc6, hFc6⟩ := h6
    replace hF := calVM_i hF hFc6 hBc6
    replace hF := hF.fc bq6
    have hB6 := hB.tr hBc6 (m := 128) rfl
    exact x_zret (S := (Nat → Nat → Int)) (post := (fun a (u : Nat → Nat → Int) => MI G u ∧ (0 ≤ a ∧ a ≤ 1) ∧ Sp a (u 0 5 = V 0 5 + 1) ∧ V 0 5 ≤ u 0 5 ∧ (∀ i k : Nat, (i ≠ 0 ∨ (k ≠ 5 ∧ k ≠ 7)) → u i k = V i k) ∧ FBm 160 V u ∧ (f_m_takes x1 V J Rr) (a, u))) (w1 := (fun u : Nat → Nat → Int => MW cy ad u J Rr)) (a := z6) C hr rfl dX12_takes_17 (by omega) V6 rfl ⟨hI6, ⟨by omega, by omega⟩, (Or.inl (by omega)), (by rw [((hx6_0 (0) (5) (Or.inr (by decide))).trans ez1)]; omega), (fun i k h => hx6_0 i k (by omega)), hB6, hF _ rfl⟩
theorem hd_yX12_isDayAt : yX12_isDayAt.cls ≠ "java/lang/invoke/MethodHandle" ∧ yX12_isDayAt.cls ≠ "java/lang/invoke/VarHandle" ∧ (parseMethodDescriptor yX12_isDayAt.desc).map (fun d => d.parameters.length) = some 1 := by decide +kernel
theorem dX12_readsWeek_0 : decode cX12_readsWeek 0 = .ok (.iconst 0, 1) := by decide +kernel
theorem dX12_readsWeek_1 : decode cX12_readsWeek 1 = .ok (.istore_n 1, 1) := by decide +kernel
theorem dX12_readsWeek_2 : decode cX12_readsWeek 2 = .ok (.aload_n 0, 1) := by decide +kernel
theorem dX12_readsWeek_3 : decode cX12_readsWeek 3 = .ok (.invokevirtual 150, 3) := by decide +kernel
theorem dX12_readsWeek_6 : decode cX12_readsWeek 6 = .ok (.invokestatic 386, 3) := by decide +kernel
theorem dX12_readsWeek_9 : decode cX12_readsWeek 9 = .ok (.ifCond .eq 22, 3) := by decide +kernel
theorem dX12_readsWeek_12 : decode cX12_readsWeek 12 = .ok (.aload_n 0, 1) := by decide +kernel
theorem dX12_readsWeek_13 : decode cX12_readsWeek 13 = .ok (.getfield 389, 3) := by decide +kernel
theorem dX12_readsWeek_16 : decode cX12_readsWeek 16 = .ok (.bipush 12, 2) := by decide +kernel
theorem dX12_readsWeek_18 : decode cX12_readsWeek 18 = .ok (.if_icmp .ne 13, 3) := by decide +kernel
theorem dX12_readsWeek_21 : decode cX12_readsWeek 21 = .ok (.aload_n 0, 1) := by decide +kernel
theorem dX12_readsWeek_22 : decode cX12_readsWeek 22 = .ok (.iconst 4, 1) := by decide +kernel
theorem dX12_readsWeek_23 : decode cX12_readsWeek 23 = .ok (.aload_n 0, 1) := by decide +kernel
theorem dX12_readsWeek_24 : decode cX12_readsWeek 24 = .ok (.getfield 144, 3) := by decide +kernel
theorem dX12_readsWeek_27 : decode cX12_readsWeek 27 = .ok (.invokevirtual 157, 3) := by decide +kernel
theorem dX12_readsWeek_30 : decode cX12_readsWeek 30 = .ok (.ireturn, 1) := by decide +kernel
theorem dX12_readsWeek_31 : decode cX12_readsWeek 31 = .ok (.iload_n 1, 1) := by decide +kernel
theorem dX12_readsWeek_32 : decode cX12_readsWeek 32 = .ok (.bipush 7, 2) := by decide +kernel
theorem dX12_readsWeek_34 : decode cX12_readsWeek 34 = .ok (.if_icmp .ge 207, 3) := by decide +kernel
theorem dX12_readsWeek_37 : decode cX12_readsWeek 37 = .ok (.aload_n 0, 1) := by decide +kernel
theorem dX12_readsWeek_38 : decode cX12_readsWeek 38 = .ok (.invokevirtual 150, 3) := by decide +kernel
theorem dX12_readsWeek_41 : decode cX12_readsWeek 41 = .ok (.istore_n 2, 1) := by decide +kernel
theorem dX12_readsWeek_42 : decode cX12_readsWeek 42 = .ok (.iload_n 2, 1) := by decide +kernel
theorem dX12_readsWeek_43 : decode cX12_readsWeek 43 = .ok (.invokestatic 386, 3) := by decide +kernel
theorem dX12_readsWeek_46 : decode cX12_readsWeek 46 = .ok (.ifCond .ne 13, 3) := by decide +kernel
theorem dX12_readsWeek_49 : decode cX12_readsWeek 49 = .ok (.aload_n 0, 1) := by decide +kernel
theorem dX12_readsWeek_50 : decode cX12_readsWeek 50 = .ok (.iconst 1, 1) := by decide +kernel
theorem dX12_readsWeek_51 : decode cX12_readsWeek 51 = .ok (.aload_n 0, 1) := by decide +kernel
theorem dX12_readsWeek_52 : decode cX12_readsWeek 52 = .ok (.getfield 144, 3) := by decide +kernel
theorem dX12_readsWeek_55 : decode cX12_readsWeek 55 = .ok (.invokevirtual 157, 3) := by decide +kernel
theorem dX12_readsWeek_58 : decode cX12_readsWeek 58 = .ok (.ireturn, 1) := by decide +kernel
theorem dX12_readsWeek_59 : decode cX12_readsWeek 59 = .ok (.iload_n 2, 1) := by decide +kernel
theorem dX12_readsWeek_60 : decode cX12_readsWeek 60 = .ok (.bipush 50, 2) := by decide +kernel
theorem dX12_readsWeek_62 : decode cX12_readsWeek 62 = .ok (.bipush 55, 2) := by decide +kernel
theorem dX12_readsWeek_64 : decode cX12_readsWeek 64 = .ok (.invokestatic 126, 3) := by decide +kernel
theorem dX12_readsWeek_67 : decode cX12_readsWeek 67 = .ok (.ifCond .eq 10, 3) := by decide +kernel
theorem dX12_readsWeek_70 : decode cX12_readsWeek 70 = .ok (.iload_n 2, 1) := by decide +kernel
theorem dX12_readsWeek_71 : decode cX12_readsWeek 71 = .ok (.bipush 48, 2) := by decide +kernel
theorem dX12_readsWeek_73 : decode cX12_readsWeek 73 = .ok (.isub, 1) := by decide +kernel
theorem dX12_readsWeek_74 : decode cX12_readsWeek 74 = .ok (.goto 4, 3) := by decide +kernel
theorem dX12_readsWeek_77 : decode cX12_readsWeek 77 = .ok (.iconst 1, 1) := by decide +kernel
theorem dX12_readsWeek_78 : decode cX12_readsWeek 78 = .ok (.istore_n 3, 1) := by decide +kernel
theorem dX12_readsWeek_79 : decode cX12_readsWeek 79 = .ok (.iload_n 1, 1) := by decide +kernel
theorem dX12_readsWeek_80 : decode cX12_readsWeek 80 = .ok (.iload_n 3, 1) := by decide +kernel
theorem dX12_readsWeek_81 : decode cX12_readsWeek 81 = .ok (.iadd, 1) := by decide +kernel
theorem dX12_readsWeek_82 : decode cX12_readsWeek 82 = .ok (.bipush 7, 2) := by decide +kernel
theorem dX12_readsWeek_84 : decode cX12_readsWeek 84 = .ok (.if_icmp .le 14, 3) := by decide +kernel
theorem dX12_readsWeek_87 : decode cX12_readsWeek 87 = .ok (.aload_n 0, 1) := by decide +kernel
theorem dX12_readsWeek_88 : decode cX12_readsWeek 88 = .ok (.bipush 6, 2) := by decide +kernel
theorem dX12_readsWeek_90 : decode cX12_readsWeek 90 = .ok (.aload_n 0, 1) := by decide +kernel
theorem dX12_readsWeek_91 : decode cX12_readsWeek 91 = .ok (.getfield 144, 3) := by decide +kernel
theorem dX12_readsWeek_94 : decode cX12_readsWeek 94 = .ok (.invokevirtual 157, 3) := by decide +kernel
theorem dX12_readsWeek_97 : decode cX12_readsWeek 97 = .ok (.ireturn, 1) := by decide +kernel
theorem dX12_readsWeek_98 : decode cX12_readsWeek 98 = .ok (.iload_n 3, 1) := by decide +kernel
theorem dX12_readsWeek_99 : decode cX12_readsWeek 99 = .ok (.iconst 1, 1) := by decide +kernel
theorem dX12_readsWeek_100 : decode cX12_readsWeek 100 = .ok (.if_icmp .le 13, 3) := by decide +kernel
theorem dX12_readsWeek_103 : decode cX12_readsWeek 103 = .ok (.aload_n 0, 1) := by decide +kernel
theorem dX12_readsWeek_104 : decode cX12_readsWeek 104 = .ok (.aload_n 0, 1) := by decide +kernel
theorem dX12_readsWeek_105 : decode cX12_readsWeek 105 = .ok (.getfield 144, 3) := by decide +kernel
theorem dX12_readsWeek_108 : decode cX12_readsWeek 108 = .ok (.iconst 1, 1) := by decide +kernel
theorem dX12_readsWeek_109 : decode cX12_readsWeek 109 = .ok (.iadd, 1) := by decide +kernel
theorem dX12_readsWeek_110 : decode cX12_readsWeek 110 = .ok (.putfield 144, 3) := by decide +kernel
theorem dX12_readsWeek_113 : decode cX12_readsWeek 113 = .ok (.aload_n 0, 1) := by decide +kernel
theorem dX12_readsWeek_114 : decode cX12_readsWeek 114 = .ok (.invokevirtual 150, 3) := by decide +kernel
theorem dX12_readsWeek_117 : decode cX12_readsWeek 117 = .ok (.istore_n 2, 1) := by decide +kernel
theorem dX12_readsWeek_118 : decode cX12_readsWeek 118 = .ok (.iload_n 2, 1) := by decide +kernel
theorem dX12_readsWeek_119 : decode cX12_readsWeek 119 = .ok (.bipush 46, 2) := by decide +kernel
theorem dX12_readsWeek_121 : decode cX12_readsWeek 121 = .ok (.if_icmp .eq 24, 3) := by decide +kernel
theorem dX12_readsWeek_124 : decode cX12_readsWeek 124 = .ok (.iload_n 2, 1) := by decide +kernel
theorem dX12_readsWeek_125 : decode cX12_readsWeek 125 = .ok (.bipush 97, 2) := by decide +kernel
theorem dX12_readsWeek_127 : decode cX12_readsWeek 127 = .ok (.bipush 104, 2) := by decide +kernel
theorem dX12_readsWeek_129 : decode cX12_readsWeek 129 = .ok (.invokestatic 126, 3) := by decide +kernel
theorem dX12_readsWeek_132 : decode cX12_readsWeek 132 = .ok (.ifCond .ne 13, 3) := by decide +kernel
theorem dX12_readsWeek_135 : decode cX12_readsWeek 135 = .ok (.aload_n 0, 1) := by decide +kernel
theorem dX12_readsWeek_136 : decode cX12_readsWeek 136 = .ok (.iconst 1, 1) := by decide +kernel
theorem dX12_readsWeek_137 : decode cX12_readsWeek 137 = .ok (.aload_n 0, 1) := by decide +kernel
theorem dX12_readsWeek_138 : decode cX12_readsWeek 138 = .ok (.getfield 144, 3) := by decide +kernel
theorem dX12_readsWeek_141 : decode cX12_readsWeek 141 = .ok (.invokevirtual 157, 3) := by decide +kernel
theorem dX12_readsWeek_144 : decode cX12_readsWeek 144 = .ok (.ireturn, 1) := by decide +kernel
theorem dX12_readsWeek_145 : decode cX12_readsWeek 145 = .ok (.iload_n 2, 1) := by decide +kernel
theorem dX12_readsWeek_146 : decode cX12_readsWeek 146 = .ok (.bipush 46, 2) := by decide +kernel
theorem dX12_readsWeek_148 : decode cX12_readsWeek 148 = .ok (.if_icmp .eq 25, 3) := by decide +kernel
theorem dX12_readsWeek_151 : decode cX12_readsWeek 151 = .ok (.aload_n 0, 1) := by decide +kernel
theorem dX12_readsWeek_152 : decode cX12_readsWeek 152 = .ok (.iload_n 2, 1) := by decide +kernel
theorem dX12_readsWeek_153 : decode cX12_readsWeek 153 = .ok (.bipush 97, 2) := by decide +kernel
theorem dX12_readsWeek_155 : decode cX12_readsWeek 155 = .ok (.isub, 1) := by decide +kernel
theorem dX12_readsWeek_156 : decode cX12_readsWeek 156 = .ok (.invokevirtual 259, 3) := by decide +kernel
theorem dX12_readsWeek_159 : decode cX12_readsWeek 159 = .ok (.ifCond .ne 14, 3) := by decide +kernel
theorem dX12_readsWeek_162 : decode cX12_readsWeek 162 = .ok (.aload_n 0, 1) := by decide +kernel
theorem dX12_readsWeek_163 : decode cX12_readsWeek 163 = .ok (.bipush 7, 2) := by decide +kernel
theorem dX12_readsWeek_165 : decode cX12_readsWeek 165 = .ok (.aload_n 0, 1) := by decide +kernel
theorem dX12_readsWeek_166 : decode cX12_readsWeek 166 = .ok (.getfield 144, 3) := by decide +kernel
theorem dX12_readsWeek_169 : decode cX12_readsWeek 169 = .ok (.invokevirtual 157, 3) := by decide +kernel
theorem dX12_readsWeek_172 : decode cX12_readsWeek 172 = .ok (.ireturn, 1) := by decide +kernel
theorem dX12_readsWeek_173 : decode cX12_readsWeek 173 = .ok (.iconst 0, 1) := by decide +kernel
theorem dX12_readsWeek_174 : decode cX12_readsWeek 174 = .ok (.istore 4, 2) := by decide +kernel
theorem dX12_readsWeek_176 : decode cX12_readsWeek 176 = .ok (.iload 4, 2) := by decide +kernel
theorem dX12_readsWeek_178 : decode cX12_readsWeek 178 = .ok (.iload_n 3, 1) := by decide +kernel
theorem dX12_readsWeek_179 : decode cX12_readsWeek 179 = .ok (.if_icmp .ge 35, 3) := by decide +kernel
theorem dX12_readsWeek_182 : decode cX12_readsWeek 182 = .ok (.aload_n 0, 1) := by decide +kernel
theorem dX12_readsWeek_183 : decode cX12_readsWeek 183 = .ok (.getfield 99, 3) := by decide +kernel
theorem dX12_readsWeek_186 : decode cX12_readsWeek 186 = .ok (.aload_n 0, 1) := by decide +kernel
theorem dX12_readsWeek_187 : decode cX12_readsWeek 187 = .ok (.getfield 392, 3) := by decide +kernel
theorem dX12_readsWeek_190 : decode cX12_readsWeek 190 = .ok (.iload 4, 2) := by decide +kernel
theorem dX12_readsWeek_192 : decode cX12_readsWeek 192 = .ok (.iadd, 1) := by decide +kernel
theorem dX12_readsWeek_193 : decode cX12_readsWeek 193 = .ok (.iload_n 2, 1) := by decide +kernel
theorem dX12_readsWeek_194 : decode cX12_readsWeek 194 = .ok (.bipush 46, 2) := by decide +kernel
theorem dX12_readsWeek_196 : decode cX12_readsWeek 196 = .ok (.if_icmp .ne 7, 3) := by decide +kernel
theorem dX12_readsWeek_199 : decode cX12_readsWeek 199 = .ok (.iconst (-1), 1) := by decide +kernel
theorem dX12_readsWeek_200 : decode cX12_readsWeek 200 = .ok (.goto 7, 3) := by decide +kernel
theorem dX12_readsWeek_203 : decode cX12_readsWeek 203 = .ok (.iload_n 2, 1) := by decide +kernel
theorem dX12_readsWeek_204 : decode cX12_readsWeek 204 = .ok (.bipush 97, 2) := by decide +kernel
theorem dX12_readsWeek_206 : decode cX12_readsWeek 206 = .ok (.isub, 1) := by decide +kernel
theorem dX12_readsWeek_207 : decode cX12_readsWeek 207 = .ok (.iastore, 1) := by decide +kernel
theorem dX12_readsWeek_208 : decode cX12_readsWeek 208 = .ok (.iinc 4 1, 3) := by decide +kernel
theorem dX12_readsWeek_211 : decode cX12_readsWeek 211 = .ok (.goto (-35), 3) := by decide +kernel
theorem dX12_readsWeek_214 : decode cX12_readsWeek 214 = .ok (.aload_n 0, 1) := by decide +kernel
theorem dX12_readsWeek_215 : decode cX12_readsWeek 215 = .ok (.aload_n 0, 1) := by decide +kernel
theorem dX12_readsWeek_216 : decode cX12_readsWeek 216 = .ok (.getfield 392, 3) := by decide +kernel
theorem dX12_readsWeek_219 : decode cX12_readsWeek 219 = .ok (.iload_n 3, 1) := by decide +kernel
theorem dX12_readsWeek_220 : decode cX12_readsWeek 220 = .ok (.iadd, 1) := by decide +kernel
theorem dX12_readsWeek_221 : decode cX12_readsWeek 221 = .ok (.putfield 392, 3) := by decide +kernel
theorem dX12_readsWeek_224 : decode cX12_readsWeek 224 = .ok (.iload_n 1, 1) := by decide +kernel
theorem dX12_readsWeek_225 : decode cX12_readsWeek 225 = .ok (.iload_n 3, 1) := by decide +kernel
theorem dX12_readsWeek_226 : decode cX12_readsWeek 226 = .ok (.iadd, 1) := by decide +kernel
theorem dX12_readsWeek_227 : decode cX12_readsWeek 227 = .ok (.istore_n 1, 1) := by decide +kernel
theorem dX12_readsWeek_228 : decode cX12_readsWeek 228 = .ok (.aload_n 0, 1) := by decide +kernel
theorem dX12_readsWeek_229 : decode cX12_readsWeek 229 = .ok (.aload_n 0, 1) := by decide +kernel
theorem dX12_readsWeek_230 : decode cX12_readsWeek 230 = .ok (.getfield 144, 3) := by decide +kernel
theorem dX12_readsWeek_233 : decode cX12_readsWeek 233 = .ok (.iconst 1, 1) := by decide +kernel
theorem dX12_readsWeek_234 : decode cX12_readsWeek 234 = .ok (.iadd, 1) := by decide +kernel
theorem dX12_readsWeek_235 : decode cX12_readsWeek 235 = .ok (.putfield 144, 3) := by decide +kernel
theorem dX12_readsWeek_238 : decode cX12_readsWeek 238 = .ok (.goto (-207), 3) := by decide +kernel
theorem dX12_readsWeek_241 : decode cX12_readsWeek 241 = .ok (.aload_n 0, 1) := by decide +kernel
theorem dX12_readsWeek_242 : decode cX12_readsWeek 242 = .ok (.aload_n 0, 1) := by decide +kernel
theorem dX12_readsWeek_243 : decode cX12_readsWeek 243 = .ok (.getfield 389, 3) := by decide +kernel
theorem dX12_readsWeek_246 : decode cX12_readsWeek 246 = .ok (.iconst 1, 1) := by decide +kernel
theorem dX12_readsWeek_247 : decode cX12_readsWeek 247 = .ok (.iadd, 1) := by decide +kernel
theorem dX12_readsWeek_248 : decode cX12_readsWeek 248 = .ok (.putfield 389, 3) := by decide +kernel
theorem dX12_readsWeek_251 : decode cX12_readsWeek 251 = .ok (.aload_n 0, 1) := by decide +kernel
theorem dX12_readsWeek_252 : decode cX12_readsWeek 252 = .ok (.invokevirtual 150, 3) := by decide +kernel
theorem dX12_readsWeek_255 : decode cX12_readsWeek 255 = .ok (.invokestatic 386, 3) := by decide +kernel
theorem dX12_readsWeek_258 : decode cX12_readsWeek 258 = .ok (.ifCond .eq 16, 3) := by decide +kernel
theorem dX12_readsWeek_261 : decode cX12_readsWeek 261 = .ok (.aload_n 0, 1) := by decide +kernel
theorem dX12_readsWeek_262 : decode cX12_readsWeek 262 = .ok (.bipush 6, 2) := by decide +kernel
theorem dX12_readsWeek_264 : decode cX12_readsWeek 264 = .ok (.aload_n 0, 1) := by decide +kernel
theorem dX12_readsWeek_265 : decode cX12_readsWeek 265 = .ok (.getfield 144, 3) := by decide +kernel
theorem dX12_readsWeek_268 : decode cX12_readsWeek 268 = .ok (.invokevirtual 157, 3) := by decide +kernel
theorem dX12_readsWeek_271 : decode cX12_readsWeek 271 = .ok (.ifCond .eq 7, 3) := by decide +kernel
theorem dX12_readsWeek_274 : decode cX12_readsWeek 274 = .ok (.iconst 1, 1) := by decide +kernel
theorem dX12_readsWeek_275 : decode cX12_readsWeek 275 = .ok (.goto 4, 3) := by decide +kernel
theorem dX12_readsWeek_278 : decode cX12_readsWeek 278 = .ok (.iconst 0, 1) := by decide +kernel
theorem dX12_readsWeek_279 : decode cX12_readsWeek 279 = .ok (.ireturn, 1) := by decide +kernel
set_option maxRecDepth 100000 in
def f_m_readsWeek (V : Nat → Nat → Int) (J : Nat → Nat → Int) (Rr : Nat → Nat → Nat) : (Int × (Nat → Nat → Int)) → Prop :=
  rdb (V 0 5) fun z1 => fct (0 ≤ z1 ∧ z1 ≤ 220) <| rdb (V 0 6) fun z2 => fct (0 ≤ z2 ∧ z2 ≤ 220) <| rdb (V 0 46) fun z3 => fct (0 ≤ z3 ∧ z3 ≤ 84) <| rdb (V 0 47) fun z4 => fct (0 ≤ z4 ∧ z4 ≤ 12) <| calR (f_m_here V J Rr) fun z5 => fct (-1 ≤ z5 ∧ z5 ≤ 255) <| calR (f_m_isDayAt z5) fun z6 => fct (0 ≤ z6 ∧ z6 ≤ 1) <| (if z6 = 0 then lop2 ((7 - (0 : Int)).toNat + 1) (fun rc346 (z344 : Int) (V346 : Nat → Nat → Int) => rdb (V346 0 5) fun z347 => fct (0 ≤ z347 ∧ z347 ≤ 220) <| rdb (V346 0 46) fun z348 => fct (0 ≤ z348 ∧ z348 ≤ 84) <| rdb (V346 0 47) fun z349 => fct (0 ≤ z349 ∧ z349 ≤ 12) <| (if 7 ≤ z344 then rdb (up2 V346 0 47 (z349 + 1)) fun V351 => calR (f_m_here V351 J Rr) fun z352 => fct (-1 ≤ z352 ∧ z352 ≤ 255) <| calR (f_m_isDayAt z352) fun z353 => fct (0 ≤ z353 ∧ z353 ≤ 1) <| (if z353 = 0 then rtn (1, V351) else calVM 128 V351 (f_m_wrongAt 6 z347 V351 J Rr) fun z357 V357 => fct (0 ≤ z357 ∧ z357 ≤ 0) <| rtn (0, V357)) else calR (f_m_here V346 J Rr) fun z358 => fct (-1 ≤ z358 ∧ z358 ≤ 255) <| calR (f_m_isDayAt z358) fun z359 => fct (0 ≤ z359 ∧ z359 ≤ 1) <| (if ¬ z359 = 0 then calR (f_m_in z358 50 55) fun z362 => fct (0 ≤ z362 ∧ z362 ≤ 1) <| jnk (fun (z365 : Int) => (if z344 + z365 ≤ 7 then (if z365 ≤ 1 then calR (f_m_here V346 J Rr) fun z370 => fct (-1 ≤ z370 ∧ z370 ≤ 255) <| (if z370 = 46 then lop2 (3) (fun rc381 (z379 : Int) (V381 : Nat → Nat → Int) => (if z365 ≤ z379 then rdb (up2 V381 0 46 (z348 + z365)) fun V389 => rdb (up2 V389 0 5 (z347 + 1)) fun V390 => rc346 (z344 + z365) V390 else rdb (up2 V381 30 ((z348 + z379).toNat) (-1)) fun V391 => rc381 (z379 + 1) V391)) 0 V346 else calR (f_m_in z370 97 104) fun z392 => fct (0 ≤ z392 ∧ z392 ≤ 1) <| (if ¬ z392 = 0 then calR (f_m_isPerson (z370 - 97) V346 J Rr) fun z395 => fct (0 ≤ z395 ∧ z395 ≤ 1) <| (if ¬ z395 = 0 then lop2 (3) (fun rc407 (z405 : Int) (V407 : Nat → Nat → Int) => (if z365 ≤ z405 then rdb (up2 V407 0 46 (z348 + z365)) fun V415 => rdb (up2 V415 0 5 (z347 + 1)) fun V416 => rc346 (z344 + z365) V416 else rdb (up2 V407 30 ((z348 + z405).toNat) (z370 - 97)) fun V417 => rc407 (z405 + 1) V417)) 0 V346 else calVM 128 V346 (f_m_wrongAt 7 z347 V346 J Rr) fun z418 V418 => fct (0 ≤ z418 ∧ z418 ≤ 0) <| rtn (z418, V418)) else calVM 128 V346 (f_m_wrongAt 1 z347 V346 J Rr) fun z420 V420 => fct (0 ≤ z420 ∧ z420 ≤ 0) <| rtn (z420, V420))) else rdb (up2 V346 0 5 (z347 + 1)) fun V421 => calR (f_m_here V421 J Rr) fun z422 => fct (-1 ≤ z422 ∧ z422 ≤ 255) <| (if z422 = 46 then lop2 (9) (fun rc453 (z451 : Int) (V453 : Nat → Nat → Int) => (if z365 ≤ z451 then rdb (up2 V453 0 46 (z348 + z365)) fun V461 => rdb (up2 V461 0 5 (z347 + 2)) fun V462 => rc346 (z344 + z365) V462 else rdb (up2 V453 30 ((z348 + z451).toNat) (-1)) fun V463 => rc453 (z451 + 1) V463)) 0 V421 else calR (f_m_in z422 97 104) fun z464 => fct (0 ≤ z464 ∧ z464 ≤ 1) <| (if ¬ z464 = 0 then calR (f_m_isPerson (z422 - 97) V421 J Rr) fun z467 => fct (0 ≤ z467 ∧ z467 ≤ 1) <| (if ¬ z467 = 0 then lop2 (9) (fun rc499 (z497 : Int) (V499 : Nat → Nat → Int) => (if z365 ≤ z497 then rdb (up2 V499 0 46 (z348 + z365)) fun V507 => rdb (up2 V507 0 5 (z347 + 2)) fun V508 => rc346 (z344 + z365) V508 else rdb (up2 V499 30 ((z348 + z497).toNat) (z422 - 97)) fun V509 => rc499 (z497 + 1) V509)) 0 V421 else calVM 128 V421 (f_m_wrongAt 7 (z347 + 1) V421 J Rr) fun z510 V510 => fct (0 ≤ z510 ∧ z510 ≤ 0) <| rtn (z510, V510)) else calVM 128 V421 (f_m_wrongAt 1 (z347 + 1) V421 J Rr) fun z512 V512 => fct (0 ≤ z512 ∧ z512 ≤ 0) <| rtn (z512, V512)))) else calVM 128 V346 (f_m_wrongAt 6 z347 V346 J Rr) fun z513 V513 => fct (0 ≤ z513 ∧ z513 ≤ 0) <| rtn (z513, V513))) fun jf367 => (if z362 = 0 then jf367 1 else jf367 (z358 - 48)) else calVM 128 V346 (f_m_wrongAt 1 z347 V346 J Rr) fun z518 V518 => fct (0 ≤ z518 ∧ z518 ≤ 0) <| rtn (z518, V518)))) 0 V else (if ¬ z4 = 12 then lop2 ((7 - (0 : Int)).toNat + 1) (fun rc858 (z856 : Int) (V858 : Nat → Nat → Int) => rdb (V858 0 5) fun z859 => fct (0 ≤ z859 ∧ z859 ≤ 220) <| rdb (V858 0 46) fun z860 => fct (0 ≤ z860 ∧ z860 ≤ 84) <| rdb (V858 0 47) fun z861 => fct (0 ≤ z861 ∧ z861 ≤ 12) <| (if 7 ≤ z856 then rdb (up2 V858 0 47 (z861 + 1)) fun V863 => calR (f_m_here V863 J Rr) fun z864 => fct (-1 ≤ z864 ∧ z864 ≤ 255) <| calR (f_m_isDayAt z864) fun z865 => fct (0 ≤ z865 ∧ z865 ≤ 1) <| (if z865 = 0 then rtn (1, V863) else calVM 128 V863 (f_m_wrongAt 6 z859 V863 J Rr) fun z869 V869 => fct (0 ≤ z869 ∧ z869 ≤ 0) <| rtn (0, V869)) else calR (f_m_here V858 J Rr) fun z870 => fct (-1 ≤ z870 ∧ z870 ≤ 255) <| calR (f_m_isDayAt z870) fun z871 => fct (0 ≤ z871 ∧ z871 ≤ 1) <| (if ¬ z871 = 0 then calR (f_m_in z870 50 55) fun z874 => fct (0 ≤ z874 ∧ z874 ≤ 1) <| jnk (fun (z877 : Int) => (if z856 + z877 ≤ 7 then (if z877 ≤ 1 then calR (f_m_here V858 J Rr) fun z882 => fct (-1 ≤ z882 ∧ z882 ≤ 255) <| (if z882 = 46 then lop2 (3) (fun rc893 (z891 : Int) (V893 : Nat → Nat → Int) => (if z877 ≤ z891 then rdb (up2 V893 0 46 (z860 + z877)) fun V901 => rdb (up2 V901 0 5 (z859 + 1)) fun V902 => rc858 (z856 + z877) V902 else rdb (up2 V893 30 ((z860 + z891).toNat) (-1)) fun V903 => rc893 (z891 + 1) V903)) 0 V858 else calR (f_m_in z882 97 104) fun z904 => fct (0 ≤ z904 ∧ z904 ≤ 1) <| (if ¬ z904 = 0 then calR (f_m_isPerson (z882 - 97) V858 J Rr) fun z907 => fct (0 ≤ z907 ∧ z907 ≤ 1) <| (if ¬ z907 = 0 then lop2 (3) (fun rc919 (z917 : Int) (V919 : Nat → Nat → Int) => (if z877 ≤ z917 then rdb (up2 V919 0 46 (z860 + z877)) fun V927 => rdb (up2 V927 0 5 (z859 + 1)) fun V928 => rc858 (z856 + z877) V928 else rdb (up2 V919 30 ((z860 + z917).toNat) (z882 - 97)) fun V929 => rc919 (z917 + 1) V929)) 0 V858 else calVM 128 V858 (f_m_wrongAt 7 z859 V858 J Rr) fun z930 V930 => fct (0 ≤ z930 ∧ z930 ≤ 0) <| rtn (z930, V930)) else calVM 128 V858 (f_m_wrongAt 1 z859 V858 J Rr) fun z932 V932 => fct (0 ≤ z932 ∧ z932 ≤ 0) <| rtn (z932, V932))) else rdb (up2 V858 0 5 (z859 + 1)) fun V933 => calR (f_m_here V933 J Rr) fun z934 => fct (-1 ≤ z934 ∧ z934 ≤ 255) <| (if z934 = 46 then lop2 (9) (fun rc965 (z963 : Int) (V965 : Nat → Nat → Int) => (if z877 ≤ z963 then rdb (up2 V965 0 46 (z860 + z877)) fun V973 => rdb (up2 V973 0 5 (z859 + 2)) fun V974 => rc858 (z856 + z877) V974 else rdb (up2 V965 30 ((z860 + z963).toNat) (-1)) fun V975 => rc965 (z963 + 1) V975)) 0 V933 else calR (f_m_in z934 97 104) fun z976 => fct (0 ≤ z976 ∧ z976 ≤ 1) <| (if ¬ z976 = 0 then calR (f_m_isPerson (z934 - 97) V933 J Rr) fun z979 => fct (0 ≤ z979 ∧ z979 ≤ 1) <| (if ¬ z979 = 0 then lop2 (9) (fun rc1011 (z1009 : Int) (V1011 : Nat → Nat → Int) => (if z877 ≤ z1009 then rdb (up2 V1011 0 46 (z860 + z877)) fun V1019 => rdb (up2 V1019 0 5 (z859 + 2)) fun V1020 => rc858 (z856 + z877) V1020 else rdb (up2 V1011 30 ((z860 + z1009).toNat) (z934 - 97)) fun V1021 => rc1011 (z1009 + 1) V1021)) 0 V933 else calVM 128 V933 (f_m_wrongAt 7 (z859 + 1) V933 J Rr) fun z1022 V1022 => fct (0 ≤ z1022 ∧ z1022 ≤ 0) <| rtn (z1022, V1022)) else calVM 128 V933 (f_m_wrongAt 1 (z859 + 1) V933 J Rr) fun z1024 V1024 => fct (0 ≤ z1024 ∧ z1024 ≤ 0) <| rtn (z1024, V1024)))) else calVM 128 V858 (f_m_wrongAt 6 z859 V858 J Rr) fun z1025 V1025 => fct (0 ≤ z1025 ∧ z1025 ≤ 0) <| rtn (z1025, V1025))) fun jf879 => (if z874 = 0 then jf879 1 else jf879 (z870 - 48)) else calVM 128 V858 (f_m_wrongAt 1 z859 V858 J Rr) fun z1030 V1030 => fct (0 ≤ z1030 ∧ z1030 ≤ 0) <| rtn (z1030, V1030)))) 0 V else calVM 128 V (f_m_wrongAt 4 z1 V J Rr) fun z1031 V1031 => fct (0 ≤ z1031 ∧ z1031 ≤ 0) <| rtn (z1031, V1031)))
set_option maxHeartbeats 8000000 in
set_option maxRecDepth 100000 in
theorem m_readsWeek (l : Launch) (D : va_G) (cy : Nat → ClassId) (ad : Nat → Nat) (G : Nat → Nat → Int) (V J : Nat → Nat → Int) (Rr : Nat → Nat → Nat) (hI : MI G V) (hJ : VJ J) (hR : MR Rr) (hrw : V 0 46 = 7 * V 0 47) : xMi l D (xTY cy) yX12_readsWeek cX12_readsWeek 5 (some .boolean) 2 42 0 0 [.ref (ad 0)] (MW cy ad V J Rr) (fun u : Nat → Nat → Int => MW cy ad u J Rr) (fun a (u : Nat → Nat → Int) => MI G u ∧ (0 ≤ a ∧ a ≤ 1) ∧ Sp a (u 0 46 = 7 * u 0 47) ∧ u 0 6 = V 0 6 ∧ V 0 5 ≤ u 0 5 ∧ FBm 19807040628566295504618520736 V u ∧ (f_m_readsWeek V J Rr) (a, u)) := by
  refine xMi.mk (lv0 := [(0, .ref (ad 0))]) (by decide) rfl (Nat.le_of_ble_eq_true rfl) (fun p e s m below meth c A C hr hnm hAe => ?_)
  have C : xC2 p s m _ meth c D A s.heap 5 cX12_readsWeek RX12 (xTY cy) := C
  have hB : FBm 19807040628566295504618520736 V V := FBm.rf _ _
  have hF := Imp.of_eq (f_m_readsWeek.eq_def V J Rr)
  obtain ⟨z1, ez1, bz1⟩ := hI.rd 0 5 (x := 0) (y := 220) rfl
  replace hF := hF.to (rdb_e (z := z1) ez1)
  replace hF := hF.fc bz1
  obtain ⟨z2, ez2, bz2⟩ := hI.rd 0 6 (x := 0) (y := 220) rfl
  replace hF := hF.to (rdb_e (z := z2) ez2)
  replace hF := hF.fc bz2
  obtain ⟨z3, ez3, bz3⟩ := hI.rd 0 46 (x := 0) (y := 84) rfl
  replace hF := hF.to (rdb_e (z := z3) ez3)
  replace hF := hF.fc bz3
  obtain ⟨z4, ez4, bz4⟩ := hI.rd 0 47 (x := 0) (y := 12) rfl
  replace hF := hF.to (rdb_e (z := z4) ez4)
  replace hF := hF.fc bz4
  rw [ez3, ez4] at hrw
  refine x_iconst C.1 (n := 0) dX12_readsWeek_0 ?_
  refine x_istore_n C.1 (lv' := [(1, vI 0), (0, .ref (ad 0))]) dX12_readsWeek_1 (by decide) rfl ?_
  refine x_aload_n C.1 dX12_readsWeek_2 1 rfl ?_
  refine x_callVi C (As := []) (rest := []) 0 (xw_at (N := 33) (i := 0) (by decide) rfl) vc_X12 (m_here l D cy ad G V J Rr hI hJ hR ) (l1 := []) (l2 := []) (List.append_nil _).symm (w2 := fun _ => MW cy ad V J Rr) (fun _ => List.append_nil _) rfl wm_yX12_here wn_X12 wl_X12_150 wi_yX12_here we_yX12_here hd_yX12_here rfl ⟨Nat.le_of_ble_eq_true rfl, Nat.le_of_ble_eq_true rfl⟩ (Nat.le_of_ble_eq_true rfl) ⟨Nat.le_of_ble_eq_true rfl, Nat.le_of_ble_eq_true rfl⟩ dX12_readsWeek_3 (fun z5 u5 bz5 h5 => ?_)
  obtain ⟨bq5, hx5_0, hx5_1, hFc5⟩ := h5
  replace hF := calR_i hF hFc5
  replace hF := hF.fc bq5
  rw [ez1, ez2] at hx5_0
  refine x_callSi C (As := [vI z5]) (rest := []) (m_isDayAt l D cy z5 ⟨by omega, by omega⟩) (l1 := []) (l2 := _) rfl (w2 := fun _ => _) (fun _ => rfl) rfl wm_yX12_isDayAt wn_X12 wl_X12_386 wi_yX12_isDayAt hd_yX12_isDayAt rfl ⟨Nat.le_of_ble_eq_true rfl, Nat.le_of_ble_eq_true rfl⟩ (Nat.le_of_ble_eq_true rfl) ⟨Nat.le_of_ble_eq_true rfl, Nat.le_of_ble_eq_true rfl⟩ dX12_readsWeek_6 (fun z6 u6 bz6 h6 => ?_)
  obtain ⟨bq6, hx6_0, hFc6⟩ := h6
  replace hF := calR_i hF hFc6
  replace hF := hF.fc bq6
  refine x_if_eq C.1 (tgt := 31) dX12_readsWeek_9 (by decide) (by omega) (fun hc7 => ?_) (fun hc7 => ?_)
  · replace hF := hF.to (if_pos hc7)
    have hof8 := Sq.off hx6_0 (by omega)
    obtain ⟨bd346, hbd346, hF⟩ := lop2_ex hF
    refine x_loop (I := fun x : Int × (Nat → Nat → Int) => match x with | (z344, V346) => (0 ≤ z344 ∧ z344 ≤ 7) ∧ MI G V346 ∧ FBm 19807040628566295504618520736 V V346 ∧ V346 0 46 = 7 * V346 0 47 + z344 ∧ (V346 0 47 ≤ 11 ∨ (z344 = 0 ∧ ¬ (hrM V346 = 46 ∨ (97 ≤ hrM V346 ∧ hrM V346 ≤ 104) ∨ (50 ≤ hrM V346 ∧ hrM V346 ≤ 55)))) ∧ V 0 5 ≤ V346 0 5 ∧ V346 0 6 = z2 ∧ (∃ nf : Nat, (7 - (z344 : Int)).toNat < nf ∧ Imp (lop2 nf bd346 z344 V346) (f_m_readsWeek V J Rr))) (μ := fun x : Int × (Nat → Nat → Int) => match x with | (z344, V346) => (7 - (z344 : Int)).toNat) (wsf := fun x : Int × (Nat → Nat → Int) => match x with | (z344, V346) => MW cy ad V346 J Rr) (lvf := fun x : Int × (Nat → Nat → Int) => match x with | (z344, V346) => [(1, vI z344), (0, .ref (ad 0))]) (fun x hI346x ih346 => ?_) (0, V) ⟨⟨by decide, by decide⟩, hI, hB, (by rw [ez3, ez4]; omega), (by rw [ez4]; omega), (by omega), ez2, ⟨_, (Nat.lt_succ_self _), hF⟩⟩ rfl rfl
    obtain ⟨z344, V346⟩ := x
    obtain ⟨bz344, hI346, hB346, hv46, hv47, hv5, hk345_0, nf346, hn346, hF⟩ := hI346x
    try dsimp only
    obtain ⟨nf346, rfl⟩ : ∃ mm, nf346 = mm + 1 := ⟨nf346 - 1, (Nat.succ_pred_eq_of_pos (Nat.lt_of_le_of_lt (Nat.zero_le _) hn346)).symm⟩
    replace hF := hF.to (lop2_s hbd346)
    obtain ⟨z347, ez347, bz347⟩ := hI346.rd 0 5 (x := 0) (y := 220) rfl
    replace hF := hF.to (rdb_e (z := z347) ez347)
    replace hF := hF.fc bz347
    obtain ⟨z348, ez348, bz348⟩ := hI346.rd 0 46 (x := 0) (y := 84) rfl
    replace hF := hF.to (rdb_e (z := z348) ez348)
    replace hF := hF.fc bz348
    obtain ⟨z349, ez349, bz349⟩ := hI346.rd 0 47 (x := 0) (y := 12) rfl
    replace hF := hF.to (rdb_e (z := z349) ez349)
    replace hF := hF.fc bz349
    have hq46 : z348 = 7 * z349 + z344 := by rw [← ez348, ← ez349]; exact hv46
    have hq47 : z349 ≤ 11 ∨ (z344 = 0 ∧ ¬ (hrM V346 = 46 ∨ (97 ≤ hrM V346 ∧ hrM V346 ≤ 104) ∨ (50 ≤ hrM V346 ∧ hrM V346 ≤ 55))) := by rw [← ez349]; exact hv47
    have hq5 : V 0 5 ≤ z347 := by rw [← ez347]; exact hv5
    refine x_iload_n C.1 dX12_readsWeek_31 0 rfl ?_
    refine x_bipush C.1 (n := 7) dX12_readsWeek_32 ?_
    refine x_icmp_ge C.1 (tgt := 241) dX12_readsWeek_34 (by decide) (by omega) (by decide) (fun hc350 => ?_) (fun hc350 => ?_)
    · replace hF := hF.to (if_pos hc350)
      refine x_aload_n C.1 dX12_readsWeek_241 1 rfl ?_
      refine x_aload_n C.1 dX12_readsWeek_242 1 rfl ?_
      refine x_getI C (N := 33) (i := 0) (by decide) rfl vc_X12 wx_X12 47 (by decide) wf_X12_389 rfl dX12_readsWeek_243 (a := z349) ez349 ?_
      refine x_iconst C.1 (n := 1) dX12_readsWeek_246 ?_
      refine x_iadd C.1 (v := z349 + 1) (by omega) dX12_readsWeek_247 ?_
      refine x_putI C (N := 33) (i := 0) (by decide) rfl vc_X12 wx_X12 47 (by decide) wf_X12_389 tyX12 tyX12_ok nmX12 rfl (tyX12_ok 47 (by decide)) rfl dX12_readsWeek_248 rfl rfl ?_
      refine x_gV ?_
      intro V351 hV351
      have hI351 : MI G V351 := hI346.up hV351 rfl (by omega) rfl (Or.inl (by decide))
      have hB351 := hB346.up hV351 rfl
      replace hF := hF.to (rdb_e (z := V351) hV351.symm)
      refine x_aload_n C.1 dX12_readsWeek_251 1 rfl ?_
      refine x_callVi C (As := []) (rest := []) 0 (xw_at (N := 33) (i := 0) (by decide) rfl) vc_X12 (m_here l D cy ad G V351 J Rr hI351 hJ hR ) (l1 := []) (l2 := []) (List.append_nil _).symm (w2 := fun _ => MW cy ad V351 J Rr) (fun _ => List.append_nil _) rfl wm_yX12_here wn_X12 wl_X12_150 wi_yX12_here we_yX12_here hd_yX12_here rfl ⟨Nat.le_of_ble_eq_true rfl, Nat.le_of_ble_eq_true rfl⟩ (Nat.le_of_ble_eq_true rfl) ⟨Nat.le_of_ble_eq_true rfl, Nat.le_of_ble_eq_true rfl⟩ dX12_readsWeek_252 (fun z352 u352 bz352 h352 => ?_)
      obtain ⟨bq352, hx352_0, hx352_1, hFc352⟩ := h352
      replace hF := calR_i hF hFc352
      replace hF := hF.fc bq352
      rw [((congrFun (congrFun hV351 0) 5).trans ((up2_n _ _ (Or.inr (by decide))).trans ez347)), ((congrFun (congrFun hV351 0) 6).trans ((up2_n _ _ (Or.inr (by decide))).trans hk345_0))] at hx352_0
      refine x_callSi C (As := [vI z352]) (rest := []) (m_isDayAt l D cy z352 ⟨by omega, by omega⟩) (l1 := []) (l2 := _) rfl (w2 := fun _ => _) (fun _ => rfl) rfl wm_yX12_isDayAt wn_X12 wl_X12_386 wi_yX12_isDayAt hd_yX12_isDayAt rfl ⟨Nat.le_of_ble_eq_true rfl, Nat.le_of_ble_eq_true rfl⟩ (Nat.le_of_ble_eq_true rfl) ⟨Nat.le_of_ble_eq_true rfl, Nat.le_of_ble_eq_true rfl⟩ dX12_readsWeek_255 (fun z353 u353 bz353 h353 => ?_)
      obtain ⟨bq353, hx353_0, hFc353⟩ := h353
      replace hF := calR_i hF hFc353
      replace hF := hF.fc bq353
      refine x_if_eq C.1 (tgt := 274) dX12_readsWeek_258 (by decide) (by omega) (fun hc354 => ?_) (fun hc354 => ?_)
      · replace hF := hF.to (if_pos hc354)
        have hof355 := Sq.off hx353_0 (by omega)
        refine x_iconst C.1 (n := 1) dX12_readsWeek_274 ?_
        refine x_goto C.1 (tgt := 279) dX12_readsWeek_275 (by decide) ?_
        exact x_zret (S := (Nat → Nat → Int)) (post := (fun a (u : Nat → Nat → Int) => MI G u ∧ (0 ≤ a ∧ a ≤ 1) ∧ Sp a (u 0 46 = 7 * u 0 47) ∧ u 0 6 = V 0 6 ∧ V 0 5 ≤ u 0 5 ∧ FBm 19807040628566295504618520736 V u ∧ (f_m_readsWeek V J Rr) (a, u))) (w1 := (fun u : Nat → Nat → Int => MW cy ad u J Rr)) (a := 1) C hr rfl dX12_readsWeek_279 (by decide) V351 rfl ⟨hI351, ⟨by decide, by decide⟩, (Or.inr ⟨rfl, by rw [((congrFun (congrFun hV351 0) 46).trans ((up2_n _ _ (Or.inr (by decide))).trans ez348)), ((congrFun (congrFun hV351 0) 47).trans (up2_s _ _ _ _))]; omega⟩), (((congrFun (congrFun hV351 0) 6).trans ((up2_n _ _ (Or.inr (by decide))).trans hk345_0)).trans ez2.symm), (by rw [((congrFun (congrFun hV351 0) 5).trans ((up2_n _ _ (Or.inr (by decide))).trans ez347))]; omega), hB351, hF _ rfl⟩
      · replace hF := hF.to (if_neg hc354)
        have hon356 := Sq.on hx353_0 (by omega)
        refine x_aload_n C.1 dX12_readsWeek_261 1 rfl ?_
        refine x_bipush C.1 (n := 6) dX12_readsWeek_262 ?_
        refine x_aload_n C.1 dX12_readsWeek_264 1 rfl ?_
        refine x_getI C (N := 33) (i := 0) (by decide) rfl vc_X12 wx_X12 5 (by decide) wf_X12_144 rfl dX12_readsWeek_265 (a := z347) ((congrFun (congrFun hV351 0) 5).trans ((up2_n _ _ (Or.inr (by decide))).trans ez347)) ?_
        refine x_callVi C (As := [vI 6, vI z347]) (rest := []) 0 (xw_at (N := 33) (i := 0) (by decide) rfl) vc_X12 (m_wrongAt l D cy ad G V351 J Rr hI351 hJ hR 6 ⟨by decide, by decide⟩ z347 ⟨by omega, by omega⟩) (l1 := []) (l2 := []) (List.append_nil _).symm (w2 := fun u : Nat → Nat → Int => MW cy ad u J Rr) (fun _ => List.append_nil _) rfl wm_yX12_wrongAt wn_X12 wl_X12_157 wi_yX12_wrongAt we_yX12_wrongAt hd_yX12_wrongAt rfl ⟨Nat.le_of_ble_eq_true rfl, Nat.le_of_ble_eq_true rfl⟩ (Nat.le_of_ble_eq_true rfl) ⟨Nat.le_of_ble_eq_true rfl, Nat.le_of_ble_eq_true rfl⟩ dX12_readsWeek_268 (fun z357 V357 bz357 h357 => ?_)
        obtain ⟨hI357, bq357, hx357_0, hBc357, hFc357⟩ := h357
        replace hF := calVM_i hF hFc357 hBc357
        replace hF := hF.fc bq357
        have hB357 := hB351.tr hBc357 (m := 128) rfl
        refine x_if_eq_t C.1 (tgt := 278) dX12_readsWeek_271 (by decide) (by omega) (by omega) ?_
        refine x_iconst C.1 (n := 0) dX12_readsWeek_278 ?_
        exact x_zret (S := (Nat → Nat → Int)) (post := (fun a (u : Nat → Nat → Int) => MI G u ∧ (0 ≤ a ∧ a ≤ 1) ∧ Sp a (u 0 46 = 7 * u 0 47) ∧ u 0 6 = V 0 6 ∧ V 0 5 ≤ u 0 5 ∧ FBm 19807040628566295504618520736 V u ∧ (f_m_readsWeek V J Rr) (a, u))) (w1 := (fun u : Nat → Nat → Int => MW cy ad u J Rr)) (a := 0) C hr rfl dX12_readsWeek_279 (by decide) V357 rfl ⟨hI357, ⟨by decide, by decide⟩, (Or.inl (by omega)), (((hx357_0 (0) (6) (Or.inr (by decide))).trans ((congrFun (congrFun hV351 0) 6).trans ((up2_n _ _ (Or.inr (by decide))).trans hk345_0))).trans ez2.symm), (by rw [((hx357_0 (0) (5) (Or.inr (by decide))).trans ((congrFun (congrFun hV351 0) 5).trans ((up2_n _ _ (Or.inr (by decide))).trans ez347)))]; omega), hB357, hF _ rfl⟩
    · replace hF := hF.to (if_neg hc350)
      refine x_aload_n C.1 dX12_readsWeek_37 1 rfl ?_
      refine x_callVi C (As := []) (rest := []) 0 (xw_at (N := 33) (i := 0) (by decide) rfl) vc_X12 (m_here l D cy ad G V346 J Rr hI346 hJ hR ) (l1 := []) (l2 := []) (List.append_nil _).symm (w2 := fun _ => MW cy ad V346 J Rr) (fun _ => List.append_nil _) rfl wm_yX12_here wn_X12 wl_X12_150 wi_yX12_here we_yX12_here hd_yX12_here rfl ⟨Nat.le_of_ble_eq_true rfl, Nat.le_of_ble_eq_true rfl⟩ (Nat.le_of_ble_eq_true rfl) ⟨Nat.le_of_ble_eq_true rfl, Nat.le_of_ble_eq_true rfl⟩ dX12_readsWeek_38 (fun z358 u358 bz358 h358 => ?_)
      obtain ⟨bq358, hx358_0, hx358_1, hFc358⟩ := h358
      replace hF := calR_i hF hFc358
      replace hF := hF.fc bq358
      rw [ez347, hk345_0] at hx358_0
      refine x_istore_n C.1 (lv' := [(2, vI z358), (1, vI z344), (0, .ref (ad 0))]) dX12_readsWeek_41 (by decide) rfl ?_
      refine x_iload_n C.1 dX12_readsWeek_42 0 rfl ?_
      refine x_callSi C (As := [vI z358]) (rest := []) (m_isDayAt l D cy z358 ⟨by omega, by omega⟩) (l1 := []) (l2 := _) rfl (w2 := fun _ => _) (fun _ => rfl) rfl wm_yX12_isDayAt wn_X12 wl_X12_386 wi_yX12_isDayAt hd_yX12_isDayAt rfl ⟨Nat.le_of_ble_eq_true rfl, Nat.le_of_ble_eq_true rfl⟩ (Nat.le_of_ble_eq_true rfl) ⟨Nat.le_of_ble_eq_true rfl, Nat.le_of_ble_eq_true rfl⟩ dX12_readsWeek_43 (fun z359 u359 bz359 h359 => ?_)
      obtain ⟨bq359, hx359_0, hFc359⟩ := h359
      replace hF := calR_i hF hFc359
      replace hF := hF.fc bq359
      refine x_if_ne C.1 (tgt := 59) dX12_readsWeek_46 (by decide) (by omega) (fun hc360 => ?_) (fun hc360 => ?_)
      · replace hF := hF.to (if_pos hc360)
        have hon361 := Sq.on hx359_0 (by omega)
        refine x_iload_n C.1 dX12_readsWeek_59 0 rfl ?_
        refine x_bipush C.1 (n := 50) dX12_readsWeek_60 ?_
        refine x_bipush C.1 (n := 55) dX12_readsWeek_62 ?_
        refine x_callSi C (As := [vI z358, vI 50, vI 55]) (rest := []) (m_in l D cy z358 ⟨by omega, by omega⟩ 50 ⟨by decide, by decide⟩ 55 ⟨by decide, by decide⟩) (l1 := []) (l2 := _) rfl (w2 := fun _ => _) (fun _ => rfl) rfl wm_yX12_in wn_X12 wl_X12_126 wi_yX12_in hd_yX12_in rfl ⟨Nat.le_of_ble_eq_true rfl, Nat.le_of_ble_eq_true rfl⟩ (Nat.le_of_ble_eq_true rfl) ⟨Nat.le_of_ble_eq_true rfl, Nat.le_of_ble_eq_true rfl⟩ dX12_readsWeek_64 (fun z362 u362 bz362 h362 => ?_)
        obtain ⟨bq362, hx362_0, hFc362⟩ := h362
        replace hF := calR_i hF hFc362
        replace hF := hF.fc bq362
        obtain ⟨jf367, hjf367, hF⟩ := jn_ex hF
        refine x_join (I := fun z365 : Int => (1 ≤ z365 ∧ z365 ≤ 7) ∧ Imp (jf367 z365) (f_m_readsWeek V J Rr)) (wsf := fun z365 : Int => MW cy ad V346 J Rr) (lvf := fun z365 : Int => [(2, vI z358), (1, vI z344), (0, .ref (ad 0))]) (stf := fun z365 : Int => [vI z365]) 78 (fun z365 hI367x => ?_) (fun jn367 => ?_)
        · obtain ⟨bz365, hF⟩ := hI367x
          try dsimp only
          replace hF := hF.to (jn_s1 hjf367)
          refine x_istore_n C.1 (lv' := [(3, vI z365), (2, vI z358), (1, vI z344), (0, .ref (ad 0))]) dX12_readsWeek_78 (by decide) rfl ?_
          refine x_iload_n C.1 dX12_readsWeek_79 2 rfl ?_
          refine x_iload_n C.1 dX12_readsWeek_80 0 rfl ?_
          refine x_iadd C.1 (v := z344 + z365) (by omega) dX12_readsWeek_81 ?_
          refine x_bipush C.1 (n := 7) dX12_readsWeek_82 ?_
          refine x_icmp_le C.1 (tgt := 98) dX12_readsWeek_84 (by decide) (by omega) (by decide) (fun hc368 => ?_) (fun hc368 => ?_)
          · replace hF := hF.to (if_pos hc368)
            refine x_iload_n C.1 dX12_readsWeek_98 0 rfl ?_
            refine x_iconst C.1 (n := 1) dX12_readsWeek_99 ?_
            refine x_icmp_le C.1 (tgt := 113) dX12_readsWeek_100 (by decide) (by omega) (by decide) (fun hc369 => ?_) (fun hc369 => ?_)
            · replace hF := hF.to (if_pos hc369)
              refine x_aload_n C.1 dX12_readsWeek_113 3 rfl ?_
              refine x_callVi C (As := []) (rest := []) 0 (xw_at (N := 33) (i := 0) (by decide) rfl) vc_X12 (m_here l D cy ad G V346 J Rr hI346 hJ hR ) (l1 := []) (l2 := []) (List.append_nil _).symm (w2 := fun _ => MW cy ad V346 J Rr) (fun _ => List.append_nil _) rfl wm_yX12_here wn_X12 wl_X12_150 wi_yX12_here we_yX12_here hd_yX12_here rfl ⟨Nat.le_of_ble_eq_true rfl, Nat.le_of_ble_eq_true rfl⟩ (Nat.le_of_ble_eq_true rfl) ⟨Nat.le_of_ble_eq_true rfl, Nat.le_of_ble_eq_true rfl⟩ dX12_readsWeek_114 (fun z370 u370 bz370 h370 => ?_)
              obtain ⟨bq370, hx370_0, hx370_1, hFc370⟩ := h370
              replace hF := calR_i hF hFc370
              replace hF := hF.fc bq370
              rw [ez347, hk345_0] at hx370_0
              refine x_istore_n C.1 (lv' := [(2, vI z370), (3, vI z365), (1, vI z344), (0, .ref (ad 0))]) dX12_readsWeek_117 (by decide) rfl ?_
              refine x_iload_n C.1 dX12_readsWeek_118 0 rfl ?_
              refine x_bipush C.1 (n := 46) dX12_readsWeek_119 ?_
              refine x_icmp_eq C.1 (tgt := 145) dX12_readsWeek_121 (by decide) (by omega) (by decide) (fun hc371 => ?_) (fun hc371 => ?_)
              · replace hF := hF.to (if_pos hc371)
                refine x_iload_n C.1 dX12_readsWeek_145 0 rfl ?_
                refine x_bipush C.1 (n := 46) dX12_readsWeek_146 ?_
                refine x_icmp_eq_t C.1 (tgt := 173) dX12_readsWeek_148 (by decide) (by omega) (by decide) (by omega) ?_
                refine x_iconst C.1 (n := 0) dX12_readsWeek_173 ?_
                refine x_istore C.1 (lv' := [(4, vI 0), (2, vI z370), (3, vI z365), (1, vI z344), (0, .ref (ad 0))]) dX12_readsWeek_174 (by decide) rfl ?_
                obtain ⟨bd381, hbd381, hF⟩ := lop2_ex hF
                refine x_loop (I := fun x : Int × (Nat → Nat → Int) => match x with | (z379, V381) => (0 ≤ z379 ∧ z379 ≤ 1) ∧ MI G V381 ∧ FBm 19807040628566295504618520736 V V381 ∧ V381 0 6 = z2 ∧ V381 0 5 = z347 ∧ V381 0 46 = z348 ∧ V381 0 47 = z349 ∧ (∃ nf : Nat, (2 - z379).toNat < nf ∧ Imp (lop2 nf bd381 z379 V381) (f_m_readsWeek V J Rr))) (μ := fun x : Int × (Nat → Nat → Int) => match x with | (z379, V381) => (2 - z379).toNat) (wsf := fun x : Int × (Nat → Nat → Int) => match x with | (z379, V381) => MW cy ad V381 J Rr) (lvf := fun x : Int × (Nat → Nat → Int) => match x with | (z379, V381) => [(4, vI z379), (2, vI z370), (3, vI z365), (1, vI z344), (0, .ref (ad 0))]) (fun x hI381x ih381 => ?_) (0, V346) ⟨⟨by decide, by decide⟩, hI346, hB346, hk345_0, ez347, ez348, ez349, ⟨_, (by omega), hF⟩⟩ rfl rfl
                obtain ⟨z379, V381⟩ := x
                obtain ⟨bz379, hI381, hB381, hk380_0, hk380_1, hk380_2, hk380_3, nf381, hn381, hF⟩ := hI381x
                try dsimp only
                obtain ⟨nf381, rfl⟩ : ∃ mm, nf381 = mm + 1 := ⟨nf381 - 1, (Nat.succ_pred_eq_of_pos (Nat.lt_of_le_of_lt (Nat.zero_le _) hn381)).symm⟩
                replace hF := hF.to (lop2_s hbd381)
                refine x_iload C.1 dX12_readsWeek_176 0 rfl ?_
                refine x_iload_n C.1 dX12_readsWeek_178 2 rfl ?_
                refine x_icmp_ge C.1 (tgt := 214) dX12_readsWeek_179 (by decide) (by omega) (by omega) (fun hc388 => ?_) (fun hc388 => ?_)
                · replace hF := hF.to (if_pos hc388)
                  refine x_aload_n C.1 dX12_readsWeek_214 4 rfl ?_
                  refine x_aload_n C.1 dX12_readsWeek_215 4 rfl ?_
                  refine x_getI C (N := 33) (i := 0) (by decide) rfl vc_X12 wx_X12 46 (by decide) wf_X12_392 rfl dX12_readsWeek_216 (a := z348) hk380_2 ?_
                  refine x_iload_n C.1 dX12_readsWeek_219 2 rfl ?_
                  refine x_iadd C.1 (v := z348 + z365) (by omega) dX12_readsWeek_220 ?_
                  refine x_putI C (N := 33) (i := 0) (by decide) rfl vc_X12 wx_X12 46 (by decide) wf_X12_392 tyX12 tyX12_ok nmX12 rfl (tyX12_ok 46 (by decide)) rfl dX12_readsWeek_221 rfl rfl ?_
                  refine x_gV ?_
                  intro V389 hV389
                  have hI389 : MI G V389 := hI381.up hV389 rfl (by omega) rfl (Or.inl (by decide))
                  have hB389 := hB381.up hV389 rfl
                  replace hF := hF.to (rdb_e (z := V389) hV389.symm)
                  refine x_iload_n C.1 dX12_readsWeek_224 3 rfl ?_
                  refine x_iload_n C.1 dX12_readsWeek_225 2 rfl ?_
                  refine x_iadd C.1 (v := z344 + z365) (by omega) dX12_readsWeek_226 ?_
                  refine x_istore_n C.1 (lv' := [(1, vI (z344 + z365)), (4, vI z379), (2, vI z370), (3, vI z365), (0, .ref (ad 0))]) dX12_readsWeek_227 (by decide) rfl ?_
                  refine x_aload_n C.1 dX12_readsWeek_228 4 rfl ?_
                  refine x_aload_n C.1 dX12_readsWeek_229 4 rfl ?_
                  refine x_getI C (N := 33) (i := 0) (by decide) rfl vc_X12 wx_X12 5 (by decide) wf_X12_144 rfl dX12_readsWeek_230 (a := z347) ((congrFun (congrFun hV389 0) 5).trans ((up2_n _ _ (Or.inr (by decide))).trans hk380_1)) ?_
                  refine x_iconst C.1 (n := 1) dX12_readsWeek_233 ?_
                  refine x_iadd C.1 (v := z347 + 1) (by omega) dX12_readsWeek_234 ?_
                  refine x_putI C (N := 33) (i := 0) (by decide) rfl vc_X12 wx_X12 5 (by decide) wf_X12_144 tyX12 tyX12_ok nmX12 rfl (tyX12_ok 5 (by decide)) rfl dX12_readsWeek_235 rfl rfl ?_
                  refine x_gV ?_
                  intro V390 hV390
                  have hI390 : MI G V390 := hI389.up hV390 rfl (by omega) rfl (Or.inl (by decide))
                  have hB390 := hB389.up hV390 rfl
                  replace hF := hF.to (rdb_e (z := V390) hV390.symm)
                  refine x_goto C.1 (tgt := 31) dX12_readsWeek_238 (by decide) ?_
                  refine x_lv [(1, vI (z344 + z365)), (0, .ref (ad 0))] [0, 4] rfl ?_
                  have hmu346 : (7 - ((z344 + z365) : Int)).toNat < (7 - (z344 : Int)).toNat := (by omega)
                  exact ih346 (z344 + z365, V390) ⟨⟨by omega, by omega⟩, hI390, hB390, (by rw [((congrFun (congrFun hV390 0) 46).trans ((up2_n _ _ (Or.inr (by decide))).trans ((congrFun (congrFun hV389 0) 46).trans (up2_s _ _ _ _)))), ((congrFun (congrFun hV390 0) 47).trans ((up2_n _ _ (Or.inr (by decide))).trans ((congrFun (congrFun hV389 0) 47).trans ((up2_n _ _ (Or.inr (by decide))).trans hk380_3))))]; omega), (by left; rw [((congrFun (congrFun hV390 0) 47).trans ((up2_n _ _ (Or.inr (by decide))).trans ((congrFun (congrFun hV389 0) 47).trans ((up2_n _ _ (Or.inr (by decide))).trans hk380_3))))]; omega), (by rw [((congrFun (congrFun hV390 0) 5).trans (up2_s _ _ _ _))]; omega), ((congrFun (congrFun hV390 0) 6).trans ((up2_n _ _ (Or.inr (by decide))).trans ((congrFun (congrFun hV389 0) 6).trans ((up2_n _ _ (Or.inr (by decide))).trans hk380_0)))), ⟨nf346, Nat.lt_of_lt_of_le hmu346 (Nat.le_of_lt_succ hn346), hF⟩⟩ hmu346
                · replace hF := hF.to (if_neg hc388)
                  refine x_aload_n C.1 dX12_readsWeek_182 4 rfl ?_
                  refine x_getA C (N := 33) (i := 0) (by decide) rfl vc_X12 wx_X12 48 (by decide) wf_X12_99 (a := 30) rfl dX12_readsWeek_183 ?_
                  refine x_aload_n C.1 dX12_readsWeek_186 4 rfl ?_
                  refine x_getI C (N := 33) (i := 0) (by decide) rfl vc_X12 wx_X12 46 (by decide) wf_X12_392 rfl dX12_readsWeek_187 (a := z348) hk380_2 ?_
                  refine x_iload C.1 dX12_readsWeek_190 0 rfl ?_
                  refine x_iadd C.1 (v := z348 + z379) (by omega) dX12_readsWeek_192 ?_
                  refine x_iload_n C.1 dX12_readsWeek_193 1 rfl ?_
                  refine x_bipush C.1 (n := 46) dX12_readsWeek_194 ?_
                  refine x_icmp_ne_f C.1 (tgt := 203) dX12_readsWeek_196 (by decide) (by omega) (by decide) (by omega) ?_
                  refine x_iconst C.1 (n := -1) dX12_readsWeek_199 ?_
                  refine x_goto C.1 (tgt := 207) dX12_readsWeek_200 (by decide) ?_
                  refine x_iast C (N := 33) (i := 30) (q := z348 + z379) (a := (-1)) (by decide) rfl (by omega) (by decide) dX12_readsWeek_207 ?_
                  refine x_gV ?_
                  intro V391 hV391
                  have hI391 : MI G V391 := hI381.up hV391 rfl (by decide) rfl (Or.inl (by decide))
                  have hB391 := hB381.up hV391 (by rw [mkey_r (by decide)]; rfl)
                  replace hF := hF.to (rdb_e (z := V391) hV391.symm)
                  refine x_iinc C.1 (v := z379 + 1) (lv' := [(4, vI (z379 + 1)), (2, vI z370), (3, vI z365), (1, vI z344), (0, .ref (ad 0))]) (by omega) dX12_readsWeek_208 0 rfl (by decide) rfl ?_
                  refine x_goto C.1 (tgt := 176) dX12_readsWeek_211 (by decide) ?_
                  have hmu381 : (2 - (z379 + 1)).toNat < (2 - z379).toNat := (by omega)
                  exact ih381 (z379 + 1, V391) ⟨⟨by omega, by omega⟩, hI391, hB391, ((congrFun (congrFun hV391 0) 6).trans ((up2_n _ _ (Or.inl (by decide))).trans hk380_0)), ((congrFun (congrFun hV391 0) 5).trans ((up2_n _ _ (Or.inl (by decide))).trans hk380_1)), ((congrFun (congrFun hV391 0) 46).trans ((up2_n _ _ (Or.inl (by decide))).trans hk380_2)), ((congrFun (congrFun hV391 0) 47).trans ((up2_n _ _ (Or.inl (by decide))).trans hk380_3)), ⟨nf381, Nat.lt_of_lt_of_le hmu381 (Nat.le_of_lt_succ hn381), hF⟩⟩ hmu381
              · replace hF := hF.to (if_neg hc371)
                refine x_iload_n C.1 dX12_readsWeek_124 0 rfl ?_
                refine x_bipush C.1 (n := 97) dX12_readsWeek_125 ?_
                refine x_bipush C.1 (n := 104) dX12_readsWeek_127 ?_
                refine x_callSi C (As := [vI z370, vI 97, vI 104]) (rest := []) (m_in l D cy z370 ⟨by omega, by omega⟩ 97 ⟨by decide, by decide⟩ 104 ⟨by decide, by decide⟩) (l1 := []) (l2 := _) rfl (w2 := fun _ => _) (fun _ => rfl) rfl wm_yX12_in wn_X12 wl_X12_126 wi_yX12_in hd_yX12_in rfl ⟨Nat.le_of_ble_eq_true rfl, Nat.le_of_ble_eq_true rfl⟩ (Nat.le_of_ble_eq_true rfl) ⟨Nat.le_of_ble_eq_true rfl, Nat.le_of_ble_eq_true rfl⟩ dX12_readsWeek_129 (fun z392 u392 bz392 h392 => ?_)
                obtain ⟨bq392, hx392_0, hFc392⟩ := h392
                replace hF := calR_i hF hFc392
                replace hF := hF.fc bq392
                refine x_if_ne C.1 (tgt := 145) dX12_readsWeek_132 (by decide) (by omega) (fun hc393 => ?_) (fun hc393 => ?_)
                · replace hF := hF.to (if_pos hc393)
                  have hon394 := Sq.on hx392_0 (by omega)
                  refine x_iload_n C.1 dX12_readsWeek_145 0 rfl ?_
                  refine x_bipush C.1 (n := 46) dX12_readsWeek_146 ?_
                  refine x_icmp_eq_f C.1 (tgt := 173) dX12_readsWeek_148 (by decide) (by omega) (by decide) (by omega) ?_
                  refine x_aload_n C.1 dX12_readsWeek_151 3 rfl ?_
                  refine x_iload_n C.1 dX12_readsWeek_152 0 rfl ?_
                  refine x_bipush C.1 (n := 97) dX12_readsWeek_153 ?_
                  refine x_isub C.1 (v := z370 - 97) (by omega) dX12_readsWeek_155 ?_
                  refine x_callVi C (As := [vI (z370 - 97)]) (rest := []) 0 (xw_at (N := 33) (i := 0) (by decide) rfl) vc_X12 (m_isPerson l D cy ad G V346 J Rr hI346 hJ hR (z370 - 97) ⟨by omega, by omega⟩) (l1 := []) (l2 := []) (List.append_nil _).symm (w2 := fun _ => MW cy ad V346 J Rr) (fun _ => List.append_nil _) rfl wm_yX12_isPerson wn_X12 wl_X12_259 wi_yX12_isPerson we_yX12_isPerson hd_yX12_isPerson rfl ⟨Nat.le_of_ble_eq_true rfl, Nat.le_of_ble_eq_true rfl⟩ (Nat.le_of_ble_eq_true rfl) ⟨Nat.le_of_ble_eq_true rfl, Nat.le_of_ble_eq_true rfl⟩ dX12_readsWeek_156 (fun z395 u395 bz395 h395 => ?_)
                  obtain ⟨hon395, hFc395⟩ := h395
                  replace hF := calR_i hF hFc395
                  replace hF := hF.fc hon395.r
                  have bq395 := Sp.r hon395
                  refine x_if_ne C.1 (tgt := 173) dX12_readsWeek_159 (by decide) (by omega) (fun hc396 => ?_) (fun hc396 => ?_)
                  · replace hF := hF.to (if_pos hc396)
                    have hon397 := Sp.on hon395 (by omega)
                    refine x_iconst C.1 (n := 0) dX12_readsWeek_173 ?_
                    refine x_istore C.1 (lv' := [(4, vI 0), (2, vI z370), (3, vI z365), (1, vI z344), (0, .ref (ad 0))]) dX12_readsWeek_174 (by decide) rfl ?_
                    obtain ⟨bd407, hbd407, hF⟩ := lop2_ex hF
                    refine x_loop (I := fun x : Int × (Nat → Nat → Int) => match x with | (z405, V407) => (0 ≤ z405 ∧ z405 ≤ 1) ∧ MI G V407 ∧ FBm 19807040628566295504618520736 V V407 ∧ V407 0 6 = z2 ∧ V407 0 5 = z347 ∧ V407 0 46 = z348 ∧ V407 0 47 = z349 ∧ (∃ nf : Nat, (2 - z405).toNat < nf ∧ Imp (lop2 nf bd407 z405 V407) (f_m_readsWeek V J Rr))) (μ := fun x : Int × (Nat → Nat → Int) => match x with | (z405, V407) => (2 - z405).toNat) (wsf := fun x : Int × (Nat → Nat → Int) => match x with | (z405, V407) => MW cy ad V407 J Rr) (lvf := fun x : Int × (Nat → Nat → Int) => match x with | (z405, V407) => [(4, vI z405), (2, vI z370), (3, vI z365), (1, vI z344), (0, .ref (ad 0))]) (fun x hI407x ih407 => ?_) (0, V346) ⟨⟨by decide, by decide⟩, hI346, hB346, hk345_0, ez347, ez348, ez349, ⟨_, (by omega), hF⟩⟩ rfl rfl
                    obtain ⟨z405, V407⟩ := x
                    obtain ⟨bz405, hI407, hB407, hk406_0, hk406_1, hk406_2, hk406_3, nf407, hn407, hF⟩ := hI407x
                    try dsimp only
                    obtain ⟨nf407, rfl⟩ : ∃ mm, nf407 = mm + 1 := ⟨nf407 - 1, (Nat.succ_pred_eq_of_pos (Nat.lt_of_le_of_lt (Nat.zero_le _) hn407)).symm⟩
                    replace hF := hF.to (lop2_s hbd407)
                    refine x_iload C.1 dX12_readsWeek_176 0 rfl ?_
                    refine x_iload_n C.1 dX12_readsWeek_178 2 rfl ?_
                    refine x_icmp_ge C.1 (tgt := 214) dX12_readsWeek_179 (by decide) (by omega) (by omega) (fun hc414 => ?_) (fun hc414 => ?_)
                    · replace hF := hF.to (if_pos hc414)
                      refine x_aload_n C.1 dX12_readsWeek_214 4 rfl ?_
                      refine x_aload_n C.1 dX12_readsWeek_215 4 rfl ?_
                      refine x_getI C (N := 33) (i := 0) (by decide) rfl vc_X12 wx_X12 46 (by decide) wf_X12_392 rfl dX12_readsWeek_216 (a := z348) hk406_2 ?_
                      refine x_iload_n C.1 dX12_readsWeek_219 2 rfl ?_
                      refine x_iadd C.1 (v := z348 + z365) (by omega) dX12_readsWeek_220 ?_
                      refine x_putI C (N := 33) (i := 0) (by decide) rfl vc_X12 wx_X12 46 (by decide) wf_X12_392 tyX12 tyX12_ok nmX12 rfl (tyX12_ok 46 (by decide)) rfl dX12_readsWeek_221 rfl rfl ?_
                      refine x_gV ?_
                      intro V415 hV415
                      have hI415 : MI G V415 := hI407.up hV415 rfl (by omega) rfl (Or.inl (by decide))
                      have hB415 := hB407.up hV415 rfl
                      replace hF := hF.to (rdb_e (z := V415) hV415.symm)
                      refine x_iload_n C.1 dX12_readsWeek_224 3 rfl ?_
                      refine x_iload_n C.1 dX12_readsWeek_225 2 rfl ?_
                      refine x_iadd C.1 (v := z344 + z365) (by omega) dX12_readsWeek_226 ?_
                      refine x_istore_n C.1 (lv' := [(1, vI (z344 + z365)), (4, vI z405), (2, vI z370), (3, vI z365), (0, .ref (ad 0))]) dX12_readsWeek_227 (by decide) rfl ?_
                      refine x_aload_n C.1 dX12_readsWeek_228 4 rfl ?_
                      refine x_aload_n C.1 dX12_readsWeek_229 4 rfl ?_
                      refine x_getI C (N := 33) (i := 0) (by decide) rfl vc_X12 wx_X12 5 (by decide) wf_X12_144 rfl dX12_readsWeek_230 (a := z347) ((congrFun (congrFun hV415 0) 5).trans ((up2_n _ _ (Or.inr (by decide))).trans hk406_1)) ?_
                      refine x_iconst C.1 (n := 1) dX12_readsWeek_233 ?_
                      refine x_iadd C.1 (v := z347 + 1) (by omega) dX12_readsWeek_234 ?_
                      refine x_putI C (N := 33) (i := 0) (by decide) rfl vc_X12 wx_X12 5 (by decide) wf_X12_144 tyX12 tyX12_ok nmX12 rfl (tyX12_ok 5 (by decide)) rfl dX12_readsWeek_235 rfl rfl ?_
                      refine x_gV ?_
                      intro V416 hV416
                      have hI416 : MI G V416 := hI415.up hV416 rfl (by omega) rfl (Or.inl (by decide))
                      have hB416 := hB415.up hV416 rfl
                      replace hF := hF.to (rdb_e (z := V416) hV416.symm)
                      refine x_goto C.1 (tgt := 31) dX12_readsWeek_238 (by decide) ?_
                      refine x_lv [(1, vI (z344 + z365)), (0, .ref (ad 0))] [0, 4] rfl ?_
                      have hmu346 : (7 - ((z344 + z365) : Int)).toNat < (7 - (z344 : Int)).toNat := (by omega)
                      exact ih346 (z344 + z365, V416) ⟨⟨by omega, by omega⟩, hI416, hB416, (by rw [((congrFun (congrFun hV416 0) 46).trans ((up2_n _ _ (Or.inr (by decide))).trans ((congrFun (congrFun hV415 0) 46).trans (up2_s _ _ _ _)))), ((congrFun (congrFun hV416 0) 47).trans ((up2_n _ _ (Or.inr (by decide))).trans ((congrFun (congrFun hV415 0) 47).trans ((up2_n _ _ (Or.inr (by decide))).trans hk406_3))))]; omega), (by left; rw [((congrFun (congrFun hV416 0) 47).trans ((up2_n _ _ (Or.inr (by decide))).trans ((congrFun (congrFun hV415 0) 47).trans ((up2_n _ _ (Or.inr (by decide))).trans hk406_3))))]; omega), (by rw [((congrFun (congrFun hV416 0) 5).trans (up2_s _ _ _ _))]; omega), ((congrFun (congrFun hV416 0) 6).trans ((up2_n _ _ (Or.inr (by decide))).trans ((congrFun (congrFun hV415 0) 6).trans ((up2_n _ _ (Or.inr (by decide))).trans hk406_0)))), ⟨nf346, Nat.lt_of_lt_of_le hmu346 (Nat.le_of_lt_succ hn346), hF⟩⟩ hmu346
                    · replace hF := hF.to (if_neg hc414)
                      refine x_aload_n C.1 dX12_readsWeek_182 4 rfl ?_
                      refine x_getA C (N := 33) (i := 0) (by decide) rfl vc_X12 wx_X12 48 (by decide) wf_X12_99 (a := 30) rfl dX12_readsWeek_183 ?_
                      refine x_aload_n C.1 dX12_readsWeek_186 4 rfl ?_
                      refine x_getI C (N := 33) (i := 0) (by decide) rfl vc_X12 wx_X12 46 (by decide) wf_X12_392 rfl dX12_readsWeek_187 (a := z348) hk406_2 ?_
                      refine x_iload C.1 dX12_readsWeek_190 0 rfl ?_
                      refine x_iadd C.1 (v := z348 + z405) (by omega) dX12_readsWeek_192 ?_
                      refine x_iload_n C.1 dX12_readsWeek_193 1 rfl ?_
                      refine x_bipush C.1 (n := 46) dX12_readsWeek_194 ?_
                      refine x_icmp_ne_t C.1 (tgt := 203) dX12_readsWeek_196 (by decide) (by omega) (by decide) (by omega) ?_
                      refine x_iload_n C.1 dX12_readsWeek_203 1 rfl ?_
                      refine x_bipush C.1 (n := 97) dX12_readsWeek_204 ?_
                      refine x_isub C.1 (v := z370 - 97) (by omega) dX12_readsWeek_206 ?_
                      refine x_iast C (N := 33) (i := 30) (q := z348 + z405) (a := z370 - 97) (by decide) rfl (by omega) (by decide) dX12_readsWeek_207 ?_
                      refine x_gV ?_
                      intro V417 hV417
                      have hI417 : MI G V417 := hI407.up hV417 rfl (by omega) rfl (Or.inl (by decide))
                      have hB417 := hB407.up hV417 (by rw [mkey_r (by decide)]; rfl)
                      replace hF := hF.to (rdb_e (z := V417) hV417.symm)
                      refine x_iinc C.1 (v := z405 + 1) (lv' := [(4, vI (z405 + 1)), (2, vI z370), (3, vI z365), (1, vI z344), (0, .ref (ad 0))]) (by omega) dX12_readsWeek_208 0 rfl (by decide) rfl ?_
                      refine x_goto C.1 (tgt := 176) dX12_readsWeek_211 (by decide) ?_
                      have hmu407 : (2 - (z405 + 1)).toNat < (2 - z405).toNat := (by omega)
                      exact ih407 (z405 + 1, V417) ⟨⟨by omega, by omega⟩, hI417, hB417, ((congrFun (congrFun hV417 0) 6).trans ((up2_n _ _ (Or.inl (by decide))).trans hk406_0)), ((congrFun (congrFun hV417 0) 5).trans ((up2_n _ _ (Or.inl (by decide))).trans hk406_1)), ((congrFun (congrFun hV417 0) 46).trans ((up2_n _ _ (Or.inl (by decide))).trans hk406_2)), ((congrFun (congrFun hV417 0) 47).trans ((up2_n _ _ (Or.inl (by decide))).trans hk406_3)), ⟨nf407, Nat.lt_of_lt_of_le hmu407 (Nat.le_of_lt_succ hn407), hF⟩⟩ hmu407
                  · replace hF := hF.to (if_neg (fun hh => hh hc396))
                    refine x_aload_n C.1 dX12_readsWeek_162 3 rfl ?_
                    refine x_bipush C.1 (n := 7) dX12_readsWeek_163 ?_
                    refine x_aload_n C.1 dX12_readsWeek_165 3 rfl ?_
                    refine x_getI C (N := 33) (i := 0) (by decide) rfl vc_X12 wx_X12 5 (by decide) wf_X12_144 rfl dX12_readsWeek_166 (a := z347) ez347 ?_
                    refine x_callVi C (As := [vI 7, vI z347]) (rest := []) 0 (xw_at (N := 33) (i := 0) (by decide) rfl) vc_X12 (m_wrongAt l D cy ad G V346 J Rr hI346 hJ hR 7 ⟨by decide, by decide⟩ z347 ⟨by omega, by omega⟩) (l1 := []) (l2 := []) (List.append_nil _).symm (w2 := fun u : Nat → Nat → Int => MW cy ad u J Rr) (fun _ => List.append_nil _) rfl wm_yX12_wrongAt wn_X12 wl_X12_157 wi_yX12_wrongAt we_yX12_wrongAt hd_yX12_wrongAt rfl ⟨Nat.le_of_ble_eq_true rfl, Nat.le_of_ble_eq_true rfl⟩ (Nat.le_of_ble_eq_true rfl) ⟨Nat.le_of_ble_eq_true rfl, Nat.le_of_ble_eq_true rfl⟩ dX12_readsWeek_169 (fun z418 V418 bz418 h418 => ?_)
                    obtain ⟨hI418, bq418, hx418_0, hBc418, hFc418⟩ := h418
                    replace hF := calVM_i hF hFc418 hBc418
                    replace hF := hF.fc bq418
                    have hB418 := hB346.tr hBc418 (m := 128) rfl
                    exact x_zret (S := (Nat → Nat → Int)) (post := (fun a (u : Nat → Nat → Int) => MI G u ∧ (0 ≤ a ∧ a ≤ 1) ∧ Sp a (u 0 46 = 7 * u 0 47) ∧ u 0 6 = V 0 6 ∧ V 0 5 ≤ u 0 5 ∧ FBm 19807040628566295504618520736 V u ∧ (f_m_readsWeek V J Rr) (a, u))) (w1 := (fun u : Nat → Nat → Int => MW cy ad u J Rr)) (a := z418) C hr rfl dX12_readsWeek_172 (by omega) V418 rfl ⟨hI418, ⟨by omega, by omega⟩, (Or.inl (by omega)), (((hx418_0 (0) (6) (Or.inr (by decide))).trans hk345_0).trans ez2.symm), (by rw [((hx418_0 (0) (5) (Or.inr (by decide))).trans ez347)]; omega), hB418, hF _ rfl⟩
                · replace hF := hF.to (if_neg (fun hh => hh hc393))
                  have hof419 := Sq.off hx392_0 (by omega)
                  refine x_aload_n C.1 dX12_readsWeek_135 3 rfl ?_
                  refine x_iconst C.1 (n := 1) dX12_readsWeek_136 ?_
                  refine x_aload_n C.1 dX12_readsWeek_137 3 rfl ?_
                  refine x_getI C (N := 33) (i := 0) (by decide) rfl vc_X12 wx_X12 5 (by decide) wf_X12_144 rfl dX12_readsWeek_138 (a := z347) ez347 ?_
                  refine x_callVi C (As := [vI 1, vI z347]) (rest := []) 0 (xw_at (N := 33) (i := 0) (by decide) rfl) vc_X12 (m_wrongAt l D cy ad G V346 J Rr hI346 hJ hR 1 ⟨by decide, by decide⟩ z347 ⟨by omega, by omega⟩) (l1 := []) (l2 := []) (List.append_nil _).symm (w2 := fun u : Nat → Nat → Int => MW cy ad u J Rr) (fun _ => List.append_nil _) rfl wm_yX12_wrongAt wn_X12 wl_X12_157 wi_yX12_wrongAt we_yX12_wrongAt hd_yX12_wrongAt rfl ⟨Nat.le_of_ble_eq_true rfl, Nat.le_of_ble_eq_true rfl⟩ (Nat.le_of_ble_eq_true rfl) ⟨Nat.le_of_ble_eq_true rfl, Nat.le_of_ble_eq_true rfl⟩ dX12_readsWeek_141 (fun z420 V420 bz420 h420 => ?_)
                  obtain ⟨hI420, bq420, hx420_0, hBc420, hFc420⟩ := h420
                  replace hF := calVM_i hF hFc420 hBc420
                  replace hF := hF.fc bq420
                  have hB420 := hB346.tr hBc420 (m := 128) rfl
                  exact x_zret (S := (Nat → Nat → Int)) (post := (fun a (u : Nat → Nat → Int) => MI G u ∧ (0 ≤ a ∧ a ≤ 1) ∧ Sp a (u 0 46 = 7 * u 0 47) ∧ u 0 6 = V 0 6 ∧ V 0 5 ≤ u 0 5 ∧ FBm 19807040628566295504618520736 V u ∧ (f_m_readsWeek V J Rr) (a, u))) (w1 := (fun u : Nat → Nat → Int => MW cy ad u J Rr)) (a := z420) C hr rfl dX12_readsWeek_144 (by omega) V420 rfl ⟨hI420, ⟨by omega, by omega⟩, (Or.inl (by omega)), (((hx420_0 (0) (6) (Or.inr (by decide))).trans hk345_0).trans ez2.symm), (by rw [((hx420_0 (0) (5) (Or.inr (by decide))).trans ez347)]; omega), hB420, hF _ rfl⟩
            · replace hF := hF.to (if_neg hc369)
              refine x_aload_n C.1 dX12_readsWeek_103 3 rfl ?_
              refine x_aload_n C.1 dX12_readsWeek_104 3 rfl ?_
              refine x_getI C (N := 33) (i := 0) (by decide) rfl vc_X12 wx_X12 5 (by decide) wf_X12_144 rfl dX12_readsWeek_105 (a := z347) ez347 ?_
              refine x_iconst C.1 (n := 1) dX12_readsWeek_108 ?_
              refine x_iadd C.1 (v := z347 + 1) (by omega) dX12_readsWeek_109 ?_
              refine x_putI C (N := 33) (i := 0) (by decide) rfl vc_X12 wx_X12 5 (by decide) wf_X12_144 tyX12 tyX12_ok nmX12 rfl (tyX12_ok 5 (by decide)) rfl dX12_readsWeek_110 rfl rfl ?_
              refine x_gV ?_
              intro V421 hV421
              have hI421 : MI G V421 := hI346.up hV421 rfl (by omega) rfl (Or.inl (by decide))
              have hB421 := hB346.up hV421 rfl
              replace hF := hF.to (rdb_e (z := V421) hV421.symm)
              refine x_aload_n C.1 dX12_readsWeek_113 3 rfl ?_
              refine x_callVi C (As := []) (rest := []) 0 (xw_at (N := 33) (i := 0) (by decide) rfl) vc_X12 (m_here l D cy ad G V421 J Rr hI421 hJ hR ) (l1 := []) (l2 := []) (List.append_nil _).symm (w2 := fun _ => MW cy ad V421 J Rr) (fun _ => List.append_nil _) rfl wm_yX12_here wn_X12 wl_X12_150 wi_yX12_here we_yX12_here hd_yX12_here rfl ⟨Nat.le_of_ble_eq_true rfl, Nat.le_of_ble_eq_true rfl⟩ (Nat.le_of_ble_eq_true rfl) ⟨Nat.le_of_ble_eq_true rfl, Nat.le_of_ble_eq_true rfl⟩ dX12_readsWeek_114 (fun z422 u422 bz422 h422 => ?_)
              obtain ⟨bq422, hx422_0, hx422_1, hFc422⟩ := h422
              replace hF := calR_i hF hFc422
              replace hF := hF.fc bq422
              rw [((congrFun (congrFun hV421 0) 5).trans (up2_s _ _ _ _)), ((congrFun (congrFun hV421 0) 6).trans ((up2_n _ _ (Or.inr (by decide))).trans hk345_0))] at hx422_0
              refine x_istore_n C.1 (lv' := [(2, vI z422), (3, vI z365), (1, vI z344), (0, .ref (ad 0))]) dX12_readsWeek_117 (by decide) rfl ?_
              refine x_iload_n C.1 dX12_readsWeek_118 0 rfl ?_
              refine x_bipush C.1 (n := 46) dX12_readsWeek_119 ?_
              refine x_icmp_eq C.1 (tgt := 145) dX12_readsWeek_121 (by decide) (by omega) (by decide) (fun hc423 => ?_) (fun hc423 => ?_)
              · replace hF := hF.to (if_pos hc423)
                refine x_iload_n C.1 dX12_readsWeek_145 0 rfl ?_
                refine x_bipush C.1 (n := 46) dX12_readsWeek_146 ?_
                refine x_icmp_eq_t C.1 (tgt := 173) dX12_readsWeek_148 (by decide) (by omega) (by decide) (by omega) ?_
                refine x_iconst C.1 (n := 0) dX12_readsWeek_173 ?_
                refine x_istore C.1 (lv' := [(4, vI 0), (2, vI z422), (3, vI z365), (1, vI z344), (0, .ref (ad 0))]) dX12_readsWeek_174 (by decide) rfl ?_
                obtain ⟨bd453, hbd453, hF⟩ := lop2_ex hF
                refine x_loop (I := fun x : Int × (Nat → Nat → Int) => match x with | (z451, V453) => (0 ≤ z451 ∧ z451 ≤ 7) ∧ MI G V453 ∧ FBm 19807040628566295504618520736 V V453 ∧ V453 0 6 = z2 ∧ V453 0 46 = z348 ∧ V453 0 47 = z349 ∧ V453 0 5 = z347 + 1 ∧ (∃ nf : Nat, (8 - z451).toNat < nf ∧ Imp (lop2 nf bd453 z451 V453) (f_m_readsWeek V J Rr))) (μ := fun x : Int × (Nat → Nat → Int) => match x with | (z451, V453) => (8 - z451).toNat) (wsf := fun x : Int × (Nat → Nat → Int) => match x with | (z451, V453) => MW cy ad V453 J Rr) (lvf := fun x : Int × (Nat → Nat → Int) => match x with | (z451, V453) => [(4, vI z451), (2, vI z422), (3, vI z365), (1, vI z344), (0, .ref (ad 0))]) (fun x hI453x ih453 => ?_) (0, V421) ⟨⟨by decide, by decide⟩, hI421, hB421, ((congrFun (congrFun hV421 0) 6).trans ((up2_n _ _ (Or.inr (by decide))).trans hk345_0)), ((congrFun (congrFun hV421 0) 46).trans ((up2_n _ _ (Or.inr (by decide))).trans ez348)), ((congrFun (congrFun hV421 0) 47).trans ((up2_n _ _ (Or.inr (by decide))).trans ez349)), ((congrFun (congrFun hV421 0) 5).trans (up2_s _ _ _ _)), ⟨_, (by omega), hF⟩⟩ rfl rfl
                obtain ⟨z451, V453⟩ := x
                obtain ⟨bz451, hI453, hB453, hk452_0, hk452_1, hk452_2, hk452_3, nf453, hn453, hF⟩ := hI453x
                try dsimp only
                obtain ⟨nf453, rfl⟩ : ∃ mm, nf453 = mm + 1 := ⟨nf453 - 1, (Nat.succ_pred_eq_of_pos (Nat.lt_of_le_of_lt (Nat.zero_le _) hn453)).symm⟩
                replace hF := hF.to (lop2_s hbd453)
                refine x_iload C.1 dX12_readsWeek_176 0 rfl ?_
                refine x_iload_n C.1 dX12_readsWeek_178 2 rfl ?_
                refine x_icmp_ge C.1 (tgt := 214) dX12_readsWeek_179 (by decide) (by omega) (by omega) (fun hc460 => ?_) (fun hc460 => ?_)
                · replace hF := hF.to (if_pos hc460)
                  refine x_aload_n C.1 dX12_readsWeek_214 4 rfl ?_
                  refine x_aload_n C.1 dX12_readsWeek_215 4 rfl ?_
                  refine x_getI C (N := 33) (i := 0) (by decide) rfl vc_X12 wx_X12 46 (by decide) wf_X12_392 rfl dX12_readsWeek_216 (a := z348) hk452_1 ?_
                  refine x_iload_n C.1 dX12_readsWeek_219 2 rfl ?_
                  refine x_iadd C.1 (v := z348 + z365) (by omega) dX12_readsWeek_220 ?_
                  refine x_putI C (N := 33) (i := 0) (by decide) rfl vc_X12 wx_X12 46 (by decide) wf_X12_392 tyX12 tyX12_ok nmX12 rfl (tyX12_ok 46 (by decide)) rfl dX12_readsWeek_221 rfl rfl ?_
                  refine x_gV ?_
                  intro V461 hV461
                  have hI461 : MI G V461 := hI453.up hV461 rfl (by omega) rfl (Or.inl (by decide))
                  have hB461 := hB453.up hV461 rfl
                  replace hF := hF.to (rdb_e (z := V461) hV461.symm)
                  refine x_iload_n C.1 dX12_readsWeek_224 3 rfl ?_
                  refine x_iload_n C.1 dX12_readsWeek_225 2 rfl ?_
                  refine x_iadd C.1 (v := z344 + z365) (by omega) dX12_readsWeek_226 ?_
                  refine x_istore_n C.1 (lv' := [(1, vI (z344 + z365)), (4, vI z451), (2, vI z422), (3, vI z365), (0, .ref (ad 0))]) dX12_readsWeek_227 (by decide) rfl ?_
                  refine x_aload_n C.1 dX12_readsWeek_228 4 rfl ?_
                  refine x_aload_n C.1 dX12_readsWeek_229 4 rfl ?_
                  refine x_getI C (N := 33) (i := 0) (by decide) rfl vc_X12 wx_X12 5 (by decide) wf_X12_144 rfl dX12_readsWeek_230 (a := z347 + 1) ((congrFun (congrFun hV461 0) 5).trans ((up2_n _ _ (Or.inr (by decide))).trans hk452_3)) ?_
                  refine x_iconst C.1 (n := 1) dX12_readsWeek_233 ?_
                  refine x_iadd C.1 (v := z347 + 2) (by omega) dX12_readsWeek_234 ?_
                  refine x_putI C (N := 33) (i := 0) (by decide) rfl vc_X12 wx_X12 5 (by decide) wf_X12_144 tyX12 tyX12_ok nmX12 rfl (tyX12_ok 5 (by decide)) rfl dX12_readsWeek_235 rfl rfl ?_
                  refine x_gV ?_
                  intro V462 hV462
                  have hI462 : MI G V462 := hI461.up hV462 rfl (by omega) rfl (Or.inl (by decide))
                  have hB462 := hB461.up hV462 rfl
                  replace hF := hF.to (rdb_e (z := V462) hV462.symm)
                  refine x_goto C.1 (tgt := 31) dX12_readsWeek_238 (by decide) ?_
                  refine x_lv [(1, vI (z344 + z365)), (0, .ref (ad 0))] [0, 4] rfl ?_
                  have hmu346 : (7 - ((z344 + z365) : Int)).toNat < (7 - (z344 : Int)).toNat := (by omega)
                  exact ih346 (z344 + z365, V462) ⟨⟨by omega, by omega⟩, hI462, hB462, (by rw [((congrFun (congrFun hV462 0) 46).trans ((up2_n _ _ (Or.inr (by decide))).trans ((congrFun (congrFun hV461 0) 46).trans (up2_s _ _ _ _)))), ((congrFun (congrFun hV462 0) 47).trans ((up2_n _ _ (Or.inr (by decide))).trans ((congrFun (congrFun hV461 0) 47).trans ((up2_n _ _ (Or.inr (by decide))).trans hk452_2))))]; omega), (by left; rw [((congrFun (congrFun hV462 0) 47).trans ((up2_n _ _ (Or.inr (by decide))).trans ((congrFun (congrFun hV461 0) 47).trans ((up2_n _ _ (Or.inr (by decide))).trans hk452_2))))]; omega), (by rw [((congrFun (congrFun hV462 0) 5).trans (up2_s _ _ _ _))]; omega), ((congrFun (congrFun hV462 0) 6).trans ((up2_n _ _ (Or.inr (by decide))).trans ((congrFun (congrFun hV461 0) 6).trans ((up2_n _ _ (Or.inr (by decide))).trans hk452_0)))), ⟨nf346, Nat.lt_of_lt_of_le hmu346 (Nat.le_of_lt_succ hn346), hF⟩⟩ hmu346
                · replace hF := hF.to (if_neg hc460)
                  refine x_aload_n C.1 dX12_readsWeek_182 4 rfl ?_
                  refine x_getA C (N := 33) (i := 0) (by decide) rfl vc_X12 wx_X12 48 (by decide) wf_X12_99 (a := 30) rfl dX12_readsWeek_183 ?_
                  refine x_aload_n C.1 dX12_readsWeek_186 4 rfl ?_
                  refine x_getI C (N := 33) (i := 0) (by decide) rfl vc_X12 wx_X12 46 (by decide) wf_X12_392 rfl dX12_readsWeek_187 (a := z348) hk452_1 ?_
                  refine x_iload C.1 dX12_readsWeek_190 0 rfl ?_
                  refine x_iadd C.1 (v := z348 + z451) (by omega) dX12_readsWeek_192 ?_
                  refine x_iload_n C.1 dX12_readsWeek_193 1 rfl ?_
                  refine x_bipush C.1 (n := 46) dX12_readsWeek_194 ?_
                  refine x_icmp_ne_f C.1 (tgt := 203) dX12_readsWeek_196 (by decide) (by omega) (by decide) (by omega) ?_
                  refine x_iconst C.1 (n := -1) dX12_readsWeek_199 ?_
                  refine x_goto C.1 (tgt := 207) dX12_readsWeek_200 (by decide) ?_
                  refine x_iast C (N := 33) (i := 30) (q := z348 + z451) (a := (-1)) (by decide) rfl (by omega) (by decide) dX12_readsWeek_207 ?_
                  refine x_gV ?_
                  intro V463 hV463
                  have hI463 : MI G V463 := hI453.up hV463 rfl (by decide) rfl (Or.inl (by decide))
                  have hB463 := hB453.up hV463 (by rw [mkey_r (by decide)]; rfl)
                  replace hF := hF.to (rdb_e (z := V463) hV463.symm)
                  refine x_iinc C.1 (v := z451 + 1) (lv' := [(4, vI (z451 + 1)), (2, vI z422), (3, vI z365), (1, vI z344), (0, .ref (ad 0))]) (by omega) dX12_readsWeek_208 0 rfl (by decide) rfl ?_
                  refine x_goto C.1 (tgt := 176) dX12_readsWeek_211 (by decide) ?_
                  have hmu453 : (8 - (z451 + 1)).toNat < (8 - z451).toNat := (by omega)
                  exact ih453 (z451 + 1, V463) ⟨⟨by omega, by omega⟩, hI463, hB463, ((congrFun (congrFun hV463 0) 6).trans ((up2_n _ _ (Or.inl (by decide))).trans hk452_0)), ((congrFun (congrFun hV463 0) 46).trans ((up2_n _ _ (Or.inl (by decide))).trans hk452_1)), ((congrFun (congrFun hV463 0) 47).trans ((up2_n _ _ (Or.inl (by decide))).trans hk452_2)), ((congrFun (congrFun hV463 0) 5).trans ((up2_n _ _ (Or.inl (by decide))).trans hk452_3)), ⟨nf453, Nat.lt_of_lt_of_le hmu453 (Nat.le_of_lt_succ hn453), hF⟩⟩ hmu453
              · replace hF := hF.to (if_neg hc423)
                refine x_iload_n C.1 dX12_readsWeek_124 0 rfl ?_
                refine x_bipush C.1 (n := 97) dX12_readsWeek_125 ?_
                refine x_bipush C.1 (n := 104) dX12_readsWeek_127 ?_
                refine x_callSi C (As := [vI z422, vI 97, vI 104]) (rest := []) (m_in l D cy z422 ⟨by omega, by omega⟩ 97 ⟨by decide, by decide⟩ 104 ⟨by decide, by decide⟩) (l1 := []) (l2 := _) rfl (w2 := fun _ => _) (fun _ => rfl) rfl wm_yX12_in wn_X12 wl_X12_126 wi_yX12_in hd_yX12_in rfl ⟨Nat.le_of_ble_eq_true rfl, Nat.le_of_ble_eq_true rfl⟩ (Nat.le_of_ble_eq_true rfl) ⟨Nat.le_of_ble_eq_true rfl, Nat.le_of_ble_eq_true rfl⟩ dX12_readsWeek_129 (fun z464 u464 bz464 h464 => ?_)
                obtain ⟨bq464, hx464_0, hFc464⟩ := h464
                replace hF := calR_i hF hFc464
                replace hF := hF.fc bq464
                refine x_if_ne C.1 (tgt := 145) dX12_readsWeek_132 (by decide) (by omega) (fun hc465 => ?_) (fun hc465 => ?_)
                · replace hF := hF.to (if_pos hc465)
                  have hon466 := Sq.on hx464_0 (by omega)
                  refine x_iload_n C.1 dX12_readsWeek_145 0 rfl ?_
                  refine x_bipush C.1 (n := 46) dX12_readsWeek_146 ?_
                  refine x_icmp_eq_f C.1 (tgt := 173) dX12_readsWeek_148 (by decide) (by omega) (by decide) (by omega) ?_
                  refine x_aload_n C.1 dX12_readsWeek_151 3 rfl ?_
                  refine x_iload_n C.1 dX12_readsWeek_152 0 rfl ?_
                  refine x_bipush C.1 (n := 97) dX12_readsWeek_153 ?_
                  refine x_isub C.1 (v := z422 - 97) (by omega) dX12_readsWeek_155 ?_
                  refine x_callVi C (As := [vI (z422 - 97)]) (rest := []) 0 (xw_at (N := 33) (i := 0) (by decide) rfl) vc_X12 (m_isPerson l D cy ad G V421 J Rr hI421 hJ hR (z422 - 97) ⟨by omega, by omega⟩) (l1 := []) (l2 := []) (List.append_nil _).symm (w2 := fun _ => MW cy ad V421 J Rr) (fun _ => List.append_nil _) rfl wm_yX12_isPerson wn_X12 wl_X12_259 wi_yX12_isPerson we_yX12_isPerson hd_yX12_isPerson rfl ⟨Nat.le_of_ble_eq_true rfl, Nat.le_of_ble_eq_true rfl⟩ (Nat.le_of_ble_eq_true rfl) ⟨Nat.le_of_ble_eq_true rfl, Nat.le_of_ble_eq_true rfl⟩ dX12_readsWeek_156 (fun z467 u467 bz467 h467 => ?_)
                  obtain ⟨hon467, hFc467⟩ := h467
                  replace hF := calR_i hF hFc467
                  replace hF := hF.fc hon467.r
                  have bq467 := Sp.r hon467
                  refine x_if_ne C.1 (tgt := 173) dX12_readsWeek_159 (by decide) (by omega) (fun hc468 => ?_) (fun hc468 => ?_)
                  · replace hF := hF.to (if_pos hc468)
                    have hon469 := Sp.on hon467 (by omega)
                    refine x_iconst C.1 (n := 0) dX12_readsWeek_173 ?_
                    refine x_istore C.1 (lv' := [(4, vI 0), (2, vI z422), (3, vI z365), (1, vI z344), (0, .ref (ad 0))]) dX12_readsWeek_174 (by decide) rfl ?_
                    obtain ⟨bd499, hbd499, hF⟩ := lop2_ex hF
                    refine x_loop (I := fun x : Int × (Nat → Nat → Int) => match x with | (z497, V499) => (0 ≤ z497 ∧ z497 ≤ 7) ∧ MI G V499 ∧ FBm 19807040628566295504618520736 V V499 ∧ V499 0 6 = z2 ∧ V499 0 46 = z348 ∧ V499 0 47 = z349 ∧ V499 0 5 = z347 + 1 ∧ (∃ nf : Nat, (8 - z497).toNat < nf ∧ Imp (lop2 nf bd499 z497 V499) (f_m_readsWeek V J Rr))) (μ := fun x : Int × (Nat → Nat → Int) => match x with | (z497, V499) => (8 - z497).toNat) (wsf := fun x : Int × (Nat → Nat → Int) => match x with | (z497, V499) => MW cy ad V499 J Rr) (lvf := fun x : Int × (Nat → Nat → Int) => match x with | (z497, V499) => [(4, vI z497), (2, vI z422), (3, vI z365), (1, vI z344), (0, .ref (ad 0))]) (fun x hI499x ih499 => ?_) (0, V421) ⟨⟨by decide, by decide⟩, hI421, hB421, ((congrFun (congrFun hV421 0) 6).trans ((up2_n _ _ (Or.inr (by decide))).trans hk345_0)), ((congrFun (congrFun hV421 0) 46).trans ((up2_n _ _ (Or.inr (by decide))).trans ez348)), ((congrFun (congrFun hV421 0) 47).trans ((up2_n _ _ (Or.inr (by decide))).trans ez349)), ((congrFun (congrFun hV421 0) 5).trans (up2_s _ _ _ _)), ⟨_, (by omega), hF⟩⟩ rfl rfl
                    obtain ⟨z497, V499⟩ := x
                    obtain ⟨bz497, hI499, hB499, hk498_0, hk498_1, hk498_2, hk498_3, nf499, hn499, hF⟩ := hI499x
                    try dsimp only
                    obtain ⟨nf499, rfl⟩ : ∃ mm, nf499 = mm + 1 := ⟨nf499 - 1, (Nat.succ_pred_eq_of_pos (Nat.lt_of_le_of_lt (Nat.zero_le _) hn499)).symm⟩
                    replace hF := hF.to (lop2_s hbd499)
                    refine x_iload C.1 dX12_readsWeek_176 0 rfl ?_
                    refine x_iload_n C.1 dX12_readsWeek_178 2 rfl ?_
                    refine x_icmp_ge C.1 (tgt := 214) dX12_readsWeek_179 (by decide) (by omega) (by omega) (fun hc506 => ?_) (fun hc506 => ?_)
                    · replace hF := hF.to (if_pos hc506)
                      refine x_aload_n C.1 dX12_readsWeek_214 4 rfl ?_
                      refine x_aload_n C.1 dX12_readsWeek_215 4 rfl ?_
                      refine x_getI C (N := 33) (i := 0) (by decide) rfl vc_X12 wx_X12 46 (by decide) wf_X12_392 rfl dX12_readsWeek_216 (a := z348) hk498_1 ?_
                      refine x_iload_n C.1 dX12_readsWeek_219 2 rfl ?_
                      refine x_iadd C.1 (v := z348 + z365) (by omega) dX12_readsWeek_220 ?_
                      refine x_putI C (N := 33) (i := 0) (by decide) rfl vc_X12 wx_X12 46 (by decide) wf_X12_392 tyX12 tyX12_ok nmX12 rfl (tyX12_ok 46 (by decide)) rfl dX12_readsWeek_221 rfl rfl ?_
                      refine x_gV ?_
                      intro V507 hV507
                      have hI507 : MI G V507 := hI499.up hV507 rfl (by omega) rfl (Or.inl (by decide))
                      have hB507 := hB499.up hV507 rfl
                      replace hF := hF.to (rdb_e (z := V507) hV507.symm)
                      refine x_iload_n C.1 dX12_readsWeek_224 3 rfl ?_
                      refine x_iload_n C.1 dX12_readsWeek_225 2 rfl ?_
                      refine x_iadd C.1 (v := z344 + z365) (by omega) dX12_readsWeek_226 ?_
                      refine x_istore_n C.1 (lv' := [(1, vI (z344 + z365)), (4, vI z497), (2, vI z422), (3, vI z365), (0, .ref (ad 0))]) dX12_readsWeek_227 (by decide) rfl ?_
                      refine x_aload_n C.1 dX12_readsWeek_228 4 rfl ?_
                      refine x_aload_n C.1 dX12_readsWeek_229 4 rfl ?_
                      refine x_getI C (N := 33) (i := 0) (by decide) rfl vc_X12 wx_X12 5 (by decide) wf_X12_144 rfl dX12_readsWeek_230 (a := z347 + 1) ((congrFun (congrFun hV507 0) 5).trans ((up2_n _ _ (Or.inr (by decide))).trans hk498_3)) ?_
                      refine x_iconst C.1 (n := 1) dX12_readsWeek_233 ?_
                      refine x_iadd C.1 (v := z347 + 2) (by omega) dX12_readsWeek_234 ?_
                      refine x_putI C (N := 33) (i := 0) (by decide) rfl vc_X12 wx_X12 5 (by decide) wf_X12_144 tyX12 tyX12_ok nmX12 rfl (tyX12_ok 5 (by decide)) rfl dX12_readsWeek_235 rfl rfl ?_
                      refine x_gV ?_
                      intro V508 hV508
                      have hI508 : MI G V508 := hI507.up hV508 rfl (by omega) rfl (Or.inl (by decide))
                      have hB508 := hB507.up hV508 rfl
                      replace hF := hF.to (rdb_e (z := V508) hV508.symm)
                      refine x_goto C.1 (tgt := 31) dX12_readsWeek_238 (by decide) ?_
                      refine x_lv [(1, vI (z344 + z365)), (0, .ref (ad 0))] [0, 4] rfl ?_
                      have hmu346 : (7 - ((z344 + z365) : Int)).toNat < (7 - (z344 : Int)).toNat := (by omega)
                      exact ih346 (z344 + z365, V508) ⟨⟨by omega, by omega⟩, hI508, hB508, (by rw [((congrFun (congrFun hV508 0) 46).trans ((up2_n _ _ (Or.inr (by decide))).trans ((congrFun (congrFun hV507 0) 46).trans (up2_s _ _ _ _)))), ((congrFun (congrFun hV508 0) 47).trans ((up2_n _ _ (Or.inr (by decide))).trans ((congrFun (congrFun hV507 0) 47).trans ((up2_n _ _ (Or.inr (by decide))).trans hk498_2))))]; omega), (by left; rw [((congrFun (congrFun hV508 0) 47).trans ((up2_n _ _ (Or.inr (by decide))).trans ((congrFun (congrFun hV507 0) 47).trans ((up2_n _ _ (Or.inr (by decide))).trans hk498_2))))]; omega), (by rw [((congrFun (congrFun hV508 0) 5).trans (up2_s _ _ _ _))]; omega), ((congrFun (congrFun hV508 0) 6).trans ((up2_n _ _ (Or.inr (by decide))).trans ((congrFun (congrFun hV507 0) 6).trans ((up2_n _ _ (Or.inr (by decide))).trans hk498_0)))), ⟨nf346, Nat.lt_of_lt_of_le hmu346 (Nat.le_of_lt_succ hn346), hF⟩⟩ hmu346
                    · replace hF := hF.to (if_neg hc506)
                      refine x_aload_n C.1 dX12_readsWeek_182 4 rfl ?_
                      refine x_getA C (N := 33) (i := 0) (by decide) rfl vc_X12 wx_X12 48 (by decide) wf_X12_99 (a := 30) rfl dX12_readsWeek_183 ?_
                      refine x_aload_n C.1 dX12_readsWeek_186 4 rfl ?_
                      refine x_getI C (N := 33) (i := 0) (by decide) rfl vc_X12 wx_X12 46 (by decide) wf_X12_392 rfl dX12_readsWeek_187 (a := z348) hk498_1 ?_
                      refine x_iload C.1 dX12_readsWeek_190 0 rfl ?_
                      refine x_iadd C.1 (v := z348 + z497) (by omega) dX12_readsWeek_192 ?_
                      refine x_iload_n C.1 dX12_readsWeek_193 1 rfl ?_
                      refine x_bipush C.1 (n := 46) dX12_readsWeek_194 ?_
                      refine x_icmp_ne_t C.1 (tgt := 203) dX12_readsWeek_196 (by decide) (by omega) (by decide) (by omega) ?_
                      refine x_iload_n C.1 dX12_readsWeek_203 1 rfl ?_
                      refine x_bipush C.1 (n := 97) dX12_readsWeek_204 ?_
                      refine x_isub C.1 (v := z422 - 97) (by omega) dX12_readsWeek_206 ?_
                      refine x_iast C (N := 33) (i := 30) (q := z348 + z497) (a := z422 - 97) (by decide) rfl (by omega) (by decide) dX12_readsWeek_207 ?_
                      refine x_gV ?_
                      intro V509 hV509
                      have hI509 : MI G V509 := hI499.up hV509 rfl (by omega) rfl (Or.inl (by decide))
                      have hB509 := hB499.up hV509 (by rw [mkey_r (by decide)]; rfl)
                      replace hF := hF.to (rdb_e (z := V509) hV509.symm)
                      refine x_iinc C.1 (v := z497 + 1) (lv' := [(4, vI (z497 + 1)), (2, vI z422), (3, vI z365), (1, vI z344), (0, .ref (ad 0))]) (by omega) dX12_readsWeek_208 0 rfl (by decide) rfl ?_
                      refine x_goto C.1 (tgt := 176) dX12_readsWeek_211 (by decide) ?_
                      have hmu499 : (8 - (z497 + 1)).toNat < (8 - z497).toNat := (by omega)
                      exact ih499 (z497 + 1, V509) ⟨⟨by omega, by omega⟩, hI509, hB509, ((congrFun (congrFun hV509 0) 6).trans ((up2_n _ _ (Or.inl (by decide))).trans hk498_0)), ((congrFun (congrFun hV509 0) 46).trans ((up2_n _ _ (Or.inl (by decide))).trans hk498_1)), ((congrFun (congrFun hV509 0) 47).trans ((up2_n _ _ (Or.inl (by decide))).trans hk498_2)), ((congrFun (congrFun hV509 0) 5).trans ((up2_n _ _ (Or.inl (by decide))).trans hk498_3)), ⟨nf499, Nat.lt_of_lt_of_le hmu499 (Nat.le_of_lt_succ hn499), hF⟩⟩ hmu499
                  · replace hF := hF.to (if_neg (fun hh => hh hc468))
                    refine x_aload_n C.1 dX12_readsWeek_162 3 rfl ?_
                    refine x_bipush C.1 (n := 7) dX12_readsWeek_163 ?_
                    refine x_aload_n C.1 dX12_readsWeek_165 3 rfl ?_
                    refine x_getI C (N := 33) (i := 0) (by decide) rfl vc_X12 wx_X12 5 (by decide) wf_X12_144 rfl dX12_readsWeek_166 (a := z347 + 1) ((congrFun (congrFun hV421 0) 5).trans (up2_s _ _ _ _)) ?_
                    refine x_callVi C (As := [vI 7, vI (z347 + 1)]) (rest := []) 0 (xw_at (N := 33) (i := 0) (by decide) rfl) vc_X12 (m_wrongAt l D cy ad G V421 J Rr hI421 hJ hR 7 ⟨by decide, by decide⟩ (z347 + 1) ⟨by omega, by omega⟩) (l1 := []) (l2 := []) (List.append_nil _).symm (w2 := fun u : Nat → Nat → Int => MW cy ad u J Rr) (fun _ => List.append_nil _) rfl wm_yX12_wrongAt wn_X12 wl_X12_157 wi_yX12_wrongAt we_yX12_wrongAt hd_yX12_wrongAt rfl ⟨Nat.le_of_ble_eq_true rfl, Nat.le_of_ble_eq_true rfl⟩ (Nat.le_of_ble_eq_true rfl) ⟨Nat.le_of_ble_eq_true rfl, Nat.le_of_ble_eq_true rfl⟩ dX12_readsWeek_169 (fun z510 V510 bz510 h510 => ?_)
                    obtain ⟨hI510, bq510, hx510_0, hBc510, hFc510⟩ := h510
                    replace hF := calVM_i hF hFc510 hBc510
                    replace hF := hF.fc bq510
                    have hB510 := hB421.tr hBc510 (m := 128) rfl
                    exact x_zret (S := (Nat → Nat → Int)) (post := (fun a (u : Nat → Nat → Int) => MI G u ∧ (0 ≤ a ∧ a ≤ 1) ∧ Sp a (u 0 46 = 7 * u 0 47) ∧ u 0 6 = V 0 6 ∧ V 0 5 ≤ u 0 5 ∧ FBm 19807040628566295504618520736 V u ∧ (f_m_readsWeek V J Rr) (a, u))) (w1 := (fun u : Nat → Nat → Int => MW cy ad u J Rr)) (a := z510) C hr rfl dX12_readsWeek_172 (by omega) V510 rfl ⟨hI510, ⟨by omega, by omega⟩, (Or.inl (by omega)), (((hx510_0 (0) (6) (Or.inr (by decide))).trans ((congrFun (congrFun hV421 0) 6).trans ((up2_n _ _ (Or.inr (by decide))).trans hk345_0))).trans ez2.symm), (by rw [((hx510_0 (0) (5) (Or.inr (by decide))).trans ((congrFun (congrFun hV421 0) 5).trans (up2_s _ _ _ _)))]; omega), hB510, hF _ rfl⟩
                · replace hF := hF.to (if_neg (fun hh => hh hc465))
                  have hof511 := Sq.off hx464_0 (by omega)
                  refine x_aload_n C.1 dX12_readsWeek_135 3 rfl ?_
                  refine x_iconst C.1 (n := 1) dX12_readsWeek_136 ?_
                  refine x_aload_n C.1 dX12_readsWeek_137 3 rfl ?_
                  refine x_getI C (N := 33) (i := 0) (by decide) rfl vc_X12 wx_X12 5 (by decide) wf_X12_144 rfl dX12_readsWeek_138 (a := z347 + 1) ((congrFun (congrFun hV421 0) 5).trans (up2_s _ _ _ _)) ?_
                  refine x_callVi C (As := [vI 1, vI (z347 + 1)]) (rest := []) 0 (xw_at (N := 33) (i := 0) (by decide) rfl) vc_X12 (m_wrongAt l D cy ad G V421 J Rr hI421 hJ hR 1 ⟨by decide, by decide⟩ (z347 + 1) ⟨by omega, by omega⟩) (l1 := []) (l2 := []) (List.append_nil _).symm (w2 := fun u : Nat → Nat → Int => MW cy ad u J Rr) (fun _ => List.append_nil _) rfl wm_yX12_wrongAt wn_X12 wl_X12_157 wi_yX12_wrongAt we_yX12_wrongAt hd_yX12_wrongAt rfl ⟨Nat.le_of_ble_eq_true rfl, Nat.le_of_ble_eq_true rfl⟩ (Nat.le_of_ble_eq_true rfl) ⟨Nat.le_of_ble_eq_true rfl, Nat.le_of_ble_eq_true rfl⟩ dX12_readsWeek_141 (fun z512 V512 bz512 h512 => ?_)
                  obtain ⟨hI512, bq512, hx512_0, hBc512, hFc512⟩ := h512
                  replace hF := calVM_i hF hFc512 hBc512
                  replace hF := hF.fc bq512
                  have hB512 := hB421.tr hBc512 (m := 128) rfl
                  exact x_zret (S := (Nat → Nat → Int)) (post := (fun a (u : Nat → Nat → Int) => MI G u ∧ (0 ≤ a ∧ a ≤ 1) ∧ Sp a (u 0 46 = 7 * u 0 47) ∧ u 0 6 = V 0 6 ∧ V 0 5 ≤ u 0 5 ∧ FBm 19807040628566295504618520736 V u ∧ (f_m_readsWeek V J Rr) (a, u))) (w1 := (fun u : Nat → Nat → Int => MW cy ad u J Rr)) (a := z512) C hr rfl dX12_readsWeek_144 (by omega) V512 rfl ⟨hI512, ⟨by omega, by omega⟩, (Or.inl (by omega)), (((hx512_0 (0) (6) (Or.inr (by decide))).trans ((congrFun (congrFun hV421 0) 6).trans ((up2_n _ _ (Or.inr (by decide))).trans hk345_0))).trans ez2.symm), (by rw [((hx512_0 (0) (5) (Or.inr (by decide))).trans ((congrFun (congrFun hV421 0) 5).trans (up2_s _ _ _ _)))]; omega), hB512, hF _ rfl⟩
          · replace hF := hF.to (if_neg hc368)
            refine x_aload_n C.1 dX12_readsWeek_87 3 rfl ?_
            refine x_bipush C.1 (n := 6) dX12_readsWeek_88 ?_
            refine x_aload_n C.1 dX12_readsWeek_90 3 rfl ?_
            refine x_getI C (N := 33) (i := 0) (by decide) rfl vc_X12 wx_X12 5 (by decide) wf_X12_144 rfl dX12_readsWeek_91 (a := z347) ez347 ?_
            refine x_callVi C (As := [vI 6, vI z347]) (rest := []) 0 (xw_at (N := 33) (i := 0) (by decide) rfl) vc_X12 (m_wrongAt l D cy ad G V346 J Rr hI346 hJ hR 6 ⟨by decide, by decide⟩ z347 ⟨by omega, by omega⟩) (l1 := []) (l2 := []) (List.append_nil _).symm (w2 := fun u : Nat → Nat → Int => MW cy ad u J Rr) (fun _ => List.append_nil _) rfl wm_yX12_wrongAt wn_X12 wl_X12_157 wi_yX12_wrongAt we_yX12_wrongAt hd_yX12_wrongAt rfl ⟨Nat.le_of_ble_eq_true rfl, Nat.le_of_ble_eq_true rfl⟩ (Nat.le_of_ble_eq_true rfl) ⟨Nat.le_of_ble_eq_true rfl, Nat.le_of_ble_eq_true rfl⟩ dX12_readsWeek_94 (fun z513 V513 bz513 h513 => ?_)
            obtain ⟨hI513, bq513, hx513_0, hBc513, hFc513⟩ := h513
            replace hF := calVM_i hF hFc513 hBc513
            replace hF := hF.fc bq513
            have hB513 := hB346.tr hBc513 (m := 128) rfl
            exact x_zret (S := (Nat → Nat → Int)) (post := (fun a (u : Nat → Nat → Int) => MI G u ∧ (0 ≤ a ∧ a ≤ 1) ∧ Sp a (u 0 46 = 7 * u 0 47) ∧ u 0 6 = V 0 6 ∧ V 0 5 ≤ u 0 5 ∧ FBm 19807040628566295504618520736 V u ∧ (f_m_readsWeek V J Rr) (a, u))) (w1 := (fun u : Nat → Nat → Int => MW cy ad u J Rr)) (a := z513) C hr rfl dX12_readsWeek_97 (by omega) V513 rfl ⟨hI513, ⟨by omega, by omega⟩, (Or.inl (by omega)), (((hx513_0 (0) (6) (Or.inr (by decide))).trans hk345_0).trans ez2.symm), (by rw [((hx513_0 (0) (5) (Or.inr (by decide))).trans ez347)]; omega), hB513, hF _ rfl⟩
        · refine x_if_eq C.1 (tgt := 77) dX12_readsWeek_67 (by decide) (by omega) (fun hc514 => ?_) (fun hc514 => ?_)
          · replace hF := hF.to (if_pos hc514)
            have hof515 := Sq.off hx362_0 (by omega)
            refine x_iconst C.1 (n := 1) dX12_readsWeek_77 ?_
            exact jn367 1 ⟨⟨by decide, by decide⟩, hF⟩
          · replace hF := hF.to (if_neg hc514)
            have hon516 := Sq.on hx362_0 (by omega)
            refine x_iload_n C.1 dX12_readsWeek_70 0 rfl ?_
            refine x_bipush C.1 (n := 48) dX12_readsWeek_71 ?_
            refine x_isub C.1 (v := z358 - 48) (by omega) dX12_readsWeek_73 ?_
            refine x_goto C.1 (tgt := 78) dX12_readsWeek_74 (by decide) ?_
            exact jn367 (z358 - 48) ⟨⟨by omega, by omega⟩, hF⟩
      · replace hF := hF.to (if_neg (fun hh => hh hc360))
        have hof517 := Sq.off hx359_0 (by omega)
        refine x_aload_n C.1 dX12_readsWeek_49 2 rfl ?_
        refine x_iconst C.1 (n := 1) dX12_readsWeek_50 ?_
        refine x_aload_n C.1 dX12_readsWeek_51 2 rfl ?_
        refine x_getI C (N := 33) (i := 0) (by decide) rfl vc_X12 wx_X12 5 (by decide) wf_X12_144 rfl dX12_readsWeek_52 (a := z347) ez347 ?_
        refine x_callVi C (As := [vI 1, vI z347]) (rest := []) 0 (xw_at (N := 33) (i := 0) (by decide) rfl) vc_X12 (m_wrongAt l D cy ad G V346 J Rr hI346 hJ hR 1 ⟨by decide, by decide⟩ z347 ⟨by omega, by omega⟩) (l1 := []) (l2 := []) (List.append_nil _).symm (w2 := fun u : Nat → Nat → Int => MW cy ad u J Rr) (fun _ => List.append_nil _) rfl wm_yX12_wrongAt wn_X12 wl_X12_157 wi_yX12_wrongAt we_yX12_wrongAt hd_yX12_wrongAt rfl ⟨Nat.le_of_ble_eq_true rfl, Nat.le_of_ble_eq_true rfl⟩ (Nat.le_of_ble_eq_true rfl) ⟨Nat.le_of_ble_eq_true rfl, Nat.le_of_ble_eq_true rfl⟩ dX12_readsWeek_55 (fun z518 V518 bz518 h518 => ?_)
        obtain ⟨hI518, bq518, hx518_0, hBc518, hFc518⟩ := h518
        replace hF := calVM_i hF hFc518 hBc518
        replace hF := hF.fc bq518
        have hB518 := hB346.tr hBc518 (m := 128) rfl
        exact x_zret (S := (Nat → Nat → Int)) (post := (fun a (u : Nat → Nat → Int) => MI G u ∧ (0 ≤ a ∧ a ≤ 1) ∧ Sp a (u 0 46 = 7 * u 0 47) ∧ u 0 6 = V 0 6 ∧ V 0 5 ≤ u 0 5 ∧ FBm 19807040628566295504618520736 V u ∧ (f_m_readsWeek V J Rr) (a, u))) (w1 := (fun u : Nat → Nat → Int => MW cy ad u J Rr)) (a := z518) C hr rfl dX12_readsWeek_58 (by omega) V518 rfl ⟨hI518, ⟨by omega, by omega⟩, (Or.inl (by omega)), (((hx518_0 (0) (6) (Or.inr (by decide))).trans hk345_0).trans ez2.symm), (by rw [((hx518_0 (0) (5) (Or.inr (by decide))).trans ez347)]; omega), hB518, hF _ rfl⟩
  · replace hF := hF.to (if_neg hc7)
    have hon519 := Sq.on hx6_0 (by omega)
    refine x_aload_n C.1 dX12_readsWeek_12 1 rfl ?_
    refine x_getI C (N := 33) (i := 0) (by decide) rfl vc_X12 wx_X12 47 (by decide) wf_X12_389 rfl dX12_readsWeek_13 (a := z4) ez4 ?_
    refine x_bipush C.1 (n := 12) dX12_readsWeek_16 ?_
    refine x_icmp_ne C.1 (tgt := 31) dX12_readsWeek_18 (by decide) (by omega) (by decide) (fun hc520 => ?_) (fun hc520 => ?_)
    · replace hF := hF.to (if_pos hc520)
      obtain ⟨bd858, hbd858, hF⟩ := lop2_ex hF
      refine x_loop (I := fun x : Int × (Nat → Nat → Int) => match x with | (z856, V858) => (0 ≤ z856 ∧ z856 ≤ 7) ∧ MI G V858 ∧ FBm 19807040628566295504618520736 V V858 ∧ V858 0 46 = 7 * V858 0 47 + z856 ∧ (V858 0 47 ≤ 11 ∨ (z856 = 0 ∧ ¬ (hrM V858 = 46 ∨ (97 ≤ hrM V858 ∧ hrM V858 ≤ 104) ∨ (50 ≤ hrM V858 ∧ hrM V858 ≤ 55)))) ∧ V 0 5 ≤ V858 0 5 ∧ V858 0 6 = z2 ∧ (∃ nf : Nat, (7 - (z856 : Int)).toNat < nf ∧ Imp (lop2 nf bd858 z856 V858) (f_m_readsWeek V J Rr))) (μ := fun x : Int × (Nat → Nat → Int) => match x with | (z856, V858) => (7 - (z856 : Int)).toNat) (wsf := fun x : Int × (Nat → Nat → Int) => match x with | (z856, V858) => MW cy ad V858 J Rr) (lvf := fun x : Int × (Nat → Nat → Int) => match x with | (z856, V858) => [(1, vI z856), (0, .ref (ad 0))]) (fun x hI858x ih858 => ?_) (0, V) ⟨⟨by decide, by decide⟩, hI, hB, (by rw [ez3, ez4]; omega), (by rw [ez4]; omega), (by omega), ez2, ⟨_, (Nat.lt_succ_self _), hF⟩⟩ rfl rfl
      obtain ⟨z856, V858⟩ := x
      obtain ⟨bz856, hI858, hB858, hv46, hv47, hv5, hk857_0, nf858, hn858, hF⟩ := hI858x
      try dsimp only
      obtain ⟨nf858, rfl⟩ : ∃ mm, nf858 = mm + 1 := ⟨nf858 - 1, (Nat.succ_pred_eq_of_pos (Nat.lt_of_le_of_lt (Nat.zero_le _) hn858)).symm⟩
      replace hF := hF.to (lop2_s hbd858)
      obtain ⟨z859, ez859, bz859⟩ := hI858.rd 0 5 (x := 0) (y := 220) rfl
      replace hF := hF.to (rdb_e (z := z859) ez859)
      replace hF := hF.fc bz859
      obtain ⟨z860, ez860, bz860⟩ := hI858.rd 0 46 (x := 0) (y := 84) rfl
      replace hF := hF.to (rdb_e (z := z860) ez860)
      replace hF := hF.fc bz860
      obtain ⟨z861, ez861, bz861⟩ := hI858.rd 0 47 (x := 0) (y := 12) rfl
      replace hF := hF.to (rdb_e (z := z861) ez861)
      replace hF := hF.fc bz861
      have hq46 : z860 = 7 * z861 + z856 := by rw [← ez860, ← ez861]; exact hv46
      have hq47 : z861 ≤ 11 ∨ (z856 = 0 ∧ ¬ (hrM V858 = 46 ∨ (97 ≤ hrM V858 ∧ hrM V858 ≤ 104) ∨ (50 ≤ hrM V858 ∧ hrM V858 ≤ 55))) := by rw [← ez861]; exact hv47
      have hq5 : V 0 5 ≤ z859 := by rw [← ez859]; exact hv5
      refine x_iload_n C.1 dX12_readsWeek_31 0 rfl ?_
      refine x_bipush C.1 (n := 7) dX12_readsWeek_32 ?_
      refine x_icmp_ge C.1 (tgt := 241) dX12_readsWeek_34 (by decide) (by omega) (by decide) (fun hc862 => ?_) (fun hc862 => ?_)
      · replace hF := hF.to (if_pos hc862)
        refine x_aload_n C.1 dX12_readsWeek_241 1 rfl ?_
        refine x_aload_n C.1 dX12_readsWeek_242 1 rfl ?_
        refine x_getI C (N := 33) (i := 0) (by decide) rfl vc_X12 wx_X12 47 (by decide) wf_X12_389 rfl dX12_readsWeek_243 (a := z861) ez861 ?_
        refine x_iconst C.1 (n := 1) dX12_readsWeek_246 ?_
        refine x_iadd C.1 (v := z861 + 1) (by omega) dX12_readsWeek_247 ?_
        refine x_putI C (N := 33) (i := 0) (by decide) rfl vc_X12 wx_X12 47 (by decide) wf_X12_389 tyX12 tyX12_ok nmX12 rfl (tyX12_ok 47 (by decide)) rfl dX12_readsWeek_248 rfl rfl ?_
        refine x_gV ?_
        intro V863 hV863
        have hI863 : MI G V863 := hI858.up hV863 rfl (by omega) rfl (Or.inl (by decide))
        have hB863 := hB858.up hV863 rfl
        replace hF := hF.to (rdb_e (z := V863) hV863.symm)
        refine x_aload_n C.1 dX12_readsWeek_251 1 rfl ?_
        refine x_callVi C (As := []) (rest := []) 0 (xw_at (N := 33) (i := 0) (by decide) rfl) vc_X12 (m_here l D cy ad G V863 J Rr hI863 hJ hR ) (l1 := []) (l2 := []) (List.append_nil _).symm (w2 := fun _ => MW cy ad V863 J Rr) (fun _ => List.append_nil _) rfl wm_yX12_here wn_X12 wl_X12_150 wi_yX12_here we_yX12_here hd_yX12_here rfl ⟨Nat.le_of_ble_eq_true rfl, Nat.le_of_ble_eq_true rfl⟩ (Nat.le_of_ble_eq_true rfl) ⟨Nat.le_of_ble_eq_true rfl, Nat.le_of_ble_eq_true rfl⟩ dX12_readsWeek_252 (fun z864 u864 bz864 h864 => ?_)
        obtain ⟨bq864, hx864_0, hx864_1, hFc864⟩ := h864
        replace hF := calR_i hF hFc864
        replace hF := hF.fc bq864
        rw [((congrFun (congrFun hV863 0) 5).trans ((up2_n _ _ (Or.inr (by decide))).trans ez859)), ((congrFun (congrFun hV863 0) 6).trans ((up2_n _ _ (Or.inr (by decide))).trans hk857_0))] at hx864_0
        refine x_callSi C (As := [vI z864]) (rest := []) (m_isDayAt l D cy z864 ⟨by omega, by omega⟩) (l1 := []) (l2 := _) rfl (w2 := fun _ => _) (fun _ => rfl) rfl wm_yX12_isDayAt wn_X12 wl_X12_386 wi_yX12_isDayAt hd_yX12_isDayAt rfl ⟨Nat.le_of_ble_eq_true rfl, Nat.le_of_ble_eq_true rfl⟩ (Nat.le_of_ble_eq_true rfl) ⟨Nat.le_of_ble_eq_true rfl, Nat.le_of_ble_eq_true rfl⟩ dX12_readsWeek_255 (fun z865 u865 bz865 h865 => ?_)
        obtain ⟨bq865, hx865_0, hFc865⟩ := h865
        replace hF := calR_i hF hFc865
        replace hF := hF.fc bq865
        refine x_if_eq C.1 (tgt := 274) dX12_readsWeek_258 (by decide) (by omega) (fun hc866 => ?_) (fun hc866 => ?_)
        · replace hF := hF.to (if_pos hc866)
          have hof867 := Sq.off hx865_0 (by omega)
          refine x_iconst C.1 (n := 1) dX12_readsWeek_274 ?_
          refine x_goto C.1 (tgt := 279) dX12_readsWeek_275 (by decide) ?_
          exact x_zret (S := (Nat → Nat → Int)) (post := (fun a (u : Nat → Nat → Int) => MI G u ∧ (0 ≤ a ∧ a ≤ 1) ∧ Sp a (u 0 46 = 7 * u 0 47) ∧ u 0 6 = V 0 6 ∧ V 0 5 ≤ u 0 5 ∧ FBm 19807040628566295504618520736 V u ∧ (f_m_readsWeek V J Rr) (a, u))) (w1 := (fun u : Nat → Nat → Int => MW cy ad u J Rr)) (a := 1) C hr rfl dX12_readsWeek_279 (by decide) V863 rfl ⟨hI863, ⟨by decide, by decide⟩, (Or.inr ⟨rfl, by rw [((congrFun (congrFun hV863 0) 46).trans ((up2_n _ _ (Or.inr (by decide))).trans ez860)), ((congrFun (congrFun hV863 0) 47).trans (up2_s _ _ _ _))]; omega⟩), (((congrFun (congrFun hV863 0) 6).trans ((up2_n _ _ (Or.inr (by decide))).trans hk857_0)).trans ez2.symm), (by rw [((congrFun (congrFun hV863 0) 5).trans ((up2_n _ _ (Or.inr (by decide))).trans ez859))]; omega), hB863, hF _ rfl⟩
        · replace hF := hF.to (if_neg hc866)
          have hon868 := Sq.on hx865_0 (by omega)
          refine x_aload_n C.1 dX12_readsWeek_261 1 rfl ?_
          refine x_bipush C.1 (n := 6) dX12_readsWeek_262 ?_
          refine x_aload_n C.1 dX12_readsWeek_264 1 rfl ?_
          refine x_getI C (N := 33) (i := 0) (by decide) rfl vc_X12 wx_X12 5 (by decide) wf_X12_144 rfl dX12_readsWeek_265 (a := z859) ((congrFun (congrFun hV863 0) 5).trans ((up2_n _ _ (Or.inr (by decide))).trans ez859)) ?_
          refine x_callVi C (As := [vI 6, vI z859]) (rest := []) 0 (xw_at (N := 33) (i := 0) (by decide) rfl) vc_X12 (m_wrongAt l D cy ad G V863 J Rr hI863 hJ hR 6 ⟨by decide, by decide⟩ z859 ⟨by omega, by omega⟩) (l1 := []) (l2 := []) (List.append_nil _).symm (w2 := fun u : Nat → Nat → Int => MW cy ad u J Rr) (fun _ => List.append_nil _) rfl wm_yX12_wrongAt wn_X12 wl_X12_157 wi_yX12_wrongAt we_yX12_wrongAt hd_yX12_wrongAt rfl ⟨Nat.le_of_ble_eq_true rfl, Nat.le_of_ble_eq_true rfl⟩ (Nat.le_of_ble_eq_true rfl) ⟨Nat.le_of_ble_eq_true rfl, Nat.le_of_ble_eq_true rfl⟩ dX12_readsWeek_268 (fun z869 V869 bz869 h869 => ?_)
          obtain ⟨hI869, bq869, hx869_0, hBc869, hFc869⟩ := h869
          replace hF := calVM_i hF hFc869 hBc869
          replace hF := hF.fc bq869
          have hB869 := hB863.tr hBc869 (m := 128) rfl
          refine x_if_eq_t C.1 (tgt := 278) dX12_readsWeek_271 (by decide) (by omega) (by omega) ?_
          refine x_iconst C.1 (n := 0) dX12_readsWeek_278 ?_
          exact x_zret (S := (Nat → Nat → Int)) (post := (fun a (u : Nat → Nat → Int) => MI G u ∧ (0 ≤ a ∧ a ≤ 1) ∧ Sp a (u 0 46 = 7 * u 0 47) ∧ u 0 6 = V 0 6 ∧ V 0 5 ≤ u 0 5 ∧ FBm 19807040628566295504618520736 V u ∧ (f_m_readsWeek V J Rr) (a, u))) (w1 := (fun u : Nat → Nat → Int => MW cy ad u J Rr)) (a := 0) C hr rfl dX12_readsWeek_279 (by decide) V869 rfl ⟨hI869, ⟨by decide, by decide⟩, (Or.inl (by omega)), (((hx869_0 (0) (6) (Or.inr (by decide))).trans ((congrFun (congrFun hV863 0) 6).trans ((up2_n _ _ (Or.inr (by decide))).trans hk857_0))).trans ez2.symm), (by rw [((hx869_0 (0) (5) (Or.inr (by decide))).trans ((congrFun (congrFun hV863 0) 5).trans ((up2_n _ _ (Or.inr (by decide))).trans ez859)))]; omega), hB869, hF _ rfl⟩
      · replace hF := hF.to (if_neg hc862)
        refine x_aload_n C.1 dX12_readsWeek_37 1 rfl ?_
        refine x_callVi C (As := []) (rest := []) 0 (xw_at (N := 33) (i := 0) (by decide) rfl) vc_X12 (m_here l D cy ad G V858 J Rr hI858 hJ hR ) (l1 := []) (l2 := []) (List.append_nil _).symm (w2 := fun _ => MW cy ad V858 J Rr) (fun _ => List.append_nil _) rfl wm_yX12_here wn_X12 wl_X12_150 wi_yX12_here we_yX12_here hd_yX12_here rfl ⟨Nat.le_of_ble_eq_true rfl, Nat.le_of_ble_eq_true rfl⟩ (Nat.le_of_ble_eq_true rfl) ⟨Nat.le_of_ble_eq_true rfl, Nat.le_of_ble_eq_true rfl⟩ dX12_readsWeek_38 (fun z870 u870 bz870 h870 => ?_)
        obtain ⟨bq870, hx870_0, hx870_1, hFc870⟩ := h870
        replace hF := calR_i hF hFc870
        replace hF := hF.fc bq870
        rw [ez859, hk857_0] at hx870_0
        refine x_istore_n C.1 (lv' := [(2, vI z870), (1, vI z856), (0, .ref (ad 0))]) dX12_readsWeek_41 (by decide) rfl ?_
        refine x_iload_n C.1 dX12_readsWeek_42 0 rfl ?_
        refine x_callSi C (As := [vI z870]) (rest := []) (m_isDayAt l D cy z870 ⟨by omega, by omega⟩) (l1 := []) (l2 := _) rfl (w2 := fun _ => _) (fun _ => rfl) rfl wm_yX12_isDayAt wn_X12 wl_X12_386 wi_yX12_isDayAt hd_yX12_isDayAt rfl ⟨Nat.le_of_ble_eq_true rfl, Nat.le_of_ble_eq_true rfl⟩ (Nat.le_of_ble_eq_true rfl) ⟨Nat.le_of_ble_eq_true rfl, Nat.le_of_ble_eq_true rfl⟩ dX12_readsWeek_43 (fun z871 u871 bz871 h871 => ?_)
        obtain ⟨bq871, hx871_0, hFc871⟩ := h871
        replace hF := calR_i hF hFc871
        replace hF := hF.fc bq871
        refine x_if_ne C.1 (tgt := 59) dX12_readsWeek_46 (by decide) (by omega) (fun hc872 => ?_) (fun hc872 => ?_)
        · replace hF := hF.to (if_pos hc872)
          have hon873 := Sq.on hx871_0 (by omega)
          refine x_iload_n C.1 dX12_readsWeek_59 0 rfl ?_
          refine x_bipush C.1 (n := 50) dX12_readsWeek_60 ?_
          refine x_bipush C.1 (n := 55) dX12_readsWeek_62 ?_
          refine x_callSi C (As := [vI z870, vI 50, vI 55]) (rest := []) (m_in l D cy z870 ⟨by omega, by omega⟩ 50 ⟨by decide, by decide⟩ 55 ⟨by decide, by decide⟩) (l1 := []) (l2 := _) rfl (w2 := fun _ => _) (fun _ => rfl) rfl wm_yX12_in wn_X12 wl_X12_126 wi_yX12_in hd_yX12_in rfl ⟨Nat.le_of_ble_eq_true rfl, Nat.le_of_ble_eq_true rfl⟩ (Nat.le_of_ble_eq_true rfl) ⟨Nat.le_of_ble_eq_true rfl, Nat.le_of_ble_eq_true rfl⟩ dX12_readsWeek_64 (fun z874 u874 bz874 h874 => ?_)
          obtain ⟨bq874, hx874_0, hFc874⟩ := h874
          replace hF := calR_i hF hFc874
          replace hF := hF.fc bq874
          obtain ⟨jf879, hjf879, hF⟩ := jn_ex hF
          refine x_join (I := fun z877 : Int => (1 ≤ z877 ∧ z877 ≤ 7) ∧ Imp (jf879 z877) (f_m_readsWeek V J Rr)) (wsf := fun z877 : Int => MW cy ad V858 J Rr) (lvf := fun z877 : Int => [(2, vI z870), (1, vI z856), (0, .ref (ad 0))]) (stf := fun z877 : Int => [vI z877]) 78 (fun z877 hI879x => ?_) (fun jn879 => ?_)
          · obtain ⟨bz877, hF⟩ := hI879x
            try dsimp only
            replace hF := hF.to (jn_s1 hjf879)
            refine x_istore_n C.1 (lv' := [(3, vI z877), (2, vI z870), (1, vI z856), (0, .ref (ad 0))]) dX12_readsWeek_78 (by decide) rfl ?_
            refine x_iload_n C.1 dX12_readsWeek_79 2 rfl ?_
            refine x_iload_n C.1 dX12_readsWeek_80 0 rfl ?_
            refine x_iadd C.1 (v := z856 + z877) (by omega) dX12_readsWeek_81 ?_
            refine x_bipush C.1 (n := 7) dX12_readsWeek_82 ?_
            refine x_icmp_le C.1 (tgt := 98) dX12_readsWeek_84 (by decide) (by omega) (by decide) (fun hc880 => ?_) (fun hc880 => ?_)
            · replace hF := hF.to (if_pos hc880)
              refine x_iload_n C.1 dX12_readsWeek_98 0 rfl ?_
              refine x_iconst C.1 (n := 1) dX12_readsWeek_99 ?_
              refine x_icmp_le C.1 (tgt := 113) dX12_readsWeek_100 (by decide) (by omega) (by decide) (fun hc881 => ?_) (fun hc881 => ?_)
              · replace hF := hF.to (if_pos hc881)
                refine x_aload_n C.1 dX12_readsWeek_113 3 rfl ?_
                refine x_callVi C (As := []) (rest := []) 0 (xw_at (N := 33) (i := 0) (by decide) rfl) vc_X12 (m_here l D cy ad G V858 J Rr hI858 hJ hR ) (l1 := []) (l2 := []) (List.append_nil _).symm (w2 := fun _ => MW cy ad V858 J Rr) (fun _ => List.append_nil _) rfl wm_yX12_here wn_X12 wl_X12_150 wi_yX12_here we_yX12_here hd_yX12_here rfl ⟨Nat.le_of_ble_eq_true rfl, Nat.le_of_ble_eq_true rfl⟩ (Nat.le_of_ble_eq_true rfl) ⟨Nat.le_of_ble_eq_true rfl, Nat.le_of_ble_eq_true rfl⟩ dX12_readsWeek_114 (fun z882 u882 bz882 h882 => ?_)
                obtain ⟨bq882, hx882_0, hx882_1, hFc882⟩ := h882
                replace hF := calR_i hF hFc882
                replace hF := hF.fc bq882
                rw [ez859, hk857_0] at hx882_0
                refine x_istore_n C.1 (lv' := [(2, vI z882), (3, vI z877), (1, vI z856), (0, .ref (ad 0))]) dX12_readsWeek_117 (by decide) rfl ?_
                refine x_iload_n C.1 dX12_readsWeek_118 0 rfl ?_
                refine x_bipush C.1 (n := 46) dX12_readsWeek_119 ?_
                refine x_icmp_eq C.1 (tgt := 145) dX12_readsWeek_121 (by decide) (by omega) (by decide) (fun hc883 => ?_) (fun hc883 => ?_)
                · replace hF := hF.to (if_pos hc883)
                  refine x_iload_n C.1 dX12_readsWeek_145 0 rfl ?_
                  refine x_bipush C.1 (n := 46) dX12_readsWeek_146 ?_
                  refine x_icmp_eq_t C.1 (tgt := 173) dX12_readsWeek_148 (by decide) (by omega) (by decide) (by omega) ?_
                  refine x_iconst C.1 (n := 0) dX12_readsWeek_173 ?_
                  refine x_istore C.1 (lv' := [(4, vI 0), (2, vI z882), (3, vI z877), (1, vI z856), (0, .ref (ad 0))]) dX12_readsWeek_174 (by decide) rfl ?_
                  obtain ⟨bd893, hbd893, hF⟩ := lop2_ex hF
                  refine x_loop (I := fun x : Int × (Nat → Nat → Int) => match x with | (z891, V893) => (0 ≤ z891 ∧ z891 ≤ 1) ∧ MI G V893 ∧ FBm 19807040628566295504618520736 V V893 ∧ V893 0 6 = z2 ∧ V893 0 5 = z859 ∧ V893 0 46 = z860 ∧ V893 0 47 = z861 ∧ (∃ nf : Nat, (2 - z891).toNat < nf ∧ Imp (lop2 nf bd893 z891 V893) (f_m_readsWeek V J Rr))) (μ := fun x : Int × (Nat → Nat → Int) => match x with | (z891, V893) => (2 - z891).toNat) (wsf := fun x : Int × (Nat → Nat → Int) => match x with | (z891, V893) => MW cy ad V893 J Rr) (lvf := fun x : Int × (Nat → Nat → Int) => match x with | (z891, V893) => [(4, vI z891), (2, vI z882), (3, vI z877), (1, vI z856), (0, .ref (ad 0))]) (fun x hI893x ih893 => ?_) (0, V858) ⟨⟨by decide, by decide⟩, hI858, hB858, hk857_0, ez859, ez860, ez861, ⟨_, (by omega), hF⟩⟩ rfl rfl
                  obtain ⟨z891, V893⟩ := x
                  obtain ⟨bz891, hI893, hB893, hk892_0, hk892_1, hk892_2, hk892_3, nf893, hn893, hF⟩ := hI893x
                  try dsimp only
                  obtain ⟨nf893, rfl⟩ : ∃ mm, nf893 = mm + 1 := ⟨nf893 - 1, (Nat.succ_pred_eq_of_pos (Nat.lt_of_le_of_lt (Nat.zero_le _) hn893)).symm⟩
                  replace hF := hF.to (lop2_s hbd893)
                  refine x_iload C.1 dX12_readsWeek_176 0 rfl ?_
                  refine x_iload_n C.1 dX12_readsWeek_178 2 rfl ?_
                  refine x_icmp_ge C.1 (tgt := 214) dX12_readsWeek_179 (by decide) (by omega) (by omega) (fun hc900 => ?_) (fun hc900 => ?_)
                  · replace hF := hF.to (if_pos hc900)
                    refine x_aload_n C.1 dX12_readsWeek_214 4 rfl ?_
                    refine x_aload_n C.1 dX12_readsWeek_215 4 rfl ?_
                    refine x_getI C (N := 33) (i := 0) (by decide) rfl vc_X12 wx_X12 46 (by decide) wf_X12_392 rfl dX12_readsWeek_216 (a := z860) hk892_2 ?_
                    refine x_iload_n C.1 dX12_readsWeek_219 2 rfl ?_
                    refine x_iadd C.1 (v := z860 + z877) (by omega) dX12_readsWeek_220 ?_
                    refine x_putI C (N := 33) (i := 0) (by decide) rfl vc_X12 wx_X12 46 (by decide) wf_X12_392 tyX12 tyX12_ok nmX12 rfl (tyX12_ok 46 (by decide)) rfl dX12_readsWeek_221 rfl rfl ?_
                    refine x_gV ?_
                    intro V901 hV901
                    have hI901 : MI G V901 := hI893.up hV901 rfl (by omega) rfl (Or.inl (by decide))
                    have hB901 := hB893.up hV901 rfl
                    replace hF := hF.to (rdb_e (z := V901) hV901.symm)
                    refine x_iload_n C.1 dX12_readsWeek_224 3 rfl ?_
                    refine x_iload_n C.1 dX12_readsWeek_225 2 rfl ?_
                    refine x_iadd C.1 (v := z856 + z877) (by omega) dX12_readsWeek_226 ?_
                    refine x_istore_n C.1 (lv' := [(1, vI (z856 + z877)), (4, vI z891), (2, vI z882), (3, vI z877), (0, .ref (ad 0))]) dX12_readsWeek_227 (by decide) rfl ?_
                    refine x_aload_n C.1 dX12_readsWeek_228 4 rfl ?_
                    refine x_aload_n C.1 dX12_readsWeek_229 4 rfl ?_
                    refine x_getI C (N := 33) (i := 0) (by decide) rfl vc_X12 wx_X12 5 (by decide) wf_X12_144 rfl dX12_readsWeek_230 (a := z859) ((congrFun (congrFun hV901 0) 5).trans ((up2_n _ _ (Or.inr (by decide))).trans hk892_1)) ?_
                    refine x_iconst C.1 (n := 1) dX12_readsWeek_233 ?_
                    refine x_iadd C.1 (v := z859 + 1) (by omega) dX12_readsWeek_234 ?_
                    refine x_putI C (N := 33) (i := 0) (by decide) rfl vc_X12 wx_X12 5 (by decide) wf_X12_144 tyX12 tyX12_ok nmX12 rfl (tyX12_ok 5 (by decide)) rfl dX12_readsWeek_235 rfl rfl ?_
                    refine x_gV ?_
                    intro V902 hV902
                    have hI902 : MI G V902 := hI901.up hV902 rfl (by omega) rfl (Or.inl (by decide))
                    have hB902 := hB901.up hV902 rfl
                    replace hF := hF.to (rdb_e (z := V902) hV902.symm)
                    refine x_goto C.1 (tgt := 31) dX12_readsWeek_238 (by decide) ?_
                    refine x_lv [(1, vI (z856 + z877)), (0, .ref (ad 0))] [0, 4] rfl ?_
                    have hmu858 : (7 - ((z856 + z877) : Int)).toNat < (7 - (z856 : Int)).toNat := (by omega)
                    exact ih858 (z856 + z877, V902) ⟨⟨by omega, by omega⟩, hI902, hB902, (by rw [((congrFun (congrFun hV902 0) 46).trans ((up2_n _ _ (Or.inr (by decide))).trans ((congrFun (congrFun hV901 0) 46).trans (up2_s _ _ _ _)))), ((congrFun (congrFun hV902 0) 47).trans ((up2_n _ _ (Or.inr (by decide))).trans ((congrFun (congrFun hV901 0) 47).trans ((up2_n _ _ (Or.inr (by decide))).trans hk892_3))))]; omega), (by left; rw [((congrFun (congrFun hV902 0) 47).trans ((up2_n _ _ (Or.inr (by decide))).trans ((congrFun (congrFun hV901 0) 47).trans ((up2_n _ _ (Or.inr (by decide))).trans hk892_3))))]; omega), (by rw [((congrFun (congrFun hV902 0) 5).trans (up2_s _ _ _ _))]; omega), ((congrFun (congrFun hV902 0) 6).trans ((up2_n _ _ (Or.inr (by decide))).trans ((congrFun (congrFun hV901 0) 6).trans ((up2_n _ _ (Or.inr (by decide))).trans hk892_0)))), ⟨nf858, Nat.lt_of_lt_of_le hmu858 (Nat.le_of_lt_succ hn858), hF⟩⟩ hmu858
                  · replace hF := hF.to (if_neg hc900)
                    refine x_aload_n C.1 dX12_readsWeek_182 4 rfl ?_
                    refine x_getA C (N := 33) (i := 0) (by decide) rfl vc_X12 wx_X12 48 (by decide) wf_X12_99 (a := 30) rfl dX12_readsWeek_183 ?_
                    refine x_aload_n C.1 dX12_readsWeek_186 4 rfl ?_
                    refine x_getI C (N := 33) (i := 0) (by decide) rfl vc_X12 wx_X12 46 (by decide) wf_X12_392 rfl dX12_readsWeek_187 (a := z860) hk892_2 ?_
                    refine x_iload C.1 dX12_readsWeek_190 0 rfl ?_
                    refine x_iadd C.1 (v := z860 + z891) (by omega) dX12_readsWeek_192 ?_
                    refine x_iload_n C.1 dX12_readsWeek_193 1 rfl ?_
                    refine x_bipush C.1 (n := 46) dX12_readsWeek_194 ?_
                    refine x_icmp_ne_f C.1 (tgt := 203) dX12_readsWeek_196 (by decide) (by omega) (by decide) (by omega) ?_
                    refine x_iconst C.1 (n := -1) dX12_readsWeek_199 ?_
                    refine x_goto C.1 (tgt := 207) dX12_readsWeek_200 (by decide) ?_
                    refine x_iast C (N := 33) (i := 30) (q := z860 + z891) (a := (-1)) (by decide) rfl (by omega) (by decide) dX12_readsWeek_207 ?_
                    refine x_gV ?_
                    intro V903 hV903
                    have hI903 : MI G V903 := hI893.up hV903 rfl (by decide) rfl (Or.inl (by decide))
                    have hB903 := hB893.up hV903 (by rw [mkey_r (by decide)]; rfl)
                    replace hF := hF.to (rdb_e (z := V903) hV903.symm)
                    refine x_iinc C.1 (v := z891 + 1) (lv' := [(4, vI (z891 + 1)), (2, vI z882), (3, vI z877), (1, vI z856), (0, .ref (ad 0))]) (by omega) dX12_readsWeek_208 0 rfl (by decide) rfl ?_
                    refine x_goto C.1 (tgt := 176) dX12_readsWeek_211 (by decide) ?_
                    have hmu893 : (2 - (z891 + 1)).toNat < (2 - z891).toNat := (by omega)
                    exact ih893 (z891 + 1, V903) ⟨⟨by omega, by omega⟩, hI903, hB903, ((congrFun (congrFun hV903 0) 6).trans ((up2_n _ _ (Or.inl (by decide))).trans hk892_0)), ((congrFun (congrFun hV903 0) 5).trans ((up2_n _ _ (Or.inl (by decide))).trans hk892_1)), ((congrFun (congrFun hV903 0) 46).trans ((up2_n _ _ (Or.inl (by decide))).trans hk892_2)), ((congrFun (congrFun hV903 0) 47).trans ((up2_n _ _ (Or.inl (by decide))).trans hk892_3)), ⟨nf893, Nat.lt_of_lt_of_le hmu893 (Nat.le_of_lt_succ hn893), hF⟩⟩ hmu893
                · replace hF := hF.to (if_neg hc883)
                  refine x_iload_n C.1 dX12_readsWeek_124 0 rfl ?_
                  refine x_bipush C.1 (n := 97) dX12_readsWeek_125 ?_
                  refine x_bipush C.1 (n := 104) dX12_readsWeek_127 ?_
                  refine x_callSi C (As := [vI z882, vI 97, vI 104]) (rest := []) (m_in l D cy z882 ⟨by omega, by omega⟩ 97 ⟨by decide, by decide⟩ 104 ⟨by decide, by decide⟩) (l1 := []) (l2 := _) rfl (w2 := fun _ => _) (fun _ => rfl) rfl wm_yX12_in wn_X12 wl_X12_126 wi_yX12_in hd_yX12_in rfl ⟨Nat.le_of_ble_eq_true rfl, Nat.le_of_ble_eq_true rfl⟩ (Nat.le_of_ble_eq_true rfl) ⟨Nat.le_of_ble_eq_true rfl, Nat.le_of_ble_eq_true rfl⟩ dX12_readsWeek_129 (fun z904 u904 bz904 h904 => ?_)
                  obtain ⟨bq904, hx904_0, hFc904⟩ := h904
                  replace hF := calR_i hF hFc904
                  replace hF := hF.fc bq904
                  refine x_if_ne C.1 (tgt := 145) dX12_readsWeek_132 (by decide) (by omega) (fun hc905 => ?_) (fun hc905 => ?_)
                  · replace hF := hF.to (if_pos hc905)
                    have hon906 := Sq.on hx904_0 (by omega)
                    refine x_iload_n C.1 dX12_readsWeek_145 0 rfl ?_
                    refine x_bipush C.1 (n := 46) dX12_readsWeek_146 ?_
                    refine x_icmp_eq_f C.1 (tgt := 173) dX12_readsWeek_148 (by decide) (by omega) (by decide) (by omega) ?_
                    refine x_aload_n C.1 dX12_readsWeek_151 3 rfl ?_
                    refine x_iload_n C.1 dX12_readsWeek_152 0 rfl ?_
                    refine x_bipush C.1 (n := 97) dX12_readsWeek_153 ?_
                    refine x_isub C.1 (v := z882 - 97) (by omega) dX12_readsWeek_155 ?_
                    refine x_callVi C (As := [vI (z882 - 97)]) (rest := []) 0 (xw_at (N := 33) (i := 0) (by decide) rfl) vc_X12 (m_isPerson l D cy ad G V858 J Rr hI858 hJ hR (z882 - 97) ⟨by omega, by omega⟩) (l1 := []) (l2 := []) (List.append_nil _).symm (w2 := fun _ => MW cy ad V858 J Rr) (fun _ => List.append_nil _) rfl wm_yX12_isPerson wn_X12 wl_X12_259 wi_yX12_isPerson we_yX12_isPerson hd_yX12_isPerson rfl ⟨Nat.le_of_ble_eq_true rfl, Nat.le_of_ble_eq_true rfl⟩ (Nat.le_of_ble_eq_true rfl) ⟨Nat.le_of_ble_eq_true rfl, Nat.le_of_ble_eq_true rfl⟩ dX12_readsWeek_156 (fun z907 u907 bz907 h907 => ?_)
                    obtain ⟨hon907, hFc907⟩ := h907
                    replace hF := calR_i hF hFc907
                    replace hF := hF.fc hon907.r
                    have bq907 := Sp.r hon907
                    refine x_if_ne C.1 (tgt := 173) dX12_readsWeek_159 (by decide) (by omega) (fun hc908 => ?_) (fun hc908 => ?_)
                    · replace hF := hF.to (if_pos hc908)
                      have hon909 := Sp.on hon907 (by omega)
                      refine x_iconst C.1 (n := 0) dX12_readsWeek_173 ?_
                      refine x_istore C.1 (lv' := [(4, vI 0), (2, vI z882), (3, vI z877), (1, vI z856), (0, .ref (ad 0))]) dX12_readsWeek_174 (by decide) rfl ?_
                      obtain ⟨bd919, hbd919, hF⟩ := lop2_ex hF
                      refine x_loop (I := fun x : Int × (Nat → Nat → Int) => match x with | (z917, V919) => (0 ≤ z917 ∧ z917 ≤ 1) ∧ MI G V919 ∧ FBm 19807040628566295504618520736 V V919 ∧ V919 0 6 = z2 ∧ V919 0 5 = z859 ∧ V919 0 46 = z860 ∧ V919 0 47 = z861 ∧ (∃ nf : Nat, (2 - z917).toNat < nf ∧ Imp (lop2 nf bd919 z917 V919) (f_m_readsWeek V J Rr))) (μ := fun x : Int × (Nat → Nat → Int) => match x with | (z917, V919) => (2 - z917).toNat) (wsf := fun x : Int × (Nat → Nat → Int) => match x with | (z917, V919) => MW cy ad V919 J Rr) (lvf := fun x : Int × (Nat → Nat → Int) => match x with | (z917, V919) => [(4, vI z917), (2, vI z882), (3, vI z877), (1, vI z856), (0, .ref (ad 0))]) (fun x hI919x ih919 => ?_) (0, V858) ⟨⟨by decide, by decide⟩, hI858, hB858, hk857_0, ez859, ez860, ez861, ⟨_, (by omega), hF⟩⟩ rfl rfl
                      obtain ⟨z917, V919⟩ := x
                      obtain ⟨bz917, hI919, hB919, hk918_0, hk918_1, hk918_2, hk918_3, nf919, hn919, hF⟩ := hI919x
                      try dsimp only
                      obtain ⟨nf919, rfl⟩ : ∃ mm, nf919 = mm + 1 := ⟨nf919 - 1, (Nat.succ_pred_eq_of_pos (Nat.lt_of_le_of_lt (Nat.zero_le _) hn919)).symm⟩
                      replace hF := hF.to (lop2_s hbd919)
                      refine x_iload C.1 dX12_readsWeek_176 0 rfl ?_
                      refine x_iload_n C.1 dX12_readsWeek_178 2 rfl ?_
                      refine x_icmp_ge C.1 (tgt := 214) dX12_readsWeek_179 (by decide) (by omega) (by omega) (fun hc926 => ?_) (fun hc926 => ?_)
                      · replace hF := hF.to (if_pos hc926)
                        refine x_aload_n C.1 dX12_readsWeek_214 4 rfl ?_
                        refine x_aload_n C.1 dX12_readsWeek_215 4 rfl ?_
                        refine x_getI C (N := 33) (i := 0) (by decide) rfl vc_X12 wx_X12 46 (by decide) wf_X12_392 rfl dX12_readsWeek_216 (a := z860) hk918_2 ?_
                        refine x_iload_n C.1 dX12_readsWeek_219 2 rfl ?_
                        refine x_iadd C.1 (v := z860 + z877) (by omega) dX12_readsWeek_220 ?_
                        refine x_putI C (N := 33) (i := 0) (by decide) rfl vc_X12 wx_X12 46 (by decide) wf_X12_392 tyX12 tyX12_ok nmX12 rfl (tyX12_ok 46 (by decide)) rfl dX12_readsWeek_221 rfl rfl ?_
                        refine x_gV ?_
                        intro V927 hV927
                        have hI927 : MI G V927 := hI919.up hV927 rfl (by omega) rfl (Or.inl (by decide))
                        have hB927 := hB919.up hV927 rfl
                        replace hF := hF.to (rdb_e (z := V927) hV927.symm)
                        refine x_iload_n C.1 dX12_readsWeek_224 3 rfl ?_
                        refine x_iload_n C.1 dX12_readsWeek_225 2 rfl ?_
                        refine x_iadd C.1 (v := z856 + z877) (by omega) dX12_readsWeek_226 ?_
                        refine x_istore_n C.1 (lv' := [(1, vI (z856 + z877)), (4, vI z917), (2, vI z882), (3, vI z877), (0, .ref (ad 0))]) dX12_readsWeek_227 (by decide) rfl ?_
                        refine x_aload_n C.1 dX12_readsWeek_228 4 rfl ?_
                        refine x_aload_n C.1 dX12_readsWeek_229 4 rfl ?_
                        refine x_getI C (N := 33) (i := 0) (by decide) rfl vc_X12 wx_X12 5 (by decide) wf_X12_144 rfl dX12_readsWeek_230 (a := z859) ((congrFun (congrFun hV927 0) 5).trans ((up2_n _ _ (Or.inr (by decide))).trans hk918_1)) ?_
                        refine x_iconst C.1 (n := 1) dX12_readsWeek_233 ?_
                        refine x_iadd C.1 (v := z859 + 1) (by omega) dX12_readsWeek_234 ?_
                        refine x_putI C (N := 33) (i := 0) (by decide) rfl vc_X12 wx_X12 5 (by decide) wf_X12_144 tyX12 tyX12_ok nmX12 rfl (tyX12_ok 5 (by decide)) rfl dX12_readsWeek_235 rfl rfl ?_
                        refine x_gV ?_
                        intro V928 hV928
                        have hI928 : MI G V928 := hI927.up hV928 rfl (by omega) rfl (Or.inl (by decide))
                        have hB928 := hB927.up hV928 rfl
                        replace hF := hF.to (rdb_e (z := V928) hV928.symm)
                        refine x_goto C.1 (tgt := 31) dX12_readsWeek_238 (by decide) ?_
                        refine x_lv [(1, vI (z856 + z877)), (0, .ref (ad 0))] [0, 4] rfl ?_
                        have hmu858 : (7 - ((z856 + z877) : Int)).toNat < (7 - (z856 : Int)).toNat := (by omega)
                        exact ih858 (z856 + z877, V928) ⟨⟨by omega, by omega⟩, hI928, hB928, (by rw [((congrFun (congrFun hV928 0) 46).trans ((up2_n _ _ (Or.inr (by decide))).trans ((congrFun (congrFun hV927 0) 46).trans (up2_s _ _ _ _)))), ((congrFun (congrFun hV928 0) 47).trans ((up2_n _ _ (Or.inr (by decide))).trans ((congrFun (congrFun hV927 0) 47).trans ((up2_n _ _ (Or.inr (by decide))).trans hk918_3))))]; omega), (by left; rw [((congrFun (congrFun hV928 0) 47).trans ((up2_n _ _ (Or.inr (by decide))).trans ((congrFun (congrFun hV927 0) 47).trans ((up2_n _ _ (Or.inr (by decide))).trans hk918_3))))]; omega), (by rw [((congrFun (congrFun hV928 0) 5).trans (up2_s _ _ _ _))]; omega), ((congrFun (congrFun hV928 0) 6).trans ((up2_n _ _ (Or.inr (by decide))).trans ((congrFun (congrFun hV927 0) 6).trans ((up2_n _ _ (Or.inr (by decide))).trans hk918_0)))), ⟨nf858, Nat.lt_of_lt_of_le hmu858 (Nat.le_of_lt_succ hn858), hF⟩⟩ hmu858
                      · replace hF := hF.to (if_neg hc926)
                        refine x_aload_n C.1 dX12_readsWeek_182 4 rfl ?_
                        refine x_getA C (N := 33) (i := 0) (by decide) rfl vc_X12 wx_X12 48 (by decide) wf_X12_99 (a := 30) rfl dX12_readsWeek_183 ?_
                        refine x_aload_n C.1 dX12_readsWeek_186 4 rfl ?_
                        refine x_getI C (N := 33) (i := 0) (by decide) rfl vc_X12 wx_X12 46 (by decide) wf_X12_392 rfl dX12_readsWeek_187 (a := z860) hk918_2 ?_
                        refine x_iload C.1 dX12_readsWeek_190 0 rfl ?_
                        refine x_iadd C.1 (v := z860 + z917) (by omega) dX12_readsWeek_192 ?_
                        refine x_iload_n C.1 dX12_readsWeek_193 1 rfl ?_
                        refine x_bipush C.1 (n := 46) dX12_readsWeek_194 ?_
                        refine x_icmp_ne_t C.1 (tgt := 203) dX12_readsWeek_196 (by decide) (by omega) (by decide) (by omega) ?_
                        refine x_iload_n C.1 dX12_readsWeek_203 1 rfl ?_
                        refine x_bipush C.1 (n := 97) dX12_readsWeek_204 ?_
                        refine x_isub C.1 (v := z882 - 97) (by omega) dX12_readsWeek_206 ?_
                        refine x_iast C (N := 33) (i := 30) (q := z860 + z917) (a := z882 - 97) (by decide) rfl (by omega) (by decide) dX12_readsWeek_207 ?_
                        refine x_gV ?_
                        intro V929 hV929
                        have hI929 : MI G V929 := hI919.up hV929 rfl (by omega) rfl (Or.inl (by decide))
                        have hB929 := hB919.up hV929 (by rw [mkey_r (by decide)]; rfl)
                        replace hF := hF.to (rdb_e (z := V929) hV929.symm)
                        refine x_iinc C.1 (v := z917 + 1) (lv' := [(4, vI (z917 + 1)), (2, vI z882), (3, vI z877), (1, vI z856), (0, .ref (ad 0))]) (by omega) dX12_readsWeek_208 0 rfl (by decide) rfl ?_
                        refine x_goto C.1 (tgt := 176) dX12_readsWeek_211 (by decide) ?_
                        have hmu919 : (2 - (z917 + 1)).toNat < (2 - z917).toNat := (by omega)
                        exact ih919 (z917 + 1, V929) ⟨⟨by omega, by omega⟩, hI929, hB929, ((congrFun (congrFun hV929 0) 6).trans ((up2_n _ _ (Or.inl (by decide))).trans hk918_0)), ((congrFun (congrFun hV929 0) 5).trans ((up2_n _ _ (Or.inl (by decide))).trans hk918_1)), ((congrFun (congrFun hV929 0) 46).trans ((up2_n _ _ (Or.inl (by decide))).trans hk918_2)), ((congrFun (congrFun hV929 0) 47).trans ((up2_n _ _ (Or.inl (by decide))).trans hk918_3)), ⟨nf919, Nat.lt_of_lt_of_le hmu919 (Nat.le_of_lt_succ hn919), hF⟩⟩ hmu919
                    · replace hF := hF.to (if_neg (fun hh => hh hc908))
                      refine x_aload_n C.1 dX12_readsWeek_162 3 rfl ?_
                      refine x_bipush C.1 (n := 7) dX12_readsWeek_163 ?_
                      refine x_aload_n C.1 dX12_readsWeek_165 3 rfl ?_
                      refine x_getI C (N := 33) (i := 0) (by decide) rfl vc_X12 wx_X12 5 (by decide) wf_X12_144 rfl dX12_readsWeek_166 (a := z859) ez859 ?_
                      refine x_callVi C (As := [vI 7, vI z859]) (rest := []) 0 (xw_at (N := 33) (i := 0) (by decide) rfl) vc_X12 (m_wrongAt l D cy ad G V858 J Rr hI858 hJ hR 7 ⟨by decide, by decide⟩ z859 ⟨by omega, by omega⟩) (l1 := []) (l2 := []) (List.append_nil _).symm (w2 := fun u : Nat → Nat → Int => MW cy ad u J Rr) (fun _ => List.append_nil _) rfl wm_yX12_wrongAt wn_X12 wl_X12_157 wi_yX12_wrongAt we_yX12_wrongAt hd_yX12_wrongAt rfl ⟨Nat.le_of_ble_eq_true rfl, Nat.le_of_ble_eq_true rfl⟩ (Nat.le_of_ble_eq_true rfl) ⟨Nat.le_of_ble_eq_true rfl, Nat.le_of_ble_eq_true rfl⟩ dX12_readsWeek_169 (fun z930 V930 bz930 h930 => ?_)
                      obtain ⟨hI930, bq930, hx930_0, hBc930, hFc930⟩ := h930
                      replace hF := calVM_i hF hFc930 hBc930
                      replace hF := hF.fc bq930
                      have hB930 := hB858.tr hBc930 (m := 128) rfl
                      exact x_zret (S := (Nat → Nat → Int)) (post := (fun a (u : Nat → Nat → Int) => MI G u ∧ (0 ≤ a ∧ a ≤ 1) ∧ Sp a (u 0 46 = 7 * u 0 47) ∧ u 0 6 = V 0 6 ∧ V 0 5 ≤ u 0 5 ∧ FBm 19807040628566295504618520736 V u ∧ (f_m_readsWeek V J Rr) (a, u))) (w1 := (fun u : Nat → Nat → Int => MW cy ad u J Rr)) (a := z930) C hr rfl dX12_readsWeek_172 (by omega) V930 rfl ⟨hI930, ⟨by omega, by omega⟩, (Or.inl (by omega)), (((hx930_0 (0) (6) (Or.inr (by decide))).trans hk857_0).trans ez2.symm), (by rw [((hx930_0 (0) (5) (Or.inr (by decide))).trans ez859)]; omega), hB930, hF _ rfl⟩
                  · replace hF := hF.to (if_neg (fun hh => hh hc905))
                    have hof931 := Sq.off hx904_0 (by omega)
                    refine x_aload_n C.1 dX12_readsWeek_135 3 rfl ?_
                    refine x_iconst C.1 (n := 1) dX12_readsWeek_136 ?_
                    refine x_aload_n C.1 dX12_readsWeek_137 3 rfl ?_
                    refine x_getI C (N := 33) (i := 0) (by decide) rfl vc_X12 wx_X12 5 (by decide) wf_X12_144 rfl dX12_readsWeek_138 (a := z859) ez859 ?_
                    refine x_callVi C (As := [vI 1, vI z859]) (rest := []) 0 (xw_at (N := 33) (i := 0) (by decide) rfl) vc_X12 (m_wrongAt l D cy ad G V858 J Rr hI858 hJ hR 1 ⟨by decide, by decide⟩ z859 ⟨by omega, by omega⟩) (l1 := []) (l2 := []) (List.append_nil _).symm (w2 := fun u : Nat → Nat → Int => MW cy ad u J Rr) (fun _ => List.append_nil _) rfl wm_yX12_wrongAt wn_X12 wl_X12_157 wi_yX12_wrongAt we_yX12_wrongAt hd_yX12_wrongAt rfl ⟨Nat.le_of_ble_eq_true rfl, Nat.le_of_ble_eq_true rfl⟩ (Nat.le_of_ble_eq_true rfl) ⟨Nat.le_of_ble_eq_true rfl, Nat.le_of_ble_eq_true rfl⟩ dX12_readsWeek_141 (fun z932 V932 bz932 h932 => ?_)
                    obtain ⟨hI932, bq932, hx932_0, hBc932, hFc932⟩ := h932
                    replace hF := calVM_i hF hFc932 hBc932
                    replace hF := hF.fc bq932
                    have hB932 := hB858.tr hBc932 (m := 128) rfl
                    exact x_zret (S := (Nat → Nat → Int)) (post := (fun a (u : Nat → Nat → Int) => MI G u ∧ (0 ≤ a ∧ a ≤ 1) ∧ Sp a (u 0 46 = 7 * u 0 47) ∧ u 0 6 = V 0 6 ∧ V 0 5 ≤ u 0 5 ∧ FBm 19807040628566295504618520736 V u ∧ (f_m_readsWeek V J Rr) (a, u))) (w1 := (fun u : Nat → Nat → Int => MW cy ad u J Rr)) (a := z932) C hr rfl dX12_readsWeek_144 (by omega) V932 rfl ⟨hI932, ⟨by omega, by omega⟩, (Or.inl (by omega)), (((hx932_0 (0) (6) (Or.inr (by decide))).trans hk857_0).trans ez2.symm), (by rw [((hx932_0 (0) (5) (Or.inr (by decide))).trans ez859)]; omega), hB932, hF _ rfl⟩
              · replace hF := hF.to (if_neg hc881)
                refine x_aload_n C.1 dX12_readsWeek_103 3 rfl ?_
                refine x_aload_n C.1 dX12_readsWeek_104 3 rfl ?_
                refine x_getI C (N := 33) (i := 0) (by decide) rfl vc_X12 wx_X12 5 (by decide) wf_X12_144 rfl dX12_readsWeek_105 (a := z859) ez859 ?_
                refine x_iconst C.1 (n := 1) dX12_readsWeek_108 ?_
                refine x_iadd C.1 (v := z859 + 1) (by omega) dX12_readsWeek_109 ?_
                refine x_putI C (N := 33) (i := 0) (by decide) rfl vc_X12 wx_X12 5 (by decide) wf_X12_144 tyX12 tyX12_ok nmX12 rfl (tyX12_ok 5 (by decide)) rfl dX12_readsWeek_110 rfl rfl ?_
                refine x_gV ?_
                intro V933 hV933
                have hI933 : MI G V933 := hI858.up hV933 rfl (by omega) rfl (Or.inl (by decide))
                have hB933 := hB858.up hV933 rfl
                replace hF := hF.to (rdb_e (z := V933) hV933.symm)
                refine x_aload_n C.1 dX12_readsWeek_113 3 rfl ?_
                refine x_callVi C (As := []) (rest := []) 0 (xw_at (N := 33) (i := 0) (by decide) rfl) vc_X12 (m_here l D cy ad G V933 J Rr hI933 hJ hR ) (l1 := []) (l2 := []) (List.append_nil _).symm (w2 := fun _ => MW cy ad V933 J Rr) (fun _ => List.append_nil _) rfl wm_yX12_here wn_X12 wl_X12_150 wi_yX12_here we_yX12_here hd_yX12_here rfl ⟨Nat.le_of_ble_eq_true rfl, Nat.le_of_ble_eq_true rfl⟩ (Nat.le_of_ble_eq_true rfl) ⟨Nat.le_of_ble_eq_true rfl, Nat.le_of_ble_eq_true rfl⟩ dX12_readsWeek_114 (fun z934 u934 bz934 h934 => ?_)
                obtain ⟨bq934, hx934_0, hx934_1, hFc934⟩ := h934
                replace hF := calR_i hF hFc934
                replace hF := hF.fc bq934
                rw [((congrFun (congrFun hV933 0) 5).trans (up2_s _ _ _ _)), ((congrFun (congrFun hV933 0) 6).trans ((up2_n _ _ (Or.inr (by decide))).trans hk857_0))] at hx934_0
                refine x_istore_n C.1 (lv' := [(2, vI z934), (3, vI z877), (1, vI z856), (0, .ref (ad 0))]) dX12_readsWeek_117 (by decide) rfl ?_
                refine x_iload_n C.1 dX12_readsWeek_118 0 rfl ?_
                refine x_bipush C.1 (n := 46) dX12_readsWeek_119 ?_
                refine x_icmp_eq C.1 (tgt := 145) dX12_readsWeek_121 (by decide) (by omega) (by decide) (fun hc935 => ?_) (fun hc935 => ?_)
                · replace hF := hF.to (if_pos hc935)
                  refine x_iload_n C.1 dX12_readsWeek_145 0 rfl ?_
                  refine x_bipush C.1 (n := 46) dX12_readsWeek_146 ?_
                  refine x_icmp_eq_t C.1 (tgt := 173) dX12_readsWeek_148 (by decide) (by omega) (by decide) (by omega) ?_
                  refine x_iconst C.1 (n := 0) dX12_readsWeek_173 ?_
                  refine x_istore C.1 (lv' := [(4, vI 0), (2, vI z934), (3, vI z877), (1, vI z856), (0, .ref (ad 0))]) dX12_readsWeek_174 (by decide) rfl ?_
                  obtain ⟨bd965, hbd965, hF⟩ := lop2_ex hF
                  refine x_loop (I := fun x : Int × (Nat → Nat → Int) => match x with | (z963, V965) => (0 ≤ z963 ∧ z963 ≤ 7) ∧ MI G V965 ∧ FBm 19807040628566295504618520736 V V965 ∧ V965 0 6 = z2 ∧ V965 0 46 = z860 ∧ V965 0 47 = z861 ∧ V965 0 5 = z859 + 1 ∧ (∃ nf : Nat, (8 - z963).toNat < nf ∧ Imp (lop2 nf bd965 z963 V965) (f_m_readsWeek V J Rr))) (μ := fun x : Int × (Nat → Nat → Int) => match x with | (z963, V965) => (8 - z963).toNat) (wsf := fun x : Int × (Nat → Nat → Int) => match x with | (z963, V965) => MW cy ad V965 J Rr) (lvf := fun x : Int × (Nat → Nat → Int) => match x with | (z963, V965) => [(4, vI z963), (2, vI z934), (3, vI z877), (1, vI z856), (0, .ref (ad 0))]) (fun x hI965x ih965 => ?_) (0, V933) ⟨⟨by decide, by decide⟩, hI933, hB933, ((congrFun (congrFun hV933 0) 6).trans ((up2_n _ _ (Or.inr (by decide))).trans hk857_0)), ((congrFun (congrFun hV933 0) 46).trans ((up2_n _ _ (Or.inr (by decide))).trans ez860)), ((congrFun (congrFun hV933 0) 47).trans ((up2_n _ _ (Or.inr (by decide))).trans ez861)), ((congrFun (congrFun hV933 0) 5).trans (up2_s _ _ _ _)), ⟨_, (by omega), hF⟩⟩ rfl rfl
                  obtain ⟨z963, V965⟩ := x
                  obtain ⟨bz963, hI965, hB965, hk964_0, hk964_1, hk964_2, hk964_3, nf965, hn965, hF⟩ := hI965x
                  try dsimp only
                  obtain ⟨nf965, rfl⟩ : ∃ mm, nf965 = mm + 1 := ⟨nf965 - 1, (Nat.succ_pred_eq_of_pos (Nat.lt_of_le_of_lt (Nat.zero_le _) hn965)).symm⟩
                  replace hF := hF.to (lop2_s hbd965)
                  refine x_iload C.1 dX12_readsWeek_176 0 rfl ?_
                  refine x_iload_n C.1 dX12_readsWeek_178 2 rfl ?_
                  refine x_icmp_ge C.1 (tgt := 214) dX12_readsWeek_179 (by decide) (by omega) (by omega) (fun hc972 => ?_) (fun hc972 => ?_)
                  · replace hF := hF.to (if_pos hc972)
                    refine x_aload_n C.1 dX12_readsWeek_214 4 rfl ?_
                    refine x_aload_n C.1 dX12_readsWeek_215 4 rfl ?_
                    refine x_getI C (N := 33) (i := 0) (by decide) rfl vc_X12 wx_X12 46 (by decide) wf_X12_392 rfl dX12_readsWeek_216 (a := z860) hk964_1 ?_
                    refine x_iload_n C.1 dX12_readsWeek_219 2 rfl ?_
                    refine x_iadd C.1 (v := z860 + z877) (by omega) dX12_readsWeek_220 ?_
                    refine x_putI C (N := 33) (i := 0) (by decide) rfl vc_X12 wx_X12 46 (by decide) wf_X12_392 tyX12 tyX12_ok nmX12 rfl (tyX12_ok 46 (by decide)) rfl dX12_readsWeek_221 rfl rfl ?_
                    refine x_gV ?_
                    intro V973 hV973
                    have hI973 : MI G V973 := hI965.up hV973 rfl (by omega) rfl (Or.inl (by decide))
                    have hB973 := hB965.up hV973 rfl
                    replace hF := hF.to (rdb_e (z := V973) hV973.symm)
                    refine x_iload_n C.1 dX12_readsWeek_224 3 rfl ?_
                    refine x_iload_n C.1 dX12_readsWeek_225 2 rfl ?_
                    refine x_iadd C.1 (v := z856 + z877) (by omega) dX12_readsWeek_226 ?_
                    refine x_istore_n C.1 (lv' := [(1, vI (z856 + z877)), (4, vI z963), (2, vI z934), (3, vI z877), (0, .ref (ad 0))]) dX12_readsWeek_227 (by decide) rfl ?_
                    refine x_aload_n C.1 dX12_readsWeek_228 4 rfl ?_
                    refine x_aload_n C.1 dX12_readsWeek_229 4 rfl ?_
                    refine x_getI C (N := 33) (i := 0) (by decide) rfl vc_X12 wx_X12 5 (by decide) wf_X12_144 rfl dX12_readsWeek_230 (a := z859 + 1) ((congrFun (congrFun hV973 0) 5).trans ((up2_n _ _ (Or.inr (by decide))).trans hk964_3)) ?_
                    refine x_iconst C.1 (n := 1) dX12_readsWeek_233 ?_
                    refine x_iadd C.1 (v := z859 + 2) (by omega) dX12_readsWeek_234 ?_
                    refine x_putI C (N := 33) (i := 0) (by decide) rfl vc_X12 wx_X12 5 (by decide) wf_X12_144 tyX12 tyX12_ok nmX12 rfl (tyX12_ok 5 (by decide)) rfl dX12_readsWeek_235 rfl rfl ?_
                    refine x_gV ?_
                    intro V974 hV974
                    have hI974 : MI G V974 := hI973.up hV974 rfl (by omega) rfl (Or.inl (by decide))
                    have hB974 := hB973.up hV974 rfl
                    replace hF := hF.to (rdb_e (z := V974) hV974.symm)
                    refine x_goto C.1 (tgt := 31) dX12_readsWeek_238 (by decide) ?_
                    refine x_lv [(1, vI (z856 + z877)), (0, .ref (ad 0))] [0, 4] rfl ?_
                    have hmu858 : (7 - ((z856 + z877) : Int)).toNat < (7 - (z856 : Int)).toNat := (by omega)
                    exact ih858 (z856 + z877, V974) ⟨⟨by omega, by omega⟩, hI974, hB974, (by rw [((congrFun (congrFun hV974 0) 46).trans ((up2_n _ _ (Or.inr (by decide))).trans ((congrFun (congrFun hV973 0) 46).trans (up2_s _ _ _ _)))), ((congrFun (congrFun hV974 0) 47).trans ((up2_n _ _ (Or.inr (by decide))).trans ((congrFun (congrFun hV973 0) 47).trans ((up2_n _ _ (Or.inr (by decide))).trans hk964_2))))]; omega), (by left; rw [((congrFun (congrFun hV974 0) 47).trans ((up2_n _ _ (Or.inr (by decide))).trans ((congrFun (congrFun hV973 0) 47).trans ((up2_n _ _ (Or.inr (by decide))).trans hk964_2))))]; omega), (by rw [((congrFun (congrFun hV974 0) 5).trans (up2_s _ _ _ _))]; omega), ((congrFun (congrFun hV974 0) 6).trans ((up2_n _ _ (Or.inr (by decide))).trans ((congrFun (congrFun hV973 0) 6).trans ((up2_n _ _ (Or.inr (by decide))).trans hk964_0)))), ⟨nf858, Nat.lt_of_lt_of_le hmu858 (Nat.le_of_lt_succ hn858), hF⟩⟩ hmu858
                  · replace hF := hF.to (if_neg hc972)
                    refine x_aload_n C.1 dX12_readsWeek_182 4 rfl ?_
                    refine x_getA C (N := 33) (i := 0) (by decide) rfl vc_X12 wx_X12 48 (by decide) wf_X12_99 (a := 30) rfl dX12_readsWeek_183 ?_
                    refine x_aload_n C.1 dX12_readsWeek_186 4 rfl ?_
                    refine x_getI C (N := 33) (i := 0) (by decide) rfl vc_X12 wx_X12 46 (by decide) wf_X12_392 rfl dX12_readsWeek_187 (a := z860) hk964_1 ?_
                    refine x_iload C.1 dX12_readsWeek_190 0 rfl ?_
                    refine x_iadd C.1 (v := z860 + z963) (by omega) dX12_readsWeek_192 ?_
                    refine x_iload_n C.1 dX12_readsWeek_193 1 rfl ?_
                    refine x_bipush C.1 (n := 46) dX12_readsWeek_194 ?_
                    refine x_icmp_ne_f C.1 (tgt := 203) dX12_readsWeek_196 (by decide) (by omega) (by decide) (by omega) ?_
                    refine x_iconst C.1 (n := -1) dX12_readsWeek_199 ?_
                    refine x_goto C.1 (tgt := 207) dX12_readsWeek_200 (by decide) ?_
                    refine x_iast C (N := 33) (i := 30) (q := z860 + z963) (a := (-1)) (by decide) rfl (by omega) (by decide) dX12_readsWeek_207 ?_
                    refine x_gV ?_
                    intro V975 hV975
                    have hI975 : MI G V975 := hI965.up hV975 rfl (by decide) rfl (Or.inl (by decide))
                    have hB975 := hB965.up hV975 (by rw [mkey_r (by decide)]; rfl)
                    replace hF := hF.to (rdb_e (z := V975) hV975.symm)
                    refine x_iinc C.1 (v := z963 + 1) (lv' := [(4, vI (z963 + 1)), (2, vI z934), (3, vI z877), (1, vI z856), (0, .ref (ad 0))]) (by omega) dX12_readsWeek_208 0 rfl (by decide) rfl ?_
                    refine x_goto C.1 (tgt := 176) dX12_readsWeek_211 (by decide) ?_
                    have hmu965 : (8 - (z963 + 1)).toNat < (8 - z963).toNat := (by omega)
                    exact ih965 (z963 + 1, V975) ⟨⟨by omega, by omega⟩, hI975, hB975, ((congrFun (congrFun hV975 0) 6).trans ((up2_n _ _ (Or.inl (by decide))).trans hk964_0)), ((congrFun (congrFun hV975 0) 46).trans ((up2_n _ _ (Or.inl (by decide))).trans hk964_1)), ((congrFun (congrFun hV975 0) 47).trans ((up2_n _ _ (Or.inl (by decide))).trans hk964_2)), ((congrFun (congrFun hV975 0) 5).trans ((up2_n _ _ (Or.inl (by decide))).trans hk964_3)), ⟨nf965, Nat.lt_of_lt_of_le hmu965 (Nat.le_of_lt_succ hn965), hF⟩⟩ hmu965
                · replace hF := hF.to (if_neg hc935)
                  refine x_iload_n C.1 dX12_readsWeek_124 0 rfl ?_
                  refine x_bipush C.1 (n := 97) dX12_readsWeek_125 ?_
                  refine x_bipush C.1 (n := 104) dX12_readsWeek_127 ?_
                  refine x_callSi C (As := [vI z934, vI 97, vI 104]) (rest := []) (m_in l D cy z934 ⟨by omega, by omega⟩ 97 ⟨by decide, by decide⟩ 104 ⟨by decide, by decide⟩) (l1 := []) (l2 := _) rfl (w2 := fun _ => _) (fun _ => rfl) rfl wm_yX12_in wn_X12 wl_X12_126 wi_yX12_in hd_yX12_in rfl ⟨Nat.le_of_ble_eq_true rfl, Nat.le_of_ble_eq_true rfl⟩ (Nat.le_of_ble_eq_true rfl) ⟨Nat.le_of_ble_eq_true rfl, Nat.le_of_ble_eq_true rfl⟩ dX12_readsWeek_129 (fun z976 u976 bz976 h976 => ?_)
                  obtain ⟨bq976, hx976_0, hFc976⟩ := h976
                  replace hF := calR_i hF hFc976
                  replace hF := hF.fc bq976
                  refine x_if_ne C.1 (tgt := 145) dX12_readsWeek_132 (by decide) (by omega) (fun hc977 => ?_) (fun hc977 => ?_)
                  · replace hF := hF.to (if_pos hc977)
                    have hon978 := Sq.on hx976_0 (by omega)
                    refine x_iload_n C.1 dX12_readsWeek_145 0 rfl ?_
                    refine x_bipush C.1 (n := 46) dX12_readsWeek_146 ?_
                    refine x_icmp_eq_f C.1 (tgt := 173) dX12_readsWeek_148 (by decide) (by omega) (by decide) (by omega) ?_
                    refine x_aload_n C.1 dX12_readsWeek_151 3 rfl ?_
                    refine x_iload_n C.1 dX12_readsWeek_152 0 rfl ?_
                    refine x_bipush C.1 (n := 97) dX12_readsWeek_153 ?_
                    refine x_isub C.1 (v := z934 - 97) (by omega) dX12_readsWeek_155 ?_
                    refine x_callVi C (As := [vI (z934 - 97)]) (rest := []) 0 (xw_at (N := 33) (i := 0) (by decide) rfl) vc_X12 (m_isPerson l D cy ad G V933 J Rr hI933 hJ hR (z934 - 97) ⟨by omega, by omega⟩) (l1 := []) (l2 := []) (List.append_nil _).symm (w2 := fun _ => MW cy ad V933 J Rr) (fun _ => List.append_nil _) rfl wm_yX12_isPerson wn_X12 wl_X12_259 wi_yX12_isPerson we_yX12_isPerson hd_yX12_isPerson rfl ⟨Nat.le_of_ble_eq_true rfl, Nat.le_of_ble_eq_true rfl⟩ (Nat.le_of_ble_eq_true rfl) ⟨Nat.le_of_ble_eq_true rfl, Nat.le_of_ble_eq_true rfl⟩ dX12_readsWeek_156 (fun z979 u979 bz979 h979 => ?_)
                    obtain ⟨hon979, hFc979⟩ := h979
                    replace hF := calR_i hF hFc979
                    replace hF := hF.fc hon979.r
                    have bq979 := Sp.r hon979
                    refine x_if_ne C.1 (tgt := 173) dX12_readsWeek_159 (by decide) (by omega) (fun hc980 => ?_) (fun hc980 => ?_)
                    · replace hF := hF.to (if_pos hc980)
                      have hon981 := Sp.on hon979 (by omega)
                      refine x_iconst C.1 (n := 0) dX12_readsWeek_173 ?_
                      refine x_istore C.1 (lv' := [(4, vI 0), (2, vI z934), (3, vI z877), (1, vI z856), (0, .ref (ad 0))]) dX12_readsWeek_174 (by decide) rfl ?_
                      obtain ⟨bd1011, hbd1011, hF⟩ := lop2_ex hF
                      refine x_loop (I := fun x : Int × (Nat → Nat → Int) => match x with | (z1009, V1011) => (0 ≤ z1009 ∧ z1009 ≤ 7) ∧ MI G V1011 ∧ FBm 19807040628566295504618520736 V V1011 ∧ V1011 0 6 = z2 ∧ V1011 0 46 = z860 ∧ V1011 0 47 = z861 ∧ V1011 0 5 = z859 + 1 ∧ (∃ nf : Nat, (8 - z1009).toNat < nf ∧ Imp (lop2 nf bd1011 z1009 V1011) (f_m_readsWeek V J Rr))) (μ := fun x : Int × (Nat → Nat → Int) => match x with | (z1009, V1011) => (8 - z1009).toNat) (wsf := fun x : Int × (Nat → Nat → Int) => match x with | (z1009, V1011) => MW cy ad V1011 J Rr) (lvf := fun x : Int × (Nat → Nat → Int) => match x with | (z1009, V1011) => [(4, vI z1009), (2, vI z934), (3, vI z877), (1, vI z856), (0, .ref (ad 0))]) (fun x hI1011x ih1011 => ?_) (0, V933) ⟨⟨by decide, by decide⟩, hI933, hB933, ((congrFun (congrFun hV933 0) 6).trans ((up2_n _ _ (Or.inr (by decide))).trans hk857_0)), ((congrFun (congrFun hV933 0) 46).trans ((up2_n _ _ (Or.inr (by decide))).trans ez860)), ((congrFun (congrFun hV933 0) 47).trans ((up2_n _ _ (Or.inr (by decide))).trans ez861)), ((congrFun (congrFun hV933 0) 5).trans (up2_s _ _ _ _)), ⟨_, (by omega), hF⟩⟩ rfl rfl
                      obtain ⟨z1009, V1011⟩ := x
                      obtain ⟨bz1009, hI1011, hB1011, hk1010_0, hk1010_1, hk1010_2, hk1010_3, nf1011, hn1011, hF⟩ := hI1011x
                      try dsimp only
                      obtain ⟨nf1011, rfl⟩ : ∃ mm, nf1011 = mm + 1 := ⟨nf1011 - 1, (Nat.succ_pred_eq_of_pos (Nat.lt_of_le_of_lt (Nat.zero_le _) hn1011)).symm⟩
                      replace hF := hF.to (lop2_s hbd1011)
                      refine x_iload C.1 dX12_readsWeek_176 0 rfl ?_
                      refine x_iload_n C.1 dX12_readsWeek_178 2 rfl ?_
                      refine x_icmp_ge C.1 (tgt := 214) dX12_readsWeek_179 (by decide) (by omega) (by omega) (fun hc1018 => ?_) (fun hc1018 => ?_)
                      · replace hF := hF.to (if_pos hc1018)
                        refine x_aload_n C.1 dX12_readsWeek_214 4 rfl ?_
                        refine x_aload_n C.1 dX12_readsWeek_215 4 rfl ?_
                        refine x_getI C (N := 33) (i := 0) (by decide) rfl vc_X12 wx_X12 46 (by decide) wf_X12_392 rfl dX12_readsWeek_216 (a := z860) hk1010_1 ?_
                        refine x_iload_n C.1 dX12_readsWeek_219 2 rfl ?_
                        refine x_iadd C.1 (v := z860 + z877) (by omega) dX12_readsWeek_220 ?_
                        refine x_putI C (N := 33) (i := 0) (by decide) rfl vc_X12 wx_X12 46 (by decide) wf_X12_392 tyX12 tyX12_ok nmX12 rfl (tyX12_ok 46 (by decide)) rfl dX12_readsWeek_221 rfl rfl ?_
                        refine x_gV ?_
                        intro V1019 hV1019
                        have hI1019 : MI G V1019 := hI1011.up hV1019 rfl (by omega) rfl (Or.inl (by decide))
                        have hB1019 := hB1011.up hV1019 rfl
                        replace hF := hF.to (rdb_e (z := V1019) hV1019.symm)
                        refine x_iload_n C.1 dX12_readsWeek_224 3 rfl ?_
                        refine x_iload_n C.1 dX12_readsWeek_225 2 rfl ?_
                        refine x_iadd C.1 (v := z856 + z877) (by omega) dX12_readsWeek_226 ?_
                        refine x_istore_n C.1 (lv' := [(1, vI (z856 + z877)), (4, vI z1009), (2, vI z934), (3, vI z877), (0, .ref (ad 0))]) dX12_readsWeek_227 (by decide) rfl ?_
                        refine x_aload_n C.1 dX12_readsWeek_228 4 rfl ?_
                        refine x_aload_n C.1 dX12_readsWeek_229 4 rfl ?_
                        refine x_getI C (N := 33) (i := 0) (by decide) rfl vc_X12 wx_X12 5 (by decide) wf_X12_144 rfl dX12_readsWeek_230 (a := z859 + 1) ((congrFun (congrFun hV1019 0) 5).trans ((up2_n _ _ (Or.inr (by decide))).trans hk1010_3)) ?_
                        refine x_iconst C.1 (n := 1) dX12_readsWeek_233 ?_
                        refine x_iadd C.1 (v := z859 + 2) (by omega) dX12_readsWeek_234 ?_
                        refine x_putI C (N := 33) (i := 0) (by decide) rfl vc_X12 wx_X12 5 (by decide) wf_X12_144 tyX12 tyX12_ok nmX12 rfl (tyX12_ok 5 (by decide)) rfl dX12_readsWeek_235 rfl rfl ?_
                        refine x_gV ?_
                        intro V1020 hV1020
                        have hI1020 : MI G V1020 := hI1019.up hV1020 rfl (by omega) rfl (Or.inl (by decide))
                        have hB1020 := hB1019.up hV1020 rfl
                        replace hF := hF.to (rdb_e (z := V1020) hV1020.symm)
                        refine x_goto C.1 (tgt := 31) dX12_readsWeek_238 (by decide) ?_
                        refine x_lv [(1, vI (z856 + z877)), (0, .ref (ad 0))] [0, 4] rfl ?_
                        have hmu858 : (7 - ((z856 + z877) : Int)).toNat < (7 - (z856 : Int)).toNat := (by omega)
                        exact ih858 (z856 + z877, V1020) ⟨⟨by omega, by omega⟩, hI1020, hB1020, (by rw [((congrFun (congrFun hV1020 0) 46).trans ((up2_n _ _ (Or.inr (by decide))).trans ((congrFun (congrFun hV1019 0) 46).trans (up2_s _ _ _ _)))), ((congrFun (congrFun hV1020 0) 47).trans ((up2_n _ _ (Or.inr (by decide))).trans ((congrFun (congrFun hV1019 0) 47).trans ((up2_n _ _ (Or.inr (by decide))).trans hk1010_2))))]; omega), (by left; rw [((congrFun (congrFun hV1020 0) 47).trans ((up2_n _ _ (Or.inr (by decide))).trans ((congrFun (congrFun hV1019 0) 47).trans ((up2_n _ _ (Or.inr (by decide))).trans hk1010_2))))]; omega), (by rw [((congrFun (congrFun hV1020 0) 5).trans (up2_s _ _ _ _))]; omega), ((congrFun (congrFun hV1020 0) 6).trans ((up2_n _ _ (Or.inr (by decide))).trans ((congrFun (congrFun hV1019 0) 6).trans ((up2_n _ _ (Or.inr (by decide))).trans hk1010_0)))), ⟨nf858, Nat.lt_of_lt_of_le hmu858 (Nat.le_of_lt_succ hn858), hF⟩⟩ hmu858
                      · replace hF := hF.to (if_neg hc1018)
                        refine x_aload_n C.1 dX12_readsWeek_182 4 rfl ?_
                        refine x_getA C (N := 33) (i := 0) (by decide) rfl vc_X12 wx_X12 48 (by decide) wf_X12_99 (a := 30) rfl dX12_readsWeek_183 ?_
                        refine x_aload_n C.1 dX12_readsWeek_186 4 rfl ?_
                        refine x_getI C (N := 33) (i := 0) (by decide) rfl vc_X12 wx_X12 46 (by decide) wf_X12_392 rfl dX12_readsWeek_187 (a := z860) hk1010_1 ?_
                        refine x_iload C.1 dX12_readsWeek_190 0 rfl ?_
                        refine x_iadd C.1 (v := z860 + z1009) (by omega) dX12_readsWeek_192 ?_
                        refine x_iload_n C.1 dX12_readsWeek_193 1 rfl ?_
                        refine x_bipush C.1 (n := 46) dX12_readsWeek_194 ?_
                        refine x_icmp_ne_t C.1 (tgt := 203) dX12_readsWeek_196 (by decide) (by omega) (by decide) (by omega) ?_
                        refine x_iload_n C.1 dX12_readsWeek_203 1 rfl ?_
                        refine x_bipush C.1 (n := 97) dX12_readsWeek_204 ?_
                        refine x_isub C.1 (v := z934 - 97) (by omega) dX12_readsWeek_206 ?_
                        refine x_iast C (N := 33) (i := 30) (q := z860 + z1009) (a := z934 - 97) (by decide) rfl (by omega) (by decide) dX12_readsWeek_207 ?_
                        refine x_gV ?_
                        intro V1021 hV1021
                        have hI1021 : MI G V1021 := hI1011.up hV1021 rfl (by omega) rfl (Or.inl (by decide))
                        have hB1021 := hB1011.up hV1021 (by rw [mkey_r (by decide)]; rfl)
                        replace hF := hF.to (rdb_e (z := V1021) hV1021.symm)
                        refine x_iinc C.1 (v := z1009 + 1) (lv' := [(4, vI (z1009 + 1)), (2, vI z934), (3, vI z877), (1, vI z856), (0, .ref (ad 0))]) (by omega) dX12_readsWeek_208 0 rfl (by decide) rfl ?_
                        refine x_goto C.1 (tgt := 176) dX12_readsWeek_211 (by decide) ?_
                        have hmu1011 : (8 - (z1009 + 1)).toNat < (8 - z1009).toNat := (by omega)
                        exact ih1011 (z1009 + 1, V1021) ⟨⟨by omega, by omega⟩, hI1021, hB1021, ((congrFun (congrFun hV1021 0) 6).trans ((up2_n _ _ (Or.inl (by decide))).trans hk1010_0)), ((congrFun (congrFun hV1021 0) 46).trans ((up2_n _ _ (Or.inl (by decide))).trans hk1010_1)), ((congrFun (congrFun hV1021 0) 47).trans ((up2_n _ _ (Or.inl (by decide))).trans hk1010_2)), ((congrFun (congrFun hV1021 0) 5).trans ((up2_n _ _ (Or.inl (by decide))).trans hk1010_3)), ⟨nf1011, Nat.lt_of_lt_of_le hmu1011 (Nat.le_of_lt_succ hn1011), hF⟩⟩ hmu1011
                    · replace hF := hF.to (if_neg (fun hh => hh hc980))
                      refine x_aload_n C.1 dX12_readsWeek_162 3 rfl ?_
                      refine x_bipush C.1 (n := 7) dX12_readsWeek_163 ?_
                      refine x_aload_n C.1 dX12_readsWeek_165 3 rfl ?_
                      refine x_getI C (N := 33) (i := 0) (by decide) rfl vc_X12 wx_X12 5 (by decide) wf_X12_144 rfl dX12_readsWeek_166 (a := z859 + 1) ((congrFun (congrFun hV933 0) 5).trans (up2_s _ _ _ _)) ?_
                      refine x_callVi C (As := [vI 7, vI (z859 + 1)]) (rest := []) 0 (xw_at (N := 33) (i := 0) (by decide) rfl) vc_X12 (m_wrongAt l D cy ad G V933 J Rr hI933 hJ hR 7 ⟨by decide, by decide⟩ (z859 + 1) ⟨by omega, by omega⟩) (l1 := []) (l2 := []) (List.append_nil _).symm (w2 := fun u : Nat → Nat → Int => MW cy ad u J Rr) (fun _ => List.append_nil _) rfl wm_yX12_wrongAt wn_X12 wl_X12_157 wi_yX12_wrongAt we_yX12_wrongAt hd_yX12_wrongAt rfl ⟨Nat.le_of_ble_eq_true rfl, Nat.le_of_ble_eq_true rfl⟩ (Nat.le_of_ble_eq_true rfl) ⟨Nat.le_of_ble_eq_true rfl, Nat.le_of_ble_eq_true rfl⟩ dX12_readsWeek_169 (fun z1022 V1022 bz1022 h1022 => ?_)
                      obtain ⟨hI1022, bq1022, hx1022_0, hBc1022, hFc1022⟩ := h1022
                      replace hF := calVM_i hF hFc1022 hBc1022
                      replace hF := hF.fc bq1022
                      have hB1022 := hB933.tr hBc1022 (m := 128) rfl
                      exact x_zret (S := (Nat → Nat → Int)) (post := (fun a (u : Nat → Nat → Int) => MI G u ∧ (0 ≤ a ∧ a ≤ 1) ∧ Sp a (u 0 46 = 7 * u 0 47) ∧ u 0 6 = V 0 6 ∧ V 0 5 ≤ u 0 5 ∧ FBm 19807040628566295504618520736 V u ∧ (f_m_readsWeek V J Rr) (a, u))) (w1 := (fun u : Nat → Nat → Int => MW cy ad u J Rr)) (a := z1022) C hr rfl dX12_readsWeek_172 (by omega) V1022 rfl ⟨hI1022, ⟨by omega, by omega⟩, (Or.inl (by omega)), (((hx1022_0 (0) (6) (Or.inr (by decide))).trans ((congrFun (congrFun hV933 0) 6).trans ((up2_n _ _ (Or.inr (by decide))).trans hk857_0))).trans ez2.symm), (by rw [((hx1022_0 (0) (5) (Or.inr (by decide))).trans ((congrFun (congrFun hV933 0) 5).trans (up2_s _ _ _ _)))]; omega), hB1022, hF _ rfl⟩
                  · replace hF := hF.to (if_neg (fun hh => hh hc977))
                    have hof1023 := Sq.off hx976_0 (by omega)
                    refine x_aload_n C.1 dX12_readsWeek_135 3 rfl ?_
                    refine x_iconst C.1 (n := 1) dX12_readsWeek_136 ?_
                    refine x_aload_n C.1 dX12_readsWeek_137 3 rfl ?_
                    refine x_getI C (N := 33) (i := 0) (by decide) rfl vc_X12 wx_X12 5 (by decide) wf_X12_144 rfl dX12_readsWeek_138 (a := z859 + 1) ((congrFun (congrFun hV933 0) 5).trans (up2_s _ _ _ _)) ?_
                    refine x_callVi C (As := [vI 1, vI (z859 + 1)]) (rest := []) 0 (xw_at (N := 33) (i := 0) (by decide) rfl) vc_X12 (m_wrongAt l D cy ad G V933 J Rr hI933 hJ hR 1 ⟨by decide, by decide⟩ (z859 + 1) ⟨by omega, by omega⟩) (l1 := []) (l2 := []) (List.append_nil _).symm (w2 := fun u : Nat → Nat → Int => MW cy ad u J Rr) (fun _ => List.append_nil _) rfl wm_yX12_wrongAt wn_X12 wl_X12_157 wi_yX12_wrongAt we_yX12_wrongAt hd_yX12_wrongAt rfl ⟨Nat.le_of_ble_eq_true rfl, Nat.le_of_ble_eq_true rfl⟩ (Nat.le_of_ble_eq_true rfl) ⟨Nat.le_of_ble_eq_true rfl, Nat.le_of_ble_eq_true rfl⟩ dX12_readsWeek_141 (fun z1024 V1024 bz1024 h1024 => ?_)
                    obtain ⟨hI1024, bq1024, hx1024_0, hBc1024, hFc1024⟩ := h1024
                    replace hF := calVM_i hF hFc1024 hBc1024
                    replace hF := hF.fc bq1024
                    have hB1024 := hB933.tr hBc1024 (m := 128) rfl
                    exact x_zret (S := (Nat → Nat → Int)) (post := (fun a (u : Nat → Nat → Int) => MI G u ∧ (0 ≤ a ∧ a ≤ 1) ∧ Sp a (u 0 46 = 7 * u 0 47) ∧ u 0 6 = V 0 6 ∧ V 0 5 ≤ u 0 5 ∧ FBm 19807040628566295504618520736 V u ∧ (f_m_readsWeek V J Rr) (a, u))) (w1 := (fun u : Nat → Nat → Int => MW cy ad u J Rr)) (a := z1024) C hr rfl dX12_readsWeek_144 (by omega) V1024 rfl ⟨hI1024, ⟨by omega, by omega⟩, (Or.inl (by omega)), (((hx1024_0 (0) (6) (Or.inr (by decide))).trans ((congrFun (congrFun hV933 0) 6).trans ((up2_n _ _ (Or.inr (by decide))).trans hk857_0))).trans ez2.symm), (by rw [((hx1024_0 (0) (5) (Or.inr (by decide))).trans ((congrFun (congrFun hV933 0) 5).trans (up2_s _ _ _ _)))]; omega), hB1024, hF _ rfl⟩
            · replace hF := hF.to (if_neg hc880)
              refine x_aload_n C.1 dX12_readsWeek_87 3 rfl ?_
              refine x_bipush C.1 (n := 6) dX12_readsWeek_88 ?_
              refine x_aload_n C.1 dX12_readsWeek_90 3 rfl ?_
              refine x_getI C (N := 33) (i := 0) (by decide) rfl vc_X12 wx_X12 5 (by decide) wf_X12_144 rfl dX12_readsWeek_91 (a := z859) ez859 ?_
              refine x_callVi C (As := [vI 6, vI z859]) (rest := []) 0 (xw_at (N := 33) (i := 0) (by decide) rfl) vc_X12 (m_wrongAt l D cy ad G V858 J Rr hI858 hJ hR 6 ⟨by decide, by decide⟩ z859 ⟨by omega, by omega⟩) (l1 := []) (l2 := []) (List.append_nil _).symm (w2 := fun u : Nat → Nat → Int => MW cy ad u J Rr) (fun _ => List.append_nil _) rfl wm_yX12_wrongAt wn_X12 wl_X12_157 wi_yX12_wrongAt we_yX12_wrongAt hd_yX12_wrongAt rfl ⟨Nat.le_of_ble_eq_true rfl, Nat.le_of_ble_eq_true rfl⟩ (Nat.le_of_ble_eq_true rfl) ⟨Nat.le_of_ble_eq_true rfl, Nat.le_of_ble_eq_true rfl⟩ dX12_readsWeek_94 (fun z1025 V1025 bz1025 h1025 => ?_)
              obtain ⟨hI1025, bq1025, hx1025_0, hBc1025, hFc1025⟩ := h1025
              replace hF := calVM_i hF hFc1025 hBc1025
              replace hF := hF.fc bq1025
              have hB1025 := hB858.tr hBc1025 (m := 128) rfl
              exact x_zret (S := (Nat → Nat → Int)) (post := (fun a (u : Nat → Nat → Int) => MI G u ∧ (0 ≤ a ∧ a ≤ 1) ∧ Sp a (u 0 46 = 7 * u 0 47) ∧ u 0 6 = V 0 6 ∧ V 0 5 ≤ u 0 5 ∧ FBm 19807040628566295504618520736 V u ∧ (f_m_readsWeek V J Rr) (a, u))) (w1 := (fun u : Nat → Nat → Int => MW cy ad u J Rr)) (a := z1025) C hr rfl dX12_readsWeek_97 (by omega) V1025 rfl ⟨hI1025, ⟨by omega, by omega⟩, (Or.inl (by omega)), (((hx1025_0 (0) (6) (Or.inr (by decide))).trans hk857_0).trans ez2.symm), (by rw [((hx1025_0 (0) (5) (Or.inr (by decide))).trans ez859)]; omega), hB1025, hF _ rfl⟩
          · refine x_if_eq C.1 (tgt := 77) dX12_readsWeek_67 (by decide) (by omega) (fun hc1026 => ?_) (fun hc1026 => ?_)
            · replace hF := hF.to (if_pos hc1026)
              have hof1027 := Sq.off hx874_0 (by omega)
              refine x_iconst C.1 (n := 1) dX12_readsWeek_77 ?_
              exact jn879 1 ⟨⟨by decide, by decide⟩, hF⟩
            · replace hF := hF.to (if_neg hc1026)
              have hon1028 := Sq.on hx874_0 (by omega)
              refine x_iload_n C.1 dX12_readsWeek_70 0 rfl ?_
              refine x_bipush C.1 (n := 48) dX12_readsWeek_71 ?_
              refine x_isub C.1 (v := z870 - 48) (by omega) dX12_readsWeek_73 ?_
              refine x_goto C.1 (tgt := 78) dX12_readsWeek_74 (by decide) ?_
              exact jn879 (z870 - 48) ⟨⟨by omega, by omega⟩, hF⟩
        · replace hF := hF.to (if_neg (fun hh => hh hc872))
          have hof1029 := Sq.off hx871_0 (by omega)
          refine x_aload_n C.1 dX12_readsWeek_49 2 rfl ?_
          refine x_iconst C.1 (n := 1) dX12_readsWeek_50 ?_
          refine x_aload_n C.1 dX12_readsWeek_51 2 rfl ?_
          refine x_getI C (N := 33) (i := 0) (by decide) rfl vc_X12 wx_X12 5 (by decide) wf_X12_144 rfl dX12_readsWeek_52 (a := z859) ez859 ?_
          refine x_callVi C (As := [vI 1, vI z859]) (rest := []) 0 (xw_at (N := 33) (i := 0) (by decide) rfl) vc_X12 (m_wrongAt l D cy ad G V858 J Rr hI858 hJ hR 1 ⟨by decide, by decide⟩ z859 ⟨by omega, by omega⟩) (l1 := []) (l2 := []) (List.append_nil _).symm (w2 := fun u : Nat → Nat → Int => MW cy ad u J Rr) (fun _ => List.append_nil _) rfl wm_yX12_wrongAt wn_X12 wl_X12_157 wi_yX12_wrongAt we_yX12_wrongAt hd_yX12_wrongAt rfl ⟨Nat.le_of_ble_eq_true rfl, Nat.le_of_ble_eq_true rfl⟩ (Nat.le_of_ble_eq_true rfl) ⟨Nat.le_of_ble_eq_true rfl, Nat.le_of_ble_eq_true rfl⟩ dX12_readsWeek_55 (fun z1030 V1030 bz1030 h1030 => ?_)
          obtain ⟨hI1030, bq1030, hx1030_0, hBc1030, hFc1030⟩ := h1030
          replace hF := calVM_i hF hFc1030 hBc1030
          replace hF := hF.fc bq1030
          have hB1030 := hB858.tr hBc1030 (m := 128) rfl
          exact x_zret (S := (Nat → Nat → Int)) (post := (fun a (u : Nat → Nat → Int) => MI G u ∧ (0 ≤ a ∧ a ≤ 1) ∧ Sp a (u 0 46 = 7 * u 0 47) ∧ u 0 6 = V 0 6 ∧ V 0 5 ≤ u 0 5 ∧ FBm 19807040628566295504618520736 V u ∧ (f_m_readsWeek V J Rr) (a, u))) (w1 := (fun u : Nat → Nat → Int => MW cy ad u J Rr)) (a := z1030) C hr rfl dX12_readsWeek_58 (by omega) V1030 rfl ⟨hI1030, ⟨by omega, by omega⟩, (Or.inl (by omega)), (((hx1030_0 (0) (6) (Or.inr (by decide))).trans hk857_0).trans ez2.symm), (by rw [((hx1030_0 (0) (5) (Or.inr (by decide))).trans ez859)]; omega), hB1030, hF _ rfl⟩
    · replace hF := hF.to (if_neg (fun hh => hh hc520))
      refine x_aload_n C.1 dX12_readsWeek_21 1 rfl ?_
      refine x_iconst C.1 (n := 4) dX12_readsWeek_22 ?_
      refine x_aload_n C.1 dX12_readsWeek_23 1 rfl ?_
      refine x_getI C (N := 33) (i := 0) (by decide) rfl vc_X12 wx_X12 5 (by decide) wf_X12_144 rfl dX12_readsWeek_24 (a := z1) ez1 ?_
      refine x_callVi C (As := [vI 4, vI z1]) (rest := []) 0 (xw_at (N := 33) (i := 0) (by decide) rfl) vc_X12 (m_wrongAt l D cy ad G V J Rr hI hJ hR 4 ⟨by decide, by decide⟩ z1 ⟨by omega, by omega⟩) (l1 := []) (l2 := []) (List.append_nil _).symm (w2 := fun u : Nat → Nat → Int => MW cy ad u J Rr) (fun _ => List.append_nil _) rfl wm_yX12_wrongAt wn_X12 wl_X12_157 wi_yX12_wrongAt we_yX12_wrongAt hd_yX12_wrongAt rfl ⟨Nat.le_of_ble_eq_true rfl, Nat.le_of_ble_eq_true rfl⟩ (Nat.le_of_ble_eq_true rfl) ⟨Nat.le_of_ble_eq_true rfl, Nat.le_of_ble_eq_true rfl⟩ dX12_readsWeek_27 (fun z1031 V1031 bz1031 h1031 => ?_)
      obtain ⟨hI1031, bq1031, hx1031_0, hBc1031, hFc1031⟩ := h1031
      replace hF := calVM_i hF hFc1031 hBc1031
      replace hF := hF.fc bq1031
      have hB1031 := hB.tr hBc1031 (m := 128) rfl
      exact x_zret (S := (Nat → Nat → Int)) (post := (fun a (u : Nat → Nat → Int) => MI G u ∧ (0 ≤ a ∧ a ≤ 1) ∧ Sp a (u 0 46 = 7 * u 0 47) ∧ u 0 6 = V 0 6 ∧ V 0 5 ≤ u 0 5 ∧ FBm 19807040628566295504618520736 V u ∧ (f_m_readsWeek V J Rr) (a, u))) (w1 := (fun u : Nat → Nat → Int => MW cy ad u J Rr)) (a := z1031) C hr rfl dX12_readsWeek_30 (by omega) V1031 rfl ⟨hI1031, ⟨by omega, by omega⟩, (Or.inl (by omega)), (((hx1031_0 (0) (6) (Or.inr (by decide))).trans ez2).trans ez2.symm), (by rw [((hx1031_0 (0) (5) (Or.inr (by decide))).trans ez1)]; omega), hB1031, hF _ rfl⟩
theorem dX12_goesByRota_0 : decode cX12_goesByRota 0 = .ok (.aload_n 0, 1) := by decide +kernel
theorem dX12_goesByRota_1 : decode cX12_goesByRota 1 = .ok (.getfield 7, 3) := by decide +kernel
theorem dX12_goesByRota_4 : decode cX12_goesByRota 4 = .ok (.aload_n 0, 1) := by decide +kernel
theorem dX12_goesByRota_5 : decode cX12_goesByRota 5 = .ok (.getfield 13, 3) := by decide +kernel
theorem dX12_goesByRota_8 : decode cX12_goesByRota 8 = .ok (.invokestatic 294, 3) := by decide +kernel
theorem dX12_goesByRota_11 : decode cX12_goesByRota 11 = .ok (.aload_n 0, 1) := by decide +kernel
theorem dX12_goesByRota_12 : decode cX12_goesByRota 12 = .ok (.bipush (-2), 2) := by decide +kernel
theorem dX12_goesByRota_14 : decode cX12_goesByRota 14 = .ok (.putfield 395, 3) := by decide +kernel
theorem dX12_goesByRota_17 : decode cX12_goesByRota 17 = .ok (.iconst 0, 1) := by decide +kernel
theorem dX12_goesByRota_18 : decode cX12_goesByRota 18 = .ok (.istore_n 2, 1) := by decide +kernel
theorem dX12_goesByRota_19 : decode cX12_goesByRota 19 = .ok (.iload_n 2, 1) := by decide +kernel
theorem dX12_goesByRota_20 : decode cX12_goesByRota 20 = .ok (.aload_n 0, 1) := by decide +kernel
theorem dX12_goesByRota_21 : decode cX12_goesByRota 21 = .ok (.getfield 392, 3) := by decide +kernel
theorem dX12_goesByRota_24 : decode cX12_goesByRota 24 = .ok (.if_icmp .ge 85, 3) := by decide +kernel
theorem dX12_goesByRota_27 : decode cX12_goesByRota 27 = .ok (.aload_n 0, 1) := by decide +kernel
theorem dX12_goesByRota_28 : decode cX12_goesByRota 28 = .ok (.iload_n 1, 1) := by decide +kernel
theorem dX12_goesByRota_29 : decode cX12_goesByRota 29 = .ok (.invokevirtual 130, 3) := by decide +kernel
theorem dX12_goesByRota_32 : decode cX12_goesByRota 32 = .ok (.ifCond .eq 77, 3) := by decide +kernel
theorem dX12_goesByRota_35 : decode cX12_goesByRota 35 = .ok (.aload_n 0, 1) := by decide +kernel
theorem dX12_goesByRota_36 : decode cX12_goesByRota 36 = .ok (.getfield 99, 3) := by decide +kernel
theorem dX12_goesByRota_39 : decode cX12_goesByRota 39 = .ok (.iload_n 2, 1) := by decide +kernel
theorem dX12_goesByRota_40 : decode cX12_goesByRota 40 = .ok (.iaload, 1) := by decide +kernel
theorem dX12_goesByRota_41 : decode cX12_goesByRota 41 = .ok (.iconst (-1), 1) := by decide +kernel
theorem dX12_goesByRota_42 : decode cX12_goesByRota 42 = .ok (.if_icmp .eq 14, 3) := by decide +kernel
theorem dX12_goesByRota_45 : decode cX12_goesByRota 45 = .ok (.aload_n 0, 1) := by decide +kernel
theorem dX12_goesByRota_46 : decode cX12_goesByRota 46 = .ok (.aload_n 0, 1) := by decide +kernel
theorem dX12_goesByRota_47 : decode cX12_goesByRota 47 = .ok (.getfield 99, 3) := by decide +kernel
theorem dX12_goesByRota_50 : decode cX12_goesByRota 50 = .ok (.iload_n 2, 1) := by decide +kernel
theorem dX12_goesByRota_51 : decode cX12_goesByRota 51 = .ok (.iaload, 1) := by decide +kernel
theorem dX12_goesByRota_52 : decode cX12_goesByRota 52 = .ok (.iload_n 1, 1) := by decide +kernel
theorem dX12_goesByRota_53 : decode cX12_goesByRota 53 = .ok (.invokevirtual 278, 3) := by decide +kernel
theorem dX12_goesByRota_56 : decode cX12_goesByRota 56 = .ok (.aload_n 0, 1) := by decide +kernel
theorem dX12_goesByRota_57 : decode cX12_goesByRota 57 = .ok (.iload_n 1, 1) := by decide +kernel
theorem dX12_goesByRota_58 : decode cX12_goesByRota 58 = .ok (.aload_n 0, 1) := by decide +kernel
theorem dX12_goesByRota_59 : decode cX12_goesByRota 59 = .ok (.invokevirtual 275, 3) := by decide +kernel
theorem dX12_goesByRota_62 : decode cX12_goesByRota 62 = .ok (.iconst 5, 1) := by decide +kernel
theorem dX12_goesByRota_63 : decode cX12_goesByRota 63 = .ok (.if_icmp .ge 7, 3) := by decide +kernel
theorem dX12_goesByRota_66 : decode cX12_goesByRota 66 = .ok (.iconst 1, 1) := by decide +kernel
theorem dX12_goesByRota_67 : decode cX12_goesByRota 67 = .ok (.goto 4, 3) := by decide +kernel
theorem dX12_goesByRota_70 : decode cX12_goesByRota 70 = .ok (.iconst 0, 1) := by decide +kernel
theorem dX12_goesByRota_71 : decode cX12_goesByRota 71 = .ok (.invokevirtual 284, 3) := by decide +kernel
theorem dX12_goesByRota_74 : decode cX12_goesByRota 74 = .ok (.aload_n 0, 1) := by decide +kernel
theorem dX12_goesByRota_75 : decode cX12_goesByRota 75 = .ok (.iload_n 1, 1) := by decide +kernel
theorem dX12_goesByRota_76 : decode cX12_goesByRota 76 = .ok (.invokevirtual 130, 3) := by decide +kernel
theorem dX12_goesByRota_79 : decode cX12_goesByRota 79 = .ok (.ifCond .ne 8, 3) := by decide +kernel
theorem dX12_goesByRota_82 : decode cX12_goesByRota 82 = .ok (.aload_n 0, 1) := by decide +kernel
theorem dX12_goesByRota_83 : decode cX12_goesByRota 83 = .ok (.iload_n 2, 1) := by decide +kernel
theorem dX12_goesByRota_84 : decode cX12_goesByRota 84 = .ok (.putfield 395, 3) := by decide +kernel
theorem dX12_goesByRota_87 : decode cX12_goesByRota 87 = .ok (.aload_n 0, 1) := by decide +kernel
theorem dX12_goesByRota_88 : decode cX12_goesByRota 88 = .ok (.getfield 7, 3) := by decide +kernel
theorem dX12_goesByRota_91 : decode cX12_goesByRota 91 = .ok (.bipush 79, 2) := by decide +kernel
theorem dX12_goesByRota_93 : decode cX12_goesByRota 93 = .ok (.aload_n 0, 1) := by decide +kernel
theorem dX12_goesByRota_94 : decode cX12_goesByRota 94 = .ok (.getfield 7, 3) := by decide +kernel
theorem dX12_goesByRota_97 : decode cX12_goesByRota 97 = .ok (.bipush 79, 2) := by decide +kernel
theorem dX12_goesByRota_99 : decode cX12_goesByRota 99 = .ok (.iaload, 1) := by decide +kernel
theorem dX12_goesByRota_100 : decode cX12_goesByRota 100 = .ok (.iconst 1, 1) := by decide +kernel
theorem dX12_goesByRota_101 : decode cX12_goesByRota 101 = .ok (.iadd, 1) := by decide +kernel
theorem dX12_goesByRota_102 : decode cX12_goesByRota 102 = .ok (.iastore, 1) := by decide +kernel
theorem dX12_goesByRota_103 : decode cX12_goesByRota 103 = .ok (.iinc 2 1, 3) := by decide +kernel
theorem dX12_goesByRota_106 : decode cX12_goesByRota 106 = .ok (.goto (-87), 3) := by decide +kernel
theorem dX12_goesByRota_109 : decode cX12_goesByRota 109 = .ok (.aload_n 0, 1) := by decide +kernel
theorem dX12_goesByRota_110 : decode cX12_goesByRota 110 = .ok (.aload_n 0, 1) := by decide +kernel
theorem dX12_goesByRota_111 : decode cX12_goesByRota 111 = .ok (.getfield 7, 3) := by decide +kernel
theorem dX12_goesByRota_114 : decode cX12_goesByRota 114 = .ok (.iconst 4, 1) := by decide +kernel
theorem dX12_goesByRota_115 : decode cX12_goesByRota 115 = .ok (.iload_n 1, 1) := by decide +kernel
theorem dX12_goesByRota_116 : decode cX12_goesByRota 116 = .ok (.iadd, 1) := by decide +kernel
theorem dX12_goesByRota_117 : decode cX12_goesByRota 117 = .ok (.iaload, 1) := by decide +kernel
theorem dX12_goesByRota_118 : decode cX12_goesByRota 118 = .ok (.putfield 398, 3) := by decide +kernel
theorem dX12_goesByRota_121 : decode cX12_goesByRota 121 = .ok (.aload_n 0, 1) := by decide +kernel
theorem dX12_goesByRota_122 : decode cX12_goesByRota 122 = .ok (.getfield 13, 3) := by decide +kernel
theorem dX12_goesByRota_125 : decode cX12_goesByRota 125 = .ok (.aload_n 0, 1) := by decide +kernel
theorem dX12_goesByRota_126 : decode cX12_goesByRota 126 = .ok (.getfield 7, 3) := by decide +kernel
theorem dX12_goesByRota_129 : decode cX12_goesByRota 129 = .ok (.invokestatic 294, 3) := by decide +kernel
theorem dX12_goesByRota_132 : decode cX12_goesByRota 132 = .ok (.return_, 1) := by decide +kernel
set_option maxRecDepth 100000 in
def f_m_goesByRota (x1 : Int) (V : Nat → Nat → Int) (J : Nat → Nat → Int) (Rr : Nat → Nat → Nat) : (Nat → Nat → Int) → Prop :=
  rdb (cpN V 1 2 81) fun V1 => rdb (up2 V1 0 49 (-2)) fun V2 => lop2 (86) (fun rc597 (z596 : Int) (V597 : Nat → Nat → Int) => rdb (V597 0 46) fun z696 => fct (0 ≤ z696 ∧ z696 ≤ 84) <| jnk (fun (un743 : Unit) => rdb (V597 1 ((x1 + 4).toNat)) fun z744 => fct (0 ≤ z744 ∧ z744 ≤ 24) <| rdb (up2 V597 0 50 z744) fun V745 => rdb (cpN V745 2 1 81) fun V746 => rtn V746) fun jf743 => (if z696 ≤ z596 then jf743 (()) else calR (f_m_lives x1 V597 J Rr) fun z748 => fct (0 ≤ z748 ∧ z748 ≤ 1) <| (if z748 = 0 then jf743 (()) else rdb (V597 1 ((x1 + 12).toNat)) fun z751 => fct (0 ≤ z751 ∧ z751 ≤ 8) <| rdb (V597 1 ((x1 + 16).toNat)) fun z752 => fct (0 ≤ z752 ∧ z752 ≤ 8) <| rdb (V597 30 z596.toNat) fun z753 => fct (-1 ≤ z753 ∧ z753 ≤ 7) <| (if z753 = (-1) then calVM 36893488147419103232 V597 (f_m_draws V597 J Rr) fun z755 V755 => jnk (fun (z756 : Int) => calUM 7253591811175922467340288 V755 (f_m_dries x1 z756 V755 J Rr) fun V758 => calR (f_m_lives x1 V758 J Rr) fun z759 => fct (0 ≤ z759 ∧ z759 ≤ 1) <| jnk (fun (V764 : Nat → Nat → Int) => rdb (V764 1 79) fun z765 => rdb (wr (z765 + 1)) fun z766 => rdb (up2 V764 1 79 z766) fun V767 => rc597 (z596 + 1) V767) fun jf764 => (if ¬ z759 = 0 then rdb (V758 1 ((x1 + 12).toNat)) fun z770 => fct (0 ≤ z770 ∧ z770 ≤ 8) <| rdb (V758 1 ((x1 + 16).toNat)) fun z771 => fct (0 ≤ z771 ∧ z771 ≤ 8) <| jf764 V758 else rdb (up2 V758 0 49 z596) fun V772 => jf764 V772)) fun jf757 => (if 5 ≤ z755 then jf757 0 else jf757 1) else calUM 16924998368092956267642880 V597 (f_m_waters z753 x1 V597 J Rr) fun V774 => calVM 36893488147419103232 V774 (f_m_draws V774 J Rr) fun z775 V775 => jnk (fun (z776 : Int) => calUM 7253591811175922467340288 V775 (f_m_dries x1 z776 V775 J Rr) fun V778 => calR (f_m_lives x1 V778 J Rr) fun z779 => fct (0 ≤ z779 ∧ z779 ≤ 1) <| jnk (fun (V784 : Nat → Nat → Int) => rdb (V784 1 79) fun z785 => rdb (wr (z785 + 1)) fun z786 => rdb (up2 V784 1 79 z786) fun V787 => rc597 (z596 + 1) V787) fun jf784 => (if ¬ z779 = 0 then rdb (V778 1 ((x1 + 12).toNat)) fun z790 => fct (0 ≤ z790 ∧ z790 ≤ 8) <| rdb (V778 1 ((x1 + 16).toNat)) fun z791 => fct (0 ≤ z791 ∧ z791 ≤ 8) <| jf784 V778 else rdb (up2 V778 0 49 z596) fun V792 => jf784 V792)) fun jf777 => (if 5 ≤ z775 then jf777 0 else jf777 1))))) 0 V2
set_option maxHeartbeats 8000000 in
set_option maxRecDepth 100000 in
theorem m_goesByRota (l : Launch) (D : va_G) (cy : Nat → ClassId) (ad : Nat → Nat) (G : Nat → Nat → Int) (V J : Nat → Nat → Int) (Rr : Nat → Nat → Nat) (hI : MI G V) (hJ : VJ J) (hR : MR Rr) (x1 : Int) (bx1 : 0 ≤ x1 ∧ x1 ≤ 3) (hW : WP G) : xMv l D (xTY cy) yX12_goesByRota cX12_goesByRota 3 none 5 120 0 0 [.ref (ad 0), vI x1] (MW cy ad V J Rr) (fun u : Nat → Nat → Int => MW cy ad u J Rr) (fun u : Nat → Nat → Int => MI G u ∧ FBm 16925072156758100966113280 V u ∧ (f_m_goesByRota x1 V J Rr) u) := by
  refine xMv.mk (lv0 := [(0, .ref (ad 0)), (1, vI x1)]) (by decide) rfl (Nat.le_of_ble_eq_true rfl) (fun p e s m below meth c A C hr hnm hAe => ?_)
  have C : xC2 p s m _ meth c D A s.heap 3 cX12_goesByRota RX12 (xTY cy) := C
  have hB : FBm 16925072156758100966113280 V V := FBm.rf _ _
  have hF := Imp.of_eq (f_m_goesByRota.eq_def x1 V J Rr)
  refine x_aload_n C.1 dX12_goesByRota_0 0 rfl ?_
  refine x_getA C (N := 33) (i := 0) (by decide) rfl vc_X12 wx_X12 0 (by decide) wf_X12_7 (a := 1) rfl dX12_goesByRota_1 ?_
  refine x_aload_n C.1 dX12_goesByRota_4 0 rfl ?_
  refine x_getA C (N := 33) (i := 0) (by decide) rfl vc_X12 wx_X12 1 (by decide) wf_X12_13 (a := 2) rfl dX12_goesByRota_5 ?_
  refine x_callSv C (As := [.ref (ad 1), .ref (ad 2)]) (rest := []) (c_copies l D cy ad V J Rr hI.vr hJ 1 2 (by decide) (by decide) rfl rfl (by decide)) (l1 := []) (l2 := []) (List.append_nil _).symm (w2 := fun u : xS => MW cy ad u.1 u.2.1 u.2.2) (fun _ => List.append_nil _) rfl wm_yX12_copies wn_X12 wl_X12_294 wi_yX12_copies hd_yX12_copies rfl ⟨Nat.le_of_ble_eq_true rfl, Nat.le_of_ble_eq_true rfl⟩ (Nat.le_of_ble_eq_true rfl) ⟨Nat.le_of_ble_eq_true rfl, Nat.le_of_ble_eq_true rfl⟩ dX12_goesByRota_8 (fun u1 h1 => ?_)
  subst h1
  dsimp only
  refine x_gV ?_
  intro V1 hV1
  have hI1 : MI G V1 := MI.cp hI hV1 (by decide) (by decide)
  have hB1 := hB.cp hV1 (fun _ => by rw [mkey_r (by decide)]; rfl)
  replace hF := hF.to (rdb_e (z := V1) hV1.symm)
  refine x_aload_n C.1 dX12_goesByRota_11 0 rfl ?_
  refine x_bipush C.1 (n := -2) dX12_goesByRota_12 ?_
  refine x_putI C (N := 33) (i := 0) (by decide) rfl vc_X12 wx_X12 49 (by decide) wf_X12_395 tyX12 tyX12_ok nmX12 rfl (tyX12_ok 49 (by decide)) rfl dX12_goesByRota_14 rfl rfl ?_
  refine x_gV ?_
  intro V2 hV2
  have hI2 : MI G V2 := hI1.up hV2 rfl (by decide) rfl (Or.inl (by decide))
  have hB2 := hB1.up hV2 rfl
  replace hF := hF.to (rdb_e (z := V2) hV2.symm)
  refine x_iconst C.1 (n := 0) dX12_goesByRota_17 ?_
  refine x_istore_n C.1 (lv' := [(2, vI 0), (0, .ref (ad 0)), (1, vI x1)]) dX12_goesByRota_18 (by decide) rfl ?_
  obtain ⟨bd597, hbd597, hF⟩ := lop2_ex hF
  refine x_loop (I := fun x : Int × (Nat → Nat → Int) => match x with | (z596, V597) => (0 ≤ z596 ∧ z596 ≤ 84) ∧ MI G V597 ∧ FBm 16925072156758100966113280 V V597 ∧ (∃ nf : Nat, (85 - z596).toNat < nf ∧ Imp (lop2 nf bd597 z596 V597) (f_m_goesByRota x1 V J Rr))) (μ := fun x : Int × (Nat → Nat → Int) => match x with | (z596, V597) => (85 - z596).toNat) (wsf := fun x : Int × (Nat → Nat → Int) => match x with | (z596, V597) => MW cy ad V597 J Rr) (lvf := fun x : Int × (Nat → Nat → Int) => match x with | (z596, V597) => [(2, vI z596), (0, .ref (ad 0)), (1, vI x1)]) (fun x hI597x ih597 => ?_) (0, V2) ⟨⟨by decide, by decide⟩, hI2, hB2, ⟨_, (by omega), hF⟩⟩ rfl rfl
  obtain ⟨z596, V597⟩ := x
  obtain ⟨bz596, hI597, hB597, nf597, hn597, hF⟩ := hI597x
  try dsimp only
  obtain ⟨nf597, rfl⟩ : ∃ mm, nf597 = mm + 1 := ⟨nf597 - 1, (Nat.succ_pred_eq_of_pos (Nat.lt_of_le_of_lt (Nat.zero_le _) hn597)).symm⟩
  replace hF := hF.to (lop2_s hbd597)
  refine x_iload_n C.1 dX12_goesByRota_19 0 rfl ?_
  refine x_aload_n C.1 dX12_goesByRota_20 1 rfl ?_
  obtain ⟨z696, ez696, bz696⟩ := hI597.rd 0 46 (x := 0) (y := 84) rfl
  replace hF := hF.to (rdb_e (z := z696) ez696)
  replace hF := hF.fc bz696
  refine x_getI C (N := 33) (i := 0) (by decide) rfl vc_X12 wx_X12 46 (by decide) wf_X12_392 rfl dX12_goesByRota_21 (a := z696) ez696 ?_
  obtain ⟨jf743, hjf743, hF⟩ := jn_ex hF
  refine x_join (I := fun un743 : Unit => True ∧ Imp (jf743 un743) (f_m_goesByRota x1 V J Rr)) (wsf := fun un743 : Unit => MW cy ad V597 J Rr) (lvf := fun un743 : Unit => [(2, vI z596), (0, .ref (ad 0)), (1, vI x1)]) (stf := fun un743 : Unit => []) 109 (fun un743 hI743x => ?_) (fun jn743 => ?_)
  · obtain ⟨_, hF⟩ := hI743x
    try dsimp only
    replace hF := hF.to (jn_s1 hjf743)
    refine x_aload_n C.1 dX12_goesByRota_109 1 rfl ?_
    refine x_aload_n C.1 dX12_goesByRota_110 1 rfl ?_
    refine x_getA C (N := 33) (i := 0) (by decide) rfl vc_X12 wx_X12 0 (by decide) wf_X12_7 (a := 1) rfl dX12_goesByRota_111 ?_
    refine x_iconst C.1 (n := 4) dX12_goesByRota_114 ?_
    refine x_iload_n C.1 dX12_goesByRota_115 2 rfl ?_
    refine x_iadd C.1 (v := x1 + 4) (by omega) dX12_goesByRota_116 ?_
    obtain ⟨z744, ez744, bz744⟩ := hI597.rd 1 ((x1 + 4).toNat) (x := 0) (y := 24) (rgN_8 (Or.inl rfl) (by omega))
    replace hF := hF.to (rdb_e (z := z744) ez744)
    replace hF := hF.fc bz744
    refine x_iald C (N := 33) (i := 1) (q := x1 + 4) (by decide) rfl (by omega) (by decide) dX12_goesByRota_117 (a := z744) ez744 ?_
    refine x_putI C (N := 33) (i := 0) (by decide) rfl vc_X12 wx_X12 50 (by decide) wf_X12_398 tyX12 tyX12_ok nmX12 rfl (tyX12_ok 50 (by decide)) rfl dX12_goesByRota_118 rfl rfl ?_
    refine x_gV ?_
    intro V745 hV745
    have hI745 : MI G V745 := hI597.up hV745 rfl (by omega) rfl (Or.inl (by decide))
    have hB745 := hB597.up hV745 rfl
    replace hF := hF.to (rdb_e (z := V745) hV745.symm)
    refine x_aload_n C.1 dX12_goesByRota_121 1 rfl ?_
    refine x_getA C (N := 33) (i := 0) (by decide) rfl vc_X12 wx_X12 1 (by decide) wf_X12_13 (a := 2) rfl dX12_goesByRota_122 ?_
    refine x_aload_n C.1 dX12_goesByRota_125 1 rfl ?_
    refine x_getA C (N := 33) (i := 0) (by decide) rfl vc_X12 wx_X12 0 (by decide) wf_X12_7 (a := 1) rfl dX12_goesByRota_126 ?_
    refine x_callSv C (As := [.ref (ad 2), .ref (ad 1)]) (rest := []) (c_copies l D cy ad V745 J Rr hI745.vr hJ 2 1 (by decide) (by decide) rfl rfl (by decide)) (l1 := []) (l2 := []) (List.append_nil _).symm (w2 := fun u : xS => MW cy ad u.1 u.2.1 u.2.2) (fun _ => List.append_nil _) rfl wm_yX12_copies wn_X12 wl_X12_294 wi_yX12_copies hd_yX12_copies rfl ⟨Nat.le_of_ble_eq_true rfl, Nat.le_of_ble_eq_true rfl⟩ (Nat.le_of_ble_eq_true rfl) ⟨Nat.le_of_ble_eq_true rfl, Nat.le_of_ble_eq_true rfl⟩ dX12_goesByRota_129 (fun u746 h746 => ?_)
    subst h746
    dsimp only
    refine x_gV ?_
    intro V746 hV746
    have hI746 : MI G V746 := MI.cp hI745 hV746 (by decide) (by decide)
    have hB746 := hB745.cp hV746 (fun _ => by rw [mkey_r (by decide)]; rfl)
    replace hF := hF.to (rdb_e (z := V746) hV746.symm)
    exact x_vret (S := (Nat → Nat → Int)) (post := (fun u : Nat → Nat → Int => MI G u ∧ FBm 16925072156758100966113280 V u ∧ (f_m_goesByRota x1 V J Rr) u)) (w1 := (fun u : Nat → Nat → Int => MW cy ad u J Rr)) C hr rfl dX12_goesByRota_132 V746 rfl ⟨hI746, hB746, hF _ rfl⟩
  · refine x_icmp_ge C.1 (tgt := 109) dX12_goesByRota_24 (by decide) (by omega) (by omega) (fun hc747 => ?_) (fun hc747 => ?_)
    · replace hF := hF.to (if_pos hc747)
      exact jn743 (()) ⟨trivial, hF⟩
    · replace hF := hF.to (if_neg hc747)
      refine x_aload_n C.1 dX12_goesByRota_27 1 rfl ?_
      refine x_iload_n C.1 dX12_goesByRota_28 2 rfl ?_
      refine x_callVi C (As := [vI x1]) (rest := []) 0 (xw_at (N := 33) (i := 0) (by decide) rfl) vc_X12 (m_lives l D cy ad G V597 J Rr hI597 hJ hR x1 ⟨by omega, by omega⟩) (l1 := []) (l2 := []) (List.append_nil _).symm (w2 := fun _ => MW cy ad V597 J Rr) (fun _ => List.append_nil _) rfl wm_yX12_lives wn_X12 wl_X12_130 wi_yX12_lives we_yX12_lives hd_yX12_lives rfl ⟨Nat.le_of_ble_eq_true rfl, Nat.le_of_ble_eq_true rfl⟩ (Nat.le_of_ble_eq_true rfl) ⟨Nat.le_of_ble_eq_true rfl, Nat.le_of_ble_eq_true rfl⟩ dX12_goesByRota_29 (fun z748 u748 bz748 h748 => ?_)
      obtain ⟨bq748, hx748_0, hFc748⟩ := h748
      replace hF := calR_i hF hFc748
      replace hF := hF.fc bq748
      refine x_if_eq C.1 (tgt := 109) dX12_goesByRota_32 (by decide) (by omega) (fun hc749 => ?_) (fun hc749 => ?_)
      · replace hF := hF.to (if_pos hc749)
        exact jn743 (()) ⟨trivial, hF⟩
      · replace hF := hF.to (if_neg hc749)
        have hon750 := Sp.on hx748_0 (by omega)
        obtain ⟨z751, ez751, bz751⟩ := hI597.rd 1 ((x1 + 12).toNat) (x := 0) (y := 9) (rgN_20 (Or.inl rfl) (by omega))
        have by751 : z751 ≤ 8 := by rw [← ez751, show (x1 + 12).toNat = 12 + x1.toNat by omega]; exact hon750.2.1
        replace hF := hF.to (rdb_e (z := z751) ez751)
        replace hF := hF.fc ⟨bz751.1, by751⟩
        obtain ⟨z752, ez752, bz752⟩ := hI597.rd 1 ((x1 + 16).toNat) (x := 0) (y := 9) (rgN_20 (Or.inl rfl) (by omega))
        have by752 : z752 ≤ 8 := by rw [← ez752, show (x1 + 16).toNat = 16 + x1.toNat by omega]; exact hon750.2.2
        replace hF := hF.to (rdb_e (z := z752) ez752)
        replace hF := hF.fc ⟨bz752.1, by752⟩
        refine x_aload_n C.1 dX12_goesByRota_35 1 rfl ?_
        refine x_getA C (N := 33) (i := 0) (by decide) rfl vc_X12 wx_X12 48 (by decide) wf_X12_99 (a := 30) rfl dX12_goesByRota_36 ?_
        refine x_iload_n C.1 dX12_goesByRota_39 0 rfl ?_
        obtain ⟨z753, ez753, bz753⟩ := hI597.rd 30 z596.toNat (x := -1) (y := 7) rfl
        replace hF := hF.to (rdb_e (z := z753) ez753)
        replace hF := hF.fc bz753
        refine x_iald C (N := 33) (i := 30) (q := z596) (by decide) rfl (by omega) (by decide) dX12_goesByRota_40 (a := z753) ez753 ?_
        refine x_iconst C.1 (n := -1) dX12_goesByRota_41 ?_
        refine x_icmp_eq C.1 (tgt := 56) dX12_goesByRota_42 (by decide) (by omega) (by decide) (fun hc754 => ?_) (fun hc754 => ?_)
        · replace hF := hF.to (if_pos hc754)
          refine x_aload_n C.1 dX12_goesByRota_56 1 rfl ?_
          refine x_iload_n C.1 dX12_goesByRota_57 2 rfl ?_
          refine x_aload_n C.1 dX12_goesByRota_58 1 rfl ?_
          refine x_callVi C (As := []) (rest := [vI x1, .ref (ad 0)]) 0 (xw_at (N := 33) (i := 0) (by decide) rfl) vc_X12 (m_draws l D cy ad G V597 J Rr hI597 hJ hR ) (l1 := []) (l2 := []) (List.append_nil _).symm (w2 := fun u : Nat → Nat → Int => MW cy ad u J Rr) (fun _ => List.append_nil _) rfl wm_yX12_draws wn_X12 wl_X12_275 wi_yX12_draws we_yX12_draws hd_yX12_draws rfl ⟨Nat.le_of_ble_eq_true rfl, Nat.le_of_ble_eq_true rfl⟩ (Nat.le_of_ble_eq_true rfl) ⟨Nat.le_of_ble_eq_true rfl, Nat.le_of_ble_eq_true rfl⟩ dX12_goesByRota_59 (fun z755 V755 bz755 h755 => ?_)
          obtain ⟨hI755, hx755_0, hBc755, hFc755⟩ := h755
          replace hF := calVM_i hF hFc755 hBc755
          have hB755 := hB597.tr hBc755 (m := 36893488147419103232) rfl
          refine x_iconst C.1 (n := 5) dX12_goesByRota_62 ?_
          obtain ⟨jf757, hjf757, hF⟩ := jn_ex hF
          refine x_join (I := fun z756 : Int => (0 ≤ z756 ∧ z756 ≤ 1) ∧ Imp (jf757 z756) (f_m_goesByRota x1 V J Rr)) (wsf := fun z756 : Int => MW cy ad V755 J Rr) (lvf := fun z756 : Int => [(2, vI z596), (0, .ref (ad 0)), (1, vI x1)]) (stf := fun z756 : Int => [vI z756, vI x1, .ref (ad 0)]) 71 (fun z756 hI757x => ?_) (fun jn757 => ?_)
          · obtain ⟨bz756, hF⟩ := hI757x
            try dsimp only
            replace hF := hF.to (jn_s1 hjf757)
            refine x_callVv C (As := [vI x1, vI z756]) (rest := []) 0 (xw_at (N := 33) (i := 0) (by decide) rfl) vc_X12 (m_dries l D cy ad G V755 J Rr (KI.self hI755) hJ hR x1 ⟨by omega, by omega⟩ z756 ⟨by omega, by omega⟩ hW ⟨by rw [show 12 + x1.toNat = (x1 + 12).toNat by omega, ((hx755_0 ((x1 + 12).toNat) (by omega)).trans ez751)]; omega, by rw [show 16 + x1.toNat = (x1 + 16).toNat by omega, ((hx755_0 ((x1 + 16).toNat) (by omega)).trans ez752)]; omega⟩) (l1 := []) (l2 := []) (List.append_nil _).symm (w2 := fun u : Nat → Nat → Int => MW cy ad u J Rr) (fun _ => List.append_nil _) rfl wm_yX12_dries wn_X12 wl_X12_284 wi_yX12_dries we_yX12_dries hd_yX12_dries rfl ⟨Nat.le_of_ble_eq_true rfl, Nat.le_of_ble_eq_true rfl⟩ (Nat.le_of_ble_eq_true rfl) ⟨Nat.le_of_ble_eq_true rfl, Nat.le_of_ble_eq_true rfl⟩ dX12_goesByRota_71 (fun V758 h758 => ?_)
            obtain ⟨hI758, hBc758, hFc758⟩ := h758
            replace hF := calUM_i hF hFc758 hBc758
            have hB758 := hB755.tr hBc758 (m := 7253591811175922467340288) rfl
            have hI758c := hI758.1
            refine x_aload_n C.1 dX12_goesByRota_74 1 rfl ?_
            refine x_iload_n C.1 dX12_goesByRota_75 2 rfl ?_
            refine x_callVi C (As := [vI x1]) (rest := []) 0 (xw_at (N := 33) (i := 0) (by decide) rfl) vc_X12 (m_lives l D cy ad G V758 J Rr hI758c hJ hR x1 ⟨by omega, by omega⟩) (l1 := []) (l2 := []) (List.append_nil _).symm (w2 := fun _ => MW cy ad V758 J Rr) (fun _ => List.append_nil _) rfl wm_yX12_lives wn_X12 wl_X12_130 wi_yX12_lives we_yX12_lives hd_yX12_lives rfl ⟨Nat.le_of_ble_eq_true rfl, Nat.le_of_ble_eq_true rfl⟩ (Nat.le_of_ble_eq_true rfl) ⟨Nat.le_of_ble_eq_true rfl, Nat.le_of_ble_eq_true rfl⟩ dX12_goesByRota_76 (fun z759 u759 bz759 h759 => ?_)
            obtain ⟨bq759, hx759_0, hFc759⟩ := h759
            replace hF := calR_i hF hFc759
            replace hF := hF.fc bq759
            obtain ⟨jf764, hjf764, hF⟩ := jn_ex hF
            refine x_join (I := fun V764 : (Nat → Nat → Int) => MI G V764 ∧ FBm 16925072156758100966113280 V V764 ∧ Imp (jf764 V764) (f_m_goesByRota x1 V J Rr)) (wsf := fun V764 : (Nat → Nat → Int) => MW cy ad V764 J Rr) (lvf := fun V764 : (Nat → Nat → Int) => [(2, vI z596), (0, .ref (ad 0)), (1, vI x1)]) (stf := fun V764 : (Nat → Nat → Int) => []) 87 (fun V764 hI764x => ?_) (fun jn764 => ?_)
            · obtain ⟨hI764, hB764, hF⟩ := hI764x
              try dsimp only
              replace hF := hF.to (jn_s1 hjf764)
              refine x_aload_n C.1 dX12_goesByRota_87 1 rfl ?_
              refine x_getA C (N := 33) (i := 0) (by decide) rfl vc_X12 wx_X12 0 (by decide) wf_X12_7 (a := 1) rfl dX12_goesByRota_88 ?_
              refine x_bipush C.1 (n := 79) dX12_goesByRota_91 ?_
              refine x_aload_n C.1 dX12_goesByRota_93 1 rfl ?_
              refine x_getA C (N := 33) (i := 0) (by decide) rfl vc_X12 wx_X12 0 (by decide) wf_X12_7 (a := 1) rfl dX12_goesByRota_94 ?_
              refine x_bipush C.1 (n := 79) dX12_goesByRota_97 ?_
              obtain ⟨z765, ez765, bz765⟩ := hI764.rd 1 79 (x := -2147483648) (y := 2147483647) (rgN_81 (Or.inl rfl) (by decide))
              replace hF := hF.to (rdb_e (z := z765) ez765)
              refine x_iald C (N := 33) (i := 1) (q := 79) (by decide) rfl (by decide) (by decide) dX12_goesByRota_99 (a := z765) ez765 ?_
              refine x_iconst C.1 (n := 1) dX12_goesByRota_100 ?_
              refine x_iadd C.1 (v := z765 + 1) (by omega) dX12_goesByRota_101 ?_
              refine x_wrapg ?_
              intro z766 bz766 ew766
              replace hF := hF.to (rdb_e (z := z766) ew766.symm)
              refine x_iast C (N := 33) (i := 1) (q := 79) (a := z766) (by decide) rfl (by decide) (by decide) dX12_goesByRota_102 ?_
              rw [show (79 : Int).toNat = 79 from rfl]
              refine x_gV ?_
              intro V767 hV767
              have hI767 : MI G V767 := hI764.up hV767 (rgN_81 (Or.inl rfl) (by decide)) (by omega) rfl (Or.inr (by decide))
              have hB767 := hB764.up hV767 (by rw [mkey_r (by decide)]; rfl)
              replace hF := hF.to (rdb_e (z := V767) hV767.symm)
              refine x_iinc C.1 (v := z596 + 1) (lv' := [(2, vI (z596 + 1)), (0, .ref (ad 0)), (1, vI x1)]) (by omega) dX12_goesByRota_103 0 rfl (by decide) rfl ?_
              refine x_goto C.1 (tgt := 19) dX12_goesByRota_106 (by decide) ?_
              have hmu597 : (85 - (z596 + 1)).toNat < (85 - z596).toNat := (by omega)
              exact ih597 (z596 + 1, V767) ⟨⟨by omega, by omega⟩, hI767, hB767, ⟨nf597, Nat.lt_of_lt_of_le hmu597 (Nat.le_of_lt_succ hn597), hF⟩⟩ hmu597
            · refine x_if_ne C.1 (tgt := 87) dX12_goesByRota_79 (by decide) (by omega) (fun hc768 => ?_) (fun hc768 => ?_)
              · replace hF := hF.to (if_pos hc768)
                have hon769 := Sp.on hx759_0 (by omega)
                obtain ⟨z770, ez770, bz770⟩ := hI758c.rd 1 ((x1 + 12).toNat) (x := 0) (y := 9) (rgN_20 (Or.inl rfl) (by omega))
                have by770 : z770 ≤ 8 := by rw [← ez770, show (x1 + 12).toNat = 12 + x1.toNat by omega]; exact hon769.2.1
                replace hF := hF.to (rdb_e (z := z770) ez770)
                replace hF := hF.fc ⟨bz770.1, by770⟩
                obtain ⟨z771, ez771, bz771⟩ := hI758c.rd 1 ((x1 + 16).toNat) (x := 0) (y := 9) (rgN_20 (Or.inl rfl) (by omega))
                have by771 : z771 ≤ 8 := by rw [← ez771, show (x1 + 16).toNat = 16 + x1.toNat by omega]; exact hon769.2.2
                replace hF := hF.to (rdb_e (z := z771) ez771)
                replace hF := hF.fc ⟨bz771.1, by771⟩
                exact jn764 V758 ⟨hI758c, hB758, hF⟩
              · replace hF := hF.to (if_neg (fun hh => hh hc768))
                refine x_aload_n C.1 dX12_goesByRota_82 1 rfl ?_
                refine x_iload_n C.1 dX12_goesByRota_83 0 rfl ?_
                refine x_putI C (N := 33) (i := 0) (by decide) rfl vc_X12 wx_X12 49 (by decide) wf_X12_395 tyX12 tyX12_ok nmX12 rfl (tyX12_ok 49 (by decide)) rfl dX12_goesByRota_84 rfl rfl ?_
                refine x_gV ?_
                intro V772 hV772
                have hI772 : MI G V772 := hI758c.up hV772 rfl (by omega) rfl (Or.inl (by decide))
                have hB772 := hB758.up hV772 rfl
                replace hF := hF.to (rdb_e (z := V772) hV772.symm)
                exact jn764 V772 ⟨hI772, hB772, hF⟩
          · refine x_icmp_ge C.1 (tgt := 70) dX12_goesByRota_63 (by decide) (by omega) (by decide) (fun hc773 => ?_) (fun hc773 => ?_)
            · replace hF := hF.to (if_pos hc773)
              refine x_iconst C.1 (n := 0) dX12_goesByRota_70 ?_
              exact jn757 0 ⟨⟨by decide, by decide⟩, hF⟩
            · replace hF := hF.to (if_neg hc773)
              refine x_iconst C.1 (n := 1) dX12_goesByRota_66 ?_
              refine x_goto C.1 (tgt := 71) dX12_goesByRota_67 (by decide) ?_
              exact jn757 1 ⟨⟨by decide, by decide⟩, hF⟩
        · replace hF := hF.to (if_neg hc754)
          refine x_aload_n C.1 dX12_goesByRota_45 1 rfl ?_
          refine x_aload_n C.1 dX12_goesByRota_46 1 rfl ?_
          refine x_getA C (N := 33) (i := 0) (by decide) rfl vc_X12 wx_X12 48 (by decide) wf_X12_99 (a := 30) rfl dX12_goesByRota_47 ?_
          refine x_iload_n C.1 dX12_goesByRota_50 0 rfl ?_
          refine x_iald C (N := 33) (i := 30) (q := z596) (by decide) rfl (by omega) (by decide) dX12_goesByRota_51 (a := z753) ez753 ?_
          refine x_iload_n C.1 dX12_goesByRota_52 2 rfl ?_
          refine x_callVv C (As := [vI z753, vI x1]) (rest := []) 0 (xw_at (N := 33) (i := 0) (by decide) rfl) vc_X12 (m_waters l D cy ad G V597 J Rr (KI.self hI597) hJ hR z753 ⟨by omega, by omega⟩ x1 ⟨by omega, by omega⟩ hW) (l1 := []) (l2 := []) (List.append_nil _).symm (w2 := fun u : Nat → Nat → Int => MW cy ad u J Rr) (fun _ => List.append_nil _) rfl wm_yX12_waters wn_X12 wl_X12_278 wi_yX12_waters we_yX12_waters hd_yX12_waters rfl ⟨Nat.le_of_ble_eq_true rfl, Nat.le_of_ble_eq_true rfl⟩ (Nat.le_of_ble_eq_true rfl) ⟨Nat.le_of_ble_eq_true rfl, Nat.le_of_ble_eq_true rfl⟩ dX12_goesByRota_53 (fun V774 h774 => ?_)
          obtain ⟨hI774, hBc774, hFc774⟩ := h774
          replace hF := calUM_i hF hFc774 hBc774
          have hB774 := hB597.tr hBc774 (m := 16924998368092956267642880) rfl
          have hI774c := hI774.1
          refine x_aload_n C.1 dX12_goesByRota_56 1 rfl ?_
          refine x_iload_n C.1 dX12_goesByRota_57 2 rfl ?_
          refine x_aload_n C.1 dX12_goesByRota_58 1 rfl ?_
          refine x_callVi C (As := []) (rest := [vI x1, .ref (ad 0)]) 0 (xw_at (N := 33) (i := 0) (by decide) rfl) vc_X12 (m_draws l D cy ad G V774 J Rr hI774c hJ hR ) (l1 := []) (l2 := []) (List.append_nil _).symm (w2 := fun u : Nat → Nat → Int => MW cy ad u J Rr) (fun _ => List.append_nil _) rfl wm_yX12_draws wn_X12 wl_X12_275 wi_yX12_draws we_yX12_draws hd_yX12_draws rfl ⟨Nat.le_of_ble_eq_true rfl, Nat.le_of_ble_eq_true rfl⟩ (Nat.le_of_ble_eq_true rfl) ⟨Nat.le_of_ble_eq_true rfl, Nat.le_of_ble_eq_true rfl⟩ dX12_goesByRota_59 (fun z775 V775 bz775 h775 => ?_)
          obtain ⟨hI775, hx775_0, hBc775, hFc775⟩ := h775
          replace hF := calVM_i hF hFc775 hBc775
          have hB775 := hB774.tr hBc775 (m := 36893488147419103232) rfl
          refine x_iconst C.1 (n := 5) dX12_goesByRota_62 ?_
          obtain ⟨jf777, hjf777, hF⟩ := jn_ex hF
          refine x_join (I := fun z776 : Int => (0 ≤ z776 ∧ z776 ≤ 1) ∧ Imp (jf777 z776) (f_m_goesByRota x1 V J Rr)) (wsf := fun z776 : Int => MW cy ad V775 J Rr) (lvf := fun z776 : Int => [(2, vI z596), (0, .ref (ad 0)), (1, vI x1)]) (stf := fun z776 : Int => [vI z776, vI x1, .ref (ad 0)]) 71 (fun z776 hI777x => ?_) (fun jn777 => ?_)
          · obtain ⟨bz776, hF⟩ := hI777x
            try dsimp only
            replace hF := hF.to (jn_s1 hjf777)
            refine x_callVv C (As := [vI x1, vI z776]) (rest := []) 0 (xw_at (N := 33) (i := 0) (by decide) rfl) vc_X12 (m_dries l D cy ad G V775 J Rr (KI.self hI775) hJ hR x1 ⟨by omega, by omega⟩ z776 ⟨by omega, by omega⟩ hW ⟨by rw [show 12 + x1.toNat = (x1 + 12).toNat by omega, ((hx775_0 ((x1 + 12).toNat) (by omega)).trans ((hI774.2 1 ((x1 + 12).toNat) (Or.inr (Or.inr ⟨rfl, by omega, by omega⟩))).trans ez751))]; omega, by rw [show 16 + x1.toNat = (x1 + 16).toNat by omega, ((hx775_0 ((x1 + 16).toNat) (by omega)).trans ((hI774.2 1 ((x1 + 16).toNat) (Or.inr (Or.inr ⟨rfl, by omega, by omega⟩))).trans ez752))]; omega⟩) (l1 := []) (l2 := []) (List.append_nil _).symm (w2 := fun u : Nat → Nat → Int => MW cy ad u J Rr) (fun _ => List.append_nil _) rfl wm_yX12_dries wn_X12 wl_X12_284 wi_yX12_dries we_yX12_dries hd_yX12_dries rfl ⟨Nat.le_of_ble_eq_true rfl, Nat.le_of_ble_eq_true rfl⟩ (Nat.le_of_ble_eq_true rfl) ⟨Nat.le_of_ble_eq_true rfl, Nat.le_of_ble_eq_true rfl⟩ dX12_goesByRota_71 (fun V778 h778 => ?_)
            obtain ⟨hI778, hBc778, hFc778⟩ := h778
            replace hF := calUM_i hF hFc778 hBc778
            have hB778 := hB775.tr hBc778 (m := 7253591811175922467340288) rfl
            have hI778c := hI778.1
            refine x_aload_n C.1 dX12_goesByRota_74 1 rfl ?_
            refine x_iload_n C.1 dX12_goesByRota_75 2 rfl ?_
            refine x_callVi C (As := [vI x1]) (rest := []) 0 (xw_at (N := 33) (i := 0) (by decide) rfl) vc_X12 (m_lives l D cy ad G V778 J Rr hI778c hJ hR x1 ⟨by omega, by omega⟩) (l1 := []) (l2 := []) (List.append_nil _).symm (w2 := fun _ => MW cy ad V778 J Rr) (fun _ => List.append_nil _) rfl wm_yX12_lives wn_X12 wl_X12_130 wi_yX12_lives we_yX12_lives hd_yX12_lives rfl ⟨Nat.le_of_ble_eq_true rfl, Nat.le_of_ble_eq_true rfl⟩ (Nat.le_of_ble_eq_true rfl) ⟨Nat.le_of_ble_eq_true rfl, Nat.le_of_ble_eq_true rfl⟩ dX12_goesByRota_76 (fun z779 u779 bz779 h779 => ?_)
            obtain ⟨bq779, hx779_0, hFc779⟩ := h779
            replace hF := calR_i hF hFc779
            replace hF := hF.fc bq779
            obtain ⟨jf784, hjf784, hF⟩ := jn_ex hF
            refine x_join (I := fun V784 : (Nat → Nat → Int) => MI G V784 ∧ FBm 16925072156758100966113280 V V784 ∧ Imp (jf784 V784) (f_m_goesByRota x1 V J Rr)) (wsf := fun V784 : (Nat → Nat → Int) => MW cy ad V784 J Rr) (lvf := fun V784 : (Nat → Nat → Int) => [(2, vI z596), (0, .ref (ad 0)), (1, vI x1)]) (stf := fun V784 : (Nat → Nat → Int) => []) 87 (fun V784 hI784x => ?_) (fun jn784 => ?_)
            · obtain ⟨hI784, hB784, hF⟩ := hI784x
              try dsimp only
              replace hF := hF.to (jn_s1 hjf784)
              refine x_aload_n C.1 dX12_goesByRota_87 1 rfl ?_
              refine x_getA C (N := 33) (i := 0) (by decide) rfl vc_X12 wx_X12 0 (by decide) wf_X12_7 (a := 1) rfl dX12_goesByRota_88 ?_
              refine x_bipush C.1 (n := 79) dX12_goesByRota_91 ?_
              refine x_aload_n C.1 dX12_goesByRota_93 1 rfl ?_
              refine x_getA C (N := 33) (i := 0) (by decide) rfl vc_X12 wx_X12 0 (by decide) wf_X12_7 (a := 1) rfl dX12_goesByRota_94 ?_
              refine x_bipush C.1 (n := 79) dX12_goesByRota_97 ?_
              obtain ⟨z785, ez785, bz785⟩ := hI784.rd 1 79 (x := -2147483648) (y := 2147483647) (rgN_81 (Or.inl rfl) (by decide))
              replace hF := hF.to (rdb_e (z := z785) ez785)
              refine x_iald C (N := 33) (i := 1) (q := 79) (by decide) rfl (by decide) (by decide) dX12_goesByRota_99 (a := z785) ez785 ?_
              refine x_iconst C.1 (n := 1) dX12_goesByRota_100 ?_
              refine x_iadd C.1 (v := z785 + 1) (by omega) dX12_goesByRota_101 ?_
              refine x_wrapg ?_
              intro z786 bz786 ew786
              replace hF := hF.to (rdb_e (z := z786) ew786.symm)
              refine x_iast C (N := 33) (i := 1) (q := 79) (a := z786) (by decide) rfl (by decide) (by decide) dX12_goesByRota_102 ?_
              rw [show (79 : Int).toNat = 79 from rfl]
              refine x_gV ?_
              intro V787 hV787
              have hI787 : MI G V787 := hI784.up hV787 (rgN_81 (Or.inl rfl) (by decide)) (by omega) rfl (Or.inr (by decide))
              have hB787 := hB784.up hV787 (by rw [mkey_r (by decide)]; rfl)
              replace hF := hF.to (rdb_e (z := V787) hV787.symm)
              refine x_iinc C.1 (v := z596 + 1) (lv' := [(2, vI (z596 + 1)), (0, .ref (ad 0)), (1, vI x1)]) (by omega) dX12_goesByRota_103 0 rfl (by decide) rfl ?_
              refine x_goto C.1 (tgt := 19) dX12_goesByRota_106 (by decide) ?_
              have hmu597 : (85 - (z596 + 1)).toNat < (85 - z596).toNat := (by omega)
              exact ih597 (z596 + 1, V787) ⟨⟨by omega, by omega⟩, hI787, hB787, ⟨nf597, Nat.lt_of_lt_of_le hmu597 (Nat.le_of_lt_succ hn597), hF⟩⟩ hmu597
            · refine x_if_ne C.1 (tgt := 87) dX12_goesByRota_79 (by decide) (by omega) (fun hc788 => ?_) (fun hc788 => ?_)
              · replace hF := hF.to (if_pos hc788)
                have hon789 := Sp.on hx779_0 (by omega)
                obtain ⟨z790, ez790, bz790⟩ := hI778c.rd 1 ((x1 + 12).toNat) (x := 0) (y := 9) (rgN_20 (Or.inl rfl) (by omega))
                have by790 : z790 ≤ 8 := by rw [← ez790, show (x1 + 12).toNat = 12 + x1.toNat by omega]; exact hon789.2.1
                replace hF := hF.to (rdb_e (z := z790) ez790)
                replace hF := hF.fc ⟨bz790.1, by790⟩
                obtain ⟨z791, ez791, bz791⟩ := hI778c.rd 1 ((x1 + 16).toNat) (x := 0) (y := 9) (rgN_20 (Or.inl rfl) (by omega))
                have by791 : z791 ≤ 8 := by rw [← ez791, show (x1 + 16).toNat = 16 + x1.toNat by omega]; exact hon789.2.2
                replace hF := hF.to (rdb_e (z := z791) ez791)
                replace hF := hF.fc ⟨bz791.1, by791⟩
                exact jn784 V778 ⟨hI778c, hB778, hF⟩
              · replace hF := hF.to (if_neg (fun hh => hh hc788))
                refine x_aload_n C.1 dX12_goesByRota_82 1 rfl ?_
                refine x_iload_n C.1 dX12_goesByRota_83 0 rfl ?_
                refine x_putI C (N := 33) (i := 0) (by decide) rfl vc_X12 wx_X12 49 (by decide) wf_X12_395 tyX12 tyX12_ok nmX12 rfl (tyX12_ok 49 (by decide)) rfl dX12_goesByRota_84 rfl rfl ?_
                refine x_gV ?_
                intro V792 hV792
                have hI792 : MI G V792 := hI778c.up hV792 rfl (by omega) rfl (Or.inl (by decide))
                have hB792 := hB778.up hV792 rfl
                replace hF := hF.to (rdb_e (z := V792) hV792.symm)
                exact jn784 V792 ⟨hI792, hB792, hF⟩
          · refine x_icmp_ge C.1 (tgt := 70) dX12_goesByRota_63 (by decide) (by omega) (by decide) (fun hc793 => ?_) (fun hc793 => ?_)
            · replace hF := hF.to (if_pos hc793)
              refine x_iconst C.1 (n := 0) dX12_goesByRota_70 ?_
              exact jn777 0 ⟨⟨by decide, by decide⟩, hF⟩
            · replace hF := hF.to (if_neg hc793)
              refine x_iconst C.1 (n := 1) dX12_goesByRota_66 ?_
              refine x_goto C.1 (tgt := 71) dX12_goesByRota_67 (by decide) ?_
              exact jn777 1 ⟨⟨by decide, by decide⟩, hF⟩
