theorem hd_yX12_closesSums : yX12_closesSums.cls ≠ "java/lang/invoke/MethodHandle" ∧ yX12_closesSums.cls ≠ "java/lang/invoke/VarHandle" ∧ (parseMethodDescriptor yX12_closesSums.desc).map (fun d => d.parameters.length) = some 1 := by decide +kernel
theorem hd_yX12_hasOpenSum : yX12_hasOpenSum.cls ≠ "java/lang/invoke/MethodHandle" ∧ yX12_hasOpenSum.cls ≠ "java/lang/invoke/VarHandle" ∧ (parseMethodDescriptor yX12_hasOpenSum.desc).map (fun d => d.parameters.length) = some 1 := by decide +kernel
theorem hd_yX12_readsFactor : yX12_readsFactor.cls ≠ "java/lang/invoke/MethodHandle" ∧ yX12_readsFactor.cls ≠ "java/lang/invoke/VarHandle" ∧ (parseMethodDescriptor yX12_readsFactor.desc).map (fun d => d.parameters.length) = some 0 := by decide +kernel
theorem hd_yX12_sumSign : yX12_sumSign.cls ≠ "java/lang/invoke/MethodHandle" ∧ yX12_sumSign.cls ≠ "java/lang/invoke/VarHandle" ∧ (parseMethodDescriptor yX12_sumSign.desc).map (fun d => d.parameters.length) = some 1 := by decide +kernel
theorem dX12_readsSum_0 : decode cX12_readsSum 0 = .ok (.aload_n 0, 1) := by decide +kernel
theorem dX12_readsSum_1 : decode cX12_readsSum 1 = .ok (.getfield 174, 3) := by decide +kernel
theorem dX12_readsSum_4 : decode cX12_readsSum 4 = .ok (.istore_n 1, 1) := by decide +kernel
theorem dX12_readsSum_5 : decode cX12_readsSum 5 = .ok (.aload_n 0, 1) := by decide +kernel
theorem dX12_readsSum_6 : decode cX12_readsSum 6 = .ok (.invokevirtual 194, 3) := by decide +kernel
theorem dX12_readsSum_9 : decode cX12_readsSum 9 = .ok (.ifCond .ne 5, 3) := by decide +kernel
theorem dX12_readsSum_12 : decode cX12_readsSum 12 = .ok (.iconst 0, 1) := by decide +kernel
theorem dX12_readsSum_13 : decode cX12_readsSum 13 = .ok (.ireturn, 1) := by decide +kernel
theorem dX12_readsSum_14 : decode cX12_readsSum 14 = .ok (.aload_n 0, 1) := by decide +kernel
theorem dX12_readsSum_15 : decode cX12_readsSum 15 = .ok (.invokevirtual 150, 3) := by decide +kernel
theorem dX12_readsSum_18 : decode cX12_readsSum 18 = .ok (.invokestatic 197, 3) := by decide +kernel
theorem dX12_readsSum_21 : decode cX12_readsSum 21 = .ok (.istore_n 2, 1) := by decide +kernel
theorem dX12_readsSum_22 : decode cX12_readsSum 22 = .ok (.iload_n 2, 1) := by decide +kernel
theorem dX12_readsSum_23 : decode cX12_readsSum 23 = .ok (.iconst (-1), 1) := by decide +kernel
theorem dX12_readsSum_24 : decode cX12_readsSum 24 = .ok (.if_icmp .eq 59, 3) := by decide +kernel
theorem dX12_readsSum_27 : decode cX12_readsSum 27 = .ok (.aload_n 0, 1) := by decide +kernel
theorem dX12_readsSum_28 : decode cX12_readsSum 28 = .ok (.iload_n 2, 1) := by decide +kernel
theorem dX12_readsSum_29 : decode cX12_readsSum 29 = .ok (.iconst 4, 1) := by decide +kernel
theorem dX12_readsSum_30 : decode cX12_readsSum 30 = .ok (.if_icmp .ge 7, 3) := by decide +kernel
theorem dX12_readsSum_33 : decode cX12_readsSum 33 = .ok (.iconst 1, 1) := by decide +kernel
theorem dX12_readsSum_34 : decode cX12_readsSum 34 = .ok (.goto 4, 3) := by decide +kernel
theorem dX12_readsSum_37 : decode cX12_readsSum 37 = .ok (.iconst 0, 1) := by decide +kernel
theorem dX12_readsSum_38 : decode cX12_readsSum 38 = .ok (.invokevirtual 200, 3) := by decide +kernel
theorem dX12_readsSum_41 : decode cX12_readsSum 41 = .ok (.aload_n 0, 1) := by decide +kernel
theorem dX12_readsSum_42 : decode cX12_readsSum 42 = .ok (.getfield 26, 3) := by decide +kernel
theorem dX12_readsSum_45 : decode cX12_readsSum 45 = .ok (.aload_n 0, 1) := by decide +kernel
theorem dX12_readsSum_46 : decode cX12_readsSum 46 = .ok (.getfield 174, 3) := by decide +kernel
theorem dX12_readsSum_49 : decode cX12_readsSum 49 = .ok (.ldc 170, 2) := by decide +kernel
theorem dX12_readsSum_51 : decode cX12_readsSum 51 = .ok (.iload_n 2, 1) := by decide +kernel
theorem dX12_readsSum_52 : decode cX12_readsSum 52 = .ok (.imul, 1) := by decide +kernel
theorem dX12_readsSum_53 : decode cX12_readsSum 53 = .ok (.iastore, 1) := by decide +kernel
theorem dX12_readsSum_54 : decode cX12_readsSum 54 = .ok (.aload_n 0, 1) := by decide +kernel
theorem dX12_readsSum_55 : decode cX12_readsSum 55 = .ok (.aload_n 0, 1) := by decide +kernel
theorem dX12_readsSum_56 : decode cX12_readsSum 56 = .ok (.getfield 174, 3) := by decide +kernel
theorem dX12_readsSum_59 : decode cX12_readsSum 59 = .ok (.iconst 1, 1) := by decide +kernel
theorem dX12_readsSum_60 : decode cX12_readsSum 60 = .ok (.iadd, 1) := by decide +kernel
theorem dX12_readsSum_61 : decode cX12_readsSum 61 = .ok (.putfield 174, 3) := by decide +kernel
theorem dX12_readsSum_64 : decode cX12_readsSum 64 = .ok (.aload_n 0, 1) := by decide +kernel
theorem dX12_readsSum_65 : decode cX12_readsSum 65 = .ok (.aload_n 0, 1) := by decide +kernel
theorem dX12_readsSum_66 : decode cX12_readsSum 66 = .ok (.getfield 144, 3) := by decide +kernel
theorem dX12_readsSum_69 : decode cX12_readsSum 69 = .ok (.iconst 1, 1) := by decide +kernel
theorem dX12_readsSum_70 : decode cX12_readsSum 70 = .ok (.iadd, 1) := by decide +kernel
theorem dX12_readsSum_71 : decode cX12_readsSum 71 = .ok (.putfield 144, 3) := by decide +kernel
theorem dX12_readsSum_74 : decode cX12_readsSum 74 = .ok (.aload_n 0, 1) := by decide +kernel
theorem dX12_readsSum_75 : decode cX12_readsSum 75 = .ok (.invokevirtual 194, 3) := by decide +kernel
theorem dX12_readsSum_78 : decode cX12_readsSum 78 = .ok (.ifCond .ne 85, 3) := by decide +kernel
theorem dX12_readsSum_81 : decode cX12_readsSum 81 = .ok (.iconst 0, 1) := by decide +kernel
theorem dX12_readsSum_82 : decode cX12_readsSum 82 = .ok (.ireturn, 1) := by decide +kernel
theorem dX12_readsSum_83 : decode cX12_readsSum 83 = .ok (.aload_n 0, 1) := by decide +kernel
theorem dX12_readsSum_84 : decode cX12_readsSum 84 = .ok (.invokevirtual 150, 3) := by decide +kernel
theorem dX12_readsSum_87 : decode cX12_readsSum 87 = .ok (.bipush 93, 2) := by decide +kernel
theorem dX12_readsSum_89 : decode cX12_readsSum 89 = .ok (.if_icmp .ne 49, 3) := by decide +kernel
theorem dX12_readsSum_92 : decode cX12_readsSum 92 = .ok (.aload_n 0, 1) := by decide +kernel
theorem dX12_readsSum_93 : decode cX12_readsSum 93 = .ok (.iload_n 1, 1) := by decide +kernel
theorem dX12_readsSum_94 : decode cX12_readsSum 94 = .ok (.invokevirtual 204, 3) := by decide +kernel
theorem dX12_readsSum_97 : decode cX12_readsSum 97 = .ok (.ifCond .eq 41, 3) := by decide +kernel
theorem dX12_readsSum_100 : decode cX12_readsSum 100 = .ok (.aload_n 0, 1) := by decide +kernel
theorem dX12_readsSum_101 : decode cX12_readsSum 101 = .ok (.iconst 1, 1) := by decide +kernel
theorem dX12_readsSum_102 : decode cX12_readsSum 102 = .ok (.invokevirtual 200, 3) := by decide +kernel
theorem dX12_readsSum_105 : decode cX12_readsSum 105 = .ok (.aload_n 0, 1) := by decide +kernel
theorem dX12_readsSum_106 : decode cX12_readsSum 106 = .ok (.aload_n 0, 1) := by decide +kernel
theorem dX12_readsSum_107 : decode cX12_readsSum 107 = .ok (.getfield 174, 3) := by decide +kernel
theorem dX12_readsSum_110 : decode cX12_readsSum 110 = .ok (.iconst 1, 1) := by decide +kernel
theorem dX12_readsSum_111 : decode cX12_readsSum 111 = .ok (.isub, 1) := by decide +kernel
theorem dX12_readsSum_112 : decode cX12_readsSum 112 = .ok (.putfield 174, 3) := by decide +kernel
theorem dX12_readsSum_115 : decode cX12_readsSum 115 = .ok (.aload_n 0, 1) := by decide +kernel
theorem dX12_readsSum_116 : decode cX12_readsSum 116 = .ok (.aload_n 0, 1) := by decide +kernel
theorem dX12_readsSum_117 : decode cX12_readsSum 117 = .ok (.getfield 171, 3) := by decide +kernel
theorem dX12_readsSum_120 : decode cX12_readsSum 120 = .ok (.iconst 1, 1) := by decide +kernel
theorem dX12_readsSum_121 : decode cX12_readsSum 121 = .ok (.isub, 1) := by decide +kernel
theorem dX12_readsSum_122 : decode cX12_readsSum 122 = .ok (.putfield 171, 3) := by decide +kernel
theorem dX12_readsSum_125 : decode cX12_readsSum 125 = .ok (.aload_n 0, 1) := by decide +kernel
theorem dX12_readsSum_126 : decode cX12_readsSum 126 = .ok (.aload_n 0, 1) := by decide +kernel
theorem dX12_readsSum_127 : decode cX12_readsSum 127 = .ok (.getfield 144, 3) := by decide +kernel
theorem dX12_readsSum_130 : decode cX12_readsSum 130 = .ok (.iconst 1, 1) := by decide +kernel
theorem dX12_readsSum_131 : decode cX12_readsSum 131 = .ok (.iadd, 1) := by decide +kernel
theorem dX12_readsSum_132 : decode cX12_readsSum 132 = .ok (.putfield 144, 3) := by decide +kernel
theorem dX12_readsSum_135 : decode cX12_readsSum 135 = .ok (.goto 28, 3) := by decide +kernel
theorem dX12_readsSum_138 : decode cX12_readsSum 138 = .ok (.aload_n 0, 1) := by decide +kernel
theorem dX12_readsSum_139 : decode cX12_readsSum 139 = .ok (.iload_n 1, 1) := by decide +kernel
theorem dX12_readsSum_140 : decode cX12_readsSum 140 = .ok (.invokevirtual 204, 3) := by decide +kernel
theorem dX12_readsSum_143 : decode cX12_readsSum 143 = .ok (.ifCond .eq 13, 3) := by decide +kernel
theorem dX12_readsSum_146 : decode cX12_readsSum 146 = .ok (.aload_n 0, 1) := by decide +kernel
theorem dX12_readsSum_147 : decode cX12_readsSum 147 = .ok (.iconst 1, 1) := by decide +kernel
theorem dX12_readsSum_148 : decode cX12_readsSum 148 = .ok (.aload_n 0, 1) := by decide +kernel
theorem dX12_readsSum_149 : decode cX12_readsSum 149 = .ok (.getfield 144, 3) := by decide +kernel
theorem dX12_readsSum_152 : decode cX12_readsSum 152 = .ok (.invokevirtual 157, 3) := by decide +kernel
theorem dX12_readsSum_155 : decode cX12_readsSum 155 = .ok (.ireturn, 1) := by decide +kernel
theorem dX12_readsSum_156 : decode cX12_readsSum 156 = .ok (.aload_n 0, 1) := by decide +kernel
theorem dX12_readsSum_157 : decode cX12_readsSum 157 = .ok (.iconst 1, 1) := by decide +kernel
theorem dX12_readsSum_158 : decode cX12_readsSum 158 = .ok (.invokevirtual 200, 3) := by decide +kernel
theorem dX12_readsSum_161 : decode cX12_readsSum 161 = .ok (.iconst 1, 1) := by decide +kernel
theorem dX12_readsSum_162 : decode cX12_readsSum 162 = .ok (.ireturn, 1) := by decide +kernel
theorem dX12_readsSum_163 : decode cX12_readsSum 163 = .ok (.goto (-149), 3) := by decide +kernel
set_option maxRecDepth 100000 in
def f_m_readsSum (V : Nat → Nat → Int) (J : Nat → Nat → Int) (Rr : Nat → Nat → Nat) : (Int × (Nat → Nat → Int)) → Prop :=
  rdb (V 0 5) fun z1 => fct (0 ≤ z1 ∧ z1 ≤ 220) <| rdb (V 0 6) fun z2 => fct (0 ≤ z2 ∧ z2 ≤ 220) <| rdb (V 0 10) fun z3 => fct (0 ≤ z3 ∧ z3 ≤ 220) <| rdb (V 0 11) fun z4 => fct (0 ≤ z4 ∧ z4 ≤ 220) <| calVM 1770887431076116959136 V (f_m_readsFactor V J Rr) fun z5 V5 => fct (0 ≤ z5 ∧ z5 ≤ 1) <| (if ¬ z5 = 0 then lop1 ((V5 0 6 - V5 0 5).toNat + 1) (fun rc134 (V134 : Nat → Nat → Int) => rdb (V134 0 5) fun z135 => fct (0 ≤ z135 ∧ z135 ≤ 220) <| rdb (V134 0 6) fun z136 => fct (0 ≤ z136 ∧ z136 ≤ 220) <| rdb (V134 0 10) fun z137 => fct (0 ≤ z137 ∧ z137 ≤ 220) <| rdb (V134 0 11) fun z138 => fct (0 ≤ z138 ∧ z138 ≤ 220) <| calR (f_m_here V134 J Rr) fun z139 => fct (-1 ≤ z139 ∧ z139 ≤ 255) <| calR (f_m_sumSign z139) fun z140 => fct (-1 ≤ z140 ∧ z140 ≤ 6) <| (if z140 = (-1) then calR (f_m_here V134 J Rr) fun z142 => fct (-1 ≤ z142 ∧ z142 ≤ 255) <| (if ¬ z142 = 93 then calR (f_m_hasOpenSum z4 V134 J Rr) fun z144 => fct (0 ≤ z144 ∧ z144 ≤ 1) <| (if z144 = 0 then calUM 590295810358705654784 V134 (f_m_closesSums 1 V134 J Rr) fun V148 => rtn (1, V148) else calVM 128 V134 (f_m_wrongAt 1 z135 V134 J Rr) fun z150 V150 => fct (0 ≤ z150 ∧ z150 ≤ 0) <| rtn (z150, V150)) else calR (f_m_hasOpenSum z4 V134 J Rr) fun z151 => fct (0 ≤ z151 ∧ z151 ≤ 1) <| (if z151 = 0 then calR (f_m_hasOpenSum z4 V134 J Rr) fun z153 => fct (0 ≤ z153 ∧ z153 ≤ 1) <| (if z153 = 0 then calUM 590295810358705654784 V134 (f_m_closesSums 1 V134 J Rr) fun V157 => rtn (1, V157) else calVM 128 V134 (f_m_wrongAt 1 z135 V134 J Rr) fun z159 V159 => fct (0 ≤ z159 ∧ z159 ≤ 0) <| rtn (z159, V159)) else calUM 590295810358705654784 V134 (f_m_closesSums 1 V134 J Rr) fun V162 => rdb (V162 0 5) fun z163 => fct (0 ≤ z163 ∧ z163 ≤ 220) <| rdb (V162 0 6) fun z164 => fct (0 ≤ z164 ∧ z164 ≤ 220) <| rdb (V162 0 10) fun z165 => fct (0 ≤ z165 ∧ z165 ≤ 220) <| rdb (V162 0 11) fun z166 => fct (0 ≤ z166 ∧ z166 ≤ 220) <| rdb (up2 V162 0 11 (z166 - 1)) fun V168 => rdb (V168 0 9) fun z169 => rdb (wr (z169 - 1)) fun z170 => rdb (up2 V168 0 9 z170) fun V171 => rdb (up2 V171 0 5 (z163 + 1)) fun V172 => rc134 V172)) else (if 4 ≤ z140 then calUM 590295810358705654784 V134 (f_m_closesSums 0 V134 J Rr) fun V174 => rdb (V174 0 5) fun z175 => fct (0 ≤ z175 ∧ z175 ≤ 220) <| rdb (V174 0 6) fun z176 => fct (0 ≤ z176 ∧ z176 ≤ 220) <| rdb (V174 0 10) fun z177 => fct (0 ≤ z177 ∧ z177 ≤ 220) <| rdb (V174 0 11) fun z178 => fct (0 ≤ z178 ∧ z178 ≤ 220) <| rdb (up2 V174 6 z178.toNat (1048576 * z140)) fun V179 => rdb (up2 V179 0 11 (z178 + 1)) fun V180 => rdb (up2 V180 0 5 (z175 + 1)) fun V181 => calVM 1770887431076116959136 V181 (f_m_readsFactor V181 J Rr) fun z183 V183 => fct (0 ≤ z183 ∧ z183 ≤ 1) <| (if ¬ z183 = 0 then rc134 V183 else rtn (0, V183)) else calUM 590295810358705654784 V134 (f_m_closesSums 1 V134 J Rr) fun V186 => rdb (V186 0 5) fun z187 => fct (0 ≤ z187 ∧ z187 ≤ 220) <| rdb (V186 0 6) fun z188 => fct (0 ≤ z188 ∧ z188 ≤ 220) <| rdb (V186 0 10) fun z189 => fct (0 ≤ z189 ∧ z189 ≤ 220) <| rdb (V186 0 11) fun z190 => fct (0 ≤ z190 ∧ z190 ≤ 220) <| rdb (up2 V186 6 z190.toNat (1048576 * z140)) fun V191 => rdb (up2 V191 0 11 (z190 + 1)) fun V192 => rdb (up2 V192 0 5 (z187 + 1)) fun V193 => calVM 1770887431076116959136 V193 (f_m_readsFactor V193 J Rr) fun z195 V195 => fct (0 ≤ z195 ∧ z195 ≤ 1) <| (if ¬ z195 = 0 then rc134 V195 else rtn (0, V195))))) V5 else rtn (0, V5))
set_option maxHeartbeats 8000000 in
set_option maxRecDepth 100000 in
theorem m_readsSum (l : Launch) (D : va_G) (cy : Nat → ClassId) (ad : Nat → Nat) (G : Nat → Nat → Int) (V J : Nat → Nat → Int) (Rr : Nat → Nat → Nat) (hI : MI G V) (hJ : VJ J) (hR : MR Rr) (hP : PG V) (hc : V 0 10 ≤ V 0 5) (ht : V 0 11 = 0 ∨ ¬ pio (V 6 (V 0 11 - 1).toNat)) : xMi l D (xTY cy) yX12_readsSum cX12_readsSum 3 (some .boolean) 4 82 0 0 [.ref (ad 0)] (MW cy ad V J Rr) (fun u : Nat → Nat → Int => MW cy ad u J Rr) (fun a (u : Nat → Nat → Int) => MI G u ∧ (0 ≤ a ∧ a ≤ 1) ∧ Sp a (pSum V u) ∧ FBm 1770887431076116959136 V u ∧ (f_m_readsSum V J Rr) (a, u)) := by
  refine xMi.mk (lv0 := [(0, .ref (ad 0))]) (by decide) rfl (Nat.le_of_ble_eq_true rfl) (fun p e s m below meth c A C hr hnm hAe => ?_)
  have C : xC2 p s m _ meth c D A s.heap 3 cX12_readsSum RX12 (xTY cy) := C
  have hB : FBm 1770887431076116959136 V V := FBm.rf _ _
  have hF := Imp.of_eq (f_m_readsSum.eq_def V J Rr)
  obtain ⟨z1, ez1, bz1⟩ := hI.rd 0 5 (x := 0) (y := 220) rfl
  replace hF := hF.to (rdb_e (z := z1) ez1)
  replace hF := hF.fc bz1
  obtain ⟨z2, ez2, bz2⟩ := hI.rd 0 6 (x := 0) (y := 220) rfl
  replace hF := hF.to (rdb_e (z := z2) ez2)
  replace hF := hF.fc bz2
  obtain ⟨z3, ez3, bz3⟩ := hI.rd 0 10 (x := 0) (y := 220) rfl
  replace hF := hF.to (rdb_e (z := z3) ez3)
  replace hF := hF.fc bz3
  obtain ⟨z4, ez4, bz4⟩ := hI.rd 0 11 (x := 0) (y := 220) rfl
  replace hF := hF.to (rdb_e (z := z4) ez4)
  replace hF := hF.fc bz4
  have hc3 := (SI.start hP hc).c200 hP
  rw [ez1, ez3, ez4] at hc3
  have hpz3 := hP
  unfold PG at hpz3
  rw [ez1, ez2, ez3, ez4] at hpz3
  refine x_aload_n C.1 dX12_readsSum_0 0 rfl ?_
  refine x_getI C (N := 33) (i := 0) (by decide) rfl vc_X12 wx_X12 11 (by decide) wf_X12_174 rfl dX12_readsSum_1 (a := z4) ez4 ?_
  refine x_istore_n C.1 (lv' := [(1, vI z4), (0, .ref (ad 0))]) dX12_readsSum_4 (by decide) rfl ?_
  refine x_aload_n C.1 dX12_readsSum_5 1 rfl ?_
  refine x_callVi C (As := []) (rest := []) 0 (xw_at (N := 33) (i := 0) (by decide) rfl) vc_X12 (m_readsFactor l D cy ad G V J Rr hI hJ hR (V 0 11) (V 0 10) (V 0 5 - V 0 10) (SI.start hP hc) hP) (l1 := []) (l2 := []) (List.append_nil _).symm (w2 := fun u : Nat → Nat → Int => MW cy ad u J Rr) (fun _ => List.append_nil _) rfl wm_yX12_readsFactor wn_X12 wl_X12_194 wi_yX12_readsFactor we_yX12_readsFactor hd_yX12_readsFactor rfl ⟨Nat.le_of_ble_eq_true rfl, Nat.le_of_ble_eq_true rfl⟩ (Nat.le_of_ble_eq_true rfl) ⟨Nat.le_of_ble_eq_true rfl, Nat.le_of_ble_eq_true rfl⟩ dX12_readsSum_6 (fun z5 V5 bz5 h5 => ?_)
  obtain ⟨hI5, bq5, hx5_0, hBc5, hFc5⟩ := h5
  replace hF := calVM_i hF hFc5 hBc5
  replace hF := hF.fc bq5
  have hB5 := hB.tr hBc5 (m := 1770887431076116959136) rfl
  refine x_if_ne C.1 (tgt := 14) dX12_readsSum_9 (by decide) (by omega) (fun hc6 => ?_) (fun hc6 => ?_)
  · replace hF := hF.to (if_pos hc6)
    have hon7 := Sp.on hx5_0 (by omega)
    obtain ⟨bd134, hbd134, hF⟩ := lop1_ex hF
    refine x_loop (I := fun V134 : (Nat → Nat → Int) => MI G V134 ∧ FBm 1770887431076116959136 V V134 ∧ SI (V 0 11) (V 0 10) (V 0 5 - V 0 10) 1 V134 ∧ PG V134 ∧ FrS (V 0 11) (V 0 10) V V134 ∧ V 0 5 < V134 0 5 ∧ (∃ nf : Nat, (V134 0 6 - V134 0 5).toNat < nf ∧ Imp (lop1 nf bd134 V134) (f_m_readsSum V J Rr))) (μ := fun V134 : (Nat → Nat → Int) => (V134 0 6 - V134 0 5).toNat) (wsf := fun V134 : (Nat → Nat → Int) => MW cy ad V134 J Rr) (lvf := fun V134 : (Nat → Nat → Int) => [(1, vI z4), (0, .ref (ad 0))]) (fun V134 hI134x ih134 => ?_) V5 ⟨hI5, hB5, hon7.1, hon7.2.1, hon7.2.2.1, hon7.2.2.2, ⟨_, (Nat.lt_succ_self _), hF⟩⟩ rfl rfl
    obtain ⟨hI134, hB134, hs, hp, hf, hlt, nf134, hn134, hF⟩ := hI134x
    try dsimp only
    obtain ⟨nf134, rfl⟩ : ∃ mm, nf134 = mm + 1 := ⟨nf134 - 1, (Nat.succ_pred_eq_of_pos (Nat.lt_of_le_of_lt (Nat.zero_le _) hn134)).symm⟩
    replace hF := hF.to (lop1_s hbd134)
    obtain ⟨z135, ez135, bz135⟩ := hI134.rd 0 5 (x := 0) (y := 220) rfl
    replace hF := hF.to (rdb_e (z := z135) ez135)
    replace hF := hF.fc bz135
    obtain ⟨z136, ez136, bz136⟩ := hI134.rd 0 6 (x := 0) (y := 220) rfl
    replace hF := hF.to (rdb_e (z := z136) ez136)
    replace hF := hF.fc bz136
    obtain ⟨z137, ez137, bz137⟩ := hI134.rd 0 10 (x := 0) (y := 220) rfl
    replace hF := hF.to (rdb_e (z := z137) ez137)
    replace hF := hF.fc bz137
    obtain ⟨z138, ez138, bz138⟩ := hI134.rd 0 11 (x := 0) (y := 220) rfl
    replace hF := hF.to (rdb_e (z := z138) ez138)
    replace hF := hF.fc bz138
    have hc2 := hs.c200 hp
    rw [ez135, ez137, ez138] at hc2
    have hpz := hp
    unfold PG at hpz
    rw [ez135, ez136, ez137, ez138] at hpz
    refine x_aload_n C.1 dX12_readsSum_14 1 rfl ?_
    refine x_callVi C (As := []) (rest := []) 0 (xw_at (N := 33) (i := 0) (by decide) rfl) vc_X12 (m_here l D cy ad G V134 J Rr hI134 hJ hR ) (l1 := []) (l2 := []) (List.append_nil _).symm (w2 := fun _ => MW cy ad V134 J Rr) (fun _ => List.append_nil _) rfl wm_yX12_here wn_X12 wl_X12_150 wi_yX12_here we_yX12_here hd_yX12_here rfl ⟨Nat.le_of_ble_eq_true rfl, Nat.le_of_ble_eq_true rfl⟩ (Nat.le_of_ble_eq_true rfl) ⟨Nat.le_of_ble_eq_true rfl, Nat.le_of_ble_eq_true rfl⟩ dX12_readsSum_15 (fun z139 u139 bz139 h139 => ?_)
    obtain ⟨bq139, hx139_0, hx139_1, hFc139⟩ := h139
    replace hF := calR_i hF hFc139
    replace hF := hF.fc bq139
    rw [ez135, ez136] at hx139_0
    refine x_callSi C (As := [vI z139]) (rest := []) (m_sumSign l D cy z139 ⟨by omega, by omega⟩) (l1 := []) (l2 := _) rfl (w2 := fun _ => _) (fun _ => rfl) rfl wm_yX12_sumSign wn_X12 wl_X12_197 wi_yX12_sumSign hd_yX12_sumSign rfl ⟨Nat.le_of_ble_eq_true rfl, Nat.le_of_ble_eq_true rfl⟩ (Nat.le_of_ble_eq_true rfl) ⟨Nat.le_of_ble_eq_true rfl, Nat.le_of_ble_eq_true rfl⟩ dX12_readsSum_18 (fun z140 u140 bz140 h140 => ?_)
    obtain ⟨bq140, hx140_0, hFc140⟩ := h140
    replace hF := calR_i hF hFc140
    replace hF := hF.fc bq140
    refine x_istore_n C.1 (lv' := [(2, vI z140), (1, vI z4), (0, .ref (ad 0))]) dX12_readsSum_21 (by decide) rfl ?_
    refine x_iload_n C.1 dX12_readsSum_22 0 rfl ?_
    refine x_iconst C.1 (n := -1) dX12_readsSum_23 ?_
    refine x_icmp_eq C.1 (tgt := 83) dX12_readsSum_24 (by decide) (by omega) (by decide) (fun hc141 => ?_) (fun hc141 => ?_)
    · replace hF := hF.to (if_pos hc141)
      refine x_aload_n C.1 dX12_readsSum_83 2 rfl ?_
      refine x_callVi C (As := []) (rest := []) 0 (xw_at (N := 33) (i := 0) (by decide) rfl) vc_X12 (m_here l D cy ad G V134 J Rr hI134 hJ hR ) (l1 := []) (l2 := []) (List.append_nil _).symm (w2 := fun _ => MW cy ad V134 J Rr) (fun _ => List.append_nil _) rfl wm_yX12_here wn_X12 wl_X12_150 wi_yX12_here we_yX12_here hd_yX12_here rfl ⟨Nat.le_of_ble_eq_true rfl, Nat.le_of_ble_eq_true rfl⟩ (Nat.le_of_ble_eq_true rfl) ⟨Nat.le_of_ble_eq_true rfl, Nat.le_of_ble_eq_true rfl⟩ dX12_readsSum_84 (fun z142 u142 bz142 h142 => ?_)
      obtain ⟨bq142, hx142_0, hx142_1, hFc142⟩ := h142
      replace hF := calR_i hF hFc142
      replace hF := hF.fc bq142
      rw [ez135, ez136] at hx142_0
      refine x_bipush C.1 (n := 93) dX12_readsSum_87 ?_
      refine x_icmp_ne C.1 (tgt := 138) dX12_readsSum_89 (by decide) (by omega) (by decide) (fun hc143 => ?_) (fun hc143 => ?_)
      · replace hF := hF.to (if_pos hc143)
        refine x_aload_n C.1 dX12_readsSum_138 2 rfl ?_
        refine x_iload_n C.1 dX12_readsSum_139 1 rfl ?_
        refine x_callVi C (As := [vI z4]) (rest := []) 0 (xw_at (N := 33) (i := 0) (by decide) rfl) vc_X12 (m_hasOpenSum l D cy ad G V134 J Rr hI134 hJ hR z4 ⟨by omega, by omega⟩) (l1 := []) (l2 := []) (List.append_nil _).symm (w2 := fun _ => MW cy ad V134 J Rr) (fun _ => List.append_nil _) rfl wm_yX12_hasOpenSum wn_X12 wl_X12_204 wi_yX12_hasOpenSum we_yX12_hasOpenSum hd_yX12_hasOpenSum rfl ⟨Nat.le_of_ble_eq_true rfl, Nat.le_of_ble_eq_true rfl⟩ (Nat.le_of_ble_eq_true rfl) ⟨Nat.le_of_ble_eq_true rfl, Nat.le_of_ble_eq_true rfl⟩ dX12_readsSum_140 (fun z144 u144 bz144 h144 => ?_)
        obtain ⟨bq144, hx144_0, hFc144⟩ := h144
        replace hF := calR_i hF hFc144
        replace hF := hF.fc bq144
        refine x_if_eq C.1 (tgt := 156) dX12_readsSum_143 (by decide) (by omega) (fun hc145 => ?_) (fun hc145 => ?_)
        · replace hF := hF.to (if_pos hc145)
          have hofh146 := Sq.off hx144_0 (by omega)
          have hno147 : ¬ ∃ j : Nat, V 0 11 ≤ (j : Int) ∧ (j : Int) < V134 0 11 ∧ pdv (V134 6 j) = 14 := by rw [ez4]; exact hofh146
          refine x_aload_n C.1 dX12_readsSum_156 2 rfl ?_
          refine x_iconst C.1 (n := 1) dX12_readsSum_157 ?_
          refine x_callVv C (As := [vI 1]) (rest := []) 0 (xw_at (N := 33) (i := 0) (by decide) rfl) vc_X12 (m_closesSums l D cy ad G V134 J Rr hI134 hJ hR 1 ⟨by decide, by decide⟩ (V 0 11) (V 0 10) (V 0 5 - V 0 10) hs (hf.tio ht hP.2.2.2.1) hp) (l1 := []) (l2 := []) (List.append_nil _).symm (w2 := fun u : Nat → Nat → Int => MW cy ad u J Rr) (fun _ => List.append_nil _) rfl wm_yX12_closesSums wn_X12 wl_X12_200 wi_yX12_closesSums we_yX12_closesSums hd_yX12_closesSums rfl ⟨Nat.le_of_ble_eq_true rfl, Nat.le_of_ble_eq_true rfl⟩ (Nat.le_of_ble_eq_true rfl) ⟨Nat.le_of_ble_eq_true rfl, Nat.le_of_ble_eq_true rfl⟩ dX12_readsSum_158 (fun V148 h148 => ?_)
          obtain ⟨hI148, hx148_0, hx148_1, hBc148, hFc148⟩ := h148
          replace hF := calUM_i hF hFc148 hBc148
          have hB148 := hB134.tr hBc148 (m := 590295810358705654784) rfl
          refine x_iconst C.1 (n := 1) dX12_readsSum_161 ?_
          exact x_zret (S := (Nat → Nat → Int)) (post := (fun a (u : Nat → Nat → Int) => MI G u ∧ (0 ≤ a ∧ a ≤ 1) ∧ Sp a (pSum V u) ∧ FBm 1770887431076116959136 V u ∧ (f_m_readsSum V J Rr) (a, u))) (w1 := (fun u : Nat → Nat → Int => MW cy ad u J Rr)) (a := 1) C hr rfl dX12_readsSum_162 (by decide) V148 rfl ⟨hI148, ⟨by decide, by decide⟩, (Or.inr ⟨rfl, pSum.mk hf hlt hx148_0 (hx148_1 rfl) hno147⟩), hB148, hF _ rfl⟩
        · replace hF := hF.to (if_neg hc145)
          have hon149 := Sq.on hx144_0 (by omega)
          refine x_aload_n C.1 dX12_readsSum_146 2 rfl ?_
          refine x_iconst C.1 (n := 1) dX12_readsSum_147 ?_
          refine x_aload_n C.1 dX12_readsSum_148 2 rfl ?_
          refine x_getI C (N := 33) (i := 0) (by decide) rfl vc_X12 wx_X12 5 (by decide) wf_X12_144 rfl dX12_readsSum_149 (a := z135) ez135 ?_
          refine x_callVi C (As := [vI 1, vI z135]) (rest := []) 0 (xw_at (N := 33) (i := 0) (by decide) rfl) vc_X12 (m_wrongAt l D cy ad G V134 J Rr hI134 hJ hR 1 ⟨by decide, by decide⟩ z135 ⟨by omega, by omega⟩) (l1 := []) (l2 := []) (List.append_nil _).symm (w2 := fun u : Nat → Nat → Int => MW cy ad u J Rr) (fun _ => List.append_nil _) rfl wm_yX12_wrongAt wn_X12 wl_X12_157 wi_yX12_wrongAt we_yX12_wrongAt hd_yX12_wrongAt rfl ⟨Nat.le_of_ble_eq_true rfl, Nat.le_of_ble_eq_true rfl⟩ (Nat.le_of_ble_eq_true rfl) ⟨Nat.le_of_ble_eq_true rfl, Nat.le_of_ble_eq_true rfl⟩ dX12_readsSum_152 (fun z150 V150 bz150 h150 => ?_)
          obtain ⟨hI150, bq150, hx150_0, hBc150, hFc150⟩ := h150
          replace hF := calVM_i hF hFc150 hBc150
          replace hF := hF.fc bq150
          have hB150 := hB134.tr hBc150 (m := 128) rfl
          exact x_zret (S := (Nat → Nat → Int)) (post := (fun a (u : Nat → Nat → Int) => MI G u ∧ (0 ≤ a ∧ a ≤ 1) ∧ Sp a (pSum V u) ∧ FBm 1770887431076116959136 V u ∧ (f_m_readsSum V J Rr) (a, u))) (w1 := (fun u : Nat → Nat → Int => MW cy ad u J Rr)) (a := z150) C hr rfl dX12_readsSum_155 (by omega) V150 rfl ⟨hI150, ⟨by omega, by omega⟩, (Or.inl (by omega)), hB150, hF _ rfl⟩
      · replace hF := hF.to (if_neg (fun hh => hh hc143))
        refine x_aload_n C.1 dX12_readsSum_92 2 rfl ?_
        refine x_iload_n C.1 dX12_readsSum_93 1 rfl ?_
        refine x_callVi C (As := [vI z4]) (rest := []) 0 (xw_at (N := 33) (i := 0) (by decide) rfl) vc_X12 (m_hasOpenSum l D cy ad G V134 J Rr hI134 hJ hR z4 ⟨by omega, by omega⟩) (l1 := []) (l2 := []) (List.append_nil _).symm (w2 := fun _ => MW cy ad V134 J Rr) (fun _ => List.append_nil _) rfl wm_yX12_hasOpenSum wn_X12 wl_X12_204 wi_yX12_hasOpenSum we_yX12_hasOpenSum hd_yX12_hasOpenSum rfl ⟨Nat.le_of_ble_eq_true rfl, Nat.le_of_ble_eq_true rfl⟩ (Nat.le_of_ble_eq_true rfl) ⟨Nat.le_of_ble_eq_true rfl, Nat.le_of_ble_eq_true rfl⟩ dX12_readsSum_94 (fun z151 u151 bz151 h151 => ?_)
        obtain ⟨bq151, hx151_0, hFc151⟩ := h151
        replace hF := calR_i hF hFc151
        replace hF := hF.fc bq151
        refine x_if_eq C.1 (tgt := 138) dX12_readsSum_97 (by decide) (by omega) (fun hc152 => ?_) (fun hc152 => ?_)
        · replace hF := hF.to (if_pos hc152)
          refine x_aload_n C.1 dX12_readsSum_138 2 rfl ?_
          refine x_iload_n C.1 dX12_readsSum_139 1 rfl ?_
          refine x_callVi C (As := [vI z4]) (rest := []) 0 (xw_at (N := 33) (i := 0) (by decide) rfl) vc_X12 (m_hasOpenSum l D cy ad G V134 J Rr hI134 hJ hR z4 ⟨by omega, by omega⟩) (l1 := []) (l2 := []) (List.append_nil _).symm (w2 := fun _ => MW cy ad V134 J Rr) (fun _ => List.append_nil _) rfl wm_yX12_hasOpenSum wn_X12 wl_X12_204 wi_yX12_hasOpenSum we_yX12_hasOpenSum hd_yX12_hasOpenSum rfl ⟨Nat.le_of_ble_eq_true rfl, Nat.le_of_ble_eq_true rfl⟩ (Nat.le_of_ble_eq_true rfl) ⟨Nat.le_of_ble_eq_true rfl, Nat.le_of_ble_eq_true rfl⟩ dX12_readsSum_140 (fun z153 u153 bz153 h153 => ?_)
          obtain ⟨bq153, hx153_0, hFc153⟩ := h153
          replace hF := calR_i hF hFc153
          replace hF := hF.fc bq153
          refine x_if_eq C.1 (tgt := 156) dX12_readsSum_143 (by decide) (by omega) (fun hc154 => ?_) (fun hc154 => ?_)
          · replace hF := hF.to (if_pos hc154)
            have hofh155 := Sq.off hx153_0 (by omega)
            have hno156 : ¬ ∃ j : Nat, V 0 11 ≤ (j : Int) ∧ (j : Int) < V134 0 11 ∧ pdv (V134 6 j) = 14 := by rw [ez4]; exact hofh155
            refine x_aload_n C.1 dX12_readsSum_156 2 rfl ?_
            refine x_iconst C.1 (n := 1) dX12_readsSum_157 ?_
            refine x_callVv C (As := [vI 1]) (rest := []) 0 (xw_at (N := 33) (i := 0) (by decide) rfl) vc_X12 (m_closesSums l D cy ad G V134 J Rr hI134 hJ hR 1 ⟨by decide, by decide⟩ (V 0 11) (V 0 10) (V 0 5 - V 0 10) hs (hf.tio ht hP.2.2.2.1) hp) (l1 := []) (l2 := []) (List.append_nil _).symm (w2 := fun u : Nat → Nat → Int => MW cy ad u J Rr) (fun _ => List.append_nil _) rfl wm_yX12_closesSums wn_X12 wl_X12_200 wi_yX12_closesSums we_yX12_closesSums hd_yX12_closesSums rfl ⟨Nat.le_of_ble_eq_true rfl, Nat.le_of_ble_eq_true rfl⟩ (Nat.le_of_ble_eq_true rfl) ⟨Nat.le_of_ble_eq_true rfl, Nat.le_of_ble_eq_true rfl⟩ dX12_readsSum_158 (fun V157 h157 => ?_)
            obtain ⟨hI157, hx157_0, hx157_1, hBc157, hFc157⟩ := h157
            replace hF := calUM_i hF hFc157 hBc157
            have hB157 := hB134.tr hBc157 (m := 590295810358705654784) rfl
            refine x_iconst C.1 (n := 1) dX12_readsSum_161 ?_
            exact x_zret (S := (Nat → Nat → Int)) (post := (fun a (u : Nat → Nat → Int) => MI G u ∧ (0 ≤ a ∧ a ≤ 1) ∧ Sp a (pSum V u) ∧ FBm 1770887431076116959136 V u ∧ (f_m_readsSum V J Rr) (a, u))) (w1 := (fun u : Nat → Nat → Int => MW cy ad u J Rr)) (a := 1) C hr rfl dX12_readsSum_162 (by decide) V157 rfl ⟨hI157, ⟨by decide, by decide⟩, (Or.inr ⟨rfl, pSum.mk hf hlt hx157_0 (hx157_1 rfl) hno156⟩), hB157, hF _ rfl⟩
          · replace hF := hF.to (if_neg hc154)
            have hon158 := Sq.on hx153_0 (by omega)
            refine x_aload_n C.1 dX12_readsSum_146 2 rfl ?_
            refine x_iconst C.1 (n := 1) dX12_readsSum_147 ?_
            refine x_aload_n C.1 dX12_readsSum_148 2 rfl ?_
            refine x_getI C (N := 33) (i := 0) (by decide) rfl vc_X12 wx_X12 5 (by decide) wf_X12_144 rfl dX12_readsSum_149 (a := z135) ez135 ?_
            refine x_callVi C (As := [vI 1, vI z135]) (rest := []) 0 (xw_at (N := 33) (i := 0) (by decide) rfl) vc_X12 (m_wrongAt l D cy ad G V134 J Rr hI134 hJ hR 1 ⟨by decide, by decide⟩ z135 ⟨by omega, by omega⟩) (l1 := []) (l2 := []) (List.append_nil _).symm (w2 := fun u : Nat → Nat → Int => MW cy ad u J Rr) (fun _ => List.append_nil _) rfl wm_yX12_wrongAt wn_X12 wl_X12_157 wi_yX12_wrongAt we_yX12_wrongAt hd_yX12_wrongAt rfl ⟨Nat.le_of_ble_eq_true rfl, Nat.le_of_ble_eq_true rfl⟩ (Nat.le_of_ble_eq_true rfl) ⟨Nat.le_of_ble_eq_true rfl, Nat.le_of_ble_eq_true rfl⟩ dX12_readsSum_152 (fun z159 V159 bz159 h159 => ?_)
            obtain ⟨hI159, bq159, hx159_0, hBc159, hFc159⟩ := h159
            replace hF := calVM_i hF hFc159 hBc159
            replace hF := hF.fc bq159
            have hB159 := hB134.tr hBc159 (m := 128) rfl
            exact x_zret (S := (Nat → Nat → Int)) (post := (fun a (u : Nat → Nat → Int) => MI G u ∧ (0 ≤ a ∧ a ≤ 1) ∧ Sp a (pSum V u) ∧ FBm 1770887431076116959136 V u ∧ (f_m_readsSum V J Rr) (a, u))) (w1 := (fun u : Nat → Nat → Int => MW cy ad u J Rr)) (a := z159) C hr rfl dX12_readsSum_155 (by omega) V159 rfl ⟨hI159, ⟨by omega, by omega⟩, (Or.inl (by omega)), hB159, hF _ rfl⟩
        · replace hF := hF.to (if_neg hc152)
          have hon160 := Sq.on hx151_0 (by omega)
          have hhs161 : ∃ j : Nat, V 0 11 ≤ (j : Int) ∧ (j : Int) < V134 0 11 ∧ pdv (V134 6 j) = 14 := by rw [ez4]; exact hon160
          refine x_aload_n C.1 dX12_readsSum_100 2 rfl ?_
          refine x_iconst C.1 (n := 1) dX12_readsSum_101 ?_
          refine x_callVv C (As := [vI 1]) (rest := []) 0 (xw_at (N := 33) (i := 0) (by decide) rfl) vc_X12 (m_closesSums l D cy ad G V134 J Rr hI134 hJ hR 1 ⟨by decide, by decide⟩ (V 0 11) (V 0 10) (V 0 5 - V 0 10) hs (hf.tio ht hP.2.2.2.1) hp) (l1 := []) (l2 := []) (List.append_nil _).symm (w2 := fun u : Nat → Nat → Int => MW cy ad u J Rr) (fun _ => List.append_nil _) rfl wm_yX12_closesSums wn_X12 wl_X12_200 wi_yX12_closesSums we_yX12_closesSums hd_yX12_closesSums rfl ⟨Nat.le_of_ble_eq_true rfl, Nat.le_of_ble_eq_true rfl⟩ (Nat.le_of_ble_eq_true rfl) ⟨Nat.le_of_ble_eq_true rfl, Nat.le_of_ble_eq_true rfl⟩ dX12_readsSum_102 (fun V162 h162 => ?_)
          obtain ⟨hI162, hx162_0, hx162_1, hBc162, hFc162⟩ := h162
          replace hF := calUM_i hF hFc162 hBc162
          have hB162 := hB134.tr hBc162 (m := 590295810358705654784) rfl
          obtain ⟨z163, ez163, bz163⟩ := hI162.rd 0 5 (x := 0) (y := 220) rfl
          replace hF := hF.to (rdb_e (z := z163) ez163)
          replace hF := hF.fc bz163
          obtain ⟨z164, ez164, bz164⟩ := hI162.rd 0 6 (x := 0) (y := 220) rfl
          replace hF := hF.to (rdb_e (z := z164) ez164)
          replace hF := hF.fc bz164
          obtain ⟨z165, ez165, bz165⟩ := hI162.rd 0 10 (x := 0) (y := 220) rfl
          replace hF := hF.to (rdb_e (z := z165) ez165)
          replace hF := hF.fc bz165
          obtain ⟨z166, ez166, bz166⟩ := hI162.rd 0 11 (x := 0) (y := 220) rfl
          replace hF := hF.to (rdb_e (z := z166) ez166)
          replace hF := hF.fc bz166
          have hc2162 := hx162_0.1.c200 hx162_0.2.1
          rw [ez163, ez165, ez166] at hc2162
          have hpz162 := hx162_0.2.1
          unfold PG at hpz162
          rw [ez163, ez164, ez165, ez166] at hpz162
          have e5162 : z163 = z135 := by rw [← ez163, ← ez135]; exact hx162_0.2.2.2.2.1
          have e6162 : z164 = z136 := by rw [← ez164, ← ez136]; exact hx162_0.2.2.2.1.2.2.1
          have hg167 := hx162_0.has (hx162_1 rfl) hhs161
          have hgt167 := hg167.1
          rw [ez4, ez166] at hgt167
          refine x_aload_n C.1 dX12_readsSum_105 2 rfl ?_
          refine x_aload_n C.1 dX12_readsSum_106 2 rfl ?_
          refine x_getI C (N := 33) (i := 0) (by decide) rfl vc_X12 wx_X12 11 (by decide) wf_X12_174 rfl dX12_readsSum_107 (a := z166) ez166 ?_
          refine x_iconst C.1 (n := 1) dX12_readsSum_110 ?_
          refine x_isub C.1 (v := z166 - 1) (by omega) dX12_readsSum_111 ?_
          refine x_putI C (N := 33) (i := 0) (by decide) rfl vc_X12 wx_X12 11 (by decide) wf_X12_174 tyX12 tyX12_ok nmX12 rfl (tyX12_ok 11 (by decide)) rfl dX12_readsSum_112 rfl rfl ?_
          refine x_gV ?_
          intro V168 hV168
          have hI168 : MI G V168 := hI162.up hV168 rfl (by omega) rfl (Or.inl (by decide))
          have hB168 := hB162.up hV168 rfl
          replace hF := hF.to (rdb_e (z := V168) hV168.symm)
          refine x_aload_n C.1 dX12_readsSum_115 2 rfl ?_
          refine x_aload_n C.1 dX12_readsSum_116 2 rfl ?_
          obtain ⟨z169, ez169, bz169⟩ := hI168.rd 0 9 (x := -2147483648) (y := 2147483647) rfl
          replace hF := hF.to (rdb_e (z := z169) ez169)
          refine x_getI C (N := 33) (i := 0) (by decide) rfl vc_X12 wx_X12 9 (by decide) wf_X12_171 rfl dX12_readsSum_117 (a := z169) ez169 ?_
          refine x_iconst C.1 (n := 1) dX12_readsSum_120 ?_
          refine x_isub C.1 (v := z169 - 1) (by omega) dX12_readsSum_121 ?_
          refine x_wrapg ?_
          intro z170 bz170 ew170
          replace hF := hF.to (rdb_e (z := z170) ew170.symm)
          refine x_putI C (N := 33) (i := 0) (by decide) rfl vc_X12 wx_X12 9 (by decide) wf_X12_171 tyX12 tyX12_ok nmX12 rfl (tyX12_ok 9 (by decide)) rfl dX12_readsSum_122 rfl rfl ?_
          refine x_gV ?_
          intro V171 hV171
          have hI171 : MI G V171 := hI168.up hV171 rfl (by omega) rfl (Or.inl (by decide))
          have hB171 := hB168.up hV171 rfl
          replace hF := hF.to (rdb_e (z := V171) hV171.symm)
          refine x_aload_n C.1 dX12_readsSum_125 2 rfl ?_
          refine x_aload_n C.1 dX12_readsSum_126 2 rfl ?_
          refine x_getI C (N := 33) (i := 0) (by decide) rfl vc_X12 wx_X12 5 (by decide) wf_X12_144 rfl dX12_readsSum_127 (a := z163) ((congrFun (congrFun hV171 0) 5).trans ((up2_n _ _ (Or.inr (by decide))).trans ((congrFun (congrFun hV168 0) 5).trans ((up2_n _ _ (Or.inr (by decide))).trans ez163)))) ?_
          refine x_iconst C.1 (n := 1) dX12_readsSum_130 ?_
          refine x_iadd C.1 (v := z163 + 1) (by omega) dX12_readsSum_131 ?_
          refine x_putI C (N := 33) (i := 0) (by decide) rfl vc_X12 wx_X12 5 (by decide) wf_X12_144 tyX12 tyX12_ok nmX12 rfl (tyX12_ok 5 (by decide)) rfl dX12_readsSum_132 rfl rfl ?_
          refine x_gV ?_
          intro V172 hV172
          have hI172 : MI G V172 := hI171.up hV172 rfl (by omega) rfl (Or.inl (by decide))
          have hB172 := hB171.up hV172 rfl
          replace hF := hF.to (rdb_e (z := V172) hV172.symm)
          refine x_goto C.1 (tgt := 163) dX12_readsSum_135 (by decide) ?_
          refine x_goto C.1 (tgt := 14) dX12_readsSum_163 (by decide) ?_
          refine x_lv [(1, vI z4), (0, .ref (ad 0))] [1, 2] rfl ?_
          have hk := popS (u := V172) (o := z170) hx162_0.1 hx162_0.2.1 (by rw [ez163, ez164]; omega) hg167.1 hg167.2 (by rw [hV172, hV171, hV168, ez163, ez166])
          have hk2 := pFac.tr (hf.tr hx162_0.2.2.2.1) hk
          have hm1 := hk.2.2.1.2.2.1.trans hx162_0.2.2.2.1.2.2.1
          have hm2 := hk.2.2.2
          have hm3 := hk.2.1.2.1
          have hm4 := hx162_0.2.2.2.2.1
          have hmu134 : (V172 0 6 - V172 0 5).toNat < (V134 0 6 - V134 0 5).toNat := (by omega)
          exact ih134 V172 ⟨hI172, hB172, hk2.1, hk2.2.1, hk2.2.2.1, hk2.2.2.2, ⟨nf134, Nat.lt_of_lt_of_le hmu134 (Nat.le_of_lt_succ hn134), hF⟩⟩ hmu134
    · replace hF := hF.to (if_neg hc141)
      refine x_aload_n C.1 dX12_readsSum_27 2 rfl ?_
      refine x_iload_n C.1 dX12_readsSum_28 0 rfl ?_
      refine x_iconst C.1 (n := 4) dX12_readsSum_29 ?_
      refine x_icmp_ge C.1 (tgt := 37) dX12_readsSum_30 (by decide) (by omega) (by decide) (fun hc173 => ?_) (fun hc173 => ?_)
      · replace hF := hF.to (if_pos hc173)
        refine x_iconst C.1 (n := 0) dX12_readsSum_37 ?_
        refine x_callVv C (As := [vI 0]) (rest := []) 0 (xw_at (N := 33) (i := 0) (by decide) rfl) vc_X12 (m_closesSums l D cy ad G V134 J Rr hI134 hJ hR 0 ⟨by decide, by decide⟩ (V 0 11) (V 0 10) (V 0 5 - V 0 10) hs (hf.tio ht hP.2.2.2.1) hp) (l1 := []) (l2 := []) (List.append_nil _).symm (w2 := fun u : Nat → Nat → Int => MW cy ad u J Rr) (fun _ => List.append_nil _) rfl wm_yX12_closesSums wn_X12 wl_X12_200 wi_yX12_closesSums we_yX12_closesSums hd_yX12_closesSums rfl ⟨Nat.le_of_ble_eq_true rfl, Nat.le_of_ble_eq_true rfl⟩ (Nat.le_of_ble_eq_true rfl) ⟨Nat.le_of_ble_eq_true rfl, Nat.le_of_ble_eq_true rfl⟩ dX12_readsSum_38 (fun V174 h174 => ?_)
        obtain ⟨hI174, hx174_0, hx174_1, hBc174, hFc174⟩ := h174
        replace hF := calUM_i hF hFc174 hBc174
        have hB174 := hB134.tr hBc174 (m := 590295810358705654784) rfl
        obtain ⟨z175, ez175, bz175⟩ := hI174.rd 0 5 (x := 0) (y := 220) rfl
        replace hF := hF.to (rdb_e (z := z175) ez175)
        replace hF := hF.fc bz175
        obtain ⟨z176, ez176, bz176⟩ := hI174.rd 0 6 (x := 0) (y := 220) rfl
        replace hF := hF.to (rdb_e (z := z176) ez176)
        replace hF := hF.fc bz176
        obtain ⟨z177, ez177, bz177⟩ := hI174.rd 0 10 (x := 0) (y := 220) rfl
        replace hF := hF.to (rdb_e (z := z177) ez177)
        replace hF := hF.fc bz177
        obtain ⟨z178, ez178, bz178⟩ := hI174.rd 0 11 (x := 0) (y := 220) rfl
        replace hF := hF.to (rdb_e (z := z178) ez178)
        replace hF := hF.fc bz178
        have hc2174 := hx174_0.1.c200 hx174_0.2.1
        rw [ez175, ez177, ez178] at hc2174
        have hpz174 := hx174_0.2.1
        unfold PG at hpz174
        rw [ez175, ez176, ez177, ez178] at hpz174
        have e5174 : z175 = z135 := by rw [← ez175, ← ez135]; exact hx174_0.2.2.2.2.1
        have e6174 : z176 = z136 := by rw [← ez176, ← ez136]; exact hx174_0.2.2.2.1.2.2.1
        refine x_aload_n C.1 dX12_readsSum_41 2 rfl ?_
        refine x_getA C (N := 33) (i := 0) (by decide) rfl vc_X12 wx_X12 14 (by decide) wf_X12_26 (a := 6) rfl dX12_readsSum_42 ?_
        refine x_aload_n C.1 dX12_readsSum_45 2 rfl ?_
        refine x_getI C (N := 33) (i := 0) (by decide) rfl vc_X12 wx_X12 11 (by decide) wf_X12_174 rfl dX12_readsSum_46 (a := z178) ez178 ?_
        refine x_ldc C.1 (n := 1048576) wq_X12_170 dX12_readsSum_49 ?_
        refine x_iload_n C.1 dX12_readsSum_51 0 rfl ?_
        refine x_imul C.1 (v := 1048576 * z140) (by omega) dX12_readsSum_52 ?_
        refine x_iast C (N := 33) (i := 6) (q := z178) (a := 1048576 * z140) (by decide) rfl (by omega) (by decide) dX12_readsSum_53 ?_
        refine x_gV ?_
        intro V179 hV179
        have hI179 : MI G V179 := hI174.up hV179 rfl (by omega) rfl (Or.inl (by decide))
        have hB179 := hB174.up hV179 (by rw [mkey_r (by decide)]; rfl)
        replace hF := hF.to (rdb_e (z := V179) hV179.symm)
        refine x_aload_n C.1 dX12_readsSum_54 2 rfl ?_
        refine x_aload_n C.1 dX12_readsSum_55 2 rfl ?_
        refine x_getI C (N := 33) (i := 0) (by decide) rfl vc_X12 wx_X12 11 (by decide) wf_X12_174 rfl dX12_readsSum_56 (a := z178) ((congrFun (congrFun hV179 0) 11).trans ((up2_n _ _ (Or.inl (by decide))).trans ez178)) ?_
        refine x_iconst C.1 (n := 1) dX12_readsSum_59 ?_
        refine x_iadd C.1 (v := z178 + 1) (by omega) dX12_readsSum_60 ?_
        refine x_putI C (N := 33) (i := 0) (by decide) rfl vc_X12 wx_X12 11 (by decide) wf_X12_174 tyX12 tyX12_ok nmX12 rfl (tyX12_ok 11 (by decide)) rfl dX12_readsSum_61 rfl rfl ?_
        refine x_gV ?_
        intro V180 hV180
        have hI180 : MI G V180 := hI179.up hV180 rfl (by omega) rfl (Or.inl (by decide))
        have hB180 := hB179.up hV180 rfl
        replace hF := hF.to (rdb_e (z := V180) hV180.symm)
        refine x_aload_n C.1 dX12_readsSum_64 2 rfl ?_
        refine x_aload_n C.1 dX12_readsSum_65 2 rfl ?_
        refine x_getI C (N := 33) (i := 0) (by decide) rfl vc_X12 wx_X12 5 (by decide) wf_X12_144 rfl dX12_readsSum_66 (a := z175) ((congrFun (congrFun hV180 0) 5).trans ((up2_n _ _ (Or.inr (by decide))).trans ((congrFun (congrFun hV179 0) 5).trans ((up2_n _ _ (Or.inl (by decide))).trans ez175)))) ?_
        refine x_iconst C.1 (n := 1) dX12_readsSum_69 ?_
        refine x_iadd C.1 (v := z175 + 1) (by omega) dX12_readsSum_70 ?_
        refine x_putI C (N := 33) (i := 0) (by decide) rfl vc_X12 wx_X12 5 (by decide) wf_X12_144 tyX12 tyX12_ok nmX12 rfl (tyX12_ok 5 (by decide)) rfl dX12_readsSum_71 rfl rfl ?_
        refine x_gV ?_
        intro V181 hV181
        have hI181 : MI G V181 := hI180.up hV181 rfl (by omega) rfl (Or.inl (by decide))
        have hB181 := hB180.up hV181 rfl
        replace hF := hF.to (rdb_e (z := V181) hV181.symm)
        have hk182 := signS hx174_0.1 hx174_0.2.1 (by rw [ez175, ez176]; omega) (x := 1048576 * z140) (by unfold pio; rw [pdv_m0 (by omega)]; omega) (u := V181) (by rw [hV181, hV180, hV179, ez175, ez178])
        refine x_aload_n C.1 dX12_readsSum_74 2 rfl ?_
        refine x_callVi C (As := []) (rest := []) 0 (xw_at (N := 33) (i := 0) (by decide) rfl) vc_X12 (m_readsFactor l D cy ad G V181 J Rr hI181 hJ hR (V 0 11) (V 0 10) (V 0 5 - V 0 10) hk182.1 hk182.2.1) (l1 := []) (l2 := []) (List.append_nil _).symm (w2 := fun u : Nat → Nat → Int => MW cy ad u J Rr) (fun _ => List.append_nil _) rfl wm_yX12_readsFactor wn_X12 wl_X12_194 wi_yX12_readsFactor we_yX12_readsFactor hd_yX12_readsFactor rfl ⟨Nat.le_of_ble_eq_true rfl, Nat.le_of_ble_eq_true rfl⟩ (Nat.le_of_ble_eq_true rfl) ⟨Nat.le_of_ble_eq_true rfl, Nat.le_of_ble_eq_true rfl⟩ dX12_readsSum_75 (fun z183 V183 bz183 h183 => ?_)
        obtain ⟨hI183, bq183, hx183_0, hBc183, hFc183⟩ := h183
        replace hF := calVM_i hF hFc183 hBc183
        replace hF := hF.fc bq183
        have hB183 := hB181.tr hBc183 (m := 1770887431076116959136) rfl
        refine x_if_ne C.1 (tgt := 163) dX12_readsSum_78 (by decide) (by omega) (fun hc184 => ?_) (fun hc184 => ?_)
        · replace hF := hF.to (if_pos hc184)
          have hon185 := Sp.on hx183_0 (by omega)
          refine x_goto C.1 (tgt := 14) dX12_readsSum_163 (by decide) ?_
          refine x_lv [(1, vI z4), (0, .ref (ad 0))] [1, 2] rfl ?_
          have hk2 := pFac.tr ((hf.tr hx174_0.2.2.2.1).tr hk182.2.2.1) hon185
          have hm1 := (hon185.2.2.1.2.2.1.trans hk182.2.2.1.2.2.1).trans hx174_0.2.2.2.1.2.2.1
          have hm2 := hon185.2.2.2
          have hm5 := hk182.2.2.2
          have hm3 := hon185.2.1.2.1
          have hm4 := hx174_0.2.2.2.2.1
          have hmu134 : (V183 0 6 - V183 0 5).toNat < (V134 0 6 - V134 0 5).toNat := (by omega)
          exact ih134 V183 ⟨hI183, hB183, hk2.1, hk2.2.1, hk2.2.2.1, hk2.2.2.2, ⟨nf134, Nat.lt_of_lt_of_le hmu134 (Nat.le_of_lt_succ hn134), hF⟩⟩ hmu134
        · replace hF := hF.to (if_neg (fun hh => hh hc184))
          refine x_iconst C.1 (n := 0) dX12_readsSum_81 ?_
          exact x_zret (S := (Nat → Nat → Int)) (post := (fun a (u : Nat → Nat → Int) => MI G u ∧ (0 ≤ a ∧ a ≤ 1) ∧ Sp a (pSum V u) ∧ FBm 1770887431076116959136 V u ∧ (f_m_readsSum V J Rr) (a, u))) (w1 := (fun u : Nat → Nat → Int => MW cy ad u J Rr)) (a := 0) C hr rfl dX12_readsSum_82 (by decide) V183 rfl ⟨hI183, ⟨by decide, by decide⟩, (Or.inl rfl), hB183, hF _ rfl⟩
      · replace hF := hF.to (if_neg hc173)
        refine x_iconst C.1 (n := 1) dX12_readsSum_33 ?_
        refine x_goto C.1 (tgt := 38) dX12_readsSum_34 (by decide) ?_
        refine x_callVv C (As := [vI 1]) (rest := []) 0 (xw_at (N := 33) (i := 0) (by decide) rfl) vc_X12 (m_closesSums l D cy ad G V134 J Rr hI134 hJ hR 1 ⟨by decide, by decide⟩ (V 0 11) (V 0 10) (V 0 5 - V 0 10) hs (hf.tio ht hP.2.2.2.1) hp) (l1 := []) (l2 := []) (List.append_nil _).symm (w2 := fun u : Nat → Nat → Int => MW cy ad u J Rr) (fun _ => List.append_nil _) rfl wm_yX12_closesSums wn_X12 wl_X12_200 wi_yX12_closesSums we_yX12_closesSums hd_yX12_closesSums rfl ⟨Nat.le_of_ble_eq_true rfl, Nat.le_of_ble_eq_true rfl⟩ (Nat.le_of_ble_eq_true rfl) ⟨Nat.le_of_ble_eq_true rfl, Nat.le_of_ble_eq_true rfl⟩ dX12_readsSum_38 (fun V186 h186 => ?_)
        obtain ⟨hI186, hx186_0, hx186_1, hBc186, hFc186⟩ := h186
        replace hF := calUM_i hF hFc186 hBc186
        have hB186 := hB134.tr hBc186 (m := 590295810358705654784) rfl
        obtain ⟨z187, ez187, bz187⟩ := hI186.rd 0 5 (x := 0) (y := 220) rfl
        replace hF := hF.to (rdb_e (z := z187) ez187)
        replace hF := hF.fc bz187
        obtain ⟨z188, ez188, bz188⟩ := hI186.rd 0 6 (x := 0) (y := 220) rfl
        replace hF := hF.to (rdb_e (z := z188) ez188)
        replace hF := hF.fc bz188
        obtain ⟨z189, ez189, bz189⟩ := hI186.rd 0 10 (x := 0) (y := 220) rfl
        replace hF := hF.to (rdb_e (z := z189) ez189)
        replace hF := hF.fc bz189
        obtain ⟨z190, ez190, bz190⟩ := hI186.rd 0 11 (x := 0) (y := 220) rfl
        replace hF := hF.to (rdb_e (z := z190) ez190)
        replace hF := hF.fc bz190
        have hc2186 := hx186_0.1.c200 hx186_0.2.1
        rw [ez187, ez189, ez190] at hc2186
        have hpz186 := hx186_0.2.1
        unfold PG at hpz186
        rw [ez187, ez188, ez189, ez190] at hpz186
        have e5186 : z187 = z135 := by rw [← ez187, ← ez135]; exact hx186_0.2.2.2.2.1
        have e6186 : z188 = z136 := by rw [← ez188, ← ez136]; exact hx186_0.2.2.2.1.2.2.1
        refine x_aload_n C.1 dX12_readsSum_41 2 rfl ?_
        refine x_getA C (N := 33) (i := 0) (by decide) rfl vc_X12 wx_X12 14 (by decide) wf_X12_26 (a := 6) rfl dX12_readsSum_42 ?_
        refine x_aload_n C.1 dX12_readsSum_45 2 rfl ?_
        refine x_getI C (N := 33) (i := 0) (by decide) rfl vc_X12 wx_X12 11 (by decide) wf_X12_174 rfl dX12_readsSum_46 (a := z190) ez190 ?_
        refine x_ldc C.1 (n := 1048576) wq_X12_170 dX12_readsSum_49 ?_
        refine x_iload_n C.1 dX12_readsSum_51 0 rfl ?_
        refine x_imul C.1 (v := 1048576 * z140) (by omega) dX12_readsSum_52 ?_
        refine x_iast C (N := 33) (i := 6) (q := z190) (a := 1048576 * z140) (by decide) rfl (by omega) (by decide) dX12_readsSum_53 ?_
        refine x_gV ?_
        intro V191 hV191
        have hI191 : MI G V191 := hI186.up hV191 rfl (by omega) rfl (Or.inl (by decide))
        have hB191 := hB186.up hV191 (by rw [mkey_r (by decide)]; rfl)
        replace hF := hF.to (rdb_e (z := V191) hV191.symm)
        refine x_aload_n C.1 dX12_readsSum_54 2 rfl ?_
        refine x_aload_n C.1 dX12_readsSum_55 2 rfl ?_
        refine x_getI C (N := 33) (i := 0) (by decide) rfl vc_X12 wx_X12 11 (by decide) wf_X12_174 rfl dX12_readsSum_56 (a := z190) ((congrFun (congrFun hV191 0) 11).trans ((up2_n _ _ (Or.inl (by decide))).trans ez190)) ?_
        refine x_iconst C.1 (n := 1) dX12_readsSum_59 ?_
        refine x_iadd C.1 (v := z190 + 1) (by omega) dX12_readsSum_60 ?_
        refine x_putI C (N := 33) (i := 0) (by decide) rfl vc_X12 wx_X12 11 (by decide) wf_X12_174 tyX12 tyX12_ok nmX12 rfl (tyX12_ok 11 (by decide)) rfl dX12_readsSum_61 rfl rfl ?_
        refine x_gV ?_
        intro V192 hV192
        have hI192 : MI G V192 := hI191.up hV192 rfl (by omega) rfl (Or.inl (by decide))
        have hB192 := hB191.up hV192 rfl
        replace hF := hF.to (rdb_e (z := V192) hV192.symm)
        refine x_aload_n C.1 dX12_readsSum_64 2 rfl ?_
        refine x_aload_n C.1 dX12_readsSum_65 2 rfl ?_
        refine x_getI C (N := 33) (i := 0) (by decide) rfl vc_X12 wx_X12 5 (by decide) wf_X12_144 rfl dX12_readsSum_66 (a := z187) ((congrFun (congrFun hV192 0) 5).trans ((up2_n _ _ (Or.inr (by decide))).trans ((congrFun (congrFun hV191 0) 5).trans ((up2_n _ _ (Or.inl (by decide))).trans ez187)))) ?_
        refine x_iconst C.1 (n := 1) dX12_readsSum_69 ?_
        refine x_iadd C.1 (v := z187 + 1) (by omega) dX12_readsSum_70 ?_
        refine x_putI C (N := 33) (i := 0) (by decide) rfl vc_X12 wx_X12 5 (by decide) wf_X12_144 tyX12 tyX12_ok nmX12 rfl (tyX12_ok 5 (by decide)) rfl dX12_readsSum_71 rfl rfl ?_
        refine x_gV ?_
        intro V193 hV193
        have hI193 : MI G V193 := hI192.up hV193 rfl (by omega) rfl (Or.inl (by decide))
        have hB193 := hB192.up hV193 rfl
        replace hF := hF.to (rdb_e (z := V193) hV193.symm)
        have hk194 := signS hx186_0.1 hx186_0.2.1 (by rw [ez187, ez188]; omega) (x := 1048576 * z140) (by unfold pio; rw [pdv_m0 (by omega)]; omega) (u := V193) (by rw [hV193, hV192, hV191, ez187, ez190])
        refine x_aload_n C.1 dX12_readsSum_74 2 rfl ?_
        refine x_callVi C (As := []) (rest := []) 0 (xw_at (N := 33) (i := 0) (by decide) rfl) vc_X12 (m_readsFactor l D cy ad G V193 J Rr hI193 hJ hR (V 0 11) (V 0 10) (V 0 5 - V 0 10) hk194.1 hk194.2.1) (l1 := []) (l2 := []) (List.append_nil _).symm (w2 := fun u : Nat → Nat → Int => MW cy ad u J Rr) (fun _ => List.append_nil _) rfl wm_yX12_readsFactor wn_X12 wl_X12_194 wi_yX12_readsFactor we_yX12_readsFactor hd_yX12_readsFactor rfl ⟨Nat.le_of_ble_eq_true rfl, Nat.le_of_ble_eq_true rfl⟩ (Nat.le_of_ble_eq_true rfl) ⟨Nat.le_of_ble_eq_true rfl, Nat.le_of_ble_eq_true rfl⟩ dX12_readsSum_75 (fun z195 V195 bz195 h195 => ?_)
        obtain ⟨hI195, bq195, hx195_0, hBc195, hFc195⟩ := h195
        replace hF := calVM_i hF hFc195 hBc195
        replace hF := hF.fc bq195
        have hB195 := hB193.tr hBc195 (m := 1770887431076116959136) rfl
        refine x_if_ne C.1 (tgt := 163) dX12_readsSum_78 (by decide) (by omega) (fun hc196 => ?_) (fun hc196 => ?_)
        · replace hF := hF.to (if_pos hc196)
          have hon197 := Sp.on hx195_0 (by omega)
          refine x_goto C.1 (tgt := 14) dX12_readsSum_163 (by decide) ?_
          refine x_lv [(1, vI z4), (0, .ref (ad 0))] [1, 2] rfl ?_
          have hk2 := pFac.tr ((hf.tr hx186_0.2.2.2.1).tr hk194.2.2.1) hon197
          have hm1 := (hon197.2.2.1.2.2.1.trans hk194.2.2.1.2.2.1).trans hx186_0.2.2.2.1.2.2.1
          have hm2 := hon197.2.2.2
          have hm5 := hk194.2.2.2
          have hm3 := hon197.2.1.2.1
          have hm4 := hx186_0.2.2.2.2.1
          have hmu134 : (V195 0 6 - V195 0 5).toNat < (V134 0 6 - V134 0 5).toNat := (by omega)
          exact ih134 V195 ⟨hI195, hB195, hk2.1, hk2.2.1, hk2.2.2.1, hk2.2.2.2, ⟨nf134, Nat.lt_of_lt_of_le hmu134 (Nat.le_of_lt_succ hn134), hF⟩⟩ hmu134
        · replace hF := hF.to (if_neg (fun hh => hh hc196))
          refine x_iconst C.1 (n := 0) dX12_readsSum_81 ?_
          exact x_zret (S := (Nat → Nat → Int)) (post := (fun a (u : Nat → Nat → Int) => MI G u ∧ (0 ≤ a ∧ a ≤ 1) ∧ Sp a (pSum V u) ∧ FBm 1770887431076116959136 V u ∧ (f_m_readsSum V J Rr) (a, u))) (w1 := (fun u : Nat → Nat → Int => MW cy ad u J Rr)) (a := 0) C hr rfl dX12_readsSum_82 (by decide) V195 rfl ⟨hI195, ⟨by decide, by decide⟩, (Or.inl rfl), hB195, hF _ rfl⟩
  · replace hF := hF.to (if_neg (fun hh => hh hc6))
    refine x_iconst C.1 (n := 0) dX12_readsSum_12 ?_
    exact x_zret (S := (Nat → Nat → Int)) (post := (fun a (u : Nat → Nat → Int) => MI G u ∧ (0 ≤ a ∧ a ≤ 1) ∧ Sp a (pSum V u) ∧ FBm 1770887431076116959136 V u ∧ (f_m_readsSum V J Rr) (a, u))) (w1 := (fun u : Nat → Nat → Int => MW cy ad u J Rr)) (a := 0) C hr rfl dX12_readsSum_13 (by decide) V5 rfl ⟨hI5, ⟨by decide, by decide⟩, (Or.inl rfl), hB5, hF _ rfl⟩
