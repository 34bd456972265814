section
theorem hd_yX12_closesSums : yX12_closesSums.cls ≠ "java/lang/invoke/MethodHandle" ∧ yX12_closesSums.cls ≠ "java/lang/invoke/VarHandle" ∧ (parseMethodDescriptor yX12_closesSums.desc).map (fun d => d.parameters.length) = some 1 := by decide +kernel
theorem hd_yX12_hasOpenSum : yX12_hasOpenSum.cls ≠ "java/lang/invoke/MethodHandle" ∧ yX12_hasOpenSum.cls ≠ "java/lang/invoke/VarHandle" ∧ (parseMethodDescriptor yX12_hasOpenSum.desc).map (fun d => d.parameters.length) = some 1 := by decide +kernel
theorem hd_yX12_readsFactor : yX12_readsFactor.cls ≠ "java/lang/invoke/MethodHandle" ∧ yX12_readsFactor.cls ≠ "java/lang/invoke/VarHandle" ∧ (parseMethodDescriptor yX12_readsFactor.desc).map (fun d => d.parameters.length) = some 0 := by decide +kernel
theorem hd_yX12_sumSign : yX12_sumSign.cls ≠ "java/lang/invoke/MethodHandle" ∧ yX12_sumSign.cls ≠ "java/lang/invoke/VarHandle" ∧ (parseMethodDescriptor yX12_sumSign.desc).map (fun d => d.parameters.length) = some 1 := by decide +kernel
theorem dX12_readsSum_0 : decode cX12_readsSum 0 = .ok (.aload_n 0, 1) := by decide +kernel
theorem dX12_readsSum_1 : decode cX12_readsSum 1 = .ok (.getfield 174, 3) := by decide +kernel
theorem dX12_readsSum_4 : decode cX12_readsSum 4 = .ok (.istore_n 1, 1) := by decide +kernel
theorem dX12_readsSum_5 : decode cX12_readsSum 5 = .ok (.aload_n 0, 1) := by decide +kernel
theorem dX12_readsSum_6 : decode cX12_readsSum 6 = .ok (.invokevirtual 194, 3) := by decide +kernel
theorem dX12_readsSum_9 : decode cX12_readsSum 9 = .ok (.ifCond .ne 5, 3) := by decide +kernel
theorem dX12_readsSum_12 : decode cX12_readsSum 12 = .ok (.iconst 0, 1) := by decide +kernel
theorem dX12_readsSum_13 : decode cX12_readsSum 13 = .ok (.ireturn, 1) := by decide +kernel
theorem dX12_readsSum_14 : decode cX12_readsSum 14 = .ok (.aload_n 0, 1) := by decide +kernel
theorem dX12_readsSum_15 : decode cX12_readsSum 15 = .ok (.invokevirtual 150, 3) := by decide +kernel
theorem dX12_readsSum_18 : decode cX12_readsSum 18 = .ok (.invokestatic 197, 3) := by decide +kernel
theorem dX12_readsSum_21 : decode cX12_readsSum 21 = .ok (.istore_n 2, 1) := by decide +kernel
theorem dX12_readsSum_22 : decode cX12_readsSum 22 = .ok (.iload_n 2, 1) := by decide +kernel
theorem dX12_readsSum_23 : decode cX12_readsSum 23 = .ok (.iconst (-1), 1) := by decide +kernel
theorem dX12_readsSum_24 : decode cX12_readsSum 24 = .ok (.if_icmp .eq 59, 3) := by decide +kernel
theorem dX12_readsSum_27 : decode cX12_readsSum 27 = .ok (.aload_n 0, 1) := by decide +kernel
theorem dX12_readsSum_28 : decode cX12_readsSum 28 = .ok (.iload_n 2, 1) := by decide +kernel
theorem dX12_readsSum_29 : decode cX12_readsSum 29 = .ok (.iconst 4, 1) := by decide +kernel
theorem dX12_readsSum_30 : decode cX12_readsSum 30 = .ok (.if_icmp .ge 7, 3) := by decide +kernel
theorem dX12_readsSum_33 : decode cX12_readsSum 33 = .ok (.iconst 1, 1) := by decide +kernel
theorem dX12_readsSum_34 : decode cX12_readsSum 34 = .ok (.goto 4, 3) := by decide +kernel
theorem dX12_readsSum_37 : decode cX12_readsSum 37 = .ok (.iconst 0, 1) := by decide +kernel
theorem dX12_readsSum_38 : decode cX12_readsSum 38 = .ok (.invokevirtual 200, 3) := by decide +kernel
theorem dX12_readsSum_41 : decode cX12_readsSum 41 = .ok (.aload_n 0, 1) := by decide +kernel
theorem dX12_readsSum_42 : decode cX12_readsSum 42 = .ok (.getfield 26, 3) := by decide +kernel
theorem dX12_readsSum_45 : decode cX12_readsSum 45 = .ok (.aload_n 0, 1) := by decide +kernel
theorem dX12_readsSum_46 : decode cX12_readsSum 46 = .ok (.getfield 174, 3) := by decide +kernel
theorem dX12_readsSum_49 : decode cX12_readsSum 49 = .ok (.ldc 170, 2) := by decide +kernel
theorem dX12_readsSum_51 : decode cX12_readsSum 51 = .ok (.iload_n 2, 1) := by decide +kernel
theorem dX12_readsSum_52 : decode cX12_readsSum 52 = .ok (.imul, 1) := by decide +kernel
theorem dX12_readsSum_53 : decode cX12_readsSum 53 = .ok (.iastore, 1) := by decide +kernel
theorem dX12_readsSum_54 : decode cX12_readsSum 54 = .ok (.aload_n 0, 1) := by decide +kernel
theorem dX12_readsSum_55 : decode cX12_readsSum 55 = .ok (.aload_n 0, 1) := by decide +kernel
theorem dX12_readsSum_56 : decode cX12_readsSum 56 = .ok (.getfield 174, 3) := by decide +kernel
theorem dX12_readsSum_59 : decode cX12_readsSum 59 = .ok (.iconst 1, 1) := by decide +kernel
theorem dX12_readsSum_60 : decode cX12_readsSum 60 = .ok (.iadd, 1) := by decide +kernel
theorem dX12_readsSum_61 : decode cX12_readsSum 61 = .ok (.putfield 174, 3) := by decide +kernel
theorem dX12_readsSum_64 : decode cX12_readsSum 64 = .ok (.aload_n 0, 1) := by decide +kernel
theorem dX12_readsSum_65 : decode cX12_readsSum 65 = .ok (.aload_n 0, 1) := by decide +kernel
theorem dX12_readsSum_66 : decode cX12_readsSum 66 = .ok (.getfield 144, 3) := by decide +kernel
theorem dX12_readsSum_69 : decode cX12_readsSum 69 = .ok (.iconst 1, 1) := by decide +kernel
theorem dX12_readsSum_70 : decode cX12_readsSum 70 = .ok (.iadd, 1) := by decide +kernel
theorem dX12_readsSum_71 : decode cX12_readsSum 71 = .ok (.putfield 144, 3) := by decide +kernel
theorem dX12_readsSum_74 : decode cX12_readsSum 74 = .ok (.aload_n 0, 1) := by decide +kernel
theorem dX12_readsSum_75 : decode cX12_readsSum 75 = .ok (.invokevirtual 194, 3) := by decide +kernel
theorem dX12_readsSum_78 : decode cX12_readsSum 78 = .ok (.ifCond .ne 85, 3) := by decide +kernel
theorem dX12_readsSum_81 : decode cX12_readsSum 81 = .ok (.iconst 0, 1) := by decide +kernel
theorem dX12_readsSum_82 : decode cX12_readsSum 82 = .ok (.ireturn, 1) := by decide +kernel
theorem dX12_readsSum_83 : decode cX12_readsSum 83 = .ok (.aload_n 0, 1) := by decide +kernel
theorem dX12_readsSum_84 : decode cX12_readsSum 84 = .ok (.invokevirtual 150, 3) := by decide +kernel
theorem dX12_readsSum_87 : decode cX12_readsSum 87 = .ok (.bipush 93, 2) := by decide +kernel
theorem dX12_readsSum_89 : decode cX12_readsSum 89 = .ok (.if_icmp .ne 49, 3) := by decide +kernel
theorem dX12_readsSum_92 : decode cX12_readsSum 92 = .ok (.aload_n 0, 1) := by decide +kernel
theorem dX12_readsSum_93 : decode cX12_readsSum 93 = .ok (.iload_n 1, 1) := by decide +kernel
theorem dX12_readsSum_94 : decode cX12_readsSum 94 = .ok (.invokevirtual 204, 3) := by decide +kernel
theorem dX12_readsSum_97 : decode cX12_readsSum 97 = .ok (.ifCond .eq 41, 3) := by decide +kernel
theorem dX12_readsSum_100 : decode cX12_readsSum 100 = .ok (.aload_n 0, 1) := by decide +kernel
theorem dX12_readsSum_101 : decode cX12_readsSum 101 = .ok (.iconst 1, 1) := by decide +kernel
theorem dX12_readsSum_102 : decode cX12_readsSum 102 = .ok (.invokevirtual 200, 3) := by decide +kernel
theorem dX12_readsSum_105 : decode cX12_readsSum 105 = .ok (.aload_n 0, 1) := by decide +kernel
theorem dX12_readsSum_106 : decode cX12_readsSum 106 = .ok (.aload_n 0, 1) := by decide +kernel
theorem dX12_readsSum_107 : decode cX12_readsSum 107 = .ok (.getfield 174, 3) := by decide +kernel
theorem dX12_readsSum_110 : decode cX12_readsSum 110 = .ok (.iconst 1, 1) := by decide +kernel
theorem dX12_readsSum_111 : decode cX12_readsSum 111 = .ok (.isub, 1) := by decide +kernel
theorem dX12_readsSum_112 : decode cX12_readsSum 112 = .ok (.putfield 174, 3) := by decide +kernel
theorem dX12_readsSum_115 : decode cX12_readsSum 115 = .ok (.aload_n 0, 1) := by decide +kernel
theorem dX12_readsSum_116 : decode cX12_readsSum 116 = .ok (.aload_n 0, 1) := by decide +kernel
theorem dX12_readsSum_117 : decode cX12_readsSum 117 = .ok (.getfield 171, 3) := by decide +kernel
theorem dX12_readsSum_120 : decode cX12_readsSum 120 = .ok (.iconst 1, 1) := by decide +kernel
theorem dX12_readsSum_121 : decode cX12_readsSum 121 = .ok (.isub, 1) := by decide +kernel
theorem dX12_readsSum_122 : decode cX12_readsSum 122 = .ok (.putfield 171, 3) := by decide +kernel
theorem dX12_readsSum_125 : decode cX12_readsSum 125 = .ok (.aload_n 0, 1) := by decide +kernel
theorem dX12_readsSum_126 : decode cX12_readsSum 126 = .ok (.aload_n 0, 1) := by decide +kernel
theorem dX12_readsSum_127 : decode cX12_readsSum 127 = .ok (.getfield 144, 3) := by decide +kernel
theorem dX12_readsSum_130 : decode cX12_readsSum 130 = .ok (.iconst 1, 1) := by decide +kernel
theorem dX12_readsSum_131 : decode cX12_readsSum 131 = .ok (.iadd, 1) := by decide +kernel
theorem dX12_readsSum_132 : decode cX12_readsSum 132 = .ok (.putfield 144, 3) := by decide +kernel
theorem dX12_readsSum_135 : decode cX12_readsSum 135 = .ok (.goto 28, 3) := by decide +kernel
theorem dX12_readsSum_138 : decode cX12_readsSum 138 = .ok (.aload_n 0, 1) := by decide +kernel
theorem dX12_readsSum_139 : decode cX12_readsSum 139 = .ok (.iload_n 1, 1) := by decide +kernel
theorem dX12_readsSum_140 : decode cX12_readsSum 140 = .ok (.invokevirtual 204, 3) := by decide +kernel
theorem dX12_readsSum_143 : decode cX12_readsSum 143 = .ok (.ifCond .eq 13, 3) := by decide +kernel
theorem dX12_readsSum_146 : decode cX12_readsSum 146 = .ok (.aload_n 0, 1) := by decide +kernel
theorem dX12_readsSum_147 : decode cX12_readsSum 147 = .ok (.iconst 1, 1) := by decide +kernel
theorem dX12_readsSum_148 : decode cX12_readsSum 148 = .ok (.aload_n 0, 1) := by decide +kernel
theorem dX12_readsSum_149 : decode cX12_readsSum 149 = .ok (.getfield 144, 3) := by decide +kernel
theorem dX12_readsSum_152 : decode cX12_readsSum 152 = .ok (.invokevirtual 157, 3) := by decide +kernel
theorem dX12_readsSum_155 : decode cX12_readsSum 155 = .ok (.ireturn, 1) := by decide +kernel
theorem dX12_readsSum_156 : decode cX12_readsSum 156 = .ok (.aload_n 0, 1) := by decide +kernel
theorem dX12_readsSum_157 : decode cX12_readsSum 157 = .ok (.iconst 1, 1) := by decide +kernel
theorem dX12_readsSum_158 : decode cX12_readsSum 158 = .ok (.invokevirtual 200, 3) := by decide +kernel
theorem dX12_readsSum_161 : decode cX12_readsSum 161 = .ok (.iconst 1, 1) := by decide +kernel
theorem dX12_readsSum_162 : decode cX12_readsSum 162 = .ok (.ireturn, 1) := by decide +kernel
theorem dX12_readsSum_163 : decode cX12_readsSum 163 = .ok (.goto (-149), 3) := by decide +kernel
set_option maxRecDepth 100000 in
def f_m_readsSum (V : Nat → Nat → Int) (J : Nat → Nat → Int) (Rr : Nat → Nat → Nat) : (Int × (Nat → Nat → Int)) → Prop :=
  rdb (V 0 5) fun z1 => fct (0 ≤ z1 ∧ z1 ≤ 220) <| rdb (V 0 6) fun z2 => fct (0 ≤ z2 ∧ z2 ≤ 220) <| rdb (V 0 10) fun z3 => fct (0 ≤ z3 ∧ z3 ≤ 220) <| rdb (V 0 11) fun z4 => fct (0 ≤ z4 ∧ z4 ≤ 220) <| calVM 1770887431076116959136 V (f_m_readsFactor V J Rr) fun z5 V5 => fct (0 ≤ z5 ∧ z5 ≤ 1) <| (if ¬ z5 = 0 then lop1 ((V5 0 6 - V5 0 5).toNat + 1) (fun rc134 (V134 : Nat → Nat → Int) => rdb (V134 0 5) fun z135 => fct (0 ≤ z135 ∧ z135 ≤ 220) <| rdb (V134 0 6) fun z136 => fct (0 ≤ z136 ∧ z136 ≤ 220) <| rdb (V134 0 10) fun z137 => fct (0 ≤ z137 ∧ z137 ≤ 220) <| rdb (V134 0 11) fun z138 => fct (0 ≤ z138 ∧ z138 ≤ 220) <| calR (f_m_here V134 J Rr) fun z139 => fct (-1 ≤ z139 ∧ z139 ≤ 255) <| calR (f_m_sumSign z139) fun z140 => fct (-1 ≤ z140 ∧ z140 ≤ 6) <| (if z140 = (-1) then calR (f_m_here V134 J Rr) fun z142 => fct (-1 ≤ z142 ∧ z142 ≤ 255) <| (if ¬ z142 = 93 then calR (f_m_hasOpenSum z4 V134 J Rr) fun z144 => fct (0 ≤ z144 ∧ z144 ≤ 1) <| (if z144 = 0 then calUM 590295810358705654784 V134 (f_m_closesSums 1 V134 J Rr) fun V148 => rtn (1, V148) else calVM 128 V134 (f_m_wrongAt 1 z135 V134 J Rr) fun z150 V150 => fct (0 ≤ z150 ∧ z150 ≤ 0) <| rtn (z150, V150)) else calR (f_m_hasOpenSum z4 V134 J Rr) fun z151 => fct (0 ≤ z151 ∧ z151 ≤ 1) <| (if z151 = 0 then calR (f_m_hasOpenSum z4 V134 J Rr) fun z153 => fct (0 ≤ z153 ∧ z153 ≤ 1) <| (if z153 = 0 then calUM 590295810358705654784 V134 (f_m_closesSums 1 V134 J Rr) fun V157 => rtn (1, V157) else calVM 128 V134 (f_m_wrongAt 1 z135 V134 J Rr) fun z159 V159 => fct (0 ≤ z159 ∧ z159 ≤ 0) <| rtn (z159, V159)) else calUM 590295810358705654784 V134 (f_m_closesSums 1 V134 J Rr) fun V162 => rdb (V162 0 5) fun z163 => fct (0 ≤ z163 ∧ z163 ≤ 220) <| rdb (V162 0 6) fun z164 => fct (0 ≤ z164 ∧ z164 ≤ 220) <| rdb (V162 0 10) fun z165 => fct (0 ≤ z165 ∧ z165 ≤ 220) <| rdb (V162 0 11) fun z166 => fct (0 ≤ z166 ∧ z166 ≤ 220) <| rdb (up2 V162 0 11 (z166 - 1)) fun V168 => rdb (V168 0 9) fun z169 => rdb (wr (z169 - 1)) fun z170 => rdb (up2 V168 0 9 z170) fun V171 => rdb (up2 V171 0 5 (z163 + 1)) fun V172 => rc134 V172)) else (if 4 ≤ z140 then calUM 590295810358705654784 V134 (f_m_closesSums 0 V134 J Rr) fun V174 => rdb (V174 0 5) fun z175 => fct (0 ≤ z175 ∧ z175 ≤ 220) <| rdb (V174 0 6) fun z176 => fct (0 ≤ z176 ∧ z176 ≤ 220) <| rdb (V174 0 10) fun z177 => fct (0 ≤ z177 ∧ z177 ≤ 220) <| rdb (V174 0 11) fun z178 => fct (0 ≤ z178 ∧ z178 ≤ 220) <| rdb (up2 V174 6 z178.toNat (1048576 * z140)) fun V179 => rdb (up2 V179 0 11 (z178 + 1)) fun V180 => rdb (up2 V180 0 5 (z175 + 1)) fun V181 => calVM 1770887431076116959136 V181 (f_m_readsFactor V181 J Rr) fun z183 V183 => fct (0 ≤ z183 ∧ z183 ≤ 1) <| (if ¬ z183 = 0 then rc134 V183 else rtn (0, V183)) else calUM 590295810358705654784 V134 (f_m_closesSums 1 V134 J Rr) fun V186 => rdb (V186 0 5) fun z187 => fct (0 ≤ z187 ∧ z187 ≤ 220) <| rdb (V186 0 6) fun z188 => fct (0 ≤ z188 ∧ z188 ≤ 220) <| rdb (V186 0 10) fun z189 => fct (0 ≤ z189 ∧ z189 ≤ 220) <| rdb (V186 0 11) fun z190 => fct (0 ≤ z190 ∧ z190 ≤ 220) <| rdb (up2 V186 6 z190.toNat (1048576 * z140)) fun V191 => rdb (up2 V191 0 11 (z190 + 1)) fun V192 => rdb (up2 V192 0 5 (z187 + 1)) fun V193 => calVM 1770887431076116959136 V193 (f_m_readsFactor V193 J Rr) fun z195 V195 => fct (0 ≤ z195 ∧ z195 ≤ 1) <| (if ¬ z195 = 0 then rc134 V195 else rtn (0, V195))))) V5 else rtn (0, V5))
set_option maxHeartbeats 8000000 in
set_option maxRecDepth 100000 in
theorem m_readsSum (l : Launch) (D : va_G) (cy : Nat → ClassId) (ad : Nat → Nat) (G : Nat → Nat → Int) (V J : Nat → Nat → Int) (Rr : Nat → Nat → Nat) (hI : MI G V) (hJ : VJ J) (hR : MR Rr) (hP : PG V) (hc : V 0 10 ≤ V 0 5) (ht : V 0 11 = 0 ∨ ¬ pio (V 6 (V 0 11 - 1).toNat)) : xMi l D (xTY cy) yX12_readsSum cX12_readsSum 3 (some .boolean) 4 82 0 0 [.ref (ad 0)] (MW cy ad V J Rr) (fun u : Nat → Nat → Int => MW cy ad u J Rr) (fun a (u : Nat → Nat → Int) => MI G u ∧ (0 ≤ a ∧ a ≤ 1) ∧ Sp a (pSum V u) ∧ FBm 1770887431076116959136 V u ∧ (f_m_readsSum V J Rr) (a, u)) := by
  refine xMi.mk (lv0 := [(0, .ref (ad 0))]) (by decide) rfl (Nat.le_of_ble_eq_true rfl) (fun p e s m below meth c A C hr hnm hAe => ?_)
  have C : xC2 p s m _ meth c D A s.heap 3 cX12_readsSum RX12 (xTY cy) := C
  have hB : FBm 1770887431076116959136 V V := FBm.rf _ _
  have hF := Imp.of_eq (f_m_readsSum.eq_def V J Rr)
  obtain ⟨z1, ez1, bz1⟩ := hI.rd 0 5 (x := 0) (y := 220) rfl
  replace hF := hF.to (rdb_e (z := z1) ez1)
  replace hF := hF.fc bz1
  obtain ⟨z2, ez2, bz2⟩ := hI.rd 0 6 (x := 0) (y := 220) rfl
  replace hF := hF.to (rdb_e (z := z2) ez2)
  replace hF := hF.fc bz2
  obtain ⟨z3, ez3, bz3⟩ := hI.rd 0 10 (x := 0) (y := 220) rfl
  replace hF := hF.to (rdb_e (z := z3) ez3)
  replace hF := hF.fc bz3
  obtain ⟨z4, ez4, bz4⟩ := hI.rd 0 11 (x := 0) (y := 220) rfl
  replace hF := hF.to (rdb_e (z := z4) ez4)
  replace hF := hF.fc bz4
  have hc3 := (SI.start hP hc).c200 hP
  rw [ez1, ez3, ez4] at hc3
  have hpz3 := hP
  unfold PG at hpz3
  rw [ez1, ez2, ez3, ez4] at hpz3
  refine x_aload_n C.1 dX12_readsSum_0 0 rfl ?_
  refine x_getI C (N := 33) (i := 0) (by decide) rfl vc_X12 wx_X12 11 (by decide) wf_X12_174 rfl dX12_readsSum_1 (a := z4) ez4 ?_
  refine x_istore_n C.1 (lv' := [(1, vI z4), (0, .ref (ad 0))]) dX12_readsSum_4 (by decide) rfl ?_
  refine x_aload_n C.1 dX12_readsSum_5 1 rfl ?_
  refine x_callVi C (As := []) (rest := []) 0 (xw_at (N := 33) (i := 0) (by decide) rfl) vc_X12 (m_readsFactor l D cy ad G V J Rr hI hJ hR (V 0 11) (V 0 10) (V 0 5 - V 0 10) (SI.start hP hc) hP) (l1 := []) (l2 := []) (List.append_nil _).symm (w2 := fun u : Nat → Nat → Int => MW cy ad u J Rr) (fun _ => List.append_nil _) rfl wm_yX12_readsFactor wn_X12 wl_X12_194 wi_yX12_readsFactor we_yX12_readsFactor hd_yX12_readsFactor rfl ⟨Nat.le_of_ble_eq_true rfl, Nat.le_of_ble_eq_true rfl⟩ (Nat.le_of_ble_eq_true rfl) ⟨Nat.le_of_ble_eq_true rfl, Nat.le_of_ble_eq_true rfl⟩ dX12_readsSum_6 (fun z5 V5 bz5 h5 => ?_)
  obtain ⟨hI5, bq5, hx5_0, hBc5, hFc5⟩ := h5
  replace hF := calVM_i hF hFc5 hBc5
  replace hF := hF.fc bq5
  have hB5 := hB.tr hBc5 (m := 1770887431076116959136) rfl
  refine x_if_ne C.1 (tgt := 14) dX12_readsSum_9 (by decide) (by omega) (fun hc6 => ?_) (fun hc6 => ?_)
  · replace hF := hF.to (if_pos hc6)
    have hon7 := Sp.on hx5_0 (by omega)
    obtain ⟨bd134, hbd134, hF⟩ := lop1_ex hF
    refine x_loop (I := fun V134 : (Nat → Nat → Int) => MI G V134 ∧ FBm 1770887431076116959136 V V134 ∧ SI (V 0 11) (V 0 10) (V 0 5 - V 0 10) 1 V134 ∧ PG V134 ∧ FrS (V 0 11) (V 0 10) V V134 ∧ V 0 5 < V134 0 5 ∧ (∃ nf : Nat, (V134 0 6 - V134 0 5).toNat < nf ∧ Imp (lop1 nf bd134 V134) (f_m_readsSum V J Rr))) (μ := fun V134 : (Nat → Nat → Int) => (V134 0 6 - V134 0 5).toNat) (wsf := fun V134 : (Nat → Nat → Int) => MW cy ad V134 J Rr) (lvf := fun V134 : (Nat → Nat → Int) => [(1, vI z4), (0, .ref (ad 0))]) (fun V134 hI134x ih134 => ?_) V5 ⟨hI5, hB5, hon7.1, hon7.2.1, hon7.2.2.1, hon7.2.2.2, ⟨_, (Nat.lt_succ_self _), hF⟩⟩ rfl rfl
    obtain ⟨hI134, hB134, hs, hp, hf, hlt, nf134, hn134, hF⟩ := hI134x
    try dsimp only
    obtain ⟨nf134, rfl⟩ : ∃ mm, nf134 = mm + 1 := ⟨nf134 - 1, (Nat.succ_pred_eq_of_pos (Nat.lt_of_le_of_lt (Nat.zero_le _) hn134)).symm⟩
    replace hF := hF.to (lop1_s hbd134)
    obtain ⟨z135, ez135, bz135⟩ := hI134.rd 0 5 (x := 0) (y := 220) rfl
    replace hF := hF.to (rdb_e (z := z135) ez135)
    replace hF := hF.fc bz135
    obtain ⟨z136, ez136, bz136⟩ := hI134.rd 0 6 (x := 0) (y := 220) rfl
    replace hF := hF.to (rdb_e (z := z136) ez136)
    replace hF := hF.fc bz136
    obtain ⟨z137, ez137, bz137⟩ := hI134.rd 0 10 (x := 0) (y := 220) rfl
    replace hF := hF.to (rdb_e (z := z137) ez137)
    replace hF := hF.fc bz137
    obtain ⟨z138, ez138, bz138⟩ := hI134.rd 0 11 (x := 0) (y := 220) rfl
    replace hF := hF.to (rdb_e (z := z138) ez138)
    replace hF := hF.fc bz138
    have hc2 := hs.c200 hp
    rw [ez135, ez137, ez138] at hc2
    have hpz := hp
    unfold PG at hpz
    rw [ez135, ez136, ez137, ez138] at hpz
    refine x_aload_n C.1 dX12_readsSum_14 1 rfl ?_
    refine x_callVi C (As := []) (rest := []) 0 (xw_at (N := 33) (i := 0) (by decide) rfl) vc_X12 (m_here l D cy ad G V134 J Rr hI134 hJ hR ) (l1 := []) (l2 := []) (List.append_nil _).symm (w2 := fun _ => MW cy ad V134 J Rr) (fun _ => List.append_nil _) rfl wm_yX12_here wn_X12 wl_X12_150 wi_yX12_here we_yX12_here hd_yX12_here rfl ⟨Nat.le_of_ble_eq_true rfl, Nat.le_of_ble_eq_true rfl⟩ (Nat.le_of_ble_eq_true rfl) ⟨Nat.le_of_ble_eq_true rfl, Nat.le_of_ble_eq_true rfl⟩ dX12_readsSum_15 (fun z139 u139 bz139 h139 => ?_)
    obtain ⟨bq139, hx139_0, hx139_1, hFc139⟩ := h139
    replace hF := calR_i hF hFc139
    replace hF := hF.fc bq139
    rw [ez135, ez136] at hx139_0
    refine x_callSi C (As := [vI z139]) (rest := []) (m_sumSign l D cy z139 ⟨by omega, by omega⟩) (l1 := []) (l2 := _) rfl (w2 := fun _ => _) (fun _ => rfl) rfl wm_yX12_sumSign wn_X12 wl_X12_197 wi_yX12_sumSign hd_yX12_sumSign rfl ⟨Nat.le_of_ble_eq_true rfl, Nat.le_of_ble_eq_true rfl⟩ (Nat.le_of_ble_eq_true rfl) ⟨Nat.le_of_ble_eq_true rfl, Nat.le_of_ble_eq_true rfl⟩ dX12_readsSum_18 (fun z140 u140 bz140 h140 => ?_)
    obtain ⟨bq140, hx140_0, hFc140⟩ := h140
    replace hF := calR_i hF hFc140
    replace hF := hF.fc bq140
    refine x_istore_n C.1 (lv' := [(2, vI z140), (1, vI z4), (0, .ref (ad 0))]) dX12_readsSum_21 (by decide) rfl ?_
    refine x_iload_n C.1 dX12_readsSum_22 0 rfl ?_
    refine x_iconst C.1 (n := -1) dX12_readsSum_23 ?_
    refine x_icmp_eq C.1 (tgt := 83) dX12_readsSum_24 (by decide) (by omega) (by decide) (fun hc141 => ?_) (fun hc141 => ?_)
    · replace hF := hF.to (if_pos hc141)
      refine x_aload_n C.1 dX12_readsSum_83 2 rfl ?_
      refine x_callVi C (As := []) (rest := []) 0 (xw_at (N := 33) (i := 0) (by decide) rfl) vc_X12 (m_here l D cy ad G V134 J Rr hI134 hJ hR ) (l1 := []) (l2 := []) (List.append_nil _).symm (w2 := fun _ => MW cy ad V134 J Rr) (fun _ => List.append_nil _) rfl wm_yX12_here wn_X12 wl_X12_150 wi_yX12_here we_yX12_here hd_yX12_here rfl ⟨Nat.le_of_ble_eq_true rfl, Nat.le_of_ble_eq_true rfl⟩ (Nat.le_of_ble_eq_true rfl) ⟨Nat.le_of_ble_eq_true rfl, Nat.le_of_ble_eq_true rfl⟩ dX12_readsSum_84 (fun z142 u142 bz142 h142 => ?_)
      obtain ⟨bq142, hx142_0, hx142_1, hFc142⟩ := h142
      replace hF := calR_i hF hFc142
      replace hF := hF.fc bq142
      rw [ez135, ez136] at hx142_0
      refine x_bipush C.1 (n := 93) dX12_readsSum_87 ?_
      refine x_icmp_ne C.1 (tgt := 138) dX12_readsSum_89 (by decide) (by omega) (by decide) (fun hc143 => ?_) (fun hc143 => ?_)
      · replace hF := hF.to (if_pos hc143)
        refine x_aload_n C.1 dX12_readsSum_138 2 rfl ?_
        refine x_iload_n C.1 dX12_readsSum_139 1 rfl ?_
        refine x_callVi C (As := [vI z4]) (rest := []) 0 (xw_at (N := 33) (i := 0) (by decide) rfl) vc_X12 (m_hasOpenSum l D cy ad G V134 J Rr hI134 hJ hR z4 ⟨by omega, by omega⟩) (l1 := []) (l2 := []) (List.append_nil _).symm (w2 := fun _ => MW cy ad V134 J Rr) (fun _ => List.append_nil _) rfl wm_yX12_hasOpenSum wn_X12 wl_X12_204 wi_yX12_hasOpenSum we_yX12_hasOpenSum hd_yX12_hasOpenSum rfl ⟨Nat.le_of_ble_eq_true rfl, Nat.le_of_ble_eq_true rfl⟩ (Nat.le_of_ble_eq_true rfl) ⟨Nat.le_of_ble_eq_true rfl, Nat.le_of_ble_eq_true rfl⟩ dX12_readsSum_140 (fun z144 u144 bz144 h144 => ?_)
        obtain ⟨bq144, hx144_0, hFc144⟩ := h144
        replace hF := calR_i hF hFc144
        replace hF := hF.fc bq144
        refine x_if_eq C.1 (tgt := 156) dX12_readsSum_143 (by decide) (by omega) (fun hc145 => ?_) (fun hc145 => ?_)
        · replace hF := hF.to (if_pos hc145)
          have hofh146 := Sq.off hx144_0 (by omega)
          have hno147 : ¬ ∃ j : Nat, V 0 11 ≤ (j : Int) ∧ (j : Int) < V134 0 11 ∧ pdv (V134 6 j) = 14 := by rw [ez4]; exact hofh146
          refine x_aload_n C.1 dX12_readsSum_156 2 rfl ?_
          refine x_iconst C.1 (n := 1) dX12_readsSum_157 ?_
          refine x_callVv C (As := [vI 1]) (rest := []) 0 (xw_at (N := 33) (i := 0) (by decide) rfl) vc_X12 (m_closesSums l D cy ad G V134 J Rr hI134 hJ hR 1 ⟨by decide, by decide⟩ (V 0 11) (V 0 10) (V 0 5 - V 0 10) hs (hf.tio ht hP.2.2.2.1) hp) (l1 := []) (l2 := []) (List.append_nil _).symm (w2 := fun u : Nat → Nat → Int => MW cy ad u J Rr) (fun _ => List.append_nil _) rfl wm_yX12_closesSums wn_X12 wl_X12_200 wi_yX12_closesSums we_yX12_closesSums hd_yX12_closesSums rfl ⟨Nat.le_of_ble_eq_true rfl, Nat.le_of_ble_eq_true rfl⟩ (Nat.le_of_ble_eq_true rfl) ⟨Nat.le_of_ble_eq_true rfl, Nat.le_of_ble_eq_true rfl⟩ dX12_readsSum_158 (fun V148 h148 => ?_)
          obtain ⟨hI148, hx148_0, hx148_1, hBc148, hFc148⟩ := h148
          replace hF := calUM_i hF hFc148 hBc148
          have hB148 := hB134.tr hBc148 (m := 590295810358705654784) rfl
          refine x_iconst C.1 (n := 1) dX12_readsSum_161 ?_
          exact x_zret (S := (Nat → Nat → Int)) (post := (fun a (u : Nat → Nat → Int) => MI G u ∧ (0 ≤ a ∧ a ≤ 1) ∧ Sp a (pSum V u) ∧ FBm 1770887431076116959136 V u ∧ (f_m_readsSum V J Rr) (a, u))) (w1 := (fun u : Nat → Nat → Int => MW cy ad u J Rr)) (a := 1) C hr rfl dX12_readsSum_162 (by decide) V148 rfl ⟨hI148, ⟨by decide, by decide⟩, (Or.inr ⟨rfl, pSum.mk hf hlt hx148_0 (hx148_1 rfl) hno147⟩), hB148, hF _ rfl⟩
        · replace hF := hF.to (if_neg hc145)
          have hon149 := Sq.on hx144_0 (by omega)
          refine x_aload_n C.1 dX12_readsSum_146 2 rfl ?_
          refine x_iconst C.1 (n := 1) dX12_readsSum_147 ?_
          refine x_aload_n C.1 dX12_readsSum_148 2 rfl ?_
          refine x_getI C (N := 33) (i := 0) (by decide) rfl vc_X12 wx_X12 5 (by decide) wf_X12_144 rfl dX12_readsSum_149 (a := z135) ez135 ?_
          refine x_callVi C (As := [vI 1, vI z135]) (rest := []) 0 (xw_at (N := 33) (i := 0) (by decide) rfl) vc_X12 (m_wrongAt l D cy ad G V134 J Rr hI134 hJ hR 1 ⟨by decide, by decide⟩ z135 ⟨by omega, by omega⟩) (l1 := []) (l2 := []) (List.append_nil _).symm (w2 := fun u : Nat → Nat → Int => MW cy ad u J Rr) (fun _ => List.append_nil _) rfl wm_yX12_wrongAt wn_X12 wl_X12_157 wi_yX12_wrongAt we_yX12_wrongAt hd_yX12_wrongAt rfl ⟨Nat.le_of_ble_eq_true rfl, Nat.le_of_ble_eq_true rfl⟩ (Nat.le_of_ble_eq_true rfl) ⟨Nat.le_of_ble_eq_true rfl, Nat.le_of_ble_eq_true rfl⟩ dX12_readsSum_152 (fun z150 V150 bz150 h150 => ?_)
          obtain ⟨hI150, bq150, hx150_0, hBc150, hFc150⟩ := h150
          replace hF := calVM_i hF hFc150 hBc150
          replace hF := hF.fc bq150
          have hB150 := hB134.tr hBc150 (m := 128) rfl
          exact x_zret (S := (Nat → Nat → Int)) (post := (fun a (u : Nat → Nat → Int) => MI G u ∧ (0 ≤ a ∧ a ≤ 1) ∧ Sp a (pSum V u) ∧ FBm 1770887431076116959136 V u ∧ (f_m_readsSum V J Rr) (a, u))) (w1 := (fun u : Nat → Nat → Int => MW cy ad u J Rr)) (a := z150) C hr rfl dX12_readsSum_155 (by omega) V150 rfl ⟨hI150, ⟨by omega, by omega⟩, (Or.inl (by omega)), hB150, hF _ rfl⟩
      · replace hF := hF.to (if_neg (fun hh => hh hc143))
        refine x_aload_n C.1 dX12_readsSum_92 2 rfl ?_
        refine x_iload_n C.1 dX12_readsSum_93 1 rfl ?_
        refine x_callVi C (As := [vI z4]) (rest := []) 0 (xw_at (N := 33) (i := 0) (by decide) rfl) vc_X12 (m_hasOpenSum l D cy ad G V134 J Rr hI134 hJ hR z4 ⟨by omega, by omega⟩) (l1 := []) (l2 := []) (List.append_nil _).symm (w2 := fun _ => MW cy ad V134 J Rr) (fun _ => List.append_nil _) rfl wm_yX12_hasOpenSum wn_X12 wl_X12_204 wi_yX12_hasOpenSum we_yX12_hasOpenSum hd_yX12_hasOpenSum rfl ⟨Nat.le_of_ble_eq_true rfl, Nat.le_of_ble_eq_true rfl⟩ (Nat.le_of_ble_eq_true rfl) ⟨Nat.le_of_ble_eq_true rfl, Nat.le_of_ble_eq_true rfl⟩ dX12_readsSum_94 (fun z151 u151 bz151 h151 => ?_)
        obtain ⟨bq151, hx151_0, hFc151⟩ := h151
        replace hF := calR_i hF hFc151
        replace hF := hF.fc bq151
        refine x_if_eq C.1 (tgt := 138) dX12_readsSum_97 (by decide) (by omega) (fun hc152 => ?_) (fun hc152 => ?_)
        · replace hF := hF.to (if_pos hc152)
          refine x_aload_n C.1 dX12_readsSum_138 2 rfl ?_
          refine x_iload_n C.1 dX12_readsSum_139 1 rfl ?_
          refine x_callVi C (As := [vI z4]) (rest := []) 0 (xw_at (N := 33) (i := 0) (by decide) rfl) vc_X12 (m_hasOpenSum l D cy ad G V134 J Rr hI134 hJ hR z4 ⟨by omega, by omega⟩) (l1 := []) (l2 := []) (List.append_nil _).symm (w2 := fun _ => MW cy ad V134 J Rr) (fun _ => List.append_nil _) rfl wm_yX12_hasOpenSum wn_X12 wl_X12_204 wi_yX12_hasOpenSum we_yX12_hasOpenSum hd_yX12_hasOpenSum rfl ⟨Nat.le_of_ble_eq_true rfl, Nat.le_of_ble_eq_true rfl⟩ (Nat.le_of_ble_eq_true rfl) ⟨Nat.le_of_ble_eq_true rfl, Nat.le_of_ble_eq_true rfl⟩ dX12_readsSum_140 (fun z153 u153 bz153 h153 => ?_)
          obtain ⟨bq153, hx153_0, hFc153⟩ := h153
          replace hF := calR_i hF hFc153
          replace hF := hF.fc bq153
          refine x_if_eq C.1 (tgt := 156) dX12_readsSum_143 (by decide) (by omega) (fun hc154 => ?_) (fun hc154 => ?_)
          · replace hF := hF.to (if_pos hc154)
            have hofh155 := Sq.off hx153_0 (by omega)
            have hno156 : ¬ ∃ j : Nat, V 0 11 ≤ (j : Int) ∧ (j : Int) < V134 0 11 ∧ pdv (V134 6 j) = 14 := by rw [ez4]; exact hofh155
            refine x_aload_n C.1 dX12_readsSum_156 2 rfl ?_
            refine x_iconst C.1 (n := 1) dX12_readsSum_157 ?_
            refine x_callVv C (As := [vI 1]) (rest := []) 0 (xw_at (N := 33) (i := 0) (by decide) rfl) vc_X12 (m_closesSums l D cy ad G V134 J Rr hI134 hJ hR 1 ⟨by decide, by decide⟩ (V 0 11) (V 0 10) (V 0 5 - V 0 10) hs (hf.tio ht hP.2.2.2.1) hp) (l1 := []) (l2 := []) (List.append_nil _).symm (w2 := fun u : Nat → Nat → Int => MW cy ad u J Rr) (fun _ => List.append_nil _) rfl wm_yX12_closesSums wn_X12 wl_X12_200 wi_yX12_closesSums we_yX12_closesSums hd_yX12_closesSums rfl ⟨Nat.le_of_ble_eq_true rfl, Nat.le_of_ble_eq_true rfl⟩ (Nat.le_of_ble_eq_true rfl) ⟨Nat.le_of_ble_eq_true rfl, Nat.le_of_ble_eq_true rfl⟩ dX12_readsSum_158 (fun V157 h157 => ?_)
            obtain ⟨hI157, hx157_0, hx157_1, hBc157, hFc157⟩ := h157
            replace hF := calUM_i hF hFc157 hBc157
            have hB157 := hB134.tr hBc157 (m := 590295810358705654784) rfl
            refine x_iconst C.1 (n := 1) dX12_readsSum_161 ?_
            exact x_zret (S := (Nat → Nat → Int)) (post := (fun a (u : Nat → Nat → Int) => MI G u ∧ (0 ≤ a ∧ a ≤ 1) ∧ Sp a (pSum V u) ∧ FBm 1770887431076116959136 V u ∧ (f_m_readsSum V J Rr) (a, u))) (w1 := (fun u : Nat → Nat → Int => MW cy ad u J Rr)) (a := 1) C hr rfl dX12_readsSum_162 (by decide) V157 rfl ⟨hI157, ⟨by decide, by decide⟩, (Or.inr ⟨rfl, pSum.mk hf hlt hx157_0 (hx157_1 rfl) hno156⟩), hB157, hF _ rfl⟩
          · replace hF := hF.to (if_neg hc154)
            have hon158 := Sq.on hx153_0 (by omega)
            refine x_aload_n C.1 dX12_readsSum_146 2 rfl ?_
            refine x_iconst C.1 (n := 1) dX12_readsSum_147 ?_
            refine x_aload_n C.1 dX12_readsSum_148 2 rfl ?_
            refine x_getI C (N := 33) (i := 0) (by decide) rfl vc_X12 wx_X12 5 (by decide) wf_X12_144 rfl dX12_readsSum_149 (a := z135) ez135 ?_
            refine x_callVi C (As := [vI 1, vI z135]) (rest := []) 0 (xw_at (N := 33) (i := 0) (by decide) rfl) vc_X12 (m_wrongAt l D cy ad G V134 J Rr hI134 hJ hR 1 ⟨by decide, by decide⟩ z135 ⟨by omega, by omega⟩) (l1 := []) (l2 := []) (List.append_nil _).symm (w2 := fun u : Nat → Nat → Int => MW cy ad u J Rr) (fun _ => List.append_nil _) rfl wm_yX12_wrongAt wn_X12 wl_X12_157 wi_yX12_wrongAt we_yX12_wrongAt hd_yX12_wrongAt rfl ⟨Nat.le_of_ble_eq_true rfl, Nat.le_of_ble_eq_true rfl⟩ (Nat.le_of_ble_eq_true rfl) ⟨Nat.le_of_ble_eq_true rfl, Nat.le_of_ble_eq_true rfl⟩ dX12_readsSum_152 (fun z159 V159 bz159 h159 => ?_)
            obtain ⟨hI159, bq159, hx159_0, hBc159, hFc159⟩ := h159
            replace hF := calVM_i hF hFc159 hBc159
            replace hF := hF.fc bq159
            have hB159 := hB134.tr hBc159 (m := 128) rfl
            exact x_zret (S := (Nat → Nat → Int)) (post := (fun a (u : Nat → Nat → Int) => MI G u ∧ (0 ≤ a ∧ a ≤ 1) ∧ Sp a (pSum V u) ∧ FBm 1770887431076116959136 V u ∧ (f_m_readsSum V J Rr) (a, u))) (w1 := (fun u : Nat → Nat → Int => MW cy ad u J Rr)) (a := z159) C hr rfl dX12_readsSum_155 (by omega) V159 rfl ⟨hI159, ⟨by omega, by omega⟩, (Or.inl (by omega)), hB159, hF _ rfl⟩
        · replace hF := hF.to (if_neg hc152)
          have hon160 := Sq.on hx151_0 (by omega)
          have hhs161 : ∃ j : Nat, V 0 11 ≤ (j : Int) ∧ (j : Int) < V134 0 11 ∧ pdv (V134 6 j) = 14 := by rw [ez4]; exact hon160
          refine x_aload_n C.1 dX12_readsSum_100 2 rfl ?_
          refine x_iconst C.1 (n := 1) dX12_readsSum_101 ?_
          refine x_callVv C (As := [vI 1]) (rest := []) 0 (xw_at (N := 33) (i := 0) (by decide) rfl) vc_X12 (m_closesSums l D cy ad G V134 J Rr hI134 hJ hR 1 ⟨by decide, by decide⟩ (V 0 11) (V 0 10) (V 0 5 - V 0 10) hs (hf.tio ht hP.2.2.2.1) hp) (l1 := []) (l2 := []) (List.append_nil _).symm (w2 := fun u : Nat → Nat → Int => MW cy ad u J Rr) (fun _ => List.append_nil _) rfl wm_yX12_closesSums wn_X12 wl_X12_200 wi_yX12_closesSums we_yX12_closesSums hd_yX12_closesSums rfl ⟨Nat.le_of_ble_eq_true rfl, Nat.le_of_ble_eq_true rfl⟩ (Nat.le_of_ble_eq_true rfl) ⟨Nat.le_of_ble_eq_true rfl, Nat.le_of_ble_eq_true rfl⟩ dX12_readsSum_102 (fun V162 h162 => ?_)
          obtain ⟨hI162, hx162_0, hx162_1, hBc162, hFc162⟩ := h162
          replace hF := calUM_i hF hFc162 hBc162
          have hB162 := hB134.tr hBc162 (m := 590295810358705654784) rfl
          obtain ⟨z163, ez163, bz163⟩ := hI162.rd 0 5 (x := 0) (y := 220) rfl
          replace hF := hF.to (rdb_e (z := z163) ez163)
          replace hF := hF.fc bz163
          obtain ⟨z164, ez164, bz164⟩ := hI162.rd 0 6 (x := 0) (y := 220) rfl
          replace hF := hF.to (rdb_e (z := z164) ez164)
          replace hF := hF.fc bz164
          obtain ⟨z165, ez165, bz165⟩ := hI162.rd 0 10 (x := 0) (y := 220) rfl
          replace hF := hF.to (rdb_e (z := z165) ez165)
          replace hF := hF.fc bz165
          obtain ⟨z166, ez166, bz166⟩ := hI162.rd 0 11 (x := 0) (y := 220) rfl
          replace hF := hF.to (rdb_e (z := z166) ez166)
          replace hF := hF.fc bz166
          have hc2162 := hx162_0.1.c200 hx162_0.2.1
          rw [ez163, ez165, ez166] at hc2162
          have hpz162 := hx162_0.2.1
          unfold PG at hpz162
          rw [ez163, ez164, ez165, ez166] at hpz162
          have e5162 : z163 = z135 := by rw [← ez163, ← ez135]; exact hx162_0.2.2.2.2.1
          have e6162 : z164 = z136 := by rw [← ez164, ← ez136]; exact hx162_0.2.2.2.1.2.2.1
          have hg167 := hx162_0.has (hx162_1 rfl) hhs161
          have hgt167 := hg167.1
          rw [ez4, ez166] at hgt167
          refine x_aload_n C.1 dX12_readsSum_105 2 rfl ?_
          refine x_aload_n C.1 dX12_readsSum_106 2 rfl ?_
          refine x_getI C (N := 33) (i := 0) (by decide) rfl vc_X12 wx_X12 11 (by decide) wf_X12_174 rfl dX12_readsSum_107 (a := z166) ez166 ?_
          refine x_iconst C.1 (n := 1) dX12_readsSum_110 ?_
          refine x_isub C.1 (v := z166 - 1) (by omega) dX12_readsSum_111 ?_
          refine x_putI C (N := 33) (i := 0) (by decide) rfl vc_X12 wx_X12 11 (by decide) wf_X12_174 tyX12 tyX12_ok nmX12 rfl (tyX12_ok 11 (by decide)) rfl dX12_readsSum_112 rfl rfl ?_
          refine x_gV ?_
          intro V168 hV168
          have hI168 : MI G V168 := hI162.up hV168 rfl (by omega) rfl (Or.inl (by decide))
          have hB168 := hB162.up hV168 rfl
          replace hF := hF.to (rdb_e (z := V168) hV168.symm)
          refine x_aload_n C.1 dX12_readsSum_115 2 rfl ?_
          refine x_aload_n C.1 dX12_readsSum_116 2 rfl ?_
          obtain ⟨z169, ez169, bz169⟩ := hI168.rd 0 9 (x := -2147483648) (y := 2147483647) rfl
          replace hF := hF.to (rdb_e (z := z169) ez169)
          refine x_getI C (N := 33) (i := 0) (by decide) rfl vc_X12 wx_X12 9 (by decide) wf_X12_171 rfl dX12_readsSum_117 (a := z169) ez169 ?_
          refine x_iconst C.1 (n := 1) dX12_readsSum_120 ?_
          refine x_isub C.1 (v := z169 - 1) (by omega) dX12_readsSum_121 ?_
          refine x_wrapg ?_
          intro z170 bz170 ew170
          replace hF := hF.to (rdb_e (z := z170) ew170.symm)
          refine x_putI C (N := 33) (i := 0) (by decide) rfl vc_X12 wx_X12 9 (by decide) wf_X12_171 tyX12 tyX12_ok nmX12 rfl (tyX12_ok 9 (by decide)) rfl dX12_readsSum_122 rfl rfl ?_
          refine x_gV ?_
          intro V171 hV171
          have hI171 : MI G V171 := hI168.up hV171 rfl (by omega) rfl (Or.inl (by decide))
          have hB171 := hB168.up hV171 rfl
          replace hF := hF.to (rdb_e (z := V171) hV171.symm)
          refine x_aload_n C.1 dX12_readsSum_125 2 rfl ?_
          refine x_aload_n C.1 dX12_readsSum_126 2 rfl ?_
          refine x_getI C (N := 33) (i := 0) (by decide) rfl vc_X12 wx_X12 5 (by decide) wf_X12_144 rfl dX12_readsSum_127 (a := z163) ((congrFun (congrFun hV171 0) 5).trans ((up2_n _ _ (Or.inr (by decide))).trans ((congrFun (congrFun hV168 0) 5).trans ((up2_n _ _ (Or.inr (by decide))).trans ez163)))) ?_
          refine x_iconst C.1 (n := 1) dX12_readsSum_130 ?_
          refine x_iadd C.1 (v := z163 + 1) (by omega) dX12_readsSum_131 ?_
          refine x_putI C (N := 33) (i := 0) (by decide) rfl vc_X12 wx_X12 5 (by decide) wf_X12_144 tyX12 tyX12_ok nmX12 rfl (tyX12_ok 5 (by decide)) rfl dX12_readsSum_132 rfl rfl ?_
          refine x_gV ?_
          intro V172 hV172
          have hI172 : MI G V172 := hI171.up hV172 rfl (by omega) rfl (Or.inl (by decide))
          have hB172 := hB171.up hV172 rfl
          replace hF := hF.to (rdb_e (z := V172) hV172.symm)
          refine x_goto C.1 (tgt := 163) dX12_readsSum_135 (by decide) ?_
          refine x_goto C.1 (tgt := 14) dX12_readsSum_163 (by decide) ?_
          refine x_lv [(1, vI z4), (0, .ref (ad 0))] [1, 2] rfl ?_
          have hk := popS (u := V172) (o := z170) hx162_0.1 hx162_0.2.1 (by rw [ez163, ez164]; omega) hg167.1 hg167.2 (by rw [hV172, hV171, hV168, ez163, ez166])
          have hk2 := pFac.tr (hf.tr hx162_0.2.2.2.1) hk
          have hm1 := hk.2.2.1.2.2.1.trans hx162_0.2.2.2.1.2.2.1
          have hm2 := hk.2.2.2
          have hm3 := hk.2.1.2.1
          have hm4 := hx162_0.2.2.2.2.1
          have hmu134 : (V172 0 6 - V172 0 5).toNat < (V134 0 6 - V134 0 5).toNat := (by omega)
          exact ih134 V172 ⟨hI172, hB172, hk2.1, hk2.2.1, hk2.2.2.1, hk2.2.2.2, ⟨nf134, Nat.lt_of_lt_of_le hmu134 (Nat.le_of_lt_succ hn134), hF⟩⟩ hmu134
    · replace hF := hF.to (if_neg hc141)
      refine x_aload_n C.1 dX12_readsSum_27 2 rfl ?_
      refine x_iload_n C.1 dX12_readsSum_28 0 rfl ?_
      refine x_iconst C.1 (n := 4) dX12_readsSum_29 ?_
      refine x_icmp_ge C.1 (tgt := 37) dX12_readsSum_30 (by decide) (by omega) (by decide) (fun hc173 => ?_) (fun hc173 => ?_)
      · replace hF := hF.to (if_pos hc173)
        refine x_iconst C.1 (n := 0) dX12_readsSum_37 ?_
        refine x_callVv C (As := [vI 0]) (rest := []) 0 (xw_at (N := 33) (i := 0) (by decide) rfl) vc_X12 (m_closesSums l D cy ad G V134 J Rr hI134 hJ hR 0 ⟨by decide, by decide⟩ (V 0 11) (V 0 10) (V 0 5 - V 0 10) hs (hf.tio ht hP.2.2.2.1) hp) (l1 := []) (l2 := []) (List.append_nil _).symm (w2 := fun u : Nat → Nat → Int => MW cy ad u J Rr) (fun _ => List.append_nil _) rfl wm_yX12_closesSums wn_X12 wl_X12_200 wi_yX12_closesSums we_yX12_closesSums hd_yX12_closesSums rfl ⟨Nat.le_of_ble_eq_true rfl, Nat.le_of_ble_eq_true rfl⟩ (Nat.le_of_ble_eq_true rfl) ⟨Nat.le_of_ble_eq_true rfl, Nat.le_of_ble_eq_true rfl⟩ dX12_readsSum_38 (fun V174 h174 => ?_)
        obtain ⟨hI174, hx174_0, hx174_1, hBc174, hFc174⟩ := h174
        replace hF := calUM_i hF hFc174 hBc174
        have hB174 := hB134.tr hBc174 (m := 590295810358705654784) rfl
        obtain ⟨z175, ez175, bz175⟩ := hI174.rd 0 5 (x := 0) (y := 220) rfl
        replace hF := hF.to (rdb_e (z := z175) ez175)
        replace hF := hF.fc bz175
        obtain ⟨z176, ez176, bz176⟩ := hI174.rd 0 6 (x := 0) (y := 220) rfl
        replace hF := hF.to (rdb_e (z := z176) ez176)
        replace hF := hF.fc bz176
        obtain ⟨z177, ez177, bz177⟩ := hI174.rd 0 10 (x := 0) (y := 220) rfl
        replace hF := hF.to (rdb_e (z := z177) ez177)
        replace hF := hF.fc bz177
        obtain ⟨z178, ez178, bz178⟩ := hI174.rd 0 11 (x := 0) (y := 220) rfl
        replace hF := hF.to (rdb_e (z := z178) ez178)
        replace hF := hF.fc bz178
        have hc2174 := hx174_0.1.c200 hx174_0.2.1
        rw [ez175, ez177, ez178] at hc2174
        have hpz174 := hx174_0.2.1
        unfold PG at hpz174
        rw [ez175, ez176, ez177, ez178] at hpz174
        have e5174 : z175 = z135 := by rw [← ez175, ← ez135]; exact hx174_0.2.2.2.2.1
        have e6174 : z176 = z136 := by rw [← ez176, ← ez136]; exact hx174_0.2.2.2.1.2.2.1
        refine x_aload_n C.1 dX12_readsSum_41 2 rfl ?_
        refine x_getA C (N := 33) (i := 0) (by decide) rfl vc_X12 wx_X12 14 (by decide) wf_X12_26 (a := 6) rfl dX12_readsSum_42 ?_
        refine x_aload_n C.1 dX12_readsSum_45 2 rfl ?_
        refine x_getI C (N := 33) (i := 0) (by decide) rfl vc_X12 wx_X12 11 (by decide) wf_X12_174 rfl dX12_readsSum_46 (a := z178) ez178 ?_
        refine x_ldc C.1 (n := 1048576) wq_X12_170 dX12_readsSum_49 ?_
        refine x_iload_n C.1 dX12_readsSum_51 0 rfl ?_
        refine x_imul C.1 (v := 1048576 * z140) (by omega) dX12_readsSum_52 ?_
        refine x_iast C (N := 33) (i := 6) (q := z178) (a := 1048576 * z140) (by decide) rfl (by omega) (by decide) dX12_readsSum_53 ?_
        refine x_gV ?_
        intro V179 hV179
        have hI179 : MI G V179 := hI174.up hV179 rfl (by omega) rfl (Or.inl (by decide))
        have hB179 := hB174.up hV179 (by rw [mkey_r (by decide)]; rfl)
        replace hF := hF.to (rdb_e (z := V179) hV179.symm)
        refine x_aload_n C.1 dX12_readsSum_54 2 rfl ?_
        refine x_aload_n C.1 dX12_readsSum_55 2 rfl ?_
        refine x_getI C (N := 33) (i := 0) (by decide) rfl vc_X12 wx_X12 11 (by decide) wf_X12_174 rfl dX12_readsSum_56 (a := z178) ((congrFun (congrFun hV179 0) 11).trans ((up2_n _ _ (Or.inl (by decide))).trans ez178)) ?_
        refine x_iconst C.1 (n := 1) dX12_readsSum_59 ?_
        refine x_iadd C.1 (v := z178 + 1) (by omega) dX12_readsSum_60 ?_
        refine x_putI C (N := 33) (i := 0) (by decide) rfl vc_X12 wx_X12 11 (by decide) wf_X12_174 tyX12 tyX12_ok nmX12 rfl (tyX12_ok 11 (by decide)) rfl dX12_readsSum_61 rfl rfl ?_
        refine x_gV ?_
        intro V180 hV180
        have hI180 : MI G V180 := hI179.up hV180 rfl (by omega) rfl (Or.inl (by decide))
        have hB180 := hB179.up hV180 rfl
        replace hF := hF.to (rdb_e (z := V180) hV180.symm)
        refine x_aload_n C.1 dX12_readsSum_64 2 rfl ?_
        refine x_aload_n C.1 dX12_readsSum_65 2 rfl ?_
        refine x_getI C (N := 33) (i := 0) (by decide) rfl vc_X12 wx_X12 5 (by decide) wf_X12_144 rfl dX12_readsSum_66 (a := z175) ((congrFun (congrFun hV180 0) 5).trans ((up2_n _ _ (Or.inr (by decide))).trans ((congrFun (congrFun hV179 0) 5).trans ((up2_n _ _ (Or.inl (by decide))).trans ez175)))) ?_
        refine x_iconst C.1 (n := 1) dX12_readsSum_69 ?_
        refine x_iadd C.1 (v := z175 + 1) (by omega) dX12_readsSum_70 ?_
        refine x_putI C (N := 33) (i := 0) (by decide) rfl vc_X12 wx_X12 5 (by decide) wf_X12_144 tyX12 tyX12_ok nmX12 rfl (tyX12_ok 5 (by decide)) rfl dX12_readsSum_71 rfl rfl ?_
        refine x_gV ?_
        intro V181 hV181
        have hI181 : MI G V181 := hI180.up hV181 rfl (by omega) rfl (Or.inl (by decide))
        have hB181 := hB180.up hV181 rfl
        replace hF := hF.to (rdb_e (z := V181) hV181.symm)
        have hk182 := signS hx174_0.1 hx174_0.2.1 (by rw [ez175, ez176]; omega) (x := 1048576 * z140) (by unfold pio; rw [pdv_m0 (by omega)]; omega) (u := V181) (by rw [hV181, hV180, hV179, ez175, ez178])
        refine x_aload_n C.1 dX12_readsSum_74 2 rfl ?_
        refine x_callVi C (As := []) (rest := []) 0 (xw_at (N := 33) (i := 0) (by decide) rfl) vc_X12 (m_readsFactor l D cy ad G V181 J Rr hI181 hJ hR (V 0 11) (V 0 10) (V 0 5 - V 0 10) hk182.1 hk182.2.1) (l1 := []) (l2 := []) (List.append_nil _).symm (w2 := fun u : Nat → Nat → Int => MW cy ad u J Rr) (fun _ => List.append_nil _) rfl wm_yX12_readsFactor wn_X12 wl_X12_194 wi_yX12_readsFactor we_yX12_readsFactor hd_yX12_readsFactor rfl ⟨Nat.le_of_ble_eq_true rfl, Nat.le_of_ble_eq_true rfl⟩ (Nat.le_of_ble_eq_true rfl) ⟨Nat.le_of_ble_eq_true rfl, Nat.le_of_ble_eq_true rfl⟩ dX12_readsSum_75 (fun z183 V183 bz183 h183 => ?_)
        obtain ⟨hI183, bq183, hx183_0, hBc183, hFc183⟩ := h183
        replace hF := calVM_i hF hFc183 hBc183
        replace hF := hF.fc bq183
        have hB183 := hB181.tr hBc183 (m := 1770887431076116959136) rfl
        refine x_if_ne C.1 (tgt := 163) dX12_readsSum_78 (by decide) (by omega) (fun hc184 => ?_) (fun hc184 => ?_)
        · replace hF := hF.to (if_pos hc184)
          have hon185 := Sp.on hx183_0 (by omega)
          refine x_goto C.1 (tgt := 14) dX12_readsSum_163 (by decide) ?_
          refine x_lv [(1, vI z4), (0, .ref (ad 0))] [1, 2] rfl ?_
          have hk2 := pFac.tr ((hf.tr hx174_0.2.2.2.1).tr hk182.2.2.1) hon185
          have hm1 := (hon185.2.2.1.2.2.1.trans hk182.2.2.1.2.2.1).trans hx174_0.2.2.2.1.2.2.1
          have hm2 := hon185.2.2.2
          have hm5 := hk182.2.2.2
          have hm3 := hon185.2.1.2.1
          have hm4 := hx174_0.2.2.2.2.1
          have hmu134 : (V183 0 6 - V183 0 5).toNat < (V134 0 6 - V134 0 5).toNat := (by omega)
          exact ih134 V183 ⟨hI183, hB183, hk2.1, hk2.2.1, hk2.2.2.1, hk2.2.2.2, ⟨nf134, Nat.lt_of_lt_of_le hmu134 (Nat.le_of_lt_succ hn134), hF⟩⟩ hmu134
        · replace hF := hF.to (if_neg (fun hh => hh hc184))
          refine x_iconst C.1 (n := 0) dX12_readsSum_81 ?_
          exact x_zret (S := (Nat → Nat → Int)) (post := (fun a (u : Nat → Nat → Int) => MI G u ∧ (0 ≤ a ∧ a ≤ 1) ∧ Sp a (pSum V u) ∧ FBm 1770887431076116959136 V u ∧ (f_m_readsSum V J Rr) (a, u))) (w1 := (fun u : Nat → Nat → Int => MW cy ad u J Rr)) (a := 0) C hr rfl dX12_readsSum_82 (by decide) V183 rfl ⟨hI183, ⟨by decide, by decide⟩, (Or.inl rfl), hB183, hF _ rfl⟩
      · replace hF := hF.to (if_neg hc173)
        refine x_iconst C.1 (n := 1) dX12_readsSum_33 ?_
        refine x_goto C.1 (tgt := 38) dX12_readsSum_34 (by decide) ?_
        refine x_callVv C (As := [vI 1]) (rest := []) 0 (xw_at (N := 33) (i := 0) (by decide) rfl) vc_X12 (m_closesSums l D cy ad G V134 J Rr hI134 hJ hR 1 ⟨by decide, by decide⟩ (V 0 11) (V 0 10) (V 0 5 - V 0 10) hs (hf.tio ht hP.2.2.2.1) hp) (l1 := []) (l2 := []) (List.append_nil _).symm (w2 := fun u : Nat → Nat → Int => MW cy ad u J Rr) (fun _ => List.append_nil _) rfl wm_yX12_closesSums wn_X12 wl_X12_200 wi_yX12_closesSums we_yX12_closesSums hd_yX12_closesSums rfl ⟨Nat.le_of_ble_eq_true rfl, Nat.le_of_ble_eq_true rfl⟩ (Nat.le_of_ble_eq_true rfl) ⟨Nat.le_of_ble_eq_true rfl, Nat.le_of_ble_eq_true rfl⟩ dX12_readsSum_38 (fun V186 h186 => ?_)
        obtain ⟨hI186, hx186_0, hx186_1, hBc186, hFc186⟩ := h186
        replace hF := calUM_i hF hFc186 hBc186
        have hB186 := hB134.tr hBc186 (m := 590295810358705654784) rfl
        obtain ⟨z187, ez187, bz187⟩ := hI186.rd 0 5 (x := 0) (y := 220) rfl
        replace hF := hF.to (rdb_e (z := z187) ez187)
        replace hF := hF.fc bz187
        obtain ⟨z188, ez188, bz188⟩ := hI186.rd 0 6 (x := 0) (y := 220) rfl
        replace hF := hF.to (rdb_e (z := z188) ez188)
        replace hF := hF.fc bz188
        obtain ⟨z189, ez189, bz189⟩ := hI186.rd 0 10 (x := 0) (y := 220) rfl
        replace hF := hF.to (rdb_e (z := z189) ez189)
        replace hF := hF.fc bz189
        obtain ⟨z190, ez190, bz190⟩ := hI186.rd 0 11 (x := 0) (y := 220) rfl
        replace hF := hF.to (rdb_e (z := z190) ez190)
        replace hF := hF.fc bz190
        have hc2186 := hx186_0.1.c200 hx186_0.2.1
        rw [ez187, ez189, ez190] at hc2186
        have hpz186 := hx186_0.2.1
        unfold PG at hpz186
        rw [ez187, ez188, ez189, ez190] at hpz186
        have e5186 : z187 = z135 := by rw [← ez187, ← ez135]; exact hx186_0.2.2.2.2.1
        have e6186 : z188 = z136 := by rw [← ez188, ← ez136]; exact hx186_0.2.2.2.1.2.2.1
        refine x_aload_n C.1 dX12_readsSum_41 2 rfl ?_
        refine x_getA C (N := 33) (i := 0) (by decide) rfl vc_X12 wx_X12 14 (by decide) wf_X12_26 (a := 6) rfl dX12_readsSum_42 ?_
        refine x_aload_n C.1 dX12_readsSum_45 2 rfl ?_
        refine x_getI C (N := 33) (i := 0) (by decide) rfl vc_X12 wx_X12 11 (by decide) wf_X12_174 rfl dX12_readsSum_46 (a := z190) ez190 ?_
        refine x_ldc C.1 (n := 1048576) wq_X12_170 dX12_readsSum_49 ?_
        refine x_iload_n C.1 dX12_readsSum_51 0 rfl ?_
        refine x_imul C.1 (v := 1048576 * z140) (by omega) dX12_readsSum_52 ?_
        refine x_iast C (N := 33) (i := 6) (q := z190) (a := 1048576 * z140) (by decide) rfl (by omega) (by decide) dX12_readsSum_53 ?_
        refine x_gV ?_
        intro V191 hV191
        have hI191 : MI G V191 := hI186.up hV191 rfl (by omega) rfl (Or.inl (by decide))
        have hB191 := hB186.up hV191 (by rw [mkey_r (by decide)]; rfl)
        replace hF := hF.to (rdb_e (z := V191) hV191.symm)
        refine x_aload_n C.1 dX12_readsSum_54 2 rfl ?_
        refine x_aload_n C.1 dX12_readsSum_55 2 rfl ?_
        refine x_getI C (N := 33) (i := 0) (by decide) rfl vc_X12 wx_X12 11 (by decide) wf_X12_174 rfl dX12_readsSum_56 (a := z190) ((congrFun (congrFun hV191 0) 11).trans ((up2_n _ _ (Or.inl (by decide))).trans ez190)) ?_
        refine x_iconst C.1 (n := 1) dX12_readsSum_59 ?_
        refine x_iadd C.1 (v := z190 + 1) (by omega) dX12_readsSum_60 ?_
        refine x_putI C (N := 33) (i := 0) (by decide) rfl vc_X12 wx_X12 11 (by decide) wf_X12_174 tyX12 tyX12_ok nmX12 rfl (tyX12_ok 11 (by decide)) rfl dX12_readsSum_61 rfl rfl ?_
        refine x_gV ?_
        intro V192 hV192
        have hI192 : MI G V192 := hI191.up hV192 rfl (by omega) rfl (Or.inl (by decide))
        have hB192 := hB191.up hV192 rfl
        replace hF := hF.to (rdb_e (z := V192) hV192.symm)
        refine x_aload_n C.1 dX12_readsSum_64 2 rfl ?_
        refine x_aload_n C.1 dX12_readsSum_65 2 rfl ?_
        refine x_getI C (N := 33) (i := 0) (by decide) rfl vc_X12 wx_X12 5 (by decide) wf_X12_144 rfl dX12_readsSum_66 (a := z187) ((congrFun (congrFun hV192 0) 5).trans ((up2_n _ _ (Or.inr (by decide))).trans ((congrFun (congrFun hV191 0) 5).trans ((up2_n _ _ (Or.inl (by decide))).trans ez187)))) ?_
        refine x_iconst C.1 (n := 1) dX12_readsSum_69 ?_
        refine x_iadd C.1 (v := z187 + 1) (by omega) dX12_readsSum_70 ?_
        refine x_putI C (N := 33) (i := 0) (by decide) rfl vc_X12 wx_X12 5 (by decide) wf_X12_144 tyX12 tyX12_ok nmX12 rfl (tyX12_ok 5 (by decide)) rfl dX12_readsSum_71 rfl rfl ?_
        refine x_gV ?_
        intro V193 hV193
        have hI193 : MI G V193 := hI192.up hV193 rfl (by omega) rfl (Or.inl (by decide))
        have hB193 := hB192.up hV193 rfl
        replace hF := hF.to (rdb_e (z := V193) hV193.symm)
        have hk194 := signS hx186_0.1 hx186_0.2.1 (by rw [ez187, ez188]; omega) (x := 1048576 * z140) (by unfold pio; rw [pdv_m0 (by omega)]; omega) (u := V193) (by rw [hV193, hV192, hV191, ez187, ez190])
        refine x_aload_n C.1 dX12_readsSum_74 2 rfl ?_
        refine x_callVi C (As := []) (rest := []) 0 (xw_at (N := 33) (i := 0) (by decide) rfl) vc_X12 (m_readsFactor l D cy ad G V193 J Rr hI193 hJ hR (V 0 11) (V 0 10) (V 0 5 - V 0 10) hk194.1 hk194.2.1) (l1 := []) (l2 := []) (List.append_nil _).symm (w2 := fun u : Nat → Nat → Int => MW cy ad u J Rr) (fun _ => List.append_nil _) rfl wm_yX12_readsFactor wn_X12 wl_X12_194 wi_yX12_readsFactor we_yX12_readsFactor hd_yX12_readsFactor rfl ⟨Nat.le_of_ble_eq_true rfl, Nat.le_of_ble_eq_true rfl⟩ (Nat.le_of_ble_eq_true rfl) ⟨Nat.le_of_ble_eq_true rfl, Nat.le_of_ble_eq_true rfl⟩ dX12_readsSum_75 (fun z195 V195 bz195 h195 => ?_)
        obtain ⟨hI195, bq195, hx195_0, hBc195, hFc195⟩ := h195
        replace hF := calVM_i hF hFc195 hBc195
        replace hF := hF.fc bq195
        have hB195 := hB193.tr hBc195 (m := 1770887431076116959136) rfl
        refine x_if_ne C.1 (tgt := 163) dX12_readsSum_78 (by decide) (by omega) (fun hc196 => ?_) (fun hc196 => ?_)
        · replace hF := hF.to (if_pos hc196)
          have hon197 := Sp.on hx195_0 (by omega)
          refine x_goto C.1 (tgt := 14) dX12_readsSum_163 (by decide) ?_
          refine x_lv [(1, vI z4), (0, .ref (ad 0))] [1, 2] rfl ?_
          have hk2 := pFac.tr ((hf.tr hx186_0.2.2.2.1).tr hk194.2.2.1) hon197
          have hm1 := (hon197.2.2.1.2.2.1.trans hk194.2.2.1.2.2.1).trans hx186_0.2.2.2.1.2.2.1
          have hm2 := hon197.2.2.2
          have hm5 := hk194.2.2.2
          have hm3 := hon197.2.1.2.1
          have hm4 := hx186_0.2.2.2.2.1
          have hmu134 : (V195 0 6 - V195 0 5).toNat < (V134 0 6 - V134 0 5).toNat := (by omega)
          exact ih134 V195 ⟨hI195, hB195, hk2.1, hk2.2.1, hk2.2.2.1, hk2.2.2.2, ⟨nf134, Nat.lt_of_lt_of_le hmu134 (Nat.le_of_lt_succ hn134), hF⟩⟩ hmu134
        · replace hF := hF.to (if_neg (fun hh => hh hc196))
          refine x_iconst C.1 (n := 0) dX12_readsSum_81 ?_
          exact x_zret (S := (Nat → Nat → Int)) (post := (fun a (u : Nat → Nat → Int) => MI G u ∧ (0 ≤ a ∧ a ≤ 1) ∧ Sp a (pSum V u) ∧ FBm 1770887431076116959136 V u ∧ (f_m_readsSum V J Rr) (a, u))) (w1 := (fun u : Nat → Nat → Int => MW cy ad u J Rr)) (a := 0) C hr rfl dX12_readsSum_82 (by decide) V195 rfl ⟨hI195, ⟨by decide, by decide⟩, (Or.inl rfl), hB195, hF _ rfl⟩
  · replace hF := hF.to (if_neg (fun hh => hh hc6))
    refine x_iconst C.1 (n := 0) dX12_readsSum_12 ?_
    exact x_zret (S := (Nat → Nat → Int)) (post := (fun a (u : Nat → Nat → Int) => MI G u ∧ (0 ≤ a ∧ a ≤ 1) ∧ Sp a (pSum V u) ∧ FBm 1770887431076116959136 V u ∧ (f_m_readsSum V J Rr) (a, u))) (w1 := (fun u : Nat → Nat → Int => MW cy ad u J Rr)) (a := 0) C hr rfl dX12_readsSum_13 (by decide) V5 rfl ⟨hI5, ⟨by decide, by decide⟩, (Or.inl rfl), hB5, hF _ rfl⟩
end
section
-- reading a condition: its steps
def pdq (z x : Int) : Prop := z = x / 1048576
def pj5 (x : Int) : Prop := (x / 1048576 = 11 ∨ x / 1048576 = 12) ∧ 0 ≤ x
theorem pj5.d {x z : Int} (h : pj5 x) (hx : x ≤ 2147483647) (hz : iDiv x 1048576 = z) : pdq z x ∧ (11 ≤ z ∧ z ≤ 12) := by
  have e : z = x / 1048576 := hz.symm.trans (iDiv_p ⟨h.2, hx⟩ (by omega))
  refine ⟨e, ?_⟩
  rcases h.1 with q | q <;> rw [e, q] <;> exact ⟨by decide, by decide⟩
def FrC (f : Int) (V u : Nat → Nat → Int) : Prop := (∀ k : Nat, (k : Int) < f → u 5 k = V 5 k) ∧ u 0 6 = V 0 6 ∧ u 0 12 = V 0 12 ∧ (∀ i : Nat, i ≠ 0 → i ≠ 5 → i ≠ 6 → u i = V i) ∧ V 0 5 ≤ u 0 5
theorem FrC.rf {f : Int} {V : Nat → Nat → Int} : FrC f V V := ⟨fun _ _ => rfl, rfl, rfl, fun _ _ _ _ => rfl, Int.le_refl _⟩
theorem FrC.tr {f : Int} {V W u : Nat → Nat → Int} (h : FrC f V W) (k : FrC f W u) : FrC f V u := ⟨fun q hq => (k.1 q hq).trans (h.1 q hq), k.2.1.trans h.2.1, k.2.2.1.trans h.2.2.1, fun i a b c => (k.2.2.2.1 i a b c).trans (h.2.2.2.1 i a b c), Int.le_trans h.2.2.2.2 k.2.2.2.2⟩
theorem FrS.toC {b c0 f : Int} {V u : Nat → Nat → Int} (h : FrS b c0 V u) (hf : f ≤ c0) : FrC f V u := ⟨fun k hk => h.1 k (Int.lt_of_lt_of_le hk hf), h.2.2.1, h.2.2.2.1, h.2.2.2.2.1, h.2.2.2.2.2⟩
theorem CI.fl {f d e : Int} {V : Nat → Nat → Int} (h : CI f d e V) : 0 ≤ f ∧ f ≤ V 0 10 := ⟨h.1, h.2.1⟩
theorem CI.cp {f d e : Int} {V : Nat → Nat → Int} (h : CI f d e V) : V 0 10 ≤ V 0 5 := by
  have := pnt_nn (V 6) (V 0 11).toNat
  obtain ⟨a1, a2, a3, a4, -⟩ := h
  omega
def pQ (f d e : Int) (V u : Nat → Nat → Int) : Prop := CI f d e u ∧ PG u ∧ FrC f V u ∧ 0 < u 0 11
theorem pQ.tr {f d e : Int} {V W u : Nat → Nat → Int} (hf : FrC f V W) (h : pQ f d e W u) : pQ f d e V u := ⟨h.1, h.2.1, hf.tr h.2.2.1, h.2.2.2⟩
theorem sumC {f d e : Int} {V u : Nat → Nat → Int} (hC : CI f d e V) (he : 0 ≤ e) (h0 : 0 < V 0 11) (h : pSum V u) : pQ f d (e + 1) V u := by
  obtain ⟨h1, h2, h3, h4, h5, h6, h7⟩ := h
  exact ⟨hC.sum he h1 h2 h6.1 h6.2.1 h3 h4, h5, h6.toC hC.fl.2, by rw [h3]; exact h0⟩
theorem sgnC {f e : Int} {V u : Nat → Nat → Int} (hC : CI f 0 e V) (hP : PG V) (h0 : 0 < V 0 11) (hlt : V 0 5 < V 0 6) (hu : u = up2 V 0 5 (V 0 5 + 1)) : pQ f 1 e V u := by
  have u5 : u 5 = V 5 := by rw [hu, up0r (by omega)]
  have u6 : u 6 = V 6 := by rw [hu, up0r (by omega)]
  have ui : ∀ i : Nat, i ≠ 0 → u i = V i := fun i hi => by rw [hu, up0r hi]
  have uo : ∀ k : Nat, k ≠ 5 → u 0 k = V 0 k := fun k hk => by rw [hu, up0 (Or.inr hk)]
  have up : u 0 5 = V 0 5 + 1 := by rw [hu, up2_s]
  have o6 := uo 6 (by omega)
  have o11 := uo 11 (by omega)
  have o10 := uo 10 (by omega)
  have o12 := uo 12 (by omega)
  clear hu
  have hP' := hP
  obtain ⟨p1, p2, p3, p4, p5, p6⟩ := hP
  exact ⟨hC.slack u5 u6 o10 o11 (by omega) (by omega), hP'.mk (by omega) (by omega) o6 ⟨by omega, by omega⟩ (by omega), ⟨fun k _ => by rw [u5], o6, o12, fun i i1 _ _ => ui i i1, by omega⟩, by omega⟩
theorem binC {f : Int} {V u : Nat → Nat → Int} {w : Int} (hC : CI f 1 2 V) (hP : PG V) (h0 : 0 < V 0 11) (hw : 7 ≤ w ∧ w ≤ 9) (hu : u = up2 (up2 V 5 (V 0 10).toNat (1048576 * w + 0)) 0 10 (V 0 10 + 1)) : pQ f 0 1 V u := by
  have u5 : ∀ k : Nat, u 5 k = if k = (V 0 10).toNat then 1048576 * w + 0 else V 5 k := by
    intro k
    rw [hu, up0 (Or.inl (by omega))]
    by_cases q : k = (V 0 10).toNat
    · subst q; rw [up2_s, if_pos rfl]
    · rw [up2_n _ _ (Or.inr q), if_neg q]
  have u6 : u 6 = V 6 := by rw [hu, up0r (by omega), up2_c _ _ (by omega)]
  have ui : ∀ i : Nat, i ≠ 0 → i ≠ 5 → u i = V i := fun i hi h5 => by rw [hu, up0r hi, up2_c _ _ h5]
  have uo : ∀ k : Nat, k ≠ 10 → u 0 k = V 0 k := fun k hk => by rw [hu, up0 (Or.inr hk), up2_n _ _ (Or.inl (by omega))]
  have u10 : u 0 10 = V 0 10 + 1 := by rw [hu, up2_s]
  have o5 := uo 5 (by omega)
  have o6 := uo 6 (by omega)
  have o11 := uo 11 (by omega)
  have o12 := uo 12 (by omega)
  have fl := hC.fl
  clear hu
  have hw2 : 0 ≤ 1048576 * w + 0 ∧ ((1048576 * w + 0) / 1048576 = 10 ∧ (1 : Int) ≤ 2 ∧ (1 : Int) = 2 ∨ 2 ≤ (1048576 * w + 0) / 1048576 ∧ (1048576 * w + 0) / 1048576 ≤ 9 ∧ (2 : Int) ≤ 2 ∧ (1 : Int) = 2 - 1) := by
    clear u5 u6 ui uo u10 o5 o6 o11 o12 fl hC hP h0
    exact ⟨by omega, Or.inr ⟨by omega, by omega, by omega, by omega⟩⟩
  have hP' := hP
  obtain ⟨p1, p2, p3, p4, p5, p6⟩ := hP
  exact ⟨hC.note hw2 u5 u6 u10 o11 (Int.le_refl _) (by clear hw2; omega), hP'.mk (by clear hw2; omega) (by clear hw2; omega) o6 ⟨by clear hw2; omega, by clear hw2; omega⟩ (by clear hw2; omega), ⟨fun k hk => by rw [u5, if_neg (by clear hw2; omega)], o6, o12, fun i i1 i2 _ => ui i i1 i2, by clear hw2; omega⟩, by clear hw2; omega⟩
theorem opnC {f d e : Int} {V u : Nat → Nat → Int} {o x : Int} (hC : CI f d e V) (hP : PG V) (hlt : V 0 5 < V 0 6) (hx : pdv x = 13 ∨ (pdv x = 10 ∧ 0 < V 0 11)) (hu : u = up2 (up2 (up2 (up2 V 0 9 o) 6 (V 0 11).toNat x) 0 11 (V 0 11 + 1)) 0 5 (V 0 5 + 1)) : pQ f d e V u ∧ V 0 5 < u 0 5 := by
  have u5 : u 5 = V 5 := by rw [hu, up0r (by omega), up0r (by omega), up2_c _ _ (by omega), up0r (by omega)]
  have u6 : ∀ k : Nat, u 6 k = if k = (V 0 11).toNat then x else V 6 k := by
    intro k
    rw [hu, up0 (Or.inl (by omega)), up0 (Or.inl (by omega))]
    by_cases q : k = (V 0 11).toNat
    · subst q; rw [up2_s, if_pos rfl]
    · rw [up2_n _ _ (Or.inr q), up0 (Or.inl (by omega)), if_neg q]
  have ui : ∀ i : Nat, i ≠ 0 → i ≠ 6 → u i = V i := fun i i1 i3 => by rw [hu, up0r i1, up0r i1, up2_c _ _ i3, up0r i1]
  have u11 : u 0 11 = V 0 11 + 1 := by rw [hu, up0 (Or.inr (by omega)), up2_s]
  have up : u 0 5 = V 0 5 + 1 := by rw [hu, up2_s]
  have uo : ∀ k : Nat, k ≠ 5 → k ≠ 9 → k ≠ 11 → u 0 k = V 0 k := fun k k1 k2 k3 => by rw [hu, up0 (Or.inr k1), up0 (Or.inr k3), up2_n _ _ (Or.inl (by omega)), up0 (Or.inr k2)]
  have o6 := uo 6 (by omega) (by omega) (by omega)
  have o10 := uo 10 (by omega) (by omega) (by omega)
  have o12 := uo 12 (by omega) (by omega) (by omega)
  clear hu
  have hP' := hP
  obtain ⟨p1, p2, p3, p4, p5, p6⟩ := hP
  exact ⟨⟨hC.opn hx u5 u6 o10 u11 up, hP'.mk (by omega) (by omega) o6 ⟨by omega, by omega⟩ (by omega), ⟨fun k _ => by rw [u5], o6, o12, fun i i1 _ i3 => ui i i1 i3, by omega⟩, by omega⟩, by omega⟩
/-- endsPiece, lands: so far -/
def pEC (f d : Int) (V u : Nat → Nat → Int) : Prop := pQ f d 1 V u ∧ u 0 5 = V 0 5 ∧ u 0 11 ≤ V 0 11
theorem pEC.rf {f d : Int} {V : Nat → Nat → Int} (hC : CI f d 1 V) (hP : PG V) (h0 : 0 < V 0 11) : pEC f d V V := ⟨⟨hC, hP, FrC.rf, h0⟩, rfl, Int.le_refl _⟩
theorem CI.w0 {f d e : Int} {V : Nat → Nat → Int} (h : CI f d e V) (h0 : 0 < V 0 11) (ht : ¬ ptop V = 13) : 1 < V 0 11 := by
  have h6 := h.2.2.2.2.2.1 h0
  by_cases q : V 0 11 = 1
  · exfalso
    apply ht
    rw [ptop, if_neg (by omega), q]
    exact h6
  · omega
theorem pEC.endp {f d : Int} {V W u : Nat → Nat → Int} {o : Int} (h : pEC f d V W) (ht : ptop W = 10) (hu : u = up2 (up2 (up2 (up2 W 5 (W 0 10).toNat (1048576 * 10 + 0)) 0 10 (W 0 10 + 1)) 0 11 (W 0 11 - 1)) 0 9 o) : pEC f d V u := by
  obtain ⟨⟨hC, hP, hF, h0⟩, h5, hle⟩ := h
  have w1 := hC.w0 h0 (by rw [ht]; decide)
  have t1 := (ptop_n (V := W) (by rw [ht]; decide)).2
  rw [ht] at t1
  have fl := hC.fl
  have u5 : ∀ k : Nat, u 5 k = if k = (W 0 10).toNat then 1048576 * 10 + 0 else W 5 k := by
    intro k
    rw [hu, up0 (Or.inl (by omega)), up0 (Or.inl (by omega)), up0 (Or.inl (by omega))]
    by_cases q : k = (W 0 10).toNat
    · subst q; rw [up2_s, if_pos rfl]
    · rw [up2_n _ _ (Or.inr q), if_neg q]
  have u6 : u 6 = W 6 := by rw [hu, up0r (by omega), up0r (by omega), up0r (by omega), up2_c _ _ (by omega)]
  have ui : ∀ i : Nat, i ≠ 0 → i ≠ 5 → u i = W i := fun i hi hi5 => by rw [hu, up0r hi, up0r hi, up0r hi, up2_c _ _ hi5]
  have uo : ∀ k : Nat, k ≠ 9 → k ≠ 10 → k ≠ 11 → u 0 k = W 0 k := fun k k1 k2 k3 => by rw [hu, up0 (Or.inr k1), up0 (Or.inr k3), up0 (Or.inr k2), up2_n _ _ (Or.inl (by omega))]
  have u10 : u 0 10 = W 0 10 + 1 := by rw [hu, up0 (Or.inr (by omega)), up0 (Or.inr (by omega)), up2_s]
  have u11 : u 0 11 = W 0 11 - 1 := by rw [hu, up0 (Or.inr (by omega)), up2_s]
  have o5 := uo 5 (by omega) (by omega) (by omega)
  have o6 := uo 6 (by omega) (by omega) (by omega)
  have o12 := uo 12 (by omega) (by omega) (by omega)
  clear hu
  have c1 : CI f (d + 1) 1 (up2 W 0 11 (W 0 11 - 1)) := by
    have hd : 0 ≤ d := hC.2.2.1
    refine hC.pop h0 ?_ (up0r (by omega)) (up0r (by omega)) (up0 (Or.inr (by omega))) (up2_s _ _ _ _) (by omega) (Or.inr ⟨t1.symm, ?_⟩)
    · rw [← t1]; unfold pjm; omega
    · rw [up0 (Or.inr (by omega))]; omega
  have hw2 : (0 : Int) ≤ 1048576 * 10 + 0 ∧ ((1048576 * 10 + 0 : Int) / 1048576 = 10 ∧ (1 : Int) ≤ 1 ∧ (1 : Int) = 1 ∨ 2 ≤ (1048576 * 10 + 0 : Int) / 1048576 ∧ (1048576 * 10 + 0 : Int) / 1048576 ≤ 9 ∧ (2 : Int) ≤ 1 ∧ (1 : Int) = 1 - 1) := ⟨by omega, Or.inl ⟨by omega, by omega, rfl⟩⟩
  have hd : 0 ≤ d := hC.2.2.1
  have c2 : CI f d 1 u := c1.note hw2 (fun k => by rw [u5, up0 (Or.inr (by omega)), up0 (Or.inl (by omega))]) (by rw [u6, up0r (by omega)]) (by rw [u10, up0 (Or.inr (by omega))]) (by rw [u11, up2_s]) hd (by clear hw2; rw [up0 (Or.inr (by omega))]; omega)
  clear hw2 c1
  have hP' := hP
  obtain ⟨p1, p2, p3, p4, p5, p6⟩ := hP
  exact ⟨⟨c2, hP'.mk (by omega) (by omega) o6 ⟨by omega, by omega⟩ (by omega), hF.tr ⟨fun k hk => by rw [u5, if_neg (by omega)], o6, o12, fun i i1 i2 _ => ui i i1 i2, by omega⟩, by omega⟩, by omega, by omega⟩
theorem CI.jq {f d e : Int} {V : Nat → Nat → Int} (h : CI f d e V) (h0 : 0 < V 0 11) (hx : pjm (ptop V)) : f ≤ prm (V 6 (V 0 11 - 1).toNat) ∧ prm (V 6 (V 0 11 - 1).toNat) < V 0 10 ∧ pj5 (V 5 (prm (V 6 (V 0 11 - 1).toNat)).toNat) := by
  obtain ⟨a1, a2, a3, a4, a5, a6, a7, g, g0, g1, g2⟩ := h
  have t := (ptop_n (V := V) (by unfold pjm at hx; omega)).2
  rw [t] at hx
  have k := a7 (V 0 11 - 1).toNat (by omega)
  unfold pen at k
  have hx2 := hx
  unfold pjm at hx2
  rcases k with k | k | k
  · exact absurd k (by omega)
  · exact absurd k (by omega)
  · exact ⟨k.2.1, k.2.2.1, ⟨k.2.2.2, (g2 _ k.2.1 k.2.2.1).1⟩⟩
theorem pEC.lnd {f d : Int} {V W u : Nat → Nat → Int} {q : Nat} {wd : Int} (h : pEC f d V W) (ht : pjm (ptop W)) (hq : (q : Int) = prm (W 6 (W 0 11 - 1).toNat)) (hwd : wd = 1048576 * (W 5 q / 1048576) + W 0 10) (hu : u = up2 (up2 W 5 q wd) 0 11 (W 0 11 - 1)) : pEC f d V u := by
  obtain ⟨⟨hC, hP, hF, h0⟩, h5, hle⟩ := h
  have w1 := hC.w0 h0 (by unfold pjm at ht; omega)
  have j := hC.jq h0 ht
  rw [← hq] at j
  have t1 := (ptop_n (V := W) (by unfold pjm at ht; omega)).2
  rw [t1] at ht
  have c200 := (hC.c200 hP).1
  have u5 : ∀ k : Nat, u 5 k = if k = q then wd else W 5 k := by
    intro k
    rw [hu, up0 (Or.inl (by omega))]
    by_cases e : k = q
    · subst e; rw [up2_s, if_pos rfl]
    · rw [up2_n _ _ (Or.inr e), if_neg e]
  have u6 : u 6 = W 6 := by rw [hu, up0r (by omega), up2_c _ _ (by omega)]
  have ui : ∀ i : Nat, i ≠ 0 → i ≠ 5 → u i = W i := fun i hi hi5 => by rw [hu, up0r hi, up2_c _ _ hi5]
  have uo : ∀ k : Nat, k ≠ 11 → u 0 k = W 0 k := fun k k3 => by rw [hu, up0 (Or.inr k3), up2_n _ _ (Or.inl (by omega))]
  have u11 : u 0 11 = W 0 11 - 1 := by rw [hu, up2_s]
  have o5 := uo 5 (by omega)
  have o6 := uo 6 (by omega)
  have o10 := uo 10 (by omega)
  have o12 := uo 12 (by omega)
  clear hu
  have j1 := j.1
  clear j t1
  have c2 : CI f d 1 u := hC.land h0 (by clear hwd; omega) ht hq hwd u5 u6 o10 u11 o5
  clear hwd
  have hP' := hP
  obtain ⟨p1, p2, p3, p4, p5, p6⟩ := hP
  exact ⟨⟨c2, hP'.mk (by omega) (by omega) o6 ⟨by omega, by omega⟩ (by omega), hF.tr ⟨fun k hk => by rw [u5, if_neg (by omega)], o6, o12, fun i i1 i2 _ => ui i i1 i2, by omega⟩, by omega⟩, by omega, by omega⟩
theorem jmpC {f d : Int} {V u : Nat → Nat → Int} {op : Int} (hC : CI f d 1 V) (hP : PG V) (h0 : 0 < V 0 11) (hlt : V 0 5 < V 0 6) (ho : pjm op) (hu : u = up2 (up2 (up2 (up2 (up2 V 6 (V 0 11).toNat (1048576 * op + V 0 10)) 0 11 (V 0 11 + 1)) 5 (V 0 10).toNat (1048576 * op + 0)) 0 10 (V 0 10 + 1)) 0 5 (V 0 5 + 1)) : pQ f d 0 V u ∧ V 0 5 < u 0 5 := by
  have c200 := (hC.c200 hP).1
  have fl := hC.fl
  have u5 : ∀ k : Nat, u 5 k = if k = (V 0 10).toNat then 1048576 * op else V 5 k := by
    intro k
    rw [hu, up0 (Or.inl (by omega)), up0 (Or.inl (by omega))]
    by_cases q : k = (V 0 10).toNat
    · subst q; rw [up2_s, if_pos rfl, Int.add_zero]
    · rw [up2_n _ _ (Or.inr q), if_neg q, up0 (Or.inl (by omega)), up2_n _ _ (Or.inl (by omega))]
  have u6 : ∀ k : Nat, u 6 k = if k = (V 0 11).toNat then 1048576 * op + V 0 10 else V 6 k := by
    intro k
    rw [hu, up0 (Or.inl (by omega)), up0 (Or.inl (by omega)), up2_n _ _ (Or.inl (by omega)), up0 (Or.inl (by omega))]
    by_cases q : k = (V 0 11).toNat
    · subst q; rw [up2_s, if_pos rfl]
    · rw [up2_n _ _ (Or.inr q), if_neg q]
  have ui : ∀ i : Nat, i ≠ 0 → i ≠ 5 → i ≠ 6 → u i = V i := fun i i1 i2 i3 => by rw [hu, up0r i1, up0r i1, up2_c _ _ i2, up0r i1, up2_c _ _ i3]
  have uo : ∀ k : Nat, k ≠ 5 → k ≠ 10 → k ≠ 11 → u 0 k = V 0 k := fun k k1 k2 k3 => by rw [hu, up0 (Or.inr k1), up0 (Or.inr k2), up2_n _ _ (Or.inl (by omega)), up0 (Or.inr k3), up2_n _ _ (Or.inl (by omega))]
  have u10 : u 0 10 = V 0 10 + 1 := by rw [hu, up0 (Or.inr (by omega)), up2_s]
  have u11 : u 0 11 = V 0 11 + 1 := by rw [hu, up0 (Or.inr (by omega)), up0 (Or.inr (by omega)), up2_n _ _ (Or.inl (by omega)), up2_s]
  have up : u 0 5 = V 0 5 + 1 := by rw [hu, up2_s]
  have o6 := uo 6 (by omega) (by omega) (by omega)
  have o12 := uo 12 (by omega) (by omega) (by omega)
  clear hu
  have c2 := hC.jump (by omega) h0 ho u5 u6 u10 u11 up
  have hP' := hP
  obtain ⟨p1, p2, p3, p4, p5, p6⟩ := hP
  exact ⟨⟨c2, hP'.mk (by omega) (by omega) o6 ⟨by omega, by omega⟩ (by omega), ⟨fun k hk => by rw [u5, if_neg (by omega)], o6, o12, ui, by omega⟩, by omega⟩, by omega⟩
/-- a bracket ends -/
theorem clsC {f : Int} {V u : Nat → Nat → Int} {o : Int} (hC : CI f 0 1 V) (hP : PG V) (h0 : 0 < V 0 11) (hlt : V 0 5 < V 0 6) (ht : ¬ pjm (ptop V)) (hu : u = up2 (up2 (up2 V 0 11 (V 0 11 - 1)) 0 9 o) 0 5 (V 0 5 + 1)) : CI f 0 1 u ∧ PG u ∧ FrC f V u ∧ u 0 5 = V 0 5 + 1 ∧ u 0 11 = V 0 11 - 1 := by
  have u5 : u 5 = V 5 := by rw [hu, up0r (by omega), up0r (by omega), up0r (by omega)]
  have u6 : u 6 = V 6 := by rw [hu, up0r (by omega), up0r (by omega), up0r (by omega)]
  have ui : ∀ i : Nat, i ≠ 0 → u i = V i := fun i hi => by rw [hu, up0r hi, up0r hi, up0r hi]
  have u11 : u 0 11 = V 0 11 - 1 := by rw [hu, up0 (Or.inr (by omega)), up0 (Or.inr (by omega)), up2_s]
  have up : u 0 5 = V 0 5 + 1 := by rw [hu, up2_s]
  have uo : ∀ k : Nat, k ≠ 5 → k ≠ 9 → k ≠ 11 → u 0 k = V 0 k := fun k k1 k2 k3 => by rw [hu, up0 (Or.inr k1), up0 (Or.inr k2), up0 (Or.inr k3)]
  have o10 := uo 10 (by omega) (by omega) (by omega)
  have o6 := uo 6 (by omega) (by omega) (by omega)
  have o12 := uo 12 (by omega) (by omega) (by omega)
  clear hu
  have t1 : ptop V = pdv (V 6 (V 0 11 - 1).toNat) := by rw [ptop, if_neg (by omega)]
  rw [t1] at ht
  have c2 : CI f 0 1 u := hC.pop h0 ht u5 u6 o10 u11 (Int.le_refl _) (Or.inl (by omega))
  have hP' := hP
  obtain ⟨p1, p2, p3, p4, p5, p6⟩ := hP
  exact ⟨c2, hP'.mk (by omega) (by omega) o6 ⟨by omega, by omega⟩ (by omega), ⟨fun k _ => by rw [u5], o6, o12, fun i i1 _ _ => ui i i1, by omega⟩, up, u11⟩
/-- a condition was read -/
def pCond (V u : Nat → Nat → Int) : Prop := xTyp (u 5) 0 (V 0 10) (u 0 10) ∧ V 0 10 ≤ u 0 10 ∧ u 0 10 ≤ u 0 5 ∧ PG u ∧ FrC (V 0 10) V u
theorem pCond.mk {V u : Nat → Nat → Int} (hC : CI (V 0 10) 0 1 u) (hP : PG u) (hF : FrC (V 0 10) V u) (h0 : u 0 11 = 0) : pCond V u := ⟨hC.typ h0, hC.fl.2, hC.cp, hP, hF⟩
/-- a condition begins -/
theorem begC {V u : Nat → Nat → Int} {o : Int} (hP : PG V) (hc : V 0 10 ≤ V 0 5) (hu : u = up2 (up2 V 0 9 o) 0 11 0) : CI (V 0 10) 0 0 u ∧ PG u ∧ FrC (V 0 10) V u := by
  have ui : ∀ i : Nat, i ≠ 0 → u i = V i := fun i hi => by rw [hu, up0r hi, up0r hi]
  have u11 : u 0 11 = 0 := by rw [hu, up2_s]
  have uo : ∀ k : Nat, k ≠ 9 → k ≠ 11 → u 0 k = V 0 k := fun k k2 k3 => by rw [hu, up0 (Or.inr k3), up0 (Or.inr k2)]
  have o10 := uo 10 (by omega) (by omega)
  have o5 := uo 5 (by omega) (by omega)
  have o6 := uo 6 (by omega) (by omega)
  have o12 := uo 12 (by omega) (by omega)
  clear hu
  have hP' := hP
  obtain ⟨p1, p2, p3, p4, p5, p6⟩ := hP
  have c := CI.start (V := u) u11 ⟨by omega, by omega⟩
  rw [o10] at c
  exact ⟨c, hP'.mk (by omega) (by omega) o6 ⟨by omega, by omega⟩ (by omega), ⟨fun k _ => by rw [ui 5 (by omega)], o6, o12, fun i i1 _ _ => ui i i1, by omega⟩⟩
end
section
theorem dX12_endsPiece_0 : decode cX12_endsPiece 0 = .ok (.aload_n 0, 1) := by decide +kernel
theorem dX12_endsPiece_1 : decode cX12_endsPiece 1 = .ok (.invokevirtual 177, 3) := by decide +kernel
theorem dX12_endsPiece_4 : decode cX12_endsPiece 4 = .ok (.bipush 10, 2) := by decide +kernel
theorem dX12_endsPiece_6 : decode cX12_endsPiece 6 = .ok (.if_icmp .ne 33, 3) := by decide +kernel
theorem dX12_endsPiece_9 : decode cX12_endsPiece 9 = .ok (.aload_n 0, 1) := by decide +kernel
theorem dX12_endsPiece_10 : decode cX12_endsPiece 10 = .ok (.bipush 10, 2) := by decide +kernel
theorem dX12_endsPiece_12 : decode cX12_endsPiece 12 = .ok (.iconst 0, 1) := by decide +kernel
theorem dX12_endsPiece_13 : decode cX12_endsPiece 13 = .ok (.invokevirtual 180, 3) := by decide +kernel
theorem dX12_endsPiece_16 : decode cX12_endsPiece 16 = .ok (.aload_n 0, 1) := by decide +kernel
theorem dX12_endsPiece_17 : decode cX12_endsPiece 17 = .ok (.aload_n 0, 1) := by decide +kernel
theorem dX12_endsPiece_18 : decode cX12_endsPiece 18 = .ok (.getfield 174, 3) := by decide +kernel
theorem dX12_endsPiece_21 : decode cX12_endsPiece 21 = .ok (.iconst 1, 1) := by decide +kernel
theorem dX12_endsPiece_22 : decode cX12_endsPiece 22 = .ok (.isub, 1) := by decide +kernel
theorem dX12_endsPiece_23 : decode cX12_endsPiece 23 = .ok (.putfield 174, 3) := by decide +kernel
theorem dX12_endsPiece_26 : decode cX12_endsPiece 26 = .ok (.aload_n 0, 1) := by decide +kernel
theorem dX12_endsPiece_27 : decode cX12_endsPiece 27 = .ok (.aload_n 0, 1) := by decide +kernel
theorem dX12_endsPiece_28 : decode cX12_endsPiece 28 = .ok (.getfield 171, 3) := by decide +kernel
theorem dX12_endsPiece_31 : decode cX12_endsPiece 31 = .ok (.iconst 1, 1) := by decide +kernel
theorem dX12_endsPiece_32 : decode cX12_endsPiece 32 = .ok (.isub, 1) := by decide +kernel
theorem dX12_endsPiece_33 : decode cX12_endsPiece 33 = .ok (.putfield 171, 3) := by decide +kernel
theorem dX12_endsPiece_36 : decode cX12_endsPiece 36 = .ok (.goto (-36), 3) := by decide +kernel
theorem dX12_endsPiece_39 : decode cX12_endsPiece 39 = .ok (.return_, 1) := by decide +kernel
set_option maxRecDepth 100000 in
def f_m_endsPiece (V : Nat → Nat → Int) (J : Nat → Nat → Int) (Rr : Nat → Nat → Nat) : (Nat → Nat → Int) → Prop :=
  lop1 ((V 0 11).toNat + 1) (fun rc23 (V23 : Nat → Nat → Int) => rdb (V23 0 5) fun z24 => fct (0 ≤ z24 ∧ z24 ≤ 220) <| rdb (V23 0 6) fun z25 => fct (0 ≤ z25 ∧ z25 ≤ 220) <| rdb (V23 0 10) fun z26 => fct (0 ≤ z26 ∧ z26 ≤ 220) <| rdb (V23 0 11) fun z27 => fct (0 ≤ z27 ∧ z27 ≤ 220) <| calR (f_m_waitTop V23 J Rr) fun z28 => (if ¬ z28 = 10 then rtn V23 else calUM 590295810358705652736 V23 (f_m_notes 10 0 V23 J Rr) fun V30 => rdb (up2 V30 0 11 (z27 - 1)) fun V31 => rdb (V31 0 9) fun z32 => rdb (wr (z32 - 1)) fun z33 => rdb (up2 V31 0 9 z33) fun V34 => rc23 V34)) V
set_option maxHeartbeats 8000000 in
set_option maxRecDepth 100000 in
theorem m_endsPiece (l : Launch) (D : va_G) (cy : Nat → ClassId) (ad : Nat → Nat) (G : Nat → Nat → Int) (V J : Nat → Nat → Int) (Rr : Nat → Nat → Nat) (hI : MI G V) (hJ : VJ J) (hR : MR Rr) (f d : Int) (hC : CI f d 1 V) (hP : PG V) (h0 : 0 < V 0 11) : xMv l D (xTY cy) yX12_endsPiece cX12_endsPiece 1 none 1 22 0 0 [.ref (ad 0)] (MW cy ad V J Rr) (fun u : Nat → Nat → Int => MW cy ad u J Rr) (fun u : Nat → Nat → Int => MI G u ∧ pEC f d V u ∧ FBm 590295810358705655296 V u ∧ (f_m_endsPiece V J Rr) u) := by
  refine xMv.mk (lv0 := [(0, .ref (ad 0))]) (by decide) rfl (Nat.le_of_ble_eq_true rfl) (fun p e s m below meth c A C hr hnm hAe => ?_)
  have C : xC2 p s m _ meth c D A s.heap 1 cX12_endsPiece RX12 (xTY cy) := C
  have hB : FBm 590295810358705655296 V V := FBm.rf _ _
  have hF := Imp.of_eq (f_m_endsPiece.eq_def V J Rr)
  obtain ⟨bd23, hbd23, hF⟩ := lop1_ex hF
  refine x_loop (I := fun V23 : (Nat → Nat → Int) => MI G V23 ∧ FBm 590295810358705655296 V V23 ∧ pEC f d V V23 ∧ (∃ nf : Nat, (V23 0 11).toNat < nf ∧ Imp (lop1 nf bd23 V23) (f_m_endsPiece V J Rr))) (μ := fun V23 : (Nat → Nat → Int) => (V23 0 11).toNat) (wsf := fun V23 : (Nat → Nat → Int) => MW cy ad V23 J Rr) (lvf := fun V23 : (Nat → Nat → Int) => [(0, .ref (ad 0))]) (fun V23 hI23x ih23 => ?_) V ⟨hI, hB, (pEC.rf hC hP h0), ⟨_, (Nat.lt_succ_self _), hF⟩⟩ rfl rfl
  obtain ⟨hI23, hB23, hec, nf23, hn23, hF⟩ := hI23x
  try dsimp only
  obtain ⟨nf23, rfl⟩ : ∃ mm, nf23 = mm + 1 := ⟨nf23 - 1, (Nat.succ_pred_eq_of_pos (Nat.lt_of_le_of_lt (Nat.zero_le _) hn23)).symm⟩
  replace hF := hF.to (lop1_s hbd23)
  obtain ⟨z24, ez24, bz24⟩ := hI23.rd 0 5 (x := 0) (y := 220) rfl
  replace hF := hF.to (rdb_e (z := z24) ez24)
  replace hF := hF.fc bz24
  obtain ⟨z25, ez25, bz25⟩ := hI23.rd 0 6 (x := 0) (y := 220) rfl
  replace hF := hF.to (rdb_e (z := z25) ez25)
  replace hF := hF.fc bz25
  obtain ⟨z26, ez26, bz26⟩ := hI23.rd 0 10 (x := 0) (y := 220) rfl
  replace hF := hF.to (rdb_e (z := z26) ez26)
  replace hF := hF.fc bz26
  obtain ⟨z27, ez27, bz27⟩ := hI23.rd 0 11 (x := 0) (y := 220) rfl
  replace hF := hF.to (rdb_e (z := z27) ez27)
  replace hF := hF.fc bz27
  have hc2 := hec.1.1.c200 hec.1.2.1
  rw [ez24, ez26, ez27] at hc2
  have hpz := hec.1.2.1
  unfold PG at hpz
  rw [ez24, ez25, ez26, ez27] at hpz
  refine x_aload_n C.1 dX12_endsPiece_0 0 rfl ?_
  refine x_callVi C (As := []) (rest := []) 0 (xw_at (N := 33) (i := 0) (by decide) rfl) vc_X12 (m_waitTop l D cy ad G V23 J Rr hI23 hJ hR ) (l1 := []) (l2 := []) (List.append_nil _).symm (w2 := fun _ => MW cy ad V23 J Rr) (fun _ => List.append_nil _) rfl wm_yX12_waitTop wn_X12 wl_X12_177 wi_yX12_waitTop we_yX12_waitTop hd_yX12_waitTop rfl ⟨Nat.le_of_ble_eq_true rfl, Nat.le_of_ble_eq_true rfl⟩ (Nat.le_of_ble_eq_true rfl) ⟨Nat.le_of_ble_eq_true rfl, Nat.le_of_ble_eq_true rfl⟩ dX12_endsPiece_1 (fun z28 u28 bz28 h28 => ?_)
  obtain ⟨hx28_0, hFc28⟩ := h28
  replace hF := calR_i hF hFc28
  refine x_bipush C.1 (n := 10) dX12_endsPiece_4 ?_
  refine x_icmp_ne C.1 (tgt := 39) dX12_endsPiece_6 (by decide) (by omega) (by decide) (fun hc29 => ?_) (fun hc29 => ?_)
  · replace hF := hF.to (if_pos hc29)
    exact x_vret (S := (Nat → Nat → Int)) (post := (fun u : Nat → Nat → Int => MI G u ∧ pEC f d V u ∧ FBm 590295810358705655296 V u ∧ (f_m_endsPiece V J Rr) u)) (w1 := (fun u : Nat → Nat → Int => MW cy ad u J Rr)) C hr rfl dX12_endsPiece_39 V23 rfl ⟨hI23, hec, hB23, hF _ rfl⟩
  · replace hF := hF.to (if_neg (fun hh => hh hc29))
    have hm0 := (ptop_n (V := V23) (by omega)).1
    rw [ez27] at hm0
    refine x_aload_n C.1 dX12_endsPiece_9 0 rfl ?_
    refine x_bipush C.1 (n := 10) dX12_endsPiece_10 ?_
    refine x_iconst C.1 (n := 0) dX12_endsPiece_12 ?_
    refine x_callVv C (As := [vI 10, vI 0]) (rest := []) 0 (xw_at (N := 33) (i := 0) (by decide) rfl) vc_X12 (m_notes l D cy ad G V23 J Rr hI23 hJ hR 10 ⟨by decide, by decide⟩ 0 ⟨by decide, by decide⟩ (by rw [ez26]; omega)) (l1 := []) (l2 := []) (List.append_nil _).symm (w2 := fun u : Nat → Nat → Int => MW cy ad u J Rr) (fun _ => List.append_nil _) rfl wm_yX12_notes wn_X12 wl_X12_180 wi_yX12_notes we_yX12_notes hd_yX12_notes rfl ⟨Nat.le_of_ble_eq_true rfl, Nat.le_of_ble_eq_true rfl⟩ (Nat.le_of_ble_eq_true rfl) ⟨Nat.le_of_ble_eq_true rfl, Nat.le_of_ble_eq_true rfl⟩ dX12_endsPiece_13 (fun V30 h30 => ?_)
    obtain ⟨hI30, hx30_0, hBc30, hFc30⟩ := h30
    replace hF := calUM_i hF hFc30 hBc30
    have hB30 := hB23.tr hBc30 (m := 590295810358705652736) rfl
    refine x_aload_n C.1 dX12_endsPiece_16 0 rfl ?_
    refine x_aload_n C.1 dX12_endsPiece_17 0 rfl ?_
    refine x_getI C (N := 33) (i := 0) (by decide) rfl vc_X12 wx_X12 11 (by decide) wf_X12_174 rfl dX12_endsPiece_18 (a := z27) ((congrFun (congrFun hx30_0 0) (11)).trans ((up2_n _ _ (Or.inr (by decide))).trans ((up2_n _ _ (Or.inl (by decide))).trans ez27))) ?_
    refine x_iconst C.1 (n := 1) dX12_endsPiece_21 ?_
    refine x_isub C.1 (v := z27 - 1) (by omega) dX12_endsPiece_22 ?_
    refine x_putI C (N := 33) (i := 0) (by decide) rfl vc_X12 wx_X12 11 (by decide) wf_X12_174 tyX12 tyX12_ok nmX12 rfl (tyX12_ok 11 (by decide)) rfl dX12_endsPiece_23 rfl rfl ?_
    refine x_gV ?_
    intro V31 hV31
    have hI31 : MI G V31 := hI30.up hV31 rfl (by omega) rfl (Or.inl (by decide))
    have hB31 := hB30.up hV31 rfl
    replace hF := hF.to (rdb_e (z := V31) hV31.symm)
    refine x_aload_n C.1 dX12_endsPiece_26 0 rfl ?_
    refine x_aload_n C.1 dX12_endsPiece_27 0 rfl ?_
    obtain ⟨z32, ez32, bz32⟩ := hI31.rd 0 9 (x := -2147483648) (y := 2147483647) rfl
    replace hF := hF.to (rdb_e (z := z32) ez32)
    refine x_getI C (N := 33) (i := 0) (by decide) rfl vc_X12 wx_X12 9 (by decide) wf_X12_171 rfl dX12_endsPiece_28 (a := z32) ez32 ?_
    refine x_iconst C.1 (n := 1) dX12_endsPiece_31 ?_
    refine x_isub C.1 (v := z32 - 1) (by omega) dX12_endsPiece_32 ?_
    refine x_wrapg ?_
    intro z33 bz33 ew33
    replace hF := hF.to (rdb_e (z := z33) ew33.symm)
    refine x_putI C (N := 33) (i := 0) (by decide) rfl vc_X12 wx_X12 9 (by decide) wf_X12_171 tyX12 tyX12_ok nmX12 rfl (tyX12_ok 9 (by decide)) rfl dX12_endsPiece_33 rfl rfl ?_
    refine x_gV ?_
    intro V34 hV34
    have hI34 : MI G V34 := hI31.up hV34 rfl (by omega) rfl (Or.inl (by decide))
    have hB34 := hB31.up hV34 rfl
    replace hF := hF.to (rdb_e (z := V34) hV34.symm)
    refine x_goto C.1 (tgt := 0) dX12_endsPiece_36 (by decide) ?_
    have hm1 := ((congrFun (congrFun hV34 0) 11).trans ((up2_n _ _ (Or.inr (by decide))).trans ((congrFun (congrFun hV31 0) 11).trans (up2_s _ _ _ _))))
    have hm2 := ez27
    have hm3 := (ptop_n (V := V23) (by omega)).1
    have hmu23 : (V34 0 11).toNat < (V23 0 11).toNat := (by omega)
    exact ih23 V34 ⟨hI34, hB34, (pEC.endp (o := z33) hec (by omega) (by rw [hV34, hV31, hx30_0, ez27])), ⟨nf23, Nat.lt_of_lt_of_le hmu23 (Nat.le_of_lt_succ hn23), hF⟩⟩ hmu23
theorem dX12_lands_0 : decode cX12_lands 0 = .ok (.aload_n 0, 1) := by decide +kernel
theorem dX12_lands_1 : decode cX12_lands 1 = .ok (.invokevirtual 177, 3) := by decide +kernel
theorem dX12_lands_4 : decode cX12_lands 4 = .ok (.bipush 11, 2) := by decide +kernel
theorem dX12_lands_6 : decode cX12_lands 6 = .ok (.if_icmp .eq 16, 3) := by decide +kernel
theorem dX12_lands_9 : decode cX12_lands 9 = .ok (.iload_n 1, 1) := by decide +kernel
theorem dX12_lands_10 : decode cX12_lands 10 = .ok (.ifCond .eq 63, 3) := by decide +kernel
theorem dX12_lands_13 : decode cX12_lands 13 = .ok (.aload_n 0, 1) := by decide +kernel
theorem dX12_lands_14 : decode cX12_lands 14 = .ok (.invokevirtual 177, 3) := by decide +kernel
theorem dX12_lands_17 : decode cX12_lands 17 = .ok (.bipush 12, 2) := by decide +kernel
theorem dX12_lands_19 : decode cX12_lands 19 = .ok (.if_icmp .ne 54, 3) := by decide +kernel
theorem dX12_lands_22 : decode cX12_lands 22 = .ok (.aload_n 0, 1) := by decide +kernel
theorem dX12_lands_23 : decode cX12_lands 23 = .ok (.getfield 26, 3) := by decide +kernel
theorem dX12_lands_26 : decode cX12_lands 26 = .ok (.aload_n 0, 1) := by decide +kernel
theorem dX12_lands_27 : decode cX12_lands 27 = .ok (.getfield 174, 3) := by decide +kernel
theorem dX12_lands_30 : decode cX12_lands 30 = .ok (.iconst 1, 1) := by decide +kernel
theorem dX12_lands_31 : decode cX12_lands 31 = .ok (.isub, 1) := by decide +kernel
theorem dX12_lands_32 : decode cX12_lands 32 = .ok (.iaload, 1) := by decide +kernel
theorem dX12_lands_33 : decode cX12_lands 33 = .ok (.ldc 170, 2) := by decide +kernel
theorem dX12_lands_35 : decode cX12_lands 35 = .ok (.irem, 1) := by decide +kernel
theorem dX12_lands_36 : decode cX12_lands 36 = .ok (.istore_n 2, 1) := by decide +kernel
theorem dX12_lands_37 : decode cX12_lands 37 = .ok (.aload_n 0, 1) := by decide +kernel
theorem dX12_lands_38 : decode cX12_lands 38 = .ok (.getfield 23, 3) := by decide +kernel
theorem dX12_lands_41 : decode cX12_lands 41 = .ok (.iload_n 2, 1) := by decide +kernel
theorem dX12_lands_42 : decode cX12_lands 42 = .ok (.ldc 170, 2) := by decide +kernel
theorem dX12_lands_44 : decode cX12_lands 44 = .ok (.aload_n 0, 1) := by decide +kernel
theorem dX12_lands_45 : decode cX12_lands 45 = .ok (.getfield 23, 3) := by decide +kernel
theorem dX12_lands_48 : decode cX12_lands 48 = .ok (.iload_n 2, 1) := by decide +kernel
theorem dX12_lands_49 : decode cX12_lands 49 = .ok (.iaload, 1) := by decide +kernel
theorem dX12_lands_50 : decode cX12_lands 50 = .ok (.ldc 170, 2) := by decide +kernel
theorem dX12_lands_52 : decode cX12_lands 52 = .ok (.idiv, 1) := by decide +kernel
theorem dX12_lands_53 : decode cX12_lands 53 = .ok (.imul, 1) := by decide +kernel
theorem dX12_lands_54 : decode cX12_lands 54 = .ok (.aload_n 0, 1) := by decide +kernel
theorem dX12_lands_55 : decode cX12_lands 55 = .ok (.getfield 167, 3) := by decide +kernel
theorem dX12_lands_58 : decode cX12_lands 58 = .ok (.iadd, 1) := by decide +kernel
theorem dX12_lands_59 : decode cX12_lands 59 = .ok (.iastore, 1) := by decide +kernel
theorem dX12_lands_60 : decode cX12_lands 60 = .ok (.aload_n 0, 1) := by decide +kernel
theorem dX12_lands_61 : decode cX12_lands 61 = .ok (.aload_n 0, 1) := by decide +kernel
theorem dX12_lands_62 : decode cX12_lands 62 = .ok (.getfield 174, 3) := by decide +kernel
theorem dX12_lands_65 : decode cX12_lands 65 = .ok (.iconst 1, 1) := by decide +kernel
theorem dX12_lands_66 : decode cX12_lands 66 = .ok (.isub, 1) := by decide +kernel
theorem dX12_lands_67 : decode cX12_lands 67 = .ok (.putfield 174, 3) := by decide +kernel
theorem dX12_lands_70 : decode cX12_lands 70 = .ok (.goto (-70), 3) := by decide +kernel
theorem dX12_lands_73 : decode cX12_lands 73 = .ok (.return_, 1) := by decide +kernel
set_option maxRecDepth 100000 in
def f_m_lands (x1 : Int) (V : Nat → Nat → Int) (J : Nat → Nat → Int) (Rr : Nat → Nat → Nat) : (Nat → Nat → Int) → Prop :=
  lop1 ((V 0 11).toNat + 1) (fun rc47 (V47 : Nat → Nat → Int) => rdb (V47 0 5) fun z48 => fct (0 ≤ z48 ∧ z48 ≤ 220) <| rdb (V47 0 6) fun z49 => fct (0 ≤ z49 ∧ z49 ≤ 220) <| rdb (V47 0 10) fun z50 => fct (0 ≤ z50 ∧ z50 ≤ 220) <| rdb (V47 0 11) fun z51 => fct (0 ≤ z51 ∧ z51 ≤ 220) <| calR (f_m_waitTop V47 J Rr) fun z52 => (if z52 = 11 then rdb (V47 6 ((z51 - 1).toNat)) fun z54 => rdb (iRem z54 1048576) fun z55 => fct (-1048575 ≤ z55 ∧ z55 ≤ 1048575) <| rdb (V47 5 z55.toNat) fun z57 => rdb (iDiv z57 1048576) fun z58 => rdb (up2 V47 5 z55.toNat (1048576 * z58 + z50)) fun V59 => rdb (up2 V59 0 11 (z51 - 1)) fun V60 => rc47 V60 else (if x1 = 0 then rtn V47 else calR (f_m_waitTop V47 J Rr) fun z62 => (if ¬ z62 = 12 then rtn V47 else rdb (V47 6 ((z51 - 1).toNat)) fun z64 => rdb (iRem z64 1048576) fun z65 => fct (-1048575 ≤ z65 ∧ z65 ≤ 1048575) <| rdb (V47 5 z65.toNat) fun z67 => rdb (iDiv z67 1048576) fun z68 => rdb (up2 V47 5 z65.toNat (1048576 * z68 + z50)) fun V69 => rdb (up2 V69 0 11 (z51 - 1)) fun V70 => rc47 V70)))) V
set_option maxHeartbeats 8000000 in
set_option maxRecDepth 100000 in
theorem m_lands (l : Launch) (D : va_G) (cy : Nat → ClassId) (ad : Nat → Nat) (G : Nat → Nat → Int) (V J : Nat → Nat → Int) (Rr : Nat → Nat → Nat) (hI : MI G V) (hJ : VJ J) (hR : MR Rr) (x1 : Int) (bx1 : 0 ≤ x1 ∧ x1 ≤ 1) (f d : Int) (hC : CI f d 1 V) (hP : PG V) (h0 : 0 < V 0 11) : xMv l D (xTY cy) yX12_lands cX12_lands 3 none 1 20 0 0 [.ref (ad 0), vI x1] (MW cy ad V J Rr) (fun u : Nat → Nat → Int => MW cy ad u J Rr) (fun u : Nat → Nat → Int => MI G u ∧ pEC f d V u ∧ (x1 = 1 → ¬ pjm (ptop u)) ∧ FBm 590295810358705653760 V u ∧ (f_m_lands x1 V J Rr) u) := by
  refine xMv.mk (lv0 := [(0, .ref (ad 0)), (1, vI x1)]) (by decide) rfl (Nat.le_of_ble_eq_true rfl) (fun p e s m below meth c A C hr hnm hAe => ?_)
  have C : xC2 p s m _ meth c D A s.heap 3 cX12_lands RX12 (xTY cy) := C
  have hB : FBm 590295810358705653760 V V := FBm.rf _ _
  have hF := Imp.of_eq (f_m_lands.eq_def x1 V J Rr)
  obtain ⟨bd47, hbd47, hF⟩ := lop1_ex hF
  refine x_loop (I := fun V47 : (Nat → Nat → Int) => MI G V47 ∧ FBm 590295810358705653760 V V47 ∧ pEC f d V V47 ∧ (∃ nf : Nat, (V47 0 11).toNat < nf ∧ Imp (lop1 nf bd47 V47) (f_m_lands x1 V J Rr))) (μ := fun V47 : (Nat → Nat → Int) => (V47 0 11).toNat) (wsf := fun V47 : (Nat → Nat → Int) => MW cy ad V47 J Rr) (lvf := fun V47 : (Nat → Nat → Int) => [(0, .ref (ad 0)), (1, vI x1)]) (fun V47 hI47x ih47 => ?_) V ⟨hI, hB, (pEC.rf hC hP h0), ⟨_, (Nat.lt_succ_self _), hF⟩⟩ rfl rfl
  obtain ⟨hI47, hB47, hec, nf47, hn47, hF⟩ := hI47x
  try dsimp only
  obtain ⟨nf47, rfl⟩ : ∃ mm, nf47 = mm + 1 := ⟨nf47 - 1, (Nat.succ_pred_eq_of_pos (Nat.lt_of_le_of_lt (Nat.zero_le _) hn47)).symm⟩
  replace hF := hF.to (lop1_s hbd47)
  obtain ⟨z48, ez48, bz48⟩ := hI47.rd 0 5 (x := 0) (y := 220) rfl
  replace hF := hF.to (rdb_e (z := z48) ez48)
  replace hF := hF.fc bz48
  obtain ⟨z49, ez49, bz49⟩ := hI47.rd 0 6 (x := 0) (y := 220) rfl
  replace hF := hF.to (rdb_e (z := z49) ez49)
  replace hF := hF.fc bz49
  obtain ⟨z50, ez50, bz50⟩ := hI47.rd 0 10 (x := 0) (y := 220) rfl
  replace hF := hF.to (rdb_e (z := z50) ez50)
  replace hF := hF.fc bz50
  obtain ⟨z51, ez51, bz51⟩ := hI47.rd 0 11 (x := 0) (y := 220) rfl
  replace hF := hF.to (rdb_e (z := z51) ez51)
  replace hF := hF.fc bz51
  have hc2 := hec.1.1.c200 hec.1.2.1
  rw [ez48, ez50, ez51] at hc2
  have hpz := hec.1.2.1
  unfold PG at hpz
  rw [ez48, ez49, ez50, ez51] at hpz
  refine x_aload_n C.1 dX12_lands_0 0 rfl ?_
  refine x_callVi C (As := []) (rest := []) 0 (xw_at (N := 33) (i := 0) (by decide) rfl) vc_X12 (m_waitTop l D cy ad G V47 J Rr hI47 hJ hR ) (l1 := []) (l2 := []) (List.append_nil _).symm (w2 := fun _ => MW cy ad V47 J Rr) (fun _ => List.append_nil _) rfl wm_yX12_waitTop wn_X12 wl_X12_177 wi_yX12_waitTop we_yX12_waitTop hd_yX12_waitTop rfl ⟨Nat.le_of_ble_eq_true rfl, Nat.le_of_ble_eq_true rfl⟩ (Nat.le_of_ble_eq_true rfl) ⟨Nat.le_of_ble_eq_true rfl, Nat.le_of_ble_eq_true rfl⟩ dX12_lands_1 (fun z52 u52 bz52 h52 => ?_)
  obtain ⟨hx52_0, hFc52⟩ := h52
  replace hF := calR_i hF hFc52
  refine x_bipush C.1 (n := 11) dX12_lands_4 ?_
  refine x_icmp_eq C.1 (tgt := 22) dX12_lands_6 (by decide) (by omega) (by decide) (fun hc53 => ?_) (fun hc53 => ?_)
  · replace hF := hF.to (if_pos hc53)
    have hm0 := (ptop_n (V := V47) (by omega)).1
    rw [ez51] at hm0
    refine x_aload_n C.1 dX12_lands_22 0 rfl ?_
    refine x_getA C (N := 33) (i := 0) (by decide) rfl vc_X12 wx_X12 14 (by decide) wf_X12_26 (a := 6) rfl dX12_lands_23 ?_
    refine x_aload_n C.1 dX12_lands_26 0 rfl ?_
    refine x_getI C (N := 33) (i := 0) (by decide) rfl vc_X12 wx_X12 11 (by decide) wf_X12_174 rfl dX12_lands_27 (a := z51) ez51 ?_
    refine x_iconst C.1 (n := 1) dX12_lands_30 ?_
    refine x_isub C.1 (v := z51 - 1) (by omega) dX12_lands_31 ?_
    obtain ⟨z54, ez54, bz54⟩ := hI47.rd 6 ((z51 - 1).toNat) (x := -2147483648) (y := 2147483647) rfl
    replace hF := hF.to (rdb_e (z := z54) ez54)
    refine x_iald C (N := 33) (i := 6) (q := z51 - 1) (by decide) rfl (by omega) (by decide) dX12_lands_32 (a := z54) ez54 ?_
    refine x_ldc C.1 (n := 1048576) wq_X12_170 dX12_lands_33 ?_
    obtain ⟨z55, hz55, bz55⟩ : ∃ z : Int, iRem z54 1048576 = z ∧ (-1048575 ≤ z ∧ z ≤ 1048575) := ⟨_, rfl, iRem_m (by omega) (by omega)⟩
    replace hF := hF.to (rdb_e (z := z55) hz55)
    replace hF := hF.fc bz55
    refine x_irem C.1 (v := z55) hz55 dX12_lands_35 (by decide) (by decide) ?_
    have hpf : prm (V47 6 (V47 0 11 - 1).toNat) = z55 := by unfold prm; rw [ez51, ez54]; exact hz55
    have hj := hec.1.1.jq hec.1.2.2.2 (by unfold pjm; omega)
    rw [hpf] at hj
    obtain ⟨hj1, hj2, hj3⟩ := hj
    rw [ez50] at hj2
    have hfl := hec.1.1.fl.1
    have hzn : 0 ≤ z55 ∧ z55 ≤ 219 := ⟨Int.le_trans hfl hj1, Int.le_of_lt (Int.lt_of_lt_of_le hj2 (Int.le_trans hc2.1 (by decide)))⟩
    clear bz55 hj1 hj2 hfl
    refine x_istore_n C.1 (lv' := [(2, vI z55), (0, .ref (ad 0)), (1, vI x1)]) dX12_lands_36 (by decide) rfl ?_
    refine x_aload_n C.1 dX12_lands_37 1 rfl ?_
    refine x_getA C (N := 33) (i := 0) (by decide) rfl vc_X12 wx_X12 13 (by decide) wf_X12_23 (a := 5) rfl dX12_lands_38 ?_
    refine x_iload_n C.1 dX12_lands_41 0 rfl ?_
    refine x_ldc C.1 (n := 1048576) wq_X12_170 dX12_lands_42 ?_
    refine x_aload_n C.1 dX12_lands_44 1 rfl ?_
    refine x_getA C (N := 33) (i := 0) (by decide) rfl vc_X12 wx_X12 13 (by decide) wf_X12_23 (a := 5) rfl dX12_lands_45 ?_
    refine x_iload_n C.1 dX12_lands_48 0 rfl ?_
    obtain ⟨z57, ez57, bz57⟩ := hI47.rd 5 z55.toNat (x := -2147483648) (y := 2147483647) rfl
    replace hF := hF.to (rdb_e (z := z57) ez57)
    refine x_iald C (N := 33) (i := 5) (q := z55) (by decide) rfl ⟨hzn.1, Int.lt_of_le_of_lt hzn.2 (by decide)⟩ (by decide) dX12_lands_49 (a := z57) ez57 ?_
    refine x_ldc C.1 (n := 1048576) wq_X12_170 dX12_lands_50 ?_
    obtain ⟨z58, hz58, bz58⟩ : ∃ z : Int, iDiv z57 1048576 = z ∧ (-2147483648 ≤ z ∧ z ≤ 2147483647) := ⟨_, rfl, xi_r _⟩
    replace hF := hF.to (rdb_e (z := z58) hz58)
    refine x_idiv C.1 (v := z58) hz58 dX12_lands_52 (by decide) (by decide) ?_
    rw [ez57] at hj3
    obtain ⟨hde, hdb⟩ := hj3.d bz57.2 hz58
    clear bz58 bz57
    refine x_imul C.1 (v := 1048576 * z58) (by omega) dX12_lands_53 ?_
    refine x_aload_n C.1 dX12_lands_54 1 rfl ?_
    refine x_getI C (N := 33) (i := 0) (by decide) rfl vc_X12 wx_X12 10 (by decide) wf_X12_167 rfl dX12_lands_55 (a := z50) ez50 ?_
    refine x_iadd C.1 (v := 1048576 * z58 + z50) (by omega) dX12_lands_58 ?_
    refine x_iast C (N := 33) (i := 5) (q := z55) (a := 1048576 * z58 + z50) (by decide) rfl ⟨hzn.1, Int.lt_of_le_of_lt hzn.2 (by decide)⟩ (by decide) dX12_lands_59 ?_
    refine x_gV ?_
    intro V59 hV59
    have hI59 : MI G V59 := hI47.up hV59 rfl (by omega) rfl (Or.inl (by decide))
    have hB59 := hB47.up hV59 (by rw [mkey_r (by decide)]; rfl)
    replace hF := hF.to (rdb_e (z := V59) hV59.symm)
    refine x_aload_n C.1 dX12_lands_60 1 rfl ?_
    refine x_aload_n C.1 dX12_lands_61 1 rfl ?_
    refine x_getI C (N := 33) (i := 0) (by decide) rfl vc_X12 wx_X12 11 (by decide) wf_X12_174 rfl dX12_lands_62 (a := z51) ((congrFun (congrFun hV59 0) 11).trans ((up2_n _ _ (Or.inl (by decide))).trans ez51)) ?_
    refine x_iconst C.1 (n := 1) dX12_lands_65 ?_
    refine x_isub C.1 (v := z51 - 1) (by omega) dX12_lands_66 ?_
    refine x_putI C (N := 33) (i := 0) (by decide) rfl vc_X12 wx_X12 11 (by decide) wf_X12_174 tyX12 tyX12_ok nmX12 rfl (tyX12_ok 11 (by decide)) rfl dX12_lands_67 rfl rfl ?_
    refine x_gV ?_
    intro V60 hV60
    have hI60 : MI G V60 := hI59.up hV60 rfl (by omega) rfl (Or.inl (by decide))
    have hB60 := hB59.up hV60 rfl
    replace hF := hF.to (rdb_e (z := V60) hV60.symm)
    refine x_goto C.1 (tgt := 0) dX12_lands_70 (by decide) ?_
    refine x_lv [(0, .ref (ad 0)), (1, vI x1)] [1, 2] rfl ?_
    have hm1 := ((congrFun (congrFun hV60 0) 11).trans (up2_s _ _ _ _))
    have hm2 := ez51
    have hmu47 : (V60 0 11).toNat < (V47 0 11).toNat := (by omega)
    exact ih47 V60 ⟨hI60, hB60, (pEC.lnd (q := z55.toNat) (wd := 1048576 * z58 + z50) hec (by unfold pjm; omega) (by rw [Int.toNat_of_nonneg hzn.1]; exact hpf.symm) (by unfold pdq at hde; rw [ez57, ez50, hde]) (by rw [hV60, hV59, ez51])), ⟨nf47, Nat.lt_of_lt_of_le hmu47 (Nat.le_of_lt_succ hn47), hF⟩⟩ hmu47
  · replace hF := hF.to (if_neg hc53)
    refine x_iload_n C.1 dX12_lands_9 1 rfl ?_
    refine x_if_eq C.1 (tgt := 73) dX12_lands_10 (by decide) (by omega) (fun hc61 => ?_) (fun hc61 => ?_)
    · replace hF := hF.to (if_pos hc61)
      exact x_vret (S := (Nat → Nat → Int)) (post := (fun u : Nat → Nat → Int => MI G u ∧ pEC f d V u ∧ (x1 = 1 → ¬ pjm (ptop u)) ∧ FBm 590295810358705653760 V u ∧ (f_m_lands x1 V J Rr) u)) (w1 := (fun u : Nat → Nat → Int => MW cy ad u J Rr)) C hr rfl dX12_lands_73 V47 rfl ⟨hI47, hec, (fun h1 => by unfold pjm; omega), hB47, hF _ rfl⟩
    · replace hF := hF.to (if_neg hc61)
      refine x_aload_n C.1 dX12_lands_13 0 rfl ?_
      refine x_callVi C (As := []) (rest := []) 0 (xw_at (N := 33) (i := 0) (by decide) rfl) vc_X12 (m_waitTop l D cy ad G V47 J Rr hI47 hJ hR ) (l1 := []) (l2 := []) (List.append_nil _).symm (w2 := fun _ => MW cy ad V47 J Rr) (fun _ => List.append_nil _) rfl wm_yX12_waitTop wn_X12 wl_X12_177 wi_yX12_waitTop we_yX12_waitTop hd_yX12_waitTop rfl ⟨Nat.le_of_ble_eq_true rfl, Nat.le_of_ble_eq_true rfl⟩ (Nat.le_of_ble_eq_true rfl) ⟨Nat.le_of_ble_eq_true rfl, Nat.le_of_ble_eq_true rfl⟩ dX12_lands_14 (fun z62 u62 bz62 h62 => ?_)
      obtain ⟨hx62_0, hFc62⟩ := h62
      replace hF := calR_i hF hFc62
      refine x_bipush C.1 (n := 12) dX12_lands_17 ?_
      refine x_icmp_ne C.1 (tgt := 73) dX12_lands_19 (by decide) (by omega) (by decide) (fun hc63 => ?_) (fun hc63 => ?_)
      · replace hF := hF.to (if_pos hc63)
        exact x_vret (S := (Nat → Nat → Int)) (post := (fun u : Nat → Nat → Int => MI G u ∧ pEC f d V u ∧ (x1 = 1 → ¬ pjm (ptop u)) ∧ FBm 590295810358705653760 V u ∧ (f_m_lands x1 V J Rr) u)) (w1 := (fun u : Nat → Nat → Int => MW cy ad u J Rr)) C hr rfl dX12_lands_73 V47 rfl ⟨hI47, hec, (fun h1 => by unfold pjm; omega), hB47, hF _ rfl⟩
      · replace hF := hF.to (if_neg (fun hh => hh hc63))
        have hm0 := (ptop_n (V := V47) (by omega)).1
        rw [ez51] at hm0
        refine x_aload_n C.1 dX12_lands_22 0 rfl ?_
        refine x_getA C (N := 33) (i := 0) (by decide) rfl vc_X12 wx_X12 14 (by decide) wf_X12_26 (a := 6) rfl dX12_lands_23 ?_
        refine x_aload_n C.1 dX12_lands_26 0 rfl ?_
        refine x_getI C (N := 33) (i := 0) (by decide) rfl vc_X12 wx_X12 11 (by decide) wf_X12_174 rfl dX12_lands_27 (a := z51) ez51 ?_
        refine x_iconst C.1 (n := 1) dX12_lands_30 ?_
        refine x_isub C.1 (v := z51 - 1) (by omega) dX12_lands_31 ?_
        obtain ⟨z64, ez64, bz64⟩ := hI47.rd 6 ((z51 - 1).toNat) (x := -2147483648) (y := 2147483647) rfl
        replace hF := hF.to (rdb_e (z := z64) ez64)
        refine x_iald C (N := 33) (i := 6) (q := z51 - 1) (by decide) rfl (by omega) (by decide) dX12_lands_32 (a := z64) ez64 ?_
        refine x_ldc C.1 (n := 1048576) wq_X12_170 dX12_lands_33 ?_
        obtain ⟨z65, hz65, bz65⟩ : ∃ z : Int, iRem z64 1048576 = z ∧ (-1048575 ≤ z ∧ z ≤ 1048575) := ⟨_, rfl, iRem_m (by omega) (by omega)⟩
        replace hF := hF.to (rdb_e (z := z65) hz65)
        replace hF := hF.fc bz65
        refine x_irem C.1 (v := z65) hz65 dX12_lands_35 (by decide) (by decide) ?_
        have hpf : prm (V47 6 (V47 0 11 - 1).toNat) = z65 := by unfold prm; rw [ez51, ez64]; exact hz65
        have hj := hec.1.1.jq hec.1.2.2.2 (by unfold pjm; omega)
        rw [hpf] at hj
        obtain ⟨hj1, hj2, hj3⟩ := hj
        rw [ez50] at hj2
        have hfl := hec.1.1.fl.1
        have hzn : 0 ≤ z65 ∧ z65 ≤ 219 := ⟨Int.le_trans hfl hj1, Int.le_of_lt (Int.lt_of_lt_of_le hj2 (Int.le_trans hc2.1 (by decide)))⟩
        clear bz65 hj1 hj2 hfl
        refine x_istore_n C.1 (lv' := [(2, vI z65), (0, .ref (ad 0)), (1, vI x1)]) dX12_lands_36 (by decide) rfl ?_
        refine x_aload_n C.1 dX12_lands_37 1 rfl ?_
        refine x_getA C (N := 33) (i := 0) (by decide) rfl vc_X12 wx_X12 13 (by decide) wf_X12_23 (a := 5) rfl dX12_lands_38 ?_
        refine x_iload_n C.1 dX12_lands_41 0 rfl ?_
        refine x_ldc C.1 (n := 1048576) wq_X12_170 dX12_lands_42 ?_
        refine x_aload_n C.1 dX12_lands_44 1 rfl ?_
        refine x_getA C (N := 33) (i := 0) (by decide) rfl vc_X12 wx_X12 13 (by decide) wf_X12_23 (a := 5) rfl dX12_lands_45 ?_
        refine x_iload_n C.1 dX12_lands_48 0 rfl ?_
        obtain ⟨z67, ez67, bz67⟩ := hI47.rd 5 z65.toNat (x := -2147483648) (y := 2147483647) rfl
        replace hF := hF.to (rdb_e (z := z67) ez67)
        refine x_iald C (N := 33) (i := 5) (q := z65) (by decide) rfl ⟨hzn.1, Int.lt_of_le_of_lt hzn.2 (by decide)⟩ (by decide) dX12_lands_49 (a := z67) ez67 ?_
        refine x_ldc C.1 (n := 1048576) wq_X12_170 dX12_lands_50 ?_
        obtain ⟨z68, hz68, bz68⟩ : ∃ z : Int, iDiv z67 1048576 = z ∧ (-2147483648 ≤ z ∧ z ≤ 2147483647) := ⟨_, rfl, xi_r _⟩
        replace hF := hF.to (rdb_e (z := z68) hz68)
        refine x_idiv C.1 (v := z68) hz68 dX12_lands_52 (by decide) (by decide) ?_
        rw [ez67] at hj3
        obtain ⟨hde, hdb⟩ := hj3.d bz67.2 hz68
        clear bz68 bz67
        refine x_imul C.1 (v := 1048576 * z68) (by omega) dX12_lands_53 ?_
        refine x_aload_n C.1 dX12_lands_54 1 rfl ?_
        refine x_getI C (N := 33) (i := 0) (by decide) rfl vc_X12 wx_X12 10 (by decide) wf_X12_167 rfl dX12_lands_55 (a := z50) ez50 ?_
        refine x_iadd C.1 (v := 1048576 * z68 + z50) (by omega) dX12_lands_58 ?_
        refine x_iast C (N := 33) (i := 5) (q := z65) (a := 1048576 * z68 + z50) (by decide) rfl ⟨hzn.1, Int.lt_of_le_of_lt hzn.2 (by decide)⟩ (by decide) dX12_lands_59 ?_
        refine x_gV ?_
        intro V69 hV69
        have hI69 : MI G V69 := hI47.up hV69 rfl (by omega) rfl (Or.inl (by decide))
        have hB69 := hB47.up hV69 (by rw [mkey_r (by decide)]; rfl)
        replace hF := hF.to (rdb_e (z := V69) hV69.symm)
        refine x_aload_n C.1 dX12_lands_60 1 rfl ?_
        refine x_aload_n C.1 dX12_lands_61 1 rfl ?_
        refine x_getI C (N := 33) (i := 0) (by decide) rfl vc_X12 wx_X12 11 (by decide) wf_X12_174 rfl dX12_lands_62 (a := z51) ((congrFun (congrFun hV69 0) 11).trans ((up2_n _ _ (Or.inl (by decide))).trans ez51)) ?_
        refine x_iconst C.1 (n := 1) dX12_lands_65 ?_
        refine x_isub C.1 (v := z51 - 1) (by omega) dX12_lands_66 ?_
        refine x_putI C (N := 33) (i := 0) (by decide) rfl vc_X12 wx_X12 11 (by decide) wf_X12_174 tyX12 tyX12_ok nmX12 rfl (tyX12_ok 11 (by decide)) rfl dX12_lands_67 rfl rfl ?_
        refine x_gV ?_
        intro V70 hV70
        have hI70 : MI G V70 := hI69.up hV70 rfl (by omega) rfl (Or.inl (by decide))
        have hB70 := hB69.up hV70 rfl
        replace hF := hF.to (rdb_e (z := V70) hV70.symm)
        refine x_goto C.1 (tgt := 0) dX12_lands_70 (by decide) ?_
        refine x_lv [(0, .ref (ad 0)), (1, vI x1)] [1, 2] rfl ?_
        have hm1 := ((congrFun (congrFun hV70 0) 11).trans (up2_s _ _ _ _))
        have hm2 := ez51
        have hmu47 : (V70 0 11).toNat < (V47 0 11).toNat := (by omega)
        exact ih47 V70 ⟨hI70, hB70, (pEC.lnd (q := z65.toNat) (wd := 1048576 * z68 + z50) hec (by unfold pjm; omega) (by rw [Int.toNat_of_nonneg hzn.1]; exact hpf.symm) (by unfold pdq at hde; rw [ez67, ez50, hde]) (by rw [hV70, hV69, ez51])), ⟨nf47, Nat.lt_of_lt_of_le hmu47 (Nat.le_of_lt_succ hn47), hF⟩⟩ hmu47
theorem dX12_jumps_0 : decode cX12_jumps 0 = .ok (.aload_n 0, 1) := by decide +kernel
theorem dX12_jumps_1 : decode cX12_jumps 1 = .ok (.getfield 26, 3) := by decide +kernel
theorem dX12_jumps_4 : decode cX12_jumps 4 = .ok (.aload_n 0, 1) := by decide +kernel
theorem dX12_jumps_5 : decode cX12_jumps 5 = .ok (.getfield 174, 3) := by decide +kernel
theorem dX12_jumps_8 : decode cX12_jumps 8 = .ok (.ldc 170, 2) := by decide +kernel
theorem dX12_jumps_10 : decode cX12_jumps 10 = .ok (.iload_n 1, 1) := by decide +kernel
theorem dX12_jumps_11 : decode cX12_jumps 11 = .ok (.imul, 1) := by decide +kernel
theorem dX12_jumps_12 : decode cX12_jumps 12 = .ok (.aload_n 0, 1) := by decide +kernel
theorem dX12_jumps_13 : decode cX12_jumps 13 = .ok (.getfield 167, 3) := by decide +kernel
theorem dX12_jumps_16 : decode cX12_jumps 16 = .ok (.iadd, 1) := by decide +kernel
theorem dX12_jumps_17 : decode cX12_jumps 17 = .ok (.iastore, 1) := by decide +kernel
theorem dX12_jumps_18 : decode cX12_jumps 18 = .ok (.aload_n 0, 1) := by decide +kernel
theorem dX12_jumps_19 : decode cX12_jumps 19 = .ok (.aload_n 0, 1) := by decide +kernel
theorem dX12_jumps_20 : decode cX12_jumps 20 = .ok (.getfield 174, 3) := by decide +kernel
theorem dX12_jumps_23 : decode cX12_jumps 23 = .ok (.iconst 1, 1) := by decide +kernel
theorem dX12_jumps_24 : decode cX12_jumps 24 = .ok (.iadd, 1) := by decide +kernel
theorem dX12_jumps_25 : decode cX12_jumps 25 = .ok (.putfield 174, 3) := by decide +kernel
theorem dX12_jumps_28 : decode cX12_jumps 28 = .ok (.aload_n 0, 1) := by decide +kernel
theorem dX12_jumps_29 : decode cX12_jumps 29 = .ok (.iload_n 1, 1) := by decide +kernel
theorem dX12_jumps_30 : decode cX12_jumps 30 = .ok (.iconst 0, 1) := by decide +kernel
theorem dX12_jumps_31 : decode cX12_jumps 31 = .ok (.invokevirtual 180, 3) := by decide +kernel
theorem dX12_jumps_34 : decode cX12_jumps 34 = .ok (.aload_n 0, 1) := by decide +kernel
theorem dX12_jumps_35 : decode cX12_jumps 35 = .ok (.aload_n 0, 1) := by decide +kernel
theorem dX12_jumps_36 : decode cX12_jumps 36 = .ok (.getfield 144, 3) := by decide +kernel
theorem dX12_jumps_39 : decode cX12_jumps 39 = .ok (.iconst 1, 1) := by decide +kernel
theorem dX12_jumps_40 : decode cX12_jumps 40 = .ok (.iadd, 1) := by decide +kernel
theorem dX12_jumps_41 : decode cX12_jumps 41 = .ok (.putfield 144, 3) := by decide +kernel
theorem dX12_jumps_44 : decode cX12_jumps 44 = .ok (.return_, 1) := by decide +kernel
set_option maxRecDepth 100000 in
def f_m_jumps (x1 : Int) (V : Nat → Nat → Int) (J : Nat → Nat → Int) (Rr : Nat → Nat → Nat) : (Nat → Nat → Int) → Prop :=
  rdb (V 0 5) fun z1 => fct (0 ≤ z1 ∧ z1 ≤ 220) <| rdb (V 0 6) fun z2 => fct (0 ≤ z2 ∧ z2 ≤ 220) <| rdb (V 0 10) fun z3 => fct (0 ≤ z3 ∧ z3 ≤ 220) <| rdb (V 0 11) fun z4 => fct (0 ≤ z4 ∧ z4 ≤ 220) <| rdb (up2 V 6 z4.toNat (1048576 * x1 + z3)) fun V5 => rdb (up2 V5 0 11 (z4 + 1)) fun V6 => calUM 590295810358705652736 V6 (f_m_notes x1 0 V6 J Rr) fun V7 => rdb (up2 V7 0 5 (z1 + 1)) fun V8 => rtn V8
set_option maxHeartbeats 8000000 in
set_option maxRecDepth 100000 in
theorem m_jumps (l : Launch) (D : va_G) (cy : Nat → ClassId) (ad : Nat → Nat) (G : Nat → Nat → Int) (V J : Nat → Nat → Int) (Rr : Nat → Nat → Nat) (hI : MI G V) (hJ : VJ J) (hR : MR Rr) (x1 : Int) (bx1 : 11 ≤ x1 ∧ x1 ≤ 12) (f d : Int) (hC : CI f d 1 V) (hP : PG V) (h0 : 0 < V 0 11) (hpl : V 0 5 < V 0 6) : xMv l D (xTY cy) yX12_jumps cX12_jumps 2 none 1 22 0 0 [.ref (ad 0), vI x1] (MW cy ad V J Rr) (fun u : Nat → Nat → Int => MW cy ad u J Rr) (fun u : Nat → Nat → Int => MI G u ∧ (pQ f d 0 V u ∧ V 0 5 < u 0 5) ∧ FBm 1770887431076116958240 V u ∧ (f_m_jumps x1 V J Rr) u) := by
  refine xMv.mk (lv0 := [(0, .ref (ad 0)), (1, vI x1)]) (by decide) rfl (Nat.le_of_ble_eq_true rfl) (fun p e s m below meth c A C hr hnm hAe => ?_)
  have C : xC2 p s m _ meth c D A s.heap 2 cX12_jumps RX12 (xTY cy) := C
  have hB : FBm 1770887431076116958240 V V := FBm.rf _ _
  have hF := Imp.of_eq (f_m_jumps.eq_def x1 V J Rr)
  obtain ⟨z1, ez1, bz1⟩ := hI.rd 0 5 (x := 0) (y := 220) rfl
  replace hF := hF.to (rdb_e (z := z1) ez1)
  replace hF := hF.fc bz1
  obtain ⟨z2, ez2, bz2⟩ := hI.rd 0 6 (x := 0) (y := 220) rfl
  replace hF := hF.to (rdb_e (z := z2) ez2)
  replace hF := hF.fc bz2
  obtain ⟨z3, ez3, bz3⟩ := hI.rd 0 10 (x := 0) (y := 220) rfl
  replace hF := hF.to (rdb_e (z := z3) ez3)
  replace hF := hF.fc bz3
  obtain ⟨z4, ez4, bz4⟩ := hI.rd 0 11 (x := 0) (y := 220) rfl
  replace hF := hF.to (rdb_e (z := z4) ez4)
  replace hF := hF.fc bz4
  have hc2 := hC.c200 hP
  rw [ez1, ez3, ez4] at hc2
  have hpz := hP
  unfold PG at hpz
  rw [ez1, ez2, ez3, ez4] at hpz
  rw [ez1, ez2] at hpl
  refine x_aload_n C.1 dX12_jumps_0 0 rfl ?_
  refine x_getA C (N := 33) (i := 0) (by decide) rfl vc_X12 wx_X12 14 (by decide) wf_X12_26 (a := 6) rfl dX12_jumps_1 ?_
  refine x_aload_n C.1 dX12_jumps_4 0 rfl ?_
  refine x_getI C (N := 33) (i := 0) (by decide) rfl vc_X12 wx_X12 11 (by decide) wf_X12_174 rfl dX12_jumps_5 (a := z4) ez4 ?_
  refine x_ldc C.1 (n := 1048576) wq_X12_170 dX12_jumps_8 ?_
  refine x_iload_n C.1 dX12_jumps_10 1 rfl ?_
  refine x_imul C.1 (v := 1048576 * x1) (by omega) dX12_jumps_11 ?_
  refine x_aload_n C.1 dX12_jumps_12 0 rfl ?_
  refine x_getI C (N := 33) (i := 0) (by decide) rfl vc_X12 wx_X12 10 (by decide) wf_X12_167 rfl dX12_jumps_13 (a := z3) ez3 ?_
  refine x_iadd C.1 (v := 1048576 * x1 + z3) (by omega) dX12_jumps_16 ?_
  refine x_iast C (N := 33) (i := 6) (q := z4) (a := 1048576 * x1 + z3) (by decide) rfl (by omega) (by decide) dX12_jumps_17 ?_
  refine x_gV ?_
  intro V5 hV5
  have hI5 : MI G V5 := hI.up hV5 rfl (by omega) rfl (Or.inl (by decide))
  have hB5 := hB.up hV5 (by rw [mkey_r (by decide)]; rfl)
  replace hF := hF.to (rdb_e (z := V5) hV5.symm)
  refine x_aload_n C.1 dX12_jumps_18 0 rfl ?_
  refine x_aload_n C.1 dX12_jumps_19 0 rfl ?_
  refine x_getI C (N := 33) (i := 0) (by decide) rfl vc_X12 wx_X12 11 (by decide) wf_X12_174 rfl dX12_jumps_20 (a := z4) ((congrFun (congrFun hV5 0) 11).trans ((up2_n _ _ (Or.inl (by decide))).trans ez4)) ?_
  refine x_iconst C.1 (n := 1) dX12_jumps_23 ?_
  refine x_iadd C.1 (v := z4 + 1) (by omega) dX12_jumps_24 ?_
  refine x_putI C (N := 33) (i := 0) (by decide) rfl vc_X12 wx_X12 11 (by decide) wf_X12_174 tyX12 tyX12_ok nmX12 rfl (tyX12_ok 11 (by decide)) rfl dX12_jumps_25 rfl rfl ?_
  refine x_gV ?_
  intro V6 hV6
  have hI6 : MI G V6 := hI5.up hV6 rfl (by omega) rfl (Or.inl (by decide))
  have hB6 := hB5.up hV6 rfl
  replace hF := hF.to (rdb_e (z := V6) hV6.symm)
  refine x_aload_n C.1 dX12_jumps_28 0 rfl ?_
  refine x_iload_n C.1 dX12_jumps_29 1 rfl ?_
  refine x_iconst C.1 (n := 0) dX12_jumps_30 ?_
  refine x_callVv C (As := [vI x1, vI 0]) (rest := []) 0 (xw_at (N := 33) (i := 0) (by decide) rfl) vc_X12 (m_notes l D cy ad G V6 J Rr hI6 hJ hR x1 ⟨by omega, by omega⟩ 0 ⟨by decide, by decide⟩ (by rw [((congrFun (congrFun hV6 0) 10).trans ((up2_n _ _ (Or.inr (by decide))).trans ((congrFun (congrFun hV5 0) 10).trans ((up2_n _ _ (Or.inl (by decide))).trans ez3))))]; omega)) (l1 := []) (l2 := []) (List.append_nil _).symm (w2 := fun u : Nat → Nat → Int => MW cy ad u J Rr) (fun _ => List.append_nil _) rfl wm_yX12_notes wn_X12 wl_X12_180 wi_yX12_notes we_yX12_notes hd_yX12_notes rfl ⟨Nat.le_of_ble_eq_true rfl, Nat.le_of_ble_eq_true rfl⟩ (Nat.le_of_ble_eq_true rfl) ⟨Nat.le_of_ble_eq_true rfl, Nat.le_of_ble_eq_true rfl⟩ dX12_jumps_31 (fun V7 h7 => ?_)
  obtain ⟨hI7, hx7_0, hBc7, hFc7⟩ := h7
  replace hF := calUM_i hF hFc7 hBc7
  have hB7 := hB6.tr hBc7 (m := 590295810358705652736) rfl
  refine x_aload_n C.1 dX12_jumps_34 0 rfl ?_
  refine x_aload_n C.1 dX12_jumps_35 0 rfl ?_
  refine x_getI C (N := 33) (i := 0) (by decide) rfl vc_X12 wx_X12 5 (by decide) wf_X12_144 rfl dX12_jumps_36 (a := z1) ((congrFun (congrFun hx7_0 0) (5)).trans ((up2_n _ _ (Or.inr (by decide))).trans ((up2_n _ _ (Or.inl (by decide))).trans ((congrFun (congrFun hV6 0) 5).trans ((up2_n _ _ (Or.inr (by decide))).trans ((congrFun (congrFun hV5 0) 5).trans ((up2_n _ _ (Or.inl (by decide))).trans ez1))))))) ?_
  refine x_iconst C.1 (n := 1) dX12_jumps_39 ?_
  refine x_iadd C.1 (v := z1 + 1) (by omega) dX12_jumps_40 ?_
  refine x_putI C (N := 33) (i := 0) (by decide) rfl vc_X12 wx_X12 5 (by decide) wf_X12_144 tyX12 tyX12_ok nmX12 rfl (tyX12_ok 5 (by decide)) rfl dX12_jumps_41 rfl rfl ?_
  refine x_gV ?_
  intro V8 hV8
  have hI8 : MI G V8 := hI7.up hV8 rfl (by omega) rfl (Or.inl (by decide))
  have hB8 := hB7.up hV8 rfl
  replace hF := hF.to (rdb_e (z := V8) hV8.symm)
  exact x_vret (S := (Nat → Nat → Int)) (post := (fun u : Nat → Nat → Int => MI G u ∧ (pQ f d 0 V u ∧ V 0 5 < u 0 5) ∧ FBm 1770887431076116958240 V u ∧ (f_m_jumps x1 V J Rr) u)) (w1 := (fun u : Nat → Nat → Int => MW cy ad u J Rr)) C hr rfl dX12_jumps_44 V8 rfl ⟨hI8, (jmpC (op := x1) hC hP h0 (by rw [ez1, ez2]; omega) (by unfold pjm; omega) (by rw [hV8, hx7_0, ((congrFun (congrFun hV6 0) 10).trans ((up2_n _ _ (Or.inr (by decide))).trans ((congrFun (congrFun hV5 0) 10).trans ((up2_n _ _ (Or.inl (by decide))).trans ez3)))), hV6, hV5, ez4, ez3, ez1])), hB8, hF _ rfl⟩
end
