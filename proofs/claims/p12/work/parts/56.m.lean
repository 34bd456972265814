theorem hd_yX12_goesByRota : yX12_goesByRota.cls ≠ "java/lang/invoke/MethodHandle" ∧ yX12_goesByRota.cls ≠ "java/lang/invoke/VarHandle" ∧ (parseMethodDescriptor yX12_goesByRota.desc).map (fun d => d.parameters.length) = some 1 := by decide +kernel
theorem hd_yX12_readsWeek : yX12_readsWeek.cls ≠ "java/lang/invoke/MethodHandle" ∧ yX12_readsWeek.cls ≠ "java/lang/invoke/VarHandle" ∧ (parseMethodDescriptor yX12_readsWeek.desc).map (fun d => d.parameters.length) = some 0 := by decide +kernel
theorem hd_yX12_takes : yX12_takes.cls ≠ "java/lang/invoke/MethodHandle" ∧ yX12_takes.cls ≠ "java/lang/invoke/VarHandle" ∧ (parseMethodDescriptor yX12_takes.desc).map (fun d => d.parameters.length) = some 1 := by decide +kernel
theorem dX12_rota_0 : decode cX12_rota 0 = .ok (.aload_n 0, 1) := by decide +kernel
theorem dX12_rota_1 : decode cX12_rota 1 = .ok (.iload_n 1, 1) := by decide +kernel
theorem dX12_rota_2 : decode cX12_rota 2 = .ok (.invokevirtual 130, 3) := by decide +kernel
theorem dX12_rota_5 : decode cX12_rota 5 = .ok (.ifCond .eq 54, 3) := by decide +kernel
theorem dX12_rota_8 : decode cX12_rota 8 = .ok (.iload_n 2, 1) := by decide +kernel
theorem dX12_rota_9 : decode cX12_rota 9 = .ok (.iconst 1, 1) := by decide +kernel
theorem dX12_rota_10 : decode cX12_rota 10 = .ok (.bipush 90, 2) := by decide +kernel
theorem dX12_rota_12 : decode cX12_rota 12 = .ok (.invokestatic 126, 3) := by decide +kernel
theorem dX12_rota_15 : decode cX12_rota 15 = .ok (.ifCond .eq 44, 3) := by decide +kernel
theorem dX12_rota_18 : decode cX12_rota 18 = .ok (.iload_n 3, 1) := by decide +kernel
theorem dX12_rota_19 : decode cX12_rota 19 = .ok (.iconst 0, 1) := by decide +kernel
theorem dX12_rota_20 : decode cX12_rota 20 = .ok (.iconst 2, 1) := by decide +kernel
theorem dX12_rota_21 : decode cX12_rota 21 = .ok (.invokestatic 126, 3) := by decide +kernel
theorem dX12_rota_24 : decode cX12_rota 24 = .ok (.ifCond .ne 14, 3) := by decide +kernel
theorem dX12_rota_27 : decode cX12_rota 27 = .ok (.iload_n 3, 1) := by decide +kernel
theorem dX12_rota_28 : decode cX12_rota 28 = .ok (.bipush 10, 2) := by decide +kernel
theorem dX12_rota_30 : decode cX12_rota 30 = .ok (.bipush 17, 2) := by decide +kernel
theorem dX12_rota_32 : decode cX12_rota 32 = .ok (.invokestatic 126, 3) := by decide +kernel
theorem dX12_rota_35 : decode cX12_rota 35 = .ok (.ifCond .eq 24, 3) := by decide +kernel
theorem dX12_rota_38 : decode cX12_rota 38 = .ok (.iload_n 2, 1) := by decide +kernel
theorem dX12_rota_39 : decode cX12_rota 39 = .ok (.aload_n 0, 1) := by decide +kernel
theorem dX12_rota_40 : decode cX12_rota 40 = .ok (.getfield 137, 3) := by decide +kernel
theorem dX12_rota_43 : decode cX12_rota 43 = .ok (.if_icmp .gt 16, 3) := by decide +kernel
theorem dX12_rota_46 : decode cX12_rota 46 = .ok (.aload_n 0, 1) := by decide +kernel
theorem dX12_rota_47 : decode cX12_rota 47 = .ok (.getfield 7, 3) := by decide +kernel
theorem dX12_rota_50 : decode cX12_rota 50 = .ok (.bipush 79, 2) := by decide +kernel
theorem dX12_rota_52 : decode cX12_rota 52 = .ok (.iaload, 1) := by decide +kernel
theorem dX12_rota_53 : decode cX12_rota 53 = .ok (.sipush 9915, 3) := by decide +kernel
theorem dX12_rota_56 : decode cX12_rota 56 = .ok (.if_icmp .le 5, 3) := by decide +kernel
theorem dX12_rota_59 : decode cX12_rota 59 = .ok (.iconst (-1), 1) := by decide +kernel
theorem dX12_rota_60 : decode cX12_rota 60 = .ok (.ireturn, 1) := by decide +kernel
theorem dX12_rota_61 : decode cX12_rota 61 = .ok (.aload_n 0, 1) := by decide +kernel
theorem dX12_rota_62 : decode cX12_rota 62 = .ok (.iconst 0, 1) := by decide +kernel
theorem dX12_rota_63 : decode cX12_rota 63 = .ok (.putfield 144, 3) := by decide +kernel
theorem dX12_rota_66 : decode cX12_rota 66 = .ok (.aload_n 0, 1) := by decide +kernel
theorem dX12_rota_67 : decode cX12_rota 67 = .ok (.iload_n 2, 1) := by decide +kernel
theorem dX12_rota_68 : decode cX12_rota 68 = .ok (.putfield 147, 3) := by decide +kernel
theorem dX12_rota_71 : decode cX12_rota 71 = .ok (.aload_n 0, 1) := by decide +kernel
theorem dX12_rota_72 : decode cX12_rota 72 = .ok (.iconst 0, 1) := by decide +kernel
theorem dX12_rota_73 : decode cX12_rota 73 = .ok (.putfield 392, 3) := by decide +kernel
theorem dX12_rota_76 : decode cX12_rota 76 = .ok (.aload_n 0, 1) := by decide +kernel
theorem dX12_rota_77 : decode cX12_rota 77 = .ok (.iconst 0, 1) := by decide +kernel
theorem dX12_rota_78 : decode cX12_rota 78 = .ok (.putfield 389, 3) := by decide +kernel
theorem dX12_rota_81 : decode cX12_rota 81 = .ok (.aload_n 0, 1) := by decide +kernel
theorem dX12_rota_82 : decode cX12_rota 82 = .ok (.invokevirtual 401, 3) := by decide +kernel
theorem dX12_rota_85 : decode cX12_rota 85 = .ok (.istore 4, 2) := by decide +kernel
theorem dX12_rota_87 : decode cX12_rota 87 = .ok (.iload 4, 2) := by decide +kernel
theorem dX12_rota_89 : decode cX12_rota 89 = .ok (.ifCond .eq 40, 3) := by decide +kernel
theorem dX12_rota_92 : decode cX12_rota 92 = .ok (.aload_n 0, 1) := by decide +kernel
theorem dX12_rota_93 : decode cX12_rota 93 = .ok (.getfield 144, 3) := by decide +kernel
theorem dX12_rota_96 : decode cX12_rota 96 = .ok (.aload_n 0, 1) := by decide +kernel
theorem dX12_rota_97 : decode cX12_rota 97 = .ok (.getfield 147, 3) := by decide +kernel
theorem dX12_rota_100 : decode cX12_rota 100 = .ok (.if_icmp .ge 29, 3) := by decide +kernel
theorem dX12_rota_103 : decode cX12_rota 103 = .ok (.aload_n 0, 1) := by decide +kernel
theorem dX12_rota_104 : decode cX12_rota 104 = .ok (.bipush 47, 2) := by decide +kernel
theorem dX12_rota_106 : decode cX12_rota 106 = .ok (.invokevirtual 234, 3) := by decide +kernel
theorem dX12_rota_109 : decode cX12_rota 109 = .ok (.ifCond .eq 14, 3) := by decide +kernel
theorem dX12_rota_112 : decode cX12_rota 112 = .ok (.aload_n 0, 1) := by decide +kernel
theorem dX12_rota_113 : decode cX12_rota 113 = .ok (.invokevirtual 401, 3) := by decide +kernel
theorem dX12_rota_116 : decode cX12_rota 116 = .ok (.ifCond .eq 7, 3) := by decide +kernel
theorem dX12_rota_119 : decode cX12_rota 119 = .ok (.iconst 1, 1) := by decide +kernel
theorem dX12_rota_120 : decode cX12_rota 120 = .ok (.goto 4, 3) := by decide +kernel
theorem dX12_rota_123 : decode cX12_rota 123 = .ok (.iconst 0, 1) := by decide +kernel
theorem dX12_rota_124 : decode cX12_rota 124 = .ok (.istore 4, 2) := by decide +kernel
theorem dX12_rota_126 : decode cX12_rota 126 = .ok (.goto (-39), 3) := by decide +kernel
theorem dX12_rota_129 : decode cX12_rota 129 = .ok (.aload_n 0, 1) := by decide +kernel
theorem dX12_rota_130 : decode cX12_rota 130 = .ok (.iconst 0, 1) := by decide +kernel
theorem dX12_rota_131 : decode cX12_rota 131 = .ok (.putfield 137, 3) := by decide +kernel
theorem dX12_rota_134 : decode cX12_rota 134 = .ok (.iload 4, 2) := by decide +kernel
theorem dX12_rota_136 : decode cX12_rota 136 = .ok (.ifCond .ne 8, 3) := by decide +kernel
theorem dX12_rota_139 : decode cX12_rota 139 = .ok (.aload_n 0, 1) := by decide +kernel
theorem dX12_rota_140 : decode cX12_rota 140 = .ok (.getfield 154, 3) := by decide +kernel
theorem dX12_rota_143 : decode cX12_rota 143 = .ok (.ireturn, 1) := by decide +kernel
theorem dX12_rota_144 : decode cX12_rota 144 = .ok (.iload_n 3, 1) := by decide +kernel
theorem dX12_rota_145 : decode cX12_rota 145 = .ok (.ifCond .ne 8, 3) := by decide +kernel
theorem dX12_rota_148 : decode cX12_rota 148 = .ok (.aload_n 0, 1) := by decide +kernel
theorem dX12_rota_149 : decode cX12_rota 149 = .ok (.getfield 392, 3) := by decide +kernel
theorem dX12_rota_152 : decode cX12_rota 152 = .ok (.ireturn, 1) := by decide +kernel
theorem dX12_rota_153 : decode cX12_rota 153 = .ok (.iload_n 3, 1) := by decide +kernel
theorem dX12_rota_154 : decode cX12_rota 154 = .ok (.bipush 10, 2) := by decide +kernel
theorem dX12_rota_156 : decode cX12_rota 156 = .ok (.if_icmp .lt 51, 3) := by decide +kernel
theorem dX12_rota_159 : decode cX12_rota 159 = .ok (.iconst 0, 1) := by decide +kernel
theorem dX12_rota_160 : decode cX12_rota 160 = .ok (.istore 5, 2) := by decide +kernel
theorem dX12_rota_162 : decode cX12_rota 162 = .ok (.iconst 0, 1) := by decide +kernel
theorem dX12_rota_163 : decode cX12_rota 163 = .ok (.istore 6, 2) := by decide +kernel
theorem dX12_rota_165 : decode cX12_rota 165 = .ok (.iload 6, 2) := by decide +kernel
theorem dX12_rota_167 : decode cX12_rota 167 = .ok (.aload_n 0, 1) := by decide +kernel
theorem dX12_rota_168 : decode cX12_rota 168 = .ok (.getfield 392, 3) := by decide +kernel
theorem dX12_rota_171 : decode cX12_rota 171 = .ok (.if_icmp .ge 33, 3) := by decide +kernel
theorem dX12_rota_174 : decode cX12_rota 174 = .ok (.iload 5, 2) := by decide +kernel
theorem dX12_rota_176 : decode cX12_rota 176 = .ok (.aload_n 0, 1) := by decide +kernel
theorem dX12_rota_177 : decode cX12_rota 177 = .ok (.getfield 99, 3) := by decide +kernel
theorem dX12_rota_180 : decode cX12_rota 180 = .ok (.iload 6, 2) := by decide +kernel
theorem dX12_rota_182 : decode cX12_rota 182 = .ok (.iaload, 1) := by decide +kernel
theorem dX12_rota_183 : decode cX12_rota 183 = .ok (.iload_n 3, 1) := by decide +kernel
theorem dX12_rota_184 : decode cX12_rota 184 = .ok (.bipush 10, 2) := by decide +kernel
theorem dX12_rota_186 : decode cX12_rota 186 = .ok (.isub, 1) := by decide +kernel
theorem dX12_rota_187 : decode cX12_rota 187 = .ok (.if_icmp .ne 7, 3) := by decide +kernel
theorem dX12_rota_190 : decode cX12_rota 190 = .ok (.iconst 1, 1) := by decide +kernel
theorem dX12_rota_191 : decode cX12_rota 191 = .ok (.goto 4, 3) := by decide +kernel
theorem dX12_rota_194 : decode cX12_rota 194 = .ok (.iconst 0, 1) := by decide +kernel
theorem dX12_rota_195 : decode cX12_rota 195 = .ok (.iadd, 1) := by decide +kernel
theorem dX12_rota_196 : decode cX12_rota 196 = .ok (.istore 5, 2) := by decide +kernel
theorem dX12_rota_198 : decode cX12_rota 198 = .ok (.iinc 6 1, 3) := by decide +kernel
theorem dX12_rota_201 : decode cX12_rota 201 = .ok (.goto (-36), 3) := by decide +kernel
theorem dX12_rota_204 : decode cX12_rota 204 = .ok (.iload 5, 2) := by decide +kernel
theorem dX12_rota_206 : decode cX12_rota 206 = .ok (.ireturn, 1) := by decide +kernel
theorem dX12_rota_207 : decode cX12_rota 207 = .ok (.aload_n 0, 1) := by decide +kernel
theorem dX12_rota_208 : decode cX12_rota 208 = .ok (.iload_n 1, 1) := by decide +kernel
theorem dX12_rota_209 : decode cX12_rota 209 = .ok (.invokevirtual 404, 3) := by decide +kernel
theorem dX12_rota_212 : decode cX12_rota 212 = .ok (.iload_n 3, 1) := by decide +kernel
theorem dX12_rota_213 : decode cX12_rota 213 = .ok (.iconst 1, 1) := by decide +kernel
theorem dX12_rota_214 : decode cX12_rota 214 = .ok (.if_icmp .ne 10, 3) := by decide +kernel
theorem dX12_rota_217 : decode cX12_rota 217 = .ok (.aload_n 0, 1) := by decide +kernel
theorem dX12_rota_218 : decode cX12_rota 218 = .ok (.getfield 395, 3) := by decide +kernel
theorem dX12_rota_221 : decode cX12_rota 221 = .ok (.goto 7, 3) := by decide +kernel
theorem dX12_rota_224 : decode cX12_rota 224 = .ok (.aload_n 0, 1) := by decide +kernel
theorem dX12_rota_225 : decode cX12_rota 225 = .ok (.getfield 398, 3) := by decide +kernel
theorem dX12_rota_228 : decode cX12_rota 228 = .ok (.ireturn, 1) := by decide +kernel
set_option maxRecDepth 100000 in
def f_m_rota (x1 : Int) (x2 : Int) (x3 : Int) (V : Nat → Nat → Int) (J : Nat → Nat → Int) (Rr : Nat → Nat → Nat) : (Int × (Nat → Nat → Int)) → Prop :=
  calR (f_m_lives x1 V J Rr) fun z1 => fct (0 ≤ z1 ∧ z1 ≤ 1) <| (if z1 = 0 then rtn ((-1), V) else rdb (V 1 ((x1 + 12).toNat)) fun z4 => fct (0 ≤ z4 ∧ z4 ≤ 8) <| rdb (V 1 ((x1 + 16).toNat)) fun z5 => fct (0 ≤ z5 ∧ z5 ≤ 8) <| calR (f_m_in x2 1 90) fun z6 => fct (0 ≤ z6 ∧ z6 ≤ 1) <| (if z6 = 0 then rtn ((-1), V) else calR (f_m_in x3 0 2) fun z9 => fct (0 ≤ z9 ∧ z9 ≤ 1) <| (if ¬ z9 = 0 then rdb (V 0 4) fun z12 => fct (0 ≤ z12 ∧ z12 ≤ 220) <| (if z12 < x2 then rtn ((-1), V) else rdb (V 1 79) fun z14 => (if z14 ≤ 9915 then rdb (up2 V 0 5 0) fun V16 => rdb (up2 V16 0 6 x2) fun V17 => rdb (up2 V17 0 46 0) fun V18 => rdb (up2 V18 0 47 0) fun V19 => calVM 19807040628566295504618520736 V19 (f_m_readsWeek V19 J Rr) fun z20 V20 => fct (0 ≤ z20 ∧ z20 ≤ 1) <| rdb (V20 0 6) fun z21 => fct (0 ≤ z21 ∧ z21 ≤ 220) <| rdb (V20 0 5) fun z22 => fct (0 ≤ z22 ∧ z22 ≤ 220) <| lop2 ((2 * (V20 0 6 - V20 0 5) + z20).toNat + 1) (fun rc90 (z89 : Int) (V90 : Nat → Nat → Int) => rdb (V90 0 5) fun z91 => fct (0 ≤ z91 ∧ z91 ≤ 220) <| rdb (V90 0 6) fun z92 => fct (0 ≤ z92 ∧ z92 ≤ 220) <| rdb (V90 0 46) fun z93 => fct (0 ≤ z93 ∧ z93 ≤ 84) <| rdb (V90 0 47) fun z94 => fct (0 ≤ z94 ∧ z94 ≤ 12) <| (if z89 = 0 then rdb (up2 V90 0 4 0) fun V96 => rdb (V96 0 7) fun z97 => rtn (z97, V96) else (if z92 ≤ z91 then rdb (up2 V90 0 4 0) fun V108 => (if ¬ x3 = 0 then calUM 16925072156758100966113280 V108 (f_m_goesByRota x1 V108 J Rr) fun V110 => (if ¬ x3 = 1 then rdb (V110 0 50) fun z112 => rtn (z112, V110) else rdb (V110 0 49) fun z113 => rtn (z113, V110)) else rtn (z93, V108)) else calVM 160 V90 (f_m_takes 47 V90 J Rr) fun z114 V114 => fct (0 ≤ z114 ∧ z114 ≤ 1) <| rdb (V114 0 5) fun z115 => fct (0 ≤ z115 ∧ z115 ≤ 220) <| (if z114 = 0 then rc90 0 V114 else calVM 19807040628566295504618520736 V114 (f_m_readsWeek V114 J Rr) fun z118 V118 => fct (0 ≤ z118 ∧ z118 ≤ 1) <| rdb (V118 0 6) fun z119 => fct (0 ≤ z119 ∧ z119 ≤ 220) <| rdb (V118 0 5) fun z120 => fct (0 ≤ z120 ∧ z120 ≤ 220) <| (if z118 = 0 then rc90 0 V118 else rc90 1 V118))))) z20 V20 else rtn ((-1), V))) else calR (f_m_in x3 10 17) fun z123 => fct (0 ≤ z123 ∧ z123 ≤ 1) <| (if z123 = 0 then rtn ((-1), V) else rdb (V 0 4) fun z126 => fct (0 ≤ z126 ∧ z126 ≤ 220) <| (if z126 < x2 then rtn ((-1), V) else rdb (V 1 79) fun z128 => (if z128 ≤ 9915 then rdb (up2 V 0 5 0) fun V130 => rdb (up2 V130 0 6 x2) fun V131 => rdb (up2 V131 0 46 0) fun V132 => rdb (up2 V132 0 47 0) fun V133 => calVM 19807040628566295504618520736 V133 (f_m_readsWeek V133 J Rr) fun z134 V134 => fct (0 ≤ z134 ∧ z134 ≤ 1) <| rdb (V134 0 6) fun z135 => fct (0 ≤ z135 ∧ z135 ≤ 220) <| rdb (V134 0 5) fun z136 => fct (0 ≤ z136 ∧ z136 ≤ 220) <| lop2 ((2 * (V134 0 6 - V134 0 5) + z134).toNat + 1) (fun rc324 (z323 : Int) (V324 : Nat → Nat → Int) => rdb (V324 0 5) fun z325 => fct (0 ≤ z325 ∧ z325 ≤ 220) <| rdb (V324 0 6) fun z326 => fct (0 ≤ z326 ∧ z326 ≤ 220) <| rdb (V324 0 46) fun z327 => fct (0 ≤ z327 ∧ z327 ≤ 84) <| rdb (V324 0 47) fun z328 => fct (0 ≤ z328 ∧ z328 ≤ 12) <| (if z323 = 0 then rdb (up2 V324 0 4 0) fun V330 => rdb (V330 0 7) fun z331 => rtn (z331, V330) else (if z326 ≤ z325 then rdb (up2 V324 0 4 0) fun V342 => lop2 (86) (fun rc395 (z393 : Int) (z394 : Int) => (if z327 ≤ z393 then rtn (z394, V342) else rdb (V342 30 z393.toNat) fun z403 => fct (-1 ≤ z403 ∧ z403 ≤ 7) <| jnk (fun (z404 : Int) => rdb (wr (z394 + z404)) fun z406 => rc395 (z393 + 1) z406) fun jf405 => (if ¬ z403 = x3 - 10 then jf405 0 else jf405 1))) 0 0 else calVM 160 V324 (f_m_takes 47 V324 J Rr) fun z408 V408 => fct (0 ≤ z408 ∧ z408 ≤ 1) <| rdb (V408 0 5) fun z409 => fct (0 ≤ z409 ∧ z409 ≤ 220) <| (if z408 = 0 then rc324 0 V408 else calVM 19807040628566295504618520736 V408 (f_m_readsWeek V408 J Rr) fun z412 V412 => fct (0 ≤ z412 ∧ z412 ≤ 1) <| rdb (V412 0 6) fun z413 => fct (0 ≤ z413 ∧ z413 ≤ 220) <| rdb (V412 0 5) fun z414 => fct (0 ≤ z414 ∧ z414 ≤ 220) <| (if z412 = 0 then rc324 0 V412 else rc324 1 V412))))) z134 V134 else rtn ((-1), V)))))))
set_option maxHeartbeats 8000000 in
set_option maxRecDepth 100000 in
theorem m_rota (l : Launch) (D : va_G) (cy : Nat → ClassId) (ad : Nat → Nat) (G : Nat → Nat → Int) (V J : Nat → Nat → Int) (Rr : Nat → Nat → Nat) (hI : MI G V) (hJ : VJ J) (hR : MR Rr) (x1 : Int) (bx1 : -2147483648 ≤ x1 ∧ x1 ≤ 2147483647) (x2 : Int) (bx2 : -2147483648 ≤ x2 ∧ x2 ≤ 2147483647) (x3 : Int) (bx3 : -2147483648 ≤ x3 ∧ x3 ≤ 2147483647) (hW : WP G) : xMi l D (xTY cy) yX12_rota cX12_rota 7 (some .int) 6 142 0 0 [.ref (ad 0), vI x1, vI x2, vI x3] (MW cy ad V J Rr) (fun u : Nat → Nat → Int => MW cy ad u J Rr) (fun a (u : Nat → Nat → Int) => MI G u ∧ FBm 19823965700723053605584634096 V u ∧ (f_m_rota x1 x2 x3 V J Rr) (a, u)) := by
  refine xMi.mk (lv0 := [(0, .ref (ad 0)), (1, vI x1), (2, vI x2), (3, vI x3)]) (by decide) rfl (Nat.le_of_ble_eq_true rfl) (fun p e s m below meth c A C hr hnm hAe => ?_)
  have C : xC2 p s m _ meth c D A s.heap 7 cX12_rota RX12 (xTY cy) := C
  have hB : FBm 19823965700723053605584634096 V V := FBm.rf _ _
  have hF := Imp.of_eq (f_m_rota.eq_def x1 x2 x3 V J Rr)
  refine x_aload_n C.1 dX12_rota_0 0 rfl ?_
  refine x_iload_n C.1 dX12_rota_1 1 rfl ?_
  refine x_callVi C (As := [vI x1]) (rest := []) 0 (xw_at (N := 33) (i := 0) (by decide) rfl) vc_X12 (m_lives l D cy ad G V J Rr hI hJ hR x1 ⟨by omega, by omega⟩) (l1 := []) (l2 := []) (List.append_nil _).symm (w2 := fun _ => MW cy ad V J Rr) (fun _ => List.append_nil _) rfl wm_yX12_lives wn_X12 wl_X12_130 wi_yX12_lives we_yX12_lives hd_yX12_lives rfl ⟨Nat.le_of_ble_eq_true rfl, Nat.le_of_ble_eq_true rfl⟩ (Nat.le_of_ble_eq_true rfl) ⟨Nat.le_of_ble_eq_true rfl, Nat.le_of_ble_eq_true rfl⟩ dX12_rota_2 (fun z1 u1 bz1 h1 => ?_)
  obtain ⟨bq1, hx1_0, hFc1⟩ := h1
  replace hF := calR_i hF hFc1
  replace hF := hF.fc bq1
  refine x_if_eq C.1 (tgt := 59) dX12_rota_5 (by decide) (by omega) (fun hc2 => ?_) (fun hc2 => ?_)
  · replace hF := hF.to (if_pos hc2)
    refine x_iconst C.1 (n := -1) dX12_rota_59 ?_
    exact x_iret (S := (Nat → Nat → Int)) (post := (fun a (u : Nat → Nat → Int) => MI G u ∧ FBm 19823965700723053605584634096 V u ∧ (f_m_rota x1 x2 x3 V J Rr) (a, u))) (w1 := (fun u : Nat → Nat → Int => MW cy ad u J Rr)) (a := (-1)) C hr rfl dX12_rota_60 (by decide) V rfl ⟨hI, hB, hF _ rfl⟩
  · replace hF := hF.to (if_neg hc2)
    have hon3 := Sp.on hx1_0 (by omega)
    obtain ⟨z4, ez4, bz4⟩ := hI.rd 1 ((x1 + 12).toNat) (x := 0) (y := 9) (rgN_20 (Or.inl rfl) (by omega))
    have by4 : z4 ≤ 8 := by rw [← ez4, show (x1 + 12).toNat = 12 + x1.toNat by omega]; exact hon3.2.1
    replace hF := hF.to (rdb_e (z := z4) ez4)
    replace hF := hF.fc ⟨bz4.1, by4⟩
    obtain ⟨z5, ez5, bz5⟩ := hI.rd 1 ((x1 + 16).toNat) (x := 0) (y := 9) (rgN_20 (Or.inl rfl) (by omega))
    have by5 : z5 ≤ 8 := by rw [← ez5, show (x1 + 16).toNat = 16 + x1.toNat by omega]; exact hon3.2.2
    replace hF := hF.to (rdb_e (z := z5) ez5)
    replace hF := hF.fc ⟨bz5.1, by5⟩
    refine x_iload_n C.1 dX12_rota_8 2 rfl ?_
    refine x_iconst C.1 (n := 1) dX12_rota_9 ?_
    refine x_bipush C.1 (n := 90) dX12_rota_10 ?_
    refine x_callSi C (As := [vI x2, vI 1, vI 90]) (rest := []) (m_in l D cy x2 ⟨by omega, by omega⟩ 1 ⟨by decide, by decide⟩ 90 ⟨by decide, by decide⟩) (l1 := []) (l2 := _) rfl (w2 := fun _ => _) (fun _ => rfl) rfl wm_yX12_in wn_X12 wl_X12_126 wi_yX12_in hd_yX12_in rfl ⟨Nat.le_of_ble_eq_true rfl, Nat.le_of_ble_eq_true rfl⟩ (Nat.le_of_ble_eq_true rfl) ⟨Nat.le_of_ble_eq_true rfl, Nat.le_of_ble_eq_true rfl⟩ dX12_rota_12 (fun z6 u6 bz6 h6 => ?_)
    obtain ⟨bq6, hx6_0, hFc6⟩ := h6
    replace hF := calR_i hF hFc6
    replace hF := hF.fc bq6
    refine x_if_eq C.1 (tgt := 59) dX12_rota_15 (by decide) (by omega) (fun hc7 => ?_) (fun hc7 => ?_)
    · replace hF := hF.to (if_pos hc7)
      refine x_iconst C.1 (n := -1) dX12_rota_59 ?_
      exact x_iret (S := (Nat → Nat → Int)) (post := (fun a (u : Nat → Nat → Int) => MI G u ∧ FBm 19823965700723053605584634096 V u ∧ (f_m_rota x1 x2 x3 V J Rr) (a, u))) (w1 := (fun u : Nat → Nat → Int => MW cy ad u J Rr)) (a := (-1)) C hr rfl dX12_rota_60 (by decide) V rfl ⟨hI, hB, hF _ rfl⟩
    · replace hF := hF.to (if_neg hc7)
      have hon8 := Sq.on hx6_0 (by omega)
      refine x_iload_n C.1 dX12_rota_18 3 rfl ?_
      refine x_iconst C.1 (n := 0) dX12_rota_19 ?_
      refine x_iconst C.1 (n := 2) dX12_rota_20 ?_
      refine x_callSi C (As := [vI x3, vI 0, vI 2]) (rest := []) (m_in l D cy x3 ⟨by omega, by omega⟩ 0 ⟨by decide, by decide⟩ 2 ⟨by decide, by decide⟩) (l1 := []) (l2 := _) rfl (w2 := fun _ => _) (fun _ => rfl) rfl wm_yX12_in wn_X12 wl_X12_126 wi_yX12_in hd_yX12_in rfl ⟨Nat.le_of_ble_eq_true rfl, Nat.le_of_ble_eq_true rfl⟩ (Nat.le_of_ble_eq_true rfl) ⟨Nat.le_of_ble_eq_true rfl, Nat.le_of_ble_eq_true rfl⟩ dX12_rota_21 (fun z9 u9 bz9 h9 => ?_)
      obtain ⟨bq9, hx9_0, hFc9⟩ := h9
      replace hF := calR_i hF hFc9
      replace hF := hF.fc bq9
      refine x_if_ne C.1 (tgt := 38) dX12_rota_24 (by decide) (by omega) (fun hc10 => ?_) (fun hc10 => ?_)
      · replace hF := hF.to (if_pos hc10)
        have hon11 := Sq.on hx9_0 (by omega)
        refine x_iload_n C.1 dX12_rota_38 2 rfl ?_
        refine x_aload_n C.1 dX12_rota_39 0 rfl ?_
        obtain ⟨z12, ez12, bz12⟩ := hI.rd 0 4 (x := 0) (y := 220) rfl
        replace hF := hF.to (rdb_e (z := z12) ez12)
        replace hF := hF.fc bz12
        refine x_getI C (N := 33) (i := 0) (by decide) rfl vc_X12 wx_X12 4 (by decide) wf_X12_137 rfl dX12_rota_40 (a := z12) ez12 ?_
        refine x_icmp_gt C.1 (tgt := 59) dX12_rota_43 (by decide) (by omega) (by omega) (fun hc13 => ?_) (fun hc13 => ?_)
        · replace hF := hF.to (if_pos hc13)
          refine x_iconst C.1 (n := -1) dX12_rota_59 ?_
          exact x_iret (S := (Nat → Nat → Int)) (post := (fun a (u : Nat → Nat → Int) => MI G u ∧ FBm 19823965700723053605584634096 V u ∧ (f_m_rota x1 x2 x3 V J Rr) (a, u))) (w1 := (fun u : Nat → Nat → Int => MW cy ad u J Rr)) (a := (-1)) C hr rfl dX12_rota_60 (by decide) V rfl ⟨hI, hB, hF _ rfl⟩
        · replace hF := hF.to (if_neg hc13)
          refine x_aload_n C.1 dX12_rota_46 0 rfl ?_
          refine x_getA C (N := 33) (i := 0) (by decide) rfl vc_X12 wx_X12 0 (by decide) wf_X12_7 (a := 1) rfl dX12_rota_47 ?_
          refine x_bipush C.1 (n := 79) dX12_rota_50 ?_
          obtain ⟨z14, ez14, bz14⟩ := hI.rd 1 79 (x := -2147483648) (y := 2147483647) (rgN_81 (Or.inl rfl) (by decide))
          replace hF := hF.to (rdb_e (z := z14) ez14)
          refine x_iald C (N := 33) (i := 1) (q := 79) (by decide) rfl (by decide) (by decide) dX12_rota_52 (a := z14) ez14 ?_
          refine x_sipush C.1 (n := 9915) dX12_rota_53 ?_
          refine x_icmp_le C.1 (tgt := 61) dX12_rota_56 (by decide) (by omega) (by decide) (fun hc15 => ?_) (fun hc15 => ?_)
          · replace hF := hF.to (if_pos hc15)
            refine x_aload_n C.1 dX12_rota_61 0 rfl ?_
            refine x_iconst C.1 (n := 0) dX12_rota_62 ?_
            refine x_putI C (N := 33) (i := 0) (by decide) rfl vc_X12 wx_X12 5 (by decide) wf_X12_144 tyX12 tyX12_ok nmX12 rfl (tyX12_ok 5 (by decide)) rfl dX12_rota_63 rfl rfl ?_
            refine x_gV ?_
            intro V16 hV16
            have hI16 : MI G V16 := hI.up hV16 rfl (by decide) rfl (Or.inl (by decide))
            have hB16 := hB.up hV16 rfl
            replace hF := hF.to (rdb_e (z := V16) hV16.symm)
            refine x_aload_n C.1 dX12_rota_66 0 rfl ?_
            refine x_iload_n C.1 dX12_rota_67 2 rfl ?_
            refine x_putI C (N := 33) (i := 0) (by decide) rfl vc_X12 wx_X12 6 (by decide) wf_X12_147 tyX12 tyX12_ok nmX12 rfl (tyX12_ok 6 (by decide)) rfl dX12_rota_68 rfl rfl ?_
            refine x_gV ?_
            intro V17 hV17
            have hI17 : MI G V17 := hI16.up hV17 rfl (by omega) rfl (Or.inl (by decide))
            have hB17 := hB16.up hV17 rfl
            replace hF := hF.to (rdb_e (z := V17) hV17.symm)
            refine x_aload_n C.1 dX12_rota_71 0 rfl ?_
            refine x_iconst C.1 (n := 0) dX12_rota_72 ?_
            refine x_putI C (N := 33) (i := 0) (by decide) rfl vc_X12 wx_X12 46 (by decide) wf_X12_392 tyX12 tyX12_ok nmX12 rfl (tyX12_ok 46 (by decide)) rfl dX12_rota_73 rfl rfl ?_
            refine x_gV ?_
            intro V18 hV18
            have hI18 : MI G V18 := hI17.up hV18 rfl (by decide) rfl (Or.inl (by decide))
            have hB18 := hB17.up hV18 rfl
            replace hF := hF.to (rdb_e (z := V18) hV18.symm)
            refine x_aload_n C.1 dX12_rota_76 0 rfl ?_
            refine x_iconst C.1 (n := 0) dX12_rota_77 ?_
            refine x_putI C (N := 33) (i := 0) (by decide) rfl vc_X12 wx_X12 47 (by decide) wf_X12_389 tyX12 tyX12_ok nmX12 rfl (tyX12_ok 47 (by decide)) rfl dX12_rota_78 rfl rfl ?_
            refine x_gV ?_
            intro V19 hV19
            have hI19 : MI G V19 := hI18.up hV19 rfl (by decide) rfl (Or.inl (by decide))
            have hB19 := hB18.up hV19 rfl
            replace hF := hF.to (rdb_e (z := V19) hV19.symm)
            refine x_aload_n C.1 dX12_rota_81 0 rfl ?_
            refine x_callVi C (As := []) (rest := []) 0 (xw_at (N := 33) (i := 0) (by decide) rfl) vc_X12 (m_readsWeek l D cy ad G V19 J Rr hI19 hJ hR (by rw [((congrFun (congrFun hV19 0) 46).trans ((up2_n _ _ (Or.inr (by decide))).trans ((congrFun (congrFun hV18 0) 46).trans (up2_s _ _ _ _)))), ((congrFun (congrFun hV19 0) 47).trans (up2_s _ _ _ _))]; omega)) (l1 := []) (l2 := []) (List.append_nil _).symm (w2 := fun u : Nat → Nat → Int => MW cy ad u J Rr) (fun _ => List.append_nil _) rfl wm_yX12_readsWeek wn_X12 wl_X12_401 wi_yX12_readsWeek we_yX12_readsWeek hd_yX12_readsWeek rfl ⟨Nat.le_of_ble_eq_true rfl, Nat.le_of_ble_eq_true rfl⟩ (Nat.le_of_ble_eq_true rfl) ⟨Nat.le_of_ble_eq_true rfl, Nat.le_of_ble_eq_true rfl⟩ dX12_rota_82 (fun z20 V20 bz20 h20 => ?_)
            obtain ⟨hI20, bq20, hx20_0, hx20_1, hx20_2, hBc20, hFc20⟩ := h20
            replace hF := calVM_i hF hFc20 hBc20
            replace hF := hF.fc bq20
            have hB20 := hB19.tr hBc20 (m := 19807040628566295504618520736) rfl
            obtain ⟨z21, ez21, bz21⟩ := hI20.rd 0 6 (x := 0) (y := 220) rfl
            replace hF := hF.to (rdb_e (z := z21) ez21)
            replace hF := hF.fc bz21
            obtain ⟨z22, ez22, bz22⟩ := hI20.rd 0 5 (x := 0) (y := 220) rfl
            replace hF := hF.to (rdb_e (z := z22) ez22)
            replace hF := hF.fc bz22
            rw [ez21, ((congrFun (congrFun hV19 0) 6).trans ((up2_n _ _ (Or.inr (by decide))).trans ((congrFun (congrFun hV18 0) 6).trans ((up2_n _ _ (Or.inr (by decide))).trans ((congrFun (congrFun hV17 0) 6).trans (up2_s _ _ _ _))))))] at hx20_1
            rw [ez22, ((congrFun (congrFun hV19 0) 5).trans ((up2_n _ _ (Or.inr (by decide))).trans ((congrFun (congrFun hV18 0) 5).trans ((up2_n _ _ (Or.inr (by decide))).trans ((congrFun (congrFun hV17 0) 5).trans ((up2_n _ _ (Or.inr (by decide))).trans ((congrFun (congrFun hV16 0) 5).trans (up2_s _ _ _ _))))))))] at hx20_2
            refine x_istore C.1 (lv' := [(4, vI z20), (0, .ref (ad 0)), (1, vI x1), (2, vI x2), (3, vI x3)]) dX12_rota_85 (by decide) rfl ?_
            obtain ⟨bd90, hbd90, hF⟩ := lop2_ex hF
            refine x_loop (I := fun x : Int × (Nat → Nat → Int) => match x with | (z89, V90) => (0 ≤ z89 ∧ z89 ≤ 1) ∧ MI G V90 ∧ FBm 19823965700723053605584634096 V V90 ∧ (z89 = 0 ∨ V90 0 46 = 7 * V90 0 47) ∧ (∃ nf : Nat, (2 * (V90 0 6 - V90 0 5) + z89).toNat < nf ∧ Imp (lop2 nf bd90 z89 V90) (f_m_rota x1 x2 x3 V J Rr))) (μ := fun x : Int × (Nat → Nat → Int) => match x with | (z89, V90) => (2 * (V90 0 6 - V90 0 5) + z89).toNat) (wsf := fun x : Int × (Nat → Nat → Int) => match x with | (z89, V90) => MW cy ad V90 J Rr) (lvf := fun x : Int × (Nat → Nat → Int) => match x with | (z89, V90) => [(4, vI z89), (0, .ref (ad 0)), (1, vI x1), (2, vI x2), (3, vI x3)]) (fun x hI90x ih90 => ?_) (z20, V20) ⟨⟨by omega, by omega⟩, hI20, hB20, (by have := hx20_0; unfold Sp at this; omega), ⟨_, (Nat.lt_succ_self _), hF⟩⟩ rfl rfl
            obtain ⟨z89, V90⟩ := x
            obtain ⟨bz89, hI90, hB90, hg46, nf90, hn90, hF⟩ := hI90x
            try dsimp only
            obtain ⟨nf90, rfl⟩ : ∃ mm, nf90 = mm + 1 := ⟨nf90 - 1, (Nat.succ_pred_eq_of_pos (Nat.lt_of_le_of_lt (Nat.zero_le _) hn90)).symm⟩
            replace hF := hF.to (lop2_s hbd90)
            obtain ⟨z91, ez91, bz91⟩ := hI90.rd 0 5 (x := 0) (y := 220) rfl
            replace hF := hF.to (rdb_e (z := z91) ez91)
            replace hF := hF.fc bz91
            obtain ⟨z92, ez92, bz92⟩ := hI90.rd 0 6 (x := 0) (y := 220) rfl
            replace hF := hF.to (rdb_e (z := z92) ez92)
            replace hF := hF.fc bz92
            obtain ⟨z93, ez93, bz93⟩ := hI90.rd 0 46 (x := 0) (y := 84) rfl
            replace hF := hF.to (rdb_e (z := z93) ez93)
            replace hF := hF.fc bz93
            obtain ⟨z94, ez94, bz94⟩ := hI90.rd 0 47 (x := 0) (y := 12) rfl
            replace hF := hF.to (rdb_e (z := z94) ez94)
            replace hF := hF.fc bz94
            rw [ez93, ez94] at hg46
            have hn5 := ez91
            have hn6 := ez92
            refine x_iload C.1 dX12_rota_87 0 rfl ?_
            refine x_if_eq C.1 (tgt := 129) dX12_rota_89 (by decide) (by omega) (fun hc95 => ?_) (fun hc95 => ?_)
            · replace hF := hF.to (if_pos hc95)
              refine x_aload_n C.1 dX12_rota_129 1 rfl ?_
              refine x_iconst C.1 (n := 0) dX12_rota_130 ?_
              refine x_putI C (N := 33) (i := 0) (by decide) rfl vc_X12 wx_X12 4 (by decide) wf_X12_137 tyX12 tyX12_ok nmX12 rfl (tyX12_ok 4 (by decide)) rfl dX12_rota_131 rfl rfl ?_
              refine x_gV ?_
              intro V96 hV96
              have hI96 : MI G V96 := hI90.up hV96 rfl (by decide) rfl (Or.inl (by decide))
              have hB96 := hB90.up hV96 rfl
              replace hF := hF.to (rdb_e (z := V96) hV96.symm)
              refine x_iload C.1 dX12_rota_134 0 rfl ?_
              refine x_if_ne_f C.1 (tgt := 144) dX12_rota_136 (by decide) (by omega) (by omega) ?_
              refine x_aload_n C.1 dX12_rota_139 1 rfl ?_
              obtain ⟨z97, ez97, bz97⟩ := hI96.rd 0 7 (x := -2147483648) (y := 2147483647) rfl
              replace hF := hF.to (rdb_e (z := z97) ez97)
              refine x_getI C (N := 33) (i := 0) (by decide) rfl vc_X12 wx_X12 7 (by decide) wf_X12_154 rfl dX12_rota_140 (a := z97) ez97 ?_
              exact x_iret (S := (Nat → Nat → Int)) (post := (fun a (u : Nat → Nat → Int) => MI G u ∧ FBm 19823965700723053605584634096 V u ∧ (f_m_rota x1 x2 x3 V J Rr) (a, u))) (w1 := (fun u : Nat → Nat → Int => MW cy ad u J Rr)) (a := z97) C hr rfl dX12_rota_143 (by omega) V96 rfl ⟨hI96, hB96, hF _ rfl⟩
            · replace hF := hF.to (if_neg hc95)
              refine x_aload_n C.1 dX12_rota_92 1 rfl ?_
              refine x_getI C (N := 33) (i := 0) (by decide) rfl vc_X12 wx_X12 5 (by decide) wf_X12_144 rfl dX12_rota_93 (a := z91) ez91 ?_
              refine x_aload_n C.1 dX12_rota_96 1 rfl ?_
              refine x_getI C (N := 33) (i := 0) (by decide) rfl vc_X12 wx_X12 6 (by decide) wf_X12_147 rfl dX12_rota_97 (a := z92) ez92 ?_
              refine x_icmp_ge C.1 (tgt := 129) dX12_rota_100 (by decide) (by omega) (by omega) (fun hc107 => ?_) (fun hc107 => ?_)
              · replace hF := hF.to (if_pos hc107)
                refine x_aload_n C.1 dX12_rota_129 1 rfl ?_
                refine x_iconst C.1 (n := 0) dX12_rota_130 ?_
                refine x_putI C (N := 33) (i := 0) (by decide) rfl vc_X12 wx_X12 4 (by decide) wf_X12_137 tyX12 tyX12_ok nmX12 rfl (tyX12_ok 4 (by decide)) rfl dX12_rota_131 rfl rfl ?_
                refine x_gV ?_
                intro V108 hV108
                have hI108 : MI G V108 := hI90.up hV108 rfl (by decide) rfl (Or.inl (by decide))
                have hB108 := hB90.up hV108 rfl
                replace hF := hF.to (rdb_e (z := V108) hV108.symm)
                refine x_iload C.1 dX12_rota_134 0 rfl ?_
                refine x_if_ne_t C.1 (tgt := 144) dX12_rota_136 (by decide) (by omega) (by omega) ?_
                refine x_iload_n C.1 dX12_rota_144 4 rfl ?_
                refine x_if_ne C.1 (tgt := 153) dX12_rota_145 (by decide) (by omega) (fun hc109 => ?_) (fun hc109 => ?_)
                · replace hF := hF.to (if_pos hc109)
                  refine x_iload_n C.1 dX12_rota_153 4 rfl ?_
                  refine x_bipush C.1 (n := 10) dX12_rota_154 ?_
                  refine x_icmp_lt_t C.1 (tgt := 207) dX12_rota_156 (by decide) (by omega) (by decide) (by omega) ?_
                  refine x_aload_n C.1 dX12_rota_207 1 rfl ?_
                  refine x_iload_n C.1 dX12_rota_208 2 rfl ?_
                  refine x_callVv C (As := [vI x1]) (rest := []) 0 (xw_at (N := 33) (i := 0) (by decide) rfl) vc_X12 (m_goesByRota l D cy ad G V108 J Rr hI108 hJ hR x1 ⟨by omega, by omega⟩ hW) (l1 := []) (l2 := []) (List.append_nil _).symm (w2 := fun u : Nat → Nat → Int => MW cy ad u J Rr) (fun _ => List.append_nil _) rfl wm_yX12_goesByRota wn_X12 wl_X12_404 wi_yX12_goesByRota we_yX12_goesByRota hd_yX12_goesByRota rfl ⟨Nat.le_of_ble_eq_true rfl, Nat.le_of_ble_eq_true rfl⟩ (Nat.le_of_ble_eq_true rfl) ⟨Nat.le_of_ble_eq_true rfl, Nat.le_of_ble_eq_true rfl⟩ dX12_rota_209 (fun V110 h110 => ?_)
                  obtain ⟨hI110, hBc110, hFc110⟩ := h110
                  replace hF := calUM_i hF hFc110 hBc110
                  have hB110 := hB108.tr hBc110 (m := 16925072156758100966113280) rfl
                  refine x_iload_n C.1 dX12_rota_212 4 rfl ?_
                  refine x_iconst C.1 (n := 1) dX12_rota_213 ?_
                  refine x_icmp_ne C.1 (tgt := 224) dX12_rota_214 (by decide) (by omega) (by decide) (fun hc111 => ?_) (fun hc111 => ?_)
                  · replace hF := hF.to (if_pos hc111)
                    refine x_aload_n C.1 dX12_rota_224 1 rfl ?_
                    obtain ⟨z112, ez112, bz112⟩ := hI110.rd 0 50 (x := -2147483648) (y := 2147483647) rfl
                    replace hF := hF.to (rdb_e (z := z112) ez112)
                    refine x_getI C (N := 33) (i := 0) (by decide) rfl vc_X12 wx_X12 50 (by decide) wf_X12_398 rfl dX12_rota_225 (a := z112) ez112 ?_
                    exact x_iret (S := (Nat → Nat → Int)) (post := (fun a (u : Nat → Nat → Int) => MI G u ∧ FBm 19823965700723053605584634096 V u ∧ (f_m_rota x1 x2 x3 V J Rr) (a, u))) (w1 := (fun u : Nat → Nat → Int => MW cy ad u J Rr)) (a := z112) C hr rfl dX12_rota_228 (by omega) V110 rfl ⟨hI110, hB110, hF _ rfl⟩
                  · replace hF := hF.to (if_neg (fun hh => hh hc111))
                    refine x_aload_n C.1 dX12_rota_217 1 rfl ?_
                    obtain ⟨z113, ez113, bz113⟩ := hI110.rd 0 49 (x := -2147483648) (y := 2147483647) rfl
                    replace hF := hF.to (rdb_e (z := z113) ez113)
                    refine x_getI C (N := 33) (i := 0) (by decide) rfl vc_X12 wx_X12 49 (by decide) wf_X12_395 rfl dX12_rota_218 (a := z113) ez113 ?_
                    refine x_goto C.1 (tgt := 228) dX12_rota_221 (by decide) ?_
                    exact x_iret (S := (Nat → Nat → Int)) (post := (fun a (u : Nat → Nat → Int) => MI G u ∧ FBm 19823965700723053605584634096 V u ∧ (f_m_rota x1 x2 x3 V J Rr) (a, u))) (w1 := (fun u : Nat → Nat → Int => MW cy ad u J Rr)) (a := z113) C hr rfl dX12_rota_228 (by omega) V110 rfl ⟨hI110, hB110, hF _ rfl⟩
                · replace hF := hF.to (if_neg (fun hh => hh hc109))
                  refine x_aload_n C.1 dX12_rota_148 1 rfl ?_
                  refine x_getI C (N := 33) (i := 0) (by decide) rfl vc_X12 wx_X12 46 (by decide) wf_X12_392 rfl dX12_rota_149 (a := z93) ((congrFun (congrFun hV108 0) 46).trans ((up2_n _ _ (Or.inr (by decide))).trans ez93)) ?_
                  exact x_iret (S := (Nat → Nat → Int)) (post := (fun a (u : Nat → Nat → Int) => MI G u ∧ FBm 19823965700723053605584634096 V u ∧ (f_m_rota x1 x2 x3 V J Rr) (a, u))) (w1 := (fun u : Nat → Nat → Int => MW cy ad u J Rr)) (a := z93) C hr rfl dX12_rota_152 (by omega) V108 rfl ⟨hI108, hB108, hF _ rfl⟩
              · replace hF := hF.to (if_neg hc107)
                refine x_aload_n C.1 dX12_rota_103 1 rfl ?_
                refine x_bipush C.1 (n := 47) dX12_rota_104 ?_
                refine x_callVi C (As := [vI 47]) (rest := []) 0 (xw_at (N := 33) (i := 0) (by decide) rfl) vc_X12 (m_takes l D cy ad G V90 J Rr hI90 hJ hR 47 ⟨by decide, by decide⟩) (l1 := []) (l2 := []) (List.append_nil _).symm (w2 := fun u : Nat → Nat → Int => MW cy ad u J Rr) (fun _ => List.append_nil _) rfl wm_yX12_takes wn_X12 wl_X12_234 wi_yX12_takes we_yX12_takes hd_yX12_takes rfl ⟨Nat.le_of_ble_eq_true rfl, Nat.le_of_ble_eq_true rfl⟩ (Nat.le_of_ble_eq_true rfl) ⟨Nat.le_of_ble_eq_true rfl, Nat.le_of_ble_eq_true rfl⟩ dX12_rota_106 (fun z114 V114 bz114 h114 => ?_)
                obtain ⟨hI114, bq114, hx114_0, hx114_1, hx114_2, hBc114, hFc114⟩ := h114
                replace hF := calVM_i hF hFc114 hBc114
                replace hF := hF.fc bq114
                have hB114 := hB90.tr hBc114 (m := 160) rfl
                obtain ⟨z115, ez115, bz115⟩ := hI114.rd 0 5 (x := 0) (y := 220) rfl
                replace hF := hF.to (rdb_e (z := z115) ez115)
                replace hF := hF.fc bz115
                rw [ez115, ez91] at hx114_0 hx114_1
                refine x_if_eq C.1 (tgt := 123) dX12_rota_109 (by decide) (by omega) (fun hc116 => ?_) (fun hc116 => ?_)
                · replace hF := hF.to (if_pos hc116)
                  refine x_iconst C.1 (n := 0) dX12_rota_123 ?_
                  refine x_istore C.1 (lv' := [(4, vI 0), (0, .ref (ad 0)), (1, vI x1), (2, vI x2), (3, vI x3)]) dX12_rota_124 (by decide) rfl ?_
                  refine x_goto C.1 (tgt := 87) dX12_rota_126 (by decide) ?_
                  have hm5 := ez115
                  have hm6 := ((hx114_2 (0) (6) (Or.inr (by decide))).trans ez92)
                  have hmu90 : (2 * (V114 0 6 - V114 0 5) + 0).toNat < (2 * (V90 0 6 - V90 0 5) + z89).toNat := (by omega)
                  exact ih90 (0, V114) ⟨⟨by decide, by decide⟩, hI114, hB114, (Or.inl rfl), ⟨nf90, Nat.lt_of_lt_of_le hmu90 (Nat.le_of_lt_succ hn90), hF⟩⟩ hmu90
                · replace hF := hF.to (if_neg hc116)
                  have hon117 := Sp.on hx114_0 (by omega)
                  refine x_aload_n C.1 dX12_rota_112 1 rfl ?_
                  refine x_callVi C (As := []) (rest := []) 0 (xw_at (N := 33) (i := 0) (by decide) rfl) vc_X12 (m_readsWeek l D cy ad G V114 J Rr hI114 hJ hR (by rw [((hx114_2 (0) (46) (Or.inr (by decide))).trans ez93), ((hx114_2 (0) (47) (Or.inr (by decide))).trans ez94)]; omega)) (l1 := []) (l2 := []) (List.append_nil _).symm (w2 := fun u : Nat → Nat → Int => MW cy ad u J Rr) (fun _ => List.append_nil _) rfl wm_yX12_readsWeek wn_X12 wl_X12_401 wi_yX12_readsWeek we_yX12_readsWeek hd_yX12_readsWeek rfl ⟨Nat.le_of_ble_eq_true rfl, Nat.le_of_ble_eq_true rfl⟩ (Nat.le_of_ble_eq_true rfl) ⟨Nat.le_of_ble_eq_true rfl, Nat.le_of_ble_eq_true rfl⟩ dX12_rota_113 (fun z118 V118 bz118 h118 => ?_)
                  obtain ⟨hI118, bq118, hx118_0, hx118_1, hx118_2, hBc118, hFc118⟩ := h118
                  replace hF := calVM_i hF hFc118 hBc118
                  replace hF := hF.fc bq118
                  have hB118 := hB114.tr hBc118 (m := 19807040628566295504618520736) rfl
                  obtain ⟨z119, ez119, bz119⟩ := hI118.rd 0 6 (x := 0) (y := 220) rfl
                  replace hF := hF.to (rdb_e (z := z119) ez119)
                  replace hF := hF.fc bz119
                  obtain ⟨z120, ez120, bz120⟩ := hI118.rd 0 5 (x := 0) (y := 220) rfl
                  replace hF := hF.to (rdb_e (z := z120) ez120)
                  replace hF := hF.fc bz120
                  rw [ez119, ((hx114_2 (0) (6) (Or.inr (by decide))).trans ez92)] at hx118_1
                  rw [ez120, ez115] at hx118_2
                  refine x_if_eq C.1 (tgt := 123) dX12_rota_116 (by decide) (by omega) (fun hc121 => ?_) (fun hc121 => ?_)
                  · replace hF := hF.to (if_pos hc121)
                    refine x_iconst C.1 (n := 0) dX12_rota_123 ?_
                    refine x_istore C.1 (lv' := [(4, vI 0), (0, .ref (ad 0)), (1, vI x1), (2, vI x2), (3, vI x3)]) dX12_rota_124 (by decide) rfl ?_
                    refine x_goto C.1 (tgt := 87) dX12_rota_126 (by decide) ?_
                    have hm5 := ez120
                    have hm6 := ez119
                    have hmu90 : (2 * (V118 0 6 - V118 0 5) + 0).toNat < (2 * (V90 0 6 - V90 0 5) + z89).toNat := (by omega)
                    exact ih90 (0, V118) ⟨⟨by decide, by decide⟩, hI118, hB118, (Or.inl rfl), ⟨nf90, Nat.lt_of_lt_of_le hmu90 (Nat.le_of_lt_succ hn90), hF⟩⟩ hmu90
                  · replace hF := hF.to (if_neg hc121)
                    have hon122 := Sp.on hx118_0 (by omega)
                    refine x_iconst C.1 (n := 1) dX12_rota_119 ?_
                    refine x_goto C.1 (tgt := 124) dX12_rota_120 (by decide) ?_
                    refine x_istore C.1 (lv' := [(4, vI 1), (0, .ref (ad 0)), (1, vI x1), (2, vI x2), (3, vI x3)]) dX12_rota_124 (by decide) rfl ?_
                    refine x_goto C.1 (tgt := 87) dX12_rota_126 (by decide) ?_
                    have hm5 := ez120
                    have hm6 := ez119
                    have hmu90 : (2 * (V118 0 6 - V118 0 5) + 1).toNat < (2 * (V90 0 6 - V90 0 5) + z89).toNat := (by omega)
                    exact ih90 (1, V118) ⟨⟨by decide, by decide⟩, hI118, hB118, (by have := hx118_0; unfold Sp at this; omega), ⟨nf90, Nat.lt_of_lt_of_le hmu90 (Nat.le_of_lt_succ hn90), hF⟩⟩ hmu90
          · replace hF := hF.to (if_neg hc15)
            refine x_iconst C.1 (n := -1) dX12_rota_59 ?_
            exact x_iret (S := (Nat → Nat → Int)) (post := (fun a (u : Nat → Nat → Int) => MI G u ∧ FBm 19823965700723053605584634096 V u ∧ (f_m_rota x1 x2 x3 V J Rr) (a, u))) (w1 := (fun u : Nat → Nat → Int => MW cy ad u J Rr)) (a := (-1)) C hr rfl dX12_rota_60 (by decide) V rfl ⟨hI, hB, hF _ rfl⟩
      · replace hF := hF.to (if_neg (fun hh => hh hc10))
        refine x_iload_n C.1 dX12_rota_27 3 rfl ?_
        refine x_bipush C.1 (n := 10) dX12_rota_28 ?_
        refine x_bipush C.1 (n := 17) dX12_rota_30 ?_
        refine x_callSi C (As := [vI x3, vI 10, vI 17]) (rest := []) (m_in l D cy x3 ⟨by omega, by omega⟩ 10 ⟨by decide, by decide⟩ 17 ⟨by decide, by decide⟩) (l1 := []) (l2 := _) rfl (w2 := fun _ => _) (fun _ => rfl) rfl wm_yX12_in wn_X12 wl_X12_126 wi_yX12_in hd_yX12_in rfl ⟨Nat.le_of_ble_eq_true rfl, Nat.le_of_ble_eq_true rfl⟩ (Nat.le_of_ble_eq_true rfl) ⟨Nat.le_of_ble_eq_true rfl, Nat.le_of_ble_eq_true rfl⟩ dX12_rota_32 (fun z123 u123 bz123 h123 => ?_)
        obtain ⟨bq123, hx123_0, hFc123⟩ := h123
        replace hF := calR_i hF hFc123
        replace hF := hF.fc bq123
        refine x_if_eq C.1 (tgt := 59) dX12_rota_35 (by decide) (by omega) (fun hc124 => ?_) (fun hc124 => ?_)
        · replace hF := hF.to (if_pos hc124)
          refine x_iconst C.1 (n := -1) dX12_rota_59 ?_
          exact x_iret (S := (Nat → Nat → Int)) (post := (fun a (u : Nat → Nat → Int) => MI G u ∧ FBm 19823965700723053605584634096 V u ∧ (f_m_rota x1 x2 x3 V J Rr) (a, u))) (w1 := (fun u : Nat → Nat → Int => MW cy ad u J Rr)) (a := (-1)) C hr rfl dX12_rota_60 (by decide) V rfl ⟨hI, hB, hF _ rfl⟩
        · replace hF := hF.to (if_neg hc124)
          have hon125 := Sq.on hx123_0 (by omega)
          refine x_iload_n C.1 dX12_rota_38 2 rfl ?_
          refine x_aload_n C.1 dX12_rota_39 0 rfl ?_
          obtain ⟨z126, ez126, bz126⟩ := hI.rd 0 4 (x := 0) (y := 220) rfl
          replace hF := hF.to (rdb_e (z := z126) ez126)
          replace hF := hF.fc bz126
          refine x_getI C (N := 33) (i := 0) (by decide) rfl vc_X12 wx_X12 4 (by decide) wf_X12_137 rfl dX12_rota_40 (a := z126) ez126 ?_
          refine x_icmp_gt C.1 (tgt := 59) dX12_rota_43 (by decide) (by omega) (by omega) (fun hc127 => ?_) (fun hc127 => ?_)
          · replace hF := hF.to (if_pos hc127)
            refine x_iconst C.1 (n := -1) dX12_rota_59 ?_
            exact x_iret (S := (Nat → Nat → Int)) (post := (fun a (u : Nat → Nat → Int) => MI G u ∧ FBm 19823965700723053605584634096 V u ∧ (f_m_rota x1 x2 x3 V J Rr) (a, u))) (w1 := (fun u : Nat → Nat → Int => MW cy ad u J Rr)) (a := (-1)) C hr rfl dX12_rota_60 (by decide) V rfl ⟨hI, hB, hF _ rfl⟩
          · replace hF := hF.to (if_neg hc127)
            refine x_aload_n C.1 dX12_rota_46 0 rfl ?_
            refine x_getA C (N := 33) (i := 0) (by decide) rfl vc_X12 wx_X12 0 (by decide) wf_X12_7 (a := 1) rfl dX12_rota_47 ?_
            refine x_bipush C.1 (n := 79) dX12_rota_50 ?_
            obtain ⟨z128, ez128, bz128⟩ := hI.rd 1 79 (x := -2147483648) (y := 2147483647) (rgN_81 (Or.inl rfl) (by decide))
            replace hF := hF.to (rdb_e (z := z128) ez128)
            refine x_iald C (N := 33) (i := 1) (q := 79) (by decide) rfl (by decide) (by decide) dX12_rota_52 (a := z128) ez128 ?_
            refine x_sipush C.1 (n := 9915) dX12_rota_53 ?_
            refine x_icmp_le C.1 (tgt := 61) dX12_rota_56 (by decide) (by omega) (by decide) (fun hc129 => ?_) (fun hc129 => ?_)
            · replace hF := hF.to (if_pos hc129)
              refine x_aload_n C.1 dX12_rota_61 0 rfl ?_
              refine x_iconst C.1 (n := 0) dX12_rota_62 ?_
              refine x_putI C (N := 33) (i := 0) (by decide) rfl vc_X12 wx_X12 5 (by decide) wf_X12_144 tyX12 tyX12_ok nmX12 rfl (tyX12_ok 5 (by decide)) rfl dX12_rota_63 rfl rfl ?_
              refine x_gV ?_
              intro V130 hV130
              have hI130 : MI G V130 := hI.up hV130 rfl (by decide) rfl (Or.inl (by decide))
              have hB130 := hB.up hV130 rfl
              replace hF := hF.to (rdb_e (z := V130) hV130.symm)
              refine x_aload_n C.1 dX12_rota_66 0 rfl ?_
              refine x_iload_n C.1 dX12_rota_67 2 rfl ?_
              refine x_putI C (N := 33) (i := 0) (by decide) rfl vc_X12 wx_X12 6 (by decide) wf_X12_147 tyX12 tyX12_ok nmX12 rfl (tyX12_ok 6 (by decide)) rfl dX12_rota_68 rfl rfl ?_
              refine x_gV ?_
              intro V131 hV131
              have hI131 : MI G V131 := hI130.up hV131 rfl (by omega) rfl (Or.inl (by decide))
              have hB131 := hB130.up hV131 rfl
              replace hF := hF.to (rdb_e (z := V131) hV131.symm)
              refine x_aload_n C.1 dX12_rota_71 0 rfl ?_
              refine x_iconst C.1 (n := 0) dX12_rota_72 ?_
              refine x_putI C (N := 33) (i := 0) (by decide) rfl vc_X12 wx_X12 46 (by decide) wf_X12_392 tyX12 tyX12_ok nmX12 rfl (tyX12_ok 46 (by decide)) rfl dX12_rota_73 rfl rfl ?_
              refine x_gV ?_
              intro V132 hV132
              have hI132 : MI G V132 := hI131.up hV132 rfl (by decide) rfl (Or.inl (by decide))
              have hB132 := hB131.up hV132 rfl
              replace hF := hF.to (rdb_e (z := V132) hV132.symm)
              refine x_aload_n C.1 dX12_rota_76 0 rfl ?_
              refine x_iconst C.1 (n := 0) dX12_rota_77 ?_
              refine x_putI C (N := 33) (i := 0) (by decide) rfl vc_X12 wx_X12 47 (by decide) wf_X12_389 tyX12 tyX12_ok nmX12 rfl (tyX12_ok 47 (by decide)) rfl dX12_rota_78 rfl rfl ?_
              refine x_gV ?_
              intro V133 hV133
              have hI133 : MI G V133 := hI132.up hV133 rfl (by decide) rfl (Or.inl (by decide))
              have hB133 := hB132.up hV133 rfl
              replace hF := hF.to (rdb_e (z := V133) hV133.symm)
              refine x_aload_n C.1 dX12_rota_81 0 rfl ?_
              refine x_callVi C (As := []) (rest := []) 0 (xw_at (N := 33) (i := 0) (by decide) rfl) vc_X12 (m_readsWeek l D cy ad G V133 J Rr hI133 hJ hR (by rw [((congrFun (congrFun hV133 0) 46).trans ((up2_n _ _ (Or.inr (by decide))).trans ((congrFun (congrFun hV132 0) 46).trans (up2_s _ _ _ _)))), ((congrFun (congrFun hV133 0) 47).trans (up2_s _ _ _ _))]; omega)) (l1 := []) (l2 := []) (List.append_nil _).symm (w2 := fun u : Nat → Nat → Int => MW cy ad u J Rr) (fun _ => List.append_nil _) rfl wm_yX12_readsWeek wn_X12 wl_X12_401 wi_yX12_readsWeek we_yX12_readsWeek hd_yX12_readsWeek rfl ⟨Nat.le_of_ble_eq_true rfl, Nat.le_of_ble_eq_true rfl⟩ (Nat.le_of_ble_eq_true rfl) ⟨Nat.le_of_ble_eq_true rfl, Nat.le_of_ble_eq_true rfl⟩ dX12_rota_82 (fun z134 V134 bz134 h134 => ?_)
              obtain ⟨hI134, bq134, hx134_0, hx134_1, hx134_2, hBc134, hFc134⟩ := h134
              replace hF := calVM_i hF hFc134 hBc134
              replace hF := hF.fc bq134
              have hB134 := hB133.tr hBc134 (m := 19807040628566295504618520736) rfl
              obtain ⟨z135, ez135, bz135⟩ := hI134.rd 0 6 (x := 0) (y := 220) rfl
              replace hF := hF.to (rdb_e (z := z135) ez135)
              replace hF := hF.fc bz135
              obtain ⟨z136, ez136, bz136⟩ := hI134.rd 0 5 (x := 0) (y := 220) rfl
              replace hF := hF.to (rdb_e (z := z136) ez136)
              replace hF := hF.fc bz136
              rw [ez135, ((congrFun (congrFun hV133 0) 6).trans ((up2_n _ _ (Or.inr (by decide))).trans ((congrFun (congrFun hV132 0) 6).trans ((up2_n _ _ (Or.inr (by decide))).trans ((congrFun (congrFun hV131 0) 6).trans (up2_s _ _ _ _))))))] at hx134_1
              rw [ez136, ((congrFun (congrFun hV133 0) 5).trans ((up2_n _ _ (Or.inr (by decide))).trans ((congrFun (congrFun hV132 0) 5).trans ((up2_n _ _ (Or.inr (by decide))).trans ((congrFun (congrFun hV131 0) 5).trans ((up2_n _ _ (Or.inr (by decide))).trans ((congrFun (congrFun hV130 0) 5).trans (up2_s _ _ _ _))))))))] at hx134_2
              refine x_istore C.1 (lv' := [(4, vI z134), (0, .ref (ad 0)), (1, vI x1), (2, vI x2), (3, vI x3)]) dX12_rota_85 (by decide) rfl ?_
              obtain ⟨bd324, hbd324, hF⟩ := lop2_ex hF
              refine x_loop (I := fun x : Int × (Nat → Nat → Int) => match x with | (z323, V324) => (0 ≤ z323 ∧ z323 ≤ 1) ∧ MI G V324 ∧ FBm 19823965700723053605584634096 V V324 ∧ (z323 = 0 ∨ V324 0 46 = 7 * V324 0 47) ∧ (∃ nf : Nat, (2 * (V324 0 6 - V324 0 5) + z323).toNat < nf ∧ Imp (lop2 nf bd324 z323 V324) (f_m_rota x1 x2 x3 V J Rr))) (μ := fun x : Int × (Nat → Nat → Int) => match x with | (z323, V324) => (2 * (V324 0 6 - V324 0 5) + z323).toNat) (wsf := fun x : Int × (Nat → Nat → Int) => match x with | (z323, V324) => MW cy ad V324 J Rr) (lvf := fun x : Int × (Nat → Nat → Int) => match x with | (z323, V324) => [(4, vI z323), (0, .ref (ad 0)), (1, vI x1), (2, vI x2), (3, vI x3)]) (fun x hI324x ih324 => ?_) (z134, V134) ⟨⟨by omega, by omega⟩, hI134, hB134, (by have := hx134_0; unfold Sp at this; omega), ⟨_, (Nat.lt_succ_self _), hF⟩⟩ rfl rfl
              obtain ⟨z323, V324⟩ := x
              obtain ⟨bz323, hI324, hB324, hg46, nf324, hn324, hF⟩ := hI324x
              try dsimp only
              obtain ⟨nf324, rfl⟩ : ∃ mm, nf324 = mm + 1 := ⟨nf324 - 1, (Nat.succ_pred_eq_of_pos (Nat.lt_of_le_of_lt (Nat.zero_le _) hn324)).symm⟩
              replace hF := hF.to (lop2_s hbd324)
              obtain ⟨z325, ez325, bz325⟩ := hI324.rd 0 5 (x := 0) (y := 220) rfl
              replace hF := hF.to (rdb_e (z := z325) ez325)
              replace hF := hF.fc bz325
              obtain ⟨z326, ez326, bz326⟩ := hI324.rd 0 6 (x := 0) (y := 220) rfl
              replace hF := hF.to (rdb_e (z := z326) ez326)
              replace hF := hF.fc bz326
              obtain ⟨z327, ez327, bz327⟩ := hI324.rd 0 46 (x := 0) (y := 84) rfl
              replace hF := hF.to (rdb_e (z := z327) ez327)
              replace hF := hF.fc bz327
              obtain ⟨z328, ez328, bz328⟩ := hI324.rd 0 47 (x := 0) (y := 12) rfl
              replace hF := hF.to (rdb_e (z := z328) ez328)
              replace hF := hF.fc bz328
              rw [ez327, ez328] at hg46
              have hn5 := ez325
              have hn6 := ez326
              refine x_iload C.1 dX12_rota_87 0 rfl ?_
              refine x_if_eq C.1 (tgt := 129) dX12_rota_89 (by decide) (by omega) (fun hc329 => ?_) (fun hc329 => ?_)
              · replace hF := hF.to (if_pos hc329)
                refine x_aload_n C.1 dX12_rota_129 1 rfl ?_
                refine x_iconst C.1 (n := 0) dX12_rota_130 ?_
                refine x_putI C (N := 33) (i := 0) (by decide) rfl vc_X12 wx_X12 4 (by decide) wf_X12_137 tyX12 tyX12_ok nmX12 rfl (tyX12_ok 4 (by decide)) rfl dX12_rota_131 rfl rfl ?_
                refine x_gV ?_
                intro V330 hV330
                have hI330 : MI G V330 := hI324.up hV330 rfl (by decide) rfl (Or.inl (by decide))
                have hB330 := hB324.up hV330 rfl
                replace hF := hF.to (rdb_e (z := V330) hV330.symm)
                refine x_iload C.1 dX12_rota_134 0 rfl ?_
                refine x_if_ne_f C.1 (tgt := 144) dX12_rota_136 (by decide) (by omega) (by omega) ?_
                refine x_aload_n C.1 dX12_rota_139 1 rfl ?_
                obtain ⟨z331, ez331, bz331⟩ := hI330.rd 0 7 (x := -2147483648) (y := 2147483647) rfl
                replace hF := hF.to (rdb_e (z := z331) ez331)
                refine x_getI C (N := 33) (i := 0) (by decide) rfl vc_X12 wx_X12 7 (by decide) wf_X12_154 rfl dX12_rota_140 (a := z331) ez331 ?_
                exact x_iret (S := (Nat → Nat → Int)) (post := (fun a (u : Nat → Nat → Int) => MI G u ∧ FBm 19823965700723053605584634096 V u ∧ (f_m_rota x1 x2 x3 V J Rr) (a, u))) (w1 := (fun u : Nat → Nat → Int => MW cy ad u J Rr)) (a := z331) C hr rfl dX12_rota_143 (by omega) V330 rfl ⟨hI330, hB330, hF _ rfl⟩
              · replace hF := hF.to (if_neg hc329)
                refine x_aload_n C.1 dX12_rota_92 1 rfl ?_
                refine x_getI C (N := 33) (i := 0) (by decide) rfl vc_X12 wx_X12 5 (by decide) wf_X12_144 rfl dX12_rota_93 (a := z325) ez325 ?_
                refine x_aload_n C.1 dX12_rota_96 1 rfl ?_
                refine x_getI C (N := 33) (i := 0) (by decide) rfl vc_X12 wx_X12 6 (by decide) wf_X12_147 rfl dX12_rota_97 (a := z326) ez326 ?_
                refine x_icmp_ge C.1 (tgt := 129) dX12_rota_100 (by decide) (by omega) (by omega) (fun hc341 => ?_) (fun hc341 => ?_)
                · replace hF := hF.to (if_pos hc341)
                  refine x_aload_n C.1 dX12_rota_129 1 rfl ?_
                  refine x_iconst C.1 (n := 0) dX12_rota_130 ?_
                  refine x_putI C (N := 33) (i := 0) (by decide) rfl vc_X12 wx_X12 4 (by decide) wf_X12_137 tyX12 tyX12_ok nmX12 rfl (tyX12_ok 4 (by decide)) rfl dX12_rota_131 rfl rfl ?_
                  refine x_gV ?_
                  intro V342 hV342
                  have hI342 : MI G V342 := hI324.up hV342 rfl (by decide) rfl (Or.inl (by decide))
                  have hB342 := hB324.up hV342 rfl
                  replace hF := hF.to (rdb_e (z := V342) hV342.symm)
                  refine x_iload C.1 dX12_rota_134 0 rfl ?_
                  refine x_if_ne_t C.1 (tgt := 144) dX12_rota_136 (by decide) (by omega) (by omega) ?_
                  refine x_iload_n C.1 dX12_rota_144 4 rfl ?_
                  refine x_if_ne_t C.1 (tgt := 153) dX12_rota_145 (by decide) (by omega) (by omega) ?_
                  refine x_iload_n C.1 dX12_rota_153 4 rfl ?_
                  refine x_bipush C.1 (n := 10) dX12_rota_154 ?_
                  refine x_icmp_lt_f C.1 (tgt := 207) dX12_rota_156 (by decide) (by omega) (by decide) (by omega) ?_
                  refine x_iconst C.1 (n := 0) dX12_rota_159 ?_
                  refine x_istore C.1 (lv' := [(5, vI 0), (4, vI z323), (0, .ref (ad 0)), (1, vI x1), (2, vI x2), (3, vI x3)]) dX12_rota_160 (by decide) rfl ?_
                  refine x_iconst C.1 (n := 0) dX12_rota_162 ?_
                  refine x_istore C.1 (lv' := [(6, vI 0), (5, vI 0), (4, vI z323), (0, .ref (ad 0)), (1, vI x1), (2, vI x2), (3, vI x3)]) dX12_rota_163 (by decide) rfl ?_
                  obtain ⟨bd395, hbd395, hF⟩ := lop2_ex hF
                  refine x_loop (I := fun x : Int × Int => match x with | (z393, z394) => (0 ≤ z393 ∧ z393 ≤ 84) ∧ (-2147483648 ≤ z394 ∧ z394 ≤ 2147483647) ∧ (∃ nf : Nat, (85 - z393).toNat < nf ∧ Imp (lop2 nf bd395 z393 z394) (f_m_rota x1 x2 x3 V J Rr))) (μ := fun x : Int × Int => match x with | (z393, z394) => (85 - z393).toNat) (wsf := fun x : Int × Int => match x with | (z393, z394) => MW cy ad V342 J Rr) (lvf := fun x : Int × Int => match x with | (z393, z394) => [(6, vI z393), (5, vI z394), (4, vI z323), (0, .ref (ad 0)), (1, vI x1), (2, vI x2), (3, vI x3)]) (fun x hI395x ih395 => ?_) (0, 0) ⟨⟨by decide, by decide⟩, ⟨by decide, by decide⟩, ⟨_, (by omega), hF⟩⟩ rfl rfl
                  obtain ⟨z393, z394⟩ := x
                  obtain ⟨bz393, bz394, nf395, hn395, hF⟩ := hI395x
                  try dsimp only
                  obtain ⟨nf395, rfl⟩ : ∃ mm, nf395 = mm + 1 := ⟨nf395 - 1, (Nat.succ_pred_eq_of_pos (Nat.lt_of_le_of_lt (Nat.zero_le _) hn395)).symm⟩
                  replace hF := hF.to (lop2_s hbd395)
                  refine x_iload C.1 dX12_rota_165 0 rfl ?_
                  refine x_aload_n C.1 dX12_rota_167 3 rfl ?_
                  refine x_getI C (N := 33) (i := 0) (by decide) rfl vc_X12 wx_X12 46 (by decide) wf_X12_392 rfl dX12_rota_168 (a := z327) ((congrFun (congrFun hV342 0) 46).trans ((up2_n _ _ (Or.inr (by decide))).trans ez327)) ?_
                  refine x_icmp_ge C.1 (tgt := 204) dX12_rota_171 (by decide) (by omega) (by omega) (fun hc402 => ?_) (fun hc402 => ?_)
                  · replace hF := hF.to (if_pos hc402)
                    refine x_iload C.1 dX12_rota_204 1 rfl ?_
                    exact x_iret (S := (Nat → Nat → Int)) (post := (fun a (u : Nat → Nat → Int) => MI G u ∧ FBm 19823965700723053605584634096 V u ∧ (f_m_rota x1 x2 x3 V J Rr) (a, u))) (w1 := (fun u : Nat → Nat → Int => MW cy ad u J Rr)) (a := z394) C hr rfl dX12_rota_206 (by omega) V342 rfl ⟨hI342, hB342, hF _ rfl⟩
                  · replace hF := hF.to (if_neg hc402)
                    refine x_iload C.1 dX12_rota_174 1 rfl ?_
                    refine x_aload_n C.1 dX12_rota_176 3 rfl ?_
                    refine x_getA C (N := 33) (i := 0) (by decide) rfl vc_X12 wx_X12 48 (by decide) wf_X12_99 (a := 30) rfl dX12_rota_177 ?_
                    refine x_iload C.1 dX12_rota_180 0 rfl ?_
                    obtain ⟨z403, ez403, bz403⟩ := hI342.rd 30 z393.toNat (x := -1) (y := 7) rfl
                    replace hF := hF.to (rdb_e (z := z403) ez403)
                    replace hF := hF.fc bz403
                    refine x_iald C (N := 33) (i := 30) (q := z393) (by decide) rfl (by omega) (by decide) dX12_rota_182 (a := z403) ez403 ?_
                    refine x_iload_n C.1 dX12_rota_183 6 rfl ?_
                    refine x_bipush C.1 (n := 10) dX12_rota_184 ?_
                    refine x_isub C.1 (v := x3 - 10) (by omega) dX12_rota_186 ?_
                    obtain ⟨jf405, hjf405, hF⟩ := jn_ex hF
                    refine x_join (I := fun z404 : Int => (0 ≤ z404 ∧ z404 ≤ 1) ∧ Imp (jf405 z404) (f_m_rota x1 x2 x3 V J Rr)) (wsf := fun z404 : Int => MW cy ad V342 J Rr) (lvf := fun z404 : Int => [(6, vI z393), (5, vI z394), (4, vI z323), (0, .ref (ad 0)), (1, vI x1), (2, vI x2), (3, vI x3)]) (stf := fun z404 : Int => [vI z404, vI z394]) 195 (fun z404 hI405x => ?_) (fun jn405 => ?_)
                    · obtain ⟨bz404, hF⟩ := hI405x
                      try dsimp only
                      replace hF := hF.to (jn_s1 hjf405)
                      refine x_iadd C.1 (v := z394 + z404) (by omega) dX12_rota_195 ?_
                      refine x_wrapg ?_
                      intro z406 bz406 ew406
                      replace hF := hF.to (rdb_e (z := z406) ew406.symm)
                      refine x_istore C.1 (lv' := [(5, vI z406), (6, vI z393), (4, vI z323), (0, .ref (ad 0)), (1, vI x1), (2, vI x2), (3, vI x3)]) dX12_rota_196 (by decide) rfl ?_
                      refine x_iinc C.1 (v := z393 + 1) (lv' := [(6, vI (z393 + 1)), (5, vI z406), (4, vI z323), (0, .ref (ad 0)), (1, vI x1), (2, vI x2), (3, vI x3)]) (by omega) dX12_rota_198 1 rfl (by decide) rfl ?_
                      refine x_goto C.1 (tgt := 165) dX12_rota_201 (by decide) ?_
                      have hmu395 : (85 - (z393 + 1)).toNat < (85 - z393).toNat := (by omega)
                      exact ih395 (z393 + 1, z406) ⟨⟨by omega, by omega⟩, ⟨by omega, by omega⟩, ⟨nf395, Nat.lt_of_lt_of_le hmu395 (Nat.le_of_lt_succ hn395), hF⟩⟩ hmu395
                    · refine x_icmp_ne C.1 (tgt := 194) dX12_rota_187 (by decide) (by omega) (by omega) (fun hc407 => ?_) (fun hc407 => ?_)
                      · replace hF := hF.to (if_pos hc407)
                        refine x_iconst C.1 (n := 0) dX12_rota_194 ?_
                        exact jn405 0 ⟨⟨by decide, by decide⟩, hF⟩
                      · replace hF := hF.to (if_neg (fun hh => hh hc407))
                        refine x_iconst C.1 (n := 1) dX12_rota_190 ?_
                        refine x_goto C.1 (tgt := 195) dX12_rota_191 (by decide) ?_
                        exact jn405 1 ⟨⟨by decide, by decide⟩, hF⟩
                · replace hF := hF.to (if_neg hc341)
                  refine x_aload_n C.1 dX12_rota_103 1 rfl ?_
                  refine x_bipush C.1 (n := 47) dX12_rota_104 ?_
                  refine x_callVi C (As := [vI 47]) (rest := []) 0 (xw_at (N := 33) (i := 0) (by decide) rfl) vc_X12 (m_takes l D cy ad G V324 J Rr hI324 hJ hR 47 ⟨by decide, by decide⟩) (l1 := []) (l2 := []) (List.append_nil _).symm (w2 := fun u : Nat → Nat → Int => MW cy ad u J Rr) (fun _ => List.append_nil _) rfl wm_yX12_takes wn_X12 wl_X12_234 wi_yX12_takes we_yX12_takes hd_yX12_takes rfl ⟨Nat.le_of_ble_eq_true rfl, Nat.le_of_ble_eq_true rfl⟩ (Nat.le_of_ble_eq_true rfl) ⟨Nat.le_of_ble_eq_true rfl, Nat.le_of_ble_eq_true rfl⟩ dX12_rota_106 (fun z408 V408 bz408 h408 => ?_)
                  obtain ⟨hI408, bq408, hx408_0, hx408_1, hx408_2, hBc408, hFc408⟩ := h408
                  replace hF := calVM_i hF hFc408 hBc408
                  replace hF := hF.fc bq408
                  have hB408 := hB324.tr hBc408 (m := 160) rfl
                  obtain ⟨z409, ez409, bz409⟩ := hI408.rd 0 5 (x := 0) (y := 220) rfl
                  replace hF := hF.to (rdb_e (z := z409) ez409)
                  replace hF := hF.fc bz409
                  rw [ez409, ez325] at hx408_0 hx408_1
                  refine x_if_eq C.1 (tgt := 123) dX12_rota_109 (by decide) (by omega) (fun hc410 => ?_) (fun hc410 => ?_)
                  · replace hF := hF.to (if_pos hc410)
                    refine x_iconst C.1 (n := 0) dX12_rota_123 ?_
                    refine x_istore C.1 (lv' := [(4, vI 0), (0, .ref (ad 0)), (1, vI x1), (2, vI x2), (3, vI x3)]) dX12_rota_124 (by decide) rfl ?_
                    refine x_goto C.1 (tgt := 87) dX12_rota_126 (by decide) ?_
                    have hm5 := ez409
                    have hm6 := ((hx408_2 (0) (6) (Or.inr (by decide))).trans ez326)
                    have hmu324 : (2 * (V408 0 6 - V408 0 5) + 0).toNat < (2 * (V324 0 6 - V324 0 5) + z323).toNat := (by omega)
                    exact ih324 (0, V408) ⟨⟨by decide, by decide⟩, hI408, hB408, (Or.inl rfl), ⟨nf324, Nat.lt_of_lt_of_le hmu324 (Nat.le_of_lt_succ hn324), hF⟩⟩ hmu324
                  · replace hF := hF.to (if_neg hc410)
                    have hon411 := Sp.on hx408_0 (by omega)
                    refine x_aload_n C.1 dX12_rota_112 1 rfl ?_
                    refine x_callVi C (As := []) (rest := []) 0 (xw_at (N := 33) (i := 0) (by decide) rfl) vc_X12 (m_readsWeek l D cy ad G V408 J Rr hI408 hJ hR (by rw [((hx408_2 (0) (46) (Or.inr (by decide))).trans ez327), ((hx408_2 (0) (47) (Or.inr (by decide))).trans ez328)]; omega)) (l1 := []) (l2 := []) (List.append_nil _).symm (w2 := fun u : Nat → Nat → Int => MW cy ad u J Rr) (fun _ => List.append_nil _) rfl wm_yX12_readsWeek wn_X12 wl_X12_401 wi_yX12_readsWeek we_yX12_readsWeek hd_yX12_readsWeek rfl ⟨Nat.le_of_ble_eq_true rfl, Nat.le_of_ble_eq_true rfl⟩ (Nat.le_of_ble_eq_true rfl) ⟨Nat.le_of_ble_eq_true rfl, Nat.le_of_ble_eq_true rfl⟩ dX12_rota_113 (fun z412 V412 bz412 h412 => ?_)
                    obtain ⟨hI412, bq412, hx412_0, hx412_1, hx412_2, hBc412, hFc412⟩ := h412
                    replace hF := calVM_i hF hFc412 hBc412
                    replace hF := hF.fc bq412
                    have hB412 := hB408.tr hBc412 (m := 19807040628566295504618520736) rfl
                    obtain ⟨z413, ez413, bz413⟩ := hI412.rd 0 6 (x := 0) (y := 220) rfl
                    replace hF := hF.to (rdb_e (z := z413) ez413)
                    replace hF := hF.fc bz413
                    obtain ⟨z414, ez414, bz414⟩ := hI412.rd 0 5 (x := 0) (y := 220) rfl
                    replace hF := hF.to (rdb_e (z := z414) ez414)
                    replace hF := hF.fc bz414
                    rw [ez413, ((hx408_2 (0) (6) (Or.inr (by decide))).trans ez326)] at hx412_1
                    rw [ez414, ez409] at hx412_2
                    refine x_if_eq C.1 (tgt := 123) dX12_rota_116 (by decide) (by omega) (fun hc415 => ?_) (fun hc415 => ?_)
                    · replace hF := hF.to (if_pos hc415)
                      refine x_iconst C.1 (n := 0) dX12_rota_123 ?_
                      refine x_istore C.1 (lv' := [(4, vI 0), (0, .ref (ad 0)), (1, vI x1), (2, vI x2), (3, vI x3)]) dX12_rota_124 (by decide) rfl ?_
                      refine x_goto C.1 (tgt := 87) dX12_rota_126 (by decide) ?_
                      have hm5 := ez414
                      have hm6 := ez413
                      have hmu324 : (2 * (V412 0 6 - V412 0 5) + 0).toNat < (2 * (V324 0 6 - V324 0 5) + z323).toNat := (by omega)
                      exact ih324 (0, V412) ⟨⟨by decide, by decide⟩, hI412, hB412, (Or.inl rfl), ⟨nf324, Nat.lt_of_lt_of_le hmu324 (Nat.le_of_lt_succ hn324), hF⟩⟩ hmu324
                    · replace hF := hF.to (if_neg hc415)
                      have hon416 := Sp.on hx412_0 (by omega)
                      refine x_iconst C.1 (n := 1) dX12_rota_119 ?_
                      refine x_goto C.1 (tgt := 124) dX12_rota_120 (by decide) ?_
                      refine x_istore C.1 (lv' := [(4, vI 1), (0, .ref (ad 0)), (1, vI x1), (2, vI x2), (3, vI x3)]) dX12_rota_124 (by decide) rfl ?_
                      refine x_goto C.1 (tgt := 87) dX12_rota_126 (by decide) ?_
                      have hm5 := ez414
                      have hm6 := ez413
                      have hmu324 : (2 * (V412 0 6 - V412 0 5) + 1).toNat < (2 * (V324 0 6 - V324 0 5) + z323).toNat := (by omega)
                      exact ih324 (1, V412) ⟨⟨by decide, by decide⟩, hI412, hB412, (by have := hx412_0; unfold Sp at this; omega), ⟨nf324, Nat.lt_of_lt_of_le hmu324 (Nat.le_of_lt_succ hn324), hF⟩⟩ hmu324
            · replace hF := hF.to (if_neg hc129)
              refine x_iconst C.1 (n := -1) dX12_rota_59 ?_
              exact x_iret (S := (Nat → Nat → Int)) (post := (fun a (u : Nat → Nat → Int) => MI G u ∧ FBm 19823965700723053605584634096 V u ∧ (f_m_rota x1 x2 x3 V J Rr) (a, u))) (w1 := (fun u : Nat → Nat → Int => MW cy ad u J Rr)) (a := (-1)) C hr rfl dX12_rota_60 (by decide) V rfl ⟨hI, hB, hF _ rfl⟩
theorem dX12_laysAlone_0 : decode cX12_laysAlone 0 = .ok (.iconst 0, 1) := by decide +kernel
theorem dX12_laysAlone_1 : decode cX12_laysAlone 1 = .ok (.istore_n 2, 1) := by decide +kernel
theorem dX12_laysAlone_2 : decode cX12_laysAlone 2 = .ok (.iload_n 2, 1) := by decide +kernel
theorem dX12_laysAlone_3 : decode cX12_laysAlone 3 = .ok (.iload_n 1, 1) := by decide +kernel
theorem dX12_laysAlone_4 : decode cX12_laysAlone 4 = .ok (.if_icmp .ge 52, 3) := by decide +kernel
theorem dX12_laysAlone_7 : decode cX12_laysAlone 7 = .ok (.aload_n 0, 1) := by decide +kernel
theorem dX12_laysAlone_8 : decode cX12_laysAlone 8 = .ok (.invokevirtual 250, 3) := by decide +kernel
theorem dX12_laysAlone_11 : decode cX12_laysAlone 11 = .ok (.aload_n 0, 1) := by decide +kernel
theorem dX12_laysAlone_12 : decode cX12_laysAlone 12 = .ok (.getfield 62, 3) := by decide +kernel
theorem dX12_laysAlone_15 : decode cX12_laysAlone 15 = .ok (.bipush 8, 2) := by decide +kernel
theorem dX12_laysAlone_17 : decode cX12_laysAlone 17 = .ok (.iload_n 2, 1) := by decide +kernel
theorem dX12_laysAlone_18 : decode cX12_laysAlone 18 = .ok (.iastore, 1) := by decide +kernel
theorem dX12_laysAlone_19 : decode cX12_laysAlone 19 = .ok (.aload_n 0, 1) := by decide +kernel
theorem dX12_laysAlone_20 : decode cX12_laysAlone 20 = .ok (.getfield 102, 3) := by decide +kernel
theorem dX12_laysAlone_23 : decode cX12_laysAlone 23 = .ok (.iload_n 2, 1) := by decide +kernel
theorem dX12_laysAlone_24 : decode cX12_laysAlone 24 = .ok (.aload_n 0, 1) := by decide +kernel
theorem dX12_laysAlone_25 : decode cX12_laysAlone 25 = .ok (.iconst 0, 1) := by decide +kernel
theorem dX12_laysAlone_26 : decode cX12_laysAlone 26 = .ok (.bipush 99, 2) := by decide +kernel
theorem dX12_laysAlone_28 : decode cX12_laysAlone 28 = .ok (.bipush 99, 2) := by decide +kernel
theorem dX12_laysAlone_30 : decode cX12_laysAlone 30 = .ok (.invokevirtual 256, 3) := by decide +kernel
theorem dX12_laysAlone_33 : decode cX12_laysAlone 33 = .ok (.iastore, 1) := by decide +kernel
theorem dX12_laysAlone_34 : decode cX12_laysAlone 34 = .ok (.aload_n 0, 1) := by decide +kernel
theorem dX12_laysAlone_35 : decode cX12_laysAlone 35 = .ok (.getfield 105, 3) := by decide +kernel
theorem dX12_laysAlone_38 : decode cX12_laysAlone 38 = .ok (.iload_n 2, 1) := by decide +kernel
theorem dX12_laysAlone_39 : decode cX12_laysAlone 39 = .ok (.aload_n 0, 1) := by decide +kernel
theorem dX12_laysAlone_40 : decode cX12_laysAlone 40 = .ok (.iconst 0, 1) := by decide +kernel
theorem dX12_laysAlone_41 : decode cX12_laysAlone 41 = .ok (.bipush 98, 2) := by decide +kernel
theorem dX12_laysAlone_43 : decode cX12_laysAlone 43 = .ok (.sipush 999, 3) := by decide +kernel
theorem dX12_laysAlone_46 : decode cX12_laysAlone 46 = .ok (.invokevirtual 256, 3) := by decide +kernel
theorem dX12_laysAlone_49 : decode cX12_laysAlone 49 = .ok (.iastore, 1) := by decide +kernel
theorem dX12_laysAlone_50 : decode cX12_laysAlone 50 = .ok (.iinc 2 1, 3) := by decide +kernel
theorem dX12_laysAlone_53 : decode cX12_laysAlone 53 = .ok (.goto (-51), 3) := by decide +kernel
theorem dX12_laysAlone_56 : decode cX12_laysAlone 56 = .ok (.return_, 1) := by decide +kernel
set_option maxRecDepth 100000 in
def f_m_laysAlone (x1 : Int) (V : Nat → Nat → Int) (J : Nat → Nat → Int) (Rr : Nat → Nat → Nat) : (Nat → Nat → Int) → Prop :=
  lop2 (8) (fun rc49 (z48 : Int) (V49 : Nat → Nat → Int) => (if x1 ≤ z48 then rtn V49 else calUM 4835703278458516698824704 V49 (f_m_feels V49 J Rr) fun V58 => rdb (up2 V58 18 8 z48) fun V59 => calVM 2417851639229258349412352 V59 (f_m_byText 0 99 99 V59 J Rr) fun z60 V60 => fct (0 ≤ z60 ∧ z60 ≤ 999) <| rdb (up2 V60 31 z48.toNat z60) fun V61 => calVM 2417851639229258349412352 V61 (f_m_byText 0 98 999 V61 J Rr) fun z62 V62 => fct (0 ≤ z62 ∧ z62 ≤ 999) <| rdb (up2 V62 32 z48.toNat z62) fun V63 => rc49 (z48 + 1) V63)) 0 V
set_option maxHeartbeats 8000000 in
set_option maxRecDepth 100000 in
theorem m_laysAlone (l : Launch) (D : va_G) (cy : Nat → ClassId) (ad : Nat → Nat) (G : Nat → Nat → Int) (V J : Nat → Nat → Int) (Rr : Nat → Nat → Nat) (hI : MI G V) (hJ : VJ J) (hR : MR Rr) (x1 : Int) (bx1 : 0 ≤ x1 ∧ x1 ≤ 6) (hW : WP G) : xMv l D (xTY cy) yX12_laysAlone cX12_laysAlone 3 none 3 74 0 0 [.ref (ad 0), vI x1] (MW cy ad V J Rr) (fun u : Nat → Nat → Int => MW cy ad u J Rr) (fun u : Nat → Nat → Int => MI G u ∧ FBm 118849497326314194165364162560 V u ∧ (f_m_laysAlone x1 V J Rr) u) := by
  refine xMv.mk (lv0 := [(0, .ref (ad 0)), (1, vI x1)]) (by decide) rfl (Nat.le_of_ble_eq_true rfl) (fun p e s m below meth c A C hr hnm hAe => ?_)
  have C : xC2 p s m _ meth c D A s.heap 3 cX12_laysAlone RX12 (xTY cy) := C
  have hB : FBm 118849497326314194165364162560 V V := FBm.rf _ _
  have hF := Imp.of_eq (f_m_laysAlone.eq_def x1 V J Rr)
  refine x_iconst C.1 (n := 0) dX12_laysAlone_0 ?_
  refine x_istore_n C.1 (lv' := [(2, vI 0), (0, .ref (ad 0)), (1, vI x1)]) dX12_laysAlone_1 (by decide) rfl ?_
  obtain ⟨bd49, hbd49, hF⟩ := lop2_ex hF
  refine x_loop (I := fun x : Int × (Nat → Nat → Int) => match x with | (z48, V49) => (0 ≤ z48 ∧ z48 ≤ 6) ∧ MI G V49 ∧ FBm 118849497326314194165364162560 V V49 ∧ (∃ nf : Nat, (7 - z48).toNat < nf ∧ Imp (lop2 nf bd49 z48 V49) (f_m_laysAlone x1 V J Rr))) (μ := fun x : Int × (Nat → Nat → Int) => match x with | (z48, V49) => (7 - z48).toNat) (wsf := fun x : Int × (Nat → Nat → Int) => match x with | (z48, V49) => MW cy ad V49 J Rr) (lvf := fun x : Int × (Nat → Nat → Int) => match x with | (z48, V49) => [(2, vI z48), (0, .ref (ad 0)), (1, vI x1)]) (fun x hI49x ih49 => ?_) (0, V) ⟨⟨by decide, by decide⟩, hI, hB, ⟨_, (by omega), hF⟩⟩ rfl rfl
  obtain ⟨z48, V49⟩ := x
  obtain ⟨bz48, hI49, hB49, nf49, hn49, hF⟩ := hI49x
  try dsimp only
  obtain ⟨nf49, rfl⟩ : ∃ mm, nf49 = mm + 1 := ⟨nf49 - 1, (Nat.succ_pred_eq_of_pos (Nat.lt_of_le_of_lt (Nat.zero_le _) hn49)).symm⟩
  replace hF := hF.to (lop2_s hbd49)
  refine x_iload_n C.1 dX12_laysAlone_2 0 rfl ?_
  refine x_iload_n C.1 dX12_laysAlone_3 2 rfl ?_
  refine x_icmp_ge C.1 (tgt := 56) dX12_laysAlone_4 (by decide) (by omega) (by omega) (fun hc57 => ?_) (fun hc57 => ?_)
  · replace hF := hF.to (if_pos hc57)
    exact x_vret (S := (Nat → Nat → Int)) (post := (fun u : Nat → Nat → Int => MI G u ∧ FBm 118849497326314194165364162560 V u ∧ (f_m_laysAlone x1 V J Rr) u)) (w1 := (fun u : Nat → Nat → Int => MW cy ad u J Rr)) C hr rfl dX12_laysAlone_56 V49 rfl ⟨hI49, hB49, hF _ rfl⟩
  · replace hF := hF.to (if_neg hc57)
    refine x_aload_n C.1 dX12_laysAlone_7 1 rfl ?_
    refine x_callVv C (As := []) (rest := []) 0 (xw_at (N := 33) (i := 0) (by decide) rfl) vc_X12 (m_feels l D cy ad G V49 J Rr (KI.self hI49) hJ hR ) (l1 := []) (l2 := []) (List.append_nil _).symm (w2 := fun u : Nat → Nat → Int => MW cy ad u J Rr) (fun _ => List.append_nil _) rfl wm_yX12_feels wn_X12 wl_X12_250 wi_yX12_feels we_yX12_feels hd_yX12_feels rfl ⟨Nat.le_of_ble_eq_true rfl, Nat.le_of_ble_eq_true rfl⟩ (Nat.le_of_ble_eq_true rfl) ⟨Nat.le_of_ble_eq_true rfl, Nat.le_of_ble_eq_true rfl⟩ dX12_laysAlone_8 (fun V58 h58 => ?_)
    obtain ⟨hI58, hBc58, hFc58⟩ := h58
    replace hF := calUM_i hF hFc58 hBc58
    have hB58 := hB49.tr hBc58 (m := 4835703278458516698824704) rfl
    have hI58c := hI58.1
    refine x_aload_n C.1 dX12_laysAlone_11 1 rfl ?_
    refine x_getA C (N := 33) (i := 0) (by decide) rfl vc_X12 wx_X12 26 (by decide) wf_X12_62 (a := 18) rfl dX12_laysAlone_12 ?_
    refine x_bipush C.1 (n := 8) dX12_laysAlone_15 ?_
    refine x_iload_n C.1 dX12_laysAlone_17 0 rfl ?_
    refine x_iast C (N := 33) (i := 18) (q := 8) (a := z48) (by decide) rfl (by decide) (by decide) dX12_laysAlone_18 ?_
    rw [show (8 : Int).toNat = 8 from rfl]
    refine x_gV ?_
    intro V59 hV59
    have hI59 : MI G V59 := hI58c.up hV59 rfl (by omega) rfl (Or.inl (by decide))
    have hB59 := hB58.up hV59 (by rw [mkey_r (by decide)]; rfl)
    replace hF := hF.to (rdb_e (z := V59) hV59.symm)
    refine x_aload_n C.1 dX12_laysAlone_19 1 rfl ?_
    refine x_getA C (N := 33) (i := 0) (by decide) rfl vc_X12 wx_X12 51 (by decide) wf_X12_102 (a := 31) rfl dX12_laysAlone_20 ?_
    refine x_iload_n C.1 dX12_laysAlone_23 0 rfl ?_
    refine x_aload_n C.1 dX12_laysAlone_24 1 rfl ?_
    refine x_iconst C.1 (n := 0) dX12_laysAlone_25 ?_
    refine x_bipush C.1 (n := 99) dX12_laysAlone_26 ?_
    refine x_bipush C.1 (n := 99) dX12_laysAlone_28 ?_
    refine x_callVi C (As := [vI 0, vI 99, vI 99]) (rest := [vI z48, .ref (ad 31)]) 0 (xw_at (N := 33) (i := 0) (by decide) rfl) vc_X12 (m_byText l D cy ad G V59 J Rr (KI.self hI59) hJ hR 0 ⟨by decide, by decide⟩ 99 ⟨by decide, by decide⟩ 99 ⟨by decide, by decide⟩ hW) (l1 := []) (l2 := []) (List.append_nil _).symm (w2 := fun u : Nat → Nat → Int => MW cy ad u J Rr) (fun _ => List.append_nil _) rfl wm_yX12_byText wn_X12 wl_X12_256 wi_yX12_byText we_yX12_byText hd_yX12_byText rfl ⟨Nat.le_of_ble_eq_true rfl, Nat.le_of_ble_eq_true rfl⟩ (Nat.le_of_ble_eq_true rfl) ⟨Nat.le_of_ble_eq_true rfl, Nat.le_of_ble_eq_true rfl⟩ dX12_laysAlone_30 (fun z60 V60 bz60 h60 => ?_)
    obtain ⟨hI60, bq60, hBc60, hFc60⟩ := h60
    replace hF := calVM_i hF hFc60 hBc60
    replace hF := hF.fc bq60
    have hB60 := hB59.tr hBc60 (m := 2417851639229258349412352) rfl
    have hI60c := hI60.1
    refine x_iast C (N := 33) (i := 31) (q := z48) (a := z60) (by decide) rfl (by omega) (by decide) dX12_laysAlone_33 ?_
    refine x_gV ?_
    intro V61 hV61
    have hI61 : MI G V61 := hI60c.up hV61 rfl (by omega) rfl (Or.inl (by decide))
    have hB61 := hB60.up hV61 (by rw [mkey_r (by decide)]; rfl)
    replace hF := hF.to (rdb_e (z := V61) hV61.symm)
    refine x_aload_n C.1 dX12_laysAlone_34 1 rfl ?_
    refine x_getA C (N := 33) (i := 0) (by decide) rfl vc_X12 wx_X12 52 (by decide) wf_X12_105 (a := 32) rfl dX12_laysAlone_35 ?_
    refine x_iload_n C.1 dX12_laysAlone_38 0 rfl ?_
    refine x_aload_n C.1 dX12_laysAlone_39 1 rfl ?_
    refine x_iconst C.1 (n := 0) dX12_laysAlone_40 ?_
    refine x_bipush C.1 (n := 98) dX12_laysAlone_41 ?_
    refine x_sipush C.1 (n := 999) dX12_laysAlone_43 ?_
    refine x_callVi C (As := [vI 0, vI 98, vI 999]) (rest := [vI z48, .ref (ad 32)]) 0 (xw_at (N := 33) (i := 0) (by decide) rfl) vc_X12 (m_byText l D cy ad G V61 J Rr (KI.self hI61) hJ hR 0 ⟨by decide, by decide⟩ 98 ⟨by decide, by decide⟩ 999 ⟨by decide, by decide⟩ hW) (l1 := []) (l2 := []) (List.append_nil _).symm (w2 := fun u : Nat → Nat → Int => MW cy ad u J Rr) (fun _ => List.append_nil _) rfl wm_yX12_byText wn_X12 wl_X12_256 wi_yX12_byText we_yX12_byText hd_yX12_byText rfl ⟨Nat.le_of_ble_eq_true rfl, Nat.le_of_ble_eq_true rfl⟩ (Nat.le_of_ble_eq_true rfl) ⟨Nat.le_of_ble_eq_true rfl, Nat.le_of_ble_eq_true rfl⟩ dX12_laysAlone_46 (fun z62 V62 bz62 h62 => ?_)
    obtain ⟨hI62, bq62, hBc62, hFc62⟩ := h62
    replace hF := calVM_i hF hFc62 hBc62
    replace hF := hF.fc bq62
    have hB62 := hB61.tr hBc62 (m := 2417851639229258349412352) rfl
    have hI62c := hI62.1
    refine x_iast C (N := 33) (i := 32) (q := z48) (a := z62) (by decide) rfl (by omega) (by decide) dX12_laysAlone_49 ?_
    refine x_gV ?_
    intro V63 hV63
    have hI63 : MI G V63 := hI62c.up hV63 rfl (by omega) rfl (Or.inl (by decide))
    have hB63 := hB62.up hV63 (by rw [mkey_r (by decide)]; rfl)
    replace hF := hF.to (rdb_e (z := V63) hV63.symm)
    refine x_iinc C.1 (v := z48 + 1) (lv' := [(2, vI (z48 + 1)), (0, .ref (ad 0)), (1, vI x1)]) (by omega) dX12_laysAlone_50 0 rfl (by decide) rfl ?_
    refine x_goto C.1 (tgt := 2) dX12_laysAlone_53 (by decide) ?_
    have hmu49 : (7 - (z48 + 1)).toNat < (7 - z48).toNat := (by omega)
    exact ih49 (z48 + 1, V63) ⟨⟨by omega, by omega⟩, hI63, hB63, ⟨nf49, Nat.lt_of_lt_of_le hmu49 (Nat.le_of_lt_succ hn49), hF⟩⟩ hmu49
theorem dX12_waterBy_0 : decode cX12_waterBy 0 = .ok (.lconst 1, 1) := by decide +kernel
theorem dX12_waterBy_1 : decode cX12_waterBy 1 = .ok (.lstore_n 3, 1) := by decide +kernel
theorem dX12_waterBy_2 : decode cX12_waterBy 2 = .ok (.iconst 1, 1) := by decide +kernel
theorem dX12_waterBy_3 : decode cX12_waterBy 3 = .ok (.istore 5, 2) := by decide +kernel
theorem dX12_waterBy_5 : decode cX12_waterBy 5 = .ok (.iload 5, 2) := by decide +kernel
theorem dX12_waterBy_7 : decode cX12_waterBy 7 = .ok (.iload_n 1, 1) := by decide +kernel
theorem dX12_waterBy_8 : decode cX12_waterBy 8 = .ok (.if_icmp .ge 17, 3) := by decide +kernel
theorem dX12_waterBy_11 : decode cX12_waterBy 11 = .ok (.lload_n 3, 1) := by decide +kernel
theorem dX12_waterBy_12 : decode cX12_waterBy 12 = .ok (.bipush 10, 2) := by decide +kernel
theorem dX12_waterBy_14 : decode cX12_waterBy 14 = .ok (.iload_n 2, 1) := by decide +kernel
theorem dX12_waterBy_15 : decode cX12_waterBy 15 = .ok (.isub, 1) := by decide +kernel
theorem dX12_waterBy_16 : decode cX12_waterBy 16 = .ok (.i2l, 1) := by decide +kernel
theorem dX12_waterBy_17 : decode cX12_waterBy 17 = .ok (.lmul, 1) := by decide +kernel
theorem dX12_waterBy_18 : decode cX12_waterBy 18 = .ok (.lstore_n 3, 1) := by decide +kernel
theorem dX12_waterBy_19 : decode cX12_waterBy 19 = .ok (.iinc 5 1, 3) := by decide +kernel
theorem dX12_waterBy_22 : decode cX12_waterBy 22 = .ok (.goto (-17), 3) := by decide +kernel
theorem dX12_waterBy_25 : decode cX12_waterBy 25 = .ok (.iconst 0, 1) := by decide +kernel
theorem dX12_waterBy_26 : decode cX12_waterBy 26 = .ok (.istore 5, 2) := by decide +kernel
theorem dX12_waterBy_28 : decode cX12_waterBy 28 = .ok (.iload 5, 2) := by decide +kernel
theorem dX12_waterBy_30 : decode cX12_waterBy 30 = .ok (.iload_n 1, 1) := by decide +kernel
theorem dX12_waterBy_31 : decode cX12_waterBy 31 = .ok (.if_icmp .ge 40, 3) := by decide +kernel
theorem dX12_waterBy_34 : decode cX12_waterBy 34 = .ok (.aload_n 0, 1) := by decide +kernel
theorem dX12_waterBy_35 : decode cX12_waterBy 35 = .ok (.getfield 102, 3) := by decide +kernel
theorem dX12_waterBy_38 : decode cX12_waterBy 38 = .ok (.iload 5, 2) := by decide +kernel
theorem dX12_waterBy_40 : decode cX12_waterBy 40 = .ok (.iaload, 1) := by decide +kernel
theorem dX12_waterBy_41 : decode cX12_waterBy 41 = .ok (.i2l, 1) := by decide +kernel
theorem dX12_waterBy_42 : decode cX12_waterBy 42 = .ok (.iload_n 1, 1) := by decide +kernel
theorem dX12_waterBy_43 : decode cX12_waterBy 43 = .ok (.iconst 1, 1) := by decide +kernel
theorem dX12_waterBy_44 : decode cX12_waterBy 44 = .ok (.isub, 1) := by decide +kernel
theorem dX12_waterBy_45 : decode cX12_waterBy 45 = .ok (.invokestatic 328, 3) := by decide +kernel
theorem dX12_waterBy_48 : decode cX12_waterBy 48 = .ok (.lmul, 1) := by decide +kernel
theorem dX12_waterBy_49 : decode cX12_waterBy 49 = .ok (.aload_n 0, 1) := by decide +kernel
theorem dX12_waterBy_50 : decode cX12_waterBy 50 = .ok (.getfield 105, 3) := by decide +kernel
theorem dX12_waterBy_53 : decode cX12_waterBy 53 = .ok (.iload 5, 2) := by decide +kernel
theorem dX12_waterBy_55 : decode cX12_waterBy 55 = .ok (.iaload, 1) := by decide +kernel
theorem dX12_waterBy_56 : decode cX12_waterBy 56 = .ok (.i2l, 1) := by decide +kernel
theorem dX12_waterBy_57 : decode cX12_waterBy 57 = .ok (.lload_n 3, 1) := by decide +kernel
theorem dX12_waterBy_58 : decode cX12_waterBy 58 = .ok (.lmul, 1) := by decide +kernel
theorem dX12_waterBy_59 : decode cX12_waterBy 59 = .ok (.lcmp, 1) := by decide +kernel
theorem dX12_waterBy_60 : decode cX12_waterBy 60 = .ok (.ifCond .le 5, 3) := by decide +kernel
theorem dX12_waterBy_63 : decode cX12_waterBy 63 = .ok (.iconst 0, 1) := by decide +kernel
theorem dX12_waterBy_64 : decode cX12_waterBy 64 = .ok (.ireturn, 1) := by decide +kernel
theorem dX12_waterBy_65 : decode cX12_waterBy 65 = .ok (.iinc 5 1, 3) := by decide +kernel
theorem dX12_waterBy_68 : decode cX12_waterBy 68 = .ok (.goto (-40), 3) := by decide +kernel
theorem dX12_waterBy_71 : decode cX12_waterBy 71 = .ok (.iconst 1, 1) := by decide +kernel
theorem dX12_waterBy_72 : decode cX12_waterBy 72 = .ok (.ireturn, 1) := by decide +kernel
set_option maxRecDepth 100000 in
def f_m_waterBy (x1 : Int) (x2 : Int) (V : Nat → Nat → Int) (J : Nat → Nat → Int) (Rr : Nat → Nat → Nat) : (Int) → Prop :=
  lop2 (7) (fun rc330 (z328 : Int) (z329 : Int) => (if x1 ≤ z328 then lop1 (8) (fun rc460 (z459 : Int) => (if x1 ≤ z459 then rtn 1 else rdb (V 31 z459.toNat) fun z470 => calR (f_m_tens (x1 - 1)) fun z471 => fct (1 ≤ z471 ∧ z471 ≤ 1000000000000000000) <| rdb (wrJ (z470 * z471)) fun z472 => rdb (V 32 z459.toNat) fun z473 => rdb (wrJ (z473 * z329)) fun z474 => (if (lcI z472 z474) ≤ 0 then rc460 (z459 + 1) else rtn 0))) 0 else rdb (wr (-x2 + 10)) fun z477 => rdb (wrJ (z329 * z477)) fun z478 => rc330 (z328 + 1) z478)) 1 1
set_option maxHeartbeats 8000000 in
set_option maxRecDepth 100000 in
theorem m_waterBy (l : Launch) (D : va_G) (cy : Nat → ClassId) (ad : Nat → Nat) (G : Nat → Nat → Int) (V J : Nat → Nat → Int) (Rr : Nat → Nat → Nat) (hI : MI G V) (hJ : VJ J) (hR : MR Rr) (x1 : Int) (bx1 : 2 ≤ x1 ∧ x1 ≤ 6) (x2 : Int) (bx2 : -2147483648 ≤ x2 ∧ x2 ≤ 2147483647) : xMi l D (xTY cy) yX12_waterBy cX12_waterBy 6 (some .boolean) 1 23 0 0 [.ref (ad 0), vI x1, vI x2] (MW cy ad V J Rr) (fun _ : Unit => MW cy ad V J Rr) (fun a (u : Unit) => (0 ≤ a ∧ a ≤ 1) ∧ (f_m_waterBy x1 x2 V J Rr) a) := by
  refine xMi.mk (lv0 := [(0, .ref (ad 0)), (1, vI x1), (2, vI x2)]) (by decide) rfl (Nat.le_of_ble_eq_true rfl) (fun p e s m below meth c A C hr hnm hAe => ?_)
  have C : xC2 p s m _ meth c D A s.heap 6 cX12_waterBy RX12 (xTY cy) := C
  have hF := Imp.of_eq (f_m_waterBy.eq_def x1 x2 V J Rr)
  refine x_lconst1 C.1 dX12_waterBy_0 ?_
  refine x_lstore_n C.1 (lv' := [(3, vJ 1), (0, .ref (ad 0)), (1, vI x1), (2, vI x2)]) dX12_waterBy_1 (by decide) rfl ?_
  refine x_iconst C.1 (n := 1) dX12_waterBy_2 ?_
  refine x_istore C.1 (lv' := [(5, vI 1), (3, vJ 1), (0, .ref (ad 0)), (1, vI x1), (2, vI x2)]) dX12_waterBy_3 (by decide) rfl ?_
  obtain ⟨bd330, hbd330, hF⟩ := lop2_ex hF
  refine x_loop (I := fun x : Int × Int => match x with | (z328, z329) => (1 ≤ z328 ∧ z328 ≤ 6) ∧ (-9223372036854775808 ≤ z329 ∧ z329 ≤ 9223372036854775807) ∧ (∃ nf : Nat, (7 - z328).toNat < nf ∧ Imp (lop2 nf bd330 z328 z329) (f_m_waterBy x1 x2 V J Rr))) (μ := fun x : Int × Int => match x with | (z328, z329) => (7 - z328).toNat) (wsf := fun x : Int × Int => match x with | (z328, z329) => MW cy ad V J Rr) (lvf := fun x : Int × Int => match x with | (z328, z329) => [(5, vI z328), (3, vJ z329), (0, .ref (ad 0)), (1, vI x1), (2, vI x2)]) (fun x hI330x ih330 => ?_) (1, 1) ⟨⟨by decide, by decide⟩, ⟨by decide, by decide⟩, ⟨_, (by omega), hF⟩⟩ rfl rfl
  obtain ⟨z328, z329⟩ := x
  obtain ⟨bz328, bz329, nf330, hn330, hF⟩ := hI330x
  try dsimp only
  obtain ⟨nf330, rfl⟩ : ∃ mm, nf330 = mm + 1 := ⟨nf330 - 1, (Nat.succ_pred_eq_of_pos (Nat.lt_of_le_of_lt (Nat.zero_le _) hn330)).symm⟩
  replace hF := hF.to (lop2_s hbd330)
  refine x_iload C.1 dX12_waterBy_5 0 rfl ?_
  refine x_iload_n C.1 dX12_waterBy_7 3 rfl ?_
  refine x_icmp_ge C.1 (tgt := 25) dX12_waterBy_8 (by decide) (by omega) (by omega) (fun hc407 => ?_) (fun hc407 => ?_)
  · replace hF := hF.to (if_pos hc407)
    refine x_iconst C.1 (n := 0) dX12_waterBy_25 ?_
    refine x_istore C.1 (lv' := [(5, vI 0), (3, vJ z329), (0, .ref (ad 0)), (1, vI x1), (2, vI x2)]) dX12_waterBy_26 (by decide) rfl ?_
    obtain ⟨bd460, hbd460, hF⟩ := lop1_ex hF
    refine x_loop (I := fun z459 : Int => (0 ≤ z459 ∧ z459 ≤ 6) ∧ (∃ nf : Nat, (7 - z459).toNat < nf ∧ Imp (lop1 nf bd460 z459) (f_m_waterBy x1 x2 V J Rr))) (μ := fun z459 : Int => (7 - z459).toNat) (wsf := fun z459 : Int => MW cy ad V J Rr) (lvf := fun z459 : Int => [(5, vI z459), (3, vJ z329), (0, .ref (ad 0)), (1, vI x1), (2, vI x2)]) (fun z459 hI460x ih460 => ?_) 0 ⟨⟨by decide, by decide⟩, ⟨_, (by omega), hF⟩⟩ rfl rfl
    obtain ⟨bz459, nf460, hn460, hF⟩ := hI460x
    try dsimp only
    obtain ⟨nf460, rfl⟩ : ∃ mm, nf460 = mm + 1 := ⟨nf460 - 1, (Nat.succ_pred_eq_of_pos (Nat.lt_of_le_of_lt (Nat.zero_le _) hn460)).symm⟩
    replace hF := hF.to (lop1_s hbd460)
    refine x_iload C.1 dX12_waterBy_28 0 rfl ?_
    refine x_iload_n C.1 dX12_waterBy_30 3 rfl ?_
    refine x_icmp_ge C.1 (tgt := 71) dX12_waterBy_31 (by decide) (by omega) (by omega) (fun hc469 => ?_) (fun hc469 => ?_)
    · replace hF := hF.to (if_pos hc469)
      refine x_iconst C.1 (n := 1) dX12_waterBy_71 ?_
      exact x_zret (S := Unit) (post := (fun a (u : Unit) => (0 ≤ a ∧ a ≤ 1) ∧ (f_m_waterBy x1 x2 V J Rr) a)) (w1 := (fun _ : Unit => MW cy ad V J Rr)) (a := 1) C hr rfl dX12_waterBy_72 (by decide) () rfl ⟨⟨by decide, by decide⟩, hF _ rfl⟩
    · replace hF := hF.to (if_neg hc469)
      refine x_aload_n C.1 dX12_waterBy_34 2 rfl ?_
      refine x_getA C (N := 33) (i := 0) (by decide) rfl vc_X12 wx_X12 51 (by decide) wf_X12_102 (a := 31) rfl dX12_waterBy_35 ?_
      refine x_iload C.1 dX12_waterBy_38 0 rfl ?_
      obtain ⟨z470, ez470, bz470⟩ := hI.rd 31 z459.toNat (x := -2147483648) (y := 2147483647) rfl
      replace hF := hF.to (rdb_e (z := z470) ez470)
      refine x_iald C (N := 33) (i := 31) (q := z459) (by decide) rfl (by omega) (by decide) dX12_waterBy_40 (a := z470) ez470 ?_
      refine x_i2l C.1 dX12_waterBy_41 (by omega) ?_
      refine x_iload_n C.1 dX12_waterBy_42 3 rfl ?_
      refine x_iconst C.1 (n := 1) dX12_waterBy_43 ?_
      refine x_isub C.1 (v := x1 - 1) (by omega) dX12_waterBy_44 ?_
      refine x_callSl C (As := [vI (x1 - 1)]) (rest := [vJ z470]) (m_tens l D cy (x1 - 1) ⟨by omega, by omega⟩) (l1 := []) (l2 := _) rfl (w2 := fun _ => _) (fun _ => rfl) rfl wm_yX12_tens wn_X12 wl_X12_328 wi_yX12_tens hd_yX12_tens rfl ⟨Nat.le_of_ble_eq_true rfl, Nat.le_of_ble_eq_true rfl⟩ (Nat.le_of_ble_eq_true rfl) ⟨Nat.le_of_ble_eq_true rfl, Nat.le_of_ble_eq_true rfl⟩ dX12_waterBy_45 (fun z471 u471 bz471 h471 => ?_)
      obtain ⟨bq471, hFc471⟩ := h471
      replace hF := calR_i hF hFc471
      replace hF := hF.fc bq471
      refine x_lmul C.1 rfl dX12_waterBy_48 ?_
      refine x_wrapJg ?_
      intro z472 bz472 ew472
      replace hF := hF.to (rdb_e (z := z472) ew472.symm)
      refine x_aload_n C.1 dX12_waterBy_49 2 rfl ?_
      refine x_getA C (N := 33) (i := 0) (by decide) rfl vc_X12 wx_X12 52 (by decide) wf_X12_105 (a := 32) rfl dX12_waterBy_50 ?_
      refine x_iload C.1 dX12_waterBy_53 0 rfl ?_
      obtain ⟨z473, ez473, bz473⟩ := hI.rd 32 z459.toNat (x := -2147483648) (y := 2147483647) rfl
      replace hF := hF.to (rdb_e (z := z473) ez473)
      refine x_iald C (N := 33) (i := 32) (q := z459) (by decide) rfl (by omega) (by decide) dX12_waterBy_55 (a := z473) ez473 ?_
      refine x_i2l C.1 dX12_waterBy_56 (by omega) ?_
      refine x_lload_n C.1 dX12_waterBy_57 1 rfl ?_
      refine x_lmul C.1 rfl dX12_waterBy_58 ?_
      refine x_wrapJg ?_
      intro z474 bz474 ew474
      replace hF := hF.to (rdb_e (z := z474) ew474.symm)
      refine x_lcmp C.1 rfl dX12_waterBy_59 (by omega) (by omega) ?_
      have bz475 := lcI_r2 z472 z474
      refine x_if_le C.1 (tgt := 65) dX12_waterBy_60 (by decide) (by omega) (fun hc476 => ?_) (fun hc476 => ?_)
      · replace hF := hF.to (if_pos hc476)
        rw [lcI_le] at hc476
        refine x_iinc C.1 (v := z459 + 1) (lv' := [(5, vI (z459 + 1)), (3, vJ z329), (0, .ref (ad 0)), (1, vI x1), (2, vI x2)]) (by omega) dX12_waterBy_65 0 rfl (by decide) rfl ?_
        refine x_goto C.1 (tgt := 28) dX12_waterBy_68 (by decide) ?_
        have hmu460 : (7 - (z459 + 1)).toNat < (7 - z459).toNat := (by omega)
        exact ih460 (z459 + 1) ⟨⟨by omega, by omega⟩, ⟨nf460, Nat.lt_of_lt_of_le hmu460 (Nat.le_of_lt_succ hn460), hF⟩⟩ hmu460
      · replace hF := hF.to (if_neg hc476)
        rw [lcI_le] at hc476
        refine x_iconst C.1 (n := 0) dX12_waterBy_63 ?_
        exact x_zret (S := Unit) (post := (fun a (u : Unit) => (0 ≤ a ∧ a ≤ 1) ∧ (f_m_waterBy x1 x2 V J Rr) a)) (w1 := (fun _ : Unit => MW cy ad V J Rr)) (a := 0) C hr rfl dX12_waterBy_64 (by decide) () rfl ⟨⟨by decide, by decide⟩, hF _ rfl⟩
  · replace hF := hF.to (if_neg hc407)
    refine x_lload_n C.1 dX12_waterBy_11 1 rfl ?_
    refine x_bipush C.1 (n := 10) dX12_waterBy_12 ?_
    refine x_iload_n C.1 dX12_waterBy_14 4 rfl ?_
    refine x_isub C.1 (v := -x2 + 10) (by omega) dX12_waterBy_15 ?_
    refine x_wrapg ?_
    intro z477 bz477 ew477
    replace hF := hF.to (rdb_e (z := z477) ew477.symm)
    refine x_i2l C.1 dX12_waterBy_16 (by omega) ?_
    refine x_lmul C.1 rfl dX12_waterBy_17 ?_
    refine x_wrapJg ?_
    intro z478 bz478 ew478
    replace hF := hF.to (rdb_e (z := z478) ew478.symm)
    refine x_lstore_n C.1 (lv' := [(3, vJ z478), (5, vI z328), (0, .ref (ad 0)), (1, vI x1), (2, vI x2)]) dX12_waterBy_18 (by decide) rfl ?_
    refine x_iinc C.1 (v := z328 + 1) (lv' := [(5, vI (z328 + 1)), (3, vJ z478), (0, .ref (ad 0)), (1, vI x1), (2, vI x2)]) (by omega) dX12_waterBy_19 1 rfl (by decide) rfl ?_
    refine x_goto C.1 (tgt := 5) dX12_waterBy_22 (by decide) ?_
    have hmu330 : (7 - (z328 + 1)).toNat < (7 - z328).toNat := (by omega)
    exact ih330 (z328 + 1, z478) ⟨⟨by omega, by omega⟩, ⟨by omega, by omega⟩, ⟨nf330, Nat.lt_of_lt_of_le hmu330 (Nat.le_of_lt_succ hn330), hF⟩⟩ hmu330
theorem hd_yX12_gainOf : yX12_gainOf.cls ≠ "java/lang/invoke/MethodHandle" ∧ yX12_gainOf.cls ≠ "java/lang/invoke/VarHandle" ∧ (parseMethodDescriptor yX12_gainOf.desc).map (fun d => d.parameters.length) = some 2 := by decide +kernel
theorem hd_yX12_laysAlone : yX12_laysAlone.cls ≠ "java/lang/invoke/MethodHandle" ∧ yX12_laysAlone.cls ≠ "java/lang/invoke/VarHandle" ∧ (parseMethodDescriptor yX12_laysAlone.desc).map (fun d => d.parameters.length) = some 1 := by decide +kernel
theorem hd_yX12_waterBy : yX12_waterBy.cls ≠ "java/lang/invoke/MethodHandle" ∧ yX12_waterBy.cls ≠ "java/lang/invoke/VarHandle" ∧ (parseMethodDescriptor yX12_waterBy.desc).map (fun d => d.parameters.length) = some 2 := by decide +kernel
theorem dX12_alone_0 : decode cX12_alone 0 = .ok (.iload_n 1, 1) := by decide +kernel
theorem dX12_alone_1 : decode cX12_alone 1 = .ok (.iconst 2, 1) := by decide +kernel
theorem dX12_alone_2 : decode cX12_alone 2 = .ok (.bipush 6, 2) := by decide +kernel
theorem dX12_alone_4 : decode cX12_alone 4 = .ok (.invokestatic 126, 3) := by decide +kernel
theorem dX12_alone_7 : decode cX12_alone 7 = .ok (.ifCond .eq 12, 3) := by decide +kernel
theorem dX12_alone_10 : decode cX12_alone 10 = .ok (.iload_n 2, 1) := by decide +kernel
theorem dX12_alone_11 : decode cX12_alone 11 = .ok (.iconst 0, 1) := by decide +kernel
theorem dX12_alone_12 : decode cX12_alone 12 = .ok (.iconst 2, 1) := by decide +kernel
theorem dX12_alone_13 : decode cX12_alone 13 = .ok (.invokestatic 126, 3) := by decide +kernel
theorem dX12_alone_16 : decode cX12_alone 16 = .ok (.ifCond .ne 5, 3) := by decide +kernel
theorem dX12_alone_19 : decode cX12_alone 19 = .ok (.iconst (-1), 1) := by decide +kernel
theorem dX12_alone_20 : decode cX12_alone 20 = .ok (.ireturn, 1) := by decide +kernel
theorem dX12_alone_21 : decode cX12_alone 21 = .ok (.aload_n 0, 1) := by decide +kernel
theorem dX12_alone_22 : decode cX12_alone 22 = .ok (.iload_n 1, 1) := by decide +kernel
theorem dX12_alone_23 : decode cX12_alone 23 = .ok (.invokevirtual 407, 3) := by decide +kernel
theorem dX12_alone_26 : decode cX12_alone 26 = .ok (.iload_n 2, 1) := by decide +kernel
theorem dX12_alone_27 : decode cX12_alone 27 = .ok (.iconst 2, 1) := by decide +kernel
theorem dX12_alone_28 : decode cX12_alone 28 = .ok (.if_icmp .ne 37, 3) := by decide +kernel
theorem dX12_alone_31 : decode cX12_alone 31 = .ok (.bipush 10, 2) := by decide +kernel
theorem dX12_alone_33 : decode cX12_alone 33 = .ok (.istore_n 3, 1) := by decide +kernel
theorem dX12_alone_34 : decode cX12_alone 34 = .ok (.iload_n 3, 1) := by decide +kernel
theorem dX12_alone_35 : decode cX12_alone 35 = .ok (.ifCond .lt 19, 3) := by decide +kernel
theorem dX12_alone_38 : decode cX12_alone 38 = .ok (.aload_n 0, 1) := by decide +kernel
theorem dX12_alone_39 : decode cX12_alone 39 = .ok (.iload_n 1, 1) := by decide +kernel
theorem dX12_alone_40 : decode cX12_alone 40 = .ok (.iload_n 3, 1) := by decide +kernel
theorem dX12_alone_41 : decode cX12_alone 41 = .ok (.invokevirtual 410, 3) := by decide +kernel
theorem dX12_alone_44 : decode cX12_alone 44 = .ok (.ifCond .ne 10, 3) := by decide +kernel
theorem dX12_alone_47 : decode cX12_alone 47 = .ok (.iload_n 3, 1) := by decide +kernel
theorem dX12_alone_48 : decode cX12_alone 48 = .ok (.iconst 1, 1) := by decide +kernel
theorem dX12_alone_49 : decode cX12_alone 49 = .ok (.isub, 1) := by decide +kernel
theorem dX12_alone_50 : decode cX12_alone 50 = .ok (.istore_n 3, 1) := by decide +kernel
theorem dX12_alone_51 : decode cX12_alone 51 = .ok (.goto (-17), 3) := by decide +kernel
theorem dX12_alone_54 : decode cX12_alone 54 = .ok (.iload_n 3, 1) := by decide +kernel
theorem dX12_alone_55 : decode cX12_alone 55 = .ok (.ifCond .ge 8, 3) := by decide +kernel
theorem dX12_alone_58 : decode cX12_alone 58 = .ok (.bipush (-2), 2) := by decide +kernel
theorem dX12_alone_60 : decode cX12_alone 60 = .ok (.goto 4, 3) := by decide +kernel
theorem dX12_alone_63 : decode cX12_alone 63 = .ok (.iload_n 3, 1) := by decide +kernel
theorem dX12_alone_64 : decode cX12_alone 64 = .ok (.ireturn, 1) := by decide +kernel
theorem dX12_alone_65 : decode cX12_alone 65 = .ok (.iconst 0, 1) := by decide +kernel
theorem dX12_alone_66 : decode cX12_alone 66 = .ok (.istore_n 3, 1) := by decide +kernel
theorem dX12_alone_67 : decode cX12_alone 67 = .ok (.bipush (-2), 2) := by decide +kernel
theorem dX12_alone_69 : decode cX12_alone 69 = .ok (.istore 4, 2) := by decide +kernel
theorem dX12_alone_71 : decode cX12_alone 71 = .ok (.iconst 0, 1) := by decide +kernel
theorem dX12_alone_72 : decode cX12_alone 72 = .ok (.istore 5, 2) := by decide +kernel
theorem dX12_alone_74 : decode cX12_alone 74 = .ok (.iload 5, 2) := by decide +kernel
theorem dX12_alone_76 : decode cX12_alone 76 = .ok (.iconst 1, 1) := by decide +kernel
theorem dX12_alone_77 : decode cX12_alone 77 = .ok (.iload_n 1, 1) := by decide +kernel
theorem dX12_alone_78 : decode cX12_alone 78 = .ok (.ishl, 1) := by decide +kernel
theorem dX12_alone_79 : decode cX12_alone 79 = .ok (.if_icmp .ge 88, 3) := by decide +kernel
theorem dX12_alone_82 : decode cX12_alone 82 = .ok (.iconst 1, 1) := by decide +kernel
theorem dX12_alone_83 : decode cX12_alone 83 = .ok (.istore 6, 2) := by decide +kernel
theorem dX12_alone_85 : decode cX12_alone 85 = .ok (.iconst 0, 1) := by decide +kernel
theorem dX12_alone_86 : decode cX12_alone 86 = .ok (.istore 7, 2) := by decide +kernel
theorem dX12_alone_88 : decode cX12_alone 88 = .ok (.iload 7, 2) := by decide +kernel
theorem dX12_alone_90 : decode cX12_alone 90 = .ok (.iload_n 1, 1) := by decide +kernel
theorem dX12_alone_91 : decode cX12_alone 91 = .ok (.if_icmp .ge 45, 3) := by decide +kernel
theorem dX12_alone_94 : decode cX12_alone 94 = .ok (.iload 6, 2) := by decide +kernel
theorem dX12_alone_96 : decode cX12_alone 96 = .ok (.ifCond .eq 40, 3) := by decide +kernel
theorem dX12_alone_99 : decode cX12_alone 99 = .ok (.aload_n 0, 1) := by decide +kernel
theorem dX12_alone_100 : decode cX12_alone 100 = .ok (.iload 5, 2) := by decide +kernel
theorem dX12_alone_102 : decode cX12_alone 102 = .ok (.iconst 1, 1) := by decide +kernel
theorem dX12_alone_103 : decode cX12_alone 103 = .ok (.iload 7, 2) := by decide +kernel
theorem dX12_alone_105 : decode cX12_alone 105 = .ok (.ishl, 1) := by decide +kernel
theorem dX12_alone_106 : decode cX12_alone 106 = .ok (.ixor, 1) := by decide +kernel
theorem dX12_alone_107 : decode cX12_alone 107 = .ok (.iload 7, 2) := by decide +kernel
theorem dX12_alone_109 : decode cX12_alone 109 = .ok (.invokevirtual 413, 3) := by decide +kernel
theorem dX12_alone_112 : decode cX12_alone 112 = .ok (.aload_n 0, 1) := by decide +kernel
theorem dX12_alone_113 : decode cX12_alone 113 = .ok (.iload 5, 2) := by decide +kernel
theorem dX12_alone_115 : decode cX12_alone 115 = .ok (.iload 7, 2) := by decide +kernel
theorem dX12_alone_117 : decode cX12_alone 117 = .ok (.invokevirtual 413, 3) := by decide +kernel
theorem dX12_alone_120 : decode cX12_alone 120 = .ok (.if_icmp .gt 7, 3) := by decide +kernel
theorem dX12_alone_123 : decode cX12_alone 123 = .ok (.iconst 1, 1) := by decide +kernel
theorem dX12_alone_124 : decode cX12_alone 124 = .ok (.goto 4, 3) := by decide +kernel
theorem dX12_alone_127 : decode cX12_alone 127 = .ok (.iconst 0, 1) := by decide +kernel
theorem dX12_alone_128 : decode cX12_alone 128 = .ok (.istore 6, 2) := by decide +kernel
theorem dX12_alone_130 : decode cX12_alone 130 = .ok (.iinc 7 1, 3) := by decide +kernel
theorem dX12_alone_133 : decode cX12_alone 133 = .ok (.goto (-45), 3) := by decide +kernel
theorem dX12_alone_136 : decode cX12_alone 136 = .ok (.iload 6, 2) := by decide +kernel
theorem dX12_alone_138 : decode cX12_alone 138 = .ok (.ifCond .ne 6, 3) := by decide +kernel
theorem dX12_alone_141 : decode cX12_alone 141 = .ok (.goto 20, 3) := by decide +kernel
theorem dX12_alone_144 : decode cX12_alone 144 = .ok (.iload_n 3, 1) := by decide +kernel
theorem dX12_alone_145 : decode cX12_alone 145 = .ok (.ifCond .ne 8, 3) := by decide +kernel
theorem dX12_alone_148 : decode cX12_alone 148 = .ok (.iload 5, 2) := by decide +kernel
theorem dX12_alone_150 : decode cX12_alone 150 = .ok (.goto 5, 3) := by decide +kernel
theorem dX12_alone_153 : decode cX12_alone 153 = .ok (.iload 4, 2) := by decide +kernel
theorem dX12_alone_155 : decode cX12_alone 155 = .ok (.istore 4, 2) := by decide +kernel
theorem dX12_alone_157 : decode cX12_alone 157 = .ok (.iload_n 3, 1) := by decide +kernel
theorem dX12_alone_158 : decode cX12_alone 158 = .ok (.iconst 1, 1) := by decide +kernel
theorem dX12_alone_159 : decode cX12_alone 159 = .ok (.iadd, 1) := by decide +kernel
theorem dX12_alone_160 : decode cX12_alone 160 = .ok (.istore_n 3, 1) := by decide +kernel
theorem dX12_alone_161 : decode cX12_alone 161 = .ok (.iinc 5 1, 3) := by decide +kernel
theorem dX12_alone_164 : decode cX12_alone 164 = .ok (.goto (-90), 3) := by decide +kernel
theorem dX12_alone_167 : decode cX12_alone 167 = .ok (.iload_n 2, 1) := by decide +kernel
theorem dX12_alone_168 : decode cX12_alone 168 = .ok (.ifCond .ne 7, 3) := by decide +kernel
theorem dX12_alone_171 : decode cX12_alone 171 = .ok (.iload_n 3, 1) := by decide +kernel
theorem dX12_alone_172 : decode cX12_alone 172 = .ok (.goto 5, 3) := by decide +kernel
theorem dX12_alone_175 : decode cX12_alone 175 = .ok (.iload 4, 2) := by decide +kernel
theorem dX12_alone_177 : decode cX12_alone 177 = .ok (.ireturn, 1) := by decide +kernel
set_option maxRecDepth 100000 in
def f_m_alone (x1 : Int) (x2 : Int) (V : Nat → Nat → Int) (J : Nat → Nat → Int) (Rr : Nat → Nat → Nat) : (Int × (Nat → Nat → Int)) → Prop :=
  calR (f_m_in x1 2 6) fun z1 => fct (0 ≤ z1 ∧ z1 ≤ 1) <| (if z1 = 0 then rtn ((-1), V) else calR (f_m_in x2 0 2) fun z4 => fct (0 ≤ z4 ∧ z4 ≤ 1) <| (if ¬ z4 = 0 then calUM 118849497326314194165364162560 V (f_m_laysAlone x1 V J Rr) fun V7 => (if ¬ x2 = 2 then lop3 (2147483649) (fun rc2443 (z2440 : Int) (z2441 : Int) (z2442 : Int) => rdb (iShl 1 x1) fun z2875 => (if z2875 ≤ z2440 then (if ¬ x2 = 0 then rtn (z2441, V7) else rtn (z2442, V7)) else lop2 (8) (fun rc3245 (z3243 : Int) (z3244 : Int) => jnk (fun (un3284 : Unit) => jnk (fun (z3289 : Int) (z3290 : Int) => rc2443 (z2440 + 1) z3290 z3289) fun jf3291 => (if ¬ z3244 = 0 then jnk (fun (z3293 : Int) => rdb (wr (z2442 + 1)) fun z3295 => jf3291 z3295 z3293) fun jf3294 => (if ¬ z2442 = 0 then jf3294 z2441 else jf3294 z2440) else jf3291 z2442 z2441)) fun jf3284 => (if x1 ≤ z3243 then jf3284 (()) else (if z3244 = 0 then jf3284 (()) else rdb (iShl 1 z3243) fun z3299 => rdb (iXor z2440 z3299) fun z3300 => calR (f_m_gainOf z3300 z3243 V7 J Rr) fun z3301 => calR (f_m_gainOf z2440 z3243 V7 J Rr) fun z3302 => jnk (fun (z3303 : Int) => rc3245 (z3243 + 1) z3303) fun jf3304 => (if z3302 < z3301 then jf3304 0 else jf3304 1)))) 0 1)) 0 ((-2)) 0 else lop1 (13) (fun rc3334 (z3333 : Int) => jnk (fun (un3344 : Unit) => (if 0 ≤ z3333 then rtn (z3333, V7) else rtn ((-2), V7))) fun jf3344 => (if z3333 < 0 then jf3344 (()) else calR (f_m_waterBy x1 z3333 V7 J Rr) fun z3347 => fct (0 ≤ z3347 ∧ z3347 ≤ 1) <| (if ¬ z3347 = 0 then jf3344 (()) else rc3334 (z3333 - 1)))) 10) else rtn ((-1), V)))
set_option maxHeartbeats 8000000 in
set_option maxRecDepth 100000 in
theorem m_alone (l : Launch) (D : va_G) (cy : Nat → ClassId) (ad : Nat → Nat) (G : Nat → Nat → Int) (V J : Nat → Nat → Int) (Rr : Nat → Nat → Nat) (hI : MI G V) (hJ : VJ J) (hR : MR Rr) (x1 : Int) (bx1 : -2147483648 ≤ x1 ∧ x1 ≤ 2147483647) (x2 : Int) (bx2 : -2147483648 ≤ x2 ∧ x2 ≤ 2147483647) (hW : WP G) : xMi l D (xTY cy) yX12_alone cX12_alone 8 (some .int) 4 96 0 0 [.ref (ad 0), vI x1, vI x2] (MW cy ad V J Rr) (fun u : Nat → Nat → Int => MW cy ad u J Rr) (fun a (u : Nat → Nat → Int) => MI G u ∧ FBm 118849497326314194165364162560 V u ∧ (f_m_alone x1 x2 V J Rr) (a, u)) := by
  refine xMi.mk (lv0 := [(0, .ref (ad 0)), (1, vI x1), (2, vI x2)]) (by decide) rfl (Nat.le_of_ble_eq_true rfl) (fun p e s m below meth c A C hr hnm hAe => ?_)
  have C : xC2 p s m _ meth c D A s.heap 8 cX12_alone RX12 (xTY cy) := C
  have hB : FBm 118849497326314194165364162560 V V := FBm.rf _ _
  have hF := Imp.of_eq (f_m_alone.eq_def x1 x2 V J Rr)
  refine x_iload_n C.1 dX12_alone_0 1 rfl ?_
  refine x_iconst C.1 (n := 2) dX12_alone_1 ?_
  refine x_bipush C.1 (n := 6) dX12_alone_2 ?_
  refine x_callSi C (As := [vI x1, vI 2, vI 6]) (rest := []) (m_in l D cy x1 ⟨by omega, by omega⟩ 2 ⟨by decide, by decide⟩ 6 ⟨by decide, by decide⟩) (l1 := []) (l2 := _) rfl (w2 := fun _ => _) (fun _ => rfl) rfl wm_yX12_in wn_X12 wl_X12_126 wi_yX12_in hd_yX12_in rfl ⟨Nat.le_of_ble_eq_true rfl, Nat.le_of_ble_eq_true rfl⟩ (Nat.le_of_ble_eq_true rfl) ⟨Nat.le_of_ble_eq_true rfl, Nat.le_of_ble_eq_true rfl⟩ dX12_alone_4 (fun z1 u1 bz1 h1 => ?_)
  obtain ⟨bq1, hx1_0, hFc1⟩ := h1
  replace hF := calR_i hF hFc1
  replace hF := hF.fc bq1
  refine x_if_eq C.1 (tgt := 19) dX12_alone_7 (by decide) (by omega) (fun hc2 => ?_) (fun hc2 => ?_)
  · replace hF := hF.to (if_pos hc2)
    refine x_iconst C.1 (n := -1) dX12_alone_19 ?_
    exact x_iret (S := (Nat → Nat → Int)) (post := (fun a (u : Nat → Nat → Int) => MI G u ∧ FBm 118849497326314194165364162560 V u ∧ (f_m_alone x1 x2 V J Rr) (a, u))) (w1 := (fun u : Nat → Nat → Int => MW cy ad u J Rr)) (a := (-1)) C hr rfl dX12_alone_20 (by decide) V rfl ⟨hI, hB, hF _ rfl⟩
  · replace hF := hF.to (if_neg hc2)
    have hon3 := Sq.on hx1_0 (by omega)
    refine x_iload_n C.1 dX12_alone_10 2 rfl ?_
    refine x_iconst C.1 (n := 0) dX12_alone_11 ?_
    refine x_iconst C.1 (n := 2) dX12_alone_12 ?_
    refine x_callSi C (As := [vI x2, vI 0, vI 2]) (rest := []) (m_in l D cy x2 ⟨by omega, by omega⟩ 0 ⟨by decide, by decide⟩ 2 ⟨by decide, by decide⟩) (l1 := []) (l2 := _) rfl (w2 := fun _ => _) (fun _ => rfl) rfl wm_yX12_in wn_X12 wl_X12_126 wi_yX12_in hd_yX12_in rfl ⟨Nat.le_of_ble_eq_true rfl, Nat.le_of_ble_eq_true rfl⟩ (Nat.le_of_ble_eq_true rfl) ⟨Nat.le_of_ble_eq_true rfl, Nat.le_of_ble_eq_true rfl⟩ dX12_alone_13 (fun z4 u4 bz4 h4 => ?_)
    obtain ⟨bq4, hx4_0, hFc4⟩ := h4
    replace hF := calR_i hF hFc4
    replace hF := hF.fc bq4
    refine x_if_ne C.1 (tgt := 21) dX12_alone_16 (by decide) (by omega) (fun hc5 => ?_) (fun hc5 => ?_)
    · replace hF := hF.to (if_pos hc5)
      have hon6 := Sq.on hx4_0 (by omega)
      refine x_aload_n C.1 dX12_alone_21 0 rfl ?_
      refine x_iload_n C.1 dX12_alone_22 1 rfl ?_
      refine x_callVv C (As := [vI x1]) (rest := []) 0 (xw_at (N := 33) (i := 0) (by decide) rfl) vc_X12 (m_laysAlone l D cy ad G V J Rr hI hJ hR x1 ⟨by omega, by omega⟩ hW) (l1 := []) (l2 := []) (List.append_nil _).symm (w2 := fun u : Nat → Nat → Int => MW cy ad u J Rr) (fun _ => List.append_nil _) rfl wm_yX12_laysAlone wn_X12 wl_X12_407 wi_yX12_laysAlone we_yX12_laysAlone hd_yX12_laysAlone rfl ⟨Nat.le_of_ble_eq_true rfl, Nat.le_of_ble_eq_true rfl⟩ (Nat.le_of_ble_eq_true rfl) ⟨Nat.le_of_ble_eq_true rfl, Nat.le_of_ble_eq_true rfl⟩ dX12_alone_23 (fun V7 h7 => ?_)
      obtain ⟨hI7, hBc7, hFc7⟩ := h7
      replace hF := calUM_i hF hFc7 hBc7
      have hB7 := hB.tr hBc7 (m := 118849497326314194165364162560) rfl
      refine x_iload_n C.1 dX12_alone_26 2 rfl ?_
      refine x_iconst C.1 (n := 2) dX12_alone_27 ?_
      refine x_icmp_ne C.1 (tgt := 65) dX12_alone_28 (by decide) (by omega) (by decide) (fun hc8 => ?_) (fun hc8 => ?_)
      · replace hF := hF.to (if_pos hc8)
        refine x_iconst C.1 (n := 0) dX12_alone_65 ?_
        refine x_istore_n C.1 (lv' := [(3, vI 0), (0, .ref (ad 0)), (1, vI x1), (2, vI x2)]) dX12_alone_66 (by decide) rfl ?_
        refine x_bipush C.1 (n := -2) dX12_alone_67 ?_
        refine x_istore C.1 (lv' := [(4, vI (-2)), (3, vI 0), (0, .ref (ad 0)), (1, vI x1), (2, vI x2)]) dX12_alone_69 (by decide) rfl ?_
        refine x_iconst C.1 (n := 0) dX12_alone_71 ?_
        refine x_istore C.1 (lv' := [(5, vI 0), (4, vI (-2)), (3, vI 0), (0, .ref (ad 0)), (1, vI x1), (2, vI x2)]) dX12_alone_72 (by decide) rfl ?_
        obtain ⟨bd2443, hbd2443, hF⟩ := lop3_ex hF
        refine x_loop (I := fun x : Int × Int × Int => match x with | (z2440, z2441, z2442) => (0 ≤ z2440 ∧ z2440 ≤ 2147483647) ∧ (-2 ≤ z2441 ∧ z2441 ≤ 2147483647) ∧ (-2147483648 ≤ z2442 ∧ z2442 ≤ 2147483647) ∧ (∃ nf : Nat, (2147483648 - z2440).toNat < nf ∧ Imp (lop3 nf bd2443 z2440 z2441 z2442) (f_m_alone x1 x2 V J Rr))) (μ := fun x : Int × Int × Int => match x with | (z2440, z2441, z2442) => (2147483648 - z2440).toNat) (wsf := fun x : Int × Int × Int => match x with | (z2440, z2441, z2442) => MW cy ad V7 J Rr) (lvf := fun x : Int × Int × Int => match x with | (z2440, z2441, z2442) => [(5, vI z2440), (4, vI z2441), (3, vI z2442), (0, .ref (ad 0)), (1, vI x1), (2, vI x2)]) (fun x hI2443x ih2443 => ?_) (0, (-2), 0) ⟨⟨by decide, by decide⟩, ⟨by decide, by decide⟩, ⟨by decide, by decide⟩, ⟨_, (by omega), hF⟩⟩ rfl rfl
        obtain ⟨z2440, z2441, z2442⟩ := x
        obtain ⟨bz2440, bz2441, bz2442, nf2443, hn2443, hF⟩ := hI2443x
        try dsimp only
        obtain ⟨nf2443, rfl⟩ : ∃ mm, nf2443 = mm + 1 := ⟨nf2443 - 1, (Nat.succ_pred_eq_of_pos (Nat.lt_of_le_of_lt (Nat.zero_le _) hn2443)).symm⟩
        replace hF := hF.to (lop3_s hbd2443)
        refine x_iload C.1 dX12_alone_74 0 rfl ?_
        refine x_iconst C.1 (n := 1) dX12_alone_76 ?_
        refine x_iload_n C.1 dX12_alone_77 4 rfl ?_
        obtain ⟨z2875, hz2875, bz2875⟩ : ∃ z : Int, iShl 1 x1 = z ∧ (-2147483648 ≤ z ∧ z ≤ 2147483647) := ⟨_, rfl, xi_r _⟩
        replace hF := hF.to (rdb_e (z := z2875) hz2875)
        refine x_ishl C.1 (v := z2875) hz2875 dX12_alone_78 ?_
        refine x_icmp_ge C.1 (tgt := 167) dX12_alone_79 (by decide) (by omega) (by omega) (fun hc3090 => ?_) (fun hc3090 => ?_)
        · replace hF := hF.to (if_pos hc3090)
          refine x_iload_n C.1 dX12_alone_167 5 rfl ?_
          refine x_if_ne C.1 (tgt := 175) dX12_alone_168 (by decide) (by omega) (fun hc3091 => ?_) (fun hc3091 => ?_)
          · replace hF := hF.to (if_pos hc3091)
            refine x_iload C.1 dX12_alone_175 1 rfl ?_
            exact x_iret (S := (Nat → Nat → Int)) (post := (fun a (u : Nat → Nat → Int) => MI G u ∧ FBm 118849497326314194165364162560 V u ∧ (f_m_alone x1 x2 V J Rr) (a, u))) (w1 := (fun u : Nat → Nat → Int => MW cy ad u J Rr)) (a := z2441) C hr rfl dX12_alone_177 (by omega) V7 rfl ⟨hI7, hB7, hF _ rfl⟩
          · replace hF := hF.to (if_neg (fun hh => hh hc3091))
            refine x_iload_n C.1 dX12_alone_171 2 rfl ?_
            refine x_goto C.1 (tgt := 177) dX12_alone_172 (by decide) ?_
            exact x_iret (S := (Nat → Nat → Int)) (post := (fun a (u : Nat → Nat → Int) => MI G u ∧ FBm 118849497326314194165364162560 V u ∧ (f_m_alone x1 x2 V J Rr) (a, u))) (w1 := (fun u : Nat → Nat → Int => MW cy ad u J Rr)) (a := z2442) C hr rfl dX12_alone_177 (by omega) V7 rfl ⟨hI7, hB7, hF _ rfl⟩
        · replace hF := hF.to (if_neg hc3090)
          refine x_iconst C.1 (n := 1) dX12_alone_82 ?_
          refine x_istore C.1 (lv' := [(6, vI 1), (5, vI z2440), (4, vI z2441), (3, vI z2442), (0, .ref (ad 0)), (1, vI x1), (2, vI x2)]) dX12_alone_83 (by decide) rfl ?_
          refine x_iconst C.1 (n := 0) dX12_alone_85 ?_
          refine x_istore C.1 (lv' := [(7, vI 0), (6, vI 1), (5, vI z2440), (4, vI z2441), (3, vI z2442), (0, .ref (ad 0)), (1, vI x1), (2, vI x2)]) dX12_alone_86 (by decide) rfl ?_
          obtain ⟨bd3245, hbd3245, hF⟩ := lop2_ex hF
          refine x_loop (I := fun x : Int × Int => match x with | (z3243, z3244) => (0 ≤ z3243 ∧ z3243 ≤ 6) ∧ (0 ≤ z3244 ∧ z3244 ≤ 1) ∧ (∃ nf : Nat, (7 - z3243).toNat < nf ∧ Imp (lop2 nf bd3245 z3243 z3244) (f_m_alone x1 x2 V J Rr))) (μ := fun x : Int × Int => match x with | (z3243, z3244) => (7 - z3243).toNat) (wsf := fun x : Int × Int => match x with | (z3243, z3244) => MW cy ad V7 J Rr) (lvf := fun x : Int × Int => match x with | (z3243, z3244) => [(7, vI z3243), (6, vI z3244), (5, vI z2440), (4, vI z2441), (3, vI z2442), (0, .ref (ad 0)), (1, vI x1), (2, vI x2)]) (fun x hI3245x ih3245 => ?_) (0, 1) ⟨⟨by decide, by decide⟩, ⟨by decide, by decide⟩, ⟨_, (by omega), hF⟩⟩ rfl rfl
          obtain ⟨z3243, z3244⟩ := x
          obtain ⟨bz3243, bz3244, nf3245, hn3245, hF⟩ := hI3245x
          try dsimp only
          obtain ⟨nf3245, rfl⟩ : ∃ mm, nf3245 = mm + 1 := ⟨nf3245 - 1, (Nat.succ_pred_eq_of_pos (Nat.lt_of_le_of_lt (Nat.zero_le _) hn3245)).symm⟩
          replace hF := hF.to (lop2_s hbd3245)
          refine x_iload C.1 dX12_alone_88 0 rfl ?_
          refine x_iload_n C.1 dX12_alone_90 6 rfl ?_
          obtain ⟨jf3284, hjf3284, hF⟩ := jn_ex hF
          refine x_join (I := fun un3284 : Unit => True ∧ Imp (jf3284 un3284) (f_m_alone x1 x2 V J Rr)) (wsf := fun un3284 : Unit => MW cy ad V7 J Rr) (lvf := fun un3284 : Unit => [(7, vI z3243), (6, vI z3244), (5, vI z2440), (4, vI z2441), (3, vI z2442), (0, .ref (ad 0)), (1, vI x1), (2, vI x2)]) (stf := fun un3284 : Unit => []) 136 (fun un3284 hI3284x => ?_) (fun jn3284 => ?_)
          · obtain ⟨_, hF⟩ := hI3284x
            try dsimp only
            replace hF := hF.to (jn_s1 hjf3284)
            refine x_iload C.1 dX12_alone_136 1 rfl ?_
            obtain ⟨jf3291, hjf3291, hF⟩ := jn_ex hF
            refine x_join (I := fun x : Int × Int => match x with | (z3289, z3290) => (-2147483648 ≤ z3289 ∧ z3289 ≤ 2147483647) ∧ (-2 ≤ z3290 ∧ z3290 ≤ 2147483647) ∧ Imp (jf3291 z3289 z3290) (f_m_alone x1 x2 V J Rr)) (wsf := fun x : Int × Int => match x with | (z3289, z3290) => MW cy ad V7 J Rr) (lvf := fun x : Int × Int => match x with | (z3289, z3290) => [(3, vI z3289), (4, vI z3290), (7, vI z3243), (6, vI z3244), (5, vI z2440), (0, .ref (ad 0)), (1, vI x1), (2, vI x2)]) (stf := fun x : Int × Int => match x with | (z3289, z3290) => []) 161 (fun x hI3291x => ?_) (fun jn3291 => ?_)
            · obtain ⟨z3289, z3290⟩ := x
              obtain ⟨bz3289, bz3290, hF⟩ := hI3291x
              try dsimp only
              replace hF := hF.to (jn_s2 hjf3291)
              refine x_iinc C.1 (v := z2440 + 1) (lv' := [(5, vI (z2440 + 1)), (3, vI z3289), (4, vI z3290), (7, vI z3243), (6, vI z3244), (0, .ref (ad 0)), (1, vI x1), (2, vI x2)]) (by omega) dX12_alone_161 4 rfl (by decide) rfl ?_
              refine x_goto C.1 (tgt := 74) dX12_alone_164 (by decide) ?_
              refine x_lv [(5, vI (z2440 + 1)), (4, vI z3290), (3, vI z3289), (0, .ref (ad 0)), (1, vI x1), (2, vI x2)] [0, 2, 1, 5, 6, 7] rfl ?_
              have hmu2443 : (2147483648 - (z2440 + 1)).toNat < (2147483648 - z2440).toNat := (by omega)
              exact ih2443 (z2440 + 1, z3290, z3289) ⟨⟨by omega, by omega⟩, ⟨by omega, by omega⟩, ⟨by omega, by omega⟩, ⟨nf2443, Nat.lt_of_lt_of_le hmu2443 (Nat.le_of_lt_succ hn2443), hF⟩⟩ hmu2443
            · refine x_if_ne C.1 (tgt := 144) dX12_alone_138 (by decide) (by omega) (fun hc3292 => ?_) (fun hc3292 => ?_)
              · replace hF := hF.to (if_pos hc3292)
                refine x_iload_n C.1 dX12_alone_144 4 rfl ?_
                obtain ⟨jf3294, hjf3294, hF⟩ := jn_ex hF
                refine x_join (I := fun z3293 : Int => (-2 ≤ z3293 ∧ z3293 ≤ 2147483647) ∧ Imp (jf3294 z3293) (f_m_alone x1 x2 V J Rr)) (wsf := fun z3293 : Int => MW cy ad V7 J Rr) (lvf := fun z3293 : Int => [(7, vI z3243), (6, vI z3244), (5, vI z2440), (4, vI z2441), (3, vI z2442), (0, .ref (ad 0)), (1, vI x1), (2, vI x2)]) (stf := fun z3293 : Int => [vI z3293]) 155 (fun z3293 hI3294x => ?_) (fun jn3294 => ?_)
                · obtain ⟨bz3293, hF⟩ := hI3294x
                  try dsimp only
                  replace hF := hF.to (jn_s1 hjf3294)
                  refine x_istore C.1 (lv' := [(4, vI z3293), (7, vI z3243), (6, vI z3244), (5, vI z2440), (3, vI z2442), (0, .ref (ad 0)), (1, vI x1), (2, vI x2)]) dX12_alone_155 (by decide) rfl ?_
                  refine x_iload_n C.1 dX12_alone_157 4 rfl ?_
                  refine x_iconst C.1 (n := 1) dX12_alone_158 ?_
                  refine x_iadd C.1 (v := z2442 + 1) (by omega) dX12_alone_159 ?_
                  refine x_wrapg ?_
                  intro z3295 bz3295 ew3295
                  replace hF := hF.to (rdb_e (z := z3295) ew3295.symm)
                  refine x_istore_n C.1 (lv' := [(3, vI z3295), (4, vI z3293), (7, vI z3243), (6, vI z3244), (5, vI z2440), (0, .ref (ad 0)), (1, vI x1), (2, vI x2)]) dX12_alone_160 (by decide) rfl ?_
                  exact jn3291 (z3295, z3293) ⟨⟨by omega, by omega⟩, ⟨by omega, by omega⟩, hF⟩
                · refine x_if_ne C.1 (tgt := 153) dX12_alone_145 (by decide) (by omega) (fun hc3296 => ?_) (fun hc3296 => ?_)
                  · replace hF := hF.to (if_pos hc3296)
                    refine x_iload C.1 dX12_alone_153 3 rfl ?_
                    exact jn3294 z2441 ⟨⟨by omega, by omega⟩, hF⟩
                  · replace hF := hF.to (if_neg (fun hh => hh hc3296))
                    refine x_iload C.1 dX12_alone_148 2 rfl ?_
                    refine x_goto C.1 (tgt := 155) dX12_alone_150 (by decide) ?_
                    exact jn3294 z2440 ⟨⟨by omega, by omega⟩, hF⟩
              · replace hF := hF.to (if_neg (fun hh => hh hc3292))
                refine x_goto C.1 (tgt := 161) dX12_alone_141 (by decide) ?_
                refine x_lv [(3, vI z2442), (4, vI z2441), (7, vI z3243), (6, vI z3244), (5, vI z2440), (0, .ref (ad 0)), (1, vI x1), (2, vI x2)] [4, 3, 0, 1, 2, 5, 6, 7] rfl ?_
                exact jn3291 (z2442, z2441) ⟨⟨by omega, by omega⟩, ⟨by omega, by omega⟩, hF⟩
          · refine x_icmp_ge C.1 (tgt := 136) dX12_alone_91 (by decide) (by omega) (by omega) (fun hc3297 => ?_) (fun hc3297 => ?_)
            · replace hF := hF.to (if_pos hc3297)
              exact jn3284 (()) ⟨trivial, hF⟩
            · replace hF := hF.to (if_neg hc3297)
              refine x_iload C.1 dX12_alone_94 1 rfl ?_
              refine x_if_eq C.1 (tgt := 136) dX12_alone_96 (by decide) (by omega) (fun hc3298 => ?_) (fun hc3298 => ?_)
              · replace hF := hF.to (if_pos hc3298)
                exact jn3284 (()) ⟨trivial, hF⟩
              · replace hF := hF.to (if_neg hc3298)
                refine x_aload_n C.1 dX12_alone_99 5 rfl ?_
                refine x_iload C.1 dX12_alone_100 2 rfl ?_
                refine x_iconst C.1 (n := 1) dX12_alone_102 ?_
                refine x_iload C.1 dX12_alone_103 0 rfl ?_
                obtain ⟨z3299, hz3299, bz3299⟩ : ∃ z : Int, iShl 1 z3243 = z ∧ (-2147483648 ≤ z ∧ z ≤ 2147483647) := ⟨_, rfl, xi_r _⟩
                replace hF := hF.to (rdb_e (z := z3299) hz3299)
                refine x_ishl C.1 (v := z3299) hz3299 dX12_alone_105 ?_
                obtain ⟨z3300, hz3300, bz3300⟩ : ∃ z : Int, iXor z2440 z3299 = z ∧ (-2147483648 ≤ z ∧ z ≤ 2147483647) := ⟨_, rfl, xi_r _⟩
                replace hF := hF.to (rdb_e (z := z3300) hz3300)
                refine x_ixor C.1 (v := z3300) hz3300 dX12_alone_106 ?_
                refine x_iload C.1 dX12_alone_107 0 rfl ?_
                refine x_callVi C (As := [vI z3300, vI z3243]) (rest := []) 0 (xw_at (N := 33) (i := 0) (by decide) rfl) vc_X12 (m_gainOf l D cy ad G V7 J Rr hI7 hJ hR z3300 ⟨by omega, by omega⟩ z3243 ⟨by omega, by omega⟩) (l1 := []) (l2 := []) (List.append_nil _).symm (w2 := fun _ => MW cy ad V7 J Rr) (fun _ => List.append_nil _) rfl wm_yX12_gainOf wn_X12 wl_X12_413 wi_yX12_gainOf we_yX12_gainOf hd_yX12_gainOf rfl ⟨Nat.le_of_ble_eq_true rfl, Nat.le_of_ble_eq_true rfl⟩ (Nat.le_of_ble_eq_true rfl) ⟨Nat.le_of_ble_eq_true rfl, Nat.le_of_ble_eq_true rfl⟩ dX12_alone_109 (fun z3301 u3301 bz3301 h3301 => ?_)
                have hFc3301 := h3301
                replace hF := calR_i hF hFc3301
                refine x_aload_n C.1 dX12_alone_112 5 rfl ?_
                refine x_iload C.1 dX12_alone_113 2 rfl ?_
                refine x_iload C.1 dX12_alone_115 0 rfl ?_
                refine x_callVi C (As := [vI z2440, vI z3243]) (rest := [vI z3301]) 0 (xw_at (N := 33) (i := 0) (by decide) rfl) vc_X12 (m_gainOf l D cy ad G V7 J Rr hI7 hJ hR z2440 ⟨by omega, by omega⟩ z3243 ⟨by omega, by omega⟩) (l1 := []) (l2 := []) (List.append_nil _).symm (w2 := fun _ => MW cy ad V7 J Rr) (fun _ => List.append_nil _) rfl wm_yX12_gainOf wn_X12 wl_X12_413 wi_yX12_gainOf we_yX12_gainOf hd_yX12_gainOf rfl ⟨Nat.le_of_ble_eq_true rfl, Nat.le_of_ble_eq_true rfl⟩ (Nat.le_of_ble_eq_true rfl) ⟨Nat.le_of_ble_eq_true rfl, Nat.le_of_ble_eq_true rfl⟩ dX12_alone_117 (fun z3302 u3302 bz3302 h3302 => ?_)
                have hFc3302 := h3302
                replace hF := calR_i hF hFc3302
                obtain ⟨jf3304, hjf3304, hF⟩ := jn_ex hF
                refine x_join (I := fun z3303 : Int => (0 ≤ z3303 ∧ z3303 ≤ 1) ∧ Imp (jf3304 z3303) (f_m_alone x1 x2 V J Rr)) (wsf := fun z3303 : Int => MW cy ad V7 J Rr) (lvf := fun z3303 : Int => [(7, vI z3243), (6, vI z3244), (5, vI z2440), (4, vI z2441), (3, vI z2442), (0, .ref (ad 0)), (1, vI x1), (2, vI x2)]) (stf := fun z3303 : Int => [vI z3303]) 128 (fun z3303 hI3304x => ?_) (fun jn3304 => ?_)
                · obtain ⟨bz3303, hF⟩ := hI3304x
                  try dsimp only
                  replace hF := hF.to (jn_s1 hjf3304)
                  refine x_istore C.1 (lv' := [(6, vI z3303), (7, vI z3243), (5, vI z2440), (4, vI z2441), (3, vI z2442), (0, .ref (ad 0)), (1, vI x1), (2, vI x2)]) dX12_alone_128 (by decide) rfl ?_
                  refine x_iinc C.1 (v := z3243 + 1) (lv' := [(7, vI (z3243 + 1)), (6, vI z3303), (5, vI z2440), (4, vI z2441), (3, vI z2442), (0, .ref (ad 0)), (1, vI x1), (2, vI x2)]) (by omega) dX12_alone_130 1 rfl (by decide) rfl ?_
                  refine x_goto C.1 (tgt := 88) dX12_alone_133 (by decide) ?_
                  have hmu3245 : (7 - (z3243 + 1)).toNat < (7 - z3243).toNat := (by omega)
                  exact ih3245 (z3243 + 1, z3303) ⟨⟨by omega, by omega⟩, ⟨by omega, by omega⟩, ⟨nf3245, Nat.lt_of_lt_of_le hmu3245 (Nat.le_of_lt_succ hn3245), hF⟩⟩ hmu3245
                · refine x_icmp_gt C.1 (tgt := 127) dX12_alone_120 (by decide) (by omega) (by omega) (fun hc3305 => ?_) (fun hc3305 => ?_)
                  · replace hF := hF.to (if_pos hc3305)
                    refine x_iconst C.1 (n := 0) dX12_alone_127 ?_
                    exact jn3304 0 ⟨⟨by decide, by decide⟩, hF⟩
                  · replace hF := hF.to (if_neg hc3305)
                    refine x_iconst C.1 (n := 1) dX12_alone_123 ?_
                    refine x_goto C.1 (tgt := 128) dX12_alone_124 (by decide) ?_
                    exact jn3304 1 ⟨⟨by decide, by decide⟩, hF⟩
      · replace hF := hF.to (if_neg (fun hh => hh hc8))
        refine x_bipush C.1 (n := 10) dX12_alone_31 ?_
        refine x_istore_n C.1 (lv' := [(3, vI 10), (0, .ref (ad 0)), (1, vI x1), (2, vI x2)]) dX12_alone_33 (by decide) rfl ?_
        obtain ⟨bd3334, hbd3334, hF⟩ := lop1_ex hF
        refine x_loop (I := fun z3333 : Int => (-1 ≤ z3333 ∧ z3333 ≤ 10) ∧ (∃ nf : Nat, (z3333 - (-2)).toNat < nf ∧ Imp (lop1 nf bd3334 z3333) (f_m_alone x1 x2 V J Rr))) (μ := fun z3333 : Int => (z3333 - (-2)).toNat) (wsf := fun z3333 : Int => MW cy ad V7 J Rr) (lvf := fun z3333 : Int => [(3, vI z3333), (0, .ref (ad 0)), (1, vI x1), (2, vI x2)]) (fun z3333 hI3334x ih3334 => ?_) 10 ⟨⟨by decide, by decide⟩, ⟨_, (by omega), hF⟩⟩ rfl rfl
        obtain ⟨bz3333, nf3334, hn3334, hF⟩ := hI3334x
        try dsimp only
        obtain ⟨nf3334, rfl⟩ : ∃ mm, nf3334 = mm + 1 := ⟨nf3334 - 1, (Nat.succ_pred_eq_of_pos (Nat.lt_of_le_of_lt (Nat.zero_le _) hn3334)).symm⟩
        replace hF := hF.to (lop1_s hbd3334)
        refine x_iload_n C.1 dX12_alone_34 0 rfl ?_
        obtain ⟨jf3344, hjf3344, hF⟩ := jn_ex hF
        refine x_join (I := fun un3344 : Unit => True ∧ Imp (jf3344 un3344) (f_m_alone x1 x2 V J Rr)) (wsf := fun un3344 : Unit => MW cy ad V7 J Rr) (lvf := fun un3344 : Unit => [(3, vI z3333), (0, .ref (ad 0)), (1, vI x1), (2, vI x2)]) (stf := fun un3344 : Unit => []) 54 (fun un3344 hI3344x => ?_) (fun jn3344 => ?_)
        · obtain ⟨_, hF⟩ := hI3344x
          try dsimp only
          replace hF := hF.to (jn_s1 hjf3344)
          refine x_iload_n C.1 dX12_alone_54 0 rfl ?_
          refine x_if_ge C.1 (tgt := 63) dX12_alone_55 (by decide) (by omega) (fun hc3345 => ?_) (fun hc3345 => ?_)
          · replace hF := hF.to (if_pos hc3345)
            refine x_iload_n C.1 dX12_alone_63 0 rfl ?_
            exact x_iret (S := (Nat → Nat → Int)) (post := (fun a (u : Nat → Nat → Int) => MI G u ∧ FBm 118849497326314194165364162560 V u ∧ (f_m_alone x1 x2 V J Rr) (a, u))) (w1 := (fun u : Nat → Nat → Int => MW cy ad u J Rr)) (a := z3333) C hr rfl dX12_alone_64 (by omega) V7 rfl ⟨hI7, hB7, hF _ rfl⟩
          · replace hF := hF.to (if_neg hc3345)
            refine x_bipush C.1 (n := -2) dX12_alone_58 ?_
            refine x_goto C.1 (tgt := 64) dX12_alone_60 (by decide) ?_
            exact x_iret (S := (Nat → Nat → Int)) (post := (fun a (u : Nat → Nat → Int) => MI G u ∧ FBm 118849497326314194165364162560 V u ∧ (f_m_alone x1 x2 V J Rr) (a, u))) (w1 := (fun u : Nat → Nat → Int => MW cy ad u J Rr)) (a := (-2)) C hr rfl dX12_alone_64 (by decide) V7 rfl ⟨hI7, hB7, hF _ rfl⟩
        · refine x_if_lt C.1 (tgt := 54) dX12_alone_35 (by decide) (by omega) (fun hc3346 => ?_) (fun hc3346 => ?_)
          · replace hF := hF.to (if_pos hc3346)
            exact jn3344 (()) ⟨trivial, hF⟩
          · replace hF := hF.to (if_neg hc3346)
            refine x_aload_n C.1 dX12_alone_38 1 rfl ?_
            refine x_iload_n C.1 dX12_alone_39 2 rfl ?_
            refine x_iload_n C.1 dX12_alone_40 0 rfl ?_
            refine x_callVi C (As := [vI x1, vI z3333]) (rest := []) 0 (xw_at (N := 33) (i := 0) (by decide) rfl) vc_X12 (m_waterBy l D cy ad G V7 J Rr hI7 hJ hR x1 ⟨by omega, by omega⟩ z3333 ⟨by omega, by omega⟩) (l1 := []) (l2 := []) (List.append_nil _).symm (w2 := fun _ => MW cy ad V7 J Rr) (fun _ => List.append_nil _) rfl wm_yX12_waterBy wn_X12 wl_X12_410 wi_yX12_waterBy we_yX12_waterBy hd_yX12_waterBy rfl ⟨Nat.le_of_ble_eq_true rfl, Nat.le_of_ble_eq_true rfl⟩ (Nat.le_of_ble_eq_true rfl) ⟨Nat.le_of_ble_eq_true rfl, Nat.le_of_ble_eq_true rfl⟩ dX12_alone_41 (fun z3347 u3347 bz3347 h3347 => ?_)
            obtain ⟨bq3347, hFc3347⟩ := h3347
            replace hF := calR_i hF hFc3347
            replace hF := hF.fc bq3347
            refine x_if_ne C.1 (tgt := 54) dX12_alone_44 (by decide) (by omega) (fun hc3348 => ?_) (fun hc3348 => ?_)
            · replace hF := hF.to (if_pos hc3348)
              exact jn3344 (()) ⟨trivial, hF⟩
            · replace hF := hF.to (if_neg (fun hh => hh hc3348))
              refine x_iload_n C.1 dX12_alone_47 0 rfl ?_
              refine x_iconst C.1 (n := 1) dX12_alone_48 ?_
              refine x_isub C.1 (v := z3333 - 1) (by omega) dX12_alone_49 ?_
              refine x_istore_n C.1 (lv' := [(3, vI (z3333 - 1)), (0, .ref (ad 0)), (1, vI x1), (2, vI x2)]) dX12_alone_50 (by decide) rfl ?_
              refine x_goto C.1 (tgt := 34) dX12_alone_51 (by decide) ?_
              have hmu3334 : ((z3333 - 1) - (-2)).toNat < (z3333 - (-2)).toNat := (by omega)
              exact ih3334 (z3333 - 1) ⟨⟨by omega, by omega⟩, ⟨nf3334, Nat.lt_of_lt_of_le hmu3334 (Nat.le_of_lt_succ hn3334), hF⟩⟩ hmu3334
    · replace hF := hF.to (if_neg (fun hh => hh hc5))
      refine x_iconst C.1 (n := -1) dX12_alone_19 ?_
      exact x_iret (S := (Nat → Nat → Int)) (post := (fun a (u : Nat → Nat → Int) => MI G u ∧ FBm 118849497326314194165364162560 V u ∧ (f_m_alone x1 x2 V J Rr) (a, u))) (w1 := (fun u : Nat → Nat → Int => MW cy ad u J Rr)) (a := (-1)) C hr rfl dX12_alone_20 (by decide) V rfl ⟨hI, hB, hF _ rfl⟩
theorem hd_yX12_areTenths : yX12_areTenths.cls ≠ "java/lang/invoke/MethodHandle" ∧ yX12_areTenths.cls ≠ "java/lang/invoke/VarHandle" ∧ (parseMethodDescriptor yX12_areTenths.desc).map (fun d => d.parameters.length) = some 1 := by decide +kernel
theorem hd_yX12_laysComes : yX12_laysComes.cls ≠ "java/lang/invoke/MethodHandle" ∧ yX12_laysComes.cls ≠ "java/lang/invoke/VarHandle" ∧ (parseMethodDescriptor yX12_laysComes.desc).map (fun d => d.parameters.length) = some 1 := by decide +kernel
theorem dX12_comes_0 : decode cX12_comes 0 = .ok (.iload_n 1, 1) := by decide +kernel
theorem dX12_comes_1 : decode cX12_comes 1 = .ok (.iconst 1, 1) := by decide +kernel
theorem dX12_comes_2 : decode cX12_comes 2 = .ok (.bipush 12, 2) := by decide +kernel
theorem dX12_comes_4 : decode cX12_comes 4 = .ok (.invokestatic 126, 3) := by decide +kernel
theorem dX12_comes_7 : decode cX12_comes 7 = .ok (.ifCond .eq 30, 3) := by decide +kernel
theorem dX12_comes_10 : decode cX12_comes 10 = .ok (.iload_n 2, 1) := by decide +kernel
theorem dX12_comes_11 : decode cX12_comes 11 = .ok (.iconst 0, 1) := by decide +kernel
theorem dX12_comes_12 : decode cX12_comes 12 = .ok (.bipush 12, 2) := by decide +kernel
theorem dX12_comes_14 : decode cX12_comes 14 = .ok (.invokestatic 126, 3) := by decide +kernel
theorem dX12_comes_17 : decode cX12_comes 17 = .ok (.ifCond .eq 20, 3) := by decide +kernel
theorem dX12_comes_20 : decode cX12_comes 20 = .ok (.iload_n 3, 1) := by decide +kernel
theorem dX12_comes_21 : decode cX12_comes 21 = .ok (.iconst 0, 1) := by decide +kernel
theorem dX12_comes_22 : decode cX12_comes 22 = .ok (.iconst 1, 1) := by decide +kernel
theorem dX12_comes_23 : decode cX12_comes 23 = .ok (.invokestatic 126, 3) := by decide +kernel
theorem dX12_comes_26 : decode cX12_comes 26 = .ok (.ifCond .eq 11, 3) := by decide +kernel
theorem dX12_comes_29 : decode cX12_comes 29 = .ok (.iload_n 1, 1) := by decide +kernel
theorem dX12_comes_30 : decode cX12_comes 30 = .ok (.aload_n 0, 1) := by decide +kernel
theorem dX12_comes_31 : decode cX12_comes 31 = .ok (.getfield 137, 3) := by decide +kernel
theorem dX12_comes_34 : decode cX12_comes 34 = .ok (.if_icmp .le 7, 3) := by decide +kernel
theorem dX12_comes_37 : decode cX12_comes 37 = .ok (.ldc2_w 345, 3) := by decide +kernel
theorem dX12_comes_40 : decode cX12_comes 40 = .ok (.lreturn, 1) := by decide +kernel
theorem dX12_comes_41 : decode cX12_comes 41 = .ok (.aload_n 0, 1) := by decide +kernel
theorem dX12_comes_42 : decode cX12_comes 42 = .ok (.iconst 0, 1) := by decide +kernel
theorem dX12_comes_43 : decode cX12_comes 43 = .ok (.putfield 137, 3) := by decide +kernel
theorem dX12_comes_46 : decode cX12_comes 46 = .ok (.aload_n 0, 1) := by decide +kernel
theorem dX12_comes_47 : decode cX12_comes 47 = .ok (.iload_n 1, 1) := by decide +kernel
theorem dX12_comes_48 : decode cX12_comes 48 = .ok (.invokevirtual 374, 3) := by decide +kernel
theorem dX12_comes_51 : decode cX12_comes 51 = .ok (.ifCond .ne 7, 3) := by decide +kernel
theorem dX12_comes_54 : decode cX12_comes 54 = .ok (.ldc2_w 377, 3) := by decide +kernel
theorem dX12_comes_57 : decode cX12_comes 57 = .ok (.lreturn, 1) := by decide +kernel
theorem dX12_comes_58 : decode cX12_comes 58 = .ok (.aload_n 0, 1) := by decide +kernel
theorem dX12_comes_59 : decode cX12_comes 59 = .ok (.iload_n 1, 1) := by decide +kernel
theorem dX12_comes_60 : decode cX12_comes 60 = .ok (.invokevirtual 379, 3) := by decide +kernel
theorem dX12_comes_63 : decode cX12_comes 63 = .ok (.aload_n 0, 1) := by decide +kernel
theorem dX12_comes_64 : decode cX12_comes 64 = .ok (.getfield 96, 3) := by decide +kernel
theorem dX12_comes_67 : decode cX12_comes 67 = .ok (.iload_n 2, 1) := by decide +kernel
theorem dX12_comes_68 : decode cX12_comes 68 = .ok (.laload, 1) := by decide +kernel
theorem dX12_comes_69 : decode cX12_comes 69 = .ok (.iload_n 1, 1) := by decide +kernel
theorem dX12_comes_70 : decode cX12_comes 70 = .ok (.invokestatic 328, 3) := by decide +kernel
theorem dX12_comes_73 : decode cX12_comes 73 = .ok (.iload_n 3, 1) := by decide +kernel
theorem dX12_comes_74 : decode cX12_comes 74 = .ok (.invokestatic 382, 3) := by decide +kernel
theorem dX12_comes_77 : decode cX12_comes 77 = .ok (.lreturn, 1) := by decide +kernel
set_option maxRecDepth 100000 in
def f_m_comes (x1 : Int) (x2 : Int) (x3 : Int) (V : Nat → Nat → Int) (J : Nat → Nat → Int) (Rr : Nat → Nat → Nat) : (Int × xS) → Prop :=
  calR (f_m_in x1 1 12) fun z1 => fct (0 ≤ z1 ∧ z1 ≤ 1) <| (if z1 = 0 then rtn ((-1), (V, J, Rr)) else calR (f_m_in x2 0 12) fun z4 => fct (0 ≤ z4 ∧ z4 ≤ 1) <| (if z4 = 0 then rtn ((-1), (V, J, Rr)) else calR (f_m_in x3 0 1) fun z7 => fct (0 ≤ z7 ∧ z7 ≤ 1) <| (if z7 = 0 then rtn ((-1), (V, J, Rr)) else rdb (V 0 4) fun z10 => fct (0 ≤ z10 ∧ z10 ≤ 220) <| (if x1 ≤ z10 then rdb (up2 V 0 4 0) fun V12 => calR (f_m_areTenths x1 V12 J Rr) fun z13 => fct (0 ≤ z13 ∧ z13 ≤ 1) <| (if ¬ z13 = 0 then calTM 0 V12 (f_m_laysComes x1 V12 J Rr) fun V15 J15 R15 => rdb (J15 29 x2.toNat) fun z16 => calR (f_m_tens x1) fun z17 => fct (1 ≤ z17 ∧ z17 ≤ 1000000000000000000) <| calR (f_m_through z16 z17 x3) fun z18 => rtn (z18, (V15, J15, R15)) else rtn ((-2), (V12, J, Rr))) else rtn ((-1), (V, J, Rr))))))
set_option maxHeartbeats 8000000 in
set_option maxRecDepth 100000 in
theorem m_comes (l : Launch) (D : va_G) (cy : Nat → ClassId) (ad : Nat → Nat) (G : Nat → Nat → Int) (V J : Nat → Nat → Int) (Rr : Nat → Nat → Nat) (hI : MI G V) (hJ : VJ J) (hR : MR Rr) (x1 : Int) (bx1 : -2147483648 ≤ x1 ∧ x1 ≤ 2147483647) (x2 : Int) (bx2 : -2147483648 ≤ x2 ∧ x2 ≤ 2147483647) (x3 : Int) (bx3 : -2147483648 ≤ x3 ∧ x3 ≤ 2147483647) : xMl l D (xTY cy) yX12_comes cX12_comes 4 (some .long) 2 55 0 0 [.ref (ad 0), vI x1, vI x2, vI x3] (MW cy ad V J Rr) (fun u : xS => MW cy ad u.1 u.2.1 u.2.2) (fun a (u : xS) => MS G u ∧ FBm 16 V u.1 ∧ (f_m_comes x1 x2 x3 V J Rr) (a, u)) := by
  refine xMl.mk (lv0 := [(0, .ref (ad 0)), (1, vI x1), (2, vI x2), (3, vI x3)]) (by decide) rfl (Nat.le_of_ble_eq_true rfl) (fun p e s m below meth c A C hr hnm hAe => ?_)
  have C : xC2 p s m _ meth c D A s.heap 4 cX12_comes RX12 (xTY cy) := C
  have hB : FBm 16 V V := FBm.rf _ _
  have hF := Imp.of_eq (f_m_comes.eq_def x1 x2 x3 V J Rr)
  refine x_iload_n C.1 dX12_comes_0 1 rfl ?_
  refine x_iconst C.1 (n := 1) dX12_comes_1 ?_
  refine x_bipush C.1 (n := 12) dX12_comes_2 ?_
  refine x_callSi C (As := [vI x1, vI 1, vI 12]) (rest := []) (m_in l D cy x1 ⟨by omega, by omega⟩ 1 ⟨by decide, by decide⟩ 12 ⟨by decide, by decide⟩) (l1 := []) (l2 := _) rfl (w2 := fun _ => _) (fun _ => rfl) rfl wm_yX12_in wn_X12 wl_X12_126 wi_yX12_in hd_yX12_in rfl ⟨Nat.le_of_ble_eq_true rfl, Nat.le_of_ble_eq_true rfl⟩ (Nat.le_of_ble_eq_true rfl) ⟨Nat.le_of_ble_eq_true rfl, Nat.le_of_ble_eq_true rfl⟩ dX12_comes_4 (fun z1 u1 bz1 h1 => ?_)
  obtain ⟨bq1, hx1_0, hFc1⟩ := h1
  replace hF := calR_i hF hFc1
  replace hF := hF.fc bq1
  refine x_if_eq C.1 (tgt := 37) dX12_comes_7 (by decide) (by omega) (fun hc2 => ?_) (fun hc2 => ?_)
  · replace hF := hF.to (if_pos hc2)
    refine x_ldc2 C.1 (n := -1) wq_X12_345 dX12_comes_37 ?_
    exact x_lret (S := xS) (post := (fun a (u : xS) => MS G u ∧ FBm 16 V u.1 ∧ (f_m_comes x1 x2 x3 V J Rr) (a, u))) (w1 := (fun u : xS => MW cy ad u.1 u.2.1 u.2.2)) (a := (-1)) C hr rfl dX12_comes_40 (by decide) (V, J, Rr) rfl ⟨⟨hI, hJ, hR⟩, hB, hF _ rfl⟩
  · replace hF := hF.to (if_neg hc2)
    have hon3 := Sq.on hx1_0 (by omega)
    refine x_iload_n C.1 dX12_comes_10 2 rfl ?_
    refine x_iconst C.1 (n := 0) dX12_comes_11 ?_
    refine x_bipush C.1 (n := 12) dX12_comes_12 ?_
    refine x_callSi C (As := [vI x2, vI 0, vI 12]) (rest := []) (m_in l D cy x2 ⟨by omega, by omega⟩ 0 ⟨by decide, by decide⟩ 12 ⟨by decide, by decide⟩) (l1 := []) (l2 := _) rfl (w2 := fun _ => _) (fun _ => rfl) rfl wm_yX12_in wn_X12 wl_X12_126 wi_yX12_in hd_yX12_in rfl ⟨Nat.le_of_ble_eq_true rfl, Nat.le_of_ble_eq_true rfl⟩ (Nat.le_of_ble_eq_true rfl) ⟨Nat.le_of_ble_eq_true rfl, Nat.le_of_ble_eq_true rfl⟩ dX12_comes_14 (fun z4 u4 bz4 h4 => ?_)
    obtain ⟨bq4, hx4_0, hFc4⟩ := h4
    replace hF := calR_i hF hFc4
    replace hF := hF.fc bq4
    refine x_if_eq C.1 (tgt := 37) dX12_comes_17 (by decide) (by omega) (fun hc5 => ?_) (fun hc5 => ?_)
    · replace hF := hF.to (if_pos hc5)
      refine x_ldc2 C.1 (n := -1) wq_X12_345 dX12_comes_37 ?_
      exact x_lret (S := xS) (post := (fun a (u : xS) => MS G u ∧ FBm 16 V u.1 ∧ (f_m_comes x1 x2 x3 V J Rr) (a, u))) (w1 := (fun u : xS => MW cy ad u.1 u.2.1 u.2.2)) (a := (-1)) C hr rfl dX12_comes_40 (by decide) (V, J, Rr) rfl ⟨⟨hI, hJ, hR⟩, hB, hF _ rfl⟩
    · replace hF := hF.to (if_neg hc5)
      have hon6 := Sq.on hx4_0 (by omega)
      refine x_iload_n C.1 dX12_comes_20 3 rfl ?_
      refine x_iconst C.1 (n := 0) dX12_comes_21 ?_
      refine x_iconst C.1 (n := 1) dX12_comes_22 ?_
      refine x_callSi C (As := [vI x3, vI 0, vI 1]) (rest := []) (m_in l D cy x3 ⟨by omega, by omega⟩ 0 ⟨by decide, by decide⟩ 1 ⟨by decide, by decide⟩) (l1 := []) (l2 := _) rfl (w2 := fun _ => _) (fun _ => rfl) rfl wm_yX12_in wn_X12 wl_X12_126 wi_yX12_in hd_yX12_in rfl ⟨Nat.le_of_ble_eq_true rfl, Nat.le_of_ble_eq_true rfl⟩ (Nat.le_of_ble_eq_true rfl) ⟨Nat.le_of_ble_eq_true rfl, Nat.le_of_ble_eq_true rfl⟩ dX12_comes_23 (fun z7 u7 bz7 h7 => ?_)
      obtain ⟨bq7, hx7_0, hFc7⟩ := h7
      replace hF := calR_i hF hFc7
      replace hF := hF.fc bq7
      refine x_if_eq C.1 (tgt := 37) dX12_comes_26 (by decide) (by omega) (fun hc8 => ?_) (fun hc8 => ?_)
      · replace hF := hF.to (if_pos hc8)
        refine x_ldc2 C.1 (n := -1) wq_X12_345 dX12_comes_37 ?_
        exact x_lret (S := xS) (post := (fun a (u : xS) => MS G u ∧ FBm 16 V u.1 ∧ (f_m_comes x1 x2 x3 V J Rr) (a, u))) (w1 := (fun u : xS => MW cy ad u.1 u.2.1 u.2.2)) (a := (-1)) C hr rfl dX12_comes_40 (by decide) (V, J, Rr) rfl ⟨⟨hI, hJ, hR⟩, hB, hF _ rfl⟩
      · replace hF := hF.to (if_neg hc8)
        have hon9 := Sq.on hx7_0 (by omega)
        refine x_iload_n C.1 dX12_comes_29 1 rfl ?_
        refine x_aload_n C.1 dX12_comes_30 0 rfl ?_
        obtain ⟨z10, ez10, bz10⟩ := hI.rd 0 4 (x := 0) (y := 220) rfl
        replace hF := hF.to (rdb_e (z := z10) ez10)
        replace hF := hF.fc bz10
        refine x_getI C (N := 33) (i := 0) (by decide) rfl vc_X12 wx_X12 4 (by decide) wf_X12_137 rfl dX12_comes_31 (a := z10) ez10 ?_
        refine x_icmp_le C.1 (tgt := 41) dX12_comes_34 (by decide) (by omega) (by omega) (fun hc11 => ?_) (fun hc11 => ?_)
        · replace hF := hF.to (if_pos hc11)
          refine x_aload_n C.1 dX12_comes_41 0 rfl ?_
          refine x_iconst C.1 (n := 0) dX12_comes_42 ?_
          refine x_putI C (N := 33) (i := 0) (by decide) rfl vc_X12 wx_X12 4 (by decide) wf_X12_137 tyX12 tyX12_ok nmX12 rfl (tyX12_ok 4 (by decide)) rfl dX12_comes_43 rfl rfl ?_
          refine x_gV ?_
          intro V12 hV12
          have hI12 : MI G V12 := hI.up hV12 rfl (by decide) rfl (Or.inl (by decide))
          have hB12 := hB.up hV12 rfl
          replace hF := hF.to (rdb_e (z := V12) hV12.symm)
          refine x_aload_n C.1 dX12_comes_46 0 rfl ?_
          refine x_iload_n C.1 dX12_comes_47 1 rfl ?_
          refine x_callVi C (As := [vI x1]) (rest := []) 0 (xw_at (N := 33) (i := 0) (by decide) rfl) vc_X12 (m_areTenths l D cy ad G V12 J Rr hI12 hJ hR x1 ⟨by omega, by omega⟩) (l1 := []) (l2 := []) (List.append_nil _).symm (w2 := fun _ => MW cy ad V12 J Rr) (fun _ => List.append_nil _) rfl wm_yX12_areTenths wn_X12 wl_X12_374 wi_yX12_areTenths we_yX12_areTenths hd_yX12_areTenths rfl ⟨Nat.le_of_ble_eq_true rfl, Nat.le_of_ble_eq_true rfl⟩ (Nat.le_of_ble_eq_true rfl) ⟨Nat.le_of_ble_eq_true rfl, Nat.le_of_ble_eq_true rfl⟩ dX12_comes_48 (fun z13 u13 bz13 h13 => ?_)
          obtain ⟨bq13, hFc13⟩ := h13
          replace hF := calR_i hF hFc13
          replace hF := hF.fc bq13
          refine x_if_ne C.1 (tgt := 58) dX12_comes_51 (by decide) (by omega) (fun hc14 => ?_) (fun hc14 => ?_)
          · replace hF := hF.to (if_pos hc14)
            refine x_aload_n C.1 dX12_comes_58 0 rfl ?_
            refine x_iload_n C.1 dX12_comes_59 1 rfl ?_
            refine x_callVv C (As := [vI x1]) (rest := []) 0 (xw_at (N := 33) (i := 0) (by decide) rfl) vc_X12 (m_laysComes l D cy ad G V12 J Rr hI12 hJ hR x1 ⟨by omega, by omega⟩) (l1 := []) (l2 := []) (List.append_nil _).symm (w2 := fun u : xS => MW cy ad u.1 u.2.1 u.2.2) (fun _ => List.append_nil _) rfl wm_yX12_laysComes wn_X12 wl_X12_379 wi_yX12_laysComes we_yX12_laysComes hd_yX12_laysComes rfl ⟨Nat.le_of_ble_eq_true rfl, Nat.le_of_ble_eq_true rfl⟩ (Nat.le_of_ble_eq_true rfl) ⟨Nat.le_of_ble_eq_true rfl, Nat.le_of_ble_eq_true rfl⟩ dX12_comes_60 (fun u15 h15 => ?_)
            obtain ⟨V15, J15, R15⟩ := u15
            obtain ⟨hS15, hBc15, hFc15⟩ := h15
            replace hF := calTM_i hF hFc15 hBc15
            have hB15 := hB12.tr hBc15 (m := 0) rfl
            obtain ⟨hI15, hJ15, hR15⟩ := hS15
            dsimp only at hI15 hJ15 hR15 ⊢
            refine x_aload_n C.1 dX12_comes_63 0 rfl ?_
            refine x_getA C (N := 33) (i := 0) (by decide) rfl vc_X12 wx_X12 45 (by decide) wf_X12_96 (a := 29) rfl dX12_comes_64 ?_
            refine x_iload_n C.1 dX12_comes_67 2 rfl ?_
            obtain ⟨z16, ez16, bz16⟩ := hJ15.rd 29 x2.toNat
            replace hF := hF.to (rdb_e (z := z16) ez16)
            refine x_lald C (N := 33) (i := 29) (q := x2) (by decide) rfl (by omega) (by decide) dX12_comes_68 (a := z16) ez16 ?_
            refine x_iload_n C.1 dX12_comes_69 1 rfl ?_
            refine x_callSl C (As := [vI x1]) (rest := [vJ z16]) (m_tens l D cy x1 ⟨by omega, by omega⟩) (l1 := []) (l2 := _) rfl (w2 := fun _ => _) (fun _ => rfl) rfl wm_yX12_tens wn_X12 wl_X12_328 wi_yX12_tens hd_yX12_tens rfl ⟨Nat.le_of_ble_eq_true rfl, Nat.le_of_ble_eq_true rfl⟩ (Nat.le_of_ble_eq_true rfl) ⟨Nat.le_of_ble_eq_true rfl, Nat.le_of_ble_eq_true rfl⟩ dX12_comes_70 (fun z17 u17 bz17 h17 => ?_)
            obtain ⟨bq17, hFc17⟩ := h17
            replace hF := calR_i hF hFc17
            replace hF := hF.fc bq17
            refine x_iload_n C.1 dX12_comes_73 3 rfl ?_
            refine x_callSl C (As := [vJ z16, vJ z17, vI x3]) (rest := []) (m_through l D cy z16 ⟨by omega, by omega⟩ z17 ⟨by omega, by omega⟩ x3 ⟨by omega, by omega⟩ (by omega)) (l1 := []) (l2 := _) rfl (w2 := fun _ => _) (fun _ => rfl) rfl wm_yX12_through wn_X12 wl_X12_382 wi_yX12_through hd_yX12_through rfl ⟨Nat.le_of_ble_eq_true rfl, Nat.le_of_ble_eq_true rfl⟩ (Nat.le_of_ble_eq_true rfl) ⟨Nat.le_of_ble_eq_true rfl, Nat.le_of_ble_eq_true rfl⟩ dX12_comes_74 (fun z18 u18 bz18 h18 => ?_)
            have hFc18 := h18
            replace hF := calR_i hF hFc18
            exact x_lret (S := xS) (post := (fun a (u : xS) => MS G u ∧ FBm 16 V u.1 ∧ (f_m_comes x1 x2 x3 V J Rr) (a, u))) (w1 := (fun u : xS => MW cy ad u.1 u.2.1 u.2.2)) (a := z18) C hr rfl dX12_comes_77 (by omega) (V15, J15, R15) rfl ⟨⟨hI15, hJ15, hR15⟩, hB15, hF _ rfl⟩
          · replace hF := hF.to (if_neg (fun hh => hh hc14))
            refine x_ldc2 C.1 (n := -2) wq_X12_377 dX12_comes_54 ?_
            exact x_lret (S := xS) (post := (fun a (u : xS) => MS G u ∧ FBm 16 V u.1 ∧ (f_m_comes x1 x2 x3 V J Rr) (a, u))) (w1 := (fun u : xS => MW cy ad u.1 u.2.1 u.2.2)) (a := (-2)) C hr rfl dX12_comes_57 (by decide) (V12, J, Rr) rfl ⟨⟨hI12, hJ, hR⟩, hB12, hF _ rfl⟩
        · replace hF := hF.to (if_neg hc11)
          refine x_ldc2 C.1 (n := -1) wq_X12_345 dX12_comes_37 ?_
          exact x_lret (S := xS) (post := (fun a (u : xS) => MS G u ∧ FBm 16 V u.1 ∧ (f_m_comes x1 x2 x3 V J Rr) (a, u))) (w1 := (fun u : xS => MW cy ad u.1 u.2.1 u.2.2)) (a := (-1)) C hr rfl dX12_comes_40 (by decide) (V, J, Rr) rfl ⟨⟨hI, hJ, hR⟩, hB, hF _ rfl⟩
theorem dX12_can_0 : decode cX12_can 0 = .ok (.iload_n 1, 1) := by decide +kernel
theorem dX12_can_1 : decode cX12_can 1 = .ok (.iconst 1, 1) := by decide +kernel
theorem dX12_can_2 : decode cX12_can 2 = .ok (.bipush 6, 2) := by decide +kernel
theorem dX12_can_4 : decode cX12_can 4 = .ok (.invokestatic 126, 3) := by decide +kernel
theorem dX12_can_7 : decode cX12_can 7 = .ok (.ifCond .eq 41, 3) := by decide +kernel
theorem dX12_can_10 : decode cX12_can 10 = .ok (.iload_n 2, 1) := by decide +kernel
theorem dX12_can_11 : decode cX12_can 11 = .ok (.iconst 1, 1) := by decide +kernel
theorem dX12_can_12 : decode cX12_can 12 = .ok (.bipush 9, 2) := by decide +kernel
theorem dX12_can_14 : decode cX12_can 14 = .ok (.invokestatic 126, 3) := by decide +kernel
theorem dX12_can_17 : decode cX12_can 17 = .ok (.ifCond .eq 31, 3) := by decide +kernel
theorem dX12_can_20 : decode cX12_can 20 = .ok (.iload_n 3, 1) := by decide +kernel
theorem dX12_can_21 : decode cX12_can 21 = .ok (.iconst 0, 1) := by decide +kernel
theorem dX12_can_22 : decode cX12_can 22 = .ok (.bipush 60, 2) := by decide +kernel
theorem dX12_can_24 : decode cX12_can 24 = .ok (.invokestatic 126, 3) := by decide +kernel
theorem dX12_can_27 : decode cX12_can 27 = .ok (.ifCond .eq 21, 3) := by decide +kernel
theorem dX12_can_30 : decode cX12_can 30 = .ok (.iload 4, 2) := by decide +kernel
theorem dX12_can_32 : decode cX12_can 32 = .ok (.iconst 0, 1) := by decide +kernel
theorem dX12_can_33 : decode cX12_can 33 = .ok (.iconst 1, 1) := by decide +kernel
theorem dX12_can_34 : decode cX12_can 34 = .ok (.invokestatic 126, 3) := by decide +kernel
theorem dX12_can_37 : decode cX12_can 37 = .ok (.ifCond .eq 11, 3) := by decide +kernel
theorem dX12_can_40 : decode cX12_can 40 = .ok (.iload_n 1, 1) := by decide +kernel
theorem dX12_can_41 : decode cX12_can 41 = .ok (.aload_n 0, 1) := by decide +kernel
theorem dX12_can_42 : decode cX12_can 42 = .ok (.getfield 137, 3) := by decide +kernel
theorem dX12_can_45 : decode cX12_can 45 = .ok (.if_icmp .le 7, 3) := by decide +kernel
theorem dX12_can_48 : decode cX12_can 48 = .ok (.ldc2_w 345, 3) := by decide +kernel
theorem dX12_can_51 : decode cX12_can 51 = .ok (.lreturn, 1) := by decide +kernel
theorem dX12_can_52 : decode cX12_can 52 = .ok (.aload_n 0, 1) := by decide +kernel
theorem dX12_can_53 : decode cX12_can 53 = .ok (.iconst 0, 1) := by decide +kernel
theorem dX12_can_54 : decode cX12_can 54 = .ok (.putfield 137, 3) := by decide +kernel
theorem dX12_can_57 : decode cX12_can 57 = .ok (.aload_n 0, 1) := by decide +kernel
theorem dX12_can_58 : decode cX12_can 58 = .ok (.iload_n 1, 1) := by decide +kernel
theorem dX12_can_59 : decode cX12_can 59 = .ok (.invokevirtual 374, 3) := by decide +kernel
theorem dX12_can_62 : decode cX12_can 62 = .ok (.ifCond .ne 7, 3) := by decide +kernel
theorem dX12_can_65 : decode cX12_can 65 = .ok (.ldc2_w 377, 3) := by decide +kernel
theorem dX12_can_68 : decode cX12_can 68 = .ok (.lreturn, 1) := by decide +kernel
theorem dX12_can_69 : decode cX12_can 69 = .ok (.aload_n 0, 1) := by decide +kernel
theorem dX12_can_70 : decode cX12_can 70 = .ok (.iload_n 1, 1) := by decide +kernel
theorem dX12_can_71 : decode cX12_can 71 = .ok (.invokevirtual 379, 3) := by decide +kernel
theorem dX12_can_74 : decode cX12_can 74 = .ok (.lconst 0, 1) := by decide +kernel
theorem dX12_can_75 : decode cX12_can 75 = .ok (.lstore 5, 2) := by decide +kernel
theorem dX12_can_77 : decode cX12_can 77 = .ok (.iconst 1, 1) := by decide +kernel
theorem dX12_can_78 : decode cX12_can 78 = .ok (.istore 7, 2) := by decide +kernel
theorem dX12_can_80 : decode cX12_can 80 = .ok (.iload 7, 2) := by decide +kernel
theorem dX12_can_82 : decode cX12_can 82 = .ok (.iload_n 1, 1) := by decide +kernel
theorem dX12_can_83 : decode cX12_can 83 = .ok (.if_icmp .gt 41, 3) := by decide +kernel
theorem dX12_can_86 : decode cX12_can 86 = .ok (.lload 5, 2) := by decide +kernel
theorem dX12_can_88 : decode cX12_can 88 = .ok (.aload_n 0, 1) := by decide +kernel
theorem dX12_can_89 : decode cX12_can 89 = .ok (.getfield 96, 3) := by decide +kernel
theorem dX12_can_92 : decode cX12_can 92 = .ok (.iload 7, 2) := by decide +kernel
theorem dX12_can_94 : decode cX12_can 94 = .ok (.laload, 1) := by decide +kernel
theorem dX12_can_95 : decode cX12_can 95 = .ok (.iconst 0, 1) := by decide +kernel
theorem dX12_can_96 : decode cX12_can 96 = .ok (.iload_n 2, 1) := by decide +kernel
theorem dX12_can_97 : decode cX12_can 97 = .ok (.iload 7, 2) := by decide +kernel
theorem dX12_can_99 : decode cX12_can 99 = .ok (.imul, 1) := by decide +kernel
theorem dX12_can_100 : decode cX12_can 100 = .ok (.iload_n 3, 1) := by decide +kernel
theorem dX12_can_101 : decode cX12_can 101 = .ok (.isub, 1) := by decide +kernel
theorem dX12_can_102 : decode cX12_can 102 = .ok (.invokestatic 272, 3) := by decide +kernel
theorem dX12_can_105 : decode cX12_can 105 = .ok (.iconst 0, 1) := by decide +kernel
theorem dX12_can_106 : decode cX12_can 106 = .ok (.iload_n 2, 1) := by decide +kernel
theorem dX12_can_107 : decode cX12_can 107 = .ok (.iload_n 3, 1) := by decide +kernel
theorem dX12_can_108 : decode cX12_can 108 = .ok (.isub, 1) := by decide +kernel
theorem dX12_can_109 : decode cX12_can 109 = .ok (.invokestatic 272, 3) := by decide +kernel
theorem dX12_can_112 : decode cX12_can 112 = .ok (.isub, 1) := by decide +kernel
theorem dX12_can_113 : decode cX12_can 113 = .ok (.i2l, 1) := by decide +kernel
theorem dX12_can_114 : decode cX12_can 114 = .ok (.lmul, 1) := by decide +kernel
theorem dX12_can_115 : decode cX12_can 115 = .ok (.ladd, 1) := by decide +kernel
theorem dX12_can_116 : decode cX12_can 116 = .ok (.lstore 5, 2) := by decide +kernel
theorem dX12_can_118 : decode cX12_can 118 = .ok (.iinc 7 1, 3) := by decide +kernel
theorem dX12_can_121 : decode cX12_can 121 = .ok (.goto (-41), 3) := by decide +kernel
theorem dX12_can_124 : decode cX12_can 124 = .ok (.lload 5, 2) := by decide +kernel
theorem dX12_can_126 : decode cX12_can 126 = .ok (.iload_n 1, 1) := by decide +kernel
theorem dX12_can_127 : decode cX12_can 127 = .ok (.invokestatic 328, 3) := by decide +kernel
theorem dX12_can_130 : decode cX12_can 130 = .ok (.iload 4, 2) := by decide +kernel
theorem dX12_can_132 : decode cX12_can 132 = .ok (.invokestatic 382, 3) := by decide +kernel
theorem dX12_can_135 : decode cX12_can 135 = .ok (.lreturn, 1) := by decide +kernel
set_option maxRecDepth 100000 in
def f_m_can (x1 : Int) (x2 : Int) (x3 : Int) (x4 : Int) (V : Nat → Nat → Int) (J : Nat → Nat → Int) (Rr : Nat → Nat → Nat) : (Int × xS) → Prop :=
  calR (f_m_in x1 1 6) fun z1 => fct (0 ≤ z1 ∧ z1 ≤ 1) <| (if z1 = 0 then rtn ((-1), (V, J, Rr)) else calR (f_m_in x2 1 9) fun z4 => fct (0 ≤ z4 ∧ z4 ≤ 1) <| (if z4 = 0 then rtn ((-1), (V, J, Rr)) else calR (f_m_in x3 0 60) fun z7 => fct (0 ≤ z7 ∧ z7 ≤ 1) <| (if z7 = 0 then rtn ((-1), (V, J, Rr)) else calR (f_m_in x4 0 1) fun z10 => fct (0 ≤ z10 ∧ z10 ≤ 1) <| (if z10 = 0 then rtn ((-1), (V, J, Rr)) else rdb (V 0 4) fun z13 => fct (0 ≤ z13 ∧ z13 ≤ 220) <| (if x1 ≤ z13 then rdb (up2 V 0 4 0) fun V15 => calR (f_m_areTenths x1 V15 J Rr) fun z16 => fct (0 ≤ z16 ∧ z16 ≤ 1) <| (if ¬ z16 = 0 then calTM 0 V15 (f_m_laysComes x1 V15 J Rr) fun V18 J18 R18 => lop2 (8) (fun rc132 (z130 : Int) (z131 : Int) => (if x1 < z130 then calR (f_m_tens x1) fun z161 => fct (1 ≤ z161 ∧ z161 ≤ 1000000000000000000) <| calR (f_m_through z131 z161 x4) fun z162 => rtn (z162, (V18, J18, R18)) else rdb (J18 29 z130.toNat) fun z163 => rdb (x2 * z130) fun z164 => fct (0 ≤ z164 ∧ z164 ≤ 54) <| calR (f_m_max 0 (z164 - x3)) fun z165 => calR (f_m_max 0 (x2 - x3)) fun z167 => rdb (wrJ (z163 * (z165 - z167))) fun z169 => rdb (wrJ (z131 + z169)) fun z170 => rc132 (z130 + 1) z170)) 1 0 else rtn ((-2), (V15, J, Rr))) else rtn ((-1), (V, J, Rr)))))))
set_option maxHeartbeats 8000000 in
set_option maxRecDepth 100000 in
theorem m_can (l : Launch) (D : va_G) (cy : Nat → ClassId) (ad : Nat → Nat) (G : Nat → Nat → Int) (V J : Nat → Nat → Int) (Rr : Nat → Nat → Nat) (hI : MI G V) (hJ : VJ J) (hR : MR Rr) (x1 : Int) (bx1 : -2147483648 ≤ x1 ∧ x1 ≤ 2147483647) (x2 : Int) (bx2 : -2147483648 ≤ x2 ∧ x2 ≤ 2147483647) (x3 : Int) (bx3 : -2147483648 ≤ x3 ∧ x3 ≤ 2147483647) (x4 : Int) (bx4 : -2147483648 ≤ x4 ∧ x4 ≤ 2147483647) : xMl l D (xTY cy) yX12_can cX12_can 8 (some .long) 2 55 0 0 [.ref (ad 0), vI x1, vI x2, vI x3, vI x4] (MW cy ad V J Rr) (fun u : xS => MW cy ad u.1 u.2.1 u.2.2) (fun a (u : xS) => MS G u ∧ FBm 16 V u.1 ∧ (f_m_can x1 x2 x3 x4 V J Rr) (a, u)) := by
  refine xMl.mk (lv0 := [(0, .ref (ad 0)), (1, vI x1), (2, vI x2), (3, vI x3), (4, vI x4)]) (by decide) rfl (Nat.le_of_ble_eq_true rfl) (fun p e s m below meth c A C hr hnm hAe => ?_)
  have C : xC2 p s m _ meth c D A s.heap 8 cX12_can RX12 (xTY cy) := C
  have hB : FBm 16 V V := FBm.rf _ _
  have hF := Imp.of_eq (f_m_can.eq_def x1 x2 x3 x4 V J Rr)
  refine x_iload_n C.1 dX12_can_0 1 rfl ?_
  refine x_iconst C.1 (n := 1) dX12_can_1 ?_
  refine x_bipush C.1 (n := 6) dX12_can_2 ?_
  refine x_callSi C (As := [vI x1, vI 1, vI 6]) (rest := []) (m_in l D cy x1 ⟨by omega, by omega⟩ 1 ⟨by decide, by decide⟩ 6 ⟨by decide, by decide⟩) (l1 := []) (l2 := _) rfl (w2 := fun _ => _) (fun _ => rfl) rfl wm_yX12_in wn_X12 wl_X12_126 wi_yX12_in hd_yX12_in rfl ⟨Nat.le_of_ble_eq_true rfl, Nat.le_of_ble_eq_true rfl⟩ (Nat.le_of_ble_eq_true rfl) ⟨Nat.le_of_ble_eq_true rfl, Nat.le_of_ble_eq_true rfl⟩ dX12_can_4 (fun z1 u1 bz1 h1 => ?_)
  obtain ⟨bq1, hx1_0, hFc1⟩ := h1
  replace hF := calR_i hF hFc1
  replace hF := hF.fc bq1
  refine x_if_eq C.1 (tgt := 48) dX12_can_7 (by decide) (by omega) (fun hc2 => ?_) (fun hc2 => ?_)
  · replace hF := hF.to (if_pos hc2)
    refine x_ldc2 C.1 (n := -1) wq_X12_345 dX12_can_48 ?_
    exact x_lret (S := xS) (post := (fun a (u : xS) => MS G u ∧ FBm 16 V u.1 ∧ (f_m_can x1 x2 x3 x4 V J Rr) (a, u))) (w1 := (fun u : xS => MW cy ad u.1 u.2.1 u.2.2)) (a := (-1)) C hr rfl dX12_can_51 (by decide) (V, J, Rr) rfl ⟨⟨hI, hJ, hR⟩, hB, hF _ rfl⟩
  · replace hF := hF.to (if_neg hc2)
    have hon3 := Sq.on hx1_0 (by omega)
    refine x_iload_n C.1 dX12_can_10 2 rfl ?_
    refine x_iconst C.1 (n := 1) dX12_can_11 ?_
    refine x_bipush C.1 (n := 9) dX12_can_12 ?_
    refine x_callSi C (As := [vI x2, vI 1, vI 9]) (rest := []) (m_in l D cy x2 ⟨by omega, by omega⟩ 1 ⟨by decide, by decide⟩ 9 ⟨by decide, by decide⟩) (l1 := []) (l2 := _) rfl (w2 := fun _ => _) (fun _ => rfl) rfl wm_yX12_in wn_X12 wl_X12_126 wi_yX12_in hd_yX12_in rfl ⟨Nat.le_of_ble_eq_true rfl, Nat.le_of_ble_eq_true rfl⟩ (Nat.le_of_ble_eq_true rfl) ⟨Nat.le_of_ble_eq_true rfl, Nat.le_of_ble_eq_true rfl⟩ dX12_can_14 (fun z4 u4 bz4 h4 => ?_)
    obtain ⟨bq4, hx4_0, hFc4⟩ := h4
    replace hF := calR_i hF hFc4
    replace hF := hF.fc bq4
    refine x_if_eq C.1 (tgt := 48) dX12_can_17 (by decide) (by omega) (fun hc5 => ?_) (fun hc5 => ?_)
    · replace hF := hF.to (if_pos hc5)
      refine x_ldc2 C.1 (n := -1) wq_X12_345 dX12_can_48 ?_
      exact x_lret (S := xS) (post := (fun a (u : xS) => MS G u ∧ FBm 16 V u.1 ∧ (f_m_can x1 x2 x3 x4 V J Rr) (a, u))) (w1 := (fun u : xS => MW cy ad u.1 u.2.1 u.2.2)) (a := (-1)) C hr rfl dX12_can_51 (by decide) (V, J, Rr) rfl ⟨⟨hI, hJ, hR⟩, hB, hF _ rfl⟩
    · replace hF := hF.to (if_neg hc5)
      have hon6 := Sq.on hx4_0 (by omega)
      refine x_iload_n C.1 dX12_can_20 3 rfl ?_
      refine x_iconst C.1 (n := 0) dX12_can_21 ?_
      refine x_bipush C.1 (n := 60) dX12_can_22 ?_
      refine x_callSi C (As := [vI x3, vI 0, vI 60]) (rest := []) (m_in l D cy x3 ⟨by omega, by omega⟩ 0 ⟨by decide, by decide⟩ 60 ⟨by decide, by decide⟩) (l1 := []) (l2 := _) rfl (w2 := fun _ => _) (fun _ => rfl) rfl wm_yX12_in wn_X12 wl_X12_126 wi_yX12_in hd_yX12_in rfl ⟨Nat.le_of_ble_eq_true rfl, Nat.le_of_ble_eq_true rfl⟩ (Nat.le_of_ble_eq_true rfl) ⟨Nat.le_of_ble_eq_true rfl, Nat.le_of_ble_eq_true rfl⟩ dX12_can_24 (fun z7 u7 bz7 h7 => ?_)
      obtain ⟨bq7, hx7_0, hFc7⟩ := h7
      replace hF := calR_i hF hFc7
      replace hF := hF.fc bq7
      refine x_if_eq C.1 (tgt := 48) dX12_can_27 (by decide) (by omega) (fun hc8 => ?_) (fun hc8 => ?_)
      · replace hF := hF.to (if_pos hc8)
        refine x_ldc2 C.1 (n := -1) wq_X12_345 dX12_can_48 ?_
        exact x_lret (S := xS) (post := (fun a (u : xS) => MS G u ∧ FBm 16 V u.1 ∧ (f_m_can x1 x2 x3 x4 V J Rr) (a, u))) (w1 := (fun u : xS => MW cy ad u.1 u.2.1 u.2.2)) (a := (-1)) C hr rfl dX12_can_51 (by decide) (V, J, Rr) rfl ⟨⟨hI, hJ, hR⟩, hB, hF _ rfl⟩
      · replace hF := hF.to (if_neg hc8)
        have hon9 := Sq.on hx7_0 (by omega)
        refine x_iload C.1 dX12_can_30 4 rfl ?_
        refine x_iconst C.1 (n := 0) dX12_can_32 ?_
        refine x_iconst C.1 (n := 1) dX12_can_33 ?_
        refine x_callSi C (As := [vI x4, vI 0, vI 1]) (rest := []) (m_in l D cy x4 ⟨by omega, by omega⟩ 0 ⟨by decide, by decide⟩ 1 ⟨by decide, by decide⟩) (l1 := []) (l2 := _) rfl (w2 := fun _ => _) (fun _ => rfl) rfl wm_yX12_in wn_X12 wl_X12_126 wi_yX12_in hd_yX12_in rfl ⟨Nat.le_of_ble_eq_true rfl, Nat.le_of_ble_eq_true rfl⟩ (Nat.le_of_ble_eq_true rfl) ⟨Nat.le_of_ble_eq_true rfl, Nat.le_of_ble_eq_true rfl⟩ dX12_can_34 (fun z10 u10 bz10 h10 => ?_)
        obtain ⟨bq10, hx10_0, hFc10⟩ := h10
        replace hF := calR_i hF hFc10
        replace hF := hF.fc bq10
        refine x_if_eq C.1 (tgt := 48) dX12_can_37 (by decide) (by omega) (fun hc11 => ?_) (fun hc11 => ?_)
        · replace hF := hF.to (if_pos hc11)
          refine x_ldc2 C.1 (n := -1) wq_X12_345 dX12_can_48 ?_
          exact x_lret (S := xS) (post := (fun a (u : xS) => MS G u ∧ FBm 16 V u.1 ∧ (f_m_can x1 x2 x3 x4 V J Rr) (a, u))) (w1 := (fun u : xS => MW cy ad u.1 u.2.1 u.2.2)) (a := (-1)) C hr rfl dX12_can_51 (by decide) (V, J, Rr) rfl ⟨⟨hI, hJ, hR⟩, hB, hF _ rfl⟩
        · replace hF := hF.to (if_neg hc11)
          have hon12 := Sq.on hx10_0 (by omega)
          refine x_iload_n C.1 dX12_can_40 1 rfl ?_
          refine x_aload_n C.1 dX12_can_41 0 rfl ?_
          obtain ⟨z13, ez13, bz13⟩ := hI.rd 0 4 (x := 0) (y := 220) rfl
          replace hF := hF.to (rdb_e (z := z13) ez13)
          replace hF := hF.fc bz13
          refine x_getI C (N := 33) (i := 0) (by decide) rfl vc_X12 wx_X12 4 (by decide) wf_X12_137 rfl dX12_can_42 (a := z13) ez13 ?_
          refine x_icmp_le C.1 (tgt := 52) dX12_can_45 (by decide) (by omega) (by omega) (fun hc14 => ?_) (fun hc14 => ?_)
          · replace hF := hF.to (if_pos hc14)
            refine x_aload_n C.1 dX12_can_52 0 rfl ?_
            refine x_iconst C.1 (n := 0) dX12_can_53 ?_
            refine x_putI C (N := 33) (i := 0) (by decide) rfl vc_X12 wx_X12 4 (by decide) wf_X12_137 tyX12 tyX12_ok nmX12 rfl (tyX12_ok 4 (by decide)) rfl dX12_can_54 rfl rfl ?_
            refine x_gV ?_
            intro V15 hV15
            have hI15 : MI G V15 := hI.up hV15 rfl (by decide) rfl (Or.inl (by decide))
            have hB15 := hB.up hV15 rfl
            replace hF := hF.to (rdb_e (z := V15) hV15.symm)
            refine x_aload_n C.1 dX12_can_57 0 rfl ?_
            refine x_iload_n C.1 dX12_can_58 1 rfl ?_
            refine x_callVi C (As := [vI x1]) (rest := []) 0 (xw_at (N := 33) (i := 0) (by decide) rfl) vc_X12 (m_areTenths l D cy ad G V15 J Rr hI15 hJ hR x1 ⟨by omega, by omega⟩) (l1 := []) (l2 := []) (List.append_nil _).symm (w2 := fun _ => MW cy ad V15 J Rr) (fun _ => List.append_nil _) rfl wm_yX12_areTenths wn_X12 wl_X12_374 wi_yX12_areTenths we_yX12_areTenths hd_yX12_areTenths rfl ⟨Nat.le_of_ble_eq_true rfl, Nat.le_of_ble_eq_true rfl⟩ (Nat.le_of_ble_eq_true rfl) ⟨Nat.le_of_ble_eq_true rfl, Nat.le_of_ble_eq_true rfl⟩ dX12_can_59 (fun z16 u16 bz16 h16 => ?_)
            obtain ⟨bq16, hFc16⟩ := h16
            replace hF := calR_i hF hFc16
            replace hF := hF.fc bq16
            refine x_if_ne C.1 (tgt := 69) dX12_can_62 (by decide) (by omega) (fun hc17 => ?_) (fun hc17 => ?_)
            · replace hF := hF.to (if_pos hc17)
              refine x_aload_n C.1 dX12_can_69 0 rfl ?_
              refine x_iload_n C.1 dX12_can_70 1 rfl ?_
              refine x_callVv C (As := [vI x1]) (rest := []) 0 (xw_at (N := 33) (i := 0) (by decide) rfl) vc_X12 (m_laysComes l D cy ad G V15 J Rr hI15 hJ hR x1 ⟨by omega, by omega⟩) (l1 := []) (l2 := []) (List.append_nil _).symm (w2 := fun u : xS => MW cy ad u.1 u.2.1 u.2.2) (fun _ => List.append_nil _) rfl wm_yX12_laysComes wn_X12 wl_X12_379 wi_yX12_laysComes we_yX12_laysComes hd_yX12_laysComes rfl ⟨Nat.le_of_ble_eq_true rfl, Nat.le_of_ble_eq_true rfl⟩ (Nat.le_of_ble_eq_true rfl) ⟨Nat.le_of_ble_eq_true rfl, Nat.le_of_ble_eq_true rfl⟩ dX12_can_71 (fun u18 h18 => ?_)
              obtain ⟨V18, J18, R18⟩ := u18
              obtain ⟨hS18, hBc18, hFc18⟩ := h18
              replace hF := calTM_i hF hFc18 hBc18
              have hB18 := hB15.tr hBc18 (m := 0) rfl
              obtain ⟨hI18, hJ18, hR18⟩ := hS18
              dsimp only at hI18 hJ18 hR18 ⊢
              refine x_lconst0 C.1 dX12_can_74 ?_
              refine x_lstore C.1 (lv' := [(5, vJ 0), (0, .ref (ad 0)), (1, vI x1), (2, vI x2), (3, vI x3), (4, vI x4)]) dX12_can_75 (by decide) rfl ?_
              refine x_iconst C.1 (n := 1) dX12_can_77 ?_
              refine x_istore C.1 (lv' := [(7, vI 1), (5, vJ 0), (0, .ref (ad 0)), (1, vI x1), (2, vI x2), (3, vI x3), (4, vI x4)]) dX12_can_78 (by decide) rfl ?_
              obtain ⟨bd132, hbd132, hF⟩ := lop2_ex hF
              refine x_loop (I := fun x : Int × Int => match x with | (z130, z131) => (1 ≤ z130 ∧ z130 ≤ 7) ∧ (-9223372036854775808 ≤ z131 ∧ z131 ≤ 9223372036854775807) ∧ (∃ nf : Nat, (8 - z130).toNat < nf ∧ Imp (lop2 nf bd132 z130 z131) (f_m_can x1 x2 x3 x4 V J Rr))) (μ := fun x : Int × Int => match x with | (z130, z131) => (8 - z130).toNat) (wsf := fun x : Int × Int => match x with | (z130, z131) => MW cy ad V18 J18 R18) (lvf := fun x : Int × Int => match x with | (z130, z131) => [(7, vI z130), (5, vJ z131), (0, .ref (ad 0)), (1, vI x1), (2, vI x2), (3, vI x3), (4, vI x4)]) (fun x hI132x ih132 => ?_) (1, 0) ⟨⟨by decide, by decide⟩, ⟨by decide, by decide⟩, ⟨_, (by omega), hF⟩⟩ rfl rfl
              obtain ⟨z130, z131⟩ := x
              obtain ⟨bz130, bz131, nf132, hn132, hF⟩ := hI132x
              try dsimp only
              obtain ⟨nf132, rfl⟩ : ∃ mm, nf132 = mm + 1 := ⟨nf132 - 1, (Nat.succ_pred_eq_of_pos (Nat.lt_of_le_of_lt (Nat.zero_le _) hn132)).symm⟩
              replace hF := hF.to (lop2_s hbd132)
              refine x_iload C.1 dX12_can_80 0 rfl ?_
              refine x_iload_n C.1 dX12_can_82 3 rfl ?_
              refine x_icmp_gt C.1 (tgt := 124) dX12_can_83 (by decide) (by omega) (by omega) (fun hc160 => ?_) (fun hc160 => ?_)
              · replace hF := hF.to (if_pos hc160)
                refine x_lload C.1 dX12_can_124 1 rfl ?_
                refine x_iload_n C.1 dX12_can_126 3 rfl ?_
                refine x_callSl C (As := [vI x1]) (rest := [vJ z131]) (m_tens l D cy x1 ⟨by omega, by omega⟩) (l1 := []) (l2 := _) rfl (w2 := fun _ => _) (fun _ => rfl) rfl wm_yX12_tens wn_X12 wl_X12_328 wi_yX12_tens hd_yX12_tens rfl ⟨Nat.le_of_ble_eq_true rfl, Nat.le_of_ble_eq_true rfl⟩ (Nat.le_of_ble_eq_true rfl) ⟨Nat.le_of_ble_eq_true rfl, Nat.le_of_ble_eq_true rfl⟩ dX12_can_127 (fun z161 u161 bz161 h161 => ?_)
                obtain ⟨bq161, hFc161⟩ := h161
                replace hF := calR_i hF hFc161
                replace hF := hF.fc bq161
                refine x_iload C.1 dX12_can_130 6 rfl ?_
                refine x_callSl C (As := [vJ z131, vJ z161, vI x4]) (rest := []) (m_through l D cy z131 ⟨by omega, by omega⟩ z161 ⟨by omega, by omega⟩ x4 ⟨by omega, by omega⟩ (by omega)) (l1 := []) (l2 := _) rfl (w2 := fun _ => _) (fun _ => rfl) rfl wm_yX12_through wn_X12 wl_X12_382 wi_yX12_through hd_yX12_through rfl ⟨Nat.le_of_ble_eq_true rfl, Nat.le_of_ble_eq_true rfl⟩ (Nat.le_of_ble_eq_true rfl) ⟨Nat.le_of_ble_eq_true rfl, Nat.le_of_ble_eq_true rfl⟩ dX12_can_132 (fun z162 u162 bz162 h162 => ?_)
                have hFc162 := h162
                replace hF := calR_i hF hFc162
                exact x_lret (S := xS) (post := (fun a (u : xS) => MS G u ∧ FBm 16 V u.1 ∧ (f_m_can x1 x2 x3 x4 V J Rr) (a, u))) (w1 := (fun u : xS => MW cy ad u.1 u.2.1 u.2.2)) (a := z162) C hr rfl dX12_can_135 (by omega) (V18, J18, R18) rfl ⟨⟨hI18, hJ18, hR18⟩, hB18, hF _ rfl⟩
              · replace hF := hF.to (if_neg hc160)
                refine x_lload C.1 dX12_can_86 1 rfl ?_
                refine x_aload_n C.1 dX12_can_88 2 rfl ?_
                refine x_getA C (N := 33) (i := 0) (by decide) rfl vc_X12 wx_X12 45 (by decide) wf_X12_96 (a := 29) rfl dX12_can_89 ?_
                refine x_iload C.1 dX12_can_92 0 rfl ?_
                obtain ⟨z163, ez163, bz163⟩ := hJ18.rd 29 z130.toNat
                replace hF := hF.to (rdb_e (z := z163) ez163)
                refine x_lald C (N := 33) (i := 29) (q := z130) (by decide) rfl (by omega) (by decide) dX12_can_94 (a := z163) ez163 ?_
                refine x_iconst C.1 (n := 0) dX12_can_95 ?_
                refine x_iload_n C.1 dX12_can_96 4 rfl ?_
                refine x_iload C.1 dX12_can_97 0 rfl ?_
                obtain ⟨z164, hz164, bz164⟩ := mulB (x := x2) (y := z130) (A := 9) (B := 6) (by omega) (by omega)
                replace hF := hF.to (rdb_e (z := z164) hz164)
                replace hF := hF.fc bz164
                refine x_imul C.1 (v := z164) hz164 dX12_can_99 ?_
                refine x_iload_n C.1 dX12_can_100 5 rfl ?_
                refine x_isub C.1 (v := z164 - x3) (by omega) dX12_can_101 ?_
                refine x_callSi C (As := [vI 0, vI (z164 - x3)]) (rest := [vJ z163, vJ z131]) (m_max l D cy 0 ⟨by decide, by decide⟩ (z164 - x3) ⟨by omega, by omega⟩) (l1 := []) (l2 := _) rfl (w2 := fun _ => _) (fun _ => rfl) rfl wm_yX12_max wn_X12 wl_X12_272 wi_yX12_max hd_yX12_max rfl ⟨Nat.le_of_ble_eq_true rfl, Nat.le_of_ble_eq_true rfl⟩ (Nat.le_of_ble_eq_true rfl) ⟨Nat.le_of_ble_eq_true rfl, Nat.le_of_ble_eq_true rfl⟩ dX12_can_102 (fun z165 u165 bz165 h165 => ?_)
                obtain ⟨hx165_0, hFc165⟩ := h165
                replace hF := calR_i hF hFc165
                have bm166 : 0 ≤ z165 ∧ z165 ≤ 54 := by omega
                skip
                refine x_iconst C.1 (n := 0) dX12_can_105 ?_
                refine x_iload_n C.1 dX12_can_106 4 rfl ?_
                refine x_iload_n C.1 dX12_can_107 5 rfl ?_
                refine x_isub C.1 (v := x2 - x3) (by omega) dX12_can_108 ?_
                refine x_callSi C (As := [vI 0, vI (x2 - x3)]) (rest := [vI z165, vJ z163, vJ z131]) (m_max l D cy 0 ⟨by decide, by decide⟩ (x2 - x3) ⟨by omega, by omega⟩) (l1 := []) (l2 := _) rfl (w2 := fun _ => _) (fun _ => rfl) rfl wm_yX12_max wn_X12 wl_X12_272 wi_yX12_max hd_yX12_max rfl ⟨Nat.le_of_ble_eq_true rfl, Nat.le_of_ble_eq_true rfl⟩ (Nat.le_of_ble_eq_true rfl) ⟨Nat.le_of_ble_eq_true rfl, Nat.le_of_ble_eq_true rfl⟩ dX12_can_109 (fun z167 u167 bz167 h167 => ?_)
                obtain ⟨hx167_0, hFc167⟩ := h167
                replace hF := calR_i hF hFc167
                have bm168 : 0 ≤ z167 ∧ z167 ≤ 9 := by omega
                skip
                refine x_isub C.1 (v := z165 - z167) (by omega) dX12_can_112 ?_
                refine x_i2l C.1 dX12_can_113 (by omega) ?_
                refine x_lmul C.1 rfl dX12_can_114 ?_
                refine x_wrapJg ?_
                intro z169 bz169 ew169
                replace hF := hF.to (rdb_e (z := z169) ew169.symm)
                refine x_ladd C.1 (v := z131 + z169) (by omega) dX12_can_115 ?_
                refine x_wrapJg ?_
                intro z170 bz170 ew170
                replace hF := hF.to (rdb_e (z := z170) ew170.symm)
                refine x_lstore C.1 (lv' := [(5, vJ z170), (7, vI z130), (0, .ref (ad 0)), (1, vI x1), (2, vI x2), (3, vI x3), (4, vI x4)]) dX12_can_116 (by decide) rfl ?_
                refine x_iinc C.1 (v := z130 + 1) (lv' := [(7, vI (z130 + 1)), (5, vJ z170), (0, .ref (ad 0)), (1, vI x1), (2, vI x2), (3, vI x3), (4, vI x4)]) (by omega) dX12_can_118 1 rfl (by decide) rfl ?_
                refine x_goto C.1 (tgt := 80) dX12_can_121 (by decide) ?_
                have hmu132 : (8 - (z130 + 1)).toNat < (8 - z130).toNat := (by omega)
                exact ih132 (z130 + 1, z170) ⟨⟨by omega, by omega⟩, ⟨by omega, by omega⟩, ⟨nf132, Nat.lt_of_lt_of_le hmu132 (Nat.le_of_lt_succ hn132), hF⟩⟩ hmu132
            · replace hF := hF.to (if_neg (fun hh => hh hc17))
              refine x_ldc2 C.1 (n := -2) wq_X12_377 dX12_can_65 ?_
              exact x_lret (S := xS) (post := (fun a (u : xS) => MS G u ∧ FBm 16 V u.1 ∧ (f_m_can x1 x2 x3 x4 V J Rr) (a, u))) (w1 := (fun u : xS => MW cy ad u.1 u.2.1 u.2.2)) (a := (-2)) C hr rfl dX12_can_68 (by decide) (V15, J, Rr) rfl ⟨⟨hI15, hJ, hR⟩, hB15, hF _ rfl⟩
          · replace hF := hF.to (if_neg hc14)
            refine x_ldc2 C.1 (n := -1) wq_X12_345 dX12_can_48 ?_
            exact x_lret (S := xS) (post := (fun a (u : xS) => MS G u ∧ FBm 16 V u.1 ∧ (f_m_can x1 x2 x3 x4 V J Rr) (a, u))) (w1 := (fun u : xS => MW cy ad u.1 u.2.1 u.2.2)) (a := (-1)) C hr rfl dX12_can_51 (by decide) (V, J, Rr) rfl ⟨⟨hI, hJ, hR⟩, hB, hF _ rfl⟩
theorem dX12_keep_0 : decode cX12_keep 0 = .ok (.aload_n 0, 1) := by decide +kernel
theorem dX12_keep_1 : decode cX12_keep 1 = .ok (.iconst 1, 1) := by decide +kernel
theorem dX12_keep_2 : decode cX12_keep 2 = .ok (.putfield 417, 3) := by decide +kernel
theorem dX12_keep_5 : decode cX12_keep 5 = .ok (.aload_n 0, 1) := by decide +kernel
theorem dX12_keep_6 : decode cX12_keep 6 = .ok (.getfield 7, 3) := by decide +kernel
theorem dX12_keep_9 : decode cX12_keep 9 = .ok (.aload_n 0, 1) := by decide +kernel
theorem dX12_keep_10 : decode cX12_keep 10 = .ok (.getfield 16, 3) := by decide +kernel
theorem dX12_keep_13 : decode cX12_keep 13 = .ok (.invokestatic 294, 3) := by decide +kernel
theorem dX12_keep_16 : decode cX12_keep 16 = .ok (.iconst 0, 1) := by decide +kernel
theorem dX12_keep_17 : decode cX12_keep 17 = .ok (.istore_n 1, 1) := by decide +kernel
theorem dX12_keep_18 : decode cX12_keep 18 = .ok (.iconst 0, 1) := by decide +kernel
theorem dX12_keep_19 : decode cX12_keep 19 = .ok (.istore_n 2, 1) := by decide +kernel
theorem dX12_keep_20 : decode cX12_keep 20 = .ok (.iload_n 2, 1) := by decide +kernel
theorem dX12_keep_21 : decode cX12_keep 21 = .ok (.iconst 4, 1) := by decide +kernel
theorem dX12_keep_22 : decode cX12_keep 22 = .ok (.if_icmp .ge 32, 3) := by decide +kernel
theorem dX12_keep_25 : decode cX12_keep 25 = .ok (.iload_n 1, 1) := by decide +kernel
theorem dX12_keep_26 : decode cX12_keep 26 = .ok (.aload_n 0, 1) := by decide +kernel
theorem dX12_keep_27 : decode cX12_keep 27 = .ok (.iload_n 2, 1) := by decide +kernel
theorem dX12_keep_28 : decode cX12_keep 28 = .ok (.invokevirtual 122, 3) := by decide +kernel
theorem dX12_keep_31 : decode cX12_keep 31 = .ok (.ifCond .eq 14, 3) := by decide +kernel
theorem dX12_keep_34 : decode cX12_keep 34 = .ok (.aload_n 0, 1) := by decide +kernel
theorem dX12_keep_35 : decode cX12_keep 35 = .ok (.getfield 7, 3) := by decide +kernel
theorem dX12_keep_38 : decode cX12_keep 38 = .ok (.iconst 4, 1) := by decide +kernel
theorem dX12_keep_39 : decode cX12_keep 39 = .ok (.iload_n 2, 1) := by decide +kernel
theorem dX12_keep_40 : decode cX12_keep 40 = .ok (.iadd, 1) := by decide +kernel
theorem dX12_keep_41 : decode cX12_keep 41 = .ok (.iaload, 1) := by decide +kernel
theorem dX12_keep_42 : decode cX12_keep 42 = .ok (.goto 4, 3) := by decide +kernel
theorem dX12_keep_45 : decode cX12_keep 45 = .ok (.iconst 0, 1) := by decide +kernel
theorem dX12_keep_46 : decode cX12_keep 46 = .ok (.iadd, 1) := by decide +kernel
theorem dX12_keep_47 : decode cX12_keep 47 = .ok (.istore_n 1, 1) := by decide +kernel
theorem dX12_keep_48 : decode cX12_keep 48 = .ok (.iinc 2 1, 3) := by decide +kernel
theorem dX12_keep_51 : decode cX12_keep 51 = .ok (.goto (-31), 3) := by decide +kernel
theorem dX12_keep_54 : decode cX12_keep 54 = .ok (.iload_n 1, 1) := by decide +kernel
theorem dX12_keep_55 : decode cX12_keep 55 = .ok (.ireturn, 1) := by decide +kernel
set_option maxRecDepth 100000 in
def f_m_keep (V : Nat → Nat → Int) (J : Nat → Nat → Int) (Rr : Nat → Nat → Nat) : (Int × (Nat → Nat → Int)) → Prop :=
  rdb (up2 V 0 53 1) fun V1 => rdb (cpN V1 1 3 81) fun V2 => lop2 (6) (fun rc87 (z84 : Int) (z85 : Int) => (if 4 ≤ z84 then rtn (z85, V2) else calR (f_m_isPlant z84 V2 J Rr) fun z100 => fct (0 ≤ z100 ∧ z100 ≤ 1) <| jnk (fun (z103 : Int) => rdb (wr (z85 + z103)) fun z106 => rc87 (z84 + 1) z106) fun jf105 => (if z100 = 0 then jf105 0 else rdb (V2 1 ((z84 + 4).toNat)) fun z109 => fct (0 ≤ z109 ∧ z109 ≤ 24) <| jf105 z109))) 0 0
set_option maxHeartbeats 8000000 in
set_option maxRecDepth 100000 in
theorem m_keep (l : Launch) (D : va_G) (cy : Nat → ClassId) (ad : Nat → Nat) (G : Nat → Nat → Int) (V J : Nat → Nat → Int) (Rr : Nat → Nat → Nat) (hI : MI G V) (hJ : VJ J) (hR : MR Rr)  : xMi l D (xTY cy) yX12_keep cX12_keep 3 (some .int) 2 42 0 0 [.ref (ad 0)] (MW cy ad V J Rr) (fun u : Nat → Nat → Int => MW cy ad u J Rr) (fun a (u : Nat → Nat → Int) => MI (up2 G 0 53 1) u ∧ u 0 53 = 1 ∧ FBm 147582959788931153920 V u ∧ (f_m_keep V J Rr) (a, u)) := by
  refine xMi.mk (lv0 := [(0, .ref (ad 0))]) (by decide) rfl (Nat.le_of_ble_eq_true rfl) (fun p e s m below meth c A C hr hnm hAe => ?_)
  have C : xC2 p s m _ meth c D A s.heap 3 cX12_keep RX12 (xTY cy) := C
  have hB : FBm 147582959788931153920 V V := FBm.rf _ _
  have hF := Imp.of_eq (f_m_keep.eq_def V J Rr)
  refine x_aload_n C.1 dX12_keep_0 0 rfl ?_
  refine x_iconst C.1 (n := 1) dX12_keep_1 ?_
  refine x_putI C (N := 33) (i := 0) (by decide) rfl vc_X12 wx_X12 53 (by decide) wf_X12_417 tyX12 tyX12_ok nmX12 rfl (tyX12_ok 53 (by decide)) rfl dX12_keep_2 (by decide) (by decide) ?_
  refine x_gV ?_
  intro V1 hV1
  have hI1 : MI (up2 G 0 53 1) V1 := MI.upG hI hV1 rfl (by decide) (Or.inl (by decide))
  have hB1 := hB.up hV1 rfl
  replace hF := hF.to (rdb_e (z := V1) hV1.symm)
  refine x_aload_n C.1 dX12_keep_5 0 rfl ?_
  refine x_getA C (N := 33) (i := 0) (by decide) rfl vc_X12 wx_X12 0 (by decide) wf_X12_7 (a := 1) rfl dX12_keep_6 ?_
  refine x_aload_n C.1 dX12_keep_9 0 rfl ?_
  refine x_getA C (N := 33) (i := 0) (by decide) rfl vc_X12 wx_X12 2 (by decide) wf_X12_16 (a := 3) rfl dX12_keep_10 ?_
  refine x_callSv C (As := [.ref (ad 1), .ref (ad 3)]) (rest := []) (c_copies l D cy ad V1 J Rr hI1.vr hJ 1 3 (by decide) (by decide) rfl rfl (by decide)) (l1 := []) (l2 := []) (List.append_nil _).symm (w2 := fun u : xS => MW cy ad u.1 u.2.1 u.2.2) (fun _ => List.append_nil _) rfl wm_yX12_copies wn_X12 wl_X12_294 wi_yX12_copies hd_yX12_copies rfl ⟨Nat.le_of_ble_eq_true rfl, Nat.le_of_ble_eq_true rfl⟩ (Nat.le_of_ble_eq_true rfl) ⟨Nat.le_of_ble_eq_true rfl, Nat.le_of_ble_eq_true rfl⟩ dX12_keep_13 (fun u2 h2 => ?_)
  subst h2
  dsimp only
  refine x_gV ?_
  intro V2 hV2
  have hI2 : MI (up2 G 0 53 1) V2 := MI.cp hI1 hV2 (by decide) (by decide)
  have hB2 := hB1.cp hV2 (fun _ => by rw [mkey_r (by decide)]; rfl)
  replace hF := hF.to (rdb_e (z := V2) hV2.symm)
  refine x_iconst C.1 (n := 0) dX12_keep_16 ?_
  refine x_istore_n C.1 (lv' := [(1, vI 0), (0, .ref (ad 0))]) dX12_keep_17 (by decide) rfl ?_
  refine x_iconst C.1 (n := 0) dX12_keep_18 ?_
  refine x_istore_n C.1 (lv' := [(2, vI 0), (1, vI 0), (0, .ref (ad 0))]) dX12_keep_19 (by decide) rfl ?_
  obtain ⟨bd87, hbd87, hF⟩ := lop2_ex hF
  refine x_loop (I := fun x : Int × Int => match x with | (z84, z85) => (0 ≤ z84 ∧ z84 ≤ 4) ∧ (-2147483648 ≤ z85 ∧ z85 ≤ 2147483647) ∧ (∃ nf : Nat, (5 - z84).toNat < nf ∧ Imp (lop2 nf bd87 z84 z85) (f_m_keep V J Rr))) (μ := fun x : Int × Int => match x with | (z84, z85) => (5 - z84).toNat) (wsf := fun x : Int × Int => match x with | (z84, z85) => MW cy ad V2 J Rr) (lvf := fun x : Int × Int => match x with | (z84, z85) => [(2, vI z84), (1, vI z85), (0, .ref (ad 0))]) (fun x hI87x ih87 => ?_) (0, 0) ⟨⟨by decide, by decide⟩, ⟨by decide, by decide⟩, ⟨_, (by omega), hF⟩⟩ rfl rfl
  obtain ⟨z84, z85⟩ := x
  obtain ⟨bz84, bz85, nf87, hn87, hF⟩ := hI87x
  try dsimp only
  obtain ⟨nf87, rfl⟩ : ∃ mm, nf87 = mm + 1 := ⟨nf87 - 1, (Nat.succ_pred_eq_of_pos (Nat.lt_of_le_of_lt (Nat.zero_le _) hn87)).symm⟩
  replace hF := hF.to (lop2_s hbd87)
  refine x_iload_n C.1 dX12_keep_20 0 rfl ?_
  refine x_iconst C.1 (n := 4) dX12_keep_21 ?_
  refine x_icmp_ge C.1 (tgt := 54) dX12_keep_22 (by decide) (by omega) (by decide) (fun hc99 => ?_) (fun hc99 => ?_)
  · replace hF := hF.to (if_pos hc99)
    refine x_iload_n C.1 dX12_keep_54 1 rfl ?_
    exact x_iret (S := (Nat → Nat → Int)) (post := (fun a (u : Nat → Nat → Int) => MI (up2 G 0 53 1) u ∧ u 0 53 = 1 ∧ FBm 147582959788931153920 V u ∧ (f_m_keep V J Rr) (a, u))) (w1 := (fun u : Nat → Nat → Int => MW cy ad u J Rr)) (a := z85) C hr rfl dX12_keep_55 (by omega) V2 rfl ⟨hI2, ((congrFun (congrFun hV2 0) 53).trans ((congrFun (cpN_n (by decide)) _).trans ((congrFun (congrFun hV1 0) 53).trans (up2_s _ _ _ _)))), hB2, hF _ rfl⟩
  · replace hF := hF.to (if_neg hc99)
    refine x_iload_n C.1 dX12_keep_25 1 rfl ?_
    refine x_aload_n C.1 dX12_keep_26 2 rfl ?_
    refine x_iload_n C.1 dX12_keep_27 0 rfl ?_
    refine x_callVi C (As := [vI z84]) (rest := [vI z85]) 0 (xw_at (N := 33) (i := 0) (by decide) rfl) vc_X12 (m_isPlant l D cy ad (up2 G 0 53 1) V2 J Rr hI2 hJ hR z84 ⟨by omega, by omega⟩) (l1 := []) (l2 := []) (List.append_nil _).symm (w2 := fun _ => MW cy ad V2 J Rr) (fun _ => List.append_nil _) rfl wm_yX12_isPlant wn_X12 wl_X12_122 wi_yX12_isPlant we_yX12_isPlant hd_yX12_isPlant rfl ⟨Nat.le_of_ble_eq_true rfl, Nat.le_of_ble_eq_true rfl⟩ (Nat.le_of_ble_eq_true rfl) ⟨Nat.le_of_ble_eq_true rfl, Nat.le_of_ble_eq_true rfl⟩ dX12_keep_28 (fun z100 u100 bz100 h100 => ?_)
    obtain ⟨hon100, hFc100⟩ := h100
    replace hF := calR_i hF hFc100
    replace hF := hF.fc hon100.r
    have bq100 := Sp.r hon100
    obtain ⟨jf105, hjf105, hF⟩ := jn_ex hF
    refine x_join (I := fun z103 : Int => (0 ≤ z103 ∧ z103 ≤ 24) ∧ Imp (jf105 z103) (f_m_keep V J Rr)) (wsf := fun z103 : Int => MW cy ad V2 J Rr) (lvf := fun z103 : Int => [(2, vI z84), (1, vI z85), (0, .ref (ad 0))]) (stf := fun z103 : Int => [vI z103, vI z85]) 46 (fun z103 hI105x => ?_) (fun jn105 => ?_)
    · obtain ⟨bz103, hF⟩ := hI105x
      try dsimp only
      replace hF := hF.to (jn_s1 hjf105)
      refine x_iadd C.1 (v := z85 + z103) (by omega) dX12_keep_46 ?_
      refine x_wrapg ?_
      intro z106 bz106 ew106
      replace hF := hF.to (rdb_e (z := z106) ew106.symm)
      refine x_istore_n C.1 (lv' := [(1, vI z106), (2, vI z84), (0, .ref (ad 0))]) dX12_keep_47 (by decide) rfl ?_
      refine x_iinc C.1 (v := z84 + 1) (lv' := [(2, vI (z84 + 1)), (1, vI z106), (0, .ref (ad 0))]) (by omega) dX12_keep_48 1 rfl (by decide) rfl ?_
      refine x_goto C.1 (tgt := 20) dX12_keep_51 (by decide) ?_
      have hmu87 : (5 - (z84 + 1)).toNat < (5 - z84).toNat := (by omega)
      exact ih87 (z84 + 1, z106) ⟨⟨by omega, by omega⟩, ⟨by omega, by omega⟩, ⟨nf87, Nat.lt_of_lt_of_le hmu87 (Nat.le_of_lt_succ hn87), hF⟩⟩ hmu87
    · refine x_if_eq C.1 (tgt := 45) dX12_keep_31 (by decide) (by omega) (fun hc107 => ?_) (fun hc107 => ?_)
      · replace hF := hF.to (if_pos hc107)
        refine x_iconst C.1 (n := 0) dX12_keep_45 ?_
        exact jn105 0 ⟨⟨by decide, by decide⟩, hF⟩
      · replace hF := hF.to (if_neg hc107)
        have hon108 := Sp.on hon100 (by omega)
        refine x_aload_n C.1 dX12_keep_34 2 rfl ?_
        refine x_getA C (N := 33) (i := 0) (by decide) rfl vc_X12 wx_X12 0 (by decide) wf_X12_7 (a := 1) rfl dX12_keep_35 ?_
        refine x_iconst C.1 (n := 4) dX12_keep_38 ?_
        refine x_iload_n C.1 dX12_keep_39 0 rfl ?_
        refine x_iadd C.1 (v := z84 + 4) (by omega) dX12_keep_40 ?_
        obtain ⟨z109, ez109, bz109⟩ := hI2.rd 1 ((z84 + 4).toNat) (x := 0) (y := 24) (rgN_8 (Or.inl rfl) (by omega))
        replace hF := hF.to (rdb_e (z := z109) ez109)
        replace hF := hF.fc bz109
        refine x_iald C (N := 33) (i := 1) (q := z84 + 4) (by decide) rfl (by omega) (by decide) dX12_keep_41 (a := z109) ez109 ?_
        refine x_goto C.1 (tgt := 46) dX12_keep_42 (by decide) ?_
        exact jn105 z109 ⟨⟨by omega, by omega⟩, hF⟩
theorem dX12_undo_0 : decode cX12_undo 0 = .ok (.aload_n 0, 1) := by decide +kernel
theorem dX12_undo_1 : decode cX12_undo 1 = .ok (.getfield 417, 3) := by decide +kernel
theorem dX12_undo_4 : decode cX12_undo 4 = .ok (.ifCond .ne 5, 3) := by decide +kernel
theorem dX12_undo_7 : decode cX12_undo 7 = .ok (.iconst 0, 1) := by decide +kernel
theorem dX12_undo_8 : decode cX12_undo 8 = .ok (.ireturn, 1) := by decide +kernel
theorem dX12_undo_9 : decode cX12_undo 9 = .ok (.aload_n 0, 1) := by decide +kernel
theorem dX12_undo_10 : decode cX12_undo 10 = .ok (.getfield 16, 3) := by decide +kernel
theorem dX12_undo_13 : decode cX12_undo 13 = .ok (.aload_n 0, 1) := by decide +kernel
theorem dX12_undo_14 : decode cX12_undo 14 = .ok (.getfield 7, 3) := by decide +kernel
theorem dX12_undo_17 : decode cX12_undo 17 = .ok (.invokestatic 294, 3) := by decide +kernel
theorem dX12_undo_20 : decode cX12_undo 20 = .ok (.iconst 1, 1) := by decide +kernel
theorem dX12_undo_21 : decode cX12_undo 21 = .ok (.ireturn, 1) := by decide +kernel
set_option maxRecDepth 100000 in
def f_m_undo (V : Nat → Nat → Int) (J : Nat → Nat → Int) (Rr : Nat → Nat → Nat) : (Int × (Nat → Nat → Int)) → Prop :=
  rdb (V 0 53) fun z1 => fct (0 ≤ z1 ∧ z1 ≤ 1) <| (if ¬ z1 = 0 then rdb (cpN V 3 1 81) fun V3 => rtn (1, V3) else rtn (0, V))
set_option maxHeartbeats 8000000 in
set_option maxRecDepth 100000 in
theorem m_undo (l : Launch) (D : va_G) (cy : Nat → ClassId) (ad : Nat → Nat) (G : Nat → Nat → Int) (V J : Nat → Nat → Int) (Rr : Nat → Nat → Nat) (hI : MI G V) (hJ : VJ J) (hR : MR Rr)  : xMi l D (xTY cy) yX12_undo cX12_undo 1 (some .boolean) 1 22 0 0 [.ref (ad 0)] (MW cy ad V J Rr) (fun u : Nat → Nat → Int => MW cy ad u J Rr) (fun a (u : Nat → Nat → Int) => MI G u ∧ (0 ≤ a ∧ a ≤ 1) ∧ a = V 0 53 ∧ FBm 36893488147419103232 V u ∧ (f_m_undo V J Rr) (a, u)) := by
  refine xMi.mk (lv0 := [(0, .ref (ad 0))]) (by decide) rfl (Nat.le_of_ble_eq_true rfl) (fun p e s m below meth c A C hr hnm hAe => ?_)
  have C : xC2 p s m _ meth c D A s.heap 1 cX12_undo RX12 (xTY cy) := C
  have hB : FBm 36893488147419103232 V V := FBm.rf _ _
  have hF := Imp.of_eq (f_m_undo.eq_def V J Rr)
  refine x_aload_n C.1 dX12_undo_0 0 rfl ?_
  obtain ⟨z1, ez1, bz1⟩ := hI.rd 0 53 (x := 0) (y := 1) rfl
  replace hF := hF.to (rdb_e (z := z1) ez1)
  replace hF := hF.fc bz1
  refine x_getI C (N := 33) (i := 0) (by decide) rfl vc_X12 wx_X12 53 (by decide) wf_X12_417 rfl dX12_undo_1 (a := z1) ez1 ?_
  refine x_if_ne C.1 (tgt := 9) dX12_undo_4 (by decide) (by omega) (fun hc2 => ?_) (fun hc2 => ?_)
  · replace hF := hF.to (if_pos hc2)
    refine x_aload_n C.1 dX12_undo_9 0 rfl ?_
    refine x_getA C (N := 33) (i := 0) (by decide) rfl vc_X12 wx_X12 2 (by decide) wf_X12_16 (a := 3) rfl dX12_undo_10 ?_
    refine x_aload_n C.1 dX12_undo_13 0 rfl ?_
    refine x_getA C (N := 33) (i := 0) (by decide) rfl vc_X12 wx_X12 0 (by decide) wf_X12_7 (a := 1) rfl dX12_undo_14 ?_
    refine x_callSv C (As := [.ref (ad 3), .ref (ad 1)]) (rest := []) (c_copies l D cy ad V J Rr hI.vr hJ 3 1 (by decide) (by decide) rfl rfl (by decide)) (l1 := []) (l2 := []) (List.append_nil _).symm (w2 := fun u : xS => MW cy ad u.1 u.2.1 u.2.2) (fun _ => List.append_nil _) rfl wm_yX12_copies wn_X12 wl_X12_294 wi_yX12_copies hd_yX12_copies rfl ⟨Nat.le_of_ble_eq_true rfl, Nat.le_of_ble_eq_true rfl⟩ (Nat.le_of_ble_eq_true rfl) ⟨Nat.le_of_ble_eq_true rfl, Nat.le_of_ble_eq_true rfl⟩ dX12_undo_17 (fun u3 h3 => ?_)
    subst h3
    dsimp only
    refine x_gV ?_
    intro V3 hV3
    have hI3 : MI G V3 := MI.cp hI hV3 (by decide) (by decide)
    have hB3 := hB.cp hV3 (fun _ => by rw [mkey_r (by decide)]; rfl)
    replace hF := hF.to (rdb_e (z := V3) hV3.symm)
    refine x_iconst C.1 (n := 1) dX12_undo_20 ?_
    exact x_zret (S := (Nat → Nat → Int)) (post := (fun a (u : Nat → Nat → Int) => MI G u ∧ (0 ≤ a ∧ a ≤ 1) ∧ a = V 0 53 ∧ FBm 36893488147419103232 V u ∧ (f_m_undo V J Rr) (a, u))) (w1 := (fun u : Nat → Nat → Int => MW cy ad u J Rr)) (a := 1) C hr rfl dX12_undo_21 (by decide) V3 rfl ⟨hI3, ⟨by decide, by decide⟩, (by omega), hB3, hF _ rfl⟩
  · replace hF := hF.to (if_neg (fun hh => hh hc2))
    refine x_iconst C.1 (n := 0) dX12_undo_7 ?_
    exact x_zret (S := (Nat → Nat → Int)) (post := (fun a (u : Nat → Nat → Int) => MI G u ∧ (0 ≤ a ∧ a ≤ 1) ∧ a = V 0 53 ∧ FBm 36893488147419103232 V u ∧ (f_m_undo V J Rr) (a, u))) (w1 := (fun u : Nat → Nat → Int => MW cy ad u J Rr)) (a := 0) C hr rfl dX12_undo_8 (by decide) V rfl ⟨hI, ⟨by decide, by decide⟩, (by omega), hB, hF _ rfl⟩
theorem dX12_plant_0 : decode cX12_plant 0 = .ok (.iload_n 1, 1) := by decide +kernel
theorem dX12_plant_1 : decode cX12_plant 1 = .ok (.iconst 0, 1) := by decide +kernel
theorem dX12_plant_2 : decode cX12_plant 2 = .ok (.iconst 3, 1) := by decide +kernel
theorem dX12_plant_3 : decode cX12_plant 3 = .ok (.invokestatic 126, 3) := by decide +kernel
theorem dX12_plant_6 : decode cX12_plant 6 = .ok (.ifCond .eq 33, 3) := by decide +kernel
theorem dX12_plant_9 : decode cX12_plant 9 = .ok (.iload_n 2, 1) := by decide +kernel
theorem dX12_plant_10 : decode cX12_plant 10 = .ok (.iconst 4, 1) := by decide +kernel
theorem dX12_plant_11 : decode cX12_plant 11 = .ok (.bipush 24, 2) := by decide +kernel
theorem dX12_plant_13 : decode cX12_plant 13 = .ok (.invokestatic 126, 3) := by decide +kernel
theorem dX12_plant_16 : decode cX12_plant 16 = .ok (.ifCond .eq 23, 3) := by decide +kernel
theorem dX12_plant_19 : decode cX12_plant 19 = .ok (.iload_n 3, 1) := by decide +kernel
theorem dX12_plant_20 : decode cX12_plant 20 = .ok (.iconst 0, 1) := by decide +kernel
theorem dX12_plant_21 : decode cX12_plant 21 = .ok (.iload_n 2, 1) := by decide +kernel
theorem dX12_plant_22 : decode cX12_plant 22 = .ok (.invokestatic 126, 3) := by decide +kernel
theorem dX12_plant_25 : decode cX12_plant 25 = .ok (.ifCond .eq 14, 3) := by decide +kernel
theorem dX12_plant_28 : decode cX12_plant 28 = .ok (.iload 4, 2) := by decide +kernel
theorem dX12_plant_30 : decode cX12_plant 30 = .ok (.iconst 1, 1) := by decide +kernel
theorem dX12_plant_31 : decode cX12_plant 31 = .ok (.bipush 9, 2) := by decide +kernel
theorem dX12_plant_33 : decode cX12_plant 33 = .ok (.invokestatic 126, 3) := by decide +kernel
theorem dX12_plant_36 : decode cX12_plant 36 = .ok (.ifCond .ne 5, 3) := by decide +kernel
theorem dX12_plant_39 : decode cX12_plant 39 = .ok (.iconst 0, 1) := by decide +kernel
theorem dX12_plant_40 : decode cX12_plant 40 = .ok (.ireturn, 1) := by decide +kernel
theorem dX12_plant_41 : decode cX12_plant 41 = .ok (.aload_n 0, 1) := by decide +kernel
theorem dX12_plant_42 : decode cX12_plant 42 = .ok (.getfield 7, 3) := by decide +kernel
theorem dX12_plant_45 : decode cX12_plant 45 = .ok (.bipush 76, 2) := by decide +kernel
theorem dX12_plant_47 : decode cX12_plant 47 = .ok (.aload_n 0, 1) := by decide +kernel
theorem dX12_plant_48 : decode cX12_plant 48 = .ok (.getfield 7, 3) := by decide +kernel
theorem dX12_plant_51 : decode cX12_plant 51 = .ok (.bipush 76, 2) := by decide +kernel
theorem dX12_plant_53 : decode cX12_plant 53 = .ok (.iaload, 1) := by decide +kernel
theorem dX12_plant_54 : decode cX12_plant 54 = .ok (.iconst 1, 1) := by decide +kernel
theorem dX12_plant_55 : decode cX12_plant 55 = .ok (.iload_n 1, 1) := by decide +kernel
theorem dX12_plant_56 : decode cX12_plant 56 = .ok (.ishl, 1) := by decide +kernel
theorem dX12_plant_57 : decode cX12_plant 57 = .ok (.ior, 1) := by decide +kernel
theorem dX12_plant_58 : decode cX12_plant 58 = .ok (.iastore, 1) := by decide +kernel
theorem dX12_plant_59 : decode cX12_plant 59 = .ok (.aload_n 0, 1) := by decide +kernel
theorem dX12_plant_60 : decode cX12_plant 60 = .ok (.getfield 7, 3) := by decide +kernel
theorem dX12_plant_63 : decode cX12_plant 63 = .ok (.bipush 77, 2) := by decide +kernel
theorem dX12_plant_65 : decode cX12_plant 65 = .ok (.aload_n 0, 1) := by decide +kernel
theorem dX12_plant_66 : decode cX12_plant 66 = .ok (.getfield 7, 3) := by decide +kernel
theorem dX12_plant_69 : decode cX12_plant 69 = .ok (.bipush 77, 2) := by decide +kernel
theorem dX12_plant_71 : decode cX12_plant 71 = .ok (.iaload, 1) := by decide +kernel
theorem dX12_plant_72 : decode cX12_plant 72 = .ok (.iconst 1, 1) := by decide +kernel
theorem dX12_plant_73 : decode cX12_plant 73 = .ok (.iload_n 1, 1) := by decide +kernel
theorem dX12_plant_74 : decode cX12_plant 74 = .ok (.ishl, 1) := by decide +kernel
theorem dX12_plant_75 : decode cX12_plant 75 = .ok (.iconst (-1), 1) := by decide +kernel
theorem dX12_plant_76 : decode cX12_plant 76 = .ok (.ixor, 1) := by decide +kernel
theorem dX12_plant_77 : decode cX12_plant 77 = .ok (.iand, 1) := by decide +kernel
theorem dX12_plant_78 : decode cX12_plant 78 = .ok (.iastore, 1) := by decide +kernel
theorem dX12_plant_79 : decode cX12_plant 79 = .ok (.aload_n 0, 1) := by decide +kernel
theorem dX12_plant_80 : decode cX12_plant 80 = .ok (.getfield 7, 3) := by decide +kernel
theorem dX12_plant_83 : decode cX12_plant 83 = .ok (.iconst 0, 1) := by decide +kernel
theorem dX12_plant_84 : decode cX12_plant 84 = .ok (.iload_n 1, 1) := by decide +kernel
theorem dX12_plant_85 : decode cX12_plant 85 = .ok (.iadd, 1) := by decide +kernel
theorem dX12_plant_86 : decode cX12_plant 86 = .ok (.iload_n 2, 1) := by decide +kernel
theorem dX12_plant_87 : decode cX12_plant 87 = .ok (.iastore, 1) := by decide +kernel
theorem dX12_plant_88 : decode cX12_plant 88 = .ok (.aload_n 0, 1) := by decide +kernel
theorem dX12_plant_89 : decode cX12_plant 89 = .ok (.getfield 7, 3) := by decide +kernel
theorem dX12_plant_92 : decode cX12_plant 92 = .ok (.iconst 4, 1) := by decide +kernel
theorem dX12_plant_93 : decode cX12_plant 93 = .ok (.iload_n 1, 1) := by decide +kernel
theorem dX12_plant_94 : decode cX12_plant 94 = .ok (.iadd, 1) := by decide +kernel
theorem dX12_plant_95 : decode cX12_plant 95 = .ok (.iload_n 3, 1) := by decide +kernel
theorem dX12_plant_96 : decode cX12_plant 96 = .ok (.iastore, 1) := by decide +kernel
theorem dX12_plant_97 : decode cX12_plant 97 = .ok (.aload_n 0, 1) := by decide +kernel
theorem dX12_plant_98 : decode cX12_plant 98 = .ok (.getfield 7, 3) := by decide +kernel
theorem dX12_plant_101 : decode cX12_plant 101 = .ok (.bipush 8, 2) := by decide +kernel
theorem dX12_plant_103 : decode cX12_plant 103 = .ok (.iload_n 1, 1) := by decide +kernel
theorem dX12_plant_104 : decode cX12_plant 104 = .ok (.iadd, 1) := by decide +kernel
theorem dX12_plant_105 : decode cX12_plant 105 = .ok (.iload 4, 2) := by decide +kernel
theorem dX12_plant_107 : decode cX12_plant 107 = .ok (.iastore, 1) := by decide +kernel
theorem dX12_plant_108 : decode cX12_plant 108 = .ok (.aload_n 0, 1) := by decide +kernel
theorem dX12_plant_109 : decode cX12_plant 109 = .ok (.getfield 7, 3) := by decide +kernel
theorem dX12_plant_112 : decode cX12_plant 112 = .ok (.bipush 12, 2) := by decide +kernel
theorem dX12_plant_114 : decode cX12_plant 114 = .ok (.iload_n 1, 1) := by decide +kernel
theorem dX12_plant_115 : decode cX12_plant 115 = .ok (.iadd, 1) := by decide +kernel
theorem dX12_plant_116 : decode cX12_plant 116 = .ok (.iconst 0, 1) := by decide +kernel
theorem dX12_plant_117 : decode cX12_plant 117 = .ok (.iastore, 1) := by decide +kernel
theorem dX12_plant_118 : decode cX12_plant 118 = .ok (.aload_n 0, 1) := by decide +kernel
theorem dX12_plant_119 : decode cX12_plant 119 = .ok (.getfield 7, 3) := by decide +kernel
theorem dX12_plant_122 : decode cX12_plant 122 = .ok (.bipush 16, 2) := by decide +kernel
theorem dX12_plant_124 : decode cX12_plant 124 = .ok (.iload_n 1, 1) := by decide +kernel
theorem dX12_plant_125 : decode cX12_plant 125 = .ok (.iadd, 1) := by decide +kernel
theorem dX12_plant_126 : decode cX12_plant 126 = .ok (.iconst 0, 1) := by decide +kernel
theorem dX12_plant_127 : decode cX12_plant 127 = .ok (.iastore, 1) := by decide +kernel
theorem dX12_plant_128 : decode cX12_plant 128 = .ok (.aload_n 0, 1) := by decide +kernel
theorem dX12_plant_129 : decode cX12_plant 129 = .ok (.getfield 7, 3) := by decide +kernel
theorem dX12_plant_132 : decode cX12_plant 132 = .ok (.bipush 20, 2) := by decide +kernel
theorem dX12_plant_134 : decode cX12_plant 134 = .ok (.iload_n 1, 1) := by decide +kernel
theorem dX12_plant_135 : decode cX12_plant 135 = .ok (.iadd, 1) := by decide +kernel
theorem dX12_plant_136 : decode cX12_plant 136 = .ok (.bipush (-2), 2) := by decide +kernel
theorem dX12_plant_138 : decode cX12_plant 138 = .ok (.iastore, 1) := by decide +kernel
theorem dX12_plant_139 : decode cX12_plant 139 = .ok (.iconst 0, 1) := by decide +kernel
theorem dX12_plant_140 : decode cX12_plant 140 = .ok (.istore 5, 2) := by decide +kernel
theorem dX12_plant_142 : decode cX12_plant 142 = .ok (.iload 5, 2) := by decide +kernel
theorem dX12_plant_144 : decode cX12_plant 144 = .ok (.bipush 7, 2) := by decide +kernel
theorem dX12_plant_146 : decode cX12_plant 146 = .ok (.if_icmp .ge 25, 3) := by decide +kernel
theorem dX12_plant_149 : decode cX12_plant 149 = .ok (.aload_n 0, 1) := by decide +kernel
theorem dX12_plant_150 : decode cX12_plant 150 = .ok (.getfield 7, 3) := by decide +kernel
theorem dX12_plant_153 : decode cX12_plant 153 = .ok (.bipush 24, 2) := by decide +kernel
theorem dX12_plant_155 : decode cX12_plant 155 = .ok (.bipush 7, 2) := by decide +kernel
theorem dX12_plant_157 : decode cX12_plant 157 = .ok (.iload_n 1, 1) := by decide +kernel
theorem dX12_plant_158 : decode cX12_plant 158 = .ok (.imul, 1) := by decide +kernel
theorem dX12_plant_159 : decode cX12_plant 159 = .ok (.iadd, 1) := by decide +kernel
theorem dX12_plant_160 : decode cX12_plant 160 = .ok (.iload 5, 2) := by decide +kernel
theorem dX12_plant_162 : decode cX12_plant 162 = .ok (.iadd, 1) := by decide +kernel
theorem dX12_plant_163 : decode cX12_plant 163 = .ok (.iload_n 3, 1) := by decide +kernel
theorem dX12_plant_164 : decode cX12_plant 164 = .ok (.iastore, 1) := by decide +kernel
theorem dX12_plant_165 : decode cX12_plant 165 = .ok (.iinc 5 1, 3) := by decide +kernel
theorem dX12_plant_168 : decode cX12_plant 168 = .ok (.goto (-26), 3) := by decide +kernel
theorem dX12_plant_171 : decode cX12_plant 171 = .ok (.iconst 1, 1) := by decide +kernel
theorem dX12_plant_172 : decode cX12_plant 172 = .ok (.ireturn, 1) := by decide +kernel
set_option maxRecDepth 100000 in
def f_m_plant (x1 : Int) (x2 : Int) (x3 : Int) (x4 : Int) (V : Nat → Nat → Int) (J : Nat → Nat → Int) (Rr : Nat → Nat → Nat) : (Int × (Nat → Nat → Int)) → Prop :=
  calR (f_m_in x1 0 3) fun z1 => fct (0 ≤ z1 ∧ z1 ≤ 1) <| (if z1 = 0 then rtn (0, V) else calR (f_m_in x2 4 24) fun z5 => fct (0 ≤ z5 ∧ z5 ≤ 1) <| (if z5 = 0 then rtn (0, V) else calR (f_m_in x3 0 x2) fun z9 => fct (0 ≤ z9 ∧ z9 ≤ 1) <| (if z9 = 0 then rtn (0, V) else calR (f_m_in x4 1 9) fun z13 => fct (0 ≤ z13 ∧ z13 ≤ 1) <| (if ¬ z13 = 0 then rdb (V 1 76) fun z16 => rdb (iShl 1 x1) fun z17 => rdb (iOr z16 z17) fun z18 => rdb (up2 V 1 76 z18) fun V19 => rdb (V19 1 77) fun z20 => rdb (iShl 1 x1) fun z21 => rdb (iXor z21 (-1)) fun z22 => rdb (iAnd z20 z22) fun z23 => rdb (up2 V19 1 77 z23) fun V24 => rdb (up2 V24 1 x1.toNat x2) fun V25 => rdb (up2 V25 1 ((x1 + 4).toNat) x3) fun V26 => rdb (up2 V26 1 ((x1 + 8).toNat) x4) fun V27 => rdb (up2 V27 1 ((x1 + 12).toNat) 0) fun V28 => rdb (up2 V28 1 ((x1 + 16).toNat) 0) fun V29 => rdb (up2 V29 1 ((x1 + 20).toNat) (-2)) fun V31 => lop2 (9) (fun rc46 (z45 : Int) (V46 : Nat → Nat → Int) => (if 7 ≤ z45 then rtn (1, V46) else rdb (up2 V46 1 ((7 * x1 + z45 + 24).toNat) x3) fun V50 => rc46 (z45 + 1) V50)) 0 V31 else rtn (0, V)))))
set_option maxHeartbeats 8000000 in
set_option maxRecDepth 100000 in
theorem m_plant (l : Launch) (D : va_G) (cy : Nat → ClassId) (ad : Nat → Nat) (G : Nat → Nat → Int) (V J : Nat → Nat → Int) (Rr : Nat → Nat → Nat) (hI : MI G V) (hJ : VJ J) (hR : MR Rr) (x1 : Int) (bx1 : -2147483648 ≤ x1 ∧ x1 ≤ 2147483647) (x2 : Int) (bx2 : -2147483648 ≤ x2 ∧ x2 ≤ 2147483647) (x3 : Int) (bx3 : -2147483648 ≤ x3 ∧ x3 ≤ 2147483647) (x4 : Int) (bx4 : -2147483648 ≤ x4 ∧ x4 ≤ 2147483647) : xMi l D (xTY cy) yX12_plant cX12_plant 6 (some .boolean) 1 22 0 0 [.ref (ad 0), vI x1, vI x2, vI x3, vI x4] (MW cy ad V J Rr) (fun u : Nat → Nat → Int => MW cy ad u J Rr) (fun a (u : Nat → Nat → Int) => MI G u ∧ ((a = 1 ∧ 0 ≤ x1 ∧ x1 ≤ 3 ∧ 4 ≤ x2 ∧ x2 ≤ 24 ∧ 0 ≤ x3 ∧ x3 ≤ x2 ∧ 1 ≤ x4 ∧ x4 ≤ 9) ∨ (a = 0 ∧ ¬ (0 ≤ x1 ∧ x1 ≤ 3 ∧ 4 ≤ x2 ∧ x2 ≤ 24 ∧ 0 ≤ x3 ∧ x3 ≤ x2 ∧ 1 ≤ x4 ∧ x4 ≤ 9))) ∧ FBm 36893488147419103232 V u ∧ (f_m_plant x1 x2 x3 x4 V J Rr) (a, u)) := by
  refine xMi.mk (lv0 := [(0, .ref (ad 0)), (1, vI x1), (2, vI x2), (3, vI x3), (4, vI x4)]) (by decide) rfl (Nat.le_of_ble_eq_true rfl) (fun p e s m below meth c A C hr hnm hAe => ?_)
  have C : xC2 p s m _ meth c D A s.heap 6 cX12_plant RX12 (xTY cy) := C
  have hB : FBm 36893488147419103232 V V := FBm.rf _ _
  have hF := Imp.of_eq (f_m_plant.eq_def x1 x2 x3 x4 V J Rr)
  refine x_iload_n C.1 dX12_plant_0 1 rfl ?_
  refine x_iconst C.1 (n := 0) dX12_plant_1 ?_
  refine x_iconst C.1 (n := 3) dX12_plant_2 ?_
  refine x_callSi C (As := [vI x1, vI 0, vI 3]) (rest := []) (m_in l D cy x1 ⟨by omega, by omega⟩ 0 ⟨by decide, by decide⟩ 3 ⟨by decide, by decide⟩) (l1 := []) (l2 := _) rfl (w2 := fun _ => _) (fun _ => rfl) rfl wm_yX12_in wn_X12 wl_X12_126 wi_yX12_in hd_yX12_in rfl ⟨Nat.le_of_ble_eq_true rfl, Nat.le_of_ble_eq_true rfl⟩ (Nat.le_of_ble_eq_true rfl) ⟨Nat.le_of_ble_eq_true rfl, Nat.le_of_ble_eq_true rfl⟩ dX12_plant_3 (fun z1 u1 bz1 h1 => ?_)
  obtain ⟨bq1, hx1_0, hFc1⟩ := h1
  replace hF := calR_i hF hFc1
  replace hF := hF.fc bq1
  refine x_if_eq C.1 (tgt := 39) dX12_plant_6 (by decide) (by omega) (fun hc2 => ?_) (fun hc2 => ?_)
  · replace hF := hF.to (if_pos hc2)
    have hof3 := Sq.off hx1_0 (by omega)
    refine x_iconst C.1 (n := 0) dX12_plant_39 ?_
    exact x_zret (S := (Nat → Nat → Int)) (post := (fun a (u : Nat → Nat → Int) => MI G u ∧ ((a = 1 ∧ 0 ≤ x1 ∧ x1 ≤ 3 ∧ 4 ≤ x2 ∧ x2 ≤ 24 ∧ 0 ≤ x3 ∧ x3 ≤ x2 ∧ 1 ≤ x4 ∧ x4 ≤ 9) ∨ (a = 0 ∧ ¬ (0 ≤ x1 ∧ x1 ≤ 3 ∧ 4 ≤ x2 ∧ x2 ≤ 24 ∧ 0 ≤ x3 ∧ x3 ≤ x2 ∧ 1 ≤ x4 ∧ x4 ≤ 9))) ∧ FBm 36893488147419103232 V u ∧ (f_m_plant x1 x2 x3 x4 V J Rr) (a, u))) (w1 := (fun u : Nat → Nat → Int => MW cy ad u J Rr)) (a := 0) C hr rfl dX12_plant_40 (by decide) V rfl ⟨hI, (by omega), hB, hF _ rfl⟩
  · replace hF := hF.to (if_neg hc2)
    have hon4 := Sq.on hx1_0 (by omega)
    refine x_iload_n C.1 dX12_plant_9 2 rfl ?_
    refine x_iconst C.1 (n := 4) dX12_plant_10 ?_
    refine x_bipush C.1 (n := 24) dX12_plant_11 ?_
    refine x_callSi C (As := [vI x2, vI 4, vI 24]) (rest := []) (m_in l D cy x2 ⟨by omega, by omega⟩ 4 ⟨by decide, by decide⟩ 24 ⟨by decide, by decide⟩) (l1 := []) (l2 := _) rfl (w2 := fun _ => _) (fun _ => rfl) rfl wm_yX12_in wn_X12 wl_X12_126 wi_yX12_in hd_yX12_in rfl ⟨Nat.le_of_ble_eq_true rfl, Nat.le_of_ble_eq_true rfl⟩ (Nat.le_of_ble_eq_true rfl) ⟨Nat.le_of_ble_eq_true rfl, Nat.le_of_ble_eq_true rfl⟩ dX12_plant_13 (fun z5 u5 bz5 h5 => ?_)
    obtain ⟨bq5, hx5_0, hFc5⟩ := h5
    replace hF := calR_i hF hFc5
    replace hF := hF.fc bq5
    refine x_if_eq C.1 (tgt := 39) dX12_plant_16 (by decide) (by omega) (fun hc6 => ?_) (fun hc6 => ?_)
    · replace hF := hF.to (if_pos hc6)
      have hof7 := Sq.off hx5_0 (by omega)
      refine x_iconst C.1 (n := 0) dX12_plant_39 ?_
      exact x_zret (S := (Nat → Nat → Int)) (post := (fun a (u : Nat → Nat → Int) => MI G u ∧ ((a = 1 ∧ 0 ≤ x1 ∧ x1 ≤ 3 ∧ 4 ≤ x2 ∧ x2 ≤ 24 ∧ 0 ≤ x3 ∧ x3 ≤ x2 ∧ 1 ≤ x4 ∧ x4 ≤ 9) ∨ (a = 0 ∧ ¬ (0 ≤ x1 ∧ x1 ≤ 3 ∧ 4 ≤ x2 ∧ x2 ≤ 24 ∧ 0 ≤ x3 ∧ x3 ≤ x2 ∧ 1 ≤ x4 ∧ x4 ≤ 9))) ∧ FBm 36893488147419103232 V u ∧ (f_m_plant x1 x2 x3 x4 V J Rr) (a, u))) (w1 := (fun u : Nat → Nat → Int => MW cy ad u J Rr)) (a := 0) C hr rfl dX12_plant_40 (by decide) V rfl ⟨hI, (by omega), hB, hF _ rfl⟩
    · replace hF := hF.to (if_neg hc6)
      have hon8 := Sq.on hx5_0 (by omega)
      refine x_iload_n C.1 dX12_plant_19 3 rfl ?_
      refine x_iconst C.1 (n := 0) dX12_plant_20 ?_
      refine x_iload_n C.1 dX12_plant_21 2 rfl ?_
      refine x_callSi C (As := [vI x3, vI 0, vI x2]) (rest := []) (m_in l D cy x3 ⟨by omega, by omega⟩ 0 ⟨by decide, by decide⟩ x2 ⟨by omega, by omega⟩) (l1 := []) (l2 := _) rfl (w2 := fun _ => _) (fun _ => rfl) rfl wm_yX12_in wn_X12 wl_X12_126 wi_yX12_in hd_yX12_in rfl ⟨Nat.le_of_ble_eq_true rfl, Nat.le_of_ble_eq_true rfl⟩ (Nat.le_of_ble_eq_true rfl) ⟨Nat.le_of_ble_eq_true rfl, Nat.le_of_ble_eq_true rfl⟩ dX12_plant_22 (fun z9 u9 bz9 h9 => ?_)
      obtain ⟨bq9, hx9_0, hFc9⟩ := h9
      replace hF := calR_i hF hFc9
      replace hF := hF.fc bq9
      refine x_if_eq C.1 (tgt := 39) dX12_plant_25 (by decide) (by omega) (fun hc10 => ?_) (fun hc10 => ?_)
      · replace hF := hF.to (if_pos hc10)
        have hof11 := Sq.off hx9_0 (by omega)
        refine x_iconst C.1 (n := 0) dX12_plant_39 ?_
        exact x_zret (S := (Nat → Nat → Int)) (post := (fun a (u : Nat → Nat → Int) => MI G u ∧ ((a = 1 ∧ 0 ≤ x1 ∧ x1 ≤ 3 ∧ 4 ≤ x2 ∧ x2 ≤ 24 ∧ 0 ≤ x3 ∧ x3 ≤ x2 ∧ 1 ≤ x4 ∧ x4 ≤ 9) ∨ (a = 0 ∧ ¬ (0 ≤ x1 ∧ x1 ≤ 3 ∧ 4 ≤ x2 ∧ x2 ≤ 24 ∧ 0 ≤ x3 ∧ x3 ≤ x2 ∧ 1 ≤ x4 ∧ x4 ≤ 9))) ∧ FBm 36893488147419103232 V u ∧ (f_m_plant x1 x2 x3 x4 V J Rr) (a, u))) (w1 := (fun u : Nat → Nat → Int => MW cy ad u J Rr)) (a := 0) C hr rfl dX12_plant_40 (by decide) V rfl ⟨hI, (by omega), hB, hF _ rfl⟩
      · replace hF := hF.to (if_neg hc10)
        have hon12 := Sq.on hx9_0 (by omega)
        refine x_iload C.1 dX12_plant_28 4 rfl ?_
        refine x_iconst C.1 (n := 1) dX12_plant_30 ?_
        refine x_bipush C.1 (n := 9) dX12_plant_31 ?_
        refine x_callSi C (As := [vI x4, vI 1, vI 9]) (rest := []) (m_in l D cy x4 ⟨by omega, by omega⟩ 1 ⟨by decide, by decide⟩ 9 ⟨by decide, by decide⟩) (l1 := []) (l2 := _) rfl (w2 := fun _ => _) (fun _ => rfl) rfl wm_yX12_in wn_X12 wl_X12_126 wi_yX12_in hd_yX12_in rfl ⟨Nat.le_of_ble_eq_true rfl, Nat.le_of_ble_eq_true rfl⟩ (Nat.le_of_ble_eq_true rfl) ⟨Nat.le_of_ble_eq_true rfl, Nat.le_of_ble_eq_true rfl⟩ dX12_plant_33 (fun z13 u13 bz13 h13 => ?_)
        obtain ⟨bq13, hx13_0, hFc13⟩ := h13
        replace hF := calR_i hF hFc13
        replace hF := hF.fc bq13
        refine x_if_ne C.1 (tgt := 41) dX12_plant_36 (by decide) (by omega) (fun hc14 => ?_) (fun hc14 => ?_)
        · replace hF := hF.to (if_pos hc14)
          have hon15 := Sq.on hx13_0 (by omega)
          refine x_aload_n C.1 dX12_plant_41 0 rfl ?_
          refine x_getA C (N := 33) (i := 0) (by decide) rfl vc_X12 wx_X12 0 (by decide) wf_X12_7 (a := 1) rfl dX12_plant_42 ?_
          refine x_bipush C.1 (n := 76) dX12_plant_45 ?_
          refine x_aload_n C.1 dX12_plant_47 0 rfl ?_
          refine x_getA C (N := 33) (i := 0) (by decide) rfl vc_X12 wx_X12 0 (by decide) wf_X12_7 (a := 1) rfl dX12_plant_48 ?_
          refine x_bipush C.1 (n := 76) dX12_plant_51 ?_
          obtain ⟨z16, ez16, bz16⟩ := hI.rd 1 76 (x := -2147483648) (y := 2147483647) (rgN_81 (Or.inl rfl) (by decide))
          replace hF := hF.to (rdb_e (z := z16) ez16)
          refine x_iald C (N := 33) (i := 1) (q := 76) (by decide) rfl (by decide) (by decide) dX12_plant_53 (a := z16) ez16 ?_
          refine x_iconst C.1 (n := 1) dX12_plant_54 ?_
          refine x_iload_n C.1 dX12_plant_55 1 rfl ?_
          obtain ⟨z17, hz17, bz17⟩ : ∃ z : Int, iShl 1 x1 = z ∧ (-2147483648 ≤ z ∧ z ≤ 2147483647) := ⟨_, rfl, xi_r _⟩
          replace hF := hF.to (rdb_e (z := z17) hz17)
          refine x_ishl C.1 (v := z17) hz17 dX12_plant_56 ?_
          obtain ⟨z18, hz18, bz18⟩ : ∃ z : Int, iOr z16 z17 = z ∧ (-2147483648 ≤ z ∧ z ≤ 2147483647) := ⟨_, rfl, xi_r _⟩
          replace hF := hF.to (rdb_e (z := z18) hz18)
          refine x_ior C.1 (v := z18) hz18 dX12_plant_57 ?_
          refine x_iast C (N := 33) (i := 1) (q := 76) (a := z18) (by decide) rfl (by decide) (by decide) dX12_plant_58 ?_
          rw [show (76 : Int).toNat = 76 from rfl]
          refine x_gV ?_
          intro V19 hV19
          have hI19 : MI G V19 := hI.up hV19 (rgN_81 (Or.inl rfl) (by decide)) (by omega) rfl (Or.inr (by decide))
          have hB19 := hB.up hV19 (by rw [mkey_r (by decide)]; rfl)
          replace hF := hF.to (rdb_e (z := V19) hV19.symm)
          refine x_aload_n C.1 dX12_plant_59 0 rfl ?_
          refine x_getA C (N := 33) (i := 0) (by decide) rfl vc_X12 wx_X12 0 (by decide) wf_X12_7 (a := 1) rfl dX12_plant_60 ?_
          refine x_bipush C.1 (n := 77) dX12_plant_63 ?_
          refine x_aload_n C.1 dX12_plant_65 0 rfl ?_
          refine x_getA C (N := 33) (i := 0) (by decide) rfl vc_X12 wx_X12 0 (by decide) wf_X12_7 (a := 1) rfl dX12_plant_66 ?_
          refine x_bipush C.1 (n := 77) dX12_plant_69 ?_
          obtain ⟨z20, ez20, bz20⟩ := hI19.rd 1 77 (x := -2147483648) (y := 2147483647) (rgN_81 (Or.inl rfl) (by decide))
          replace hF := hF.to (rdb_e (z := z20) ez20)
          refine x_iald C (N := 33) (i := 1) (q := 77) (by decide) rfl (by decide) (by decide) dX12_plant_71 (a := z20) ez20 ?_
          refine x_iconst C.1 (n := 1) dX12_plant_72 ?_
          refine x_iload_n C.1 dX12_plant_73 1 rfl ?_
          obtain ⟨z21, hz21, bz21⟩ : ∃ z : Int, iShl 1 x1 = z ∧ (-2147483648 ≤ z ∧ z ≤ 2147483647) := ⟨_, rfl, xi_r _⟩
          replace hF := hF.to (rdb_e (z := z21) hz21)
          refine x_ishl C.1 (v := z21) hz21 dX12_plant_74 ?_
          refine x_iconst C.1 (n := -1) dX12_plant_75 ?_
          obtain ⟨z22, hz22, bz22⟩ : ∃ z : Int, iXor z21 (-1) = z ∧ (-2147483648 ≤ z ∧ z ≤ 2147483647) := ⟨_, rfl, xi_r _⟩
          replace hF := hF.to (rdb_e (z := z22) hz22)
          refine x_ixor C.1 (v := z22) hz22 dX12_plant_76 ?_
          obtain ⟨z23, hz23, bz23⟩ : ∃ z : Int, iAnd z20 z22 = z ∧ (-2147483648 ≤ z ∧ z ≤ 2147483647) := ⟨_, rfl, xi_r _⟩
          replace hF := hF.to (rdb_e (z := z23) hz23)
          refine x_iand C.1 (v := z23) hz23 dX12_plant_77 ?_
          refine x_iast C (N := 33) (i := 1) (q := 77) (a := z23) (by decide) rfl (by decide) (by decide) dX12_plant_78 ?_
          rw [show (77 : Int).toNat = 77 from rfl]
          refine x_gV ?_
          intro V24 hV24
          have hI24 : PX x1.toNat G V24 := MIx.clr (MIx.of hI19) (r := x1.toNat) (by omega) ez20 (by rw [Int.toNat_of_nonneg (by omega), hz21, hz22, hz23]; exact hV24)
          have hB24 := hB19.up hV24 (by rw [mkey_r (by decide)]; rfl)
          replace hF := hF.to (rdb_e (z := V24) hV24.symm)
          refine x_aload_n C.1 dX12_plant_79 0 rfl ?_
          refine x_getA C (N := 33) (i := 0) (by decide) rfl vc_X12 wx_X12 0 (by decide) wf_X12_7 (a := 1) rfl dX12_plant_80 ?_
          refine x_iconst C.1 (n := 0) dX12_plant_83 ?_
          refine x_iload_n C.1 dX12_plant_84 1 rfl ?_
          refine x_iadd C.1 (v := x1) (by omega) dX12_plant_85 ?_
          refine x_iload_n C.1 dX12_plant_86 2 rfl ?_
          refine x_iast C (N := 33) (i := 1) (q := x1) (a := x2) (by decide) rfl (by omega) (by decide) dX12_plant_87 ?_
          refine x_gV ?_
          intro V25 hV25
          have hI25 : PX x1.toNat G V25 := hI24.up hV25 (rgN_8 (Or.inl rfl) (by omega)) (by omega) rfl (Or.inr (by omega))
          have hB25 := hB24.up hV25 (by rw [mkey_r (by decide)]; rfl)
          replace hF := hF.to (rdb_e (z := V25) hV25.symm)
          refine x_aload_n C.1 dX12_plant_88 0 rfl ?_
          refine x_getA C (N := 33) (i := 0) (by decide) rfl vc_X12 wx_X12 0 (by decide) wf_X12_7 (a := 1) rfl dX12_plant_89 ?_
          refine x_iconst C.1 (n := 4) dX12_plant_92 ?_
          refine x_iload_n C.1 dX12_plant_93 1 rfl ?_
          refine x_iadd C.1 (v := x1 + 4) (by omega) dX12_plant_94 ?_
          refine x_iload_n C.1 dX12_plant_95 3 rfl ?_
          refine x_iast C (N := 33) (i := 1) (q := x1 + 4) (a := x3) (by decide) rfl (by omega) (by decide) dX12_plant_96 ?_
          refine x_gV ?_
          intro V26 hV26
          have hI26 : PX x1.toNat G V26 := hI25.up hV26 (rgN_8 (Or.inl rfl) (by omega)) (by omega) rfl (Or.inr (by omega))
          have hB26 := hB25.up hV26 (by rw [mkey_r (by decide)]; rfl)
          replace hF := hF.to (rdb_e (z := V26) hV26.symm)
          refine x_aload_n C.1 dX12_plant_97 0 rfl ?_
          refine x_getA C (N := 33) (i := 0) (by decide) rfl vc_X12 wx_X12 0 (by decide) wf_X12_7 (a := 1) rfl dX12_plant_98 ?_
          refine x_bipush C.1 (n := 8) dX12_plant_101 ?_
          refine x_iload_n C.1 dX12_plant_103 1 rfl ?_
          refine x_iadd C.1 (v := x1 + 8) (by omega) dX12_plant_104 ?_
          refine x_iload C.1 dX12_plant_105 4 rfl ?_
          refine x_iast C (N := 33) (i := 1) (q := x1 + 8) (a := x4) (by decide) rfl (by omega) (by decide) dX12_plant_107 ?_
          refine x_gV ?_
          intro V27 hV27
          have hI27 : PX x1.toNat G V27 := hI26.up hV27 (rgN_20 (Or.inl rfl) (by omega)) (by omega) rfl (Or.inr (by omega))
          have hB27 := hB26.up hV27 (by rw [mkey_r (by decide)]; rfl)
          replace hF := hF.to (rdb_e (z := V27) hV27.symm)
          refine x_aload_n C.1 dX12_plant_108 0 rfl ?_
          refine x_getA C (N := 33) (i := 0) (by decide) rfl vc_X12 wx_X12 0 (by decide) wf_X12_7 (a := 1) rfl dX12_plant_109 ?_
          refine x_bipush C.1 (n := 12) dX12_plant_112 ?_
          refine x_iload_n C.1 dX12_plant_114 1 rfl ?_
          refine x_iadd C.1 (v := x1 + 12) (by omega) dX12_plant_115 ?_
          refine x_iconst C.1 (n := 0) dX12_plant_116 ?_
          refine x_iast C (N := 33) (i := 1) (q := x1 + 12) (a := 0) (by decide) rfl (by omega) (by decide) dX12_plant_117 ?_
          refine x_gV ?_
          intro V28 hV28
          have hI28 : PX x1.toNat G V28 := hI27.up hV28 (rgN_20 (Or.inl rfl) (by omega)) (by decide) rfl (Or.inr (by omega))
          have hB28 := hB27.up hV28 (by rw [mkey_r (by decide)]; rfl)
          replace hF := hF.to (rdb_e (z := V28) hV28.symm)
          refine x_aload_n C.1 dX12_plant_118 0 rfl ?_
          refine x_getA C (N := 33) (i := 0) (by decide) rfl vc_X12 wx_X12 0 (by decide) wf_X12_7 (a := 1) rfl dX12_plant_119 ?_
          refine x_bipush C.1 (n := 16) dX12_plant_122 ?_
          refine x_iload_n C.1 dX12_plant_124 1 rfl ?_
          refine x_iadd C.1 (v := x1 + 16) (by omega) dX12_plant_125 ?_
          refine x_iconst C.1 (n := 0) dX12_plant_126 ?_
          refine x_iast C (N := 33) (i := 1) (q := x1 + 16) (a := 0) (by decide) rfl (by omega) (by decide) dX12_plant_127 ?_
          refine x_gV ?_
          intro V29 hV29
          have hI29 : PX x1.toNat G V29 := hI28.up hV29 (rgN_20 (Or.inl rfl) (by omega)) (by decide) rfl (Or.inr (by omega))
          have hB29 := hB28.up hV29 (by rw [mkey_r (by decide)]; rfl)
          replace hF := hF.to (rdb_e (z := V29) hV29.symm)
          have hIb30 : MI G V29 := MIx.back hI29 (Or.inr ⟨by rw [show 12 + x1.toNat = (x1 + 12).toNat by omega, ((congrFun (congrFun hV29 1) ((x1 + 12).toNat)).trans ((up2_n _ _ (Or.inr (by omega))).trans ((congrFun (congrFun hV28 1) ((x1 + 12).toNat)).trans (up2_s _ _ _ _))))]; omega, by rw [show 16 + x1.toNat = (x1 + 16).toNat by omega, ((congrFun (congrFun hV29 1) ((x1 + 16).toNat)).trans (up2_s _ _ _ _))]; omega⟩)
          refine x_aload_n C.1 dX12_plant_128 0 rfl ?_
          refine x_getA C (N := 33) (i := 0) (by decide) rfl vc_X12 wx_X12 0 (by decide) wf_X12_7 (a := 1) rfl dX12_plant_129 ?_
          refine x_bipush C.1 (n := 20) dX12_plant_132 ?_
          refine x_iload_n C.1 dX12_plant_134 1 rfl ?_
          refine x_iadd C.1 (v := x1 + 20) (by omega) dX12_plant_135 ?_
          refine x_bipush C.1 (n := -2) dX12_plant_136 ?_
          refine x_iast C (N := 33) (i := 1) (q := x1 + 20) (a := (-2)) (by decide) rfl (by omega) (by decide) dX12_plant_138 ?_
          refine x_gV ?_
          intro V31 hV31
          have hI31 : MI G V31 := hIb30.up hV31 (rgN_60 (Or.inl rfl) (by omega)) (by decide) rfl (Or.inr (by omega))
          have hB31 := hB29.up hV31 (by rw [mkey_r (by decide)]; rfl)
          replace hF := hF.to (rdb_e (z := V31) hV31.symm)
          refine x_iconst C.1 (n := 0) dX12_plant_139 ?_
          refine x_istore C.1 (lv' := [(5, vI 0), (0, .ref (ad 0)), (1, vI x1), (2, vI x2), (3, vI x3), (4, vI x4)]) dX12_plant_140 (by decide) rfl ?_
          obtain ⟨bd46, hbd46, hF⟩ := lop2_ex hF
          refine x_loop (I := fun x : Int × (Nat → Nat → Int) => match x with | (z45, V46) => (0 ≤ z45 ∧ z45 ≤ 7) ∧ MI G V46 ∧ FBm 36893488147419103232 V V46 ∧ (∃ nf : Nat, (8 - z45).toNat < nf ∧ Imp (lop2 nf bd46 z45 V46) (f_m_plant x1 x2 x3 x4 V J Rr))) (μ := fun x : Int × (Nat → Nat → Int) => match x with | (z45, V46) => (8 - z45).toNat) (wsf := fun x : Int × (Nat → Nat → Int) => match x with | (z45, V46) => MW cy ad V46 J Rr) (lvf := fun x : Int × (Nat → Nat → Int) => match x with | (z45, V46) => [(5, vI z45), (0, .ref (ad 0)), (1, vI x1), (2, vI x2), (3, vI x3), (4, vI x4)]) (fun x hI46x ih46 => ?_) (0, V31) ⟨⟨by decide, by decide⟩, hI31, hB31, ⟨_, (by omega), hF⟩⟩ rfl rfl
          obtain ⟨z45, V46⟩ := x
          obtain ⟨bz45, hI46, hB46, nf46, hn46, hF⟩ := hI46x
          try dsimp only
          obtain ⟨nf46, rfl⟩ : ∃ mm, nf46 = mm + 1 := ⟨nf46 - 1, (Nat.succ_pred_eq_of_pos (Nat.lt_of_le_of_lt (Nat.zero_le _) hn46)).symm⟩
          replace hF := hF.to (lop2_s hbd46)
          refine x_iload C.1 dX12_plant_142 0 rfl ?_
          refine x_bipush C.1 (n := 7) dX12_plant_144 ?_
          refine x_icmp_ge C.1 (tgt := 171) dX12_plant_146 (by decide) (by omega) (by decide) (fun hc49 => ?_) (fun hc49 => ?_)
          · replace hF := hF.to (if_pos hc49)
            refine x_iconst C.1 (n := 1) dX12_plant_171 ?_
            exact x_zret (S := (Nat → Nat → Int)) (post := (fun a (u : Nat → Nat → Int) => MI G u ∧ ((a = 1 ∧ 0 ≤ x1 ∧ x1 ≤ 3 ∧ 4 ≤ x2 ∧ x2 ≤ 24 ∧ 0 ≤ x3 ∧ x3 ≤ x2 ∧ 1 ≤ x4 ∧ x4 ≤ 9) ∨ (a = 0 ∧ ¬ (0 ≤ x1 ∧ x1 ≤ 3 ∧ 4 ≤ x2 ∧ x2 ≤ 24 ∧ 0 ≤ x3 ∧ x3 ≤ x2 ∧ 1 ≤ x4 ∧ x4 ≤ 9))) ∧ FBm 36893488147419103232 V u ∧ (f_m_plant x1 x2 x3 x4 V J Rr) (a, u))) (w1 := (fun u : Nat → Nat → Int => MW cy ad u J Rr)) (a := 1) C hr rfl dX12_plant_172 (by decide) V46 rfl ⟨hI46, (by omega), hB46, hF _ rfl⟩
          · replace hF := hF.to (if_neg hc49)
            refine x_aload_n C.1 dX12_plant_149 1 rfl ?_
            refine x_getA C (N := 33) (i := 0) (by decide) rfl vc_X12 wx_X12 0 (by decide) wf_X12_7 (a := 1) rfl dX12_plant_150 ?_
            refine x_bipush C.1 (n := 24) dX12_plant_153 ?_
            refine x_bipush C.1 (n := 7) dX12_plant_155 ?_
            refine x_iload_n C.1 dX12_plant_157 2 rfl ?_
            refine x_imul C.1 (v := 7 * x1) (by omega) dX12_plant_158 ?_
            refine x_iadd C.1 (v := 7 * x1 + 24) (by omega) dX12_plant_159 ?_
            refine x_iload C.1 dX12_plant_160 0 rfl ?_
            refine x_iadd C.1 (v := 7 * x1 + z45 + 24) (by omega) dX12_plant_162 ?_
            refine x_iload_n C.1 dX12_plant_163 4 rfl ?_
            refine x_iast C (N := 33) (i := 1) (q := 7 * x1 + z45 + 24) (a := x3) (by decide) rfl (by omega) (by decide) dX12_plant_164 ?_
            refine x_gV ?_
            intro V50 hV50
            have hI50 : MI G V50 := hI46.up hV50 (rgN_60 (Or.inl rfl) (by omega)) (by omega) rfl (Or.inr (by omega))
            have hB50 := hB46.up hV50 (by rw [mkey_r (by decide)]; rfl)
            replace hF := hF.to (rdb_e (z := V50) hV50.symm)
            refine x_iinc C.1 (v := z45 + 1) (lv' := [(5, vI (z45 + 1)), (0, .ref (ad 0)), (1, vI x1), (2, vI x2), (3, vI x3), (4, vI x4)]) (by omega) dX12_plant_165 0 rfl (by decide) rfl ?_
            refine x_goto C.1 (tgt := 142) dX12_plant_168 (by decide) ?_
            have hmu46 : (8 - (z45 + 1)).toNat < (8 - z45).toNat := (by omega)
            exact ih46 (z45 + 1, V50) ⟨⟨by omega, by omega⟩, hI50, hB50, ⟨nf46, Nat.lt_of_lt_of_le hmu46 (Nat.le_of_lt_succ hn46), hF⟩⟩ hmu46
        · replace hF := hF.to (if_neg (fun hh => hh hc14))
          have hof51 := Sq.off hx13_0 (by omega)
          refine x_iconst C.1 (n := 0) dX12_plant_39 ?_
          exact x_zret (S := (Nat → Nat → Int)) (post := (fun a (u : Nat → Nat → Int) => MI G u ∧ ((a = 1 ∧ 0 ≤ x1 ∧ x1 ≤ 3 ∧ 4 ≤ x2 ∧ x2 ≤ 24 ∧ 0 ≤ x3 ∧ x3 ≤ x2 ∧ 1 ≤ x4 ∧ x4 ≤ 9) ∨ (a = 0 ∧ ¬ (0 ≤ x1 ∧ x1 ≤ 3 ∧ 4 ≤ x2 ∧ x2 ≤ 24 ∧ 0 ≤ x3 ∧ x3 ≤ x2 ∧ 1 ≤ x4 ∧ x4 ≤ 9))) ∧ FBm 36893488147419103232 V u ∧ (f_m_plant x1 x2 x3 x4 V J Rr) (a, u))) (w1 := (fun u : Nat → Nat → Int => MW cy ad u J Rr)) (a := 0) C hr rfl dX12_plant_40 (by decide) V rfl ⟨hI, (by omega), hB, hF _ rfl⟩
