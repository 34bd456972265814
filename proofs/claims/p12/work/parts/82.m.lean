section
theorem hd_yX12_jumps : yX12_jumps.cls ≠ "java/lang/invoke/MethodHandle" ∧ yX12_jumps.cls ≠ "java/lang/invoke/VarHandle" ∧ (parseMethodDescriptor yX12_jumps.desc).map (fun d => d.parameters.length) = some 1 := by decide +kernel
theorem hd_yX12_lands : yX12_lands.cls ≠ "java/lang/invoke/MethodHandle" ∧ yX12_lands.cls ≠ "java/lang/invoke/VarHandle" ∧ (parseMethodDescriptor yX12_lands.desc).map (fun d => d.parameters.length) = some 1 := by decide +kernel
theorem hd_yX12_readsCompared : yX12_readsCompared.cls ≠ "java/lang/invoke/MethodHandle" ∧ yX12_readsCompared.cls ≠ "java/lang/invoke/VarHandle" ∧ (parseMethodDescriptor yX12_readsCompared.desc).map (fun d => d.parameters.length) = some 0 := by decide +kernel
theorem dX12_readsCondition_0 : decode cX12_readsCondition 0 = .ok (.aload_n 0, 1) := by decide +kernel
theorem dX12_readsCondition_1 : decode cX12_readsCondition 1 = .ok (.invokevirtual 150, 3) := by decide +kernel
theorem dX12_readsCondition_4 : decode cX12_readsCondition 4 = .ok (.bipush 40, 2) := by decide +kernel
theorem dX12_readsCondition_6 : decode cX12_readsCondition 6 = .ok (.if_icmp .eq 13, 3) := by decide +kernel
theorem dX12_readsCondition_9 : decode cX12_readsCondition 9 = .ok (.aload_n 0, 1) := by decide +kernel
theorem dX12_readsCondition_10 : decode cX12_readsCondition 10 = .ok (.iconst 1, 1) := by decide +kernel
theorem dX12_readsCondition_11 : decode cX12_readsCondition 11 = .ok (.aload_n 0, 1) := by decide +kernel
theorem dX12_readsCondition_12 : decode cX12_readsCondition 12 = .ok (.getfield 144, 3) := by decide +kernel
theorem dX12_readsCondition_15 : decode cX12_readsCondition 15 = .ok (.invokevirtual 157, 3) := by decide +kernel
theorem dX12_readsCondition_18 : decode cX12_readsCondition 18 = .ok (.ireturn, 1) := by decide +kernel
theorem dX12_readsCondition_19 : decode cX12_readsCondition 19 = .ok (.aload_n 0, 1) := by decide +kernel
theorem dX12_readsCondition_20 : decode cX12_readsCondition 20 = .ok (.iconst 0, 1) := by decide +kernel
theorem dX12_readsCondition_21 : decode cX12_readsCondition 21 = .ok (.putfield 171, 3) := by decide +kernel
theorem dX12_readsCondition_24 : decode cX12_readsCondition 24 = .ok (.aload_n 0, 1) := by decide +kernel
theorem dX12_readsCondition_25 : decode cX12_readsCondition 25 = .ok (.iconst 0, 1) := by decide +kernel
theorem dX12_readsCondition_26 : decode cX12_readsCondition 26 = .ok (.putfield 174, 3) := by decide +kernel
theorem dX12_readsCondition_29 : decode cX12_readsCondition 29 = .ok (.aload_n 0, 1) := by decide +kernel
theorem dX12_readsCondition_30 : decode cX12_readsCondition 30 = .ok (.bipush 13, 2) := by decide +kernel
theorem dX12_readsCondition_32 : decode cX12_readsCondition 32 = .ok (.invokevirtual 184, 3) := by decide +kernel
theorem dX12_readsCondition_35 : decode cX12_readsCondition 35 = .ok (.ifCond .ne 5, 3) := by decide +kernel
theorem dX12_readsCondition_38 : decode cX12_readsCondition 38 = .ok (.iconst 0, 1) := by decide +kernel
theorem dX12_readsCondition_39 : decode cX12_readsCondition 39 = .ok (.ireturn, 1) := by decide +kernel
theorem dX12_readsCondition_40 : decode cX12_readsCondition 40 = .ok (.aload_n 0, 1) := by decide +kernel
theorem dX12_readsCondition_41 : decode cX12_readsCondition 41 = .ok (.invokevirtual 150, 3) := by decide +kernel
theorem dX12_readsCondition_44 : decode cX12_readsCondition 44 = .ok (.bipush 33, 2) := by decide +kernel
theorem dX12_readsCondition_46 : decode cX12_readsCondition 46 = .ok (.if_icmp .eq 12, 3) := by decide +kernel
theorem dX12_readsCondition_49 : decode cX12_readsCondition 49 = .ok (.aload_n 0, 1) := by decide +kernel
theorem dX12_readsCondition_50 : decode cX12_readsCondition 50 = .ok (.invokevirtual 150, 3) := by decide +kernel
theorem dX12_readsCondition_53 : decode cX12_readsCondition 53 = .ok (.bipush 40, 2) := by decide +kernel
theorem dX12_readsCondition_55 : decode cX12_readsCondition 55 = .ok (.if_icmp .ne 28, 3) := by decide +kernel
theorem dX12_readsCondition_58 : decode cX12_readsCondition 58 = .ok (.aload_n 0, 1) := by decide +kernel
theorem dX12_readsCondition_59 : decode cX12_readsCondition 59 = .ok (.aload_n 0, 1) := by decide +kernel
theorem dX12_readsCondition_60 : decode cX12_readsCondition 60 = .ok (.invokevirtual 150, 3) := by decide +kernel
theorem dX12_readsCondition_63 : decode cX12_readsCondition 63 = .ok (.bipush 33, 2) := by decide +kernel
theorem dX12_readsCondition_65 : decode cX12_readsCondition 65 = .ok (.if_icmp .ne 8, 3) := by decide +kernel
theorem dX12_readsCondition_68 : decode cX12_readsCondition 68 = .ok (.bipush 10, 2) := by decide +kernel
theorem dX12_readsCondition_70 : decode cX12_readsCondition 70 = .ok (.goto 5, 3) := by decide +kernel
theorem dX12_readsCondition_73 : decode cX12_readsCondition 73 = .ok (.bipush 13, 2) := by decide +kernel
theorem dX12_readsCondition_75 : decode cX12_readsCondition 75 = .ok (.invokevirtual 184, 3) := by decide +kernel
theorem dX12_readsCondition_78 : decode cX12_readsCondition 78 = .ok (.ifCond .ne (-38), 3) := by decide +kernel
theorem dX12_readsCondition_81 : decode cX12_readsCondition 81 = .ok (.iconst 0, 1) := by decide +kernel
theorem dX12_readsCondition_82 : decode cX12_readsCondition 82 = .ok (.ireturn, 1) := by decide +kernel
theorem dX12_readsCondition_83 : decode cX12_readsCondition 83 = .ok (.aload_n 0, 1) := by decide +kernel
theorem dX12_readsCondition_84 : decode cX12_readsCondition 84 = .ok (.invokevirtual 213, 3) := by decide +kernel
theorem dX12_readsCondition_87 : decode cX12_readsCondition 87 = .ok (.ifCond .ne 5, 3) := by decide +kernel
theorem dX12_readsCondition_90 : decode cX12_readsCondition 90 = .ok (.iconst 0, 1) := by decide +kernel
theorem dX12_readsCondition_91 : decode cX12_readsCondition 91 = .ok (.ireturn, 1) := by decide +kernel
theorem dX12_readsCondition_92 : decode cX12_readsCondition 92 = .ok (.aload_n 0, 1) := by decide +kernel
theorem dX12_readsCondition_93 : decode cX12_readsCondition 93 = .ok (.invokevirtual 150, 3) := by decide +kernel
theorem dX12_readsCondition_96 : decode cX12_readsCondition 96 = .ok (.bipush 41, 2) := by decide +kernel
theorem dX12_readsCondition_98 : decode cX12_readsCondition 98 = .ok (.if_icmp .ne 54, 3) := by decide +kernel
theorem dX12_readsCondition_101 : decode cX12_readsCondition 101 = .ok (.aload_n 0, 1) := by decide +kernel
theorem dX12_readsCondition_102 : decode cX12_readsCondition 102 = .ok (.iconst 1, 1) := by decide +kernel
theorem dX12_readsCondition_103 : decode cX12_readsCondition 103 = .ok (.invokevirtual 216, 3) := by decide +kernel
theorem dX12_readsCondition_106 : decode cX12_readsCondition 106 = .ok (.aload_n 0, 1) := by decide +kernel
theorem dX12_readsCondition_107 : decode cX12_readsCondition 107 = .ok (.aload_n 0, 1) := by decide +kernel
theorem dX12_readsCondition_108 : decode cX12_readsCondition 108 = .ok (.getfield 174, 3) := by decide +kernel
theorem dX12_readsCondition_111 : decode cX12_readsCondition 111 = .ok (.iconst 1, 1) := by decide +kernel
theorem dX12_readsCondition_112 : decode cX12_readsCondition 112 = .ok (.isub, 1) := by decide +kernel
theorem dX12_readsCondition_113 : decode cX12_readsCondition 113 = .ok (.putfield 174, 3) := by decide +kernel
theorem dX12_readsCondition_116 : decode cX12_readsCondition 116 = .ok (.aload_n 0, 1) := by decide +kernel
theorem dX12_readsCondition_117 : decode cX12_readsCondition 117 = .ok (.aload_n 0, 1) := by decide +kernel
theorem dX12_readsCondition_118 : decode cX12_readsCondition 118 = .ok (.getfield 171, 3) := by decide +kernel
theorem dX12_readsCondition_121 : decode cX12_readsCondition 121 = .ok (.iconst 1, 1) := by decide +kernel
theorem dX12_readsCondition_122 : decode cX12_readsCondition 122 = .ok (.isub, 1) := by decide +kernel
theorem dX12_readsCondition_123 : decode cX12_readsCondition 123 = .ok (.putfield 171, 3) := by decide +kernel
theorem dX12_readsCondition_126 : decode cX12_readsCondition 126 = .ok (.aload_n 0, 1) := by decide +kernel
theorem dX12_readsCondition_127 : decode cX12_readsCondition 127 = .ok (.aload_n 0, 1) := by decide +kernel
theorem dX12_readsCondition_128 : decode cX12_readsCondition 128 = .ok (.getfield 144, 3) := by decide +kernel
theorem dX12_readsCondition_131 : decode cX12_readsCondition 131 = .ok (.iconst 1, 1) := by decide +kernel
theorem dX12_readsCondition_132 : decode cX12_readsCondition 132 = .ok (.iadd, 1) := by decide +kernel
theorem dX12_readsCondition_133 : decode cX12_readsCondition 133 = .ok (.putfield 144, 3) := by decide +kernel
theorem dX12_readsCondition_136 : decode cX12_readsCondition 136 = .ok (.aload_n 0, 1) := by decide +kernel
theorem dX12_readsCondition_137 : decode cX12_readsCondition 137 = .ok (.getfield 174, 3) := by decide +kernel
theorem dX12_readsCondition_140 : decode cX12_readsCondition 140 = .ok (.ifCond .ne 5, 3) := by decide +kernel
theorem dX12_readsCondition_143 : decode cX12_readsCondition 143 = .ok (.iconst 1, 1) := by decide +kernel
theorem dX12_readsCondition_144 : decode cX12_readsCondition 144 = .ok (.ireturn, 1) := by decide +kernel
theorem dX12_readsCondition_145 : decode cX12_readsCondition 145 = .ok (.aload_n 0, 1) := by decide +kernel
theorem dX12_readsCondition_146 : decode cX12_readsCondition 146 = .ok (.invokevirtual 210, 3) := by decide +kernel
theorem dX12_readsCondition_149 : decode cX12_readsCondition 149 = .ok (.goto (-57), 3) := by decide +kernel
theorem dX12_readsCondition_152 : decode cX12_readsCondition 152 = .ok (.aload_n 0, 1) := by decide +kernel
theorem dX12_readsCondition_153 : decode cX12_readsCondition 153 = .ok (.invokevirtual 150, 3) := by decide +kernel
theorem dX12_readsCondition_156 : decode cX12_readsCondition 156 = .ok (.bipush 38, 2) := by decide +kernel
theorem dX12_readsCondition_158 : decode cX12_readsCondition 158 = .ok (.if_icmp .eq 22, 3) := by decide +kernel
theorem dX12_readsCondition_161 : decode cX12_readsCondition 161 = .ok (.aload_n 0, 1) := by decide +kernel
theorem dX12_readsCondition_162 : decode cX12_readsCondition 162 = .ok (.invokevirtual 150, 3) := by decide +kernel
theorem dX12_readsCondition_165 : decode cX12_readsCondition 165 = .ok (.bipush 124, 2) := by decide +kernel
theorem dX12_readsCondition_167 : decode cX12_readsCondition 167 = .ok (.if_icmp .eq 13, 3) := by decide +kernel
theorem dX12_readsCondition_170 : decode cX12_readsCondition 170 = .ok (.aload_n 0, 1) := by decide +kernel
theorem dX12_readsCondition_171 : decode cX12_readsCondition 171 = .ok (.iconst 1, 1) := by decide +kernel
theorem dX12_readsCondition_172 : decode cX12_readsCondition 172 = .ok (.aload_n 0, 1) := by decide +kernel
theorem dX12_readsCondition_173 : decode cX12_readsCondition 173 = .ok (.getfield 144, 3) := by decide +kernel
theorem dX12_readsCondition_176 : decode cX12_readsCondition 176 = .ok (.invokevirtual 157, 3) := by decide +kernel
theorem dX12_readsCondition_179 : decode cX12_readsCondition 179 = .ok (.ireturn, 1) := by decide +kernel
theorem dX12_readsCondition_180 : decode cX12_readsCondition 180 = .ok (.aload_n 0, 1) := by decide +kernel
theorem dX12_readsCondition_181 : decode cX12_readsCondition 181 = .ok (.aload_n 0, 1) := by decide +kernel
theorem dX12_readsCondition_182 : decode cX12_readsCondition 182 = .ok (.invokevirtual 150, 3) := by decide +kernel
theorem dX12_readsCondition_185 : decode cX12_readsCondition 185 = .ok (.bipush 124, 2) := by decide +kernel
theorem dX12_readsCondition_187 : decode cX12_readsCondition 187 = .ok (.if_icmp .ne 7, 3) := by decide +kernel
theorem dX12_readsCondition_190 : decode cX12_readsCondition 190 = .ok (.iconst 1, 1) := by decide +kernel
theorem dX12_readsCondition_191 : decode cX12_readsCondition 191 = .ok (.goto 4, 3) := by decide +kernel
theorem dX12_readsCondition_194 : decode cX12_readsCondition 194 = .ok (.iconst 0, 1) := by decide +kernel
theorem dX12_readsCondition_195 : decode cX12_readsCondition 195 = .ok (.invokevirtual 216, 3) := by decide +kernel
theorem dX12_readsCondition_198 : decode cX12_readsCondition 198 = .ok (.aload_n 0, 1) := by decide +kernel
theorem dX12_readsCondition_199 : decode cX12_readsCondition 199 = .ok (.aload_n 0, 1) := by decide +kernel
theorem dX12_readsCondition_200 : decode cX12_readsCondition 200 = .ok (.invokevirtual 150, 3) := by decide +kernel
theorem dX12_readsCondition_203 : decode cX12_readsCondition 203 = .ok (.bipush 38, 2) := by decide +kernel
theorem dX12_readsCondition_205 : decode cX12_readsCondition 205 = .ok (.if_icmp .ne 8, 3) := by decide +kernel
theorem dX12_readsCondition_208 : decode cX12_readsCondition 208 = .ok (.bipush 11, 2) := by decide +kernel
theorem dX12_readsCondition_210 : decode cX12_readsCondition 210 = .ok (.goto 5, 3) := by decide +kernel
theorem dX12_readsCondition_213 : decode cX12_readsCondition 213 = .ok (.bipush 12, 2) := by decide +kernel
theorem dX12_readsCondition_215 : decode cX12_readsCondition 215 = .ok (.invokevirtual 219, 3) := by decide +kernel
theorem dX12_readsCondition_218 : decode cX12_readsCondition 218 = .ok (.goto (-178), 3) := by decide +kernel
set_option maxRecDepth 100000 in
def f_m_readsCondition (V : Nat → Nat → Int) (J : Nat → Nat → Int) (Rr : Nat → Nat → Nat) : (Int × (Nat → Nat → Int)) → Prop :=
  rdb (V 0 5) fun z1 => fct (0 ≤ z1 ∧ z1 ≤ 220) <| rdb (V 0 6) fun z2 => fct (0 ≤ z2 ∧ z2 ≤ 220) <| rdb (V 0 10) fun z3 => fct (0 ≤ z3 ∧ z3 ≤ 220) <| rdb (V 0 11) fun z4 => fct (0 ≤ z4 ∧ z4 ≤ 220) <| calR (f_m_here V J Rr) fun z5 => fct (-1 ≤ z5 ∧ z5 ≤ 255) <| (if z5 = 40 then rdb (up2 V 0 9 0) fun V7 => rdb (up2 V7 0 11 0) fun V8 => calVM 1180591620717411306144 V8 (f_m_opens 13 V8 J Rr) fun z9 V9 => fct (0 ≤ z9 ∧ z9 ≤ 1) <| (if ¬ z9 = 0 then lop1 ((V9 0 6 - V9 0 5).toNat + 1) (fun rc446 (V446 : Nat → Nat → Int) => rdb (V446 0 5) fun z447 => fct (0 ≤ z447 ∧ z447 ≤ 220) <| rdb (V446 0 6) fun z448 => fct (0 ≤ z448 ∧ z448 ≤ 220) <| rdb (V446 0 10) fun z449 => fct (0 ≤ z449 ∧ z449 ≤ 220) <| rdb (V446 0 11) fun z450 => fct (0 ≤ z450 ∧ z450 ≤ 220) <| calR (f_m_here V446 J Rr) fun z451 => fct (-1 ≤ z451 ∧ z451 ≤ 255) <| (if z451 = 33 then calR (f_m_here V446 J Rr) fun z453 => fct (-1 ≤ z453 ∧ z453 ≤ 255) <| (if ¬ z453 = 33 then calVM 1180591620717411306144 V446 (f_m_opens 13 V446 J Rr) fun z455 V455 => fct (0 ≤ z455 ∧ z455 ≤ 1) <| (if ¬ z455 = 0 then rc446 V455 else rtn (0, V455)) else calVM 1180591620717411306144 V446 (f_m_opens 10 V446 J Rr) fun z458 V458 => fct (0 ≤ z458 ∧ z458 ≤ 1) <| (if ¬ z458 = 0 then rc446 V458 else rtn (0, V458))) else calR (f_m_here V446 J Rr) fun z461 => fct (-1 ≤ z461 ∧ z461 ≤ 255) <| (if ¬ z461 = 40 then calVM 1770887431076116959136 V446 (f_m_readsCompared V446 J Rr) fun z463 V463 => fct (0 ≤ z463 ∧ z463 ≤ 1) <| (if ¬ z463 = 0 then lop1 ((V463 0 11).toNat + 1) (fun rc592 (V592 : Nat → Nat → Int) => rdb (V592 0 5) fun z593 => fct (0 ≤ z593 ∧ z593 ≤ 220) <| rdb (V592 0 6) fun z594 => fct (0 ≤ z594 ∧ z594 ≤ 220) <| rdb (V592 0 10) fun z595 => fct (0 ≤ z595 ∧ z595 ≤ 220) <| rdb (V592 0 11) fun z596 => fct (0 ≤ z596 ∧ z596 ≤ 220) <| calR (f_m_here V592 J Rr) fun z597 => fct (-1 ≤ z597 ∧ z597 ≤ 255) <| (if ¬ z597 = 41 then calR (f_m_here V592 J Rr) fun z599 => fct (-1 ≤ z599 ∧ z599 ≤ 255) <| (if z599 = 38 then calR (f_m_here V592 J Rr) fun z601 => fct (-1 ≤ z601 ∧ z601 ≤ 255) <| (if ¬ z601 = 124 then calUM 590295810358705653760 V592 (f_m_lands 0 V592 J Rr) fun V603 => rdb (V603 0 5) fun z604 => fct (0 ≤ z604 ∧ z604 ≤ 220) <| rdb (V603 0 6) fun z605 => fct (0 ≤ z605 ∧ z605 ≤ 220) <| rdb (V603 0 10) fun z606 => fct (0 ≤ z606 ∧ z606 ≤ 220) <| rdb (V603 0 11) fun z607 => fct (0 ≤ z607 ∧ z607 ≤ 220) <| calR (f_m_here V603 J Rr) fun z608 => fct (-1 ≤ z608 ∧ z608 ≤ 255) <| (if ¬ z608 = 38 then calUM 1770887431076116958240 V603 (f_m_jumps 12 V603 J Rr) fun V610 => rc446 V610 else calUM 1770887431076116958240 V603 (f_m_jumps 11 V603 J Rr) fun V611 => rc446 V611) else calUM 590295810358705653760 V592 (f_m_lands 1 V592 J Rr) fun V612 => rdb (V612 0 5) fun z613 => fct (0 ≤ z613 ∧ z613 ≤ 220) <| rdb (V612 0 6) fun z614 => fct (0 ≤ z614 ∧ z614 ≤ 220) <| rdb (V612 0 10) fun z615 => fct (0 ≤ z615 ∧ z615 ≤ 220) <| rdb (V612 0 11) fun z616 => fct (0 ≤ z616 ∧ z616 ≤ 220) <| calR (f_m_here V612 J Rr) fun z617 => fct (-1 ≤ z617 ∧ z617 ≤ 255) <| (if ¬ z617 = 38 then calUM 1770887431076116958240 V612 (f_m_jumps 12 V612 J Rr) fun V619 => rc446 V619 else calUM 1770887431076116958240 V612 (f_m_jumps 11 V612 J Rr) fun V620 => rc446 V620)) else calR (f_m_here V592 J Rr) fun z621 => fct (-1 ≤ z621 ∧ z621 ≤ 255) <| (if z621 = 124 then calR (f_m_here V592 J Rr) fun z623 => fct (-1 ≤ z623 ∧ z623 ≤ 255) <| (if ¬ z623 = 124 then calUM 590295810358705653760 V592 (f_m_lands 0 V592 J Rr) fun V625 => rdb (V625 0 5) fun z626 => fct (0 ≤ z626 ∧ z626 ≤ 220) <| rdb (V625 0 6) fun z627 => fct (0 ≤ z627 ∧ z627 ≤ 220) <| rdb (V625 0 10) fun z628 => fct (0 ≤ z628 ∧ z628 ≤ 220) <| rdb (V625 0 11) fun z629 => fct (0 ≤ z629 ∧ z629 ≤ 220) <| calR (f_m_here V625 J Rr) fun z630 => fct (-1 ≤ z630 ∧ z630 ≤ 255) <| (if ¬ z630 = 38 then calUM 1770887431076116958240 V625 (f_m_jumps 12 V625 J Rr) fun V632 => rc446 V632 else calUM 1770887431076116958240 V625 (f_m_jumps 11 V625 J Rr) fun V633 => rc446 V633) else calUM 590295810358705653760 V592 (f_m_lands 1 V592 J Rr) fun V634 => rdb (V634 0 5) fun z635 => fct (0 ≤ z635 ∧ z635 ≤ 220) <| rdb (V634 0 6) fun z636 => fct (0 ≤ z636 ∧ z636 ≤ 220) <| rdb (V634 0 10) fun z637 => fct (0 ≤ z637 ∧ z637 ≤ 220) <| rdb (V634 0 11) fun z638 => fct (0 ≤ z638 ∧ z638 ≤ 220) <| calR (f_m_here V634 J Rr) fun z639 => fct (-1 ≤ z639 ∧ z639 ≤ 255) <| (if ¬ z639 = 38 then calUM 1770887431076116958240 V634 (f_m_jumps 12 V634 J Rr) fun V641 => rc446 V641 else calUM 1770887431076116958240 V634 (f_m_jumps 11 V634 J Rr) fun V642 => rc446 V642)) else calVM 128 V592 (f_m_wrongAt 1 z593 V592 J Rr) fun z643 V643 => fct (0 ≤ z643 ∧ z643 ≤ 0) <| rtn (z643, V643))) else calUM 590295810358705653760 V592 (f_m_lands 1 V592 J Rr) fun V644 => rdb (V644 0 5) fun z645 => fct (0 ≤ z645 ∧ z645 ≤ 220) <| rdb (V644 0 6) fun z646 => fct (0 ≤ z646 ∧ z646 ≤ 220) <| rdb (V644 0 10) fun z647 => fct (0 ≤ z647 ∧ z647 ≤ 220) <| rdb (V644 0 11) fun z648 => fct (0 ≤ z648 ∧ z648 ≤ 220) <| rdb (up2 V644 0 11 (z648 - 1)) fun V649 => rdb (V649 0 9) fun z650 => rdb (wr (z650 - 1)) fun z651 => rdb (up2 V649 0 9 z651) fun V652 => rdb (up2 V652 0 5 (z645 + 1)) fun V653 => (if ¬ z648 - 1 = 0 then calUM 590295810358705655296 V653 (f_m_endsPiece V653 J Rr) fun V655 => rc592 V655 else rtn (1, V653)))) V463 else rtn (0, V463)) else calR (f_m_here V446 J Rr) fun z656 => fct (-1 ≤ z656 ∧ z656 ≤ 255) <| (if ¬ z656 = 33 then calVM 1180591620717411306144 V446 (f_m_opens 13 V446 J Rr) fun z658 V658 => fct (0 ≤ z658 ∧ z658 ≤ 1) <| (if ¬ z658 = 0 then rc446 V658 else rtn (0, V658)) else calVM 1180591620717411306144 V446 (f_m_opens 10 V446 J Rr) fun z661 V661 => fct (0 ≤ z661 ∧ z661 ≤ 1) <| (if ¬ z661 = 0 then rc446 V661 else rtn (0, V661)))))) V9 else rtn (0, V9)) else calVM 128 V (f_m_wrongAt 1 z1 V J Rr) fun z664 V664 => fct (0 ≤ z664 ∧ z664 ≤ 0) <| rtn (z664, V664))
set_option maxHeartbeats 8000000 in
set_option maxRecDepth 100000 in
theorem m_readsCondition (l : Launch) (D : va_G) (cy : Nat → ClassId) (ad : Nat → Nat) (G : Nat → Nat → Int) (V J : Nat → Nat → Int) (Rr : Nat → Nat → Nat) (hI : MI G V) (hJ : VJ J) (hR : MR Rr) (hP : PG V) (hc : V 0 10 ≤ V 0 5) : xMi l D (xTY cy) yX12_readsCondition cX12_readsCondition 1 (some .boolean) 6 125 0 0 [.ref (ad 0)] (MW cy ad V J Rr) (fun u : Nat → Nat → Int => MW cy ad u J Rr) (fun a (u : Nat → Nat → Int) => MI G u ∧ (0 ≤ a ∧ a ≤ 1) ∧ Sp a (pCond V u) ∧ FBm 1770887431076116959136 V u ∧ (f_m_readsCondition V J Rr) (a, u)) := by
  refine xMi.mk (lv0 := [(0, .ref (ad 0))]) (by decide) rfl (Nat.le_of_ble_eq_true rfl) (fun p e s m below meth c A C hr hnm hAe => ?_)
  have C : xC2 p s m _ meth c D A s.heap 1 cX12_readsCondition RX12 (xTY cy) := C
  have hB : FBm 1770887431076116959136 V V := FBm.rf _ _
  have hF := Imp.of_eq (f_m_readsCondition.eq_def V J Rr)
  obtain ⟨z1, ez1, bz1⟩ := hI.rd 0 5 (x := 0) (y := 220) rfl
  replace hF := hF.to (rdb_e (z := z1) ez1)
  replace hF := hF.fc bz1
  obtain ⟨z2, ez2, bz2⟩ := hI.rd 0 6 (x := 0) (y := 220) rfl
  replace hF := hF.to (rdb_e (z := z2) ez2)
  replace hF := hF.fc bz2
  obtain ⟨z3, ez3, bz3⟩ := hI.rd 0 10 (x := 0) (y := 220) rfl
  replace hF := hF.to (rdb_e (z := z3) ez3)
  replace hF := hF.fc bz3
  obtain ⟨z4, ez4, bz4⟩ := hI.rd 0 11 (x := 0) (y := 220) rfl
  replace hF := hF.to (rdb_e (z := z4) ez4)
  replace hF := hF.fc bz4
  have hpzv := hP
  unfold PG at hpzv
  rw [ez1, ez2, ez3, ez4] at hpzv
  have hcv := hc
  rw [ez3, ez1] at hcv
  refine x_aload_n C.1 dX12_readsCondition_0 0 rfl ?_
  refine x_callVi C (As := []) (rest := []) 0 (xw_at (N := 33) (i := 0) (by decide) rfl) vc_X12 (m_here l D cy ad G V J Rr hI hJ hR ) (l1 := []) (l2 := []) (List.append_nil _).symm (w2 := fun _ => MW cy ad V J Rr) (fun _ => List.append_nil _) rfl wm_yX12_here wn_X12 wl_X12_150 wi_yX12_here we_yX12_here hd_yX12_here rfl ⟨Nat.le_of_ble_eq_true rfl, Nat.le_of_ble_eq_true rfl⟩ (Nat.le_of_ble_eq_true rfl) ⟨Nat.le_of_ble_eq_true rfl, Nat.le_of_ble_eq_true rfl⟩ dX12_readsCondition_1 (fun z5 u5 bz5 h5 => ?_)
  obtain ⟨bq5, hx5_0, hx5_1, hFc5⟩ := h5
  replace hF := calR_i hF hFc5
  replace hF := hF.fc bq5
  rw [ez1, ez2] at hx5_0
  refine x_bipush C.1 (n := 40) dX12_readsCondition_4 ?_
  refine x_icmp_eq C.1 (tgt := 19) dX12_readsCondition_6 (by decide) (by omega) (by decide) (fun hc6 => ?_) (fun hc6 => ?_)
  · replace hF := hF.to (if_pos hc6)
    refine x_aload_n C.1 dX12_readsCondition_19 0 rfl ?_
    refine x_iconst C.1 (n := 0) dX12_readsCondition_20 ?_
    refine x_putI C (N := 33) (i := 0) (by decide) rfl vc_X12 wx_X12 9 (by decide) wf_X12_171 tyX12 tyX12_ok nmX12 rfl (tyX12_ok 9 (by decide)) rfl dX12_readsCondition_21 rfl rfl ?_
    refine x_gV ?_
    intro V7 hV7
    have hI7 : MI G V7 := hI.up hV7 rfl (by decide) rfl (Or.inl (by decide))
    have hB7 := hB.up hV7 rfl
    replace hF := hF.to (rdb_e (z := V7) hV7.symm)
    refine x_aload_n C.1 dX12_readsCondition_24 0 rfl ?_
    refine x_iconst C.1 (n := 0) dX12_readsCondition_25 ?_
    refine x_putI C (N := 33) (i := 0) (by decide) rfl vc_X12 wx_X12 11 (by decide) wf_X12_174 tyX12 tyX12_ok nmX12 rfl (tyX12_ok 11 (by decide)) rfl dX12_readsCondition_26 rfl rfl ?_
    refine x_gV ?_
    intro V8 hV8
    have hI8 : MI G V8 := hI7.up hV8 rfl (by decide) rfl (Or.inl (by decide))
    have hB8 := hB7.up hV8 rfl
    replace hF := hF.to (rdb_e (z := V8) hV8.symm)
    have hb := begC hP hc (u := V8) (by rw [hV8, hV7])
    refine x_aload_n C.1 dX12_readsCondition_29 0 rfl ?_
    refine x_bipush C.1 (n := 13) dX12_readsCondition_30 ?_
    refine x_callVi C (As := [vI 13]) (rest := []) 0 (xw_at (N := 33) (i := 0) (by decide) rfl) vc_X12 (m_opens l D cy ad G V8 J Rr hI8 hJ hR 13 ⟨by decide, by decide⟩ (by rw [((congrFun (congrFun hV8 0) 5).trans ((up2_n _ _ (Or.inr (by decide))).trans ((congrFun (congrFun hV7 0) 5).trans ((up2_n _ _ (Or.inr (by decide))).trans ez1)))), ((congrFun (congrFun hV8 0) 6).trans ((up2_n _ _ (Or.inr (by decide))).trans ((congrFun (congrFun hV7 0) 6).trans ((up2_n _ _ (Or.inr (by decide))).trans ez2))))]; omega) (by rw [((congrFun (congrFun hV8 0) 6).trans ((up2_n _ _ (Or.inr (by decide))).trans ((congrFun (congrFun hV7 0) 6).trans ((up2_n _ _ (Or.inr (by decide))).trans ez2))))]; omega) (by rw [((congrFun (congrFun hV8 0) 11).trans (up2_s _ _ _ _))]; omega)) (l1 := []) (l2 := []) (List.append_nil _).symm (w2 := fun u : Nat → Nat → Int => MW cy ad u J Rr) (fun _ => List.append_nil _) rfl wm_yX12_opens wn_X12 wl_X12_184 wi_yX12_opens we_yX12_opens hd_yX12_opens rfl ⟨Nat.le_of_ble_eq_true rfl, Nat.le_of_ble_eq_true rfl⟩ (Nat.le_of_ble_eq_true rfl) ⟨Nat.le_of_ble_eq_true rfl, Nat.le_of_ble_eq_true rfl⟩ dX12_readsCondition_32 (fun z9 V9 bz9 h9 => ?_)
    obtain ⟨hI9, bq9, hx9_0, hBc9, hFc9⟩ := h9
    replace hF := calVM_i hF hFc9 hBc9
    replace hF := hF.fc bq9
    have hB9 := hB8.tr hBc9 (m := 1180591620717411306144) rfl
    refine x_if_ne C.1 (tgt := 40) dX12_readsCondition_35 (by decide) (by omega) (fun hc10 => ?_) (fun hc10 => ?_)
    · replace hF := hF.to (if_pos hc10)
      have hon11 := Sp.on hx9_0 (by omega)
      obtain ⟨o, ho⟩ := hon11
      have hk0 := opnC hb.1 hb.2.1 (by rw [((congrFun (congrFun hV8 0) 5).trans ((up2_n _ _ (Or.inr (by decide))).trans ((congrFun (congrFun hV7 0) 5).trans ((up2_n _ _ (Or.inr (by decide))).trans ez1)))), ((congrFun (congrFun hV8 0) 6).trans ((up2_n _ _ (Or.inr (by decide))).trans ((congrFun (congrFun hV7 0) 6).trans ((up2_n _ _ (Or.inr (by decide))).trans ez2))))]; omega) (Or.inl (pdv_m0 (s := 13) (by omega))) ho
      obtain ⟨bd446, hbd446, hF⟩ := lop1_ex hF
      refine x_loop (I := fun V446 : (Nat → Nat → Int) => MI G V446 ∧ FBm 1770887431076116959136 V V446 ∧ CI (V 0 10) 0 0 V446 ∧ PG V446 ∧ FrC (V 0 10) V V446 ∧ 0 < V446 0 11 ∧ (∃ nf : Nat, (V446 0 6 - V446 0 5).toNat < nf ∧ Imp (lop1 nf bd446 V446) (f_m_readsCondition V J Rr))) (μ := fun V446 : (Nat → Nat → Int) => (V446 0 6 - V446 0 5).toNat) (wsf := fun V446 : (Nat → Nat → Int) => MW cy ad V446 J Rr) (lvf := fun V446 : (Nat → Nat → Int) => [(0, .ref (ad 0))]) (fun V446 hI446x ih446 => ?_) V9 ⟨hI9, hB9, hk0.1.1, hk0.1.2.1, (hb.2.2.tr hk0.1.2.2.1), hk0.1.2.2.2, ⟨_, (Nat.lt_succ_self _), hF⟩⟩ rfl rfl
      obtain ⟨hI446, hB446, hs, hp, hf, h0w, nf446, hn446, hF⟩ := hI446x
      try dsimp only
      obtain ⟨nf446, rfl⟩ : ∃ mm, nf446 = mm + 1 := ⟨nf446 - 1, (Nat.succ_pred_eq_of_pos (Nat.lt_of_le_of_lt (Nat.zero_le _) hn446)).symm⟩
      replace hF := hF.to (lop1_s hbd446)
      obtain ⟨z447, ez447, bz447⟩ := hI446.rd 0 5 (x := 0) (y := 220) rfl
      replace hF := hF.to (rdb_e (z := z447) ez447)
      replace hF := hF.fc bz447
      obtain ⟨z448, ez448, bz448⟩ := hI446.rd 0 6 (x := 0) (y := 220) rfl
      replace hF := hF.to (rdb_e (z := z448) ez448)
      replace hF := hF.fc bz448
      obtain ⟨z449, ez449, bz449⟩ := hI446.rd 0 10 (x := 0) (y := 220) rfl
      replace hF := hF.to (rdb_e (z := z449) ez449)
      replace hF := hF.fc bz449
      obtain ⟨z450, ez450, bz450⟩ := hI446.rd 0 11 (x := 0) (y := 220) rfl
      replace hF := hF.to (rdb_e (z := z450) ez450)
      replace hF := hF.fc bz450
      have hc2c := hs.c200 hp
      rw [ez447, ez449, ez450] at hc2c
      have hpzc := hp
      unfold PG at hpzc
      rw [ez447, ez448, ez449, ez450] at hpzc
      refine x_aload_n C.1 dX12_readsCondition_40 0 rfl ?_
      refine x_callVi C (As := []) (rest := []) 0 (xw_at (N := 33) (i := 0) (by decide) rfl) vc_X12 (m_here l D cy ad G V446 J Rr hI446 hJ hR ) (l1 := []) (l2 := []) (List.append_nil _).symm (w2 := fun _ => MW cy ad V446 J Rr) (fun _ => List.append_nil _) rfl wm_yX12_here wn_X12 wl_X12_150 wi_yX12_here we_yX12_here hd_yX12_here rfl ⟨Nat.le_of_ble_eq_true rfl, Nat.le_of_ble_eq_true rfl⟩ (Nat.le_of_ble_eq_true rfl) ⟨Nat.le_of_ble_eq_true rfl, Nat.le_of_ble_eq_true rfl⟩ dX12_readsCondition_41 (fun z451 u451 bz451 h451 => ?_)
      obtain ⟨bq451, hx451_0, hx451_1, hFc451⟩ := h451
      replace hF := calR_i hF hFc451
      replace hF := hF.fc bq451
      rw [ez447, ez448] at hx451_0
      refine x_bipush C.1 (n := 33) dX12_readsCondition_44 ?_
      refine x_icmp_eq C.1 (tgt := 58) dX12_readsCondition_46 (by decide) (by omega) (by decide) (fun hc452 => ?_) (fun hc452 => ?_)
      · replace hF := hF.to (if_pos hc452)
        refine x_aload_n C.1 dX12_readsCondition_58 0 rfl ?_
        refine x_aload_n C.1 dX12_readsCondition_59 0 rfl ?_
        refine x_callVi C (As := []) (rest := [.ref (ad 0)]) 0 (xw_at (N := 33) (i := 0) (by decide) rfl) vc_X12 (m_here l D cy ad G V446 J Rr hI446 hJ hR ) (l1 := []) (l2 := []) (List.append_nil _).symm (w2 := fun _ => MW cy ad V446 J Rr) (fun _ => List.append_nil _) rfl wm_yX12_here wn_X12 wl_X12_150 wi_yX12_here we_yX12_here hd_yX12_here rfl ⟨Nat.le_of_ble_eq_true rfl, Nat.le_of_ble_eq_true rfl⟩ (Nat.le_of_ble_eq_true rfl) ⟨Nat.le_of_ble_eq_true rfl, Nat.le_of_ble_eq_true rfl⟩ dX12_readsCondition_60 (fun z453 u453 bz453 h453 => ?_)
        obtain ⟨bq453, hx453_0, hx453_1, hFc453⟩ := h453
        replace hF := calR_i hF hFc453
        replace hF := hF.fc bq453
        rw [ez447, ez448] at hx453_0
        refine x_bipush C.1 (n := 33) dX12_readsCondition_63 ?_
        refine x_icmp_ne C.1 (tgt := 73) dX12_readsCondition_65 (by decide) (by omega) (by decide) (fun hc454 => ?_) (fun hc454 => ?_)
        · replace hF := hF.to (if_pos hc454)
          refine x_bipush C.1 (n := 13) dX12_readsCondition_73 ?_
          refine x_callVi C (As := [vI 13]) (rest := []) 0 (xw_at (N := 33) (i := 0) (by decide) rfl) vc_X12 (m_opens l D cy ad G V446 J Rr hI446 hJ hR 13 ⟨by decide, by decide⟩ (by rw [ez447, ez448]; omega) (by rw [ez448]; omega) (by rw [ez450]; omega)) (l1 := []) (l2 := []) (List.append_nil _).symm (w2 := fun u : Nat → Nat → Int => MW cy ad u J Rr) (fun _ => List.append_nil _) rfl wm_yX12_opens wn_X12 wl_X12_184 wi_yX12_opens we_yX12_opens hd_yX12_opens rfl ⟨Nat.le_of_ble_eq_true rfl, Nat.le_of_ble_eq_true rfl⟩ (Nat.le_of_ble_eq_true rfl) ⟨Nat.le_of_ble_eq_true rfl, Nat.le_of_ble_eq_true rfl⟩ dX12_readsCondition_75 (fun z455 V455 bz455 h455 => ?_)
          obtain ⟨hI455, bq455, hx455_0, hBc455, hFc455⟩ := h455
          replace hF := calVM_i hF hFc455 hBc455
          replace hF := hF.fc bq455
          have hB455 := hB446.tr hBc455 (m := 1180591620717411306144) rfl
          refine x_if_ne C.1 (tgt := 40) dX12_readsCondition_78 (by decide) (by omega) (fun hc456 => ?_) (fun hc456 => ?_)
          · replace hF := hF.to (if_pos hc456)
            have hon457 := Sp.on hx455_0 (by omega)
            obtain ⟨o, ho⟩ := hon457
            have hkb := opnC hs hp (by rw [ez447, ez448]; omega) (Or.inl (pdv_m0 (s := 13) (by omega))) ho
            have hm1 := hkb.1.2.2.1.2.1
            have hm2 := hkb.2
            have hm3 := hkb.1.2.1.2.1
            have hmu446 : (V455 0 6 - V455 0 5).toNat < (V446 0 6 - V446 0 5).toNat := (by omega)
            exact ih446 V455 ⟨hI455, hB455, hkb.1.1, hkb.1.2.1, (hf.tr hkb.1.2.2.1), hkb.1.2.2.2, ⟨nf446, Nat.lt_of_lt_of_le hmu446 (Nat.le_of_lt_succ hn446), hF⟩⟩ hmu446
          · replace hF := hF.to (if_neg (fun hh => hh hc456))
            refine x_iconst C.1 (n := 0) dX12_readsCondition_81 ?_
            exact x_zret (S := (Nat → Nat → Int)) (post := (fun a (u : Nat → Nat → Int) => MI G u ∧ (0 ≤ a ∧ a ≤ 1) ∧ Sp a (pCond V u) ∧ FBm 1770887431076116959136 V u ∧ (f_m_readsCondition V J Rr) (a, u))) (w1 := (fun u : Nat → Nat → Int => MW cy ad u J Rr)) (a := 0) C hr rfl dX12_readsCondition_82 (by decide) V455 rfl ⟨hI455, ⟨by decide, by decide⟩, (Or.inl rfl), hB455, hF _ rfl⟩
        · replace hF := hF.to (if_neg (fun hh => hh hc454))
          refine x_bipush C.1 (n := 10) dX12_readsCondition_68 ?_
          refine x_goto C.1 (tgt := 75) dX12_readsCondition_70 (by decide) ?_
          refine x_callVi C (As := [vI 10]) (rest := []) 0 (xw_at (N := 33) (i := 0) (by decide) rfl) vc_X12 (m_opens l D cy ad G V446 J Rr hI446 hJ hR 10 ⟨by decide, by decide⟩ (by rw [ez447, ez448]; omega) (by rw [ez448]; omega) (by rw [ez450]; omega)) (l1 := []) (l2 := []) (List.append_nil _).symm (w2 := fun u : Nat → Nat → Int => MW cy ad u J Rr) (fun _ => List.append_nil _) rfl wm_yX12_opens wn_X12 wl_X12_184 wi_yX12_opens we_yX12_opens hd_yX12_opens rfl ⟨Nat.le_of_ble_eq_true rfl, Nat.le_of_ble_eq_true rfl⟩ (Nat.le_of_ble_eq_true rfl) ⟨Nat.le_of_ble_eq_true rfl, Nat.le_of_ble_eq_true rfl⟩ dX12_readsCondition_75 (fun z458 V458 bz458 h458 => ?_)
          obtain ⟨hI458, bq458, hx458_0, hBc458, hFc458⟩ := h458
          replace hF := calVM_i hF hFc458 hBc458
          replace hF := hF.fc bq458
          have hB458 := hB446.tr hBc458 (m := 1180591620717411306144) rfl
          refine x_if_ne C.1 (tgt := 40) dX12_readsCondition_78 (by decide) (by omega) (fun hc459 => ?_) (fun hc459 => ?_)
          · replace hF := hF.to (if_pos hc459)
            have hon460 := Sp.on hx458_0 (by omega)
            obtain ⟨o, ho⟩ := hon460
            have hkb := opnC hs hp (by rw [ez447, ez448]; omega) (Or.inr ⟨pdv_m0 (s := 10) (by omega), h0w⟩) ho
            have hm1 := hkb.1.2.2.1.2.1
            have hm2 := hkb.2
            have hm3 := hkb.1.2.1.2.1
            have hmu446 : (V458 0 6 - V458 0 5).toNat < (V446 0 6 - V446 0 5).toNat := (by omega)
            exact ih446 V458 ⟨hI458, hB458, hkb.1.1, hkb.1.2.1, (hf.tr hkb.1.2.2.1), hkb.1.2.2.2, ⟨nf446, Nat.lt_of_lt_of_le hmu446 (Nat.le_of_lt_succ hn446), hF⟩⟩ hmu446
          · replace hF := hF.to (if_neg (fun hh => hh hc459))
            refine x_iconst C.1 (n := 0) dX12_readsCondition_81 ?_
            exact x_zret (S := (Nat → Nat → Int)) (post := (fun a (u : Nat → Nat → Int) => MI G u ∧ (0 ≤ a ∧ a ≤ 1) ∧ Sp a (pCond V u) ∧ FBm 1770887431076116959136 V u ∧ (f_m_readsCondition V J Rr) (a, u))) (w1 := (fun u : Nat → Nat → Int => MW cy ad u J Rr)) (a := 0) C hr rfl dX12_readsCondition_82 (by decide) V458 rfl ⟨hI458, ⟨by decide, by decide⟩, (Or.inl rfl), hB458, hF _ rfl⟩
      · replace hF := hF.to (if_neg hc452)
        refine x_aload_n C.1 dX12_readsCondition_49 0 rfl ?_
        refine x_callVi C (As := []) (rest := []) 0 (xw_at (N := 33) (i := 0) (by decide) rfl) vc_X12 (m_here l D cy ad G V446 J Rr hI446 hJ hR ) (l1 := []) (l2 := []) (List.append_nil _).symm (w2 := fun _ => MW cy ad V446 J Rr) (fun _ => List.append_nil _) rfl wm_yX12_here wn_X12 wl_X12_150 wi_yX12_here we_yX12_here hd_yX12_here rfl ⟨Nat.le_of_ble_eq_true rfl, Nat.le_of_ble_eq_true rfl⟩ (Nat.le_of_ble_eq_true rfl) ⟨Nat.le_of_ble_eq_true rfl, Nat.le_of_ble_eq_true rfl⟩ dX12_readsCondition_50 (fun z461 u461 bz461 h461 => ?_)
        obtain ⟨bq461, hx461_0, hx461_1, hFc461⟩ := h461
        replace hF := calR_i hF hFc461
        replace hF := hF.fc bq461
        rw [ez447, ez448] at hx461_0
        refine x_bipush C.1 (n := 40) dX12_readsCondition_53 ?_
        refine x_icmp_ne C.1 (tgt := 83) dX12_readsCondition_55 (by decide) (by omega) (by decide) (fun hc462 => ?_) (fun hc462 => ?_)
        · replace hF := hF.to (if_pos hc462)
          refine x_aload_n C.1 dX12_readsCondition_83 0 rfl ?_
          refine x_callVi C (As := []) (rest := []) 0 (xw_at (N := 33) (i := 0) (by decide) rfl) vc_X12 (m_readsCompared l D cy ad G V446 J Rr hI446 hJ hR (V 0 10) hs hp h0w) (l1 := []) (l2 := []) (List.append_nil _).symm (w2 := fun u : Nat → Nat → Int => MW cy ad u J Rr) (fun _ => List.append_nil _) rfl wm_yX12_readsCompared wn_X12 wl_X12_213 wi_yX12_readsCompared we_yX12_readsCompared hd_yX12_readsCompared rfl ⟨Nat.le_of_ble_eq_true rfl, Nat.le_of_ble_eq_true rfl⟩ (Nat.le_of_ble_eq_true rfl) ⟨Nat.le_of_ble_eq_true rfl, Nat.le_of_ble_eq_true rfl⟩ dX12_readsCondition_84 (fun z463 V463 bz463 h463 => ?_)
          obtain ⟨hI463, bq463, hx463_0, hBc463, hFc463⟩ := h463
          replace hF := calVM_i hF hFc463 hBc463
          replace hF := hF.fc bq463
          have hB463 := hB446.tr hBc463 (m := 1770887431076116959136) rfl
          refine x_if_ne C.1 (tgt := 92) dX12_readsCondition_87 (by decide) (by omega) (fun hc464 => ?_) (fun hc464 => ?_)
          · replace hF := hF.to (if_pos hc464)
            have hon465 := Sp.on hx463_0 (by omega)
            obtain ⟨bd592, hbd592, hF⟩ := lop1_ex hF
            refine x_loop (I := fun V592 : (Nat → Nat → Int) => MI G V592 ∧ FBm 1770887431076116959136 V V592 ∧ pQ (V 0 10) 0 1 V446 V592 ∧ V446 0 5 < V592 0 5 ∧ (∃ nf : Nat, (V592 0 11).toNat < nf ∧ Imp (lop1 nf bd592 V592) (f_m_readsCondition V J Rr))) (μ := fun V592 : (Nat → Nat → Int) => (V592 0 11).toNat) (wsf := fun V592 : (Nat → Nat → Int) => MW cy ad V592 J Rr) (lvf := fun V592 : (Nat → Nat → Int) => [(0, .ref (ad 0))]) (fun V592 hI592x ih592 => ?_) V463 ⟨hI463, hB463, hon465.1, hon465.2, ⟨_, (Nat.lt_succ_self _), hF⟩⟩ rfl rfl
            obtain ⟨hI592, hB592, hq, hql, nf592, hn592, hF⟩ := hI592x
            try dsimp only
            obtain ⟨nf592, rfl⟩ : ∃ mm, nf592 = mm + 1 := ⟨nf592 - 1, (Nat.succ_pred_eq_of_pos (Nat.lt_of_le_of_lt (Nat.zero_le _) hn592)).symm⟩
            replace hF := hF.to (lop1_s hbd592)
            obtain ⟨z593, ez593, bz593⟩ := hI592.rd 0 5 (x := 0) (y := 220) rfl
            replace hF := hF.to (rdb_e (z := z593) ez593)
            replace hF := hF.fc bz593
            obtain ⟨z594, ez594, bz594⟩ := hI592.rd 0 6 (x := 0) (y := 220) rfl
            replace hF := hF.to (rdb_e (z := z594) ez594)
            replace hF := hF.fc bz594
            obtain ⟨z595, ez595, bz595⟩ := hI592.rd 0 10 (x := 0) (y := 220) rfl
            replace hF := hF.to (rdb_e (z := z595) ez595)
            replace hF := hF.fc bz595
            obtain ⟨z596, ez596, bz596⟩ := hI592.rd 0 11 (x := 0) (y := 220) rfl
            replace hF := hF.to (rdb_e (z := z596) ez596)
            replace hF := hF.fc bz596
            have hc2q := hq.1.c200 hq.2.1
            rw [ez593, ez595, ez596] at hc2q
            have hpzq := hq.2.1
            unfold PG at hpzq
            rw [ez593, ez594, ez595, ez596] at hpzq
            refine x_aload_n C.1 dX12_readsCondition_92 0 rfl ?_
            refine x_callVi C (As := []) (rest := []) 0 (xw_at (N := 33) (i := 0) (by decide) rfl) vc_X12 (m_here l D cy ad G V592 J Rr hI592 hJ hR ) (l1 := []) (l2 := []) (List.append_nil _).symm (w2 := fun _ => MW cy ad V592 J Rr) (fun _ => List.append_nil _) rfl wm_yX12_here wn_X12 wl_X12_150 wi_yX12_here we_yX12_here hd_yX12_here rfl ⟨Nat.le_of_ble_eq_true rfl, Nat.le_of_ble_eq_true rfl⟩ (Nat.le_of_ble_eq_true rfl) ⟨Nat.le_of_ble_eq_true rfl, Nat.le_of_ble_eq_true rfl⟩ dX12_readsCondition_93 (fun z597 u597 bz597 h597 => ?_)
            obtain ⟨bq597, hx597_0, hx597_1, hFc597⟩ := h597
            replace hF := calR_i hF hFc597
            replace hF := hF.fc bq597
            rw [ez593, ez594] at hx597_0
            refine x_bipush C.1 (n := 41) dX12_readsCondition_96 ?_
            refine x_icmp_ne C.1 (tgt := 152) dX12_readsCondition_98 (by decide) (by omega) (by decide) (fun hc598 => ?_) (fun hc598 => ?_)
            · replace hF := hF.to (if_pos hc598)
              refine x_aload_n C.1 dX12_readsCondition_152 0 rfl ?_
              refine x_callVi C (As := []) (rest := []) 0 (xw_at (N := 33) (i := 0) (by decide) rfl) vc_X12 (m_here l D cy ad G V592 J Rr hI592 hJ hR ) (l1 := []) (l2 := []) (List.append_nil _).symm (w2 := fun _ => MW cy ad V592 J Rr) (fun _ => List.append_nil _) rfl wm_yX12_here wn_X12 wl_X12_150 wi_yX12_here we_yX12_here hd_yX12_here rfl ⟨Nat.le_of_ble_eq_true rfl, Nat.le_of_ble_eq_true rfl⟩ (Nat.le_of_ble_eq_true rfl) ⟨Nat.le_of_ble_eq_true rfl, Nat.le_of_ble_eq_true rfl⟩ dX12_readsCondition_153 (fun z599 u599 bz599 h599 => ?_)
              obtain ⟨bq599, hx599_0, hx599_1, hFc599⟩ := h599
              replace hF := calR_i hF hFc599
              replace hF := hF.fc bq599
              rw [ez593, ez594] at hx599_0
              refine x_bipush C.1 (n := 38) dX12_readsCondition_156 ?_
              refine x_icmp_eq C.1 (tgt := 180) dX12_readsCondition_158 (by decide) (by omega) (by decide) (fun hc600 => ?_) (fun hc600 => ?_)
              · replace hF := hF.to (if_pos hc600)
                refine x_aload_n C.1 dX12_readsCondition_180 0 rfl ?_
                refine x_aload_n C.1 dX12_readsCondition_181 0 rfl ?_
                refine x_callVi C (As := []) (rest := [.ref (ad 0)]) 0 (xw_at (N := 33) (i := 0) (by decide) rfl) vc_X12 (m_here l D cy ad G V592 J Rr hI592 hJ hR ) (l1 := []) (l2 := []) (List.append_nil _).symm (w2 := fun _ => MW cy ad V592 J Rr) (fun _ => List.append_nil _) rfl wm_yX12_here wn_X12 wl_X12_150 wi_yX12_here we_yX12_here hd_yX12_here rfl ⟨Nat.le_of_ble_eq_true rfl, Nat.le_of_ble_eq_true rfl⟩ (Nat.le_of_ble_eq_true rfl) ⟨Nat.le_of_ble_eq_true rfl, Nat.le_of_ble_eq_true rfl⟩ dX12_readsCondition_182 (fun z601 u601 bz601 h601 => ?_)
                obtain ⟨bq601, hx601_0, hx601_1, hFc601⟩ := h601
                replace hF := calR_i hF hFc601
                replace hF := hF.fc bq601
                rw [ez593, ez594] at hx601_0
                refine x_bipush C.1 (n := 124) dX12_readsCondition_185 ?_
                refine x_icmp_ne C.1 (tgt := 194) dX12_readsCondition_187 (by decide) (by omega) (by decide) (fun hc602 => ?_) (fun hc602 => ?_)
                · replace hF := hF.to (if_pos hc602)
                  refine x_iconst C.1 (n := 0) dX12_readsCondition_194 ?_
                  refine x_callVv C (As := [vI 0]) (rest := []) 0 (xw_at (N := 33) (i := 0) (by decide) rfl) vc_X12 (m_lands l D cy ad G V592 J Rr hI592 hJ hR 0 ⟨by decide, by decide⟩ (V 0 10) 0 hq.1 hq.2.1 hq.2.2.2) (l1 := []) (l2 := []) (List.append_nil _).symm (w2 := fun u : Nat → Nat → Int => MW cy ad u J Rr) (fun _ => List.append_nil _) rfl wm_yX12_lands wn_X12 wl_X12_216 wi_yX12_lands we_yX12_lands hd_yX12_lands rfl ⟨Nat.le_of_ble_eq_true rfl, Nat.le_of_ble_eq_true rfl⟩ (Nat.le_of_ble_eq_true rfl) ⟨Nat.le_of_ble_eq_true rfl, Nat.le_of_ble_eq_true rfl⟩ dX12_readsCondition_195 (fun V603 h603 => ?_)
                  obtain ⟨hI603, hx603_0, hx603_1, hBc603, hFc603⟩ := h603
                  replace hF := calUM_i hF hFc603 hBc603
                  have hB603 := hB592.tr hBc603 (m := 590295810358705653760) rfl
                  obtain ⟨z604, ez604, bz604⟩ := hI603.rd 0 5 (x := 0) (y := 220) rfl
                  replace hF := hF.to (rdb_e (z := z604) ez604)
                  replace hF := hF.fc bz604
                  obtain ⟨z605, ez605, bz605⟩ := hI603.rd 0 6 (x := 0) (y := 220) rfl
                  replace hF := hF.to (rdb_e (z := z605) ez605)
                  replace hF := hF.fc bz605
                  obtain ⟨z606, ez606, bz606⟩ := hI603.rd 0 10 (x := 0) (y := 220) rfl
                  replace hF := hF.to (rdb_e (z := z606) ez606)
                  replace hF := hF.fc bz606
                  obtain ⟨z607, ez607, bz607⟩ := hI603.rd 0 11 (x := 0) (y := 220) rfl
                  replace hF := hF.to (rdb_e (z := z607) ez607)
                  replace hF := hF.fc bz607
                  have hc2603 := hx603_0.1.1.c200 hx603_0.1.2.1
                  rw [ez604, ez606, ez607] at hc2603
                  have hpz603 := hx603_0.1.2.1
                  unfold PG at hpz603
                  rw [ez604, ez605, ez606, ez607] at hpz603
                  have e5603 : z604 = z593 := by rw [← ez604, ← ez593]; exact hx603_0.2.1
                  have e6603 : z605 = z594 := by rw [← ez605, ← ez594]; exact hx603_0.1.2.2.1.2.1
                  have e0603 := hx603_0.1.2.2.2
                  rw [ez607] at e0603
                  refine x_aload_n C.1 dX12_readsCondition_198 0 rfl ?_
                  refine x_aload_n C.1 dX12_readsCondition_199 0 rfl ?_
                  refine x_callVi C (As := []) (rest := [.ref (ad 0)]) 0 (xw_at (N := 33) (i := 0) (by decide) rfl) vc_X12 (m_here l D cy ad G V603 J Rr hI603 hJ hR ) (l1 := []) (l2 := []) (List.append_nil _).symm (w2 := fun _ => MW cy ad V603 J Rr) (fun _ => List.append_nil _) rfl wm_yX12_here wn_X12 wl_X12_150 wi_yX12_here we_yX12_here hd_yX12_here rfl ⟨Nat.le_of_ble_eq_true rfl, Nat.le_of_ble_eq_true rfl⟩ (Nat.le_of_ble_eq_true rfl) ⟨Nat.le_of_ble_eq_true rfl, Nat.le_of_ble_eq_true rfl⟩ dX12_readsCondition_200 (fun z608 u608 bz608 h608 => ?_)
                  obtain ⟨bq608, hx608_0, hx608_1, hFc608⟩ := h608
                  replace hF := calR_i hF hFc608
                  replace hF := hF.fc bq608
                  rw [ez604, ez605] at hx608_0
                  refine x_bipush C.1 (n := 38) dX12_readsCondition_203 ?_
                  refine x_icmp_ne C.1 (tgt := 213) dX12_readsCondition_205 (by decide) (by omega) (by decide) (fun hc609 => ?_) (fun hc609 => ?_)
                  · replace hF := hF.to (if_pos hc609)
                    refine x_bipush C.1 (n := 12) dX12_readsCondition_213 ?_
                    refine x_callVv C (As := [vI 12]) (rest := []) 0 (xw_at (N := 33) (i := 0) (by decide) rfl) vc_X12 (m_jumps l D cy ad G V603 J Rr hI603 hJ hR 12 ⟨by decide, by decide⟩ (V 0 10) 0 hx603_0.1.1 hx603_0.1.2.1 hx603_0.1.2.2.2 (by rw [ez604, ez605]; omega)) (l1 := []) (l2 := []) (List.append_nil _).symm (w2 := fun u : Nat → Nat → Int => MW cy ad u J Rr) (fun _ => List.append_nil _) rfl wm_yX12_jumps wn_X12 wl_X12_219 wi_yX12_jumps we_yX12_jumps hd_yX12_jumps rfl ⟨Nat.le_of_ble_eq_true rfl, Nat.le_of_ble_eq_true rfl⟩ (Nat.le_of_ble_eq_true rfl) ⟨Nat.le_of_ble_eq_true rfl, Nat.le_of_ble_eq_true rfl⟩ dX12_readsCondition_215 (fun V610 h610 => ?_)
                    obtain ⟨hI610, hx610_0, hBc610, hFc610⟩ := h610
                    replace hF := calUM_i hF hFc610 hBc610
                    have hB610 := hB603.tr hBc610 (m := 1770887431076116958240) rfl
                    refine x_goto C.1 (tgt := 40) dX12_readsCondition_218 (by decide) ?_
                    have hfq := hq.2.2.1.tr (hx603_0.1.2.2.1.tr hx610_0.1.2.2.1)
                    have hfj := hf.tr hfq
                    have hm1 := hfq.2.1
                    have hm2 := Int.lt_of_lt_of_le hql (hx603_0.1.2.2.1.tr hx610_0.1.2.2.1).2.2.2.2
                    have hm3 := hx610_0.1.2.1.2.1
                    have hmu446 : (V610 0 6 - V610 0 5).toNat < (V446 0 6 - V446 0 5).toNat := (by omega)
                    exact ih446 V610 ⟨hI610, hB610, hx610_0.1.1, hx610_0.1.2.1, hfj, hx610_0.1.2.2.2, ⟨nf446, Nat.lt_of_lt_of_le hmu446 (Nat.le_of_lt_succ hn446), hF⟩⟩ hmu446
                  · replace hF := hF.to (if_neg (fun hh => hh hc609))
                    refine x_bipush C.1 (n := 11) dX12_readsCondition_208 ?_
                    refine x_goto C.1 (tgt := 215) dX12_readsCondition_210 (by decide) ?_
                    refine x_callVv C (As := [vI 11]) (rest := []) 0 (xw_at (N := 33) (i := 0) (by decide) rfl) vc_X12 (m_jumps l D cy ad G V603 J Rr hI603 hJ hR 11 ⟨by decide, by decide⟩ (V 0 10) 0 hx603_0.1.1 hx603_0.1.2.1 hx603_0.1.2.2.2 (by rw [ez604, ez605]; omega)) (l1 := []) (l2 := []) (List.append_nil _).symm (w2 := fun u : Nat → Nat → Int => MW cy ad u J Rr) (fun _ => List.append_nil _) rfl wm_yX12_jumps wn_X12 wl_X12_219 wi_yX12_jumps we_yX12_jumps hd_yX12_jumps rfl ⟨Nat.le_of_ble_eq_true rfl, Nat.le_of_ble_eq_true rfl⟩ (Nat.le_of_ble_eq_true rfl) ⟨Nat.le_of_ble_eq_true rfl, Nat.le_of_ble_eq_true rfl⟩ dX12_readsCondition_215 (fun V611 h611 => ?_)
                    obtain ⟨hI611, hx611_0, hBc611, hFc611⟩ := h611
                    replace hF := calUM_i hF hFc611 hBc611
                    have hB611 := hB603.tr hBc611 (m := 1770887431076116958240) rfl
                    refine x_goto C.1 (tgt := 40) dX12_readsCondition_218 (by decide) ?_
                    have hfq := hq.2.2.1.tr (hx603_0.1.2.2.1.tr hx611_0.1.2.2.1)
                    have hfj := hf.tr hfq
                    have hm1 := hfq.2.1
                    have hm2 := Int.lt_of_lt_of_le hql (hx603_0.1.2.2.1.tr hx611_0.1.2.2.1).2.2.2.2
                    have hm3 := hx611_0.1.2.1.2.1
                    have hmu446 : (V611 0 6 - V611 0 5).toNat < (V446 0 6 - V446 0 5).toNat := (by omega)
                    exact ih446 V611 ⟨hI611, hB611, hx611_0.1.1, hx611_0.1.2.1, hfj, hx611_0.1.2.2.2, ⟨nf446, Nat.lt_of_lt_of_le hmu446 (Nat.le_of_lt_succ hn446), hF⟩⟩ hmu446
                · replace hF := hF.to (if_neg (fun hh => hh hc602))
                  refine x_iconst C.1 (n := 1) dX12_readsCondition_190 ?_
                  refine x_goto C.1 (tgt := 195) dX12_readsCondition_191 (by decide) ?_
                  refine x_callVv C (As := [vI 1]) (rest := []) 0 (xw_at (N := 33) (i := 0) (by decide) rfl) vc_X12 (m_lands l D cy ad G V592 J Rr hI592 hJ hR 1 ⟨by decide, by decide⟩ (V 0 10) 0 hq.1 hq.2.1 hq.2.2.2) (l1 := []) (l2 := []) (List.append_nil _).symm (w2 := fun u : Nat → Nat → Int => MW cy ad u J Rr) (fun _ => List.append_nil _) rfl wm_yX12_lands wn_X12 wl_X12_216 wi_yX12_lands we_yX12_lands hd_yX12_lands rfl ⟨Nat.le_of_ble_eq_true rfl, Nat.le_of_ble_eq_true rfl⟩ (Nat.le_of_ble_eq_true rfl) ⟨Nat.le_of_ble_eq_true rfl, Nat.le_of_ble_eq_true rfl⟩ dX12_readsCondition_195 (fun V612 h612 => ?_)
                  obtain ⟨hI612, hx612_0, hx612_1, hBc612, hFc612⟩ := h612
                  replace hF := calUM_i hF hFc612 hBc612
                  have hB612 := hB592.tr hBc612 (m := 590295810358705653760) rfl
                  obtain ⟨z613, ez613, bz613⟩ := hI612.rd 0 5 (x := 0) (y := 220) rfl
                  replace hF := hF.to (rdb_e (z := z613) ez613)
                  replace hF := hF.fc bz613
                  obtain ⟨z614, ez614, bz614⟩ := hI612.rd 0 6 (x := 0) (y := 220) rfl
                  replace hF := hF.to (rdb_e (z := z614) ez614)
                  replace hF := hF.fc bz614
                  obtain ⟨z615, ez615, bz615⟩ := hI612.rd 0 10 (x := 0) (y := 220) rfl
                  replace hF := hF.to (rdb_e (z := z615) ez615)
                  replace hF := hF.fc bz615
                  obtain ⟨z616, ez616, bz616⟩ := hI612.rd 0 11 (x := 0) (y := 220) rfl
                  replace hF := hF.to (rdb_e (z := z616) ez616)
                  replace hF := hF.fc bz616
                  have hc2612 := hx612_0.1.1.c200 hx612_0.1.2.1
                  rw [ez613, ez615, ez616] at hc2612
                  have hpz612 := hx612_0.1.2.1
                  unfold PG at hpz612
                  rw [ez613, ez614, ez615, ez616] at hpz612
                  have e5612 : z613 = z593 := by rw [← ez613, ← ez593]; exact hx612_0.2.1
                  have e6612 : z614 = z594 := by rw [← ez614, ← ez594]; exact hx612_0.1.2.2.1.2.1
                  have e0612 := hx612_0.1.2.2.2
                  rw [ez616] at e0612
                  refine x_aload_n C.1 dX12_readsCondition_198 0 rfl ?_
                  refine x_aload_n C.1 dX12_readsCondition_199 0 rfl ?_
                  refine x_callVi C (As := []) (rest := [.ref (ad 0)]) 0 (xw_at (N := 33) (i := 0) (by decide) rfl) vc_X12 (m_here l D cy ad G V612 J Rr hI612 hJ hR ) (l1 := []) (l2 := []) (List.append_nil _).symm (w2 := fun _ => MW cy ad V612 J Rr) (fun _ => List.append_nil _) rfl wm_yX12_here wn_X12 wl_X12_150 wi_yX12_here we_yX12_here hd_yX12_here rfl ⟨Nat.le_of_ble_eq_true rfl, Nat.le_of_ble_eq_true rfl⟩ (Nat.le_of_ble_eq_true rfl) ⟨Nat.le_of_ble_eq_true rfl, Nat.le_of_ble_eq_true rfl⟩ dX12_readsCondition_200 (fun z617 u617 bz617 h617 => ?_)
                  obtain ⟨bq617, hx617_0, hx617_1, hFc617⟩ := h617
                  replace hF := calR_i hF hFc617
                  replace hF := hF.fc bq617
                  rw [ez613, ez614] at hx617_0
                  refine x_bipush C.1 (n := 38) dX12_readsCondition_203 ?_
                  refine x_icmp_ne C.1 (tgt := 213) dX12_readsCondition_205 (by decide) (by omega) (by decide) (fun hc618 => ?_) (fun hc618 => ?_)
                  · replace hF := hF.to (if_pos hc618)
                    refine x_bipush C.1 (n := 12) dX12_readsCondition_213 ?_
                    refine x_callVv C (As := [vI 12]) (rest := []) 0 (xw_at (N := 33) (i := 0) (by decide) rfl) vc_X12 (m_jumps l D cy ad G V612 J Rr hI612 hJ hR 12 ⟨by decide, by decide⟩ (V 0 10) 0 hx612_0.1.1 hx612_0.1.2.1 hx612_0.1.2.2.2 (by rw [ez613, ez614]; omega)) (l1 := []) (l2 := []) (List.append_nil _).symm (w2 := fun u : Nat → Nat → Int => MW cy ad u J Rr) (fun _ => List.append_nil _) rfl wm_yX12_jumps wn_X12 wl_X12_219 wi_yX12_jumps we_yX12_jumps hd_yX12_jumps rfl ⟨Nat.le_of_ble_eq_true rfl, Nat.le_of_ble_eq_true rfl⟩ (Nat.le_of_ble_eq_true rfl) ⟨Nat.le_of_ble_eq_true rfl, Nat.le_of_ble_eq_true rfl⟩ dX12_readsCondition_215 (fun V619 h619 => ?_)
                    obtain ⟨hI619, hx619_0, hBc619, hFc619⟩ := h619
                    replace hF := calUM_i hF hFc619 hBc619
                    have hB619 := hB612.tr hBc619 (m := 1770887431076116958240) rfl
                    refine x_goto C.1 (tgt := 40) dX12_readsCondition_218 (by decide) ?_
                    have hfq := hq.2.2.1.tr (hx612_0.1.2.2.1.tr hx619_0.1.2.2.1)
                    have hfj := hf.tr hfq
                    have hm1 := hfq.2.1
                    have hm2 := Int.lt_of_lt_of_le hql (hx612_0.1.2.2.1.tr hx619_0.1.2.2.1).2.2.2.2
                    have hm3 := hx619_0.1.2.1.2.1
                    have hmu446 : (V619 0 6 - V619 0 5).toNat < (V446 0 6 - V446 0 5).toNat := (by omega)
                    exact ih446 V619 ⟨hI619, hB619, hx619_0.1.1, hx619_0.1.2.1, hfj, hx619_0.1.2.2.2, ⟨nf446, Nat.lt_of_lt_of_le hmu446 (Nat.le_of_lt_succ hn446), hF⟩⟩ hmu446
                  · replace hF := hF.to (if_neg (fun hh => hh hc618))
                    refine x_bipush C.1 (n := 11) dX12_readsCondition_208 ?_
                    refine x_goto C.1 (tgt := 215) dX12_readsCondition_210 (by decide) ?_
                    refine x_callVv C (As := [vI 11]) (rest := []) 0 (xw_at (N := 33) (i := 0) (by decide) rfl) vc_X12 (m_jumps l D cy ad G V612 J Rr hI612 hJ hR 11 ⟨by decide, by decide⟩ (V 0 10) 0 hx612_0.1.1 hx612_0.1.2.1 hx612_0.1.2.2.2 (by rw [ez613, ez614]; omega)) (l1 := []) (l2 := []) (List.append_nil _).symm (w2 := fun u : Nat → Nat → Int => MW cy ad u J Rr) (fun _ => List.append_nil _) rfl wm_yX12_jumps wn_X12 wl_X12_219 wi_yX12_jumps we_yX12_jumps hd_yX12_jumps rfl ⟨Nat.le_of_ble_eq_true rfl, Nat.le_of_ble_eq_true rfl⟩ (Nat.le_of_ble_eq_true rfl) ⟨Nat.le_of_ble_eq_true rfl, Nat.le_of_ble_eq_true rfl⟩ dX12_readsCondition_215 (fun V620 h620 => ?_)
                    obtain ⟨hI620, hx620_0, hBc620, hFc620⟩ := h620
                    replace hF := calUM_i hF hFc620 hBc620
                    have hB620 := hB612.tr hBc620 (m := 1770887431076116958240) rfl
                    refine x_goto C.1 (tgt := 40) dX12_readsCondition_218 (by decide) ?_
                    have hfq := hq.2.2.1.tr (hx612_0.1.2.2.1.tr hx620_0.1.2.2.1)
                    have hfj := hf.tr hfq
                    have hm1 := hfq.2.1
                    have hm2 := Int.lt_of_lt_of_le hql (hx612_0.1.2.2.1.tr hx620_0.1.2.2.1).2.2.2.2
                    have hm3 := hx620_0.1.2.1.2.1
                    have hmu446 : (V620 0 6 - V620 0 5).toNat < (V446 0 6 - V446 0 5).toNat := (by omega)
                    exact ih446 V620 ⟨hI620, hB620, hx620_0.1.1, hx620_0.1.2.1, hfj, hx620_0.1.2.2.2, ⟨nf446, Nat.lt_of_lt_of_le hmu446 (Nat.le_of_lt_succ hn446), hF⟩⟩ hmu446
              · replace hF := hF.to (if_neg hc600)
                refine x_aload_n C.1 dX12_readsCondition_161 0 rfl ?_
                refine x_callVi C (As := []) (rest := []) 0 (xw_at (N := 33) (i := 0) (by decide) rfl) vc_X12 (m_here l D cy ad G V592 J Rr hI592 hJ hR ) (l1 := []) (l2 := []) (List.append_nil _).symm (w2 := fun _ => MW cy ad V592 J Rr) (fun _ => List.append_nil _) rfl wm_yX12_here wn_X12 wl_X12_150 wi_yX12_here we_yX12_here hd_yX12_here rfl ⟨Nat.le_of_ble_eq_true rfl, Nat.le_of_ble_eq_true rfl⟩ (Nat.le_of_ble_eq_true rfl) ⟨Nat.le_of_ble_eq_true rfl, Nat.le_of_ble_eq_true rfl⟩ dX12_readsCondition_162 (fun z621 u621 bz621 h621 => ?_)
                obtain ⟨bq621, hx621_0, hx621_1, hFc621⟩ := h621
                replace hF := calR_i hF hFc621
                replace hF := hF.fc bq621
                rw [ez593, ez594] at hx621_0
                refine x_bipush C.1 (n := 124) dX12_readsCondition_165 ?_
                refine x_icmp_eq C.1 (tgt := 180) dX12_readsCondition_167 (by decide) (by omega) (by decide) (fun hc622 => ?_) (fun hc622 => ?_)
                · replace hF := hF.to (if_pos hc622)
                  refine x_aload_n C.1 dX12_readsCondition_180 0 rfl ?_
                  refine x_aload_n C.1 dX12_readsCondition_181 0 rfl ?_
                  refine x_callVi C (As := []) (rest := [.ref (ad 0)]) 0 (xw_at (N := 33) (i := 0) (by decide) rfl) vc_X12 (m_here l D cy ad G V592 J Rr hI592 hJ hR ) (l1 := []) (l2 := []) (List.append_nil _).symm (w2 := fun _ => MW cy ad V592 J Rr) (fun _ => List.append_nil _) rfl wm_yX12_here wn_X12 wl_X12_150 wi_yX12_here we_yX12_here hd_yX12_here rfl ⟨Nat.le_of_ble_eq_true rfl, Nat.le_of_ble_eq_true rfl⟩ (Nat.le_of_ble_eq_true rfl) ⟨Nat.le_of_ble_eq_true rfl, Nat.le_of_ble_eq_true rfl⟩ dX12_readsCondition_182 (fun z623 u623 bz623 h623 => ?_)
                  obtain ⟨bq623, hx623_0, hx623_1, hFc623⟩ := h623
                  replace hF := calR_i hF hFc623
                  replace hF := hF.fc bq623
                  rw [ez593, ez594] at hx623_0
                  refine x_bipush C.1 (n := 124) dX12_readsCondition_185 ?_
                  refine x_icmp_ne C.1 (tgt := 194) dX12_readsCondition_187 (by decide) (by omega) (by decide) (fun hc624 => ?_) (fun hc624 => ?_)
                  · replace hF := hF.to (if_pos hc624)
                    refine x_iconst C.1 (n := 0) dX12_readsCondition_194 ?_
                    refine x_callVv C (As := [vI 0]) (rest := []) 0 (xw_at (N := 33) (i := 0) (by decide) rfl) vc_X12 (m_lands l D cy ad G V592 J Rr hI592 hJ hR 0 ⟨by decide, by decide⟩ (V 0 10) 0 hq.1 hq.2.1 hq.2.2.2) (l1 := []) (l2 := []) (List.append_nil _).symm (w2 := fun u : Nat → Nat → Int => MW cy ad u J Rr) (fun _ => List.append_nil _) rfl wm_yX12_lands wn_X12 wl_X12_216 wi_yX12_lands we_yX12_lands hd_yX12_lands rfl ⟨Nat.le_of_ble_eq_true rfl, Nat.le_of_ble_eq_true rfl⟩ (Nat.le_of_ble_eq_true rfl) ⟨Nat.le_of_ble_eq_true rfl, Nat.le_of_ble_eq_true rfl⟩ dX12_readsCondition_195 (fun V625 h625 => ?_)
                    obtain ⟨hI625, hx625_0, hx625_1, hBc625, hFc625⟩ := h625
                    replace hF := calUM_i hF hFc625 hBc625
                    have hB625 := hB592.tr hBc625 (m := 590295810358705653760) rfl
                    obtain ⟨z626, ez626, bz626⟩ := hI625.rd 0 5 (x := 0) (y := 220) rfl
                    replace hF := hF.to (rdb_e (z := z626) ez626)
                    replace hF := hF.fc bz626
                    obtain ⟨z627, ez627, bz627⟩ := hI625.rd 0 6 (x := 0) (y := 220) rfl
                    replace hF := hF.to (rdb_e (z := z627) ez627)
                    replace hF := hF.fc bz627
                    obtain ⟨z628, ez628, bz628⟩ := hI625.rd 0 10 (x := 0) (y := 220) rfl
                    replace hF := hF.to (rdb_e (z := z628) ez628)
                    replace hF := hF.fc bz628
                    obtain ⟨z629, ez629, bz629⟩ := hI625.rd 0 11 (x := 0) (y := 220) rfl
                    replace hF := hF.to (rdb_e (z := z629) ez629)
                    replace hF := hF.fc bz629
                    have hc2625 := hx625_0.1.1.c200 hx625_0.1.2.1
                    rw [ez626, ez628, ez629] at hc2625
                    have hpz625 := hx625_0.1.2.1
                    unfold PG at hpz625
                    rw [ez626, ez627, ez628, ez629] at hpz625
                    have e5625 : z626 = z593 := by rw [← ez626, ← ez593]; exact hx625_0.2.1
                    have e6625 : z627 = z594 := by rw [← ez627, ← ez594]; exact hx625_0.1.2.2.1.2.1
                    have e0625 := hx625_0.1.2.2.2
                    rw [ez629] at e0625
                    refine x_aload_n C.1 dX12_readsCondition_198 0 rfl ?_
                    refine x_aload_n C.1 dX12_readsCondition_199 0 rfl ?_
                    refine x_callVi C (As := []) (rest := [.ref (ad 0)]) 0 (xw_at (N := 33) (i := 0) (by decide) rfl) vc_X12 (m_here l D cy ad G V625 J Rr hI625 hJ hR ) (l1 := []) (l2 := []) (List.append_nil _).symm (w2 := fun _ => MW cy ad V625 J Rr) (fun _ => List.append_nil _) rfl wm_yX12_here wn_X12 wl_X12_150 wi_yX12_here we_yX12_here hd_yX12_here rfl ⟨Nat.le_of_ble_eq_true rfl, Nat.le_of_ble_eq_true rfl⟩ (Nat.le_of_ble_eq_true rfl) ⟨Nat.le_of_ble_eq_true rfl, Nat.le_of_ble_eq_true rfl⟩ dX12_readsCondition_200 (fun z630 u630 bz630 h630 => ?_)
                    obtain ⟨bq630, hx630_0, hx630_1, hFc630⟩ := h630
                    replace hF := calR_i hF hFc630
                    replace hF := hF.fc bq630
                    rw [ez626, ez627] at hx630_0
                    refine x_bipush C.1 (n := 38) dX12_readsCondition_203 ?_
                    refine x_icmp_ne C.1 (tgt := 213) dX12_readsCondition_205 (by decide) (by omega) (by decide) (fun hc631 => ?_) (fun hc631 => ?_)
                    · replace hF := hF.to (if_pos hc631)
                      refine x_bipush C.1 (n := 12) dX12_readsCondition_213 ?_
                      refine x_callVv C (As := [vI 12]) (rest := []) 0 (xw_at (N := 33) (i := 0) (by decide) rfl) vc_X12 (m_jumps l D cy ad G V625 J Rr hI625 hJ hR 12 ⟨by decide, by decide⟩ (V 0 10) 0 hx625_0.1.1 hx625_0.1.2.1 hx625_0.1.2.2.2 (by rw [ez626, ez627]; omega)) (l1 := []) (l2 := []) (List.append_nil _).symm (w2 := fun u : Nat → Nat → Int => MW cy ad u J Rr) (fun _ => List.append_nil _) rfl wm_yX12_jumps wn_X12 wl_X12_219 wi_yX12_jumps we_yX12_jumps hd_yX12_jumps rfl ⟨Nat.le_of_ble_eq_true rfl, Nat.le_of_ble_eq_true rfl⟩ (Nat.le_of_ble_eq_true rfl) ⟨Nat.le_of_ble_eq_true rfl, Nat.le_of_ble_eq_true rfl⟩ dX12_readsCondition_215 (fun V632 h632 => ?_)
                      obtain ⟨hI632, hx632_0, hBc632, hFc632⟩ := h632
                      replace hF := calUM_i hF hFc632 hBc632
                      have hB632 := hB625.tr hBc632 (m := 1770887431076116958240) rfl
                      refine x_goto C.1 (tgt := 40) dX12_readsCondition_218 (by decide) ?_
                      have hfq := hq.2.2.1.tr (hx625_0.1.2.2.1.tr hx632_0.1.2.2.1)
                      have hfj := hf.tr hfq
                      have hm1 := hfq.2.1
                      have hm2 := Int.lt_of_lt_of_le hql (hx625_0.1.2.2.1.tr hx632_0.1.2.2.1).2.2.2.2
                      have hm3 := hx632_0.1.2.1.2.1
                      have hmu446 : (V632 0 6 - V632 0 5).toNat < (V446 0 6 - V446 0 5).toNat := (by omega)
                      exact ih446 V632 ⟨hI632, hB632, hx632_0.1.1, hx632_0.1.2.1, hfj, hx632_0.1.2.2.2, ⟨nf446, Nat.lt_of_lt_of_le hmu446 (Nat.le_of_lt_succ hn446), hF⟩⟩ hmu446
                    · replace hF := hF.to (if_neg (fun hh => hh hc631))
                      refine x_bipush C.1 (n := 11) dX12_readsCondition_208 ?_
                      refine x_goto C.1 (tgt := 215) dX12_readsCondition_210 (by decide) ?_
                      refine x_callVv C (As := [vI 11]) (rest := []) 0 (xw_at (N := 33) (i := 0) (by decide) rfl) vc_X12 (m_jumps l D cy ad G V625 J Rr hI625 hJ hR 11 ⟨by decide, by decide⟩ (V 0 10) 0 hx625_0.1.1 hx625_0.1.2.1 hx625_0.1.2.2.2 (by rw [ez626, ez627]; omega)) (l1 := []) (l2 := []) (List.append_nil _).symm (w2 := fun u : Nat → Nat → Int => MW cy ad u J Rr) (fun _ => List.append_nil _) rfl wm_yX12_jumps wn_X12 wl_X12_219 wi_yX12_jumps we_yX12_jumps hd_yX12_jumps rfl ⟨Nat.le_of_ble_eq_true rfl, Nat.le_of_ble_eq_true rfl⟩ (Nat.le_of_ble_eq_true rfl) ⟨Nat.le_of_ble_eq_true rfl, Nat.le_of_ble_eq_true rfl⟩ dX12_readsCondition_215 (fun V633 h633 => ?_)
                      obtain ⟨hI633, hx633_0, hBc633, hFc633⟩ := h633
                      replace hF := calUM_i hF hFc633 hBc633
                      have hB633 := hB625.tr hBc633 (m := 1770887431076116958240) rfl
                      refine x_goto C.1 (tgt := 40) dX12_readsCondition_218 (by decide) ?_
                      have hfq := hq.2.2.1.tr (hx625_0.1.2.2.1.tr hx633_0.1.2.2.1)
                      have hfj := hf.tr hfq
                      have hm1 := hfq.2.1
                      have hm2 := Int.lt_of_lt_of_le hql (hx625_0.1.2.2.1.tr hx633_0.1.2.2.1).2.2.2.2
                      have hm3 := hx633_0.1.2.1.2.1
                      have hmu446 : (V633 0 6 - V633 0 5).toNat < (V446 0 6 - V446 0 5).toNat := (by omega)
                      exact ih446 V633 ⟨hI633, hB633, hx633_0.1.1, hx633_0.1.2.1, hfj, hx633_0.1.2.2.2, ⟨nf446, Nat.lt_of_lt_of_le hmu446 (Nat.le_of_lt_succ hn446), hF⟩⟩ hmu446
                  · replace hF := hF.to (if_neg (fun hh => hh hc624))
                    refine x_iconst C.1 (n := 1) dX12_readsCondition_190 ?_
                    refine x_goto C.1 (tgt := 195) dX12_readsCondition_191 (by decide) ?_
                    refine x_callVv C (As := [vI 1]) (rest := []) 0 (xw_at (N := 33) (i := 0) (by decide) rfl) vc_X12 (m_lands l D cy ad G V592 J Rr hI592 hJ hR 1 ⟨by decide, by decide⟩ (V 0 10) 0 hq.1 hq.2.1 hq.2.2.2) (l1 := []) (l2 := []) (List.append_nil _).symm (w2 := fun u : Nat → Nat → Int => MW cy ad u J Rr) (fun _ => List.append_nil _) rfl wm_yX12_lands wn_X12 wl_X12_216 wi_yX12_lands we_yX12_lands hd_yX12_lands rfl ⟨Nat.le_of_ble_eq_true rfl, Nat.le_of_ble_eq_true rfl⟩ (Nat.le_of_ble_eq_true rfl) ⟨Nat.le_of_ble_eq_true rfl, Nat.le_of_ble_eq_true rfl⟩ dX12_readsCondition_195 (fun V634 h634 => ?_)
                    obtain ⟨hI634, hx634_0, hx634_1, hBc634, hFc634⟩ := h634
                    replace hF := calUM_i hF hFc634 hBc634
                    have hB634 := hB592.tr hBc634 (m := 590295810358705653760) rfl
                    obtain ⟨z635, ez635, bz635⟩ := hI634.rd 0 5 (x := 0) (y := 220) rfl
                    replace hF := hF.to (rdb_e (z := z635) ez635)
                    replace hF := hF.fc bz635
                    obtain ⟨z636, ez636, bz636⟩ := hI634.rd 0 6 (x := 0) (y := 220) rfl
                    replace hF := hF.to (rdb_e (z := z636) ez636)
                    replace hF := hF.fc bz636
                    obtain ⟨z637, ez637, bz637⟩ := hI634.rd 0 10 (x := 0) (y := 220) rfl
                    replace hF := hF.to (rdb_e (z := z637) ez637)
                    replace hF := hF.fc bz637
                    obtain ⟨z638, ez638, bz638⟩ := hI634.rd 0 11 (x := 0) (y := 220) rfl
                    replace hF := hF.to (rdb_e (z := z638) ez638)
                    replace hF := hF.fc bz638
                    have hc2634 := hx634_0.1.1.c200 hx634_0.1.2.1
                    rw [ez635, ez637, ez638] at hc2634
                    have hpz634 := hx634_0.1.2.1
                    unfold PG at hpz634
                    rw [ez635, ez636, ez637, ez638] at hpz634
                    have e5634 : z635 = z593 := by rw [← ez635, ← ez593]; exact hx634_0.2.1
                    have e6634 : z636 = z594 := by rw [← ez636, ← ez594]; exact hx634_0.1.2.2.1.2.1
                    have e0634 := hx634_0.1.2.2.2
                    rw [ez638] at e0634
                    refine x_aload_n C.1 dX12_readsCondition_198 0 rfl ?_
                    refine x_aload_n C.1 dX12_readsCondition_199 0 rfl ?_
                    refine x_callVi C (As := []) (rest := [.ref (ad 0)]) 0 (xw_at (N := 33) (i := 0) (by decide) rfl) vc_X12 (m_here l D cy ad G V634 J Rr hI634 hJ hR ) (l1 := []) (l2 := []) (List.append_nil _).symm (w2 := fun _ => MW cy ad V634 J Rr) (fun _ => List.append_nil _) rfl wm_yX12_here wn_X12 wl_X12_150 wi_yX12_here we_yX12_here hd_yX12_here rfl ⟨Nat.le_of_ble_eq_true rfl, Nat.le_of_ble_eq_true rfl⟩ (Nat.le_of_ble_eq_true rfl) ⟨Nat.le_of_ble_eq_true rfl, Nat.le_of_ble_eq_true rfl⟩ dX12_readsCondition_200 (fun z639 u639 bz639 h639 => ?_)
                    obtain ⟨bq639, hx639_0, hx639_1, hFc639⟩ := h639
                    replace hF := calR_i hF hFc639
                    replace hF := hF.fc bq639
                    rw [ez635, ez636] at hx639_0
                    refine x_bipush C.1 (n := 38) dX12_readsCondition_203 ?_
                    refine x_icmp_ne C.1 (tgt := 213) dX12_readsCondition_205 (by decide) (by omega) (by decide) (fun hc640 => ?_) (fun hc640 => ?_)
                    · replace hF := hF.to (if_pos hc640)
                      refine x_bipush C.1 (n := 12) dX12_readsCondition_213 ?_
                      refine x_callVv C (As := [vI 12]) (rest := []) 0 (xw_at (N := 33) (i := 0) (by decide) rfl) vc_X12 (m_jumps l D cy ad G V634 J Rr hI634 hJ hR 12 ⟨by decide, by decide⟩ (V 0 10) 0 hx634_0.1.1 hx634_0.1.2.1 hx634_0.1.2.2.2 (by rw [ez635, ez636]; omega)) (l1 := []) (l2 := []) (List.append_nil _).symm (w2 := fun u : Nat → Nat → Int => MW cy ad u J Rr) (fun _ => List.append_nil _) rfl wm_yX12_jumps wn_X12 wl_X12_219 wi_yX12_jumps we_yX12_jumps hd_yX12_jumps rfl ⟨Nat.le_of_ble_eq_true rfl, Nat.le_of_ble_eq_true rfl⟩ (Nat.le_of_ble_eq_true rfl) ⟨Nat.le_of_ble_eq_true rfl, Nat.le_of_ble_eq_true rfl⟩ dX12_readsCondition_215 (fun V641 h641 => ?_)
                      obtain ⟨hI641, hx641_0, hBc641, hFc641⟩ := h641
                      replace hF := calUM_i hF hFc641 hBc641
                      have hB641 := hB634.tr hBc641 (m := 1770887431076116958240) rfl
                      refine x_goto C.1 (tgt := 40) dX12_readsCondition_218 (by decide) ?_
                      have hfq := hq.2.2.1.tr (hx634_0.1.2.2.1.tr hx641_0.1.2.2.1)
                      have hfj := hf.tr hfq
                      have hm1 := hfq.2.1
                      have hm2 := Int.lt_of_lt_of_le hql (hx634_0.1.2.2.1.tr hx641_0.1.2.2.1).2.2.2.2
                      have hm3 := hx641_0.1.2.1.2.1
                      have hmu446 : (V641 0 6 - V641 0 5).toNat < (V446 0 6 - V446 0 5).toNat := (by omega)
                      exact ih446 V641 ⟨hI641, hB641, hx641_0.1.1, hx641_0.1.2.1, hfj, hx641_0.1.2.2.2, ⟨nf446, Nat.lt_of_lt_of_le hmu446 (Nat.le_of_lt_succ hn446), hF⟩⟩ hmu446
                    · replace hF := hF.to (if_neg (fun hh => hh hc640))
                      refine x_bipush C.1 (n := 11) dX12_readsCondition_208 ?_
                      refine x_goto C.1 (tgt := 215) dX12_readsCondition_210 (by decide) ?_
                      refine x_callVv C (As := [vI 11]) (rest := []) 0 (xw_at (N := 33) (i := 0) (by decide) rfl) vc_X12 (m_jumps l D cy ad G V634 J Rr hI634 hJ hR 11 ⟨by decide, by decide⟩ (V 0 10) 0 hx634_0.1.1 hx634_0.1.2.1 hx634_0.1.2.2.2 (by rw [ez635, ez636]; omega)) (l1 := []) (l2 := []) (List.append_nil _).symm (w2 := fun u : Nat → Nat → Int => MW cy ad u J Rr) (fun _ => List.append_nil _) rfl wm_yX12_jumps wn_X12 wl_X12_219 wi_yX12_jumps we_yX12_jumps hd_yX12_jumps rfl ⟨Nat.le_of_ble_eq_true rfl, Nat.le_of_ble_eq_true rfl⟩ (Nat.le_of_ble_eq_true rfl) ⟨Nat.le_of_ble_eq_true rfl, Nat.le_of_ble_eq_true rfl⟩ dX12_readsCondition_215 (fun V642 h642 => ?_)
                      obtain ⟨hI642, hx642_0, hBc642, hFc642⟩ := h642
                      replace hF := calUM_i hF hFc642 hBc642
                      have hB642 := hB634.tr hBc642 (m := 1770887431076116958240) rfl
                      refine x_goto C.1 (tgt := 40) dX12_readsCondition_218 (by decide) ?_
                      have hfq := hq.2.2.1.tr (hx634_0.1.2.2.1.tr hx642_0.1.2.2.1)
                      have hfj := hf.tr hfq
                      have hm1 := hfq.2.1
                      have hm2 := Int.lt_of_lt_of_le hql (hx634_0.1.2.2.1.tr hx642_0.1.2.2.1).2.2.2.2
                      have hm3 := hx642_0.1.2.1.2.1
                      have hmu446 : (V642 0 6 - V642 0 5).toNat < (V446 0 6 - V446 0 5).toNat := (by omega)
                      exact ih446 V642 ⟨hI642, hB642, hx642_0.1.1, hx642_0.1.2.1, hfj, hx642_0.1.2.2.2, ⟨nf446, Nat.lt_of_lt_of_le hmu446 (Nat.le_of_lt_succ hn446), hF⟩⟩ hmu446
                · replace hF := hF.to (if_neg hc622)
                  refine x_aload_n C.1 dX12_readsCondition_170 0 rfl ?_
                  refine x_iconst C.1 (n := 1) dX12_readsCondition_171 ?_
                  refine x_aload_n C.1 dX12_readsCondition_172 0 rfl ?_
                  refine x_getI C (N := 33) (i := 0) (by decide) rfl vc_X12 wx_X12 5 (by decide) wf_X12_144 rfl dX12_readsCondition_173 (a := z593) ez593 ?_
                  refine x_callVi C (As := [vI 1, vI z593]) (rest := []) 0 (xw_at (N := 33) (i := 0) (by decide) rfl) vc_X12 (m_wrongAt l D cy ad G V592 J Rr hI592 hJ hR 1 ⟨by decide, by decide⟩ z593 ⟨by omega, by omega⟩) (l1 := []) (l2 := []) (List.append_nil _).symm (w2 := fun u : Nat → Nat → Int => MW cy ad u J Rr) (fun _ => List.append_nil _) rfl wm_yX12_wrongAt wn_X12 wl_X12_157 wi_yX12_wrongAt we_yX12_wrongAt hd_yX12_wrongAt rfl ⟨Nat.le_of_ble_eq_true rfl, Nat.le_of_ble_eq_true rfl⟩ (Nat.le_of_ble_eq_true rfl) ⟨Nat.le_of_ble_eq_true rfl, Nat.le_of_ble_eq_true rfl⟩ dX12_readsCondition_176 (fun z643 V643 bz643 h643 => ?_)
                  obtain ⟨hI643, bq643, hx643_0, hBc643, hFc643⟩ := h643
                  replace hF := calVM_i hF hFc643 hBc643
                  replace hF := hF.fc bq643
                  have hB643 := hB592.tr hBc643 (m := 128) rfl
                  exact x_zret (S := (Nat → Nat → Int)) (post := (fun a (u : Nat → Nat → Int) => MI G u ∧ (0 ≤ a ∧ a ≤ 1) ∧ Sp a (pCond V u) ∧ FBm 1770887431076116959136 V u ∧ (f_m_readsCondition V J Rr) (a, u))) (w1 := (fun u : Nat → Nat → Int => MW cy ad u J Rr)) (a := z643) C hr rfl dX12_readsCondition_179 (by omega) V643 rfl ⟨hI643, ⟨by omega, by omega⟩, (Or.inl (by omega)), hB643, hF _ rfl⟩
            · replace hF := hF.to (if_neg (fun hh => hh hc598))
              refine x_aload_n C.1 dX12_readsCondition_101 0 rfl ?_
              refine x_iconst C.1 (n := 1) dX12_readsCondition_102 ?_
              refine x_callVv C (As := [vI 1]) (rest := []) 0 (xw_at (N := 33) (i := 0) (by decide) rfl) vc_X12 (m_lands l D cy ad G V592 J Rr hI592 hJ hR 1 ⟨by decide, by decide⟩ (V 0 10) 0 hq.1 hq.2.1 hq.2.2.2) (l1 := []) (l2 := []) (List.append_nil _).symm (w2 := fun u : Nat → Nat → Int => MW cy ad u J Rr) (fun _ => List.append_nil _) rfl wm_yX12_lands wn_X12 wl_X12_216 wi_yX12_lands we_yX12_lands hd_yX12_lands rfl ⟨Nat.le_of_ble_eq_true rfl, Nat.le_of_ble_eq_true rfl⟩ (Nat.le_of_ble_eq_true rfl) ⟨Nat.le_of_ble_eq_true rfl, Nat.le_of_ble_eq_true rfl⟩ dX12_readsCondition_103 (fun V644 h644 => ?_)
              obtain ⟨hI644, hx644_0, hx644_1, hBc644, hFc644⟩ := h644
              replace hF := calUM_i hF hFc644 hBc644
              have hB644 := hB592.tr hBc644 (m := 590295810358705653760) rfl
              obtain ⟨z645, ez645, bz645⟩ := hI644.rd 0 5 (x := 0) (y := 220) rfl
              replace hF := hF.to (rdb_e (z := z645) ez645)
              replace hF := hF.fc bz645
              obtain ⟨z646, ez646, bz646⟩ := hI644.rd 0 6 (x := 0) (y := 220) rfl
              replace hF := hF.to (rdb_e (z := z646) ez646)
              replace hF := hF.fc bz646
              obtain ⟨z647, ez647, bz647⟩ := hI644.rd 0 10 (x := 0) (y := 220) rfl
              replace hF := hF.to (rdb_e (z := z647) ez647)
              replace hF := hF.fc bz647
              obtain ⟨z648, ez648, bz648⟩ := hI644.rd 0 11 (x := 0) (y := 220) rfl
              replace hF := hF.to (rdb_e (z := z648) ez648)
              replace hF := hF.fc bz648
              have hc2644 := hx644_0.1.1.c200 hx644_0.1.2.1
              rw [ez645, ez647, ez648] at hc2644
              have hpz644 := hx644_0.1.2.1
              unfold PG at hpz644
              rw [ez645, ez646, ez647, ez648] at hpz644
              have e5644 : z645 = z593 := by rw [← ez645, ← ez593]; exact hx644_0.2.1
              have e6644 : z646 = z594 := by rw [← ez646, ← ez594]; exact hx644_0.1.2.2.1.2.1
              have e0644 := hx644_0.1.2.2.2
              rw [ez648] at e0644
              refine x_aload_n C.1 dX12_readsCondition_106 0 rfl ?_
              refine x_aload_n C.1 dX12_readsCondition_107 0 rfl ?_
              refine x_getI C (N := 33) (i := 0) (by decide) rfl vc_X12 wx_X12 11 (by decide) wf_X12_174 rfl dX12_readsCondition_108 (a := z648) ez648 ?_
              refine x_iconst C.1 (n := 1) dX12_readsCondition_111 ?_
              refine x_isub C.1 (v := z648 - 1) (by omega) dX12_readsCondition_112 ?_
              refine x_putI C (N := 33) (i := 0) (by decide) rfl vc_X12 wx_X12 11 (by decide) wf_X12_174 tyX12 tyX12_ok nmX12 rfl (tyX12_ok 11 (by decide)) rfl dX12_readsCondition_113 rfl rfl ?_
              refine x_gV ?_
              intro V649 hV649
              have hI649 : MI G V649 := hI644.up hV649 rfl (by omega) rfl (Or.inl (by decide))
              have hB649 := hB644.up hV649 rfl
              replace hF := hF.to (rdb_e (z := V649) hV649.symm)
              refine x_aload_n C.1 dX12_readsCondition_116 0 rfl ?_
              refine x_aload_n C.1 dX12_readsCondition_117 0 rfl ?_
              obtain ⟨z650, ez650, bz650⟩ := hI649.rd 0 9 (x := -2147483648) (y := 2147483647) rfl
              replace hF := hF.to (rdb_e (z := z650) ez650)
              refine x_getI C (N := 33) (i := 0) (by decide) rfl vc_X12 wx_X12 9 (by decide) wf_X12_171 rfl dX12_readsCondition_118 (a := z650) ez650 ?_
              refine x_iconst C.1 (n := 1) dX12_readsCondition_121 ?_
              refine x_isub C.1 (v := z650 - 1) (by omega) dX12_readsCondition_122 ?_
              refine x_wrapg ?_
              intro z651 bz651 ew651
              replace hF := hF.to (rdb_e (z := z651) ew651.symm)
              refine x_putI C (N := 33) (i := 0) (by decide) rfl vc_X12 wx_X12 9 (by decide) wf_X12_171 tyX12 tyX12_ok nmX12 rfl (tyX12_ok 9 (by decide)) rfl dX12_readsCondition_123 rfl rfl ?_
              refine x_gV ?_
              intro V652 hV652
              have hI652 : MI G V652 := hI649.up hV652 rfl (by omega) rfl (Or.inl (by decide))
              have hB652 := hB649.up hV652 rfl
              replace hF := hF.to (rdb_e (z := V652) hV652.symm)
              refine x_aload_n C.1 dX12_readsCondition_126 0 rfl ?_
              refine x_aload_n C.1 dX12_readsCondition_127 0 rfl ?_
              refine x_getI C (N := 33) (i := 0) (by decide) rfl vc_X12 wx_X12 5 (by decide) wf_X12_144 rfl dX12_readsCondition_128 (a := z645) ((congrFun (congrFun hV652 0) 5).trans ((up2_n _ _ (Or.inr (by decide))).trans ((congrFun (congrFun hV649 0) 5).trans ((up2_n _ _ (Or.inr (by decide))).trans ez645)))) ?_
              refine x_iconst C.1 (n := 1) dX12_readsCondition_131 ?_
              refine x_iadd C.1 (v := z645 + 1) (by omega) dX12_readsCondition_132 ?_
              refine x_putI C (N := 33) (i := 0) (by decide) rfl vc_X12 wx_X12 5 (by decide) wf_X12_144 tyX12 tyX12_ok nmX12 rfl (tyX12_ok 5 (by decide)) rfl dX12_readsCondition_133 rfl rfl ?_
              refine x_gV ?_
              intro V653 hV653
              have hI653 : MI G V653 := hI652.up hV653 rfl (by omega) rfl (Or.inl (by decide))
              have hB653 := hB652.up hV653 rfl
              replace hF := hF.to (rdb_e (z := V653) hV653.symm)
              have hcl := clsC (o := z651) (u := V653) hx644_0.1.1 hx644_0.1.2.1 hx644_0.1.2.2.2 (by rw [ez645, ez646]; omega) (hx644_1 rfl) (by rw [hV653, hV652, hV649, ez648, ez645])
              refine x_aload_n C.1 dX12_readsCondition_136 0 rfl ?_
              refine x_getI C (N := 33) (i := 0) (by decide) rfl vc_X12 wx_X12 11 (by decide) wf_X12_174 rfl dX12_readsCondition_137 (a := z648 - 1) ((congrFun (congrFun hV653 0) 11).trans ((up2_n _ _ (Or.inr (by decide))).trans ((congrFun (congrFun hV652 0) 11).trans ((up2_n _ _ (Or.inr (by decide))).trans ((congrFun (congrFun hV649 0) 11).trans (up2_s _ _ _ _)))))) ?_
              refine x_if_ne C.1 (tgt := 145) dX12_readsCondition_140 (by decide) (by omega) (fun hc654 => ?_) (fun hc654 => ?_)
              · replace hF := hF.to (if_pos hc654)
                refine x_aload_n C.1 dX12_readsCondition_145 0 rfl ?_
                refine x_callVv C (As := []) (rest := []) 0 (xw_at (N := 33) (i := 0) (by decide) rfl) vc_X12 (m_endsPiece l D cy ad G V653 J Rr hI653 hJ hR (V 0 10) 0 hcl.1 hcl.2.1 (by rw [((congrFun (congrFun hV653 0) 11).trans ((up2_n _ _ (Or.inr (by decide))).trans ((congrFun (congrFun hV652 0) 11).trans ((up2_n _ _ (Or.inr (by decide))).trans ((congrFun (congrFun hV649 0) 11).trans (up2_s _ _ _ _))))))]; omega)) (l1 := []) (l2 := []) (List.append_nil _).symm (w2 := fun u : Nat → Nat → Int => MW cy ad u J Rr) (fun _ => List.append_nil _) rfl wm_yX12_endsPiece wn_X12 wl_X12_210 wi_yX12_endsPiece we_yX12_endsPiece hd_yX12_endsPiece rfl ⟨Nat.le_of_ble_eq_true rfl, Nat.le_of_ble_eq_true rfl⟩ (Nat.le_of_ble_eq_true rfl) ⟨Nat.le_of_ble_eq_true rfl, Nat.le_of_ble_eq_true rfl⟩ dX12_readsCondition_146 (fun V655 h655 => ?_)
                obtain ⟨hI655, hx655_0, hBc655, hFc655⟩ := h655
                replace hF := calUM_i hF hFc655 hBc655
                have hB655 := hB653.tr hBc655 (m := 590295810358705655296) rfl
                refine x_goto C.1 (tgt := 92) dX12_readsCondition_149 (by decide) ?_
                have hfr := hx644_0.1.2.2.1.tr hcl.2.2.1
                have hqn := pQ.tr (hq.2.2.1.tr hfr) hx655_0.1
                have hqm := Int.lt_of_lt_of_le hql (hfr.tr hx655_0.1.2.2.1).2.2.2.2
                have hm1 := hx655_0.2.2
                have hm2 := hcl.2.2.2.2
                have hm3 := hx644_0.2.2
                have hm4 := hq.2.2.2
                have hmu592 : (V655 0 11).toNat < (V592 0 11).toNat := (by omega)
                exact ih592 V655 ⟨hI655, hB655, hqn, hqm, ⟨nf592, Nat.lt_of_lt_of_le hmu592 (Nat.le_of_lt_succ hn592), hF⟩⟩ hmu592
              · replace hF := hF.to (if_neg (fun hh => hh hc654))
                refine x_iconst C.1 (n := 1) dX12_readsCondition_143 ?_
                exact x_zret (S := (Nat → Nat → Int)) (post := (fun a (u : Nat → Nat → Int) => MI G u ∧ (0 ≤ a ∧ a ≤ 1) ∧ Sp a (pCond V u) ∧ FBm 1770887431076116959136 V u ∧ (f_m_readsCondition V J Rr) (a, u))) (w1 := (fun u : Nat → Nat → Int => MW cy ad u J Rr)) (a := 1) C hr rfl dX12_readsCondition_144 (by decide) V653 rfl ⟨hI653, ⟨by decide, by decide⟩, (Or.inr ⟨rfl, pCond.mk hcl.1 hcl.2.1 (hf.tr (hq.2.2.1.tr (hx644_0.1.2.2.1.tr hcl.2.2.1))) (by rw [((congrFun (congrFun hV653 0) 11).trans ((up2_n _ _ (Or.inr (by decide))).trans ((congrFun (congrFun hV652 0) 11).trans ((up2_n _ _ (Or.inr (by decide))).trans ((congrFun (congrFun hV649 0) 11).trans (up2_s _ _ _ _))))))]; omega)⟩), hB653, hF _ rfl⟩
          · replace hF := hF.to (if_neg (fun hh => hh hc464))
            refine x_iconst C.1 (n := 0) dX12_readsCondition_90 ?_
            exact x_zret (S := (Nat → Nat → Int)) (post := (fun a (u : Nat → Nat → Int) => MI G u ∧ (0 ≤ a ∧ a ≤ 1) ∧ Sp a (pCond V u) ∧ FBm 1770887431076116959136 V u ∧ (f_m_readsCondition V J Rr) (a, u))) (w1 := (fun u : Nat → Nat → Int => MW cy ad u J Rr)) (a := 0) C hr rfl dX12_readsCondition_91 (by decide) V463 rfl ⟨hI463, ⟨by decide, by decide⟩, (Or.inl rfl), hB463, hF _ rfl⟩
        · replace hF := hF.to (if_neg (fun hh => hh hc462))
          refine x_aload_n C.1 dX12_readsCondition_58 0 rfl ?_
          refine x_aload_n C.1 dX12_readsCondition_59 0 rfl ?_
          refine x_callVi C (As := []) (rest := [.ref (ad 0)]) 0 (xw_at (N := 33) (i := 0) (by decide) rfl) vc_X12 (m_here l D cy ad G V446 J Rr hI446 hJ hR ) (l1 := []) (l2 := []) (List.append_nil _).symm (w2 := fun _ => MW cy ad V446 J Rr) (fun _ => List.append_nil _) rfl wm_yX12_here wn_X12 wl_X12_150 wi_yX12_here we_yX12_here hd_yX12_here rfl ⟨Nat.le_of_ble_eq_true rfl, Nat.le_of_ble_eq_true rfl⟩ (Nat.le_of_ble_eq_true rfl) ⟨Nat.le_of_ble_eq_true rfl, Nat.le_of_ble_eq_true rfl⟩ dX12_readsCondition_60 (fun z656 u656 bz656 h656 => ?_)
          obtain ⟨bq656, hx656_0, hx656_1, hFc656⟩ := h656
          replace hF := calR_i hF hFc656
          replace hF := hF.fc bq656
          rw [ez447, ez448] at hx656_0
          refine x_bipush C.1 (n := 33) dX12_readsCondition_63 ?_
          refine x_icmp_ne C.1 (tgt := 73) dX12_readsCondition_65 (by decide) (by omega) (by decide) (fun hc657 => ?_) (fun hc657 => ?_)
          · replace hF := hF.to (if_pos hc657)
            refine x_bipush C.1 (n := 13) dX12_readsCondition_73 ?_
            refine x_callVi C (As := [vI 13]) (rest := []) 0 (xw_at (N := 33) (i := 0) (by decide) rfl) vc_X12 (m_opens l D cy ad G V446 J Rr hI446 hJ hR 13 ⟨by decide, by decide⟩ (by rw [ez447, ez448]; omega) (by rw [ez448]; omega) (by rw [ez450]; omega)) (l1 := []) (l2 := []) (List.append_nil _).symm (w2 := fun u : Nat → Nat → Int => MW cy ad u J Rr) (fun _ => List.append_nil _) rfl wm_yX12_opens wn_X12 wl_X12_184 wi_yX12_opens we_yX12_opens hd_yX12_opens rfl ⟨Nat.le_of_ble_eq_true rfl, Nat.le_of_ble_eq_true rfl⟩ (Nat.le_of_ble_eq_true rfl) ⟨Nat.le_of_ble_eq_true rfl, Nat.le_of_ble_eq_true rfl⟩ dX12_readsCondition_75 (fun z658 V658 bz658 h658 => ?_)
            obtain ⟨hI658, bq658, hx658_0, hBc658, hFc658⟩ := h658
            replace hF := calVM_i hF hFc658 hBc658
            replace hF := hF.fc bq658
            have hB658 := hB446.tr hBc658 (m := 1180591620717411306144) rfl
            refine x_if_ne C.1 (tgt := 40) dX12_readsCondition_78 (by decide) (by omega) (fun hc659 => ?_) (fun hc659 => ?_)
            · replace hF := hF.to (if_pos hc659)
              have hon660 := Sp.on hx658_0 (by omega)
              obtain ⟨o, ho⟩ := hon660
              have hkb := opnC hs hp (by rw [ez447, ez448]; omega) (Or.inl (pdv_m0 (s := 13) (by omega))) ho
              have hm1 := hkb.1.2.2.1.2.1
              have hm2 := hkb.2
              have hm3 := hkb.1.2.1.2.1
              have hmu446 : (V658 0 6 - V658 0 5).toNat < (V446 0 6 - V446 0 5).toNat := (by omega)
              exact ih446 V658 ⟨hI658, hB658, hkb.1.1, hkb.1.2.1, (hf.tr hkb.1.2.2.1), hkb.1.2.2.2, ⟨nf446, Nat.lt_of_lt_of_le hmu446 (Nat.le_of_lt_succ hn446), hF⟩⟩ hmu446
            · replace hF := hF.to (if_neg (fun hh => hh hc659))
              refine x_iconst C.1 (n := 0) dX12_readsCondition_81 ?_
              exact x_zret (S := (Nat → Nat → Int)) (post := (fun a (u : Nat → Nat → Int) => MI G u ∧ (0 ≤ a ∧ a ≤ 1) ∧ Sp a (pCond V u) ∧ FBm 1770887431076116959136 V u ∧ (f_m_readsCondition V J Rr) (a, u))) (w1 := (fun u : Nat → Nat → Int => MW cy ad u J Rr)) (a := 0) C hr rfl dX12_readsCondition_82 (by decide) V658 rfl ⟨hI658, ⟨by decide, by decide⟩, (Or.inl rfl), hB658, hF _ rfl⟩
          · replace hF := hF.to (if_neg (fun hh => hh hc657))
            refine x_bipush C.1 (n := 10) dX12_readsCondition_68 ?_
            refine x_goto C.1 (tgt := 75) dX12_readsCondition_70 (by decide) ?_
            refine x_callVi C (As := [vI 10]) (rest := []) 0 (xw_at (N := 33) (i := 0) (by decide) rfl) vc_X12 (m_opens l D cy ad G V446 J Rr hI446 hJ hR 10 ⟨by decide, by decide⟩ (by rw [ez447, ez448]; omega) (by rw [ez448]; omega) (by rw [ez450]; omega)) (l1 := []) (l2 := []) (List.append_nil _).symm (w2 := fun u : Nat → Nat → Int => MW cy ad u J Rr) (fun _ => List.append_nil _) rfl wm_yX12_opens wn_X12 wl_X12_184 wi_yX12_opens we_yX12_opens hd_yX12_opens rfl ⟨Nat.le_of_ble_eq_true rfl, Nat.le_of_ble_eq_true rfl⟩ (Nat.le_of_ble_eq_true rfl) ⟨Nat.le_of_ble_eq_true rfl, Nat.le_of_ble_eq_true rfl⟩ dX12_readsCondition_75 (fun z661 V661 bz661 h661 => ?_)
            obtain ⟨hI661, bq661, hx661_0, hBc661, hFc661⟩ := h661
            replace hF := calVM_i hF hFc661 hBc661
            replace hF := hF.fc bq661
            have hB661 := hB446.tr hBc661 (m := 1180591620717411306144) rfl
            refine x_if_ne C.1 (tgt := 40) dX12_readsCondition_78 (by decide) (by omega) (fun hc662 => ?_) (fun hc662 => ?_)
            · replace hF := hF.to (if_pos hc662)
              have hon663 := Sp.on hx661_0 (by omega)
              obtain ⟨o, ho⟩ := hon663
              have hkb := opnC hs hp (by rw [ez447, ez448]; omega) (Or.inr ⟨pdv_m0 (s := 10) (by omega), h0w⟩) ho
              have hm1 := hkb.1.2.2.1.2.1
              have hm2 := hkb.2
              have hm3 := hkb.1.2.1.2.1
              have hmu446 : (V661 0 6 - V661 0 5).toNat < (V446 0 6 - V446 0 5).toNat := (by omega)
              exact ih446 V661 ⟨hI661, hB661, hkb.1.1, hkb.1.2.1, (hf.tr hkb.1.2.2.1), hkb.1.2.2.2, ⟨nf446, Nat.lt_of_lt_of_le hmu446 (Nat.le_of_lt_succ hn446), hF⟩⟩ hmu446
            · replace hF := hF.to (if_neg (fun hh => hh hc662))
              refine x_iconst C.1 (n := 0) dX12_readsCondition_81 ?_
              exact x_zret (S := (Nat → Nat → Int)) (post := (fun a (u : Nat → Nat → Int) => MI G u ∧ (0 ≤ a ∧ a ≤ 1) ∧ Sp a (pCond V u) ∧ FBm 1770887431076116959136 V u ∧ (f_m_readsCondition V J Rr) (a, u))) (w1 := (fun u : Nat → Nat → Int => MW cy ad u J Rr)) (a := 0) C hr rfl dX12_readsCondition_82 (by decide) V661 rfl ⟨hI661, ⟨by decide, by decide⟩, (Or.inl rfl), hB661, hF _ rfl⟩
    · replace hF := hF.to (if_neg (fun hh => hh hc10))
      refine x_iconst C.1 (n := 0) dX12_readsCondition_38 ?_
      exact x_zret (S := (Nat → Nat → Int)) (post := (fun a (u : Nat → Nat → Int) => MI G u ∧ (0 ≤ a ∧ a ≤ 1) ∧ Sp a (pCond V u) ∧ FBm 1770887431076116959136 V u ∧ (f_m_readsCondition V J Rr) (a, u))) (w1 := (fun u : Nat → Nat → Int => MW cy ad u J Rr)) (a := 0) C hr rfl dX12_readsCondition_39 (by decide) V9 rfl ⟨hI9, ⟨by decide, by decide⟩, (Or.inl rfl), hB9, hF _ rfl⟩
  · replace hF := hF.to (if_neg hc6)
    refine x_aload_n C.1 dX12_readsCondition_9 0 rfl ?_
    refine x_iconst C.1 (n := 1) dX12_readsCondition_10 ?_
    refine x_aload_n C.1 dX12_readsCondition_11 0 rfl ?_
    refine x_getI C (N := 33) (i := 0) (by decide) rfl vc_X12 wx_X12 5 (by decide) wf_X12_144 rfl dX12_readsCondition_12 (a := z1) ez1 ?_
    refine x_callVi C (As := [vI 1, vI z1]) (rest := []) 0 (xw_at (N := 33) (i := 0) (by decide) rfl) vc_X12 (m_wrongAt l D cy ad G V J Rr hI hJ hR 1 ⟨by decide, by decide⟩ z1 ⟨by omega, by omega⟩) (l1 := []) (l2 := []) (List.append_nil _).symm (w2 := fun u : Nat → Nat → Int => MW cy ad u J Rr) (fun _ => List.append_nil _) rfl wm_yX12_wrongAt wn_X12 wl_X12_157 wi_yX12_wrongAt we_yX12_wrongAt hd_yX12_wrongAt rfl ⟨Nat.le_of_ble_eq_true rfl, Nat.le_of_ble_eq_true rfl⟩ (Nat.le_of_ble_eq_true rfl) ⟨Nat.le_of_ble_eq_true rfl, Nat.le_of_ble_eq_true rfl⟩ dX12_readsCondition_15 (fun z664 V664 bz664 h664 => ?_)
    obtain ⟨hI664, bq664, hx664_0, hBc664, hFc664⟩ := h664
    replace hF := calVM_i hF hFc664 hBc664
    replace hF := hF.fc bq664
    have hB664 := hB.tr hBc664 (m := 128) rfl
    exact x_zret (S := (Nat → Nat → Int)) (post := (fun a (u : Nat → Nat → Int) => MI G u ∧ (0 ≤ a ∧ a ≤ 1) ∧ Sp a (pCond V u) ∧ FBm 1770887431076116959136 V u ∧ (f_m_readsCondition V J Rr) (a, u))) (w1 := (fun u : Nat → Nat → Int => MW cy ad u J Rr)) (a := z664) C hr rfl dX12_readsCondition_18 (by omega) V664 rfl ⟨hI664, ⟨by omega, by omega⟩, (Or.inl (by omega)), hB664, hF _ rfl⟩
end
section
-- reading a clause, and a text
theorem xTyp.cr {c c2 : Nat → Int} {b f t : Int} (h : xTyp c b f t) (hf : 0 ≤ f) (hc : ∀ k : Nat, f ≤ (k : Int) → (k : Int) < t → c2 k = c k) : xTyp c2 b f t := by
  obtain ⟨g, g0, g1⟩ := h
  exact ⟨g, g0, fun z z1 z2 => by rw [hc z.toNat (by omega) (by omega)]; exact g1 z z1 z2⟩
theorem xTyp.sh {c c2 : Nat → Int} {f t : Int} {B : Nat} (h : xTyp c 0 f t) (hf : 0 ≤ f) (hc : ∀ k : Nat, (k : Int) < t → c2 (B + k) = c k) : xTyp c2 B (B + f) (B + t) := by
  obtain ⟨g, g0, g1⟩ := h
  refine ⟨fun z => g (z - B), ?_, fun z z1 z2 => ?_⟩
  · show g (B + f - B) = 0
    rw [show (B : Int) + f - B = f by omega]; exact g0
  · have k := g1 (z - B) (by omega) (by omega)
    have e : c2 z.toNat = c (z - B).toNat := by
      rw [show z.toNat = B + (z - B).toNat by omega]
      exact hc _ (by omega)
    rw [e]
    generalize c (z - B).toNat = w at k
    obtain ⟨k1, k2, k3, k4⟩ := k
    have e1 : z + 1 - (B : Int) = z - B + 1 := by omega
    refine ⟨k1, ?_, ?_, ?_⟩
    · show 0 ≤ g (z - B) ∧ g (z - B) ≤ z - (B + f)
      clear k4; omega
    · show 0 ≤ g (z + 1 - B) ∧ g (z + 1 - B) ≤ z + 1 - (B + f)
      rw [e1]; clear k4; omega
    · dsimp only
      rw [e1]
      rcases k4 with q | q | q | ⟨q1, q2, q3, q4, q5, q6⟩ | q
      · exact Or.inl q
      · exact Or.inr (Or.inl q)
      · exact Or.inr (Or.inr (Or.inl q))
      · generalize w % 1048576 = v at q4 q5 q6
        refine Or.inr (Or.inr (Or.inr (Or.inl ⟨q1, q2, q3, ?_, ?_, ?_⟩)))
        · clear q1; omega
        · clear q1; omega
        · rw [show (B : Int) + v - B = 0 + v by omega]; exact q6
      · exact Or.inr (Or.inr (Or.inr (Or.inr q)))
def pCls (V : Nat → Nat → Int) (s : Nat) : Prop := 0 ≤ V 8 s ∧ V 8 s ≤ V 9 s ∧ V 9 s ≤ V 10 s ∧ V 10 s ≤ V 0 10 ∧ xTyp (V 5) 0 (V 8 s) (V 9 s) ∧ xTyp (V 5) 0 (V 9 s) (V 10 s)
theorem pCls.cc {V u : Nat → Nat → Int} {s : Nat} (h : pCls V s) (h8 : u 8 s = V 8 s) (h9 : u 9 s = V 9 s) (h10 : u 10 s = V 10 s) (hC : V 0 10 ≤ u 0 10) (h5 : ∀ k : Nat, (k : Int) < V 0 10 → u 5 k = V 5 k) : pCls u s := by
  obtain ⟨a1, a2, a3, a4, a5, a6⟩ := h
  unfold pCls
  rw [h8, h9, h10]
  exact ⟨a1, a2, a3, by omega, a5.cr a1 (fun k k1 k2 => h5 k (by omega)), a6.cr (by omega) (fun k k1 k2 => h5 k (by omega))⟩
def PT (V : Nat → Nat → Int) : Prop := (0 ≤ V 0 5 ∧ V 0 5 ≤ V 0 6 ∧ V 0 6 ≤ 200 ∧ 0 ≤ V 0 10 ∧ V 0 10 ≤ V 0 5 ∧ 0 ≤ V 0 12) ∧ ∀ s : Nat, (s : Int) < V 0 12 → pCls V s
theorem PT.start {u : Nat → Nat → Int} {n : Int} (hn : 0 ≤ n ∧ n ≤ 200) (h5 : u 0 5 = 0) (h6 : u 0 6 = n) (h10 : u 0 10 = 0) (h12 : u 0 12 = 0) : PT u := ⟨by omega, fun s hs => by omega⟩
def clE (V E : Nat → Nat → Int) : Prop := ∃ c o : Int, E = up2 (up2 (up2 (up2 (up2 V 7 (V 0 12).toNat c) 0 5 (V 0 5 + 1)) 8 (V 0 12).toNat (V 0 10)) 0 9 o) 0 11 0
theorem clE.fact {V E : Nat → Nat → Int} (h : PT V) (hlt : V 0 5 < V 0 6) (hE : clE V E) : PG E ∧ E 0 10 ≤ E 0 5 ∧ E 0 11 = 0 ∧ E 5 = V 5 ∧ E 0 10 = V 0 10 ∧ E 0 6 = V 0 6 ∧ E 0 12 = V 0 12 ∧ E 0 5 = V 0 5 + 1 ∧ (∀ k : Nat, E 8 k = if k = (V 0 12).toNat then V 0 10 else V 8 k) ∧ (∀ i : Nat, i ≠ 0 → i ≠ 7 → i ≠ 8 → E i = V i) := by
  obtain ⟨c, o, hE⟩ := hE
  have r : ∀ i : Nat, i ≠ 0 → i ≠ 7 → i ≠ 8 → E i = V i := fun i i1 i2 i3 => by rw [hE, up0r i1, up0r i1, up2_c _ _ i3, up0r i1, up2_c _ _ i2]
  have z : ∀ k : Nat, k ≠ 5 → k ≠ 9 → k ≠ 11 → E 0 k = V 0 k := fun k k1 k2 k3 => by rw [hE, up0 (Or.inr k3), up0 (Or.inr k2), up2_n _ _ (Or.inl (by omega)), up0 (Or.inr k1), up2_n _ _ (Or.inl (by omega))]
  have z5 : E 0 5 = V 0 5 + 1 := by rw [hE, up0 (Or.inr (by omega)), up0 (Or.inr (by omega)), up2_n _ _ (Or.inl (by omega)), up2_s]
  have z11 : E 0 11 = 0 := by rw [hE, up2_s]
  have e8 : ∀ k : Nat, E 8 k = if k = (V 0 12).toNat then V 0 10 else V 8 k := by
    intro k
    rw [hE, up0 (Or.inl (by omega)), up0 (Or.inl (by omega))]
    by_cases q : k = (V 0 12).toNat
    · subst q; rw [up2_s, if_pos rfl]
    · rw [up2_n _ _ (Or.inr q), if_neg q, up0 (Or.inl (by omega)), up2_n _ _ (Or.inl (by omega))]
  clear hE
  obtain ⟨⟨p1, p2, p3, p4, p5, p6⟩, -⟩ := h
  have o10 := z 10 (by omega) (by omega) (by omega)
  have o6 := z 6 (by omega) (by omega) (by omega)
  have o12 := z 12 (by omega) (by omega) (by omega)
  exact ⟨⟨by omega, by omega, by omega, by omega, by omega, by omega⟩, by omega, z11, r 5 (by omega) (by omega) (by omega), o10, o6, o12, z5, e8, r⟩
theorem clF {E B F : Nat → Nat → Int} {q : Nat} (hB : pSum E B) (hc : E 0 10 ≤ E 0 5) (hF : F = up2 B 9 q (B 0 10)) : PG F ∧ F 0 10 ≤ F 0 5 := by
  have z : ∀ k : Nat, F 0 k = B 0 k := fun k => by rw [hF, up2_n _ _ (Or.inl (by omega))]
  obtain ⟨b1, b2, b3, b4, b5, b6, b7⟩ := hB
  unfold PG at b5 ⊢
  rw [z 5, z 6, z 10, z 11]
  exact ⟨b5, by omega⟩
def pClause (V u : Nat → Nat → Int) : Prop := PT u ∧ V 0 5 < u 0 5 ∧ u 0 6 = V 0 6 ∧ u 0 12 = V 0 12 + 1 ∧ (∀ i : Nat, i ≠ 0 → i ≠ 5 → i ≠ 6 → i ≠ 7 → i ≠ 8 → i ≠ 9 → i ≠ 10 → u i = V i)
theorem pClause.mk {V E B F D u : Nat → Nat → Int} (h : PT V) (hlt : V 0 5 < V 0 6) (hE : clE V E) (hB : pSum E B) (hF : F = up2 B 9 (V 0 12).toNat (B 0 10)) (hD : pCond F D) (hu : u = up2 (up2 D 10 (V 0 12).toNat (D 0 10)) 0 12 (V 0 12 + 1)) : pClause V u := by
  obtain ⟨-, -, e11, e5, e10, e6, e12, ep, e8, er⟩ := clE.fact h hlt hE
  clear hE
  have fz : ∀ k : Nat, F 0 k = B 0 k := fun k => by rw [hF, up2_n _ _ (Or.inl (by omega))]
  have fr : ∀ i : Nat, i ≠ 9 → F i = B i := fun i hi => by rw [hF, up2_c _ _ hi]
  have f9 : ∀ k : Nat, F 9 k = if k = (V 0 12).toNat then B 0 10 else B 9 k := by
    intro k
    rw [hF]
    by_cases q : k = (V 0 12).toNat
    · subst q; rw [up2_s, if_pos rfl]
    · rw [up2_n _ _ (Or.inr q), if_neg q]
  clear hF
  have uz : ∀ k : Nat, k ≠ 12 → u 0 k = D 0 k := fun k k1 => by rw [hu, up0 (Or.inr k1), up2_n _ _ (Or.inl (by omega))]
  have u12 : u 0 12 = V 0 12 + 1 := by rw [hu, up2_s]
  have ur : ∀ i : Nat, i ≠ 0 → i ≠ 10 → u i = D i := fun i i1 i2 => by rw [hu, up0r i1, up2_c _ _ i2]
  have uX : ∀ k : Nat, u 10 k = if k = (V 0 12).toNat then D 0 10 else D 10 k := by
    intro k
    rw [hu, up0 (Or.inl (by omega))]
    by_cases q : k = (V 0 12).toNat
    · subst q; rw [up2_s, if_pos rfl]
    · rw [up2_n _ _ (Or.inr q), if_neg q]
  clear hu
  obtain ⟨b1, b2, b3, b4, b5, ⟨c1, c2, c3, c4, c5, c6⟩, b7⟩ := hB
  obtain ⟨d1, d2, d3, d4, ⟨g1, g2, g3, g4, g5⟩⟩ := hD
  rw [fz 10] at d1 d2 g1
  have hv := h.2
  obtain ⟨⟨p1, p2, p3, p4, p5, p6⟩, -⟩ := h
  have w10 : u 0 10 = D 0 10 := uz 10 (by omega)
  have w5 : u 0 5 = D 0 5 := uz 5 (by omega)
  have w6 : u 0 6 = D 0 6 := uz 6 (by omega)
  have fz5 := fz 5
  have fz6 := fz 6
  have s5 : ∀ k : Nat, (k : Int) < B 0 10 → u 5 k = B 5 k := fun k hk => by rw [ur 5 (by omega) (by omega), g1 k hk, fr 5 (by omega)]
  have s5v : ∀ k : Nat, (k : Int) < V 0 10 → u 5 k = V 5 k := fun k hk => by rw [s5 k (by omega), c1 k (by omega), e5]
  have r8 : ∀ k : Nat, u 8 k = if k = (V 0 12).toNat then V 0 10 else V 8 k := fun k => by rw [ur 8 (by omega) (by omega), g4 8 (by omega) (by omega) (by omega), fr 8 (by omega), c5 8 (by omega) (by omega) (by omega)]; exact e8 k
  have r9 : ∀ k : Nat, u 9 k = if k = (V 0 12).toNat then B 0 10 else V 9 k := fun k => by
    rw [ur 9 (by omega) (by omega), g4 9 (by omega) (by omega) (by omega), f9, c5 9 (by omega) (by omega) (by omega), er 9 (by omega) (by omega) (by omega)]
  have r10 : ∀ k : Nat, u 10 k = if k = (V 0 12).toNat then D 0 10 else V 10 k := fun k => by
    rw [uX, g4 10 (by omega) (by omega) (by omega), fr 10 (by omega), c5 10 (by omega) (by omega) (by omega), er 10 (by omega) (by omega) (by omega)]
  refine ⟨⟨⟨by omega, by unfold PG at d4; omega, by omega, by omega, by omega, by omega⟩, fun s hs => ?_⟩, by omega, by omega, u12, fun i i0 i5 i6 i7 i8 i9 i10 => ?_⟩
  · by_cases q : s = (V 0 12).toNat
    · unfold pCls
      rw [r8, r9, r10, if_pos q, if_pos q, if_pos q]
      refine ⟨p4, by omega, d2, by omega, ?_, ?_⟩
      · have t := b1.typ
        rw [e10] at t
        exact t.cr p4 (fun k k1 k2 => s5 k k2)
      · rw [ur 5 (by omega) (by omega)]; exact d1
    · exact (hv s (by omega)).cc (by rw [r8, if_neg q]) (by rw [r9, if_neg q]) (by rw [r10, if_neg q]) (by omega) s5v
  · rw [ur i i0 i10, g4 i i0 i5 i6, fr i i9, c5 i i0 i5 i6, er i i0 i7 i8]
end
section
-- what was read is laid into the tables
def MU (_G V : Nat → Nat → Int) : Prop := MI V V
theorem MI.sf {G V : Nat → Nat → Int} (h : MI G V) : MI V V := ⟨fun i k => ⟨(h.1 i k).1, fun _ => rfl⟩, h.2⟩
theorem MU.rd {G V : Nat → Nat → Int} (h : MU G V) (i k : Nat) {x y : Int} (hr : rgM i k = (x, y)) : ∃ z : Int, V i k = z ∧ x ≤ z ∧ z ≤ y := MI.rd h i k hr
theorem MU.vr {G V : Nat → Nat → Int} (h : MU G V) : VR V := MI.vr h
theorem MU.up {G V W : Nat → Nat → Int} (h : MU G V) {i k : Nat} {a : Int} (hW : W = up2 V i k a) {x y : Int} (hr : rgM i k = (x, y)) (ha : x ≤ a ∧ a ≤ y) (_ : True) (hf : mFree i k) : MU G W := MI.sf (MI.upG h hW hr ha hf)
theorem WP.of {G u : Nat → Nat → Int} (h : MI G u) (hW : WP G) : WP u := by
  have e : ∀ i : Nat, 11 ≤ i → i ≤ 16 → u i = G i := fun i h1 h2 => by
    funext k
    refine (h.1 i k).2 ?_
    have : i = 11 ∨ i = 12 ∨ i = 13 ∨ i = 14 ∨ i = 15 ∨ i = 16 := by omega
    rcases this with rfl | rfl | rfl | rfl | rfl | rfl <;> rfl
  intro q hq hh
  rw [e 12 (by omega) (by omega)] at hh
  have := hW q hq hh
  unfold xCl at this ⊢
  rw [e 11 (by omega) (by omega), e 14 (by omega) (by omega), e 15 (by omega) (by omega), e 16 (by omega) (by omega)]
  exact this
/-- the first i words of the code are copied -/
def RC (t i : Int) (A W : Nat → Nat → Int) : Prop := (∀ k : Nat, (k : Int) < i → W 11 ((220 * t).toNat + k) = A 5 k) ∧ (∀ q : Nat, ((q : Int) < 220 * t ∨ 220 * t + 220 ≤ q) → W 11 q = A 11 q) ∧ (∀ k : Nat, (k : Int) ≠ t → W 12 k = A 12 k) ∧ W 12 t.toNat = A 0 12 ∧ (∀ r : Nat, r ≠ 11 → r ≠ 12 → W r = A r)
theorem RC.start {t : Int} {A W : Nat → Nat → Int} (ht : 0 ≤ t) (hW : W = up2 A 12 t.toNat (A 0 12)) : RC t 0 A W := by
  subst hW
  exact ⟨fun k hk => by omega, fun q _ => by rw [up2_n _ _ (Or.inl (by omega))], fun k hk => by rw [up2_n _ _ (Or.inr (by omega))], up2_s _ _ _ _, fun r _ h2 => up2_c _ _ h2⟩
theorem RC.step {t i : Int} {A W u : Nat → Nat → Int} (h : RC t i A W) (ht : 0 ≤ t) (hi : 0 ≤ i ∧ i < 220) (hu : u = up2 W 11 (220 * t + i).toNat (A 5 i.toNat)) : RC t (i + 1) A u := by
  obtain ⟨h1, h2, h3, h4, h5⟩ := h
  subst hu
  refine ⟨fun k hk => ?_, fun q hq => by rw [up2_n _ _ (Or.inr (by omega))]; exact h2 q hq, fun k hk => by rw [up2_n _ _ (Or.inl (by omega))]; exact h3 k hk, by rw [up2_n _ _ (Or.inl (by omega))]; exact h4, fun r r1 r2 => by rw [up2_c _ _ r1]; exact h5 r r1 r2⟩
  by_cases q : (k : Int) = i
  · rw [show (220 * t).toNat + k = (220 * t + i).toNat by omega, up2_s, show i.toNat = k by omega]
  · rw [up2_n _ _ (Or.inr (by omega))]
    exact h1 k (by omega)
/-- the first i clauses too -/
def RT (t n i : Int) (A W : Nat → Nat → Int) : Prop := (∀ k : Nat, (k : Int) < n → W 11 ((220 * t).toNat + k) = A 5 k) ∧ (∀ q : Nat, ((q : Int) < 220 * t ∨ 220 * t + 220 ≤ q) → W 11 q = A 11 q) ∧ (∀ k : Nat, (k : Int) ≠ t → W 12 k = A 12 k) ∧ W 12 t.toNat = A 0 12 ∧
  (∀ j : Nat, (j : Int) < i → W 14 ((14 * t).toNat + j) = 220 * t + A 8 j ∧ W 15 ((14 * t).toNat + j) = 220 * t + A 9 j ∧ W 16 ((14 * t).toNat + j) = 220 * t + A 10 j) ∧
  (∀ q : Nat, ((q : Int) < 14 * t ∨ 14 * t + 14 ≤ q) → W 14 q = A 14 q ∧ W 15 q = A 15 q ∧ W 16 q = A 16 q) ∧ (∀ r : Nat, r < 11 → W r = A r)
theorem RC.toT {t n : Int} {A W : Nat → Nat → Int} (h : RC t n A W) : RT t n 0 A W := ⟨h.1, h.2.1, h.2.2.1, h.2.2.2.1, fun j hj => by omega, fun q _ => by rw [h.2.2.2.2 14 (by omega) (by omega), h.2.2.2.2 15 (by omega) (by omega), h.2.2.2.2 16 (by omega) (by omega)]; exact ⟨rfl, rfl, rfl⟩, fun r hr => h.2.2.2.2 r (by omega) (by omega)⟩
theorem RT.step {t n i : Int} {A W u : Nat → Nat → Int} {c : Int} (h : RT t n i A W) (ht : 0 ≤ t) (hi : 0 ≤ i ∧ i < 14) (hu : u = up2 (up2 (up2 (up2 W 13 (14 * t + i).toNat c) 14 (14 * t + i).toNat (220 * t + A 8 i.toNat)) 15 (14 * t + i).toNat (220 * t + A 9 i.toNat)) 16 (14 * t + i).toNat (220 * t + A 10 i.toNat)) : RT t n (i + 1) A u := by
  obtain ⟨h1, h2, h3, h4, h5, h6, h7⟩ := h
  have r11 : u 11 = W 11 := by rw [hu, up2_c _ _ (by omega), up2_c _ _ (by omega), up2_c _ _ (by omega), up2_c _ _ (by omega)]
  have r12 : u 12 = W 12 := by rw [hu, up2_c _ _ (by omega), up2_c _ _ (by omega), up2_c _ _ (by omega), up2_c _ _ (by omega)]
  have rr : ∀ r : Nat, r < 11 → u r = W r := fun r hr => by rw [hu, up2_c _ _ (by omega), up2_c _ _ (by omega), up2_c _ _ (by omega), up2_c _ _ (by omega)]
  have r14 : ∀ q : Nat, u 14 q = if q = (14 * t + i).toNat then 220 * t + A 8 i.toNat else W 14 q := fun q => by
    rw [hu, up2_n _ _ (Or.inl (by omega)), up2_n _ _ (Or.inl (by omega))]
    by_cases e : q = (14 * t + i).toNat
    · subst e; rw [up2_s, if_pos rfl]
    · rw [up2_n _ _ (Or.inr e), if_neg e, up2_n _ _ (Or.inl (by omega))]
  have r15 : ∀ q : Nat, u 15 q = if q = (14 * t + i).toNat then 220 * t + A 9 i.toNat else W 15 q := fun q => by
    rw [hu, up2_n _ _ (Or.inl (by omega))]
    by_cases e : q = (14 * t + i).toNat
    · subst e; rw [up2_s, if_pos rfl]
    · rw [up2_n _ _ (Or.inr e), if_neg e, up2_n _ _ (Or.inl (by omega)), up2_n _ _ (Or.inl (by omega))]
  have r16 : ∀ q : Nat, u 16 q = if q = (14 * t + i).toNat then 220 * t + A 10 i.toNat else W 16 q := fun q => by
    rw [hu]
    by_cases e : q = (14 * t + i).toNat
    · subst e; rw [up2_s, if_pos rfl]
    · rw [up2_n _ _ (Or.inr e), if_neg e, up2_n _ _ (Or.inl (by omega)), up2_n _ _ (Or.inl (by omega)), up2_n _ _ (Or.inl (by omega))]
  clear hu
  refine ⟨by rw [r11]; exact h1, by rw [r11]; exact h2, by rw [r12]; exact h3, by rw [r12]; exact h4, fun j hj => ?_, fun q hq => ?_, fun r hr => by rw [rr r hr]; exact h7 r hr⟩
  · rw [r14, r15, r16]
    by_cases e : (j : Int) = i
    · rw [if_pos (by omega), if_pos (by omega), if_pos (by omega), show i.toNat = j by omega]
      exact ⟨rfl, rfl, rfl⟩
    · rw [if_neg (by omega), if_neg (by omega), if_neg (by omega)]
      exact h5 j (by omega)
  · rw [r14, r15, r16, if_neg (by omega), if_neg (by omega), if_neg (by omega)]
    exact h6 q hq
theorem RT.wp {t : Int} {A u : Nat → Nat → Int} (h : RT t (A 0 10) (A 0 12) A u) (ht : 0 ≤ t ∧ t ≤ 4) (hT : PT A) (hW : WP A) : WP u := by
  obtain ⟨h1, h2, h3, h4, h5, h6, h7⟩ := h
  obtain ⟨⟨p1, p2, p3, p4, p5, p6⟩, hp⟩ := hT
  intro q hq hh
  have hB : ((220 * t).toNat : Int) = 220 * t := by omega
  by_cases e : ((q / 14 : Nat) : Int) = t
  · rw [show q / 14 = t.toNat by omega, h4] at hh
    obtain ⟨a1, a2, a3, a4, a5, a6⟩ := hp (q % 14) hh
    obtain ⟨b1, b2, b3⟩ := h5 (q % 14) hh
    have eq : (14 * t).toNat + q % 14 = q := by omega
    rw [eq] at b1 b2 b3
    have e2 : ((q : Nat) : Int) / 14 = t := by omega
    have c1 := a5.sh (B := (220 * t).toNat) a1 (c2 := u 11) (fun k hk => h1 k (by omega))
    have c2 := a6.sh (B := (220 * t).toNat) (by omega) (c2 := u 11) (fun k hk => h1 k (by omega))
    rw [hB] at c1 c2
    unfold xCl
    rw [e2, b1, b2, b3]
    exact ⟨by omega, by omega, by omega, by omega, c1, c2⟩
  · rw [h3 _ e] at hh
    have k := hW q hq hh
    obtain ⟨b1, b2, b3⟩ := h6 q (by omega)
    unfold xCl at k ⊢
    rw [b1, b2, b3]
    obtain ⟨k1, k2, k3, k4, k5, k6⟩ := k
    refine ⟨k1, k2, k3, k4, k5.cr (by omega) (fun x x1 x2 => h2 x (by omega)), k6.cr (by omega) (fun x x1 x2 => h2 x (by omega))⟩
theorem PT.tk {V u : Nat → Nat → Int} (h : PT V) (hfr : ∀ i k : Nat, (i ≠ 0 ∨ (k ≠ 5 ∧ k ≠ 7)) → u i k = V i k) (h5 : V 0 5 ≤ u 0 5) (h56 : u 0 5 ≤ u 0 6) : PT u := by
  have o6 := hfr 0 6 (Or.inr (by omega))
  have o10 := hfr 0 10 (Or.inr (by omega))
  have o12 := hfr 0 12 (Or.inr (by omega))
  obtain ⟨⟨p1, p2, p3, p4, p5, p6⟩, hp⟩ := h
  exact ⟨by omega, fun s hs => (hp s (by omega)).cc (hfr 8 s (Or.inl (by omega))) (hfr 9 s (Or.inl (by omega))) (hfr 10 s (Or.inl (by omega))) (by omega) (fun k _ => hfr 5 k (Or.inl (by omega)))⟩
theorem PT.t4 {V u : Nat → Nat → Int} {a : Int} (h : PT V) (hu : u = up2 V 0 4 a) : PT u := by
  subst hu
  have e : ∀ k : Nat, k ≠ 4 → up2 V 0 4 a 0 k = V 0 k := fun k hk => up0 (Or.inr hk)
  have r : ∀ i : Nat, i ≠ 0 → up2 V 0 4 a i = V i := fun i hi => up0r hi
  obtain ⟨hp0, hp⟩ := h
  unfold PT
  rw [e 5 (by omega), e 6 (by omega), e 10 (by omega), e 12 (by omega)]
  exact ⟨hp0, fun s hs => (hp s hs).cc (by rw [r 8 (by omega)]) (by rw [r 9 (by omega)]) (by rw [r 10 (by omega)]) (by rw [e 10 (by omega)]; exact Int.le_refl _) (fun k _ => by rw [r 5 (by omega)])⟩
def gmu (g x : Int) : Nat := if g = 0 then 0 else (x + 1).toNat
theorem gmu_0 {g x y : Int} (hg : ¬ g = 0) (hy : 0 ≤ y) : gmu 0 x < gmu g y := by
  rw [gmu, gmu, if_pos rfl, if_neg hg]; omega
theorem gmu_1 {g x y : Int} (hg : ¬ g = 0) (hy : 0 ≤ y) (hxy : x < y) : gmu 1 x < gmu g y := by
  rw [gmu, gmu, if_neg (by omega), if_neg hg]; omega
end
