theorem dX12_dries_0 : decode cX12_dries 0 = .ok (.aload_n 0, 1) := by decide +kernel
theorem dX12_dries_1 : decode cX12_dries 1 = .ok (.iload_n 1, 1) := by decide +kernel
theorem dX12_dries_2 : decode cX12_dries 2 = .ok (.invokevirtual 253, 3) := by decide +kernel
theorem dX12_dries_5 : decode cX12_dries 5 = .ok (.aload_n 0, 1) := by decide +kernel
theorem dX12_dries_6 : decode cX12_dries 6 = .ok (.iconst 0, 1) := by decide +kernel
theorem dX12_dries_7 : decode cX12_dries 7 = .ok (.bipush 101, 2) := by decide +kernel
theorem dX12_dries_9 : decode cX12_dries 9 = .ok (.bipush 9, 2) := by decide +kernel
theorem dX12_dries_11 : decode cX12_dries 11 = .ok (.invokevirtual 256, 3) := by decide +kernel
theorem dX12_dries_14 : decode cX12_dries 14 = .ok (.istore_n 3, 1) := by decide +kernel
theorem dX12_dries_15 : decode cX12_dries 15 = .ok (.iload_n 2, 1) := by decide +kernel
theorem dX12_dries_16 : decode cX12_dries 16 = .ok (.ifCond .eq 15, 3) := by decide +kernel
theorem dX12_dries_19 : decode cX12_dries 19 = .ok (.iload_n 3, 1) := by decide +kernel
theorem dX12_dries_20 : decode cX12_dries 20 = .ok (.aload_n 0, 1) := by decide +kernel
theorem dX12_dries_21 : decode cX12_dries 21 = .ok (.iconst 0, 1) := by decide +kernel
theorem dX12_dries_22 : decode cX12_dries 22 = .ok (.bipush 104, 2) := by decide +kernel
theorem dX12_dries_24 : decode cX12_dries 24 = .ok (.bipush 9, 2) := by decide +kernel
theorem dX12_dries_26 : decode cX12_dries 26 = .ok (.invokevirtual 256, 3) := by decide +kernel
theorem dX12_dries_29 : decode cX12_dries 29 = .ok (.iadd, 1) := by decide +kernel
theorem dX12_dries_30 : decode cX12_dries 30 = .ok (.istore_n 3, 1) := by decide +kernel
theorem dX12_dries_31 : decode cX12_dries 31 = .ok (.iconst 0, 1) := by decide +kernel
theorem dX12_dries_32 : decode cX12_dries 32 = .ok (.aload_n 0, 1) := by decide +kernel
theorem dX12_dries_33 : decode cX12_dries 33 = .ok (.getfield 7, 3) := by decide +kernel
theorem dX12_dries_36 : decode cX12_dries 36 = .ok (.iconst 4, 1) := by decide +kernel
theorem dX12_dries_37 : decode cX12_dries 37 = .ok (.iload_n 1, 1) := by decide +kernel
theorem dX12_dries_38 : decode cX12_dries 38 = .ok (.iadd, 1) := by decide +kernel
theorem dX12_dries_39 : decode cX12_dries 39 = .ok (.iaload, 1) := by decide +kernel
theorem dX12_dries_40 : decode cX12_dries 40 = .ok (.iload_n 3, 1) := by decide +kernel
theorem dX12_dries_41 : decode cX12_dries 41 = .ok (.isub, 1) := by decide +kernel
theorem dX12_dries_42 : decode cX12_dries 42 = .ok (.invokestatic 272, 3) := by decide +kernel
theorem dX12_dries_45 : decode cX12_dries 45 = .ok (.istore 4, 2) := by decide +kernel
theorem dX12_dries_47 : decode cX12_dries 47 = .ok (.aload_n 0, 1) := by decide +kernel
theorem dX12_dries_48 : decode cX12_dries 48 = .ok (.getfield 7, 3) := by decide +kernel
theorem dX12_dries_51 : decode cX12_dries 51 = .ok (.iconst 4, 1) := by decide +kernel
theorem dX12_dries_52 : decode cX12_dries 52 = .ok (.iload_n 1, 1) := by decide +kernel
theorem dX12_dries_53 : decode cX12_dries 53 = .ok (.iadd, 1) := by decide +kernel
theorem dX12_dries_54 : decode cX12_dries 54 = .ok (.iload 4, 2) := by decide +kernel
theorem dX12_dries_56 : decode cX12_dries 56 = .ok (.iastore, 1) := by decide +kernel
theorem dX12_dries_57 : decode cX12_dries 57 = .ok (.aload_n 0, 1) := by decide +kernel
theorem dX12_dries_58 : decode cX12_dries 58 = .ok (.getfield 7, 3) := by decide +kernel
theorem dX12_dries_61 : decode cX12_dries 61 = .ok (.bipush 12, 2) := by decide +kernel
theorem dX12_dries_63 : decode cX12_dries 63 = .ok (.iload_n 1, 1) := by decide +kernel
theorem dX12_dries_64 : decode cX12_dries 64 = .ok (.iadd, 1) := by decide +kernel
theorem dX12_dries_65 : decode cX12_dries 65 = .ok (.iload 4, 2) := by decide +kernel
theorem dX12_dries_67 : decode cX12_dries 67 = .ok (.ifCond .ne 17, 3) := by decide +kernel
theorem dX12_dries_70 : decode cX12_dries 70 = .ok (.aload_n 0, 1) := by decide +kernel
theorem dX12_dries_71 : decode cX12_dries 71 = .ok (.getfield 7, 3) := by decide +kernel
theorem dX12_dries_74 : decode cX12_dries 74 = .ok (.bipush 12, 2) := by decide +kernel
theorem dX12_dries_76 : decode cX12_dries 76 = .ok (.iload_n 1, 1) := by decide +kernel
theorem dX12_dries_77 : decode cX12_dries 77 = .ok (.iadd, 1) := by decide +kernel
theorem dX12_dries_78 : decode cX12_dries 78 = .ok (.iaload, 1) := by decide +kernel
theorem dX12_dries_79 : decode cX12_dries 79 = .ok (.iconst 1, 1) := by decide +kernel
theorem dX12_dries_80 : decode cX12_dries 80 = .ok (.iadd, 1) := by decide +kernel
theorem dX12_dries_81 : decode cX12_dries 81 = .ok (.goto 4, 3) := by decide +kernel
theorem dX12_dries_84 : decode cX12_dries 84 = .ok (.iconst 0, 1) := by decide +kernel
theorem dX12_dries_85 : decode cX12_dries 85 = .ok (.iastore, 1) := by decide +kernel
theorem dX12_dries_86 : decode cX12_dries 86 = .ok (.aload_n 0, 1) := by decide +kernel
theorem dX12_dries_87 : decode cX12_dries 87 = .ok (.getfield 7, 3) := by decide +kernel
theorem dX12_dries_90 : decode cX12_dries 90 = .ok (.bipush 16, 2) := by decide +kernel
theorem dX12_dries_92 : decode cX12_dries 92 = .ok (.iload_n 1, 1) := by decide +kernel
theorem dX12_dries_93 : decode cX12_dries 93 = .ok (.iadd, 1) := by decide +kernel
theorem dX12_dries_94 : decode cX12_dries 94 = .ok (.iload 4, 2) := by decide +kernel
theorem dX12_dries_96 : decode cX12_dries 96 = .ok (.aload_n 0, 1) := by decide +kernel
theorem dX12_dries_97 : decode cX12_dries 97 = .ok (.getfield 7, 3) := by decide +kernel
theorem dX12_dries_100 : decode cX12_dries 100 = .ok (.iconst 0, 1) := by decide +kernel
theorem dX12_dries_101 : decode cX12_dries 101 = .ok (.iload_n 1, 1) := by decide +kernel
theorem dX12_dries_102 : decode cX12_dries 102 = .ok (.iadd, 1) := by decide +kernel
theorem dX12_dries_103 : decode cX12_dries 103 = .ok (.iaload, 1) := by decide +kernel
theorem dX12_dries_104 : decode cX12_dries 104 = .ok (.if_icmp .ne 17, 3) := by decide +kernel
theorem dX12_dries_107 : decode cX12_dries 107 = .ok (.aload_n 0, 1) := by decide +kernel
theorem dX12_dries_108 : decode cX12_dries 108 = .ok (.getfield 7, 3) := by decide +kernel
theorem dX12_dries_111 : decode cX12_dries 111 = .ok (.bipush 16, 2) := by decide +kernel
theorem dX12_dries_113 : decode cX12_dries 113 = .ok (.iload_n 1, 1) := by decide +kernel
theorem dX12_dries_114 : decode cX12_dries 114 = .ok (.iadd, 1) := by decide +kernel
theorem dX12_dries_115 : decode cX12_dries 115 = .ok (.iaload, 1) := by decide +kernel
theorem dX12_dries_116 : decode cX12_dries 116 = .ok (.iconst 1, 1) := by decide +kernel
theorem dX12_dries_117 : decode cX12_dries 117 = .ok (.iadd, 1) := by decide +kernel
theorem dX12_dries_118 : decode cX12_dries 118 = .ok (.goto 4, 3) := by decide +kernel
theorem dX12_dries_121 : decode cX12_dries 121 = .ok (.iconst 0, 1) := by decide +kernel
theorem dX12_dries_122 : decode cX12_dries 122 = .ok (.iastore, 1) := by decide +kernel
theorem dX12_dries_123 : decode cX12_dries 123 = .ok (.aload_n 0, 1) := by decide +kernel
theorem dX12_dries_124 : decode cX12_dries 124 = .ok (.getfield 7, 3) := by decide +kernel
theorem dX12_dries_127 : decode cX12_dries 127 = .ok (.bipush 12, 2) := by decide +kernel
theorem dX12_dries_129 : decode cX12_dries 129 = .ok (.iload_n 1, 1) := by decide +kernel
theorem dX12_dries_130 : decode cX12_dries 130 = .ok (.iadd, 1) := by decide +kernel
theorem dX12_dries_131 : decode cX12_dries 131 = .ok (.iaload, 1) := by decide +kernel
theorem dX12_dries_132 : decode cX12_dries 132 = .ok (.aload_n 0, 1) := by decide +kernel
theorem dX12_dries_133 : decode cX12_dries 133 = .ok (.getfield 7, 3) := by decide +kernel
theorem dX12_dries_136 : decode cX12_dries 136 = .ok (.bipush 8, 2) := by decide +kernel
theorem dX12_dries_138 : decode cX12_dries 138 = .ok (.iload_n 1, 1) := by decide +kernel
theorem dX12_dries_139 : decode cX12_dries 139 = .ok (.iadd, 1) := by decide +kernel
theorem dX12_dries_140 : decode cX12_dries 140 = .ok (.iaload, 1) := by decide +kernel
theorem dX12_dries_141 : decode cX12_dries 141 = .ok (.if_icmp .ge 24, 3) := by decide +kernel
theorem dX12_dries_144 : decode cX12_dries 144 = .ok (.aload_n 0, 1) := by decide +kernel
theorem dX12_dries_145 : decode cX12_dries 145 = .ok (.getfield 7, 3) := by decide +kernel
theorem dX12_dries_148 : decode cX12_dries 148 = .ok (.bipush 16, 2) := by decide +kernel
theorem dX12_dries_150 : decode cX12_dries 150 = .ok (.iload_n 1, 1) := by decide +kernel
theorem dX12_dries_151 : decode cX12_dries 151 = .ok (.iadd, 1) := by decide +kernel
theorem dX12_dries_152 : decode cX12_dries 152 = .ok (.iaload, 1) := by decide +kernel
theorem dX12_dries_153 : decode cX12_dries 153 = .ok (.aload_n 0, 1) := by decide +kernel
theorem dX12_dries_154 : decode cX12_dries 154 = .ok (.getfield 7, 3) := by decide +kernel
theorem dX12_dries_157 : decode cX12_dries 157 = .ok (.bipush 8, 2) := by decide +kernel
theorem dX12_dries_159 : decode cX12_dries 159 = .ok (.iload_n 1, 1) := by decide +kernel
theorem dX12_dries_160 : decode cX12_dries 160 = .ok (.iadd, 1) := by decide +kernel
theorem dX12_dries_161 : decode cX12_dries 161 = .ok (.iaload, 1) := by decide +kernel
theorem dX12_dries_162 : decode cX12_dries 162 = .ok (.if_icmp .lt 21, 3) := by decide +kernel
theorem dX12_dries_165 : decode cX12_dries 165 = .ok (.aload_n 0, 1) := by decide +kernel
theorem dX12_dries_166 : decode cX12_dries 166 = .ok (.getfield 7, 3) := by decide +kernel
theorem dX12_dries_169 : decode cX12_dries 169 = .ok (.bipush 77, 2) := by decide +kernel
theorem dX12_dries_171 : decode cX12_dries 171 = .ok (.aload_n 0, 1) := by decide +kernel
theorem dX12_dries_172 : decode cX12_dries 172 = .ok (.getfield 7, 3) := by decide +kernel
theorem dX12_dries_175 : decode cX12_dries 175 = .ok (.bipush 77, 2) := by decide +kernel
theorem dX12_dries_177 : decode cX12_dries 177 = .ok (.iaload, 1) := by decide +kernel
theorem dX12_dries_178 : decode cX12_dries 178 = .ok (.iconst 1, 1) := by decide +kernel
theorem dX12_dries_179 : decode cX12_dries 179 = .ok (.iload_n 1, 1) := by decide +kernel
theorem dX12_dries_180 : decode cX12_dries 180 = .ok (.ishl, 1) := by decide +kernel
theorem dX12_dries_181 : decode cX12_dries 181 = .ok (.ior, 1) := by decide +kernel
theorem dX12_dries_182 : decode cX12_dries 182 = .ok (.iastore, 1) := by decide +kernel
theorem dX12_dries_183 : decode cX12_dries 183 = .ok (.bipush 6, 2) := by decide +kernel
theorem dX12_dries_185 : decode cX12_dries 185 = .ok (.istore 5, 2) := by decide +kernel
theorem dX12_dries_187 : decode cX12_dries 187 = .ok (.iload 5, 2) := by decide +kernel
theorem dX12_dries_189 : decode cX12_dries 189 = .ok (.ifCond .le 41, 3) := by decide +kernel
theorem dX12_dries_192 : decode cX12_dries 192 = .ok (.aload_n 0, 1) := by decide +kernel
theorem dX12_dries_193 : decode cX12_dries 193 = .ok (.getfield 7, 3) := by decide +kernel
theorem dX12_dries_196 : decode cX12_dries 196 = .ok (.bipush 24, 2) := by decide +kernel
theorem dX12_dries_198 : decode cX12_dries 198 = .ok (.bipush 7, 2) := by decide +kernel
theorem dX12_dries_200 : decode cX12_dries 200 = .ok (.iload_n 1, 1) := by decide +kernel
theorem dX12_dries_201 : decode cX12_dries 201 = .ok (.imul, 1) := by decide +kernel
theorem dX12_dries_202 : decode cX12_dries 202 = .ok (.iadd, 1) := by decide +kernel
theorem dX12_dries_203 : decode cX12_dries 203 = .ok (.iload 5, 2) := by decide +kernel
theorem dX12_dries_205 : decode cX12_dries 205 = .ok (.iadd, 1) := by decide +kernel
theorem dX12_dries_206 : decode cX12_dries 206 = .ok (.aload_n 0, 1) := by decide +kernel
theorem dX12_dries_207 : decode cX12_dries 207 = .ok (.getfield 7, 3) := by decide +kernel
theorem dX12_dries_210 : decode cX12_dries 210 = .ok (.bipush 24, 2) := by decide +kernel
theorem dX12_dries_212 : decode cX12_dries 212 = .ok (.bipush 7, 2) := by decide +kernel
theorem dX12_dries_214 : decode cX12_dries 214 = .ok (.iload_n 1, 1) := by decide +kernel
theorem dX12_dries_215 : decode cX12_dries 215 = .ok (.imul, 1) := by decide +kernel
theorem dX12_dries_216 : decode cX12_dries 216 = .ok (.iadd, 1) := by decide +kernel
theorem dX12_dries_217 : decode cX12_dries 217 = .ok (.iload 5, 2) := by decide +kernel
theorem dX12_dries_219 : decode cX12_dries 219 = .ok (.iadd, 1) := by decide +kernel
theorem dX12_dries_220 : decode cX12_dries 220 = .ok (.iconst 1, 1) := by decide +kernel
theorem dX12_dries_221 : decode cX12_dries 221 = .ok (.isub, 1) := by decide +kernel
theorem dX12_dries_222 : decode cX12_dries 222 = .ok (.iaload, 1) := by decide +kernel
theorem dX12_dries_223 : decode cX12_dries 223 = .ok (.iastore, 1) := by decide +kernel
theorem dX12_dries_224 : decode cX12_dries 224 = .ok (.iinc 5 (-1), 3) := by decide +kernel
theorem dX12_dries_227 : decode cX12_dries 227 = .ok (.goto (-40), 3) := by decide +kernel
theorem dX12_dries_230 : decode cX12_dries 230 = .ok (.aload_n 0, 1) := by decide +kernel
theorem dX12_dries_231 : decode cX12_dries 231 = .ok (.getfield 7, 3) := by decide +kernel
theorem dX12_dries_234 : decode cX12_dries 234 = .ok (.bipush 24, 2) := by decide +kernel
theorem dX12_dries_236 : decode cX12_dries 236 = .ok (.bipush 7, 2) := by decide +kernel
theorem dX12_dries_238 : decode cX12_dries 238 = .ok (.iload_n 1, 1) := by decide +kernel
theorem dX12_dries_239 : decode cX12_dries 239 = .ok (.imul, 1) := by decide +kernel
theorem dX12_dries_240 : decode cX12_dries 240 = .ok (.iadd, 1) := by decide +kernel
theorem dX12_dries_241 : decode cX12_dries 241 = .ok (.iload 4, 2) := by decide +kernel
theorem dX12_dries_243 : decode cX12_dries 243 = .ok (.iastore, 1) := by decide +kernel
theorem dX12_dries_244 : decode cX12_dries 244 = .ok (.return_, 1) := by decide +kernel
set_option maxRecDepth 100000 in
def f_m_dries (x1 : Int) (x2 : Int) (V : Nat → Nat → Int) (J : Nat → Nat → Int) (Rr : Nat → Nat → Nat) : (Nat → Nat → Int) → Prop :=
  rdb (V 1 ((x1 + 12).toNat)) fun z1 => fct (0 ≤ z1 ∧ z1 ≤ 8) <| rdb (V 1 ((x1 + 16).toNat)) fun z2 => fct (0 ≤ z2 ∧ z2 ≤ 8) <| calUM 4835703278458516698824704 V (f_m_feelsPlant x1 V J Rr) fun V3 => calVM 2417851639229258349412352 V3 (f_m_byText 0 101 9 V3 J Rr) fun z4 V4 => fct (0 ≤ z4 ∧ z4 ≤ 999) <| (if x2 = 0 then rdb (V4 1 ((x1 + 4).toNat)) fun z6 => fct (0 ≤ z6 ∧ z6 ≤ 24) <| calR (f_m_max 0 (z6 - z4)) fun z7 => rdb (up2 V4 1 ((x1 + 4).toNat) z7) fun V9 => jnk (fun (z10 : Int) => rdb (up2 V9 1 ((x1 + 12).toNat) z10) fun V12 => rdb (V12 1 x1.toNat) fun z13 => fct (0 ≤ z13 ∧ z13 ≤ 24) <| jnk (fun (z14 : Int) => rdb (up2 V12 1 ((x1 + 16).toNat) z14) fun V16 => rdb (V16 1 ((x1 + 8).toNat)) fun z17 => fct (0 ≤ z17 ∧ z17 ≤ 9) <| jnk (fun (V28 : Nat → Nat → Int) => lop2 (8) (fun rc55 (z54 : Int) (V55 : Nat → Nat → Int) => (if z54 ≤ 0 then rdb (up2 V55 1 ((7 * x1 + 24).toNat) z7) fun V65 => rtn V65 else rdb (V55 1 ((7 * x1 + z54 + 23).toNat)) fun z66 => rdb (up2 V55 1 ((7 * x1 + z54 + 24).toNat) z66) fun V67 => rc55 (z54 - 1) V67)) 6 V28) fun jf28 => (if z17 ≤ z10 then rdb (V16 1 77) fun z69 => rdb (iShl 1 x1) fun z70 => rdb (iOr z69 z70) fun z71 => rdb (up2 V16 1 77 z71) fun V72 => jf28 V72 else (if z14 < z17 then jf28 V16 else rdb (V16 1 77) fun z75 => rdb (iShl 1 x1) fun z76 => rdb (iOr z75 z76) fun z77 => rdb (up2 V16 1 77 z77) fun V78 => jf28 V78))) fun jf15 => (if ¬ z7 = z13 then jf15 0 else jf15 (z2 + 1))) fun jf11 => (if ¬ z7 = 0 then jf11 0 else jf11 (z1 + 1)) else calVM 2417851639229258349412352 V4 (f_m_byText 0 104 9 V4 J Rr) fun z81 V81 => fct (0 ≤ z81 ∧ z81 ≤ 999) <| rdb (V81 1 ((x1 + 4).toNat)) fun z82 => fct (0 ≤ z82 ∧ z82 ≤ 24) <| calR (f_m_max 0 (z82 - z4 - z81)) fun z83 => rdb (up2 V81 1 ((x1 + 4).toNat) z83) fun V85 => jnk (fun (z86 : Int) => rdb (up2 V85 1 ((x1 + 12).toNat) z86) fun V88 => rdb (V88 1 x1.toNat) fun z89 => fct (0 ≤ z89 ∧ z89 ≤ 24) <| jnk (fun (z90 : Int) => rdb (up2 V88 1 ((x1 + 16).toNat) z90) fun V92 => rdb (V92 1 ((x1 + 8).toNat)) fun z93 => fct (0 ≤ z93 ∧ z93 ≤ 9) <| jnk (fun (V104 : Nat → Nat → Int) => lop2 (8) (fun rc131 (z130 : Int) (V131 : Nat → Nat → Int) => (if z130 ≤ 0 then rdb (up2 V131 1 ((7 * x1 + 24).toNat) z83) fun V141 => rtn V141 else rdb (V131 1 ((7 * x1 + z130 + 23).toNat)) fun z142 => rdb (up2 V131 1 ((7 * x1 + z130 + 24).toNat) z142) fun V143 => rc131 (z130 - 1) V143)) 6 V104) fun jf104 => (if z93 ≤ z86 then rdb (V92 1 77) fun z145 => rdb (iShl 1 x1) fun z146 => rdb (iOr z145 z146) fun z147 => rdb (up2 V92 1 77 z147) fun V148 => jf104 V148 else (if z90 < z93 then jf104 V92 else rdb (V92 1 77) fun z151 => rdb (iShl 1 x1) fun z152 => rdb (iOr z151 z152) fun z153 => rdb (up2 V92 1 77 z153) fun V154 => jf104 V154))) fun jf91 => (if ¬ z83 = z89 then jf91 0 else jf91 (z2 + 1))) fun jf87 => (if ¬ z83 = 0 then jf87 0 else jf87 (z1 + 1)))
set_option maxHeartbeats 8000000 in
set_option maxRecDepth 100000 in
theorem m_dries (l : Launch) (D : va_G) (cy : Nat → ClassId) (ad : Nat → Nat) (G : Nat → Nat → Int) (V J : Nat → Nat → Int) (Rr : Nat → Nat → Nat) {K : Nat → Nat → Int} (hI : DI K G V) (hJ : VJ J) (hR : MR Rr) (x1 : Int) (bx1 : 0 ≤ x1 ∧ x1 ≤ 3) (x2 : Int) (bx2 : 0 ≤ x2 ∧ x2 ≤ 1) (hW : WP G) (hal : V 1 (12 + x1.toNat) ≤ 8 ∧ V 1 (16 + x1.toNat) ≤ 8) : xMv l D (xTY cy) yX12_dries cX12_dries 6 none 3 74 0 0 [.ref (ad 0), vI x1, vI x2] (MW cy ad V J Rr) (fun u : Nat → Nat → Int => MW cy ad u J Rr) (fun u : Nat → Nat → Int => DI K G u ∧ FBm 7253591811175922467340288 V u ∧ (f_m_dries x1 x2 V J Rr) u) := by
  refine xMv.mk (lv0 := [(0, .ref (ad 0)), (1, vI x1), (2, vI x2)]) (by decide) rfl (Nat.le_of_ble_eq_true rfl) (fun p e s m below meth c A C hr hnm hAe => ?_)
  have C : xC2 p s m _ meth c D A s.heap 6 cX12_dries RX12 (xTY cy) := C
  have hB : FBm 7253591811175922467340288 V V := FBm.rf _ _
  have hF := Imp.of_eq (f_m_dries.eq_def x1 x2 V J Rr)
  obtain ⟨z1, ez1, bz1⟩ := hI.rd 1 ((x1 + 12).toNat) (x := 0) (y := 9) (rgN_20 (Or.inl rfl) (by omega))
  have by1 : z1 ≤ 8 := by rw [← ez1, show (x1 + 12).toNat = 12 + x1.toNat by omega]; exact hal.1
  replace hF := hF.to (rdb_e (z := z1) ez1)
  replace hF := hF.fc ⟨bz1.1, by1⟩
  obtain ⟨z2, ez2, bz2⟩ := hI.rd 1 ((x1 + 16).toNat) (x := 0) (y := 9) (rgN_20 (Or.inl rfl) (by omega))
  have by2 : z2 ≤ 8 := by rw [← ez2, show (x1 + 16).toNat = 16 + x1.toNat by omega]; exact hal.2
  replace hF := hF.to (rdb_e (z := z2) ez2)
  replace hF := hF.fc ⟨bz2.1, by2⟩
  refine x_aload_n C.1 dX12_dries_0 0 rfl ?_
  refine x_iload_n C.1 dX12_dries_1 1 rfl ?_
  refine x_callVv C (As := [vI x1]) (rest := []) 0 (xw_at (N := 33) (i := 0) (by decide) rfl) vc_X12 (m_feelsPlant l D cy ad G V J Rr (KI.self hI.1) hJ hR x1 ⟨by omega, by omega⟩) (l1 := []) (l2 := []) (List.append_nil _).symm (w2 := fun u : Nat → Nat → Int => MW cy ad u J Rr) (fun _ => List.append_nil _) rfl wm_yX12_feelsPlant wn_X12 wl_X12_253 wi_yX12_feelsPlant we_yX12_feelsPlant hd_yX12_feelsPlant rfl ⟨Nat.le_of_ble_eq_true rfl, Nat.le_of_ble_eq_true rfl⟩ (Nat.le_of_ble_eq_true rfl) ⟨Nat.le_of_ble_eq_true rfl, Nat.le_of_ble_eq_true rfl⟩ dX12_dries_2 (fun V3 h3 => ?_)
  obtain ⟨hI3, hBc3, hFc3⟩ := h3
  replace hF := calUM_i hF hFc3 hBc3
  have hB3 := hB.tr hBc3 (m := 4835703278458516698824704) rfl
  have hI3c : DI K G V3 := KI.back hI3 hI sub_DA
  refine x_aload_n C.1 dX12_dries_5 0 rfl ?_
  refine x_iconst C.1 (n := 0) dX12_dries_6 ?_
  refine x_bipush C.1 (n := 101) dX12_dries_7 ?_
  refine x_bipush C.1 (n := 9) dX12_dries_9 ?_
  refine x_callVi C (As := [vI 0, vI 101, vI 9]) (rest := []) 0 (xw_at (N := 33) (i := 0) (by decide) rfl) vc_X12 (m_byText l D cy ad G V3 J Rr (KI.self hI3c.1) hJ hR 0 ⟨by decide, by decide⟩ 101 ⟨by decide, by decide⟩ 9 ⟨by decide, by decide⟩ hW) (l1 := []) (l2 := []) (List.append_nil _).symm (w2 := fun u : Nat → Nat → Int => MW cy ad u J Rr) (fun _ => List.append_nil _) rfl wm_yX12_byText wn_X12 wl_X12_256 wi_yX12_byText we_yX12_byText hd_yX12_byText rfl ⟨Nat.le_of_ble_eq_true rfl, Nat.le_of_ble_eq_true rfl⟩ (Nat.le_of_ble_eq_true rfl) ⟨Nat.le_of_ble_eq_true rfl, Nat.le_of_ble_eq_true rfl⟩ dX12_dries_11 (fun z4 V4 bz4 h4 => ?_)
  obtain ⟨hI4, bq4, hBc4, hFc4⟩ := h4
  replace hF := calVM_i hF hFc4 hBc4
  replace hF := hF.fc bq4
  have hB4 := hB3.tr hBc4 (m := 2417851639229258349412352) rfl
  have hI4c : DI K G V4 := KI.back hI4 hI3c sub_DA
  refine x_istore_n C.1 (lv' := [(3, vI z4), (0, .ref (ad 0)), (1, vI x1), (2, vI x2)]) dX12_dries_14 (by decide) rfl ?_
  refine x_iload_n C.1 dX12_dries_15 3 rfl ?_
  refine x_if_eq C.1 (tgt := 31) dX12_dries_16 (by decide) (by omega) (fun hc5 => ?_) (fun hc5 => ?_)
  · replace hF := hF.to (if_pos hc5)
    refine x_iconst C.1 (n := 0) dX12_dries_31 ?_
    refine x_aload_n C.1 dX12_dries_32 1 rfl ?_
    refine x_getA C (N := 33) (i := 0) (by decide) rfl vc_X12 wx_X12 0 (by decide) wf_X12_7 (a := 1) rfl dX12_dries_33 ?_
    refine x_iconst C.1 (n := 4) dX12_dries_36 ?_
    refine x_iload_n C.1 dX12_dries_37 2 rfl ?_
    refine x_iadd C.1 (v := x1 + 4) (by omega) dX12_dries_38 ?_
    obtain ⟨z6, ez6, bz6⟩ := hI4c.rd 1 ((x1 + 4).toNat) (x := 0) (y := 24) (rgN_8 (Or.inl rfl) (by omega))
    replace hF := hF.to (rdb_e (z := z6) ez6)
    replace hF := hF.fc bz6
    refine x_iald C (N := 33) (i := 1) (q := x1 + 4) (by decide) rfl (by omega) (by decide) dX12_dries_39 (a := z6) ez6 ?_
    refine x_iload_n C.1 dX12_dries_40 0 rfl ?_
    refine x_isub C.1 (v := z6 - z4) (by omega) dX12_dries_41 ?_
    refine x_callSi C (As := [vI 0, vI (z6 - z4)]) (rest := []) (m_max l D cy 0 ⟨by decide, by decide⟩ (z6 - z4) ⟨by omega, by omega⟩) (l1 := []) (l2 := _) rfl (w2 := fun _ => _) (fun _ => rfl) rfl wm_yX12_max wn_X12 wl_X12_272 wi_yX12_max hd_yX12_max rfl ⟨Nat.le_of_ble_eq_true rfl, Nat.le_of_ble_eq_true rfl⟩ (Nat.le_of_ble_eq_true rfl) ⟨Nat.le_of_ble_eq_true rfl, Nat.le_of_ble_eq_true rfl⟩ dX12_dries_42 (fun z7 u7 bz7 h7 => ?_)
    obtain ⟨hx7_0, hFc7⟩ := h7
    replace hF := calR_i hF hFc7
    have bm8 : 0 ≤ z7 ∧ z7 ≤ 24 := by omega
    skip
    refine x_istore C.1 (lv' := [(4, vI z7), (3, vI z4), (0, .ref (ad 0)), (1, vI x1), (2, vI x2)]) dX12_dries_45 (by decide) rfl ?_
    refine x_aload_n C.1 dX12_dries_47 2 rfl ?_
    refine x_getA C (N := 33) (i := 0) (by decide) rfl vc_X12 wx_X12 0 (by decide) wf_X12_7 (a := 1) rfl dX12_dries_48 ?_
    refine x_iconst C.1 (n := 4) dX12_dries_51 ?_
    refine x_iload_n C.1 dX12_dries_52 3 rfl ?_
    refine x_iadd C.1 (v := x1 + 4) (by omega) dX12_dries_53 ?_
    refine x_iload C.1 dX12_dries_54 0 rfl ?_
    refine x_iast C (N := 33) (i := 1) (q := x1 + 4) (a := z7) (by decide) rfl (by omega) (by decide) dX12_dries_56 ?_
    refine x_gV ?_
    intro V9 hV9
    have hI9 : DI K G V9 := hI4c.up hV9 (rgN_8 (Or.inl rfl) (by omega)) (by omega) rfl (Or.inr (by omega))
    have hB9 := hB4.up hV9 (by rw [mkey_r (by decide)]; rfl)
    replace hF := hF.to (rdb_e (z := V9) hV9.symm)
    refine x_aload_n C.1 dX12_dries_57 2 rfl ?_
    refine x_getA C (N := 33) (i := 0) (by decide) rfl vc_X12 wx_X12 0 (by decide) wf_X12_7 (a := 1) rfl dX12_dries_58 ?_
    refine x_bipush C.1 (n := 12) dX12_dries_61 ?_
    refine x_iload_n C.1 dX12_dries_63 3 rfl ?_
    refine x_iadd C.1 (v := x1 + 12) (by omega) dX12_dries_64 ?_
    refine x_iload C.1 dX12_dries_65 0 rfl ?_
    obtain ⟨jf11, hjf11, hF⟩ := jn_ex hF
    refine x_join (I := fun z10 : Int => (0 ≤ z10 ∧ z10 ≤ 9) ∧ Imp (jf11 z10) (f_m_dries x1 x2 V J Rr)) (wsf := fun z10 : Int => MW cy ad V9 J Rr) (lvf := fun z10 : Int => [(4, vI z7), (3, vI z4), (0, .ref (ad 0)), (1, vI x1), (2, vI x2)]) (stf := fun z10 : Int => [vI z10, vI (x1 + 12), .ref (ad 1)]) 85 (fun z10 hI11x => ?_) (fun jn11 => ?_)
    · obtain ⟨bz10, hF⟩ := hI11x
      try dsimp only
      replace hF := hF.to (jn_s1 hjf11)
      refine x_iast C (N := 33) (i := 1) (q := x1 + 12) (a := z10) (by decide) rfl (by omega) (by decide) dX12_dries_85 ?_
      refine x_gV ?_
      intro V12 hV12
      have hI12 : DX x1.toNat K G V12 := DX.up (DX.of hI9) hV12 (rgN_20 (Or.inl rfl) (by omega)) (by omega) rfl (Or.inr ⟨rfl, by omega, by omega⟩)
      have hB12 := hB9.up hV12 (by rw [mkey_r (by decide)]; rfl)
      replace hF := hF.to (rdb_e (z := V12) hV12.symm)
      refine x_aload_n C.1 dX12_dries_86 2 rfl ?_
      refine x_getA C (N := 33) (i := 0) (by decide) rfl vc_X12 wx_X12 0 (by decide) wf_X12_7 (a := 1) rfl dX12_dries_87 ?_
      refine x_bipush C.1 (n := 16) dX12_dries_90 ?_
      refine x_iload_n C.1 dX12_dries_92 3 rfl ?_
      refine x_iadd C.1 (v := x1 + 16) (by omega) dX12_dries_93 ?_
      refine x_iload C.1 dX12_dries_94 0 rfl ?_
      refine x_aload_n C.1 dX12_dries_96 2 rfl ?_
      refine x_getA C (N := 33) (i := 0) (by decide) rfl vc_X12 wx_X12 0 (by decide) wf_X12_7 (a := 1) rfl dX12_dries_97 ?_
      refine x_iconst C.1 (n := 0) dX12_dries_100 ?_
      refine x_iload_n C.1 dX12_dries_101 3 rfl ?_
      refine x_iadd C.1 (v := x1) (by omega) dX12_dries_102 ?_
      obtain ⟨z13, ez13, bz13⟩ := hI12.rd 1 x1.toNat (x := 0) (y := 24) (rgN_8 (Or.inl rfl) (by omega))
      replace hF := hF.to (rdb_e (z := z13) ez13)
      replace hF := hF.fc bz13
      refine x_iald C (N := 33) (i := 1) (q := x1) (by decide) rfl (by omega) (by decide) dX12_dries_103 (a := z13) ez13 ?_
      obtain ⟨jf15, hjf15, hF⟩ := jn_ex hF
      refine x_join (I := fun z14 : Int => (0 ≤ z14 ∧ z14 ≤ 9) ∧ Imp (jf15 z14) (f_m_dries x1 x2 V J Rr)) (wsf := fun z14 : Int => MW cy ad V12 J Rr) (lvf := fun z14 : Int => [(4, vI z7), (3, vI z4), (0, .ref (ad 0)), (1, vI x1), (2, vI x2)]) (stf := fun z14 : Int => [vI z14, vI (x1 + 16), .ref (ad 1)]) 122 (fun z14 hI15x => ?_) (fun jn15 => ?_)
      · obtain ⟨bz14, hF⟩ := hI15x
        try dsimp only
        replace hF := hF.to (jn_s1 hjf15)
        refine x_iast C (N := 33) (i := 1) (q := x1 + 16) (a := z14) (by decide) rfl (by omega) (by decide) dX12_dries_122 ?_
        refine x_gV ?_
        intro V16 hV16
        have hI16 : DX x1.toNat K G V16 := hI12.up hV16 (rgN_20 (Or.inl rfl) (by omega)) (by omega) rfl (Or.inr (by omega))
        have hB16 := hB12.up hV16 (by rw [mkey_r (by decide)]; rfl)
        replace hF := hF.to (rdb_e (z := V16) hV16.symm)
        refine x_aload_n C.1 dX12_dries_123 2 rfl ?_
        refine x_getA C (N := 33) (i := 0) (by decide) rfl vc_X12 wx_X12 0 (by decide) wf_X12_7 (a := 1) rfl dX12_dries_124 ?_
        refine x_bipush C.1 (n := 12) dX12_dries_127 ?_
        refine x_iload_n C.1 dX12_dries_129 3 rfl ?_
        refine x_iadd C.1 (v := x1 + 12) (by omega) dX12_dries_130 ?_
        refine x_iald C (N := 33) (i := 1) (q := x1 + 12) (by decide) rfl (by omega) (by decide) dX12_dries_131 (a := z10) ((congrFun (congrFun hV16 1) ((x1 + 12).toNat)).trans ((up2_n _ _ (Or.inr (by omega))).trans ((congrFun (congrFun hV12 1) ((x1 + 12).toNat)).trans (up2_s _ _ _ _)))) ?_
        refine x_aload_n C.1 dX12_dries_132 2 rfl ?_
        refine x_getA C (N := 33) (i := 0) (by decide) rfl vc_X12 wx_X12 0 (by decide) wf_X12_7 (a := 1) rfl dX12_dries_133 ?_
        refine x_bipush C.1 (n := 8) dX12_dries_136 ?_
        refine x_iload_n C.1 dX12_dries_138 3 rfl ?_
        refine x_iadd C.1 (v := x1 + 8) (by omega) dX12_dries_139 ?_
        obtain ⟨z17, ez17, bz17⟩ := hI16.rd 1 ((x1 + 8).toNat) (x := 0) (y := 9) (rgN_20 (Or.inl rfl) (by omega))
        replace hF := hF.to (rdb_e (z := z17) ez17)
        replace hF := hF.fc bz17
        refine x_iald C (N := 33) (i := 1) (q := x1 + 8) (by decide) rfl (by omega) (by decide) dX12_dries_140 (a := z17) ez17 ?_
        obtain ⟨jf28, hjf28, hF⟩ := jn_ex hF
        refine x_join (I := fun V28 : (Nat → Nat → Int) => DI K G V28 ∧ FBm 7253591811175922467340288 V V28 ∧ Imp (jf28 V28) (f_m_dries x1 x2 V J Rr)) (wsf := fun V28 : (Nat → Nat → Int) => MW cy ad V28 J Rr) (lvf := fun V28 : (Nat → Nat → Int) => [(4, vI z7), (3, vI z4), (0, .ref (ad 0)), (1, vI x1), (2, vI x2)]) (stf := fun V28 : (Nat → Nat → Int) => []) 183 (fun V28 hI28x => ?_) (fun jn28 => ?_)
        · obtain ⟨hI28, hB28, hF⟩ := hI28x
          try dsimp only
          replace hF := hF.to (jn_s1 hjf28)
          refine x_bipush C.1 (n := 6) dX12_dries_183 ?_
          refine x_istore C.1 (lv' := [(5, vI 6), (4, vI z7), (3, vI z4), (0, .ref (ad 0)), (1, vI x1), (2, vI x2)]) dX12_dries_185 (by decide) rfl ?_
          obtain ⟨bd55, hbd55, hF⟩ := lop2_ex hF
          refine x_loop (I := fun x : Int × (Nat → Nat → Int) => match x with | (z54, V55) => (0 ≤ z54 ∧ z54 ≤ 6) ∧ DI K G V55 ∧ FBm 7253591811175922467340288 V V55 ∧ (∃ nf : Nat, (z54 - (-1)).toNat < nf ∧ Imp (lop2 nf bd55 z54 V55) (f_m_dries x1 x2 V J Rr))) (μ := fun x : Int × (Nat → Nat → Int) => match x with | (z54, V55) => (z54 - (-1)).toNat) (wsf := fun x : Int × (Nat → Nat → Int) => match x with | (z54, V55) => MW cy ad V55 J Rr) (lvf := fun x : Int × (Nat → Nat → Int) => match x with | (z54, V55) => [(5, vI z54), (4, vI z7), (3, vI z4), (0, .ref (ad 0)), (1, vI x1), (2, vI x2)]) (fun x hI55x ih55 => ?_) (6, V28) ⟨⟨by decide, by decide⟩, hI28, hB28, ⟨_, (by omega), hF⟩⟩ rfl rfl
          obtain ⟨z54, V55⟩ := x
          obtain ⟨bz54, hI55, hB55, nf55, hn55, hF⟩ := hI55x
          try dsimp only
          obtain ⟨nf55, rfl⟩ : ∃ mm, nf55 = mm + 1 := ⟨nf55 - 1, (Nat.succ_pred_eq_of_pos (Nat.lt_of_le_of_lt (Nat.zero_le _) hn55)).symm⟩
          replace hF := hF.to (lop2_s hbd55)
          refine x_iload C.1 dX12_dries_187 0 rfl ?_
          refine x_if_le C.1 (tgt := 230) dX12_dries_189 (by decide) (by omega) (fun hc64 => ?_) (fun hc64 => ?_)
          · replace hF := hF.to (if_pos hc64)
            refine x_aload_n C.1 dX12_dries_230 3 rfl ?_
            refine x_getA C (N := 33) (i := 0) (by decide) rfl vc_X12 wx_X12 0 (by decide) wf_X12_7 (a := 1) rfl dX12_dries_231 ?_
            refine x_bipush C.1 (n := 24) dX12_dries_234 ?_
            refine x_bipush C.1 (n := 7) dX12_dries_236 ?_
            refine x_iload_n C.1 dX12_dries_238 4 rfl ?_
            refine x_imul C.1 (v := 7 * x1) (by omega) dX12_dries_239 ?_
            refine x_iadd C.1 (v := 7 * x1 + 24) (by omega) dX12_dries_240 ?_
            refine x_iload C.1 dX12_dries_241 1 rfl ?_
            refine x_iast C (N := 33) (i := 1) (q := 7 * x1 + 24) (a := z7) (by decide) rfl (by omega) (by decide) dX12_dries_243 ?_
            refine x_gV ?_
            intro V65 hV65
            have hI65 : DI K G V65 := hI55.up hV65 (rgN_60 (Or.inl rfl) (by omega)) (by omega) rfl (Or.inr (by omega))
            have hB65 := hB55.up hV65 (by rw [mkey_r (by decide)]; rfl)
            replace hF := hF.to (rdb_e (z := V65) hV65.symm)
            exact x_vret (S := (Nat → Nat → Int)) (post := (fun u : Nat → Nat → Int => DI K G u ∧ FBm 7253591811175922467340288 V u ∧ (f_m_dries x1 x2 V J Rr) u)) (w1 := (fun u : Nat → Nat → Int => MW cy ad u J Rr)) C hr rfl dX12_dries_244 V65 rfl ⟨hI65, hB65, hF _ rfl⟩
          · replace hF := hF.to (if_neg hc64)
            refine x_aload_n C.1 dX12_dries_192 3 rfl ?_
            refine x_getA C (N := 33) (i := 0) (by decide) rfl vc_X12 wx_X12 0 (by decide) wf_X12_7 (a := 1) rfl dX12_dries_193 ?_
            refine x_bipush C.1 (n := 24) dX12_dries_196 ?_
            refine x_bipush C.1 (n := 7) dX12_dries_198 ?_
            refine x_iload_n C.1 dX12_dries_200 4 rfl ?_
            refine x_imul C.1 (v := 7 * x1) (by omega) dX12_dries_201 ?_
            refine x_iadd C.1 (v := 7 * x1 + 24) (by omega) dX12_dries_202 ?_
            refine x_iload C.1 dX12_dries_203 0 rfl ?_
            refine x_iadd C.1 (v := 7 * x1 + z54 + 24) (by omega) dX12_dries_205 ?_
            refine x_aload_n C.1 dX12_dries_206 3 rfl ?_
            refine x_getA C (N := 33) (i := 0) (by decide) rfl vc_X12 wx_X12 0 (by decide) wf_X12_7 (a := 1) rfl dX12_dries_207 ?_
            refine x_bipush C.1 (n := 24) dX12_dries_210 ?_
            refine x_bipush C.1 (n := 7) dX12_dries_212 ?_
            refine x_iload_n C.1 dX12_dries_214 4 rfl ?_
            refine x_imul C.1 (v := 7 * x1) (by omega) dX12_dries_215 ?_
            refine x_iadd C.1 (v := 7 * x1 + 24) (by omega) dX12_dries_216 ?_
            refine x_iload C.1 dX12_dries_217 0 rfl ?_
            refine x_iadd C.1 (v := 7 * x1 + z54 + 24) (by omega) dX12_dries_219 ?_
            refine x_iconst C.1 (n := 1) dX12_dries_220 ?_
            refine x_isub C.1 (v := 7 * x1 + z54 + 23) (by omega) dX12_dries_221 ?_
            obtain ⟨z66, ez66, bz66⟩ := hI55.rd 1 ((7 * x1 + z54 + 23).toNat) (x := -2147483648) (y := 2147483647) (rgN_60 (Or.inl rfl) (by omega))
            replace hF := hF.to (rdb_e (z := z66) ez66)
            refine x_iald C (N := 33) (i := 1) (q := 7 * x1 + z54 + 23) (by decide) rfl (by omega) (by decide) dX12_dries_222 (a := z66) ez66 ?_
            refine x_iast C (N := 33) (i := 1) (q := 7 * x1 + z54 + 24) (a := z66) (by decide) rfl (by omega) (by decide) dX12_dries_223 ?_
            refine x_gV ?_
            intro V67 hV67
            have hI67 : DI K G V67 := hI55.up hV67 (rgN_60 (Or.inl rfl) (by omega)) (by omega) rfl (Or.inr (by omega))
            have hB67 := hB55.up hV67 (by rw [mkey_r (by decide)]; rfl)
            replace hF := hF.to (rdb_e (z := V67) hV67.symm)
            refine x_iinc C.1 (v := z54 - 1) (lv' := [(5, vI (z54 - 1)), (4, vI z7), (3, vI z4), (0, .ref (ad 0)), (1, vI x1), (2, vI x2)]) (by omega) dX12_dries_224 0 rfl (by decide) rfl ?_
            refine x_goto C.1 (tgt := 187) dX12_dries_227 (by decide) ?_
            have hmu55 : ((z54 - 1) - (-1)).toNat < (z54 - (-1)).toNat := (by omega)
            exact ih55 (z54 - 1, V67) ⟨⟨by omega, by omega⟩, hI67, hB67, ⟨nf55, Nat.lt_of_lt_of_le hmu55 (Nat.le_of_lt_succ hn55), hF⟩⟩ hmu55
        · refine x_icmp_ge C.1 (tgt := 165) dX12_dries_141 (by decide) (by omega) (by omega) (fun hc68 => ?_) (fun hc68 => ?_)
          · replace hF := hF.to (if_pos hc68)
            refine x_aload_n C.1 dX12_dries_165 2 rfl ?_
            refine x_getA C (N := 33) (i := 0) (by decide) rfl vc_X12 wx_X12 0 (by decide) wf_X12_7 (a := 1) rfl dX12_dries_166 ?_
            refine x_bipush C.1 (n := 77) dX12_dries_169 ?_
            refine x_aload_n C.1 dX12_dries_171 2 rfl ?_
            refine x_getA C (N := 33) (i := 0) (by decide) rfl vc_X12 wx_X12 0 (by decide) wf_X12_7 (a := 1) rfl dX12_dries_172 ?_
            refine x_bipush C.1 (n := 77) dX12_dries_175 ?_
            obtain ⟨z69, ez69, bz69⟩ := hI16.rd 1 77 (x := -2147483648) (y := 2147483647) (rgN_81 (Or.inl rfl) (by decide))
            replace hF := hF.to (rdb_e (z := z69) ez69)
            refine x_iald C (N := 33) (i := 1) (q := 77) (by decide) rfl (by decide) (by decide) dX12_dries_177 (a := z69) ez69 ?_
            refine x_iconst C.1 (n := 1) dX12_dries_178 ?_
            refine x_iload_n C.1 dX12_dries_179 3 rfl ?_
            obtain ⟨z70, hz70, bz70⟩ : ∃ z : Int, iShl 1 x1 = z ∧ (-2147483648 ≤ z ∧ z ≤ 2147483647) := ⟨_, rfl, xi_r _⟩
            replace hF := hF.to (rdb_e (z := z70) hz70)
            refine x_ishl C.1 (v := z70) hz70 dX12_dries_180 ?_
            obtain ⟨z71, hz71, bz71⟩ : ∃ z : Int, iOr z69 z70 = z ∧ (-2147483648 ≤ z ∧ z ≤ 2147483647) := ⟨_, rfl, xi_r _⟩
            replace hF := hF.to (rdb_e (z := z71) hz71)
            refine x_ior C.1 (v := z71) hz71 dX12_dries_181 ?_
            refine x_iast C (N := 33) (i := 1) (q := 77) (a := z71) (by decide) rfl (by decide) (by decide) dX12_dries_182 ?_
            rw [show (77 : Int).toNat = 77 from rfl]
            refine x_gV ?_
            intro V72 hV72
            have hI72 : DI K G V72 := DX.die hI16 (r := x1.toNat) (by omega) ez69 (by rw [Int.toNat_of_nonneg (by omega), hz70, hz71]; exact hV72)
            have hB72 := hB16.up hV72 (by rw [mkey_r (by decide)]; rfl)
            replace hF := hF.to (rdb_e (z := V72) hV72.symm)
            exact jn28 V72 ⟨hI72, hB72, hF⟩
          · replace hF := hF.to (if_neg hc68)
            refine x_aload_n C.1 dX12_dries_144 2 rfl ?_
            refine x_getA C (N := 33) (i := 0) (by decide) rfl vc_X12 wx_X12 0 (by decide) wf_X12_7 (a := 1) rfl dX12_dries_145 ?_
            refine x_bipush C.1 (n := 16) dX12_dries_148 ?_
            refine x_iload_n C.1 dX12_dries_150 3 rfl ?_
            refine x_iadd C.1 (v := x1 + 16) (by omega) dX12_dries_151 ?_
            refine x_iald C (N := 33) (i := 1) (q := x1 + 16) (by decide) rfl (by omega) (by decide) dX12_dries_152 (a := z14) ((congrFun (congrFun hV16 1) ((x1 + 16).toNat)).trans (up2_s _ _ _ _)) ?_
            refine x_aload_n C.1 dX12_dries_153 2 rfl ?_
            refine x_getA C (N := 33) (i := 0) (by decide) rfl vc_X12 wx_X12 0 (by decide) wf_X12_7 (a := 1) rfl dX12_dries_154 ?_
            refine x_bipush C.1 (n := 8) dX12_dries_157 ?_
            refine x_iload_n C.1 dX12_dries_159 3 rfl ?_
            refine x_iadd C.1 (v := x1 + 8) (by omega) dX12_dries_160 ?_
            refine x_iald C (N := 33) (i := 1) (q := x1 + 8) (by decide) rfl (by omega) (by decide) dX12_dries_161 (a := z17) ez17 ?_
            refine x_icmp_lt C.1 (tgt := 183) dX12_dries_162 (by decide) (by omega) (by omega) (fun hc73 => ?_) (fun hc73 => ?_)
            · replace hF := hF.to (if_pos hc73)
              have hIb74 := DX.back hI16 ⟨by rw [show 12 + x1.toNat = (x1 + 12).toNat by omega, ((congrFun (congrFun hV16 1) ((x1 + 12).toNat)).trans ((up2_n _ _ (Or.inr (by omega))).trans ((congrFun (congrFun hV12 1) ((x1 + 12).toNat)).trans (up2_s _ _ _ _))))]; omega, by rw [show 16 + x1.toNat = (x1 + 16).toNat by omega, ((congrFun (congrFun hV16 1) ((x1 + 16).toNat)).trans (up2_s _ _ _ _))]; omega⟩
              exact jn28 V16 ⟨hIb74, hB16, hF⟩
            · replace hF := hF.to (if_neg hc73)
              refine x_aload_n C.1 dX12_dries_165 2 rfl ?_
              refine x_getA C (N := 33) (i := 0) (by decide) rfl vc_X12 wx_X12 0 (by decide) wf_X12_7 (a := 1) rfl dX12_dries_166 ?_
              refine x_bipush C.1 (n := 77) dX12_dries_169 ?_
              refine x_aload_n C.1 dX12_dries_171 2 rfl ?_
              refine x_getA C (N := 33) (i := 0) (by decide) rfl vc_X12 wx_X12 0 (by decide) wf_X12_7 (a := 1) rfl dX12_dries_172 ?_
              refine x_bipush C.1 (n := 77) dX12_dries_175 ?_
              obtain ⟨z75, ez75, bz75⟩ := hI16.rd 1 77 (x := -2147483648) (y := 2147483647) (rgN_81 (Or.inl rfl) (by decide))
              replace hF := hF.to (rdb_e (z := z75) ez75)
              refine x_iald C (N := 33) (i := 1) (q := 77) (by decide) rfl (by decide) (by decide) dX12_dries_177 (a := z75) ez75 ?_
              refine x_iconst C.1 (n := 1) dX12_dries_178 ?_
              refine x_iload_n C.1 dX12_dries_179 3 rfl ?_
              obtain ⟨z76, hz76, bz76⟩ : ∃ z : Int, iShl 1 x1 = z ∧ (-2147483648 ≤ z ∧ z ≤ 2147483647) := ⟨_, rfl, xi_r _⟩
              replace hF := hF.to (rdb_e (z := z76) hz76)
              refine x_ishl C.1 (v := z76) hz76 dX12_dries_180 ?_
              obtain ⟨z77, hz77, bz77⟩ : ∃ z : Int, iOr z75 z76 = z ∧ (-2147483648 ≤ z ∧ z ≤ 2147483647) := ⟨_, rfl, xi_r _⟩
              replace hF := hF.to (rdb_e (z := z77) hz77)
              refine x_ior C.1 (v := z77) hz77 dX12_dries_181 ?_
              refine x_iast C (N := 33) (i := 1) (q := 77) (a := z77) (by decide) rfl (by decide) (by decide) dX12_dries_182 ?_
              rw [show (77 : Int).toNat = 77 from rfl]
              refine x_gV ?_
              intro V78 hV78
              have hI78 : DI K G V78 := DX.die hI16 (r := x1.toNat) (by omega) ez75 (by rw [Int.toNat_of_nonneg (by omega), hz76, hz77]; exact hV78)
              have hB78 := hB16.up hV78 (by rw [mkey_r (by decide)]; rfl)
              replace hF := hF.to (rdb_e (z := V78) hV78.symm)
              exact jn28 V78 ⟨hI78, hB78, hF⟩
      · refine x_icmp_ne C.1 (tgt := 121) dX12_dries_104 (by decide) (by omega) (by omega) (fun hc79 => ?_) (fun hc79 => ?_)
        · replace hF := hF.to (if_pos hc79)
          refine x_iconst C.1 (n := 0) dX12_dries_121 ?_
          exact jn15 0 ⟨⟨by decide, by decide⟩, hF⟩
        · replace hF := hF.to (if_neg (fun hh => hh hc79))
          refine x_aload_n C.1 dX12_dries_107 2 rfl ?_
          refine x_getA C (N := 33) (i := 0) (by decide) rfl vc_X12 wx_X12 0 (by decide) wf_X12_7 (a := 1) rfl dX12_dries_108 ?_
          refine x_bipush C.1 (n := 16) dX12_dries_111 ?_
          refine x_iload_n C.1 dX12_dries_113 3 rfl ?_
          refine x_iadd C.1 (v := x1 + 16) (by omega) dX12_dries_114 ?_
          refine x_iald C (N := 33) (i := 1) (q := x1 + 16) (by decide) rfl (by omega) (by decide) dX12_dries_115 (a := z2) ((congrFun (congrFun hV12 1) ((x1 + 16).toNat)).trans ((up2_n _ _ (Or.inr (by omega))).trans ((congrFun (congrFun hV9 1) ((x1 + 16).toNat)).trans ((up2_n _ _ (Or.inr (by omega))).trans ((hI4.2 1 ((x1 + 16).toNat) (Or.inl rfl)).trans ((hI3.2 1 ((x1 + 16).toNat) (Or.inl rfl)).trans ez2)))))) ?_
          refine x_iconst C.1 (n := 1) dX12_dries_116 ?_
          refine x_iadd C.1 (v := z2 + 1) (by omega) dX12_dries_117 ?_
          refine x_goto C.1 (tgt := 122) dX12_dries_118 (by decide) ?_
          exact jn15 (z2 + 1) ⟨⟨by omega, by omega⟩, hF⟩
    · refine x_if_ne C.1 (tgt := 84) dX12_dries_67 (by decide) (by omega) (fun hc80 => ?_) (fun hc80 => ?_)
      · replace hF := hF.to (if_pos hc80)
        refine x_iconst C.1 (n := 0) dX12_dries_84 ?_
        exact jn11 0 ⟨⟨by decide, by decide⟩, hF⟩
      · replace hF := hF.to (if_neg (fun hh => hh hc80))
        refine x_aload_n C.1 dX12_dries_70 2 rfl ?_
        refine x_getA C (N := 33) (i := 0) (by decide) rfl vc_X12 wx_X12 0 (by decide) wf_X12_7 (a := 1) rfl dX12_dries_71 ?_
        refine x_bipush C.1 (n := 12) dX12_dries_74 ?_
        refine x_iload_n C.1 dX12_dries_76 3 rfl ?_
        refine x_iadd C.1 (v := x1 + 12) (by omega) dX12_dries_77 ?_
        refine x_iald C (N := 33) (i := 1) (q := x1 + 12) (by decide) rfl (by omega) (by decide) dX12_dries_78 (a := z1) ((congrFun (congrFun hV9 1) ((x1 + 12).toNat)).trans ((up2_n _ _ (Or.inr (by omega))).trans ((hI4.2 1 ((x1 + 12).toNat) (Or.inl rfl)).trans ((hI3.2 1 ((x1 + 12).toNat) (Or.inl rfl)).trans ez1)))) ?_
        refine x_iconst C.1 (n := 1) dX12_dries_79 ?_
        refine x_iadd C.1 (v := z1 + 1) (by omega) dX12_dries_80 ?_
        refine x_goto C.1 (tgt := 85) dX12_dries_81 (by decide) ?_
        exact jn11 (z1 + 1) ⟨⟨by omega, by omega⟩, hF⟩
  · replace hF := hF.to (if_neg hc5)
    refine x_iload_n C.1 dX12_dries_19 0 rfl ?_
    refine x_aload_n C.1 dX12_dries_20 1 rfl ?_
    refine x_iconst C.1 (n := 0) dX12_dries_21 ?_
    refine x_bipush C.1 (n := 104) dX12_dries_22 ?_
    refine x_bipush C.1 (n := 9) dX12_dries_24 ?_
    refine x_callVi C (As := [vI 0, vI 104, vI 9]) (rest := [vI z4]) 0 (xw_at (N := 33) (i := 0) (by decide) rfl) vc_X12 (m_byText l D cy ad G V4 J Rr (KI.self hI4c.1) hJ hR 0 ⟨by decide, by decide⟩ 104 ⟨by decide, by decide⟩ 9 ⟨by decide, by decide⟩ hW) (l1 := []) (l2 := []) (List.append_nil _).symm (w2 := fun u : Nat → Nat → Int => MW cy ad u J Rr) (fun _ => List.append_nil _) rfl wm_yX12_byText wn_X12 wl_X12_256 wi_yX12_byText we_yX12_byText hd_yX12_byText rfl ⟨Nat.le_of_ble_eq_true rfl, Nat.le_of_ble_eq_true rfl⟩ (Nat.le_of_ble_eq_true rfl) ⟨Nat.le_of_ble_eq_true rfl, Nat.le_of_ble_eq_true rfl⟩ dX12_dries_26 (fun z81 V81 bz81 h81 => ?_)
    obtain ⟨hI81, bq81, hBc81, hFc81⟩ := h81
    replace hF := calVM_i hF hFc81 hBc81
    replace hF := hF.fc bq81
    have hB81 := hB4.tr hBc81 (m := 2417851639229258349412352) rfl
    have hI81c : DI K G V81 := KI.back hI81 hI4c sub_DA
    refine x_iadd C.1 (v := z4 + z81) (by omega) dX12_dries_29 ?_
    refine x_istore_n C.1 (lv' := [(3, vI (z4 + z81)), (0, .ref (ad 0)), (1, vI x1), (2, vI x2)]) dX12_dries_30 (by decide) rfl ?_
    refine x_iconst C.1 (n := 0) dX12_dries_31 ?_
    refine x_aload_n C.1 dX12_dries_32 1 rfl ?_
    refine x_getA C (N := 33) (i := 0) (by decide) rfl vc_X12 wx_X12 0 (by decide) wf_X12_7 (a := 1) rfl dX12_dries_33 ?_
    refine x_iconst C.1 (n := 4) dX12_dries_36 ?_
    refine x_iload_n C.1 dX12_dries_37 2 rfl ?_
    refine x_iadd C.1 (v := x1 + 4) (by omega) dX12_dries_38 ?_
    obtain ⟨z82, ez82, bz82⟩ := hI81c.rd 1 ((x1 + 4).toNat) (x := 0) (y := 24) (rgN_8 (Or.inl rfl) (by omega))
    replace hF := hF.to (rdb_e (z := z82) ez82)
    replace hF := hF.fc bz82
    refine x_iald C (N := 33) (i := 1) (q := x1 + 4) (by decide) rfl (by omega) (by decide) dX12_dries_39 (a := z82) ez82 ?_
    refine x_iload_n C.1 dX12_dries_40 0 rfl ?_
    refine x_isub C.1 (v := z82 - z4 - z81) (by omega) dX12_dries_41 ?_
    refine x_callSi C (As := [vI 0, vI (z82 - z4 - z81)]) (rest := []) (m_max l D cy 0 ⟨by decide, by decide⟩ (z82 - z4 - z81) ⟨by omega, by omega⟩) (l1 := []) (l2 := _) rfl (w2 := fun _ => _) (fun _ => rfl) rfl wm_yX12_max wn_X12 wl_X12_272 wi_yX12_max hd_yX12_max rfl ⟨Nat.le_of_ble_eq_true rfl, Nat.le_of_ble_eq_true rfl⟩ (Nat.le_of_ble_eq_true rfl) ⟨Nat.le_of_ble_eq_true rfl, Nat.le_of_ble_eq_true rfl⟩ dX12_dries_42 (fun z83 u83 bz83 h83 => ?_)
    obtain ⟨hx83_0, hFc83⟩ := h83
    replace hF := calR_i hF hFc83
    have bm84 : 0 ≤ z83 ∧ z83 ≤ 24 := by omega
    skip
    refine x_istore C.1 (lv' := [(4, vI z83), (3, vI (z4 + z81)), (0, .ref (ad 0)), (1, vI x1), (2, vI x2)]) dX12_dries_45 (by decide) rfl ?_
    refine x_aload_n C.1 dX12_dries_47 2 rfl ?_
    refine x_getA C (N := 33) (i := 0) (by decide) rfl vc_X12 wx_X12 0 (by decide) wf_X12_7 (a := 1) rfl dX12_dries_48 ?_
    refine x_iconst C.1 (n := 4) dX12_dries_51 ?_
    refine x_iload_n C.1 dX12_dries_52 3 rfl ?_
    refine x_iadd C.1 (v := x1 + 4) (by omega) dX12_dries_53 ?_
    refine x_iload C.1 dX12_dries_54 0 rfl ?_
    refine x_iast C (N := 33) (i := 1) (q := x1 + 4) (a := z83) (by decide) rfl (by omega) (by decide) dX12_dries_56 ?_
    refine x_gV ?_
    intro V85 hV85
    have hI85 : DI K G V85 := hI81c.up hV85 (rgN_8 (Or.inl rfl) (by omega)) (by omega) rfl (Or.inr (by omega))
    have hB85 := hB81.up hV85 (by rw [mkey_r (by decide)]; rfl)
    replace hF := hF.to (rdb_e (z := V85) hV85.symm)
    refine x_aload_n C.1 dX12_dries_57 2 rfl ?_
    refine x_getA C (N := 33) (i := 0) (by decide) rfl vc_X12 wx_X12 0 (by decide) wf_X12_7 (a := 1) rfl dX12_dries_58 ?_
    refine x_bipush C.1 (n := 12) dX12_dries_61 ?_
    refine x_iload_n C.1 dX12_dries_63 3 rfl ?_
    refine x_iadd C.1 (v := x1 + 12) (by omega) dX12_dries_64 ?_
    refine x_iload C.1 dX12_dries_65 0 rfl ?_
    obtain ⟨jf87, hjf87, hF⟩ := jn_ex hF
    refine x_join (I := fun z86 : Int => (0 ≤ z86 ∧ z86 ≤ 9) ∧ Imp (jf87 z86) (f_m_dries x1 x2 V J Rr)) (wsf := fun z86 : Int => MW cy ad V85 J Rr) (lvf := fun z86 : Int => [(4, vI z83), (3, vI (z4 + z81)), (0, .ref (ad 0)), (1, vI x1), (2, vI x2)]) (stf := fun z86 : Int => [vI z86, vI (x1 + 12), .ref (ad 1)]) 85 (fun z86 hI87x => ?_) (fun jn87 => ?_)
    · obtain ⟨bz86, hF⟩ := hI87x
      try dsimp only
      replace hF := hF.to (jn_s1 hjf87)
      refine x_iast C (N := 33) (i := 1) (q := x1 + 12) (a := z86) (by decide) rfl (by omega) (by decide) dX12_dries_85 ?_
      refine x_gV ?_
      intro V88 hV88
      have hI88 : DX x1.toNat K G V88 := DX.up (DX.of hI85) hV88 (rgN_20 (Or.inl rfl) (by omega)) (by omega) rfl (Or.inr ⟨rfl, by omega, by omega⟩)
      have hB88 := hB85.up hV88 (by rw [mkey_r (by decide)]; rfl)
      replace hF := hF.to (rdb_e (z := V88) hV88.symm)
      refine x_aload_n C.1 dX12_dries_86 2 rfl ?_
      refine x_getA C (N := 33) (i := 0) (by decide) rfl vc_X12 wx_X12 0 (by decide) wf_X12_7 (a := 1) rfl dX12_dries_87 ?_
      refine x_bipush C.1 (n := 16) dX12_dries_90 ?_
      refine x_iload_n C.1 dX12_dries_92 3 rfl ?_
      refine x_iadd C.1 (v := x1 + 16) (by omega) dX12_dries_93 ?_
      refine x_iload C.1 dX12_dries_94 0 rfl ?_
      refine x_aload_n C.1 dX12_dries_96 2 rfl ?_
      refine x_getA C (N := 33) (i := 0) (by decide) rfl vc_X12 wx_X12 0 (by decide) wf_X12_7 (a := 1) rfl dX12_dries_97 ?_
      refine x_iconst C.1 (n := 0) dX12_dries_100 ?_
      refine x_iload_n C.1 dX12_dries_101 3 rfl ?_
      refine x_iadd C.1 (v := x1) (by omega) dX12_dries_102 ?_
      obtain ⟨z89, ez89, bz89⟩ := hI88.rd 1 x1.toNat (x := 0) (y := 24) (rgN_8 (Or.inl rfl) (by omega))
      replace hF := hF.to (rdb_e (z := z89) ez89)
      replace hF := hF.fc bz89
      refine x_iald C (N := 33) (i := 1) (q := x1) (by decide) rfl (by omega) (by decide) dX12_dries_103 (a := z89) ez89 ?_
      obtain ⟨jf91, hjf91, hF⟩ := jn_ex hF
      refine x_join (I := fun z90 : Int => (0 ≤ z90 ∧ z90 ≤ 9) ∧ Imp (jf91 z90) (f_m_dries x1 x2 V J Rr)) (wsf := fun z90 : Int => MW cy ad V88 J Rr) (lvf := fun z90 : Int => [(4, vI z83), (3, vI (z4 + z81)), (0, .ref (ad 0)), (1, vI x1), (2, vI x2)]) (stf := fun z90 : Int => [vI z90, vI (x1 + 16), .ref (ad 1)]) 122 (fun z90 hI91x => ?_) (fun jn91 => ?_)
      · obtain ⟨bz90, hF⟩ := hI91x
        try dsimp only
        replace hF := hF.to (jn_s1 hjf91)
        refine x_iast C (N := 33) (i := 1) (q := x1 + 16) (a := z90) (by decide) rfl (by omega) (by decide) dX12_dries_122 ?_
        refine x_gV ?_
        intro V92 hV92
        have hI92 : DX x1.toNat K G V92 := hI88.up hV92 (rgN_20 (Or.inl rfl) (by omega)) (by omega) rfl (Or.inr (by omega))
        have hB92 := hB88.up hV92 (by rw [mkey_r (by decide)]; rfl)
        replace hF := hF.to (rdb_e (z := V92) hV92.symm)
        refine x_aload_n C.1 dX12_dries_123 2 rfl ?_
        refine x_getA C (N := 33) (i := 0) (by decide) rfl vc_X12 wx_X12 0 (by decide) wf_X12_7 (a := 1) rfl dX12_dries_124 ?_
        refine x_bipush C.1 (n := 12) dX12_dries_127 ?_
        refine x_iload_n C.1 dX12_dries_129 3 rfl ?_
        refine x_iadd C.1 (v := x1 + 12) (by omega) dX12_dries_130 ?_
        refine x_iald C (N := 33) (i := 1) (q := x1 + 12) (by decide) rfl (by omega) (by decide) dX12_dries_131 (a := z86) ((congrFun (congrFun hV92 1) ((x1 + 12).toNat)).trans ((up2_n _ _ (Or.inr (by omega))).trans ((congrFun (congrFun hV88 1) ((x1 + 12).toNat)).trans (up2_s _ _ _ _)))) ?_
        refine x_aload_n C.1 dX12_dries_132 2 rfl ?_
        refine x_getA C (N := 33) (i := 0) (by decide) rfl vc_X12 wx_X12 0 (by decide) wf_X12_7 (a := 1) rfl dX12_dries_133 ?_
        refine x_bipush C.1 (n := 8) dX12_dries_136 ?_
        refine x_iload_n C.1 dX12_dries_138 3 rfl ?_
        refine x_iadd C.1 (v := x1 + 8) (by omega) dX12_dries_139 ?_
        obtain ⟨z93, ez93, bz93⟩ := hI92.rd 1 ((x1 + 8).toNat) (x := 0) (y := 9) (rgN_20 (Or.inl rfl) (by omega))
        replace hF := hF.to (rdb_e (z := z93) ez93)
        replace hF := hF.fc bz93
        refine x_iald C (N := 33) (i := 1) (q := x1 + 8) (by decide) rfl (by omega) (by decide) dX12_dries_140 (a := z93) ez93 ?_
        obtain ⟨jf104, hjf104, hF⟩ := jn_ex hF
        refine x_join (I := fun V104 : (Nat → Nat → Int) => DI K G V104 ∧ FBm 7253591811175922467340288 V V104 ∧ Imp (jf104 V104) (f_m_dries x1 x2 V J Rr)) (wsf := fun V104 : (Nat → Nat → Int) => MW cy ad V104 J Rr) (lvf := fun V104 : (Nat → Nat → Int) => [(4, vI z83), (3, vI (z4 + z81)), (0, .ref (ad 0)), (1, vI x1), (2, vI x2)]) (stf := fun V104 : (Nat → Nat → Int) => []) 183 (fun V104 hI104x => ?_) (fun jn104 => ?_)
        · obtain ⟨hI104, hB104, hF⟩ := hI104x
          try dsimp only
          replace hF := hF.to (jn_s1 hjf104)
          refine x_bipush C.1 (n := 6) dX12_dries_183 ?_
          refine x_istore C.1 (lv' := [(5, vI 6), (4, vI z83), (3, vI (z4 + z81)), (0, .ref (ad 0)), (1, vI x1), (2, vI x2)]) dX12_dries_185 (by decide) rfl ?_
          obtain ⟨bd131, hbd131, hF⟩ := lop2_ex hF
          refine x_loop (I := fun x : Int × (Nat → Nat → Int) => match x with | (z130, V131) => (0 ≤ z130 ∧ z130 ≤ 6) ∧ DI K G V131 ∧ FBm 7253591811175922467340288 V V131 ∧ (∃ nf : Nat, (z130 - (-1)).toNat < nf ∧ Imp (lop2 nf bd131 z130 V131) (f_m_dries x1 x2 V J Rr))) (μ := fun x : Int × (Nat → Nat → Int) => match x with | (z130, V131) => (z130 - (-1)).toNat) (wsf := fun x : Int × (Nat → Nat → Int) => match x with | (z130, V131) => MW cy ad V131 J Rr) (lvf := fun x : Int × (Nat → Nat → Int) => match x with | (z130, V131) => [(5, vI z130), (4, vI z83), (3, vI (z4 + z81)), (0, .ref (ad 0)), (1, vI x1), (2, vI x2)]) (fun x hI131x ih131 => ?_) (6, V104) ⟨⟨by decide, by decide⟩, hI104, hB104, ⟨_, (by omega), hF⟩⟩ rfl rfl
          obtain ⟨z130, V131⟩ := x
          obtain ⟨bz130, hI131, hB131, nf131, hn131, hF⟩ := hI131x
          try dsimp only
          obtain ⟨nf131, rfl⟩ : ∃ mm, nf131 = mm + 1 := ⟨nf131 - 1, (Nat.succ_pred_eq_of_pos (Nat.lt_of_le_of_lt (Nat.zero_le _) hn131)).symm⟩
          replace hF := hF.to (lop2_s hbd131)
          refine x_iload C.1 dX12_dries_187 0 rfl ?_
          refine x_if_le C.1 (tgt := 230) dX12_dries_189 (by decide) (by omega) (fun hc140 => ?_) (fun hc140 => ?_)
          · replace hF := hF.to (if_pos hc140)
            refine x_aload_n C.1 dX12_dries_230 3 rfl ?_
            refine x_getA C (N := 33) (i := 0) (by decide) rfl vc_X12 wx_X12 0 (by decide) wf_X12_7 (a := 1) rfl dX12_dries_231 ?_
            refine x_bipush C.1 (n := 24) dX12_dries_234 ?_
            refine x_bipush C.1 (n := 7) dX12_dries_236 ?_
            refine x_iload_n C.1 dX12_dries_238 4 rfl ?_
            refine x_imul C.1 (v := 7 * x1) (by omega) dX12_dries_239 ?_
            refine x_iadd C.1 (v := 7 * x1 + 24) (by omega) dX12_dries_240 ?_
            refine x_iload C.1 dX12_dries_241 1 rfl ?_
            refine x_iast C (N := 33) (i := 1) (q := 7 * x1 + 24) (a := z83) (by decide) rfl (by omega) (by decide) dX12_dries_243 ?_
            refine x_gV ?_
            intro V141 hV141
            have hI141 : DI K G V141 := hI131.up hV141 (rgN_60 (Or.inl rfl) (by omega)) (by omega) rfl (Or.inr (by omega))
            have hB141 := hB131.up hV141 (by rw [mkey_r (by decide)]; rfl)
            replace hF := hF.to (rdb_e (z := V141) hV141.symm)
            exact x_vret (S := (Nat → Nat → Int)) (post := (fun u : Nat → Nat → Int => DI K G u ∧ FBm 7253591811175922467340288 V u ∧ (f_m_dries x1 x2 V J Rr) u)) (w1 := (fun u : Nat → Nat → Int => MW cy ad u J Rr)) C hr rfl dX12_dries_244 V141 rfl ⟨hI141, hB141, hF _ rfl⟩
          · replace hF := hF.to (if_neg hc140)
            refine x_aload_n C.1 dX12_dries_192 3 rfl ?_
            refine x_getA C (N := 33) (i := 0) (by decide) rfl vc_X12 wx_X12 0 (by decide) wf_X12_7 (a := 1) rfl dX12_dries_193 ?_
            refine x_bipush C.1 (n := 24) dX12_dries_196 ?_
            refine x_bipush C.1 (n := 7) dX12_dries_198 ?_
            refine x_iload_n C.1 dX12_dries_200 4 rfl ?_
            refine x_imul C.1 (v := 7 * x1) (by omega) dX12_dries_201 ?_
            refine x_iadd C.1 (v := 7 * x1 + 24) (by omega) dX12_dries_202 ?_
            refine x_iload C.1 dX12_dries_203 0 rfl ?_
            refine x_iadd C.1 (v := 7 * x1 + z130 + 24) (by omega) dX12_dries_205 ?_
            refine x_aload_n C.1 dX12_dries_206 3 rfl ?_
            refine x_getA C (N := 33) (i := 0) (by decide) rfl vc_X12 wx_X12 0 (by decide) wf_X12_7 (a := 1) rfl dX12_dries_207 ?_
            refine x_bipush C.1 (n := 24) dX12_dries_210 ?_
            refine x_bipush C.1 (n := 7) dX12_dries_212 ?_
            refine x_iload_n C.1 dX12_dries_214 4 rfl ?_
            refine x_imul C.1 (v := 7 * x1) (by omega) dX12_dries_215 ?_
            refine x_iadd C.1 (v := 7 * x1 + 24) (by omega) dX12_dries_216 ?_
            refine x_iload C.1 dX12_dries_217 0 rfl ?_
            refine x_iadd C.1 (v := 7 * x1 + z130 + 24) (by omega) dX12_dries_219 ?_
            refine x_iconst C.1 (n := 1) dX12_dries_220 ?_
            refine x_isub C.1 (v := 7 * x1 + z130 + 23) (by omega) dX12_dries_221 ?_
            obtain ⟨z142, ez142, bz142⟩ := hI131.rd 1 ((7 * x1 + z130 + 23).toNat) (x := -2147483648) (y := 2147483647) (rgN_60 (Or.inl rfl) (by omega))
            replace hF := hF.to (rdb_e (z := z142) ez142)
            refine x_iald C (N := 33) (i := 1) (q := 7 * x1 + z130 + 23) (by decide) rfl (by omega) (by decide) dX12_dries_222 (a := z142) ez142 ?_
            refine x_iast C (N := 33) (i := 1) (q := 7 * x1 + z130 + 24) (a := z142) (by decide) rfl (by omega) (by decide) dX12_dries_223 ?_
            refine x_gV ?_
            intro V143 hV143
            have hI143 : DI K G V143 := hI131.up hV143 (rgN_60 (Or.inl rfl) (by omega)) (by omega) rfl (Or.inr (by omega))
            have hB143 := hB131.up hV143 (by rw [mkey_r (by decide)]; rfl)
            replace hF := hF.to (rdb_e (z := V143) hV143.symm)
            refine x_iinc C.1 (v := z130 - 1) (lv' := [(5, vI (z130 - 1)), (4, vI z83), (3, vI (z4 + z81)), (0, .ref (ad 0)), (1, vI x1), (2, vI x2)]) (by omega) dX12_dries_224 0 rfl (by decide) rfl ?_
            refine x_goto C.1 (tgt := 187) dX12_dries_227 (by decide) ?_
            have hmu131 : ((z130 - 1) - (-1)).toNat < (z130 - (-1)).toNat := (by omega)
            exact ih131 (z130 - 1, V143) ⟨⟨by omega, by omega⟩, hI143, hB143, ⟨nf131, Nat.lt_of_lt_of_le hmu131 (Nat.le_of_lt_succ hn131), hF⟩⟩ hmu131
        · refine x_icmp_ge C.1 (tgt := 165) dX12_dries_141 (by decide) (by omega) (by omega) (fun hc144 => ?_) (fun hc144 => ?_)
          · replace hF := hF.to (if_pos hc144)
            refine x_aload_n C.1 dX12_dries_165 2 rfl ?_
            refine x_getA C (N := 33) (i := 0) (by decide) rfl vc_X12 wx_X12 0 (by decide) wf_X12_7 (a := 1) rfl dX12_dries_166 ?_
            refine x_bipush C.1 (n := 77) dX12_dries_169 ?_
            refine x_aload_n C.1 dX12_dries_171 2 rfl ?_
            refine x_getA C (N := 33) (i := 0) (by decide) rfl vc_X12 wx_X12 0 (by decide) wf_X12_7 (a := 1) rfl dX12_dries_172 ?_
            refine x_bipush C.1 (n := 77) dX12_dries_175 ?_
            obtain ⟨z145, ez145, bz145⟩ := hI92.rd 1 77 (x := -2147483648) (y := 2147483647) (rgN_81 (Or.inl rfl) (by decide))
            replace hF := hF.to (rdb_e (z := z145) ez145)
            refine x_iald C (N := 33) (i := 1) (q := 77) (by decide) rfl (by decide) (by decide) dX12_dries_177 (a := z145) ez145 ?_
            refine x_iconst C.1 (n := 1) dX12_dries_178 ?_
            refine x_iload_n C.1 dX12_dries_179 3 rfl ?_
            obtain ⟨z146, hz146, bz146⟩ : ∃ z : Int, iShl 1 x1 = z ∧ (-2147483648 ≤ z ∧ z ≤ 2147483647) := ⟨_, rfl, xi_r _⟩
            replace hF := hF.to (rdb_e (z := z146) hz146)
            refine x_ishl C.1 (v := z146) hz146 dX12_dries_180 ?_
            obtain ⟨z147, hz147, bz147⟩ : ∃ z : Int, iOr z145 z146 = z ∧ (-2147483648 ≤ z ∧ z ≤ 2147483647) := ⟨_, rfl, xi_r _⟩
            replace hF := hF.to (rdb_e (z := z147) hz147)
            refine x_ior C.1 (v := z147) hz147 dX12_dries_181 ?_
            refine x_iast C (N := 33) (i := 1) (q := 77) (a := z147) (by decide) rfl (by decide) (by decide) dX12_dries_182 ?_
            rw [show (77 : Int).toNat = 77 from rfl]
            refine x_gV ?_
            intro V148 hV148
            have hI148 : DI K G V148 := DX.die hI92 (r := x1.toNat) (by omega) ez145 (by rw [Int.toNat_of_nonneg (by omega), hz146, hz147]; exact hV148)
            have hB148 := hB92.up hV148 (by rw [mkey_r (by decide)]; rfl)
            replace hF := hF.to (rdb_e (z := V148) hV148.symm)
            exact jn104 V148 ⟨hI148, hB148, hF⟩
          · replace hF := hF.to (if_neg hc144)
            refine x_aload_n C.1 dX12_dries_144 2 rfl ?_
            refine x_getA C (N := 33) (i := 0) (by decide) rfl vc_X12 wx_X12 0 (by decide) wf_X12_7 (a := 1) rfl dX12_dries_145 ?_
            refine x_bipush C.1 (n := 16) dX12_dries_148 ?_
            refine x_iload_n C.1 dX12_dries_150 3 rfl ?_
            refine x_iadd C.1 (v := x1 + 16) (by omega) dX12_dries_151 ?_
            refine x_iald C (N := 33) (i := 1) (q := x1 + 16) (by decide) rfl (by omega) (by decide) dX12_dries_152 (a := z90) ((congrFun (congrFun hV92 1) ((x1 + 16).toNat)).trans (up2_s _ _ _ _)) ?_
            refine x_aload_n C.1 dX12_dries_153 2 rfl ?_
            refine x_getA C (N := 33) (i := 0) (by decide) rfl vc_X12 wx_X12 0 (by decide) wf_X12_7 (a := 1) rfl dX12_dries_154 ?_
            refine x_bipush C.1 (n := 8) dX12_dries_157 ?_
            refine x_iload_n C.1 dX12_dries_159 3 rfl ?_
            refine x_iadd C.1 (v := x1 + 8) (by omega) dX12_dries_160 ?_
            refine x_iald C (N := 33) (i := 1) (q := x1 + 8) (by decide) rfl (by omega) (by decide) dX12_dries_161 (a := z93) ez93 ?_
            refine x_icmp_lt C.1 (tgt := 183) dX12_dries_162 (by decide) (by omega) (by omega) (fun hc149 => ?_) (fun hc149 => ?_)
            · replace hF := hF.to (if_pos hc149)
              have hIb150 := DX.back hI92 ⟨by rw [show 12 + x1.toNat = (x1 + 12).toNat by omega, ((congrFun (congrFun hV92 1) ((x1 + 12).toNat)).trans ((up2_n _ _ (Or.inr (by omega))).trans ((congrFun (congrFun hV88 1) ((x1 + 12).toNat)).trans (up2_s _ _ _ _))))]; omega, by rw [show 16 + x1.toNat = (x1 + 16).toNat by omega, ((congrFun (congrFun hV92 1) ((x1 + 16).toNat)).trans (up2_s _ _ _ _))]; omega⟩
              exact jn104 V92 ⟨hIb150, hB92, hF⟩
            · replace hF := hF.to (if_neg hc149)
              refine x_aload_n C.1 dX12_dries_165 2 rfl ?_
              refine x_getA C (N := 33) (i := 0) (by decide) rfl vc_X12 wx_X12 0 (by decide) wf_X12_7 (a := 1) rfl dX12_dries_166 ?_
              refine x_bipush C.1 (n := 77) dX12_dries_169 ?_
              refine x_aload_n C.1 dX12_dries_171 2 rfl ?_
              refine x_getA C (N := 33) (i := 0) (by decide) rfl vc_X12 wx_X12 0 (by decide) wf_X12_7 (a := 1) rfl dX12_dries_172 ?_
              refine x_bipush C.1 (n := 77) dX12_dries_175 ?_
              obtain ⟨z151, ez151, bz151⟩ := hI92.rd 1 77 (x := -2147483648) (y := 2147483647) (rgN_81 (Or.inl rfl) (by decide))
              replace hF := hF.to (rdb_e (z := z151) ez151)
              refine x_iald C (N := 33) (i := 1) (q := 77) (by decide) rfl (by decide) (by decide) dX12_dries_177 (a := z151) ez151 ?_
              refine x_iconst C.1 (n := 1) dX12_dries_178 ?_
              refine x_iload_n C.1 dX12_dries_179 3 rfl ?_
              obtain ⟨z152, hz152, bz152⟩ : ∃ z : Int, iShl 1 x1 = z ∧ (-2147483648 ≤ z ∧ z ≤ 2147483647) := ⟨_, rfl, xi_r _⟩
              replace hF := hF.to (rdb_e (z := z152) hz152)
              refine x_ishl C.1 (v := z152) hz152 dX12_dries_180 ?_
              obtain ⟨z153, hz153, bz153⟩ : ∃ z : Int, iOr z151 z152 = z ∧ (-2147483648 ≤ z ∧ z ≤ 2147483647) := ⟨_, rfl, xi_r _⟩
              replace hF := hF.to (rdb_e (z := z153) hz153)
              refine x_ior C.1 (v := z153) hz153 dX12_dries_181 ?_
              refine x_iast C (N := 33) (i := 1) (q := 77) (a := z153) (by decide) rfl (by decide) (by decide) dX12_dries_182 ?_
              rw [show (77 : Int).toNat = 77 from rfl]
              refine x_gV ?_
              intro V154 hV154
              have hI154 : DI K G V154 := DX.die hI92 (r := x1.toNat) (by omega) ez151 (by rw [Int.toNat_of_nonneg (by omega), hz152, hz153]; exact hV154)
              have hB154 := hB92.up hV154 (by rw [mkey_r (by decide)]; rfl)
              replace hF := hF.to (rdb_e (z := V154) hV154.symm)
              exact jn104 V154 ⟨hI154, hB154, hF⟩
      · refine x_icmp_ne C.1 (tgt := 121) dX12_dries_104 (by decide) (by omega) (by omega) (fun hc155 => ?_) (fun hc155 => ?_)
        · replace hF := hF.to (if_pos hc155)
          refine x_iconst C.1 (n := 0) dX12_dries_121 ?_
          exact jn91 0 ⟨⟨by decide, by decide⟩, hF⟩
        · replace hF := hF.to (if_neg (fun hh => hh hc155))
          refine x_aload_n C.1 dX12_dries_107 2 rfl ?_
          refine x_getA C (N := 33) (i := 0) (by decide) rfl vc_X12 wx_X12 0 (by decide) wf_X12_7 (a := 1) rfl dX12_dries_108 ?_
          refine x_bipush C.1 (n := 16) dX12_dries_111 ?_
          refine x_iload_n C.1 dX12_dries_113 3 rfl ?_
          refine x_iadd C.1 (v := x1 + 16) (by omega) dX12_dries_114 ?_
          refine x_iald C (N := 33) (i := 1) (q := x1 + 16) (by decide) rfl (by omega) (by decide) dX12_dries_115 (a := z2) ((congrFun (congrFun hV88 1) ((x1 + 16).toNat)).trans ((up2_n _ _ (Or.inr (by omega))).trans ((congrFun (congrFun hV85 1) ((x1 + 16).toNat)).trans ((up2_n _ _ (Or.inr (by omega))).trans ((hI81.2 1 ((x1 + 16).toNat) (Or.inl rfl)).trans ((hI4.2 1 ((x1 + 16).toNat) (Or.inl rfl)).trans ((hI3.2 1 ((x1 + 16).toNat) (Or.inl rfl)).trans ez2))))))) ?_
          refine x_iconst C.1 (n := 1) dX12_dries_116 ?_
          refine x_iadd C.1 (v := z2 + 1) (by omega) dX12_dries_117 ?_
          refine x_goto C.1 (tgt := 122) dX12_dries_118 (by decide) ?_
          exact jn91 (z2 + 1) ⟨⟨by omega, by omega⟩, hF⟩
    · refine x_if_ne C.1 (tgt := 84) dX12_dries_67 (by decide) (by omega) (fun hc156 => ?_) (fun hc156 => ?_)
      · replace hF := hF.to (if_pos hc156)
        refine x_iconst C.1 (n := 0) dX12_dries_84 ?_
        exact jn87 0 ⟨⟨by decide, by decide⟩, hF⟩
      · replace hF := hF.to (if_neg (fun hh => hh hc156))
        refine x_aload_n C.1 dX12_dries_70 2 rfl ?_
        refine x_getA C (N := 33) (i := 0) (by decide) rfl vc_X12 wx_X12 0 (by decide) wf_X12_7 (a := 1) rfl dX12_dries_71 ?_
        refine x_bipush C.1 (n := 12) dX12_dries_74 ?_
        refine x_iload_n C.1 dX12_dries_76 3 rfl ?_
        refine x_iadd C.1 (v := x1 + 12) (by omega) dX12_dries_77 ?_
        refine x_iald C (N := 33) (i := 1) (q := x1 + 12) (by decide) rfl (by omega) (by decide) dX12_dries_78 (a := z1) ((congrFun (congrFun hV85 1) ((x1 + 12).toNat)).trans ((up2_n _ _ (Or.inr (by omega))).trans ((hI81.2 1 ((x1 + 12).toNat) (Or.inl rfl)).trans ((hI4.2 1 ((x1 + 12).toNat) (Or.inl rfl)).trans ((hI3.2 1 ((x1 + 12).toNat) (Or.inl rfl)).trans ez1))))) ?_
        refine x_iconst C.1 (n := 1) dX12_dries_79 ?_
        refine x_iadd C.1 (v := z1 + 1) (by omega) dX12_dries_80 ?_
        refine x_goto C.1 (tgt := 85) dX12_dries_81 (by decide) ?_
        exact jn87 (z1 + 1) ⟨⟨by omega, by omega⟩, hF⟩
theorem hd_yX12_draws : yX12_draws.cls ≠ "java/lang/invoke/MethodHandle" ∧ yX12_draws.cls ≠ "java/lang/invoke/VarHandle" ∧ (parseMethodDescriptor yX12_draws.desc).map (fun d => d.parameters.length) = some 0 := by decide +kernel
theorem hd_yX12_dries : yX12_dries.cls ≠ "java/lang/invoke/MethodHandle" ∧ yX12_dries.cls ≠ "java/lang/invoke/VarHandle" ∧ (parseMethodDescriptor yX12_dries.desc).map (fun d => d.parameters.length) = some 2 := by decide +kernel
theorem hd_yX12_waters : yX12_waters.cls ≠ "java/lang/invoke/MethodHandle" ∧ yX12_waters.cls ≠ "java/lang/invoke/VarHandle" ∧ (parseMethodDescriptor yX12_waters.desc).map (fun d => d.parameters.length) = some 2 := by decide +kernel
theorem dX12_dayGoes_0 : decode cX12_dayGoes 0 = .ok (.iconst 0, 1) := by decide +kernel
theorem dX12_dayGoes_1 : decode cX12_dayGoes 1 = .ok (.istore_n 1, 1) := by decide +kernel
theorem dX12_dayGoes_2 : decode cX12_dayGoes 2 = .ok (.iload_n 1, 1) := by decide +kernel
theorem dX12_dayGoes_3 : decode cX12_dayGoes 3 = .ok (.bipush 8, 2) := by decide +kernel
theorem dX12_dayGoes_5 : decode cX12_dayGoes 5 = .ok (.if_icmp .ge 63, 3) := by decide +kernel
theorem dX12_dayGoes_8 : decode cX12_dayGoes 8 = .ok (.aload_n 0, 1) := by decide +kernel
theorem dX12_dayGoes_9 : decode cX12_dayGoes 9 = .ok (.iload_n 1, 1) := by decide +kernel
theorem dX12_dayGoes_10 : decode cX12_dayGoes 10 = .ok (.invokevirtual 259, 3) := by decide +kernel
theorem dX12_dayGoes_13 : decode cX12_dayGoes 13 = .ok (.ifCond .eq 49, 3) := by decide +kernel
theorem dX12_dayGoes_16 : decode cX12_dayGoes 16 = .ok (.aload_n 0, 1) := by decide +kernel
theorem dX12_dayGoes_17 : decode cX12_dayGoes 17 = .ok (.invokevirtual 275, 3) := by decide +kernel
theorem dX12_dayGoes_20 : decode cX12_dayGoes 20 = .ok (.aload_n 0, 1) := by decide +kernel
theorem dX12_dayGoes_21 : decode cX12_dayGoes 21 = .ok (.getfield 7, 3) := by decide +kernel
theorem dX12_dayGoes_24 : decode cX12_dayGoes 24 = .ok (.bipush 52, 2) := by decide +kernel
theorem dX12_dayGoes_26 : decode cX12_dayGoes 26 = .ok (.iload_n 1, 1) := by decide +kernel
theorem dX12_dayGoes_27 : decode cX12_dayGoes 27 = .ok (.iadd, 1) := by decide +kernel
theorem dX12_dayGoes_28 : decode cX12_dayGoes 28 = .ok (.iaload, 1) := by decide +kernel
theorem dX12_dayGoes_29 : decode cX12_dayGoes 29 = .ok (.if_icmp .lt 6, 3) := by decide +kernel
theorem dX12_dayGoes_32 : decode cX12_dayGoes 32 = .ok (.goto 30, 3) := by decide +kernel
theorem dX12_dayGoes_35 : decode cX12_dayGoes 35 = .ok (.iconst 0, 1) := by decide +kernel
theorem dX12_dayGoes_36 : decode cX12_dayGoes 36 = .ok (.istore_n 2, 1) := by decide +kernel
theorem dX12_dayGoes_37 : decode cX12_dayGoes 37 = .ok (.iload_n 2, 1) := by decide +kernel
theorem dX12_dayGoes_38 : decode cX12_dayGoes 38 = .ok (.iconst 4, 1) := by decide +kernel
theorem dX12_dayGoes_39 : decode cX12_dayGoes 39 = .ok (.if_icmp .ge 23, 3) := by decide +kernel
theorem dX12_dayGoes_42 : decode cX12_dayGoes 42 = .ok (.aload_n 0, 1) := by decide +kernel
theorem dX12_dayGoes_43 : decode cX12_dayGoes 43 = .ok (.iload_n 2, 1) := by decide +kernel
theorem dX12_dayGoes_44 : decode cX12_dayGoes 44 = .ok (.invokevirtual 130, 3) := by decide +kernel
theorem dX12_dayGoes_47 : decode cX12_dayGoes 47 = .ok (.ifCond .eq 9, 3) := by decide +kernel
theorem dX12_dayGoes_50 : decode cX12_dayGoes 50 = .ok (.aload_n 0, 1) := by decide +kernel
theorem dX12_dayGoes_51 : decode cX12_dayGoes 51 = .ok (.iload_n 1, 1) := by decide +kernel
theorem dX12_dayGoes_52 : decode cX12_dayGoes 52 = .ok (.iload_n 2, 1) := by decide +kernel
theorem dX12_dayGoes_53 : decode cX12_dayGoes 53 = .ok (.invokevirtual 278, 3) := by decide +kernel
theorem dX12_dayGoes_56 : decode cX12_dayGoes 56 = .ok (.iinc 2 1, 3) := by decide +kernel
theorem dX12_dayGoes_59 : decode cX12_dayGoes 59 = .ok (.goto (-22), 3) := by decide +kernel
theorem dX12_dayGoes_62 : decode cX12_dayGoes 62 = .ok (.iinc 1 1, 3) := by decide +kernel
theorem dX12_dayGoes_65 : decode cX12_dayGoes 65 = .ok (.goto (-63), 3) := by decide +kernel
theorem dX12_dayGoes_68 : decode cX12_dayGoes 68 = .ok (.iconst 0, 1) := by decide +kernel
theorem dX12_dayGoes_69 : decode cX12_dayGoes 69 = .ok (.istore_n 1, 1) := by decide +kernel
theorem dX12_dayGoes_70 : decode cX12_dayGoes 70 = .ok (.iload_n 1, 1) := by decide +kernel
theorem dX12_dayGoes_71 : decode cX12_dayGoes 71 = .ok (.iconst 4, 1) := by decide +kernel
theorem dX12_dayGoes_72 : decode cX12_dayGoes 72 = .ok (.if_icmp .ge 58, 3) := by decide +kernel
theorem dX12_dayGoes_75 : decode cX12_dayGoes 75 = .ok (.aload_n 0, 1) := by decide +kernel
theorem dX12_dayGoes_76 : decode cX12_dayGoes 76 = .ok (.iload_n 1, 1) := by decide +kernel
theorem dX12_dayGoes_77 : decode cX12_dayGoes 77 = .ok (.invokevirtual 130, 3) := by decide +kernel
theorem dX12_dayGoes_80 : decode cX12_dayGoes 80 = .ok (.ifCond .ne 6, 3) := by decide +kernel
theorem dX12_dayGoes_83 : decode cX12_dayGoes 83 = .ok (.goto 41, 3) := by decide +kernel
theorem dX12_dayGoes_86 : decode cX12_dayGoes 86 = .ok (.aload_n 0, 1) := by decide +kernel
theorem dX12_dayGoes_87 : decode cX12_dayGoes 87 = .ok (.invokevirtual 275, 3) := by decide +kernel
theorem dX12_dayGoes_90 : decode cX12_dayGoes 90 = .ok (.iconst 5, 1) := by decide +kernel
theorem dX12_dayGoes_91 : decode cX12_dayGoes 91 = .ok (.if_icmp .ge 7, 3) := by decide +kernel
theorem dX12_dayGoes_94 : decode cX12_dayGoes 94 = .ok (.iconst 1, 1) := by decide +kernel
theorem dX12_dayGoes_95 : decode cX12_dayGoes 95 = .ok (.goto 4, 3) := by decide +kernel
theorem dX12_dayGoes_98 : decode cX12_dayGoes 98 = .ok (.iconst 0, 1) := by decide +kernel
theorem dX12_dayGoes_99 : decode cX12_dayGoes 99 = .ok (.istore_n 2, 1) := by decide +kernel
theorem dX12_dayGoes_100 : decode cX12_dayGoes 100 = .ok (.aload_n 0, 1) := by decide +kernel
theorem dX12_dayGoes_101 : decode cX12_dayGoes 101 = .ok (.aload_n 0, 1) := by decide +kernel
theorem dX12_dayGoes_102 : decode cX12_dayGoes 102 = .ok (.getfield 281, 3) := by decide +kernel
theorem dX12_dayGoes_105 : decode cX12_dayGoes 105 = .ok (.iload_n 2, 1) := by decide +kernel
theorem dX12_dayGoes_106 : decode cX12_dayGoes 106 = .ok (.ifCond .eq 7, 3) := by decide +kernel
theorem dX12_dayGoes_109 : decode cX12_dayGoes 109 = .ok (.iconst 1, 1) := by decide +kernel
theorem dX12_dayGoes_110 : decode cX12_dayGoes 110 = .ok (.goto 4, 3) := by decide +kernel
theorem dX12_dayGoes_113 : decode cX12_dayGoes 113 = .ok (.iconst 0, 1) := by decide +kernel
theorem dX12_dayGoes_114 : decode cX12_dayGoes 114 = .ok (.iadd, 1) := by decide +kernel
theorem dX12_dayGoes_115 : decode cX12_dayGoes 115 = .ok (.putfield 281, 3) := by decide +kernel
theorem dX12_dayGoes_118 : decode cX12_dayGoes 118 = .ok (.aload_n 0, 1) := by decide +kernel
theorem dX12_dayGoes_119 : decode cX12_dayGoes 119 = .ok (.iload_n 1, 1) := by decide +kernel
theorem dX12_dayGoes_120 : decode cX12_dayGoes 120 = .ok (.iload_n 2, 1) := by decide +kernel
theorem dX12_dayGoes_121 : decode cX12_dayGoes 121 = .ok (.invokevirtual 284, 3) := by decide +kernel
theorem dX12_dayGoes_124 : decode cX12_dayGoes 124 = .ok (.iinc 1 1, 3) := by decide +kernel
theorem dX12_dayGoes_127 : decode cX12_dayGoes 127 = .ok (.goto (-57), 3) := by decide +kernel
theorem dX12_dayGoes_130 : decode cX12_dayGoes 130 = .ok (.aload_n 0, 1) := by decide +kernel
theorem dX12_dayGoes_131 : decode cX12_dayGoes 131 = .ok (.getfield 7, 3) := by decide +kernel
theorem dX12_dayGoes_134 : decode cX12_dayGoes 134 = .ok (.bipush 79, 2) := by decide +kernel
theorem dX12_dayGoes_136 : decode cX12_dayGoes 136 = .ok (.aload_n 0, 1) := by decide +kernel
theorem dX12_dayGoes_137 : decode cX12_dayGoes 137 = .ok (.getfield 7, 3) := by decide +kernel
theorem dX12_dayGoes_140 : decode cX12_dayGoes 140 = .ok (.bipush 79, 2) := by decide +kernel
theorem dX12_dayGoes_142 : decode cX12_dayGoes 142 = .ok (.iaload, 1) := by decide +kernel
theorem dX12_dayGoes_143 : decode cX12_dayGoes 143 = .ok (.iconst 1, 1) := by decide +kernel
theorem dX12_dayGoes_144 : decode cX12_dayGoes 144 = .ok (.iadd, 1) := by decide +kernel
theorem dX12_dayGoes_145 : decode cX12_dayGoes 145 = .ok (.iastore, 1) := by decide +kernel
theorem dX12_dayGoes_146 : decode cX12_dayGoes 146 = .ok (.return_, 1) := by decide +kernel
set_option maxRecDepth 100000 in
def f_m_dayGoes (V : Nat → Nat → Int) (J : Nat → Nat → Int) (Rr : Nat → Nat → Nat) : (Nat → Nat → Int) → Prop :=
  lop2 (10) (fun rc2458 (z2457 : Int) (V2458 : Nat → Nat → Int) => (if 8 ≤ z2457 then lop2 (6) (fun rc3745 (z3744 : Int) (V3745 : Nat → Nat → Int) => (if 4 ≤ z3744 then rdb (V3745 1 79) fun z3844 => rdb (wr (z3844 + 1)) fun z3845 => rdb (up2 V3745 1 79 z3845) fun V3846 => rtn V3846 else calR (f_m_lives z3744 V3745 J Rr) fun z3847 => fct (0 ≤ z3847 ∧ z3847 ≤ 1) <| jnk (fun (V3862 : Nat → Nat → Int) => rc3745 (z3744 + 1) V3862) fun jf3862 => (if ¬ z3847 = 0 then rdb (V3745 1 ((z3744 + 12).toNat)) fun z3865 => fct (0 ≤ z3865 ∧ z3865 ≤ 8) <| rdb (V3745 1 ((z3744 + 16).toNat)) fun z3866 => fct (0 ≤ z3866 ∧ z3866 ≤ 8) <| calVM 36893488147419103232 V3745 (f_m_draws V3745 J Rr) fun z3867 V3867 => jnk (fun (z3868 : Int) => rdb (V3867 0 29) fun z3870 => jnk (fun (z3871 : Int) => rdb (wr (z3870 + z3871)) fun z3873 => rdb (up2 V3867 0 29 z3873) fun V3874 => calUM 7253591811175922467340288 V3874 (f_m_dries z3744 z3868 V3874 J Rr) fun V3875 => jf3862 V3875) fun jf3872 => (if z3868 = 0 then jf3872 0 else jf3872 1)) fun jf3869 => (if 5 ≤ z3867 then jf3869 0 else jf3869 1) else jf3862 V3745))) 0 V2458 else calR (f_m_isPerson z2457 V2458 J Rr) fun z3878 => fct (0 ≤ z3878 ∧ z3878 ≤ 1) <| jnk (fun (V3982 : Nat → Nat → Int) => rc2458 (z2457 + 1) V3982) fun jf3982 => (if z3878 = 0 then jf3982 V2458 else calVM 36893488147419103232 V2458 (f_m_draws V2458 J Rr) fun z3985 V3985 => rdb (V3985 1 ((z2457 + 52).toNat)) fun z3986 => (if z3985 < z3986 then lop2 (6) (fun rc4062 (z4061 : Int) (V4062 : Nat → Nat → Int) => (if 4 ≤ z4061 then jf3982 V4062 else calR (f_m_lives z4061 V4062 J Rr) fun z4076 => fct (0 ≤ z4076 ∧ z4076 ≤ 1) <| jnk (fun (V4081 : Nat → Nat → Int) => rc4062 (z4061 + 1) V4081) fun jf4081 => (if z4076 = 0 then jf4081 V4062 else rdb (V4062 1 ((z4061 + 12).toNat)) fun z4084 => fct (0 ≤ z4084 ∧ z4084 ≤ 8) <| rdb (V4062 1 ((z4061 + 16).toNat)) fun z4085 => fct (0 ≤ z4085 ∧ z4085 ≤ 8) <| calUM 16924998368092956267642880 V4062 (f_m_waters z2457 z4061 V4062 J Rr) fun V4086 => jf4081 V4086))) 0 V3985 else jf3982 V3985)))) 0 V
set_option maxHeartbeats 8000000 in
set_option maxRecDepth 100000 in
theorem m_dayGoes (l : Launch) (D : va_G) (cy : Nat → ClassId) (ad : Nat → Nat) (G : Nat → Nat → Int) (V J : Nat → Nat → Int) (Rr : Nat → Nat → Nat) (hI : MI G V) (hJ : VJ J) (hR : MR Rr) (hW : WP G) : xMv l D (xTY cy) yX12_dayGoes cX12_dayGoes 3 none 5 120 0 0 [.ref (ad 0)] (MW cy ad V J Rr) (fun u : Nat → Nat → Int => MW cy ad u J Rr) (fun u : Nat → Nat → Int => MI G u ∧ FBm 16924998368092956804513792 V u ∧ (f_m_dayGoes V J Rr) u) := by
  refine xMv.mk (lv0 := [(0, .ref (ad 0))]) (by decide) rfl (Nat.le_of_ble_eq_true rfl) (fun p e s m below meth c A C hr hnm hAe => ?_)
  have C : xC2 p s m _ meth c D A s.heap 3 cX12_dayGoes RX12 (xTY cy) := C
  have hB : FBm 16924998368092956804513792 V V := FBm.rf _ _
  have hF := Imp.of_eq (f_m_dayGoes.eq_def V J Rr)
  refine x_iconst C.1 (n := 0) dX12_dayGoes_0 ?_
  refine x_istore_n C.1 (lv' := [(1, vI 0), (0, .ref (ad 0))]) dX12_dayGoes_1 (by decide) rfl ?_
  obtain ⟨bd2458, hbd2458, hF⟩ := lop2_ex hF
  refine x_loop (I := fun x : Int × (Nat → Nat → Int) => match x with | (z2457, V2458) => (0 ≤ z2457 ∧ z2457 ≤ 8) ∧ MI G V2458 ∧ FBm 16924998368092956804513792 V V2458 ∧ (∃ nf : Nat, (9 - z2457).toNat < nf ∧ Imp (lop2 nf bd2458 z2457 V2458) (f_m_dayGoes V J Rr))) (μ := fun x : Int × (Nat → Nat → Int) => match x with | (z2457, V2458) => (9 - z2457).toNat) (wsf := fun x : Int × (Nat → Nat → Int) => match x with | (z2457, V2458) => MW cy ad V2458 J Rr) (lvf := fun x : Int × (Nat → Nat → Int) => match x with | (z2457, V2458) => [(1, vI z2457), (0, .ref (ad 0))]) (fun x hI2458x ih2458 => ?_) (0, V) ⟨⟨by decide, by decide⟩, hI, hB, ⟨_, (by omega), hF⟩⟩ rfl rfl
  obtain ⟨z2457, V2458⟩ := x
  obtain ⟨bz2457, hI2458, hB2458, nf2458, hn2458, hF⟩ := hI2458x
  try dsimp only
  obtain ⟨nf2458, rfl⟩ : ∃ mm, nf2458 = mm + 1 := ⟨nf2458 - 1, (Nat.succ_pred_eq_of_pos (Nat.lt_of_le_of_lt (Nat.zero_le _) hn2458)).symm⟩
  replace hF := hF.to (lop2_s hbd2458)
  refine x_iload_n C.1 dX12_dayGoes_2 0 rfl ?_
  refine x_bipush C.1 (n := 8) dX12_dayGoes_3 ?_
  refine x_icmp_ge C.1 (tgt := 68) dX12_dayGoes_5 (by decide) (by omega) (by decide) (fun hc3482 => ?_) (fun hc3482 => ?_)
  · replace hF := hF.to (if_pos hc3482)
    refine x_iconst C.1 (n := 0) dX12_dayGoes_68 ?_
    refine x_istore_n C.1 (lv' := [(1, vI 0), (0, .ref (ad 0))]) dX12_dayGoes_69 (by decide) rfl ?_
    obtain ⟨bd3745, hbd3745, hF⟩ := lop2_ex hF
    refine x_loop (I := fun x : Int × (Nat → Nat → Int) => match x with | (z3744, V3745) => (0 ≤ z3744 ∧ z3744 ≤ 4) ∧ MI G V3745 ∧ FBm 16924998368092956804513792 V V3745 ∧ (∃ nf : Nat, (5 - z3744).toNat < nf ∧ Imp (lop2 nf bd3745 z3744 V3745) (f_m_dayGoes V J Rr))) (μ := fun x : Int × (Nat → Nat → Int) => match x with | (z3744, V3745) => (5 - z3744).toNat) (wsf := fun x : Int × (Nat → Nat → Int) => match x with | (z3744, V3745) => MW cy ad V3745 J Rr) (lvf := fun x : Int × (Nat → Nat → Int) => match x with | (z3744, V3745) => [(1, vI z3744), (0, .ref (ad 0))]) (fun x hI3745x ih3745 => ?_) (0, V2458) ⟨⟨by decide, by decide⟩, hI2458, hB2458, ⟨_, (by omega), hF⟩⟩ rfl rfl
    obtain ⟨z3744, V3745⟩ := x
    obtain ⟨bz3744, hI3745, hB3745, nf3745, hn3745, hF⟩ := hI3745x
    try dsimp only
    obtain ⟨nf3745, rfl⟩ : ∃ mm, nf3745 = mm + 1 := ⟨nf3745 - 1, (Nat.succ_pred_eq_of_pos (Nat.lt_of_le_of_lt (Nat.zero_le _) hn3745)).symm⟩
    replace hF := hF.to (lop2_s hbd3745)
    refine x_iload_n C.1 dX12_dayGoes_70 0 rfl ?_
    refine x_iconst C.1 (n := 4) dX12_dayGoes_71 ?_
    refine x_icmp_ge C.1 (tgt := 130) dX12_dayGoes_72 (by decide) (by omega) (by decide) (fun hc3843 => ?_) (fun hc3843 => ?_)
    · replace hF := hF.to (if_pos hc3843)
      refine x_aload_n C.1 dX12_dayGoes_130 1 rfl ?_
      refine x_getA C (N := 33) (i := 0) (by decide) rfl vc_X12 wx_X12 0 (by decide) wf_X12_7 (a := 1) rfl dX12_dayGoes_131 ?_
      refine x_bipush C.1 (n := 79) dX12_dayGoes_134 ?_
      refine x_aload_n C.1 dX12_dayGoes_136 1 rfl ?_
      refine x_getA C (N := 33) (i := 0) (by decide) rfl vc_X12 wx_X12 0 (by decide) wf_X12_7 (a := 1) rfl dX12_dayGoes_137 ?_
      refine x_bipush C.1 (n := 79) dX12_dayGoes_140 ?_
      obtain ⟨z3844, ez3844, bz3844⟩ := hI3745.rd 1 79 (x := -2147483648) (y := 2147483647) (rgN_81 (Or.inl rfl) (by decide))
      replace hF := hF.to (rdb_e (z := z3844) ez3844)
      refine x_iald C (N := 33) (i := 1) (q := 79) (by decide) rfl (by decide) (by decide) dX12_dayGoes_142 (a := z3844) ez3844 ?_
      refine x_iconst C.1 (n := 1) dX12_dayGoes_143 ?_
      refine x_iadd C.1 (v := z3844 + 1) (by omega) dX12_dayGoes_144 ?_
      refine x_wrapg ?_
      intro z3845 bz3845 ew3845
      replace hF := hF.to (rdb_e (z := z3845) ew3845.symm)
      refine x_iast C (N := 33) (i := 1) (q := 79) (a := z3845) (by decide) rfl (by decide) (by decide) dX12_dayGoes_145 ?_
      rw [show (79 : Int).toNat = 79 from rfl]
      refine x_gV ?_
      intro V3846 hV3846
      have hI3846 : MI G V3846 := hI3745.up hV3846 (rgN_81 (Or.inl rfl) (by decide)) (by omega) rfl (Or.inr (by decide))
      have hB3846 := hB3745.up hV3846 (by rw [mkey_r (by decide)]; rfl)
      replace hF := hF.to (rdb_e (z := V3846) hV3846.symm)
      exact x_vret (S := (Nat → Nat → Int)) (post := (fun u : Nat → Nat → Int => MI G u ∧ FBm 16924998368092956804513792 V u ∧ (f_m_dayGoes V J Rr) u)) (w1 := (fun u : Nat → Nat → Int => MW cy ad u J Rr)) C hr rfl dX12_dayGoes_146 V3846 rfl ⟨hI3846, hB3846, hF _ rfl⟩
    · replace hF := hF.to (if_neg hc3843)
      refine x_aload_n C.1 dX12_dayGoes_75 1 rfl ?_
      refine x_iload_n C.1 dX12_dayGoes_76 0 rfl ?_
      refine x_callVi C (As := [vI z3744]) (rest := []) 0 (xw_at (N := 33) (i := 0) (by decide) rfl) vc_X12 (m_lives l D cy ad G V3745 J Rr hI3745 hJ hR z3744 ⟨by omega, by omega⟩) (l1 := []) (l2 := []) (List.append_nil _).symm (w2 := fun _ => MW cy ad V3745 J Rr) (fun _ => List.append_nil _) rfl wm_yX12_lives wn_X12 wl_X12_130 wi_yX12_lives we_yX12_lives hd_yX12_lives rfl ⟨Nat.le_of_ble_eq_true rfl, Nat.le_of_ble_eq_true rfl⟩ (Nat.le_of_ble_eq_true rfl) ⟨Nat.le_of_ble_eq_true rfl, Nat.le_of_ble_eq_true rfl⟩ dX12_dayGoes_77 (fun z3847 u3847 bz3847 h3847 => ?_)
      obtain ⟨bq3847, hx3847_0, hFc3847⟩ := h3847
      replace hF := calR_i hF hFc3847
      replace hF := hF.fc bq3847
      obtain ⟨jf3862, hjf3862, hF⟩ := jn_ex hF
      refine x_join (I := fun V3862 : (Nat → Nat → Int) => MI G V3862 ∧ FBm 16924998368092956804513792 V V3862 ∧ Imp (jf3862 V3862) (f_m_dayGoes V J Rr)) (wsf := fun V3862 : (Nat → Nat → Int) => MW cy ad V3862 J Rr) (lvf := fun V3862 : (Nat → Nat → Int) => [(1, vI z3744), (0, .ref (ad 0))]) (stf := fun V3862 : (Nat → Nat → Int) => []) 124 (fun V3862 hI3862x => ?_) (fun jn3862 => ?_)
      · obtain ⟨hI3862, hB3862, hF⟩ := hI3862x
        try dsimp only
        replace hF := hF.to (jn_s1 hjf3862)
        refine x_iinc C.1 (v := z3744 + 1) (lv' := [(1, vI (z3744 + 1)), (0, .ref (ad 0))]) (by omega) dX12_dayGoes_124 0 rfl (by decide) rfl ?_
        refine x_goto C.1 (tgt := 70) dX12_dayGoes_127 (by decide) ?_
        have hmu3745 : (5 - (z3744 + 1)).toNat < (5 - z3744).toNat := (by omega)
        exact ih3745 (z3744 + 1, V3862) ⟨⟨by omega, by omega⟩, hI3862, hB3862, ⟨nf3745, Nat.lt_of_lt_of_le hmu3745 (Nat.le_of_lt_succ hn3745), hF⟩⟩ hmu3745
      · refine x_if_ne C.1 (tgt := 86) dX12_dayGoes_80 (by decide) (by omega) (fun hc3863 => ?_) (fun hc3863 => ?_)
        · replace hF := hF.to (if_pos hc3863)
          have hon3864 := Sp.on hx3847_0 (by omega)
          obtain ⟨z3865, ez3865, bz3865⟩ := hI3745.rd 1 ((z3744 + 12).toNat) (x := 0) (y := 9) (rgN_20 (Or.inl rfl) (by omega))
          have by3865 : z3865 ≤ 8 := by rw [← ez3865, show (z3744 + 12).toNat = 12 + z3744.toNat by omega]; exact hon3864.2.1
          replace hF := hF.to (rdb_e (z := z3865) ez3865)
          replace hF := hF.fc ⟨bz3865.1, by3865⟩
          obtain ⟨z3866, ez3866, bz3866⟩ := hI3745.rd 1 ((z3744 + 16).toNat) (x := 0) (y := 9) (rgN_20 (Or.inl rfl) (by omega))
          have by3866 : z3866 ≤ 8 := by rw [← ez3866, show (z3744 + 16).toNat = 16 + z3744.toNat by omega]; exact hon3864.2.2
          replace hF := hF.to (rdb_e (z := z3866) ez3866)
          replace hF := hF.fc ⟨bz3866.1, by3866⟩
          refine x_aload_n C.1 dX12_dayGoes_86 1 rfl ?_
          refine x_callVi C (As := []) (rest := []) 0 (xw_at (N := 33) (i := 0) (by decide) rfl) vc_X12 (m_draws l D cy ad G V3745 J Rr hI3745 hJ hR ) (l1 := []) (l2 := []) (List.append_nil _).symm (w2 := fun u : Nat → Nat → Int => MW cy ad u J Rr) (fun _ => List.append_nil _) rfl wm_yX12_draws wn_X12 wl_X12_275 wi_yX12_draws we_yX12_draws hd_yX12_draws rfl ⟨Nat.le_of_ble_eq_true rfl, Nat.le_of_ble_eq_true rfl⟩ (Nat.le_of_ble_eq_true rfl) ⟨Nat.le_of_ble_eq_true rfl, Nat.le_of_ble_eq_true rfl⟩ dX12_dayGoes_87 (fun z3867 V3867 bz3867 h3867 => ?_)
          obtain ⟨hI3867, hx3867_0, hBc3867, hFc3867⟩ := h3867
          replace hF := calVM_i hF hFc3867 hBc3867
          have hB3867 := hB3745.tr hBc3867 (m := 36893488147419103232) rfl
          refine x_iconst C.1 (n := 5) dX12_dayGoes_90 ?_
          obtain ⟨jf3869, hjf3869, hF⟩ := jn_ex hF
          refine x_join (I := fun z3868 : Int => (0 ≤ z3868 ∧ z3868 ≤ 1) ∧ Imp (jf3869 z3868) (f_m_dayGoes V J Rr)) (wsf := fun z3868 : Int => MW cy ad V3867 J Rr) (lvf := fun z3868 : Int => [(1, vI z3744), (0, .ref (ad 0))]) (stf := fun z3868 : Int => [vI z3868]) 99 (fun z3868 hI3869x => ?_) (fun jn3869 => ?_)
          · obtain ⟨bz3868, hF⟩ := hI3869x
            try dsimp only
            replace hF := hF.to (jn_s1 hjf3869)
            refine x_istore_n C.1 (lv' := [(2, vI z3868), (1, vI z3744), (0, .ref (ad 0))]) dX12_dayGoes_99 (by decide) rfl ?_
            refine x_aload_n C.1 dX12_dayGoes_100 2 rfl ?_
            refine x_aload_n C.1 dX12_dayGoes_101 2 rfl ?_
            obtain ⟨z3870, ez3870, bz3870⟩ := hI3867.rd 0 29 (x := -2147483648) (y := 2147483647) rfl
            replace hF := hF.to (rdb_e (z := z3870) ez3870)
            refine x_getI C (N := 33) (i := 0) (by decide) rfl vc_X12 wx_X12 29 (by decide) wf_X12_281 rfl dX12_dayGoes_102 (a := z3870) ez3870 ?_
            refine x_iload_n C.1 dX12_dayGoes_105 0 rfl ?_
            obtain ⟨jf3872, hjf3872, hF⟩ := jn_ex hF
            refine x_join (I := fun z3871 : Int => (0 ≤ z3871 ∧ z3871 ≤ 1) ∧ Imp (jf3872 z3871) (f_m_dayGoes V J Rr)) (wsf := fun z3871 : Int => MW cy ad V3867 J Rr) (lvf := fun z3871 : Int => [(2, vI z3868), (1, vI z3744), (0, .ref (ad 0))]) (stf := fun z3871 : Int => [vI z3871, vI z3870, .ref (ad 0)]) 114 (fun z3871 hI3872x => ?_) (fun jn3872 => ?_)
            · obtain ⟨bz3871, hF⟩ := hI3872x
              try dsimp only
              replace hF := hF.to (jn_s1 hjf3872)
              refine x_iadd C.1 (v := z3870 + z3871) (by omega) dX12_dayGoes_114 ?_
              refine x_wrapg ?_
              intro z3873 bz3873 ew3873
              replace hF := hF.to (rdb_e (z := z3873) ew3873.symm)
              refine x_putI C (N := 33) (i := 0) (by decide) rfl vc_X12 wx_X12 29 (by decide) wf_X12_281 tyX12 tyX12_ok nmX12 rfl (tyX12_ok 29 (by decide)) rfl dX12_dayGoes_115 rfl rfl ?_
              refine x_gV ?_
              intro V3874 hV3874
              have hI3874 : MI G V3874 := hI3867.up hV3874 rfl (by omega) rfl (Or.inl (by decide))
              have hB3874 := hB3867.up hV3874 rfl
              replace hF := hF.to (rdb_e (z := V3874) hV3874.symm)
              refine x_aload_n C.1 dX12_dayGoes_118 2 rfl ?_
              refine x_iload_n C.1 dX12_dayGoes_119 1 rfl ?_
              refine x_iload_n C.1 dX12_dayGoes_120 0 rfl ?_
              refine x_callVv C (As := [vI z3744, vI z3868]) (rest := []) 0 (xw_at (N := 33) (i := 0) (by decide) rfl) vc_X12 (m_dries l D cy ad G V3874 J Rr (KI.self hI3874) hJ hR z3744 ⟨by omega, by omega⟩ z3868 ⟨by omega, by omega⟩ hW ⟨by rw [show 12 + z3744.toNat = (z3744 + 12).toNat by omega, ((congrFun (congrFun hV3874 1) ((z3744 + 12).toNat)).trans ((up2_n _ _ (Or.inl (by decide))).trans ((hx3867_0 ((z3744 + 12).toNat) (by omega)).trans ez3865)))]; omega, by rw [show 16 + z3744.toNat = (z3744 + 16).toNat by omega, ((congrFun (congrFun hV3874 1) ((z3744 + 16).toNat)).trans ((up2_n _ _ (Or.inl (by decide))).trans ((hx3867_0 ((z3744 + 16).toNat) (by omega)).trans ez3866)))]; omega⟩) (l1 := []) (l2 := []) (List.append_nil _).symm (w2 := fun u : Nat → Nat → Int => MW cy ad u J Rr) (fun _ => List.append_nil _) rfl wm_yX12_dries wn_X12 wl_X12_284 wi_yX12_dries we_yX12_dries hd_yX12_dries rfl ⟨Nat.le_of_ble_eq_true rfl, Nat.le_of_ble_eq_true rfl⟩ (Nat.le_of_ble_eq_true rfl) ⟨Nat.le_of_ble_eq_true rfl, Nat.le_of_ble_eq_true rfl⟩ dX12_dayGoes_121 (fun V3875 h3875 => ?_)
              obtain ⟨hI3875, hBc3875, hFc3875⟩ := h3875
              replace hF := calUM_i hF hFc3875 hBc3875
              have hB3875 := hB3874.tr hBc3875 (m := 7253591811175922467340288) rfl
              have hI3875c := hI3875.1
              refine x_lv [(1, vI z3744), (0, .ref (ad 0))] [1, 2] rfl ?_
              exact jn3862 V3875 ⟨hI3875c, hB3875, hF⟩
            · refine x_if_eq C.1 (tgt := 113) dX12_dayGoes_106 (by decide) (by omega) (fun hc3876 => ?_) (fun hc3876 => ?_)
              · replace hF := hF.to (if_pos hc3876)
                refine x_iconst C.1 (n := 0) dX12_dayGoes_113 ?_
                exact jn3872 0 ⟨⟨by decide, by decide⟩, hF⟩
              · replace hF := hF.to (if_neg hc3876)
                refine x_iconst C.1 (n := 1) dX12_dayGoes_109 ?_
                refine x_goto C.1 (tgt := 114) dX12_dayGoes_110 (by decide) ?_
                exact jn3872 1 ⟨⟨by decide, by decide⟩, hF⟩
          · refine x_icmp_ge C.1 (tgt := 98) dX12_dayGoes_91 (by decide) (by omega) (by decide) (fun hc3877 => ?_) (fun hc3877 => ?_)
            · replace hF := hF.to (if_pos hc3877)
              refine x_iconst C.1 (n := 0) dX12_dayGoes_98 ?_
              exact jn3869 0 ⟨⟨by decide, by decide⟩, hF⟩
            · replace hF := hF.to (if_neg hc3877)
              refine x_iconst C.1 (n := 1) dX12_dayGoes_94 ?_
              refine x_goto C.1 (tgt := 99) dX12_dayGoes_95 (by decide) ?_
              exact jn3869 1 ⟨⟨by decide, by decide⟩, hF⟩
        · replace hF := hF.to (if_neg (fun hh => hh hc3863))
          refine x_goto C.1 (tgt := 124) dX12_dayGoes_83 (by decide) ?_
          exact jn3862 V3745 ⟨hI3745, hB3745, hF⟩
  · replace hF := hF.to (if_neg hc3482)
    refine x_aload_n C.1 dX12_dayGoes_8 1 rfl ?_
    refine x_iload_n C.1 dX12_dayGoes_9 0 rfl ?_
    refine x_callVi C (As := [vI z2457]) (rest := []) 0 (xw_at (N := 33) (i := 0) (by decide) rfl) vc_X12 (m_isPerson l D cy ad G V2458 J Rr hI2458 hJ hR z2457 ⟨by omega, by omega⟩) (l1 := []) (l2 := []) (List.append_nil _).symm (w2 := fun _ => MW cy ad V2458 J Rr) (fun _ => List.append_nil _) rfl wm_yX12_isPerson wn_X12 wl_X12_259 wi_yX12_isPerson we_yX12_isPerson hd_yX12_isPerson rfl ⟨Nat.le_of_ble_eq_true rfl, Nat.le_of_ble_eq_true rfl⟩ (Nat.le_of_ble_eq_true rfl) ⟨Nat.le_of_ble_eq_true rfl, Nat.le_of_ble_eq_true rfl⟩ dX12_dayGoes_10 (fun z3878 u3878 bz3878 h3878 => ?_)
    obtain ⟨hon3878, hFc3878⟩ := h3878
    replace hF := calR_i hF hFc3878
    replace hF := hF.fc hon3878.r
    have bq3878 := Sp.r hon3878
    obtain ⟨jf3982, hjf3982, hF⟩ := jn_ex hF
    refine x_join (I := fun V3982 : (Nat → Nat → Int) => MI G V3982 ∧ FBm 16924998368092956804513792 V V3982 ∧ Imp (jf3982 V3982) (f_m_dayGoes V J Rr)) (wsf := fun V3982 : (Nat → Nat → Int) => MW cy ad V3982 J Rr) (lvf := fun V3982 : (Nat → Nat → Int) => [(1, vI z2457), (0, .ref (ad 0))]) (stf := fun V3982 : (Nat → Nat → Int) => []) 62 (fun V3982 hI3982x => ?_) (fun jn3982 => ?_)
    · obtain ⟨hI3982, hB3982, hF⟩ := hI3982x
      try dsimp only
      replace hF := hF.to (jn_s1 hjf3982)
      refine x_iinc C.1 (v := z2457 + 1) (lv' := [(1, vI (z2457 + 1)), (0, .ref (ad 0))]) (by omega) dX12_dayGoes_62 0 rfl (by decide) rfl ?_
      refine x_goto C.1 (tgt := 2) dX12_dayGoes_65 (by decide) ?_
      have hmu2458 : (9 - (z2457 + 1)).toNat < (9 - z2457).toNat := (by omega)
      exact ih2458 (z2457 + 1, V3982) ⟨⟨by omega, by omega⟩, hI3982, hB3982, ⟨nf2458, Nat.lt_of_lt_of_le hmu2458 (Nat.le_of_lt_succ hn2458), hF⟩⟩ hmu2458
    · refine x_if_eq C.1 (tgt := 62) dX12_dayGoes_13 (by decide) (by omega) (fun hc3983 => ?_) (fun hc3983 => ?_)
      · replace hF := hF.to (if_pos hc3983)
        exact jn3982 V2458 ⟨hI2458, hB2458, hF⟩
      · replace hF := hF.to (if_neg hc3983)
        have hon3984 := Sp.on hon3878 (by omega)
        refine x_aload_n C.1 dX12_dayGoes_16 1 rfl ?_
        refine x_callVi C (As := []) (rest := []) 0 (xw_at (N := 33) (i := 0) (by decide) rfl) vc_X12 (m_draws l D cy ad G V2458 J Rr hI2458 hJ hR ) (l1 := []) (l2 := []) (List.append_nil _).symm (w2 := fun u : Nat → Nat → Int => MW cy ad u J Rr) (fun _ => List.append_nil _) rfl wm_yX12_draws wn_X12 wl_X12_275 wi_yX12_draws we_yX12_draws hd_yX12_draws rfl ⟨Nat.le_of_ble_eq_true rfl, Nat.le_of_ble_eq_true rfl⟩ (Nat.le_of_ble_eq_true rfl) ⟨Nat.le_of_ble_eq_true rfl, Nat.le_of_ble_eq_true rfl⟩ dX12_dayGoes_17 (fun z3985 V3985 bz3985 h3985 => ?_)
        obtain ⟨hI3985, hx3985_0, hBc3985, hFc3985⟩ := h3985
        replace hF := calVM_i hF hFc3985 hBc3985
        have hB3985 := hB2458.tr hBc3985 (m := 36893488147419103232) rfl
        refine x_aload_n C.1 dX12_dayGoes_20 1 rfl ?_
        refine x_getA C (N := 33) (i := 0) (by decide) rfl vc_X12 wx_X12 0 (by decide) wf_X12_7 (a := 1) rfl dX12_dayGoes_21 ?_
        refine x_bipush C.1 (n := 52) dX12_dayGoes_24 ?_
        refine x_iload_n C.1 dX12_dayGoes_26 0 rfl ?_
        refine x_iadd C.1 (v := z2457 + 52) (by omega) dX12_dayGoes_27 ?_
        obtain ⟨z3986, ez3986, bz3986⟩ := hI3985.rd 1 ((z2457 + 52).toNat) (x := -2147483648) (y := 2147483647) (rgN_60 (Or.inl rfl) (by omega))
        replace hF := hF.to (rdb_e (z := z3986) ez3986)
        refine x_iald C (N := 33) (i := 1) (q := z2457 + 52) (by decide) rfl (by omega) (by decide) dX12_dayGoes_28 (a := z3986) ez3986 ?_
        refine x_icmp_lt C.1 (tgt := 35) dX12_dayGoes_29 (by decide) (by omega) (by omega) (fun hc3987 => ?_) (fun hc3987 => ?_)
        · replace hF := hF.to (if_pos hc3987)
          refine x_iconst C.1 (n := 0) dX12_dayGoes_35 ?_
          refine x_istore_n C.1 (lv' := [(2, vI 0), (1, vI z2457), (0, .ref (ad 0))]) dX12_dayGoes_36 (by decide) rfl ?_
          obtain ⟨bd4062, hbd4062, hF⟩ := lop2_ex hF
          refine x_loop (I := fun x : Int × (Nat → Nat → Int) => match x with | (z4061, V4062) => (0 ≤ z4061 ∧ z4061 ≤ 4) ∧ MI G V4062 ∧ FBm 16924998368092956804513792 V V4062 ∧ (∃ nf : Nat, (5 - z4061).toNat < nf ∧ Imp (lop2 nf bd4062 z4061 V4062) (f_m_dayGoes V J Rr))) (μ := fun x : Int × (Nat → Nat → Int) => match x with | (z4061, V4062) => (5 - z4061).toNat) (wsf := fun x : Int × (Nat → Nat → Int) => match x with | (z4061, V4062) => MW cy ad V4062 J Rr) (lvf := fun x : Int × (Nat → Nat → Int) => match x with | (z4061, V4062) => [(2, vI z4061), (1, vI z2457), (0, .ref (ad 0))]) (fun x hI4062x ih4062 => ?_) (0, V3985) ⟨⟨by decide, by decide⟩, hI3985, hB3985, ⟨_, (by omega), hF⟩⟩ rfl rfl
          obtain ⟨z4061, V4062⟩ := x
          obtain ⟨bz4061, hI4062, hB4062, nf4062, hn4062, hF⟩ := hI4062x
          try dsimp only
          obtain ⟨nf4062, rfl⟩ : ∃ mm, nf4062 = mm + 1 := ⟨nf4062 - 1, (Nat.succ_pred_eq_of_pos (Nat.lt_of_le_of_lt (Nat.zero_le _) hn4062)).symm⟩
          replace hF := hF.to (lop2_s hbd4062)
          refine x_iload_n C.1 dX12_dayGoes_37 0 rfl ?_
          refine x_iconst C.1 (n := 4) dX12_dayGoes_38 ?_
          refine x_icmp_ge C.1 (tgt := 62) dX12_dayGoes_39 (by decide) (by omega) (by decide) (fun hc4075 => ?_) (fun hc4075 => ?_)
          · replace hF := hF.to (if_pos hc4075)
            refine x_lv [(1, vI z2457), (0, .ref (ad 0))] [1, 2] rfl ?_
            exact jn3982 V4062 ⟨hI4062, hB4062, hF⟩
          · replace hF := hF.to (if_neg hc4075)
            refine x_aload_n C.1 dX12_dayGoes_42 2 rfl ?_
            refine x_iload_n C.1 dX12_dayGoes_43 0 rfl ?_
            refine x_callVi C (As := [vI z4061]) (rest := []) 0 (xw_at (N := 33) (i := 0) (by decide) rfl) vc_X12 (m_lives l D cy ad G V4062 J Rr hI4062 hJ hR z4061 ⟨by omega, by omega⟩) (l1 := []) (l2 := []) (List.append_nil _).symm (w2 := fun _ => MW cy ad V4062 J Rr) (fun _ => List.append_nil _) rfl wm_yX12_lives wn_X12 wl_X12_130 wi_yX12_lives we_yX12_lives hd_yX12_lives rfl ⟨Nat.le_of_ble_eq_true rfl, Nat.le_of_ble_eq_true rfl⟩ (Nat.le_of_ble_eq_true rfl) ⟨Nat.le_of_ble_eq_true rfl, Nat.le_of_ble_eq_true rfl⟩ dX12_dayGoes_44 (fun z4076 u4076 bz4076 h4076 => ?_)
            obtain ⟨bq4076, hx4076_0, hFc4076⟩ := h4076
            replace hF := calR_i hF hFc4076
            replace hF := hF.fc bq4076
            obtain ⟨jf4081, hjf4081, hF⟩ := jn_ex hF
            refine x_join (I := fun V4081 : (Nat → Nat → Int) => MI G V4081 ∧ FBm 16924998368092956804513792 V V4081 ∧ Imp (jf4081 V4081) (f_m_dayGoes V J Rr)) (wsf := fun V4081 : (Nat → Nat → Int) => MW cy ad V4081 J Rr) (lvf := fun V4081 : (Nat → Nat → Int) => [(2, vI z4061), (1, vI z2457), (0, .ref (ad 0))]) (stf := fun V4081 : (Nat → Nat → Int) => []) 56 (fun V4081 hI4081x => ?_) (fun jn4081 => ?_)
            · obtain ⟨hI4081, hB4081, hF⟩ := hI4081x
              try dsimp only
              replace hF := hF.to (jn_s1 hjf4081)
              refine x_iinc C.1 (v := z4061 + 1) (lv' := [(2, vI (z4061 + 1)), (1, vI z2457), (0, .ref (ad 0))]) (by omega) dX12_dayGoes_56 0 rfl (by decide) rfl ?_
              refine x_goto C.1 (tgt := 37) dX12_dayGoes_59 (by decide) ?_
              have hmu4062 : (5 - (z4061 + 1)).toNat < (5 - z4061).toNat := (by omega)
              exact ih4062 (z4061 + 1, V4081) ⟨⟨by omega, by omega⟩, hI4081, hB4081, ⟨nf4062, Nat.lt_of_lt_of_le hmu4062 (Nat.le_of_lt_succ hn4062), hF⟩⟩ hmu4062
            · refine x_if_eq C.1 (tgt := 56) dX12_dayGoes_47 (by decide) (by omega) (fun hc4082 => ?_) (fun hc4082 => ?_)
              · replace hF := hF.to (if_pos hc4082)
                exact jn4081 V4062 ⟨hI4062, hB4062, hF⟩
              · replace hF := hF.to (if_neg hc4082)
                have hon4083 := Sp.on hx4076_0 (by omega)
                obtain ⟨z4084, ez4084, bz4084⟩ := hI4062.rd 1 ((z4061 + 12).toNat) (x := 0) (y := 9) (rgN_20 (Or.inl rfl) (by omega))
                have by4084 : z4084 ≤ 8 := by rw [← ez4084, show (z4061 + 12).toNat = 12 + z4061.toNat by omega]; exact hon4083.2.1
                replace hF := hF.to (rdb_e (z := z4084) ez4084)
                replace hF := hF.fc ⟨bz4084.1, by4084⟩
                obtain ⟨z4085, ez4085, bz4085⟩ := hI4062.rd 1 ((z4061 + 16).toNat) (x := 0) (y := 9) (rgN_20 (Or.inl rfl) (by omega))
                have by4085 : z4085 ≤ 8 := by rw [← ez4085, show (z4061 + 16).toNat = 16 + z4061.toNat by omega]; exact hon4083.2.2
                replace hF := hF.to (rdb_e (z := z4085) ez4085)
                replace hF := hF.fc ⟨bz4085.1, by4085⟩
                refine x_aload_n C.1 dX12_dayGoes_50 2 rfl ?_
                refine x_iload_n C.1 dX12_dayGoes_51 1 rfl ?_
                refine x_iload_n C.1 dX12_dayGoes_52 0 rfl ?_
                refine x_callVv C (As := [vI z2457, vI z4061]) (rest := []) 0 (xw_at (N := 33) (i := 0) (by decide) rfl) vc_X12 (m_waters l D cy ad G V4062 J Rr (KI.self hI4062) hJ hR z2457 ⟨by omega, by omega⟩ z4061 ⟨by omega, by omega⟩ hW) (l1 := []) (l2 := []) (List.append_nil _).symm (w2 := fun u : Nat → Nat → Int => MW cy ad u J Rr) (fun _ => List.append_nil _) rfl wm_yX12_waters wn_X12 wl_X12_278 wi_yX12_waters we_yX12_waters hd_yX12_waters rfl ⟨Nat.le_of_ble_eq_true rfl, Nat.le_of_ble_eq_true rfl⟩ (Nat.le_of_ble_eq_true rfl) ⟨Nat.le_of_ble_eq_true rfl, Nat.le_of_ble_eq_true rfl⟩ dX12_dayGoes_53 (fun V4086 h4086 => ?_)
                obtain ⟨hI4086, hBc4086, hFc4086⟩ := h4086
                replace hF := calUM_i hF hFc4086 hBc4086
                have hB4086 := hB4062.tr hBc4086 (m := 16924998368092956267642880) rfl
                have hI4086c := hI4086.1
                exact jn4081 V4086 ⟨hI4086c, hB4086, hF⟩
        · replace hF := hF.to (if_neg hc3987)
          refine x_goto C.1 (tgt := 62) dX12_dayGoes_32 (by decide) ?_
          exact jn3982 V3985 ⟨hI3985, hB3985, hF⟩
theorem hd_yX12_dayGoes : yX12_dayGoes.cls ≠ "java/lang/invoke/MethodHandle" ∧ yX12_dayGoes.cls ≠ "java/lang/invoke/VarHandle" ∧ (parseMethodDescriptor yX12_dayGoes.desc).map (fun d => d.parameters.length) = some 0 := by decide +kernel
theorem dX12_daysGo_0 : decode cX12_daysGo 0 = .ok (.aload_n 0, 1) := by decide +kernel
theorem dX12_daysGo_1 : decode cX12_daysGo 1 = .ok (.iconst 0, 1) := by decide +kernel
theorem dX12_daysGo_2 : decode cX12_daysGo 2 = .ok (.putfield 266, 3) := by decide +kernel
theorem dX12_daysGo_5 : decode cX12_daysGo 5 = .ok (.aload_n 0, 1) := by decide +kernel
theorem dX12_daysGo_6 : decode cX12_daysGo 6 = .ok (.iconst 0, 1) := by decide +kernel
theorem dX12_daysGo_7 : decode cX12_daysGo 7 = .ok (.putfield 269, 3) := by decide +kernel
theorem dX12_daysGo_10 : decode cX12_daysGo 10 = .ok (.aload_n 0, 1) := by decide +kernel
theorem dX12_daysGo_11 : decode cX12_daysGo 11 = .ok (.iconst 0, 1) := by decide +kernel
theorem dX12_daysGo_12 : decode cX12_daysGo 12 = .ok (.putfield 281, 3) := by decide +kernel
theorem dX12_daysGo_15 : decode cX12_daysGo 15 = .ok (.iconst 0, 1) := by decide +kernel
theorem dX12_daysGo_16 : decode cX12_daysGo 16 = .ok (.istore_n 2, 1) := by decide +kernel
theorem dX12_daysGo_17 : decode cX12_daysGo 17 = .ok (.iload_n 2, 1) := by decide +kernel
theorem dX12_daysGo_18 : decode cX12_daysGo 18 = .ok (.bipush 8, 2) := by decide +kernel
theorem dX12_daysGo_20 : decode cX12_daysGo 20 = .ok (.if_icmp .ge 16, 3) := by decide +kernel
theorem dX12_daysGo_23 : decode cX12_daysGo 23 = .ok (.aload_n 0, 1) := by decide +kernel
theorem dX12_daysGo_24 : decode cX12_daysGo 24 = .ok (.getfield 65, 3) := by decide +kernel
theorem dX12_daysGo_27 : decode cX12_daysGo 27 = .ok (.iload_n 2, 1) := by decide +kernel
theorem dX12_daysGo_28 : decode cX12_daysGo 28 = .ok (.iconst 0, 1) := by decide +kernel
theorem dX12_daysGo_29 : decode cX12_daysGo 29 = .ok (.iastore, 1) := by decide +kernel
theorem dX12_daysGo_30 : decode cX12_daysGo 30 = .ok (.iinc 2 1, 3) := by decide +kernel
theorem dX12_daysGo_33 : decode cX12_daysGo 33 = .ok (.goto (-16), 3) := by decide +kernel
theorem dX12_daysGo_36 : decode cX12_daysGo 36 = .ok (.iconst 0, 1) := by decide +kernel
theorem dX12_daysGo_37 : decode cX12_daysGo 37 = .ok (.istore_n 2, 1) := by decide +kernel
theorem dX12_daysGo_38 : decode cX12_daysGo 38 = .ok (.iload_n 2, 1) := by decide +kernel
theorem dX12_daysGo_39 : decode cX12_daysGo 39 = .ok (.iload_n 1, 1) := by decide +kernel
theorem dX12_daysGo_40 : decode cX12_daysGo 40 = .ok (.if_icmp .ge 26, 3) := by decide +kernel
theorem dX12_daysGo_43 : decode cX12_daysGo 43 = .ok (.aload_n 0, 1) := by decide +kernel
theorem dX12_daysGo_44 : decode cX12_daysGo 44 = .ok (.getfield 7, 3) := by decide +kernel
theorem dX12_daysGo_47 : decode cX12_daysGo 47 = .ok (.bipush 79, 2) := by decide +kernel
theorem dX12_daysGo_49 : decode cX12_daysGo 49 = .ok (.iaload, 1) := by decide +kernel
theorem dX12_daysGo_50 : decode cX12_daysGo 50 = .ok (.sipush 9999, 3) := by decide +kernel
theorem dX12_daysGo_53 : decode cX12_daysGo 53 = .ok (.if_icmp .ge 13, 3) := by decide +kernel
theorem dX12_daysGo_56 : decode cX12_daysGo 56 = .ok (.aload_n 0, 1) := by decide +kernel
theorem dX12_daysGo_57 : decode cX12_daysGo 57 = .ok (.invokevirtual 288, 3) := by decide +kernel
theorem dX12_daysGo_60 : decode cX12_daysGo 60 = .ok (.iinc 2 1, 3) := by decide +kernel
theorem dX12_daysGo_63 : decode cX12_daysGo 63 = .ok (.goto (-25), 3) := by decide +kernel
theorem dX12_daysGo_66 : decode cX12_daysGo 66 = .ok (.return_, 1) := by decide +kernel
set_option maxRecDepth 100000 in
def f_m_daysGo (x1 : Int) (V : Nat → Nat → Int) (J : Nat → Nat → Int) (Rr : Nat → Nat → Nat) : (Nat → Nat → Int) → Prop :=
  rdb (up2 V 0 27 0) fun V1 => rdb (up2 V1 0 28 0) fun V2 => rdb (up2 V2 0 29 0) fun V3 => lop2 (10) (fun rc88 (z87 : Int) (V88 : Nat → Nat → Int) => (if 8 ≤ z87 then lop2 (2147483649) (fun rc153 (z152 : Int) (V153 : Nat → Nat → Int) => (if x1 ≤ z152 then rtn V153 else rdb (V153 1 79) fun z159 => (if 9999 ≤ z159 then rtn V153 else calUM 16924998368092956804513792 V153 (f_m_dayGoes V153 J Rr) fun V161 => rc153 (z152 + 1) V161))) 0 V88 else rdb (up2 V88 19 z87.toNat 0) fun V162 => rc88 (z87 + 1) V162)) 0 V3
set_option maxHeartbeats 8000000 in
set_option maxRecDepth 100000 in
theorem m_daysGo (l : Launch) (D : va_G) (cy : Nat → ClassId) (ad : Nat → Nat) (G : Nat → Nat → Int) (V J : Nat → Nat → Int) (Rr : Nat → Nat → Nat) (hI : MI G V) (hJ : VJ J) (hR : MR Rr) (x1 : Int) (bx1 : -2147483648 ≤ x1 ∧ x1 ≤ 2147483647) (hW : WP G) : xMv l D (xTY cy) yX12_daysGo cX12_daysGo 3 none 6 142 0 0 [.ref (ad 0), vI x1] (MW cy ad V J Rr) (fun u : Nat → Nat → Int => MW cy ad u J Rr) (fun u : Nat → Nat → Int => MI G u ∧ FBm 16924998368092956804513792 V u ∧ (f_m_daysGo x1 V J Rr) u) := by
  refine xMv.mk (lv0 := [(0, .ref (ad 0)), (1, vI x1)]) (by decide) rfl (Nat.le_of_ble_eq_true rfl) (fun p e s m below meth c A C hr hnm hAe => ?_)
  have C : xC2 p s m _ meth c D A s.heap 3 cX12_daysGo RX12 (xTY cy) := C
  have hB : FBm 16924998368092956804513792 V V := FBm.rf _ _
  have hF := Imp.of_eq (f_m_daysGo.eq_def x1 V J Rr)
  refine x_aload_n C.1 dX12_daysGo_0 0 rfl ?_
  refine x_iconst C.1 (n := 0) dX12_daysGo_1 ?_
  refine x_putI C (N := 33) (i := 0) (by decide) rfl vc_X12 wx_X12 27 (by decide) wf_X12_266 tyX12 tyX12_ok nmX12 rfl (tyX12_ok 27 (by decide)) rfl dX12_daysGo_2 rfl rfl ?_
  refine x_gV ?_
  intro V1 hV1
  have hI1 : MI G V1 := hI.up hV1 rfl (by decide) rfl (Or.inl (by decide))
  have hB1 := hB.up hV1 rfl
  replace hF := hF.to (rdb_e (z := V1) hV1.symm)
  refine x_aload_n C.1 dX12_daysGo_5 0 rfl ?_
  refine x_iconst C.1 (n := 0) dX12_daysGo_6 ?_
  refine x_putI C (N := 33) (i := 0) (by decide) rfl vc_X12 wx_X12 28 (by decide) wf_X12_269 tyX12 tyX12_ok nmX12 rfl (tyX12_ok 28 (by decide)) rfl dX12_daysGo_7 rfl rfl ?_
  refine x_gV ?_
  intro V2 hV2
  have hI2 : MI G V2 := hI1.up hV2 rfl (by decide) rfl (Or.inl (by decide))
  have hB2 := hB1.up hV2 rfl
  replace hF := hF.to (rdb_e (z := V2) hV2.symm)
  refine x_aload_n C.1 dX12_daysGo_10 0 rfl ?_
  refine x_iconst C.1 (n := 0) dX12_daysGo_11 ?_
  refine x_putI C (N := 33) (i := 0) (by decide) rfl vc_X12 wx_X12 29 (by decide) wf_X12_281 tyX12 tyX12_ok nmX12 rfl (tyX12_ok 29 (by decide)) rfl dX12_daysGo_12 rfl rfl ?_
  refine x_gV ?_
  intro V3 hV3
  have hI3 : MI G V3 := hI2.up hV3 rfl (by decide) rfl (Or.inl (by decide))
  have hB3 := hB2.up hV3 rfl
  replace hF := hF.to (rdb_e (z := V3) hV3.symm)
  refine x_iconst C.1 (n := 0) dX12_daysGo_15 ?_
  refine x_istore_n C.1 (lv' := [(2, vI 0), (0, .ref (ad 0)), (1, vI x1)]) dX12_daysGo_16 (by decide) rfl ?_
  obtain ⟨bd88, hbd88, hF⟩ := lop2_ex hF
  refine x_loop (I := fun x : Int × (Nat → Nat → Int) => match x with | (z87, V88) => (0 ≤ z87 ∧ z87 ≤ 8) ∧ MI G V88 ∧ FBm 16924998368092956804513792 V V88 ∧ (∃ nf : Nat, (9 - z87).toNat < nf ∧ Imp (lop2 nf bd88 z87 V88) (f_m_daysGo x1 V J Rr))) (μ := fun x : Int × (Nat → Nat → Int) => match x with | (z87, V88) => (9 - z87).toNat) (wsf := fun x : Int × (Nat → Nat → Int) => match x with | (z87, V88) => MW cy ad V88 J Rr) (lvf := fun x : Int × (Nat → Nat → Int) => match x with | (z87, V88) => [(2, vI z87), (0, .ref (ad 0)), (1, vI x1)]) (fun x hI88x ih88 => ?_) (0, V3) ⟨⟨by decide, by decide⟩, hI3, hB3, ⟨_, (by omega), hF⟩⟩ rfl rfl
  obtain ⟨z87, V88⟩ := x
  obtain ⟨bz87, hI88, hB88, nf88, hn88, hF⟩ := hI88x
  try dsimp only
  obtain ⟨nf88, rfl⟩ : ∃ mm, nf88 = mm + 1 := ⟨nf88 - 1, (Nat.succ_pred_eq_of_pos (Nat.lt_of_le_of_lt (Nat.zero_le _) hn88)).symm⟩
  replace hF := hF.to (lop2_s hbd88)
  refine x_iload_n C.1 dX12_daysGo_17 0 rfl ?_
  refine x_bipush C.1 (n := 8) dX12_daysGo_18 ?_
  refine x_icmp_ge C.1 (tgt := 36) dX12_daysGo_20 (by decide) (by omega) (by decide) (fun hc127 => ?_) (fun hc127 => ?_)
  · replace hF := hF.to (if_pos hc127)
    refine x_iconst C.1 (n := 0) dX12_daysGo_36 ?_
    refine x_istore_n C.1 (lv' := [(2, vI 0), (0, .ref (ad 0)), (1, vI x1)]) dX12_daysGo_37 (by decide) rfl ?_
    obtain ⟨bd153, hbd153, hF⟩ := lop2_ex hF
    refine x_loop (I := fun x : Int × (Nat → Nat → Int) => match x with | (z152, V153) => (0 ≤ z152 ∧ z152 ≤ 2147483647) ∧ MI G V153 ∧ FBm 16924998368092956804513792 V V153 ∧ (∃ nf : Nat, (2147483648 - z152).toNat < nf ∧ Imp (lop2 nf bd153 z152 V153) (f_m_daysGo x1 V J Rr))) (μ := fun x : Int × (Nat → Nat → Int) => match x with | (z152, V153) => (2147483648 - z152).toNat) (wsf := fun x : Int × (Nat → Nat → Int) => match x with | (z152, V153) => MW cy ad V153 J Rr) (lvf := fun x : Int × (Nat → Nat → Int) => match x with | (z152, V153) => [(2, vI z152), (0, .ref (ad 0)), (1, vI x1)]) (fun x hI153x ih153 => ?_) (0, V88) ⟨⟨by decide, by decide⟩, hI88, hB88, ⟨_, (by omega), hF⟩⟩ rfl rfl
    obtain ⟨z152, V153⟩ := x
    obtain ⟨bz152, hI153, hB153, nf153, hn153, hF⟩ := hI153x
    try dsimp only
    obtain ⟨nf153, rfl⟩ : ∃ mm, nf153 = mm + 1 := ⟨nf153 - 1, (Nat.succ_pred_eq_of_pos (Nat.lt_of_le_of_lt (Nat.zero_le _) hn153)).symm⟩
    replace hF := hF.to (lop2_s hbd153)
    refine x_iload_n C.1 dX12_daysGo_38 0 rfl ?_
    refine x_iload_n C.1 dX12_daysGo_39 2 rfl ?_
    refine x_icmp_ge C.1 (tgt := 66) dX12_daysGo_40 (by decide) (by omega) (by omega) (fun hc158 => ?_) (fun hc158 => ?_)
    · replace hF := hF.to (if_pos hc158)
      exact x_vret (S := (Nat → Nat → Int)) (post := (fun u : Nat → Nat → Int => MI G u ∧ FBm 16924998368092956804513792 V u ∧ (f_m_daysGo x1 V J Rr) u)) (w1 := (fun u : Nat → Nat → Int => MW cy ad u J Rr)) C hr rfl dX12_daysGo_66 V153 rfl ⟨hI153, hB153, hF _ rfl⟩
    · replace hF := hF.to (if_neg hc158)
      refine x_aload_n C.1 dX12_daysGo_43 1 rfl ?_
      refine x_getA C (N := 33) (i := 0) (by decide) rfl vc_X12 wx_X12 0 (by decide) wf_X12_7 (a := 1) rfl dX12_daysGo_44 ?_
      refine x_bipush C.1 (n := 79) dX12_daysGo_47 ?_
      obtain ⟨z159, ez159, bz159⟩ := hI153.rd 1 79 (x := -2147483648) (y := 2147483647) (rgN_81 (Or.inl rfl) (by decide))
      replace hF := hF.to (rdb_e (z := z159) ez159)
      refine x_iald C (N := 33) (i := 1) (q := 79) (by decide) rfl (by decide) (by decide) dX12_daysGo_49 (a := z159) ez159 ?_
      refine x_sipush C.1 (n := 9999) dX12_daysGo_50 ?_
      refine x_icmp_ge C.1 (tgt := 66) dX12_daysGo_53 (by decide) (by omega) (by decide) (fun hc160 => ?_) (fun hc160 => ?_)
      · replace hF := hF.to (if_pos hc160)
        exact x_vret (S := (Nat → Nat → Int)) (post := (fun u : Nat → Nat → Int => MI G u ∧ FBm 16924998368092956804513792 V u ∧ (f_m_daysGo x1 V J Rr) u)) (w1 := (fun u : Nat → Nat → Int => MW cy ad u J Rr)) C hr rfl dX12_daysGo_66 V153 rfl ⟨hI153, hB153, hF _ rfl⟩
      · replace hF := hF.to (if_neg hc160)
        refine x_aload_n C.1 dX12_daysGo_56 1 rfl ?_
        refine x_callVv C (As := []) (rest := []) 0 (xw_at (N := 33) (i := 0) (by decide) rfl) vc_X12 (m_dayGoes l D cy ad G V153 J Rr hI153 hJ hR hW) (l1 := []) (l2 := []) (List.append_nil _).symm (w2 := fun u : Nat → Nat → Int => MW cy ad u J Rr) (fun _ => List.append_nil _) rfl wm_yX12_dayGoes wn_X12 wl_X12_288 wi_yX12_dayGoes we_yX12_dayGoes hd_yX12_dayGoes rfl ⟨Nat.le_of_ble_eq_true rfl, Nat.le_of_ble_eq_true rfl⟩ (Nat.le_of_ble_eq_true rfl) ⟨Nat.le_of_ble_eq_true rfl, Nat.le_of_ble_eq_true rfl⟩ dX12_daysGo_57 (fun V161 h161 => ?_)
        obtain ⟨hI161, hBc161, hFc161⟩ := h161
        replace hF := calUM_i hF hFc161 hBc161
        have hB161 := hB153.tr hBc161 (m := 16924998368092956804513792) rfl
        refine x_iinc C.1 (v := z152 + 1) (lv' := [(2, vI (z152 + 1)), (0, .ref (ad 0)), (1, vI x1)]) (by omega) dX12_daysGo_60 0 rfl (by decide) rfl ?_
        refine x_goto C.1 (tgt := 38) dX12_daysGo_63 (by decide) ?_
        have hmu153 : (2147483648 - (z152 + 1)).toNat < (2147483648 - z152).toNat := (by omega)
        exact ih153 (z152 + 1, V161) ⟨⟨by omega, by omega⟩, hI161, hB161, ⟨nf153, Nat.lt_of_lt_of_le hmu153 (Nat.le_of_lt_succ hn153), hF⟩⟩ hmu153
  · replace hF := hF.to (if_neg hc127)
    refine x_aload_n C.1 dX12_daysGo_23 1 rfl ?_
    refine x_getA C (N := 33) (i := 0) (by decide) rfl vc_X12 wx_X12 30 (by decide) wf_X12_65 (a := 19) rfl dX12_daysGo_24 ?_
    refine x_iload_n C.1 dX12_daysGo_27 0 rfl ?_
    refine x_iconst C.1 (n := 0) dX12_daysGo_28 ?_
    refine x_iast C (N := 33) (i := 19) (q := z87) (a := 0) (by decide) rfl (by omega) (by decide) dX12_daysGo_29 ?_
    refine x_gV ?_
    intro V162 hV162
    have hI162 : MI G V162 := hI88.up hV162 rfl (by decide) rfl (Or.inl (by decide))
    have hB162 := hB88.up hV162 (by rw [mkey_r (by decide)]; rfl)
    replace hF := hF.to (rdb_e (z := V162) hV162.symm)
    refine x_iinc C.1 (v := z87 + 1) (lv' := [(2, vI (z87 + 1)), (0, .ref (ad 0)), (1, vI x1)]) (by omega) dX12_daysGo_30 0 rfl (by decide) rfl ?_
    refine x_goto C.1 (tgt := 17) dX12_daysGo_33 (by decide) ?_
    have hmu88 : (9 - (z87 + 1)).toNat < (9 - z87).toNat := (by omega)
    exact ih88 (z87 + 1, V162) ⟨⟨by omega, by omega⟩, hI162, hB162, ⟨nf88, Nat.lt_of_lt_of_le hmu88 (Nat.le_of_lt_succ hn88), hF⟩⟩ hmu88
theorem hd_yX12_daysGo : yX12_daysGo.cls ≠ "java/lang/invoke/MethodHandle" ∧ yX12_daysGo.cls ≠ "java/lang/invoke/VarHandle" ∧ (parseMethodDescriptor yX12_daysGo.desc).map (fun d => d.parameters.length) = some 1 := by decide +kernel
theorem dX12_days_0 : decode cX12_days 0 = .ok (.iload_n 1, 1) := by decide +kernel
theorem dX12_days_1 : decode cX12_days 1 = .ok (.iconst 1, 1) := by decide +kernel
theorem dX12_days_2 : decode cX12_days 2 = .ok (.bipush 60, 2) := by decide +kernel
theorem dX12_days_4 : decode cX12_days 4 = .ok (.invokestatic 126, 3) := by decide +kernel
theorem dX12_days_7 : decode cX12_days 7 = .ok (.ifCond .ne 5, 3) := by decide +kernel
theorem dX12_days_10 : decode cX12_days 10 = .ok (.iconst (-1), 1) := by decide +kernel
theorem dX12_days_11 : decode cX12_days 11 = .ok (.ireturn, 1) := by decide +kernel
theorem dX12_days_12 : decode cX12_days 12 = .ok (.aload_n 0, 1) := by decide +kernel
theorem dX12_days_13 : decode cX12_days 13 = .ok (.iload_n 1, 1) := by decide +kernel
theorem dX12_days_14 : decode cX12_days 14 = .ok (.invokevirtual 291, 3) := by decide +kernel
theorem dX12_days_17 : decode cX12_days 17 = .ok (.aload_n 0, 1) := by decide +kernel
theorem dX12_days_18 : decode cX12_days 18 = .ok (.getfield 266, 3) := by decide +kernel
theorem dX12_days_21 : decode cX12_days 21 = .ok (.ireturn, 1) := by decide +kernel
set_option maxRecDepth 100000 in
def f_m_days (x1 : Int) (V : Nat → Nat → Int) (J : Nat → Nat → Int) (Rr : Nat → Nat → Nat) : (Int × (Nat → Nat → Int)) → Prop :=
  calR (f_m_in x1 1 60) fun z1 => fct (0 ≤ z1 ∧ z1 ≤ 1) <| (if ¬ z1 = 0 then calUM 16924998368092956804513792 V (f_m_daysGo x1 V J Rr) fun V4 => rdb (V4 0 27) fun z5 => rtn (z5, V4) else rtn ((-1), V))
set_option maxHeartbeats 8000000 in
set_option maxRecDepth 100000 in
theorem m_days (l : Launch) (D : va_G) (cy : Nat → ClassId) (ad : Nat → Nat) (G : Nat → Nat → Int) (V J : Nat → Nat → Int) (Rr : Nat → Nat → Nat) (hI : MI G V) (hJ : VJ J) (hR : MR Rr) (x1 : Int) (bx1 : -2147483648 ≤ x1 ∧ x1 ≤ 2147483647) (hW : WP G) : xMi l D (xTY cy) yX12_days cX12_days 2 (some .int) 7 164 0 0 [.ref (ad 0), vI x1] (MW cy ad V J Rr) (fun u : Nat → Nat → Int => MW cy ad u J Rr) (fun a (u : Nat → Nat → Int) => MI G u ∧ FBm 16924998368092956804513792 V u ∧ (f_m_days x1 V J Rr) (a, u)) := by
  refine xMi.mk (lv0 := [(0, .ref (ad 0)), (1, vI x1)]) (by decide) rfl (Nat.le_of_ble_eq_true rfl) (fun p e s m below meth c A C hr hnm hAe => ?_)
  have C : xC2 p s m _ meth c D A s.heap 2 cX12_days RX12 (xTY cy) := C
  have hB : FBm 16924998368092956804513792 V V := FBm.rf _ _
  have hF := Imp.of_eq (f_m_days.eq_def x1 V J Rr)
  refine x_iload_n C.1 dX12_days_0 1 rfl ?_
  refine x_iconst C.1 (n := 1) dX12_days_1 ?_
  refine x_bipush C.1 (n := 60) dX12_days_2 ?_
  refine x_callSi C (As := [vI x1, vI 1, vI 60]) (rest := []) (m_in l D cy x1 ⟨by omega, by omega⟩ 1 ⟨by decide, by decide⟩ 60 ⟨by decide, by decide⟩) (l1 := []) (l2 := _) rfl (w2 := fun _ => _) (fun _ => rfl) rfl wm_yX12_in wn_X12 wl_X12_126 wi_yX12_in hd_yX12_in rfl ⟨Nat.le_of_ble_eq_true rfl, Nat.le_of_ble_eq_true rfl⟩ (Nat.le_of_ble_eq_true rfl) ⟨Nat.le_of_ble_eq_true rfl, Nat.le_of_ble_eq_true rfl⟩ dX12_days_4 (fun z1 u1 bz1 h1 => ?_)
  obtain ⟨bq1, hx1_0, hFc1⟩ := h1
  replace hF := calR_i hF hFc1
  replace hF := hF.fc bq1
  refine x_if_ne C.1 (tgt := 12) dX12_days_7 (by decide) (by omega) (fun hc2 => ?_) (fun hc2 => ?_)
  · replace hF := hF.to (if_pos hc2)
    have hon3 := Sq.on hx1_0 (by omega)
    refine x_aload_n C.1 dX12_days_12 0 rfl ?_
    refine x_iload_n C.1 dX12_days_13 1 rfl ?_
    refine x_callVv C (As := [vI x1]) (rest := []) 0 (xw_at (N := 33) (i := 0) (by decide) rfl) vc_X12 (m_daysGo l D cy ad G V J Rr hI hJ hR x1 ⟨by omega, by omega⟩ hW) (l1 := []) (l2 := []) (List.append_nil _).symm (w2 := fun u : Nat → Nat → Int => MW cy ad u J Rr) (fun _ => List.append_nil _) rfl wm_yX12_daysGo wn_X12 wl_X12_291 wi_yX12_daysGo we_yX12_daysGo hd_yX12_daysGo rfl ⟨Nat.le_of_ble_eq_true rfl, Nat.le_of_ble_eq_true rfl⟩ (Nat.le_of_ble_eq_true rfl) ⟨Nat.le_of_ble_eq_true rfl, Nat.le_of_ble_eq_true rfl⟩ dX12_days_14 (fun V4 h4 => ?_)
    obtain ⟨hI4, hBc4, hFc4⟩ := h4
    replace hF := calUM_i hF hFc4 hBc4
    have hB4 := hB.tr hBc4 (m := 16924998368092956804513792) rfl
    refine x_aload_n C.1 dX12_days_17 0 rfl ?_
    obtain ⟨z5, ez5, bz5⟩ := hI4.rd 0 27 (x := -2147483648) (y := 2147483647) rfl
    replace hF := hF.to (rdb_e (z := z5) ez5)
    refine x_getI C (N := 33) (i := 0) (by decide) rfl vc_X12 wx_X12 27 (by decide) wf_X12_266 rfl dX12_days_18 (a := z5) ez5 ?_
    exact x_iret (S := (Nat → Nat → Int)) (post := (fun a (u : Nat → Nat → Int) => MI G u ∧ FBm 16924998368092956804513792 V u ∧ (f_m_days x1 V J Rr) (a, u))) (w1 := (fun u : Nat → Nat → Int => MW cy ad u J Rr)) (a := z5) C hr rfl dX12_days_21 (by omega) V4 rfl ⟨hI4, hB4, hF _ rfl⟩
  · replace hF := hF.to (if_neg (fun hh => hh hc2))
    refine x_iconst C.1 (n := -1) dX12_days_10 ?_
    exact x_iret (S := (Nat → Nat → Int)) (post := (fun a (u : Nat → Nat → Int) => MI G u ∧ FBm 16924998368092956804513792 V u ∧ (f_m_days x1 V J Rr) (a, u))) (w1 := (fun u : Nat → Nat → Int => MW cy ad u J Rr)) (a := (-1)) C hr rfl dX12_days_11 (by decide) V rfl ⟨hI, hB, hF _ rfl⟩
theorem dX12_tried_0 : decode cX12_tried 0 = .ok (.iload_n 2, 1) := by decide +kernel
theorem dX12_tried_1 : decode cX12_tried 1 = .ok (.iconst 0, 1) := by decide +kernel
theorem dX12_tried_2 : decode cX12_tried 2 = .ok (.iconst 3, 1) := by decide +kernel
theorem dX12_tried_3 : decode cX12_tried 3 = .ok (.invokestatic 126, 3) := by decide +kernel
theorem dX12_tried_6 : decode cX12_tried 6 = .ok (.ifCond .ne 47, 3) := by decide +kernel
theorem dX12_tried_9 : decode cX12_tried 9 = .ok (.iload_n 2, 1) := by decide +kernel
theorem dX12_tried_10 : decode cX12_tried 10 = .ok (.bipush 10, 2) := by decide +kernel
theorem dX12_tried_12 : decode cX12_tried 12 = .ok (.bipush 13, 2) := by decide +kernel
theorem dX12_tried_14 : decode cX12_tried 14 = .ok (.invokestatic 126, 3) := by decide +kernel
theorem dX12_tried_17 : decode cX12_tried 17 = .ok (.ifCond .eq 14, 3) := by decide +kernel
theorem dX12_tried_20 : decode cX12_tried 20 = .ok (.aload_n 0, 1) := by decide +kernel
theorem dX12_tried_21 : decode cX12_tried 21 = .ok (.iload_n 2, 1) := by decide +kernel
theorem dX12_tried_22 : decode cX12_tried 22 = .ok (.bipush 10, 2) := by decide +kernel
theorem dX12_tried_24 : decode cX12_tried 24 = .ok (.isub, 1) := by decide +kernel
theorem dX12_tried_25 : decode cX12_tried 25 = .ok (.invokevirtual 122, 3) := by decide +kernel
theorem dX12_tried_28 : decode cX12_tried 28 = .ok (.ifCond .ne 25, 3) := by decide +kernel
theorem dX12_tried_31 : decode cX12_tried 31 = .ok (.iload_n 2, 1) := by decide +kernel
theorem dX12_tried_32 : decode cX12_tried 32 = .ok (.bipush 20, 2) := by decide +kernel
theorem dX12_tried_34 : decode cX12_tried 34 = .ok (.bipush 27, 2) := by decide +kernel
theorem dX12_tried_36 : decode cX12_tried 36 = .ok (.invokestatic 126, 3) := by decide +kernel
theorem dX12_tried_39 : decode cX12_tried 39 = .ok (.ifCond .eq 18, 3) := by decide +kernel
theorem dX12_tried_42 : decode cX12_tried 42 = .ok (.aload_n 0, 1) := by decide +kernel
theorem dX12_tried_43 : decode cX12_tried 43 = .ok (.iload_n 2, 1) := by decide +kernel
theorem dX12_tried_44 : decode cX12_tried 44 = .ok (.bipush 20, 2) := by decide +kernel
theorem dX12_tried_46 : decode cX12_tried 46 = .ok (.isub, 1) := by decide +kernel
theorem dX12_tried_47 : decode cX12_tried 47 = .ok (.invokevirtual 259, 3) := by decide +kernel
theorem dX12_tried_50 : decode cX12_tried 50 = .ok (.ifCond .eq 7, 3) := by decide +kernel
theorem dX12_tried_53 : decode cX12_tried 53 = .ok (.iconst 1, 1) := by decide +kernel
theorem dX12_tried_54 : decode cX12_tried 54 = .ok (.goto 4, 3) := by decide +kernel
theorem dX12_tried_57 : decode cX12_tried 57 = .ok (.iconst 0, 1) := by decide +kernel
theorem dX12_tried_58 : decode cX12_tried 58 = .ok (.istore_n 3, 1) := by decide +kernel
theorem dX12_tried_59 : decode cX12_tried 59 = .ok (.iload_n 1, 1) := by decide +kernel
theorem dX12_tried_60 : decode cX12_tried 60 = .ok (.iconst 1, 1) := by decide +kernel
theorem dX12_tried_61 : decode cX12_tried 61 = .ok (.bipush 60, 2) := by decide +kernel
theorem dX12_tried_63 : decode cX12_tried 63 = .ok (.invokestatic 126, 3) := by decide +kernel
theorem dX12_tried_66 : decode cX12_tried 66 = .ok (.ifCond .eq 7, 3) := by decide +kernel
theorem dX12_tried_69 : decode cX12_tried 69 = .ok (.iload_n 3, 1) := by decide +kernel
theorem dX12_tried_70 : decode cX12_tried 70 = .ok (.ifCond .ne 5, 3) := by decide +kernel
theorem dX12_tried_73 : decode cX12_tried 73 = .ok (.iconst (-1), 1) := by decide +kernel
theorem dX12_tried_74 : decode cX12_tried 74 = .ok (.ireturn, 1) := by decide +kernel
theorem dX12_tried_75 : decode cX12_tried 75 = .ok (.aload_n 0, 1) := by decide +kernel
theorem dX12_tried_76 : decode cX12_tried 76 = .ok (.getfield 7, 3) := by decide +kernel
theorem dX12_tried_79 : decode cX12_tried 79 = .ok (.aload_n 0, 1) := by decide +kernel
theorem dX12_tried_80 : decode cX12_tried 80 = .ok (.getfield 13, 3) := by decide +kernel
theorem dX12_tried_83 : decode cX12_tried 83 = .ok (.invokestatic 294, 3) := by decide +kernel
theorem dX12_tried_86 : decode cX12_tried 86 = .ok (.aload_n 0, 1) := by decide +kernel
theorem dX12_tried_87 : decode cX12_tried 87 = .ok (.iload_n 1, 1) := by decide +kernel
theorem dX12_tried_88 : decode cX12_tried 88 = .ok (.invokevirtual 291, 3) := by decide +kernel
theorem dX12_tried_91 : decode cX12_tried 91 = .ok (.iload_n 2, 1) := by decide +kernel
theorem dX12_tried_92 : decode cX12_tried 92 = .ok (.ifCond .ne 10, 3) := by decide +kernel
theorem dX12_tried_95 : decode cX12_tried 95 = .ok (.aload_n 0, 1) := by decide +kernel
theorem dX12_tried_96 : decode cX12_tried 96 = .ok (.getfield 266, 3) := by decide +kernel
theorem dX12_tried_99 : decode cX12_tried 99 = .ok (.goto 74, 3) := by decide +kernel
theorem dX12_tried_102 : decode cX12_tried 102 = .ok (.iload_n 2, 1) := by decide +kernel
theorem dX12_tried_103 : decode cX12_tried 103 = .ok (.iconst 1, 1) := by decide +kernel
theorem dX12_tried_104 : decode cX12_tried 104 = .ok (.if_icmp .ne 10, 3) := by decide +kernel
theorem dX12_tried_107 : decode cX12_tried 107 = .ok (.aload_n 0, 1) := by decide +kernel
theorem dX12_tried_108 : decode cX12_tried 108 = .ok (.getfield 269, 3) := by decide +kernel
theorem dX12_tried_111 : decode cX12_tried 111 = .ok (.goto 62, 3) := by decide +kernel
theorem dX12_tried_114 : decode cX12_tried 114 = .ok (.iload_n 2, 1) := by decide +kernel
theorem dX12_tried_115 : decode cX12_tried 115 = .ok (.iconst 2, 1) := by decide +kernel
theorem dX12_tried_116 : decode cX12_tried 116 = .ok (.if_icmp .ne 16, 3) := by decide +kernel
theorem dX12_tried_119 : decode cX12_tried 119 = .ok (.aload_n 0, 1) := by decide +kernel
theorem dX12_tried_120 : decode cX12_tried 120 = .ok (.getfield 7, 3) := by decide +kernel
theorem dX12_tried_123 : decode cX12_tried 123 = .ok (.bipush 77, 2) := by decide +kernel
theorem dX12_tried_125 : decode cX12_tried 125 = .ok (.iaload, 1) := by decide +kernel
theorem dX12_tried_126 : decode cX12_tried 126 = .ok (.invokestatic 247, 3) := by decide +kernel
theorem dX12_tried_129 : decode cX12_tried 129 = .ok (.goto 44, 3) := by decide +kernel
theorem dX12_tried_132 : decode cX12_tried 132 = .ok (.iload_n 2, 1) := by decide +kernel
theorem dX12_tried_133 : decode cX12_tried 133 = .ok (.iconst 3, 1) := by decide +kernel
theorem dX12_tried_134 : decode cX12_tried 134 = .ok (.if_icmp .ne 10, 3) := by decide +kernel
theorem dX12_tried_137 : decode cX12_tried 137 = .ok (.aload_n 0, 1) := by decide +kernel
theorem dX12_tried_138 : decode cX12_tried 138 = .ok (.getfield 281, 3) := by decide +kernel
theorem dX12_tried_141 : decode cX12_tried 141 = .ok (.goto 32, 3) := by decide +kernel
theorem dX12_tried_144 : decode cX12_tried 144 = .ok (.iload_n 2, 1) := by decide +kernel
theorem dX12_tried_145 : decode cX12_tried 145 = .ok (.bipush 20, 2) := by decide +kernel
theorem dX12_tried_147 : decode cX12_tried 147 = .ok (.if_icmp .ge 17, 3) := by decide +kernel
theorem dX12_tried_150 : decode cX12_tried 150 = .ok (.aload_n 0, 1) := by decide +kernel
theorem dX12_tried_151 : decode cX12_tried 151 = .ok (.getfield 7, 3) := by decide +kernel
theorem dX12_tried_154 : decode cX12_tried 154 = .ok (.iconst 4, 1) := by decide +kernel
theorem dX12_tried_155 : decode cX12_tried 155 = .ok (.iload_n 2, 1) := by decide +kernel
theorem dX12_tried_156 : decode cX12_tried 156 = .ok (.iadd, 1) := by decide +kernel
theorem dX12_tried_157 : decode cX12_tried 157 = .ok (.bipush 10, 2) := by decide +kernel
theorem dX12_tried_159 : decode cX12_tried 159 = .ok (.isub, 1) := by decide +kernel
theorem dX12_tried_160 : decode cX12_tried 160 = .ok (.iaload, 1) := by decide +kernel
theorem dX12_tried_161 : decode cX12_tried 161 = .ok (.goto 12, 3) := by decide +kernel
theorem dX12_tried_164 : decode cX12_tried 164 = .ok (.aload_n 0, 1) := by decide +kernel
theorem dX12_tried_165 : decode cX12_tried 165 = .ok (.getfield 65, 3) := by decide +kernel
theorem dX12_tried_168 : decode cX12_tried 168 = .ok (.iload_n 2, 1) := by decide +kernel
theorem dX12_tried_169 : decode cX12_tried 169 = .ok (.bipush 20, 2) := by decide +kernel
theorem dX12_tried_171 : decode cX12_tried 171 = .ok (.isub, 1) := by decide +kernel
theorem dX12_tried_172 : decode cX12_tried 172 = .ok (.iaload, 1) := by decide +kernel
theorem dX12_tried_173 : decode cX12_tried 173 = .ok (.istore 4, 2) := by decide +kernel
theorem dX12_tried_175 : decode cX12_tried 175 = .ok (.aload_n 0, 1) := by decide +kernel
theorem dX12_tried_176 : decode cX12_tried 176 = .ok (.getfield 13, 3) := by decide +kernel
theorem dX12_tried_179 : decode cX12_tried 179 = .ok (.aload_n 0, 1) := by decide +kernel
theorem dX12_tried_180 : decode cX12_tried 180 = .ok (.getfield 7, 3) := by decide +kernel
theorem dX12_tried_183 : decode cX12_tried 183 = .ok (.invokestatic 294, 3) := by decide +kernel
theorem dX12_tried_186 : decode cX12_tried 186 = .ok (.iload 4, 2) := by decide +kernel
theorem dX12_tried_188 : decode cX12_tried 188 = .ok (.ireturn, 1) := by decide +kernel
set_option maxRecDepth 100000 in
def f_m_tried (x1 : Int) (x2 : Int) (V : Nat → Nat → Int) (J : Nat → Nat → Int) (Rr : Nat → Nat → Nat) : (Int × (Nat → Nat → Int)) → Prop :=
  calR (f_m_in x2 0 3) fun z1 => fct (0 ≤ z1 ∧ z1 ≤ 1) <| (if ¬ z1 = 0 then calR (f_m_in x1 1 60) fun z4 => fct (0 ≤ z4 ∧ z4 ≤ 1) <| (if z4 = 0 then rtn ((-1), V) else rdb (cpN V 1 2 81) fun V7 => calUM 16924998368092956804513792 V7 (f_m_daysGo x1 V7 J Rr) fun V8 => jnk (fun (z16 : Int) => rdb (cpN V8 2 1 81) fun V18 => rtn (z16, V18)) fun jf17 => (if ¬ x2 = 0 then (if ¬ x2 = 1 then (if ¬ x2 = 2 then rdb (V8 0 29) fun z22 => jf17 z22 else rdb (V8 1 77) fun z23 => calR (f_m_bits z23) fun z24 => jf17 z24) else rdb (V8 0 28) fun z25 => jf17 z25) else rdb (V8 0 27) fun z26 => jf17 z26)) else calR (f_m_in x2 10 13) fun z27 => fct (0 ≤ z27 ∧ z27 ≤ 1) <| (if z27 = 0 then calR (f_m_in x2 20 27) fun z29 => fct (0 ≤ z29 ∧ z29 ≤ 1) <| (if z29 = 0 then calR (f_m_in x1 1 60) fun z31 => fct (0 ≤ z31 ∧ z31 ≤ 1) <| (if z31 = 0 then rtn ((-1), V) else rtn ((-1), V)) else calR (f_m_isPerson (x2 - 20) V J Rr) fun z35 => fct (0 ≤ z35 ∧ z35 ≤ 1) <| (if z35 = 0 then calR (f_m_in x1 1 60) fun z37 => fct (0 ≤ z37 ∧ z37 ≤ 1) <| (if z37 = 0 then rtn ((-1), V) else rtn ((-1), V)) else calR (f_m_in x1 1 60) fun z41 => fct (0 ≤ z41 ∧ z41 ≤ 1) <| (if z41 = 0 then rtn ((-1), V) else rdb (cpN V 1 2 81) fun V44 => calUM 16924998368092956804513792 V44 (f_m_daysGo x1 V44 J Rr) fun V45 => rdb (V45 19 ((x2 - 20).toNat)) fun z46 => rdb (cpN V45 2 1 81) fun V47 => rtn (z46, V47)))) else calR (f_m_isPlant (x2 - 10) V J Rr) fun z49 => fct (0 ≤ z49 ∧ z49 ≤ 1) <| (if ¬ z49 = 0 then calR (f_m_in x1 1 60) fun z52 => fct (0 ≤ z52 ∧ z52 ≤ 1) <| (if z52 = 0 then rtn ((-1), V) else rdb (cpN V 1 2 81) fun V55 => calUM 16924998368092956804513792 V55 (f_m_daysGo x1 V55 J Rr) fun V56 => rdb (V56 1 ((x2 - 6).toNat)) fun z57 => fct (0 ≤ z57 ∧ z57 ≤ 24) <| rdb (cpN V56 2 1 81) fun V58 => rtn (z57, V58)) else calR (f_m_in x2 20 27) fun z59 => fct (0 ≤ z59 ∧ z59 ≤ 1) <| (if z59 = 0 then calR (f_m_in x1 1 60) fun z61 => fct (0 ≤ z61 ∧ z61 ≤ 1) <| (if z61 = 0 then rtn ((-1), V) else rtn ((-1), V)) else calR (f_m_isPerson (x2 - 20) V J Rr) fun z65 => fct (0 ≤ z65 ∧ z65 ≤ 1) <| (if z65 = 0 then calR (f_m_in x1 1 60) fun z67 => fct (0 ≤ z67 ∧ z67 ≤ 1) <| (if z67 = 0 then rtn ((-1), V) else rtn ((-1), V)) else calR (f_m_in x1 1 60) fun z71 => fct (0 ≤ z71 ∧ z71 ≤ 1) <| (if z71 = 0 then rtn ((-1), V) else rdb (cpN V 1 2 81) fun V74 => calUM 16924998368092956804513792 V74 (f_m_daysGo x1 V74 J Rr) fun V75 => rdb (V75 1 ((x2 - 6).toNat)) fun z76 => fct (0 ≤ z76 ∧ z76 ≤ 24) <| rdb (cpN V75 2 1 81) fun V77 => rtn (z76, V77)))))))
set_option maxHeartbeats 8000000 in
set_option maxRecDepth 100000 in
theorem m_tried (l : Launch) (D : va_G) (cy : Nat → ClassId) (ad : Nat → Nat) (G : Nat → Nat → Int) (V J : Nat → Nat → Int) (Rr : Nat → Nat → Nat) (hI : MI G V) (hJ : VJ J) (hR : MR Rr) (x1 : Int) (bx1 : -2147483648 ≤ x1 ∧ x1 ≤ 2147483647) (x2 : Int) (bx2 : -2147483648 ≤ x2 ∧ x2 ≤ 2147483647) (hW : WP G) : xMi l D (xTY cy) yX12_tried cX12_tried 5 (some .int) 7 164 0 0 [.ref (ad 0), vI x1, vI x2] (MW cy ad V J Rr) (fun u : Nat → Nat → Int => MW cy ad u J Rr) (fun a (u : Nat → Nat → Int) => MI G u ∧ FBm 16925072155069251642720256 V u ∧ (f_m_tried x1 x2 V J Rr) (a, u)) := by
  refine xMi.mk (lv0 := [(0, .ref (ad 0)), (1, vI x1), (2, vI x2)]) (by decide) rfl (Nat.le_of_ble_eq_true rfl) (fun p e s m below meth c A C hr hnm hAe => ?_)
  have C : xC2 p s m _ meth c D A s.heap 5 cX12_tried RX12 (xTY cy) := C
  have hB : FBm 16925072155069251642720256 V V := FBm.rf _ _
  have hF := Imp.of_eq (f_m_tried.eq_def x1 x2 V J Rr)
  refine x_iload_n C.1 dX12_tried_0 2 rfl ?_
  refine x_iconst C.1 (n := 0) dX12_tried_1 ?_
  refine x_iconst C.1 (n := 3) dX12_tried_2 ?_
  refine x_callSi C (As := [vI x2, vI 0, vI 3]) (rest := []) (m_in l D cy x2 ⟨by omega, by omega⟩ 0 ⟨by decide, by decide⟩ 3 ⟨by decide, by decide⟩) (l1 := []) (l2 := _) rfl (w2 := fun _ => _) (fun _ => rfl) rfl wm_yX12_in wn_X12 wl_X12_126 wi_yX12_in hd_yX12_in rfl ⟨Nat.le_of_ble_eq_true rfl, Nat.le_of_ble_eq_true rfl⟩ (Nat.le_of_ble_eq_true rfl) ⟨Nat.le_of_ble_eq_true rfl, Nat.le_of_ble_eq_true rfl⟩ dX12_tried_3 (fun z1 u1 bz1 h1 => ?_)
  obtain ⟨bq1, hx1_0, hFc1⟩ := h1
  replace hF := calR_i hF hFc1
  replace hF := hF.fc bq1
  refine x_if_ne C.1 (tgt := 53) dX12_tried_6 (by decide) (by omega) (fun hc2 => ?_) (fun hc2 => ?_)
  · replace hF := hF.to (if_pos hc2)
    have hon3 := Sq.on hx1_0 (by omega)
    refine x_iconst C.1 (n := 1) dX12_tried_53 ?_
    refine x_goto C.1 (tgt := 58) dX12_tried_54 (by decide) ?_
    refine x_istore_n C.1 (lv' := [(3, vI 1), (0, .ref (ad 0)), (1, vI x1), (2, vI x2)]) dX12_tried_58 (by decide) rfl ?_
    refine x_iload_n C.1 dX12_tried_59 2 rfl ?_
    refine x_iconst C.1 (n := 1) dX12_tried_60 ?_
    refine x_bipush C.1 (n := 60) dX12_tried_61 ?_
    refine x_callSi C (As := [vI x1, vI 1, vI 60]) (rest := []) (m_in l D cy x1 ⟨by omega, by omega⟩ 1 ⟨by decide, by decide⟩ 60 ⟨by decide, by decide⟩) (l1 := []) (l2 := _) rfl (w2 := fun _ => _) (fun _ => rfl) rfl wm_yX12_in wn_X12 wl_X12_126 wi_yX12_in hd_yX12_in rfl ⟨Nat.le_of_ble_eq_true rfl, Nat.le_of_ble_eq_true rfl⟩ (Nat.le_of_ble_eq_true rfl) ⟨Nat.le_of_ble_eq_true rfl, Nat.le_of_ble_eq_true rfl⟩ dX12_tried_63 (fun z4 u4 bz4 h4 => ?_)
    obtain ⟨bq4, hx4_0, hFc4⟩ := h4
    replace hF := calR_i hF hFc4
    replace hF := hF.fc bq4
    refine x_if_eq C.1 (tgt := 73) dX12_tried_66 (by decide) (by omega) (fun hc5 => ?_) (fun hc5 => ?_)
    · replace hF := hF.to (if_pos hc5)
      refine x_iconst C.1 (n := -1) dX12_tried_73 ?_
      exact x_iret (S := (Nat → Nat → Int)) (post := (fun a (u : Nat → Nat → Int) => MI G u ∧ FBm 16925072155069251642720256 V u ∧ (f_m_tried x1 x2 V J Rr) (a, u))) (w1 := (fun u : Nat → Nat → Int => MW cy ad u J Rr)) (a := (-1)) C hr rfl dX12_tried_74 (by decide) V rfl ⟨hI, hB, hF _ rfl⟩
    · replace hF := hF.to (if_neg hc5)
      have hon6 := Sq.on hx4_0 (by omega)
      refine x_iload_n C.1 dX12_tried_69 0 rfl ?_
      refine x_if_ne_t C.1 (tgt := 75) dX12_tried_70 (by decide) (by decide) (by decide) ?_
      refine x_aload_n C.1 dX12_tried_75 1 rfl ?_
      refine x_getA C (N := 33) (i := 0) (by decide) rfl vc_X12 wx_X12 0 (by decide) wf_X12_7 (a := 1) rfl dX12_tried_76 ?_
      refine x_aload_n C.1 dX12_tried_79 1 rfl ?_
      refine x_getA C (N := 33) (i := 0) (by decide) rfl vc_X12 wx_X12 1 (by decide) wf_X12_13 (a := 2) rfl dX12_tried_80 ?_
      refine x_callSv C (As := [.ref (ad 1), .ref (ad 2)]) (rest := []) (c_copies l D cy ad V J Rr hI.vr hJ 1 2 (by decide) (by decide) rfl rfl (by decide)) (l1 := []) (l2 := []) (List.append_nil _).symm (w2 := fun u : xS => MW cy ad u.1 u.2.1 u.2.2) (fun _ => List.append_nil _) rfl wm_yX12_copies wn_X12 wl_X12_294 wi_yX12_copies hd_yX12_copies rfl ⟨Nat.le_of_ble_eq_true rfl, Nat.le_of_ble_eq_true rfl⟩ (Nat.le_of_ble_eq_true rfl) ⟨Nat.le_of_ble_eq_true rfl, Nat.le_of_ble_eq_true rfl⟩ dX12_tried_83 (fun u7 h7 => ?_)
      subst h7
      dsimp only
      refine x_gV ?_
      intro V7 hV7
      have hI7 : MI G V7 := MI.cp hI hV7 (by decide) (by decide)
      have hB7 := hB.cp hV7 (fun _ => by rw [mkey_r (by decide)]; rfl)
      replace hF := hF.to (rdb_e (z := V7) hV7.symm)
      refine x_aload_n C.1 dX12_tried_86 1 rfl ?_
      refine x_iload_n C.1 dX12_tried_87 2 rfl ?_
      refine x_callVv C (As := [vI x1]) (rest := []) 0 (xw_at (N := 33) (i := 0) (by decide) rfl) vc_X12 (m_daysGo l D cy ad G V7 J Rr hI7 hJ hR x1 ⟨by omega, by omega⟩ hW) (l1 := []) (l2 := []) (List.append_nil _).symm (w2 := fun u : Nat → Nat → Int => MW cy ad u J Rr) (fun _ => List.append_nil _) rfl wm_yX12_daysGo wn_X12 wl_X12_291 wi_yX12_daysGo we_yX12_daysGo hd_yX12_daysGo rfl ⟨Nat.le_of_ble_eq_true rfl, Nat.le_of_ble_eq_true rfl⟩ (Nat.le_of_ble_eq_true rfl) ⟨Nat.le_of_ble_eq_true rfl, Nat.le_of_ble_eq_true rfl⟩ dX12_tried_88 (fun V8 h8 => ?_)
      obtain ⟨hI8, hBc8, hFc8⟩ := h8
      replace hF := calUM_i hF hFc8 hBc8
      have hB8 := hB7.tr hBc8 (m := 16924998368092956804513792) rfl
      refine x_iload_n C.1 dX12_tried_91 3 rfl ?_
      obtain ⟨jf17, hjf17, hF⟩ := jn_ex hF
      refine x_join (I := fun z16 : Int => (-2147483648 ≤ z16 ∧ z16 ≤ 2147483647) ∧ Imp (jf17 z16) (f_m_tried x1 x2 V J Rr)) (wsf := fun z16 : Int => MW cy ad V8 J Rr) (lvf := fun z16 : Int => [(3, vI 1), (0, .ref (ad 0)), (1, vI x1), (2, vI x2)]) (stf := fun z16 : Int => [vI z16]) 173 (fun z16 hI17x => ?_) (fun jn17 => ?_)
      · obtain ⟨bz16, hF⟩ := hI17x
        try dsimp only
        replace hF := hF.to (jn_s1 hjf17)
        refine x_istore C.1 (lv' := [(4, vI z16), (3, vI 1), (0, .ref (ad 0)), (1, vI x1), (2, vI x2)]) dX12_tried_173 (by decide) rfl ?_
        refine x_aload_n C.1 dX12_tried_175 2 rfl ?_
        refine x_getA C (N := 33) (i := 0) (by decide) rfl vc_X12 wx_X12 1 (by decide) wf_X12_13 (a := 2) rfl dX12_tried_176 ?_
        refine x_aload_n C.1 dX12_tried_179 2 rfl ?_
        refine x_getA C (N := 33) (i := 0) (by decide) rfl vc_X12 wx_X12 0 (by decide) wf_X12_7 (a := 1) rfl dX12_tried_180 ?_
        refine x_callSv C (As := [.ref (ad 2), .ref (ad 1)]) (rest := []) (c_copies l D cy ad V8 J Rr hI8.vr hJ 2 1 (by decide) (by decide) rfl rfl (by decide)) (l1 := []) (l2 := []) (List.append_nil _).symm (w2 := fun u : xS => MW cy ad u.1 u.2.1 u.2.2) (fun _ => List.append_nil _) rfl wm_yX12_copies wn_X12 wl_X12_294 wi_yX12_copies hd_yX12_copies rfl ⟨Nat.le_of_ble_eq_true rfl, Nat.le_of_ble_eq_true rfl⟩ (Nat.le_of_ble_eq_true rfl) ⟨Nat.le_of_ble_eq_true rfl, Nat.le_of_ble_eq_true rfl⟩ dX12_tried_183 (fun u18 h18 => ?_)
        subst h18
        dsimp only
        refine x_gV ?_
        intro V18 hV18
        have hI18 : MI G V18 := MI.cp hI8 hV18 (by decide) (by decide)
        have hB18 := hB8.cp hV18 (fun _ => by rw [mkey_r (by decide)]; rfl)
        replace hF := hF.to (rdb_e (z := V18) hV18.symm)
        refine x_iload C.1 dX12_tried_186 0 rfl ?_
        exact x_iret (S := (Nat → Nat → Int)) (post := (fun a (u : Nat → Nat → Int) => MI G u ∧ FBm 16925072155069251642720256 V u ∧ (f_m_tried x1 x2 V J Rr) (a, u))) (w1 := (fun u : Nat → Nat → Int => MW cy ad u J Rr)) (a := z16) C hr rfl dX12_tried_188 (by omega) V18 rfl ⟨hI18, hB18, hF _ rfl⟩
      · refine x_if_ne C.1 (tgt := 102) dX12_tried_92 (by decide) (by omega) (fun hc19 => ?_) (fun hc19 => ?_)
        · replace hF := hF.to (if_pos hc19)
          refine x_iload_n C.1 dX12_tried_102 3 rfl ?_
          refine x_iconst C.1 (n := 1) dX12_tried_103 ?_
          refine x_icmp_ne C.1 (tgt := 114) dX12_tried_104 (by decide) (by omega) (by decide) (fun hc20 => ?_) (fun hc20 => ?_)
          · replace hF := hF.to (if_pos hc20)
            refine x_iload_n C.1 dX12_tried_114 3 rfl ?_
            refine x_iconst C.1 (n := 2) dX12_tried_115 ?_
            refine x_icmp_ne C.1 (tgt := 132) dX12_tried_116 (by decide) (by omega) (by decide) (fun hc21 => ?_) (fun hc21 => ?_)
            · replace hF := hF.to (if_pos hc21)
              refine x_iload_n C.1 dX12_tried_132 3 rfl ?_
              refine x_iconst C.1 (n := 3) dX12_tried_133 ?_
              refine x_icmp_ne_f C.1 (tgt := 144) dX12_tried_134 (by decide) (by omega) (by decide) (by omega) ?_
              refine x_aload_n C.1 dX12_tried_137 1 rfl ?_
              obtain ⟨z22, ez22, bz22⟩ := hI8.rd 0 29 (x := -2147483648) (y := 2147483647) rfl
              replace hF := hF.to (rdb_e (z := z22) ez22)
              refine x_getI C (N := 33) (i := 0) (by decide) rfl vc_X12 wx_X12 29 (by decide) wf_X12_281 rfl dX12_tried_138 (a := z22) ez22 ?_
              refine x_goto C.1 (tgt := 173) dX12_tried_141 (by decide) ?_
              exact jn17 z22 ⟨⟨by omega, by omega⟩, hF⟩
            · replace hF := hF.to (if_neg (fun hh => hh hc21))
              refine x_aload_n C.1 dX12_tried_119 1 rfl ?_
              refine x_getA C (N := 33) (i := 0) (by decide) rfl vc_X12 wx_X12 0 (by decide) wf_X12_7 (a := 1) rfl dX12_tried_120 ?_
              refine x_bipush C.1 (n := 77) dX12_tried_123 ?_
              obtain ⟨z23, ez23, bz23⟩ := hI8.rd 1 77 (x := -2147483648) (y := 2147483647) (rgN_81 (Or.inl rfl) (by decide))
              replace hF := hF.to (rdb_e (z := z23) ez23)
              refine x_iald C (N := 33) (i := 1) (q := 77) (by decide) rfl (by decide) (by decide) dX12_tried_125 (a := z23) ez23 ?_
              refine x_callSi C (As := [vI z23]) (rest := []) (m_bits l D cy z23 ⟨by omega, by omega⟩) (l1 := []) (l2 := _) rfl (w2 := fun _ => _) (fun _ => rfl) rfl wm_yX12_bits wn_X12 wl_X12_247 wi_yX12_bits hd_yX12_bits rfl ⟨Nat.le_of_ble_eq_true rfl, Nat.le_of_ble_eq_true rfl⟩ (Nat.le_of_ble_eq_true rfl) ⟨Nat.le_of_ble_eq_true rfl, Nat.le_of_ble_eq_true rfl⟩ dX12_tried_126 (fun z24 u24 bz24 h24 => ?_)
              have hFc24 := h24
              replace hF := calR_i hF hFc24
              refine x_goto C.1 (tgt := 173) dX12_tried_129 (by decide) ?_
              exact jn17 z24 ⟨⟨by omega, by omega⟩, hF⟩
          · replace hF := hF.to (if_neg (fun hh => hh hc20))
            refine x_aload_n C.1 dX12_tried_107 1 rfl ?_
            obtain ⟨z25, ez25, bz25⟩ := hI8.rd 0 28 (x := -2147483648) (y := 2147483647) rfl
            replace hF := hF.to (rdb_e (z := z25) ez25)
            refine x_getI C (N := 33) (i := 0) (by decide) rfl vc_X12 wx_X12 28 (by decide) wf_X12_269 rfl dX12_tried_108 (a := z25) ez25 ?_
            refine x_goto C.1 (tgt := 173) dX12_tried_111 (by decide) ?_
            exact jn17 z25 ⟨⟨by omega, by omega⟩, hF⟩
        · replace hF := hF.to (if_neg (fun hh => hh hc19))
          refine x_aload_n C.1 dX12_tried_95 1 rfl ?_
          obtain ⟨z26, ez26, bz26⟩ := hI8.rd 0 27 (x := -2147483648) (y := 2147483647) rfl
          replace hF := hF.to (rdb_e (z := z26) ez26)
          refine x_getI C (N := 33) (i := 0) (by decide) rfl vc_X12 wx_X12 27 (by decide) wf_X12_266 rfl dX12_tried_96 (a := z26) ez26 ?_
          refine x_goto C.1 (tgt := 173) dX12_tried_99 (by decide) ?_
          exact jn17 z26 ⟨⟨by omega, by omega⟩, hF⟩
  · replace hF := hF.to (if_neg (fun hh => hh hc2))
    refine x_iload_n C.1 dX12_tried_9 2 rfl ?_
    refine x_bipush C.1 (n := 10) dX12_tried_10 ?_
    refine x_bipush C.1 (n := 13) dX12_tried_12 ?_
    refine x_callSi C (As := [vI x2, vI 10, vI 13]) (rest := []) (m_in l D cy x2 ⟨by omega, by omega⟩ 10 ⟨by decide, by decide⟩ 13 ⟨by decide, by decide⟩) (l1 := []) (l2 := _) rfl (w2 := fun _ => _) (fun _ => rfl) rfl wm_yX12_in wn_X12 wl_X12_126 wi_yX12_in hd_yX12_in rfl ⟨Nat.le_of_ble_eq_true rfl, Nat.le_of_ble_eq_true rfl⟩ (Nat.le_of_ble_eq_true rfl) ⟨Nat.le_of_ble_eq_true rfl, Nat.le_of_ble_eq_true rfl⟩ dX12_tried_14 (fun z27 u27 bz27 h27 => ?_)
    obtain ⟨bq27, hx27_0, hFc27⟩ := h27
    replace hF := calR_i hF hFc27
    replace hF := hF.fc bq27
    refine x_if_eq C.1 (tgt := 31) dX12_tried_17 (by decide) (by omega) (fun hc28 => ?_) (fun hc28 => ?_)
    · replace hF := hF.to (if_pos hc28)
      refine x_iload_n C.1 dX12_tried_31 2 rfl ?_
      refine x_bipush C.1 (n := 20) dX12_tried_32 ?_
      refine x_bipush C.1 (n := 27) dX12_tried_34 ?_
      refine x_callSi C (As := [vI x2, vI 20, vI 27]) (rest := []) (m_in l D cy x2 ⟨by omega, by omega⟩ 20 ⟨by decide, by decide⟩ 27 ⟨by decide, by decide⟩) (l1 := []) (l2 := _) rfl (w2 := fun _ => _) (fun _ => rfl) rfl wm_yX12_in wn_X12 wl_X12_126 wi_yX12_in hd_yX12_in rfl ⟨Nat.le_of_ble_eq_true rfl, Nat.le_of_ble_eq_true rfl⟩ (Nat.le_of_ble_eq_true rfl) ⟨Nat.le_of_ble_eq_true rfl, Nat.le_of_ble_eq_true rfl⟩ dX12_tried_36 (fun z29 u29 bz29 h29 => ?_)
      obtain ⟨bq29, hx29_0, hFc29⟩ := h29
      replace hF := calR_i hF hFc29
      replace hF := hF.fc bq29
      refine x_if_eq C.1 (tgt := 57) dX12_tried_39 (by decide) (by omega) (fun hc30 => ?_) (fun hc30 => ?_)
      · replace hF := hF.to (if_pos hc30)
        refine x_iconst C.1 (n := 0) dX12_tried_57 ?_
        refine x_istore_n C.1 (lv' := [(3, vI 0), (0, .ref (ad 0)), (1, vI x1), (2, vI x2)]) dX12_tried_58 (by decide) rfl ?_
        refine x_iload_n C.1 dX12_tried_59 2 rfl ?_
        refine x_iconst C.1 (n := 1) dX12_tried_60 ?_
        refine x_bipush C.1 (n := 60) dX12_tried_61 ?_
        refine x_callSi C (As := [vI x1, vI 1, vI 60]) (rest := []) (m_in l D cy x1 ⟨by omega, by omega⟩ 1 ⟨by decide, by decide⟩ 60 ⟨by decide, by decide⟩) (l1 := []) (l2 := _) rfl (w2 := fun _ => _) (fun _ => rfl) rfl wm_yX12_in wn_X12 wl_X12_126 wi_yX12_in hd_yX12_in rfl ⟨Nat.le_of_ble_eq_true rfl, Nat.le_of_ble_eq_true rfl⟩ (Nat.le_of_ble_eq_true rfl) ⟨Nat.le_of_ble_eq_true rfl, Nat.le_of_ble_eq_true rfl⟩ dX12_tried_63 (fun z31 u31 bz31 h31 => ?_)
        obtain ⟨bq31, hx31_0, hFc31⟩ := h31
        replace hF := calR_i hF hFc31
        replace hF := hF.fc bq31
        refine x_if_eq C.1 (tgt := 73) dX12_tried_66 (by decide) (by omega) (fun hc32 => ?_) (fun hc32 => ?_)
        · replace hF := hF.to (if_pos hc32)
          refine x_iconst C.1 (n := -1) dX12_tried_73 ?_
          exact x_iret (S := (Nat → Nat → Int)) (post := (fun a (u : Nat → Nat → Int) => MI G u ∧ FBm 16925072155069251642720256 V u ∧ (f_m_tried x1 x2 V J Rr) (a, u))) (w1 := (fun u : Nat → Nat → Int => MW cy ad u J Rr)) (a := (-1)) C hr rfl dX12_tried_74 (by decide) V rfl ⟨hI, hB, hF _ rfl⟩
        · replace hF := hF.to (if_neg hc32)
          have hon33 := Sq.on hx31_0 (by omega)
          refine x_iload_n C.1 dX12_tried_69 0 rfl ?_
          refine x_if_ne_f C.1 (tgt := 75) dX12_tried_70 (by decide) (by decide) (by decide) ?_
          refine x_iconst C.1 (n := -1) dX12_tried_73 ?_
          exact x_iret (S := (Nat → Nat → Int)) (post := (fun a (u : Nat → Nat → Int) => MI G u ∧ FBm 16925072155069251642720256 V u ∧ (f_m_tried x1 x2 V J Rr) (a, u))) (w1 := (fun u : Nat → Nat → Int => MW cy ad u J Rr)) (a := (-1)) C hr rfl dX12_tried_74 (by decide) V rfl ⟨hI, hB, hF _ rfl⟩
      · replace hF := hF.to (if_neg hc30)
        have hon34 := Sq.on hx29_0 (by omega)
        refine x_aload_n C.1 dX12_tried_42 0 rfl ?_
        refine x_iload_n C.1 dX12_tried_43 2 rfl ?_
        refine x_bipush C.1 (n := 20) dX12_tried_44 ?_
        refine x_isub C.1 (v := x2 - 20) (by omega) dX12_tried_46 ?_
        refine x_callVi C (As := [vI (x2 - 20)]) (rest := []) 0 (xw_at (N := 33) (i := 0) (by decide) rfl) vc_X12 (m_isPerson l D cy ad G V J Rr hI hJ hR (x2 - 20) ⟨by omega, by omega⟩) (l1 := []) (l2 := []) (List.append_nil _).symm (w2 := fun _ => MW cy ad V J Rr) (fun _ => List.append_nil _) rfl wm_yX12_isPerson wn_X12 wl_X12_259 wi_yX12_isPerson we_yX12_isPerson hd_yX12_isPerson rfl ⟨Nat.le_of_ble_eq_true rfl, Nat.le_of_ble_eq_true rfl⟩ (Nat.le_of_ble_eq_true rfl) ⟨Nat.le_of_ble_eq_true rfl, Nat.le_of_ble_eq_true rfl⟩ dX12_tried_47 (fun z35 u35 bz35 h35 => ?_)
        obtain ⟨hon35, hFc35⟩ := h35
        replace hF := calR_i hF hFc35
        replace hF := hF.fc hon35.r
        have bq35 := Sp.r hon35
        refine x_if_eq C.1 (tgt := 57) dX12_tried_50 (by decide) (by omega) (fun hc36 => ?_) (fun hc36 => ?_)
        · replace hF := hF.to (if_pos hc36)
          refine x_iconst C.1 (n := 0) dX12_tried_57 ?_
          refine x_istore_n C.1 (lv' := [(3, vI 0), (0, .ref (ad 0)), (1, vI x1), (2, vI x2)]) dX12_tried_58 (by decide) rfl ?_
          refine x_iload_n C.1 dX12_tried_59 2 rfl ?_
          refine x_iconst C.1 (n := 1) dX12_tried_60 ?_
          refine x_bipush C.1 (n := 60) dX12_tried_61 ?_
          refine x_callSi C (As := [vI x1, vI 1, vI 60]) (rest := []) (m_in l D cy x1 ⟨by omega, by omega⟩ 1 ⟨by decide, by decide⟩ 60 ⟨by decide, by decide⟩) (l1 := []) (l2 := _) rfl (w2 := fun _ => _) (fun _ => rfl) rfl wm_yX12_in wn_X12 wl_X12_126 wi_yX12_in hd_yX12_in rfl ⟨Nat.le_of_ble_eq_true rfl, Nat.le_of_ble_eq_true rfl⟩ (Nat.le_of_ble_eq_true rfl) ⟨Nat.le_of_ble_eq_true rfl, Nat.le_of_ble_eq_true rfl⟩ dX12_tried_63 (fun z37 u37 bz37 h37 => ?_)
          obtain ⟨bq37, hx37_0, hFc37⟩ := h37
          replace hF := calR_i hF hFc37
          replace hF := hF.fc bq37
          refine x_if_eq C.1 (tgt := 73) dX12_tried_66 (by decide) (by omega) (fun hc38 => ?_) (fun hc38 => ?_)
          · replace hF := hF.to (if_pos hc38)
            refine x_iconst C.1 (n := -1) dX12_tried_73 ?_
            exact x_iret (S := (Nat → Nat → Int)) (post := (fun a (u : Nat → Nat → Int) => MI G u ∧ FBm 16925072155069251642720256 V u ∧ (f_m_tried x1 x2 V J Rr) (a, u))) (w1 := (fun u : Nat → Nat → Int => MW cy ad u J Rr)) (a := (-1)) C hr rfl dX12_tried_74 (by decide) V rfl ⟨hI, hB, hF _ rfl⟩
          · replace hF := hF.to (if_neg hc38)
            have hon39 := Sq.on hx37_0 (by omega)
            refine x_iload_n C.1 dX12_tried_69 0 rfl ?_
            refine x_if_ne_f C.1 (tgt := 75) dX12_tried_70 (by decide) (by decide) (by decide) ?_
            refine x_iconst C.1 (n := -1) dX12_tried_73 ?_
            exact x_iret (S := (Nat → Nat → Int)) (post := (fun a (u : Nat → Nat → Int) => MI G u ∧ FBm 16925072155069251642720256 V u ∧ (f_m_tried x1 x2 V J Rr) (a, u))) (w1 := (fun u : Nat → Nat → Int => MW cy ad u J Rr)) (a := (-1)) C hr rfl dX12_tried_74 (by decide) V rfl ⟨hI, hB, hF _ rfl⟩
        · replace hF := hF.to (if_neg hc36)
          have hon40 := Sp.on hon35 (by omega)
          refine x_iconst C.1 (n := 1) dX12_tried_53 ?_
          refine x_goto C.1 (tgt := 58) dX12_tried_54 (by decide) ?_
          refine x_istore_n C.1 (lv' := [(3, vI 1), (0, .ref (ad 0)), (1, vI x1), (2, vI x2)]) dX12_tried_58 (by decide) rfl ?_
          refine x_iload_n C.1 dX12_tried_59 2 rfl ?_
          refine x_iconst C.1 (n := 1) dX12_tried_60 ?_
          refine x_bipush C.1 (n := 60) dX12_tried_61 ?_
          refine x_callSi C (As := [vI x1, vI 1, vI 60]) (rest := []) (m_in l D cy x1 ⟨by omega, by omega⟩ 1 ⟨by decide, by decide⟩ 60 ⟨by decide, by decide⟩) (l1 := []) (l2 := _) rfl (w2 := fun _ => _) (fun _ => rfl) rfl wm_yX12_in wn_X12 wl_X12_126 wi_yX12_in hd_yX12_in rfl ⟨Nat.le_of_ble_eq_true rfl, Nat.le_of_ble_eq_true rfl⟩ (Nat.le_of_ble_eq_true rfl) ⟨Nat.le_of_ble_eq_true rfl, Nat.le_of_ble_eq_true rfl⟩ dX12_tried_63 (fun z41 u41 bz41 h41 => ?_)
          obtain ⟨bq41, hx41_0, hFc41⟩ := h41
          replace hF := calR_i hF hFc41
          replace hF := hF.fc bq41
          refine x_if_eq C.1 (tgt := 73) dX12_tried_66 (by decide) (by omega) (fun hc42 => ?_) (fun hc42 => ?_)
          · replace hF := hF.to (if_pos hc42)
            refine x_iconst C.1 (n := -1) dX12_tried_73 ?_
            exact x_iret (S := (Nat → Nat → Int)) (post := (fun a (u : Nat → Nat → Int) => MI G u ∧ FBm 16925072155069251642720256 V u ∧ (f_m_tried x1 x2 V J Rr) (a, u))) (w1 := (fun u : Nat → Nat → Int => MW cy ad u J Rr)) (a := (-1)) C hr rfl dX12_tried_74 (by decide) V rfl ⟨hI, hB, hF _ rfl⟩
          · replace hF := hF.to (if_neg hc42)
            have hon43 := Sq.on hx41_0 (by omega)
            refine x_iload_n C.1 dX12_tried_69 0 rfl ?_
            refine x_if_ne_t C.1 (tgt := 75) dX12_tried_70 (by decide) (by decide) (by decide) ?_
            refine x_aload_n C.1 dX12_tried_75 1 rfl ?_
            refine x_getA C (N := 33) (i := 0) (by decide) rfl vc_X12 wx_X12 0 (by decide) wf_X12_7 (a := 1) rfl dX12_tried_76 ?_
            refine x_aload_n C.1 dX12_tried_79 1 rfl ?_
            refine x_getA C (N := 33) (i := 0) (by decide) rfl vc_X12 wx_X12 1 (by decide) wf_X12_13 (a := 2) rfl dX12_tried_80 ?_
            refine x_callSv C (As := [.ref (ad 1), .ref (ad 2)]) (rest := []) (c_copies l D cy ad V J Rr hI.vr hJ 1 2 (by decide) (by decide) rfl rfl (by decide)) (l1 := []) (l2 := []) (List.append_nil _).symm (w2 := fun u : xS => MW cy ad u.1 u.2.1 u.2.2) (fun _ => List.append_nil _) rfl wm_yX12_copies wn_X12 wl_X12_294 wi_yX12_copies hd_yX12_copies rfl ⟨Nat.le_of_ble_eq_true rfl, Nat.le_of_ble_eq_true rfl⟩ (Nat.le_of_ble_eq_true rfl) ⟨Nat.le_of_ble_eq_true rfl, Nat.le_of_ble_eq_true rfl⟩ dX12_tried_83 (fun u44 h44 => ?_)
            subst h44
            dsimp only
            refine x_gV ?_
            intro V44 hV44
            have hI44 : MI G V44 := MI.cp hI hV44 (by decide) (by decide)
            have hB44 := hB.cp hV44 (fun _ => by rw [mkey_r (by decide)]; rfl)
            replace hF := hF.to (rdb_e (z := V44) hV44.symm)
            refine x_aload_n C.1 dX12_tried_86 1 rfl ?_
            refine x_iload_n C.1 dX12_tried_87 2 rfl ?_
            refine x_callVv C (As := [vI x1]) (rest := []) 0 (xw_at (N := 33) (i := 0) (by decide) rfl) vc_X12 (m_daysGo l D cy ad G V44 J Rr hI44 hJ hR x1 ⟨by omega, by omega⟩ hW) (l1 := []) (l2 := []) (List.append_nil _).symm (w2 := fun u : Nat → Nat → Int => MW cy ad u J Rr) (fun _ => List.append_nil _) rfl wm_yX12_daysGo wn_X12 wl_X12_291 wi_yX12_daysGo we_yX12_daysGo hd_yX12_daysGo rfl ⟨Nat.le_of_ble_eq_true rfl, Nat.le_of_ble_eq_true rfl⟩ (Nat.le_of_ble_eq_true rfl) ⟨Nat.le_of_ble_eq_true rfl, Nat.le_of_ble_eq_true rfl⟩ dX12_tried_88 (fun V45 h45 => ?_)
            obtain ⟨hI45, hBc45, hFc45⟩ := h45
            replace hF := calUM_i hF hFc45 hBc45
            have hB45 := hB44.tr hBc45 (m := 16924998368092956804513792) rfl
            refine x_iload_n C.1 dX12_tried_91 3 rfl ?_
            refine x_if_ne_t C.1 (tgt := 102) dX12_tried_92 (by decide) (by omega) (by omega) ?_
            refine x_iload_n C.1 dX12_tried_102 3 rfl ?_
            refine x_iconst C.1 (n := 1) dX12_tried_103 ?_
            refine x_icmp_ne_t C.1 (tgt := 114) dX12_tried_104 (by decide) (by omega) (by decide) (by omega) ?_
            refine x_iload_n C.1 dX12_tried_114 3 rfl ?_
            refine x_iconst C.1 (n := 2) dX12_tried_115 ?_
            refine x_icmp_ne_t C.1 (tgt := 132) dX12_tried_116 (by decide) (by omega) (by decide) (by omega) ?_
            refine x_iload_n C.1 dX12_tried_132 3 rfl ?_
            refine x_iconst C.1 (n := 3) dX12_tried_133 ?_
            refine x_icmp_ne_t C.1 (tgt := 144) dX12_tried_134 (by decide) (by omega) (by decide) (by omega) ?_
            refine x_iload_n C.1 dX12_tried_144 3 rfl ?_
            refine x_bipush C.1 (n := 20) dX12_tried_145 ?_
            refine x_icmp_ge_t C.1 (tgt := 164) dX12_tried_147 (by decide) (by omega) (by decide) (by omega) ?_
            refine x_aload_n C.1 dX12_tried_164 1 rfl ?_
            refine x_getA C (N := 33) (i := 0) (by decide) rfl vc_X12 wx_X12 30 (by decide) wf_X12_65 (a := 19) rfl dX12_tried_165 ?_
            refine x_iload_n C.1 dX12_tried_168 3 rfl ?_
            refine x_bipush C.1 (n := 20) dX12_tried_169 ?_
            refine x_isub C.1 (v := x2 - 20) (by omega) dX12_tried_171 ?_
            obtain ⟨z46, ez46, bz46⟩ := hI45.rd 19 ((x2 - 20).toNat) (x := -2147483648) (y := 2147483647) rfl
            replace hF := hF.to (rdb_e (z := z46) ez46)
            refine x_iald C (N := 33) (i := 19) (q := x2 - 20) (by decide) rfl (by omega) (by decide) dX12_tried_172 (a := z46) ez46 ?_
            refine x_istore C.1 (lv' := [(4, vI z46), (3, vI 1), (0, .ref (ad 0)), (1, vI x1), (2, vI x2)]) dX12_tried_173 (by decide) rfl ?_
            refine x_aload_n C.1 dX12_tried_175 2 rfl ?_
            refine x_getA C (N := 33) (i := 0) (by decide) rfl vc_X12 wx_X12 1 (by decide) wf_X12_13 (a := 2) rfl dX12_tried_176 ?_
            refine x_aload_n C.1 dX12_tried_179 2 rfl ?_
            refine x_getA C (N := 33) (i := 0) (by decide) rfl vc_X12 wx_X12 0 (by decide) wf_X12_7 (a := 1) rfl dX12_tried_180 ?_
            refine x_callSv C (As := [.ref (ad 2), .ref (ad 1)]) (rest := []) (c_copies l D cy ad V45 J Rr hI45.vr hJ 2 1 (by decide) (by decide) rfl rfl (by decide)) (l1 := []) (l2 := []) (List.append_nil _).symm (w2 := fun u : xS => MW cy ad u.1 u.2.1 u.2.2) (fun _ => List.append_nil _) rfl wm_yX12_copies wn_X12 wl_X12_294 wi_yX12_copies hd_yX12_copies rfl ⟨Nat.le_of_ble_eq_true rfl, Nat.le_of_ble_eq_true rfl⟩ (Nat.le_of_ble_eq_true rfl) ⟨Nat.le_of_ble_eq_true rfl, Nat.le_of_ble_eq_true rfl⟩ dX12_tried_183 (fun u47 h47 => ?_)
            subst h47
            dsimp only
            refine x_gV ?_
            intro V47 hV47
            have hI47 : MI G V47 := MI.cp hI45 hV47 (by decide) (by decide)
            have hB47 := hB45.cp hV47 (fun _ => by rw [mkey_r (by decide)]; rfl)
            replace hF := hF.to (rdb_e (z := V47) hV47.symm)
            refine x_iload C.1 dX12_tried_186 0 rfl ?_
            exact x_iret (S := (Nat → Nat → Int)) (post := (fun a (u : Nat → Nat → Int) => MI G u ∧ FBm 16925072155069251642720256 V u ∧ (f_m_tried x1 x2 V J Rr) (a, u))) (w1 := (fun u : Nat → Nat → Int => MW cy ad u J Rr)) (a := z46) C hr rfl dX12_tried_188 (by omega) V47 rfl ⟨hI47, hB47, hF _ rfl⟩
    · replace hF := hF.to (if_neg hc28)
      have hon48 := Sq.on hx27_0 (by omega)
      refine x_aload_n C.1 dX12_tried_20 0 rfl ?_
      refine x_iload_n C.1 dX12_tried_21 2 rfl ?_
      refine x_bipush C.1 (n := 10) dX12_tried_22 ?_
      refine x_isub C.1 (v := x2 - 10) (by omega) dX12_tried_24 ?_
      refine x_callVi C (As := [vI (x2 - 10)]) (rest := []) 0 (xw_at (N := 33) (i := 0) (by decide) rfl) vc_X12 (m_isPlant l D cy ad G V J Rr hI hJ hR (x2 - 10) ⟨by omega, by omega⟩) (l1 := []) (l2 := []) (List.append_nil _).symm (w2 := fun _ => MW cy ad V J Rr) (fun _ => List.append_nil _) rfl wm_yX12_isPlant wn_X12 wl_X12_122 wi_yX12_isPlant we_yX12_isPlant hd_yX12_isPlant rfl ⟨Nat.le_of_ble_eq_true rfl, Nat.le_of_ble_eq_true rfl⟩ (Nat.le_of_ble_eq_true rfl) ⟨Nat.le_of_ble_eq_true rfl, Nat.le_of_ble_eq_true rfl⟩ dX12_tried_25 (fun z49 u49 bz49 h49 => ?_)
      obtain ⟨hon49, hFc49⟩ := h49
      replace hF := calR_i hF hFc49
      replace hF := hF.fc hon49.r
      have bq49 := Sp.r hon49
      refine x_if_ne C.1 (tgt := 53) dX12_tried_28 (by decide) (by omega) (fun hc50 => ?_) (fun hc50 => ?_)
      · replace hF := hF.to (if_pos hc50)
        have hon51 := Sp.on hon49 (by omega)
        refine x_iconst C.1 (n := 1) dX12_tried_53 ?_
        refine x_goto C.1 (tgt := 58) dX12_tried_54 (by decide) ?_
        refine x_istore_n C.1 (lv' := [(3, vI 1), (0, .ref (ad 0)), (1, vI x1), (2, vI x2)]) dX12_tried_58 (by decide) rfl ?_
        refine x_iload_n C.1 dX12_tried_59 2 rfl ?_
        refine x_iconst C.1 (n := 1) dX12_tried_60 ?_
        refine x_bipush C.1 (n := 60) dX12_tried_61 ?_
        refine x_callSi C (As := [vI x1, vI 1, vI 60]) (rest := []) (m_in l D cy x1 ⟨by omega, by omega⟩ 1 ⟨by decide, by decide⟩ 60 ⟨by decide, by decide⟩) (l1 := []) (l2 := _) rfl (w2 := fun _ => _) (fun _ => rfl) rfl wm_yX12_in wn_X12 wl_X12_126 wi_yX12_in hd_yX12_in rfl ⟨Nat.le_of_ble_eq_true rfl, Nat.le_of_ble_eq_true rfl⟩ (Nat.le_of_ble_eq_true rfl) ⟨Nat.le_of_ble_eq_true rfl, Nat.le_of_ble_eq_true rfl⟩ dX12_tried_63 (fun z52 u52 bz52 h52 => ?_)
        obtain ⟨bq52, hx52_0, hFc52⟩ := h52
        replace hF := calR_i hF hFc52
        replace hF := hF.fc bq52
        refine x_if_eq C.1 (tgt := 73) dX12_tried_66 (by decide) (by omega) (fun hc53 => ?_) (fun hc53 => ?_)
        · replace hF := hF.to (if_pos hc53)
          refine x_iconst C.1 (n := -1) dX12_tried_73 ?_
          exact x_iret (S := (Nat → Nat → Int)) (post := (fun a (u : Nat → Nat → Int) => MI G u ∧ FBm 16925072155069251642720256 V u ∧ (f_m_tried x1 x2 V J Rr) (a, u))) (w1 := (fun u : Nat → Nat → Int => MW cy ad u J Rr)) (a := (-1)) C hr rfl dX12_tried_74 (by decide) V rfl ⟨hI, hB, hF _ rfl⟩
        · replace hF := hF.to (if_neg hc53)
          have hon54 := Sq.on hx52_0 (by omega)
          refine x_iload_n C.1 dX12_tried_69 0 rfl ?_
          refine x_if_ne_t C.1 (tgt := 75) dX12_tried_70 (by decide) (by decide) (by decide) ?_
          refine x_aload_n C.1 dX12_tried_75 1 rfl ?_
          refine x_getA C (N := 33) (i := 0) (by decide) rfl vc_X12 wx_X12 0 (by decide) wf_X12_7 (a := 1) rfl dX12_tried_76 ?_
          refine x_aload_n C.1 dX12_tried_79 1 rfl ?_
          refine x_getA C (N := 33) (i := 0) (by decide) rfl vc_X12 wx_X12 1 (by decide) wf_X12_13 (a := 2) rfl dX12_tried_80 ?_
          refine x_callSv C (As := [.ref (ad 1), .ref (ad 2)]) (rest := []) (c_copies l D cy ad V J Rr hI.vr hJ 1 2 (by decide) (by decide) rfl rfl (by decide)) (l1 := []) (l2 := []) (List.append_nil _).symm (w2 := fun u : xS => MW cy ad u.1 u.2.1 u.2.2) (fun _ => List.append_nil _) rfl wm_yX12_copies wn_X12 wl_X12_294 wi_yX12_copies hd_yX12_copies rfl ⟨Nat.le_of_ble_eq_true rfl, Nat.le_of_ble_eq_true rfl⟩ (Nat.le_of_ble_eq_true rfl) ⟨Nat.le_of_ble_eq_true rfl, Nat.le_of_ble_eq_true rfl⟩ dX12_tried_83 (fun u55 h55 => ?_)
          subst h55
          dsimp only
          refine x_gV ?_
          intro V55 hV55
          have hI55 : MI G V55 := MI.cp hI hV55 (by decide) (by decide)
          have hB55 := hB.cp hV55 (fun _ => by rw [mkey_r (by decide)]; rfl)
          replace hF := hF.to (rdb_e (z := V55) hV55.symm)
          refine x_aload_n C.1 dX12_tried_86 1 rfl ?_
          refine x_iload_n C.1 dX12_tried_87 2 rfl ?_
          refine x_callVv C (As := [vI x1]) (rest := []) 0 (xw_at (N := 33) (i := 0) (by decide) rfl) vc_X12 (m_daysGo l D cy ad G V55 J Rr hI55 hJ hR x1 ⟨by omega, by omega⟩ hW) (l1 := []) (l2 := []) (List.append_nil _).symm (w2 := fun u : Nat → Nat → Int => MW cy ad u J Rr) (fun _ => List.append_nil _) rfl wm_yX12_daysGo wn_X12 wl_X12_291 wi_yX12_daysGo we_yX12_daysGo hd_yX12_daysGo rfl ⟨Nat.le_of_ble_eq_true rfl, Nat.le_of_ble_eq_true rfl⟩ (Nat.le_of_ble_eq_true rfl) ⟨Nat.le_of_ble_eq_true rfl, Nat.le_of_ble_eq_true rfl⟩ dX12_tried_88 (fun V56 h56 => ?_)
          obtain ⟨hI56, hBc56, hFc56⟩ := h56
          replace hF := calUM_i hF hFc56 hBc56
          have hB56 := hB55.tr hBc56 (m := 16924998368092956804513792) rfl
          refine x_iload_n C.1 dX12_tried_91 3 rfl ?_
          refine x_if_ne_t C.1 (tgt := 102) dX12_tried_92 (by decide) (by omega) (by omega) ?_
          refine x_iload_n C.1 dX12_tried_102 3 rfl ?_
          refine x_iconst C.1 (n := 1) dX12_tried_103 ?_
          refine x_icmp_ne_t C.1 (tgt := 114) dX12_tried_104 (by decide) (by omega) (by decide) (by omega) ?_
          refine x_iload_n C.1 dX12_tried_114 3 rfl ?_
          refine x_iconst C.1 (n := 2) dX12_tried_115 ?_
          refine x_icmp_ne_t C.1 (tgt := 132) dX12_tried_116 (by decide) (by omega) (by decide) (by omega) ?_
          refine x_iload_n C.1 dX12_tried_132 3 rfl ?_
          refine x_iconst C.1 (n := 3) dX12_tried_133 ?_
          refine x_icmp_ne_t C.1 (tgt := 144) dX12_tried_134 (by decide) (by omega) (by decide) (by omega) ?_
          refine x_iload_n C.1 dX12_tried_144 3 rfl ?_
          refine x_bipush C.1 (n := 20) dX12_tried_145 ?_
          refine x_icmp_ge_f C.1 (tgt := 164) dX12_tried_147 (by decide) (by omega) (by decide) (by omega) ?_
          refine x_aload_n C.1 dX12_tried_150 1 rfl ?_
          refine x_getA C (N := 33) (i := 0) (by decide) rfl vc_X12 wx_X12 0 (by decide) wf_X12_7 (a := 1) rfl dX12_tried_151 ?_
          refine x_iconst C.1 (n := 4) dX12_tried_154 ?_
          refine x_iload_n C.1 dX12_tried_155 3 rfl ?_
          refine x_iadd C.1 (v := x2 + 4) (by omega) dX12_tried_156 ?_
          refine x_bipush C.1 (n := 10) dX12_tried_157 ?_
          refine x_isub C.1 (v := x2 - 6) (by omega) dX12_tried_159 ?_
          obtain ⟨z57, ez57, bz57⟩ := hI56.rd 1 ((x2 - 6).toNat) (x := 0) (y := 24) (rgN_8 (Or.inl rfl) (by omega))
          replace hF := hF.to (rdb_e (z := z57) ez57)
          replace hF := hF.fc bz57
          refine x_iald C (N := 33) (i := 1) (q := x2 - 6) (by decide) rfl (by omega) (by decide) dX12_tried_160 (a := z57) ez57 ?_
          refine x_goto C.1 (tgt := 173) dX12_tried_161 (by decide) ?_
          refine x_istore C.1 (lv' := [(4, vI z57), (3, vI 1), (0, .ref (ad 0)), (1, vI x1), (2, vI x2)]) dX12_tried_173 (by decide) rfl ?_
          refine x_aload_n C.1 dX12_tried_175 2 rfl ?_
          refine x_getA C (N := 33) (i := 0) (by decide) rfl vc_X12 wx_X12 1 (by decide) wf_X12_13 (a := 2) rfl dX12_tried_176 ?_
          refine x_aload_n C.1 dX12_tried_179 2 rfl ?_
          refine x_getA C (N := 33) (i := 0) (by decide) rfl vc_X12 wx_X12 0 (by decide) wf_X12_7 (a := 1) rfl dX12_tried_180 ?_
          refine x_callSv C (As := [.ref (ad 2), .ref (ad 1)]) (rest := []) (c_copies l D cy ad V56 J Rr hI56.vr hJ 2 1 (by decide) (by decide) rfl rfl (by decide)) (l1 := []) (l2 := []) (List.append_nil _).symm (w2 := fun u : xS => MW cy ad u.1 u.2.1 u.2.2) (fun _ => List.append_nil _) rfl wm_yX12_copies wn_X12 wl_X12_294 wi_yX12_copies hd_yX12_copies rfl ⟨Nat.le_of_ble_eq_true rfl, Nat.le_of_ble_eq_true rfl⟩ (Nat.le_of_ble_eq_true rfl) ⟨Nat.le_of_ble_eq_true rfl, Nat.le_of_ble_eq_true rfl⟩ dX12_tried_183 (fun u58 h58 => ?_)
          subst h58
          dsimp only
          refine x_gV ?_
          intro V58 hV58
          have hI58 : MI G V58 := MI.cp hI56 hV58 (by decide) (by decide)
          have hB58 := hB56.cp hV58 (fun _ => by rw [mkey_r (by decide)]; rfl)
          replace hF := hF.to (rdb_e (z := V58) hV58.symm)
          refine x_iload C.1 dX12_tried_186 0 rfl ?_
          exact x_iret (S := (Nat → Nat → Int)) (post := (fun a (u : Nat → Nat → Int) => MI G u ∧ FBm 16925072155069251642720256 V u ∧ (f_m_tried x1 x2 V J Rr) (a, u))) (w1 := (fun u : Nat → Nat → Int => MW cy ad u J Rr)) (a := z57) C hr rfl dX12_tried_188 (by omega) V58 rfl ⟨hI58, hB58, hF _ rfl⟩
      · replace hF := hF.to (if_neg (fun hh => hh hc50))
        refine x_iload_n C.1 dX12_tried_31 2 rfl ?_
        refine x_bipush C.1 (n := 20) dX12_tried_32 ?_
        refine x_bipush C.1 (n := 27) dX12_tried_34 ?_
        refine x_callSi C (As := [vI x2, vI 20, vI 27]) (rest := []) (m_in l D cy x2 ⟨by omega, by omega⟩ 20 ⟨by decide, by decide⟩ 27 ⟨by decide, by decide⟩) (l1 := []) (l2 := _) rfl (w2 := fun _ => _) (fun _ => rfl) rfl wm_yX12_in wn_X12 wl_X12_126 wi_yX12_in hd_yX12_in rfl ⟨Nat.le_of_ble_eq_true rfl, Nat.le_of_ble_eq_true rfl⟩ (Nat.le_of_ble_eq_true rfl) ⟨Nat.le_of_ble_eq_true rfl, Nat.le_of_ble_eq_true rfl⟩ dX12_tried_36 (fun z59 u59 bz59 h59 => ?_)
        obtain ⟨bq59, hx59_0, hFc59⟩ := h59
        replace hF := calR_i hF hFc59
        replace hF := hF.fc bq59
        refine x_if_eq C.1 (tgt := 57) dX12_tried_39 (by decide) (by omega) (fun hc60 => ?_) (fun hc60 => ?_)
        · replace hF := hF.to (if_pos hc60)
          refine x_iconst C.1 (n := 0) dX12_tried_57 ?_
          refine x_istore_n C.1 (lv' := [(3, vI 0), (0, .ref (ad 0)), (1, vI x1), (2, vI x2)]) dX12_tried_58 (by decide) rfl ?_
          refine x_iload_n C.1 dX12_tried_59 2 rfl ?_
          refine x_iconst C.1 (n := 1) dX12_tried_60 ?_
          refine x_bipush C.1 (n := 60) dX12_tried_61 ?_
          refine x_callSi C (As := [vI x1, vI 1, vI 60]) (rest := []) (m_in l D cy x1 ⟨by omega, by omega⟩ 1 ⟨by decide, by decide⟩ 60 ⟨by decide, by decide⟩) (l1 := []) (l2 := _) rfl (w2 := fun _ => _) (fun _ => rfl) rfl wm_yX12_in wn_X12 wl_X12_126 wi_yX12_in hd_yX12_in rfl ⟨Nat.le_of_ble_eq_true rfl, Nat.le_of_ble_eq_true rfl⟩ (Nat.le_of_ble_eq_true rfl) ⟨Nat.le_of_ble_eq_true rfl, Nat.le_of_ble_eq_true rfl⟩ dX12_tried_63 (fun z61 u61 bz61 h61 => ?_)
          obtain ⟨bq61, hx61_0, hFc61⟩ := h61
          replace hF := calR_i hF hFc61
          replace hF := hF.fc bq61
          refine x_if_eq C.1 (tgt := 73) dX12_tried_66 (by decide) (by omega) (fun hc62 => ?_) (fun hc62 => ?_)
          · replace hF := hF.to (if_pos hc62)
            refine x_iconst C.1 (n := -1) dX12_tried_73 ?_
            exact x_iret (S := (Nat → Nat → Int)) (post := (fun a (u : Nat → Nat → Int) => MI G u ∧ FBm 16925072155069251642720256 V u ∧ (f_m_tried x1 x2 V J Rr) (a, u))) (w1 := (fun u : Nat → Nat → Int => MW cy ad u J Rr)) (a := (-1)) C hr rfl dX12_tried_74 (by decide) V rfl ⟨hI, hB, hF _ rfl⟩
          · replace hF := hF.to (if_neg hc62)
            have hon63 := Sq.on hx61_0 (by omega)
            refine x_iload_n C.1 dX12_tried_69 0 rfl ?_
            refine x_if_ne_f C.1 (tgt := 75) dX12_tried_70 (by decide) (by decide) (by decide) ?_
            refine x_iconst C.1 (n := -1) dX12_tried_73 ?_
            exact x_iret (S := (Nat → Nat → Int)) (post := (fun a (u : Nat → Nat → Int) => MI G u ∧ FBm 16925072155069251642720256 V u ∧ (f_m_tried x1 x2 V J Rr) (a, u))) (w1 := (fun u : Nat → Nat → Int => MW cy ad u J Rr)) (a := (-1)) C hr rfl dX12_tried_74 (by decide) V rfl ⟨hI, hB, hF _ rfl⟩
        · replace hF := hF.to (if_neg hc60)
          have hon64 := Sq.on hx59_0 (by omega)
          refine x_aload_n C.1 dX12_tried_42 0 rfl ?_
          refine x_iload_n C.1 dX12_tried_43 2 rfl ?_
          refine x_bipush C.1 (n := 20) dX12_tried_44 ?_
          refine x_isub C.1 (v := x2 - 20) (by omega) dX12_tried_46 ?_
          refine x_callVi C (As := [vI (x2 - 20)]) (rest := []) 0 (xw_at (N := 33) (i := 0) (by decide) rfl) vc_X12 (m_isPerson l D cy ad G V J Rr hI hJ hR (x2 - 20) ⟨by omega, by omega⟩) (l1 := []) (l2 := []) (List.append_nil _).symm (w2 := fun _ => MW cy ad V J Rr) (fun _ => List.append_nil _) rfl wm_yX12_isPerson wn_X12 wl_X12_259 wi_yX12_isPerson we_yX12_isPerson hd_yX12_isPerson rfl ⟨Nat.le_of_ble_eq_true rfl, Nat.le_of_ble_eq_true rfl⟩ (Nat.le_of_ble_eq_true rfl) ⟨Nat.le_of_ble_eq_true rfl, Nat.le_of_ble_eq_true rfl⟩ dX12_tried_47 (fun z65 u65 bz65 h65 => ?_)
          obtain ⟨hon65, hFc65⟩ := h65
          replace hF := calR_i hF hFc65
          replace hF := hF.fc hon65.r
          have bq65 := Sp.r hon65
          refine x_if_eq C.1 (tgt := 57) dX12_tried_50 (by decide) (by omega) (fun hc66 => ?_) (fun hc66 => ?_)
          · replace hF := hF.to (if_pos hc66)
            refine x_iconst C.1 (n := 0) dX12_tried_57 ?_
            refine x_istore_n C.1 (lv' := [(3, vI 0), (0, .ref (ad 0)), (1, vI x1), (2, vI x2)]) dX12_tried_58 (by decide) rfl ?_
            refine x_iload_n C.1 dX12_tried_59 2 rfl ?_
            refine x_iconst C.1 (n := 1) dX12_tried_60 ?_
            refine x_bipush C.1 (n := 60) dX12_tried_61 ?_
            refine x_callSi C (As := [vI x1, vI 1, vI 60]) (rest := []) (m_in l D cy x1 ⟨by omega, by omega⟩ 1 ⟨by decide, by decide⟩ 60 ⟨by decide, by decide⟩) (l1 := []) (l2 := _) rfl (w2 := fun _ => _) (fun _ => rfl) rfl wm_yX12_in wn_X12 wl_X12_126 wi_yX12_in hd_yX12_in rfl ⟨Nat.le_of_ble_eq_true rfl, Nat.le_of_ble_eq_true rfl⟩ (Nat.le_of_ble_eq_true rfl) ⟨Nat.le_of_ble_eq_true rfl, Nat.le_of_ble_eq_true rfl⟩ dX12_tried_63 (fun z67 u67 bz67 h67 => ?_)
            obtain ⟨bq67, hx67_0, hFc67⟩ := h67
            replace hF := calR_i hF hFc67
            replace hF := hF.fc bq67
            refine x_if_eq C.1 (tgt := 73) dX12_tried_66 (by decide) (by omega) (fun hc68 => ?_) (fun hc68 => ?_)
            · replace hF := hF.to (if_pos hc68)
              refine x_iconst C.1 (n := -1) dX12_tried_73 ?_
              exact x_iret (S := (Nat → Nat → Int)) (post := (fun a (u : Nat → Nat → Int) => MI G u ∧ FBm 16925072155069251642720256 V u ∧ (f_m_tried x1 x2 V J Rr) (a, u))) (w1 := (fun u : Nat → Nat → Int => MW cy ad u J Rr)) (a := (-1)) C hr rfl dX12_tried_74 (by decide) V rfl ⟨hI, hB, hF _ rfl⟩
            · replace hF := hF.to (if_neg hc68)
              have hon69 := Sq.on hx67_0 (by omega)
              refine x_iload_n C.1 dX12_tried_69 0 rfl ?_
              refine x_if_ne_f C.1 (tgt := 75) dX12_tried_70 (by decide) (by decide) (by decide) ?_
              refine x_iconst C.1 (n := -1) dX12_tried_73 ?_
              exact x_iret (S := (Nat → Nat → Int)) (post := (fun a (u : Nat → Nat → Int) => MI G u ∧ FBm 16925072155069251642720256 V u ∧ (f_m_tried x1 x2 V J Rr) (a, u))) (w1 := (fun u : Nat → Nat → Int => MW cy ad u J Rr)) (a := (-1)) C hr rfl dX12_tried_74 (by decide) V rfl ⟨hI, hB, hF _ rfl⟩
          · replace hF := hF.to (if_neg hc66)
            have hon70 := Sp.on hon65 (by omega)
            refine x_iconst C.1 (n := 1) dX12_tried_53 ?_
            refine x_goto C.1 (tgt := 58) dX12_tried_54 (by decide) ?_
            refine x_istore_n C.1 (lv' := [(3, vI 1), (0, .ref (ad 0)), (1, vI x1), (2, vI x2)]) dX12_tried_58 (by decide) rfl ?_
            refine x_iload_n C.1 dX12_tried_59 2 rfl ?_
            refine x_iconst C.1 (n := 1) dX12_tried_60 ?_
            refine x_bipush C.1 (n := 60) dX12_tried_61 ?_
            refine x_callSi C (As := [vI x1, vI 1, vI 60]) (rest := []) (m_in l D cy x1 ⟨by omega, by omega⟩ 1 ⟨by decide, by decide⟩ 60 ⟨by decide, by decide⟩) (l1 := []) (l2 := _) rfl (w2 := fun _ => _) (fun _ => rfl) rfl wm_yX12_in wn_X12 wl_X12_126 wi_yX12_in hd_yX12_in rfl ⟨Nat.le_of_ble_eq_true rfl, Nat.le_of_ble_eq_true rfl⟩ (Nat.le_of_ble_eq_true rfl) ⟨Nat.le_of_ble_eq_true rfl, Nat.le_of_ble_eq_true rfl⟩ dX12_tried_63 (fun z71 u71 bz71 h71 => ?_)
            obtain ⟨bq71, hx71_0, hFc71⟩ := h71
            replace hF := calR_i hF hFc71
            replace hF := hF.fc bq71
            refine x_if_eq C.1 (tgt := 73) dX12_tried_66 (by decide) (by omega) (fun hc72 => ?_) (fun hc72 => ?_)
            · replace hF := hF.to (if_pos hc72)
              refine x_iconst C.1 (n := -1) dX12_tried_73 ?_
              exact x_iret (S := (Nat → Nat → Int)) (post := (fun a (u : Nat → Nat → Int) => MI G u ∧ FBm 16925072155069251642720256 V u ∧ (f_m_tried x1 x2 V J Rr) (a, u))) (w1 := (fun u : Nat → Nat → Int => MW cy ad u J Rr)) (a := (-1)) C hr rfl dX12_tried_74 (by decide) V rfl ⟨hI, hB, hF _ rfl⟩
            · replace hF := hF.to (if_neg hc72)
              have hon73 := Sq.on hx71_0 (by omega)
              refine x_iload_n C.1 dX12_tried_69 0 rfl ?_
              refine x_if_ne_t C.1 (tgt := 75) dX12_tried_70 (by decide) (by decide) (by decide) ?_
              refine x_aload_n C.1 dX12_tried_75 1 rfl ?_
              refine x_getA C (N := 33) (i := 0) (by decide) rfl vc_X12 wx_X12 0 (by decide) wf_X12_7 (a := 1) rfl dX12_tried_76 ?_
              refine x_aload_n C.1 dX12_tried_79 1 rfl ?_
              refine x_getA C (N := 33) (i := 0) (by decide) rfl vc_X12 wx_X12 1 (by decide) wf_X12_13 (a := 2) rfl dX12_tried_80 ?_
              refine x_callSv C (As := [.ref (ad 1), .ref (ad 2)]) (rest := []) (c_copies l D cy ad V J Rr hI.vr hJ 1 2 (by decide) (by decide) rfl rfl (by decide)) (l1 := []) (l2 := []) (List.append_nil _).symm (w2 := fun u : xS => MW cy ad u.1 u.2.1 u.2.2) (fun _ => List.append_nil _) rfl wm_yX12_copies wn_X12 wl_X12_294 wi_yX12_copies hd_yX12_copies rfl ⟨Nat.le_of_ble_eq_true rfl, Nat.le_of_ble_eq_true rfl⟩ (Nat.le_of_ble_eq_true rfl) ⟨Nat.le_of_ble_eq_true rfl, Nat.le_of_ble_eq_true rfl⟩ dX12_tried_83 (fun u74 h74 => ?_)
              subst h74
              dsimp only
              refine x_gV ?_
              intro V74 hV74
              have hI74 : MI G V74 := MI.cp hI hV74 (by decide) (by decide)
              have hB74 := hB.cp hV74 (fun _ => by rw [mkey_r (by decide)]; rfl)
              replace hF := hF.to (rdb_e (z := V74) hV74.symm)
              refine x_aload_n C.1 dX12_tried_86 1 rfl ?_
              refine x_iload_n C.1 dX12_tried_87 2 rfl ?_
              refine x_callVv C (As := [vI x1]) (rest := []) 0 (xw_at (N := 33) (i := 0) (by decide) rfl) vc_X12 (m_daysGo l D cy ad G V74 J Rr hI74 hJ hR x1 ⟨by omega, by omega⟩ hW) (l1 := []) (l2 := []) (List.append_nil _).symm (w2 := fun u : Nat → Nat → Int => MW cy ad u J Rr) (fun _ => List.append_nil _) rfl wm_yX12_daysGo wn_X12 wl_X12_291 wi_yX12_daysGo we_yX12_daysGo hd_yX12_daysGo rfl ⟨Nat.le_of_ble_eq_true rfl, Nat.le_of_ble_eq_true rfl⟩ (Nat.le_of_ble_eq_true rfl) ⟨Nat.le_of_ble_eq_true rfl, Nat.le_of_ble_eq_true rfl⟩ dX12_tried_88 (fun V75 h75 => ?_)
              obtain ⟨hI75, hBc75, hFc75⟩ := h75
              replace hF := calUM_i hF hFc75 hBc75
              have hB75 := hB74.tr hBc75 (m := 16924998368092956804513792) rfl
              refine x_iload_n C.1 dX12_tried_91 3 rfl ?_
              refine x_if_ne_t C.1 (tgt := 102) dX12_tried_92 (by decide) (by omega) (by omega) ?_
              refine x_iload_n C.1 dX12_tried_102 3 rfl ?_
              refine x_iconst C.1 (n := 1) dX12_tried_103 ?_
              refine x_icmp_ne_t C.1 (tgt := 114) dX12_tried_104 (by decide) (by omega) (by decide) (by omega) ?_
              refine x_iload_n C.1 dX12_tried_114 3 rfl ?_
              refine x_iconst C.1 (n := 2) dX12_tried_115 ?_
              refine x_icmp_ne_t C.1 (tgt := 132) dX12_tried_116 (by decide) (by omega) (by decide) (by omega) ?_
              refine x_iload_n C.1 dX12_tried_132 3 rfl ?_
              refine x_iconst C.1 (n := 3) dX12_tried_133 ?_
              refine x_icmp_ne_t C.1 (tgt := 144) dX12_tried_134 (by decide) (by omega) (by decide) (by omega) ?_
              refine x_iload_n C.1 dX12_tried_144 3 rfl ?_
              refine x_bipush C.1 (n := 20) dX12_tried_145 ?_
              refine x_icmp_ge_f C.1 (tgt := 164) dX12_tried_147 (by decide) (by omega) (by decide) (by omega) ?_
              refine x_aload_n C.1 dX12_tried_150 1 rfl ?_
              refine x_getA C (N := 33) (i := 0) (by decide) rfl vc_X12 wx_X12 0 (by decide) wf_X12_7 (a := 1) rfl dX12_tried_151 ?_
              refine x_iconst C.1 (n := 4) dX12_tried_154 ?_
              refine x_iload_n C.1 dX12_tried_155 3 rfl ?_
              refine x_iadd C.1 (v := x2 + 4) (by omega) dX12_tried_156 ?_
              refine x_bipush C.1 (n := 10) dX12_tried_157 ?_
              refine x_isub C.1 (v := x2 - 6) (by omega) dX12_tried_159 ?_
              obtain ⟨z76, ez76, bz76⟩ := hI75.rd 1 ((x2 - 6).toNat) (x := 0) (y := 24) (rgN_8 (Or.inl rfl) (by omega))
              replace hF := hF.to (rdb_e (z := z76) ez76)
              replace hF := hF.fc bz76
              refine x_iald C (N := 33) (i := 1) (q := x2 - 6) (by decide) rfl (by omega) (by decide) dX12_tried_160 (a := z76) ez76 ?_
              refine x_goto C.1 (tgt := 173) dX12_tried_161 (by decide) ?_
              refine x_istore C.1 (lv' := [(4, vI z76), (3, vI 1), (0, .ref (ad 0)), (1, vI x1), (2, vI x2)]) dX12_tried_173 (by decide) rfl ?_
              refine x_aload_n C.1 dX12_tried_175 2 rfl ?_
              refine x_getA C (N := 33) (i := 0) (by decide) rfl vc_X12 wx_X12 1 (by decide) wf_X12_13 (a := 2) rfl dX12_tried_176 ?_
              refine x_aload_n C.1 dX12_tried_179 2 rfl ?_
              refine x_getA C (N := 33) (i := 0) (by decide) rfl vc_X12 wx_X12 0 (by decide) wf_X12_7 (a := 1) rfl dX12_tried_180 ?_
              refine x_callSv C (As := [.ref (ad 2), .ref (ad 1)]) (rest := []) (c_copies l D cy ad V75 J Rr hI75.vr hJ 2 1 (by decide) (by decide) rfl rfl (by decide)) (l1 := []) (l2 := []) (List.append_nil _).symm (w2 := fun u : xS => MW cy ad u.1 u.2.1 u.2.2) (fun _ => List.append_nil _) rfl wm_yX12_copies wn_X12 wl_X12_294 wi_yX12_copies hd_yX12_copies rfl ⟨Nat.le_of_ble_eq_true rfl, Nat.le_of_ble_eq_true rfl⟩ (Nat.le_of_ble_eq_true rfl) ⟨Nat.le_of_ble_eq_true rfl, Nat.le_of_ble_eq_true rfl⟩ dX12_tried_183 (fun u77 h77 => ?_)
              subst h77
              dsimp only
              refine x_gV ?_
              intro V77 hV77
              have hI77 : MI G V77 := MI.cp hI75 hV77 (by decide) (by decide)
              have hB77 := hB75.cp hV77 (fun _ => by rw [mkey_r (by decide)]; rfl)
              replace hF := hF.to (rdb_e (z := V77) hV77.symm)
              refine x_iload C.1 dX12_tried_186 0 rfl ?_
              exact x_iret (S := (Nat → Nat → Int)) (post := (fun a (u : Nat → Nat → Int) => MI G u ∧ FBm 16925072155069251642720256 V u ∧ (f_m_tried x1 x2 V J Rr) (a, u))) (w1 := (fun u : Nat → Nat → Int => MW cy ad u J Rr)) (a := z76) C hr rfl dX12_tried_188 (by omega) V77 rfl ⟨hI77, hB77, hF _ rfl⟩
