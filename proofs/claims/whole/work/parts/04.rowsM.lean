theorem dX7_init_0 : decode cX7_init 0 = .ok (.aload_n 0, 1) := by decide +kernel
theorem dX7_init_1 : decode cX7_init 1 = .ok (.invokespecial 1, 3) := by decide +kernel
theorem dX7_init_4 : decode cX7_init 4 = .ok (.aload_n 0, 1) := by decide +kernel
theorem dX7_init_5 : decode cX7_init 5 = .ok (.sipush 160, 3) := by decide +kernel
theorem dX7_init_8 : decode cX7_init 8 = .ok (.newarray .int, 2) := by decide +kernel
theorem dX7_init_10 : decode cX7_init 10 = .ok (.putfield 7, 3) := by decide +kernel
theorem dX7_init_13 : decode cX7_init 13 = .ok (.aload_n 0, 1) := by decide +kernel
theorem dX7_init_14 : decode cX7_init 14 = .ok (.sipush 960, 3) := by decide +kernel
theorem dX7_init_17 : decode cX7_init 17 = .ok (.newarray .int, 2) := by decide +kernel
theorem dX7_init_19 : decode cX7_init 19 = .ok (.putfield 13, 3) := by decide +kernel
theorem dX7_init_22 : decode cX7_init 22 = .ok (.aload_n 0, 1) := by decide +kernel
theorem dX7_init_23 : decode cX7_init 23 = .ok (.iconst 3, 1) := by decide +kernel
theorem dX7_init_24 : decode cX7_init 24 = .ok (.newarray .int, 2) := by decide +kernel
theorem dX7_init_26 : decode cX7_init 26 = .ok (.putfield 16, 3) := by decide +kernel
theorem dX7_init_29 : decode cX7_init 29 = .ok (.aload_n 0, 1) := by decide +kernel
theorem dX7_init_30 : decode cX7_init 30 = .ok (.iconst 3, 1) := by decide +kernel
theorem dX7_init_31 : decode cX7_init 31 = .ok (.newarray .int, 2) := by decide +kernel
theorem dX7_init_33 : decode cX7_init 33 = .ok (.putfield 19, 3) := by decide +kernel
theorem dX7_init_36 : decode cX7_init 36 = .ok (.aload_n 0, 1) := by decide +kernel
theorem dX7_init_37 : decode cX7_init 37 = .ok (.bipush 10, 2) := by decide +kernel
theorem dX7_init_39 : decode cX7_init 39 = .ok (.newarray .boolean, 2) := by decide +kernel
theorem dX7_init_41 : decode cX7_init 41 = .ok (.putfield 22, 3) := by decide +kernel
theorem dX7_init_44 : decode cX7_init 44 = .ok (.aload_n 0, 1) := by decide +kernel
theorem dX7_init_45 : decode cX7_init 45 = .ok (.bipush 10, 2) := by decide +kernel
theorem dX7_init_47 : decode cX7_init 47 = .ok (.newarray .boolean, 2) := by decide +kernel
theorem dX7_init_49 : decode cX7_init 49 = .ok (.putfield 26, 3) := by decide +kernel
theorem dX7_init_52 : decode cX7_init 52 = .ok (.aload_n 0, 1) := by decide +kernel
theorem dX7_init_53 : decode cX7_init 53 = .ok (.bipush 10, 2) := by decide +kernel
theorem dX7_init_55 : decode cX7_init 55 = .ok (.newarray .int, 2) := by decide +kernel
theorem dX7_init_57 : decode cX7_init 57 = .ok (.putfield 29, 3) := by decide +kernel
theorem dX7_init_60 : decode cX7_init 60 = .ok (.aload_n 0, 1) := by decide +kernel
theorem dX7_init_61 : decode cX7_init 61 = .ok (.bipush 10, 2) := by decide +kernel
theorem dX7_init_63 : decode cX7_init 63 = .ok (.newarray .int, 2) := by decide +kernel
theorem dX7_init_65 : decode cX7_init 65 = .ok (.putfield 32, 3) := by decide +kernel
theorem dX7_init_68 : decode cX7_init 68 = .ok (.aload_n 0, 1) := by decide +kernel
theorem dX7_init_69 : decode cX7_init 69 = .ok (.bipush 10, 2) := by decide +kernel
theorem dX7_init_71 : decode cX7_init 71 = .ok (.newarray .int, 2) := by decide +kernel
theorem dX7_init_73 : decode cX7_init 73 = .ok (.putfield 35, 3) := by decide +kernel
theorem dX7_init_76 : decode cX7_init 76 = .ok (.aload_n 0, 1) := by decide +kernel
theorem dX7_init_77 : decode cX7_init 77 = .ok (.bipush 10, 2) := by decide +kernel
theorem dX7_init_79 : decode cX7_init 79 = .ok (.newarray .int, 2) := by decide +kernel
theorem dX7_init_81 : decode cX7_init 81 = .ok (.putfield 38, 3) := by decide +kernel
theorem dX7_init_84 : decode cX7_init 84 = .ok (.aload_n 0, 1) := by decide +kernel
theorem dX7_init_85 : decode cX7_init 85 = .ok (.iconst 3, 1) := by decide +kernel
theorem dX7_init_86 : decode cX7_init 86 = .ok (.newarray .boolean, 2) := by decide +kernel
theorem dX7_init_88 : decode cX7_init 88 = .ok (.putfield 41, 3) := by decide +kernel
theorem dX7_init_91 : decode cX7_init 91 = .ok (.aload_n 0, 1) := by decide +kernel
theorem dX7_init_92 : decode cX7_init 92 = .ok (.bipush 30, 2) := by decide +kernel
theorem dX7_init_94 : decode cX7_init 94 = .ok (.newarray .int, 2) := by decide +kernel
theorem dX7_init_96 : decode cX7_init 96 = .ok (.putfield 44, 3) := by decide +kernel
theorem dX7_init_99 : decode cX7_init 99 = .ok (.aload_n 0, 1) := by decide +kernel
theorem dX7_init_100 : decode cX7_init 100 = .ok (.iconst 4, 1) := by decide +kernel
theorem dX7_init_101 : decode cX7_init 101 = .ok (.newarray .int, 2) := by decide +kernel
theorem dX7_init_103 : decode cX7_init 103 = .ok (.putfield 47, 3) := by decide +kernel
theorem dX7_init_106 : decode cX7_init 106 = .ok (.aload_n 0, 1) := by decide +kernel
theorem dX7_init_107 : decode cX7_init 107 = .ok (.bipush 10, 2) := by decide +kernel
theorem dX7_init_109 : decode cX7_init 109 = .ok (.newarray .int, 2) := by decide +kernel
theorem dX7_init_111 : decode cX7_init 111 = .ok (.putfield 50, 3) := by decide +kernel
theorem dX7_init_114 : decode cX7_init 114 = .ok (.aload_n 0, 1) := by decide +kernel
theorem dX7_init_115 : decode cX7_init 115 = .ok (.bipush 10, 2) := by decide +kernel
theorem dX7_init_117 : decode cX7_init 117 = .ok (.newarray .int, 2) := by decide +kernel
theorem dX7_init_119 : decode cX7_init 119 = .ok (.putfield 53, 3) := by decide +kernel
theorem dX7_init_122 : decode cX7_init 122 = .ok (.aload_n 0, 1) := by decide +kernel
theorem dX7_init_123 : decode cX7_init 123 = .ok (.bipush 10, 2) := by decide +kernel
theorem dX7_init_125 : decode cX7_init 125 = .ok (.newarray .boolean, 2) := by decide +kernel
theorem dX7_init_127 : decode cX7_init 127 = .ok (.putfield 56, 3) := by decide +kernel
theorem dX7_init_130 : decode cX7_init 130 = .ok (.aload_n 0, 1) := by decide +kernel
theorem dX7_init_131 : decode cX7_init 131 = .ok (.bipush 10, 2) := by decide +kernel
theorem dX7_init_133 : decode cX7_init 133 = .ok (.newarray .boolean, 2) := by decide +kernel
theorem dX7_init_135 : decode cX7_init 135 = .ok (.putfield 59, 3) := by decide +kernel
theorem dX7_init_138 : decode cX7_init 138 = .ok (.aload_n 0, 1) := by decide +kernel
theorem dX7_init_139 : decode cX7_init 139 = .ok (.bipush 10, 2) := by decide +kernel
theorem dX7_init_141 : decode cX7_init 141 = .ok (.newarray .boolean, 2) := by decide +kernel
theorem dX7_init_143 : decode cX7_init 143 = .ok (.putfield 62, 3) := by decide +kernel
theorem dX7_init_146 : decode cX7_init 146 = .ok (.aload_n 0, 1) := by decide +kernel
theorem dX7_init_147 : decode cX7_init 147 = .ok (.bipush 10, 2) := by decide +kernel
theorem dX7_init_149 : decode cX7_init 149 = .ok (.newarray .int, 2) := by decide +kernel
theorem dX7_init_151 : decode cX7_init 151 = .ok (.putfield 65, 3) := by decide +kernel
theorem dX7_init_154 : decode cX7_init 154 = .ok (.aload_n 0, 1) := by decide +kernel
theorem dX7_init_155 : decode cX7_init 155 = .ok (.bipush 10, 2) := by decide +kernel
theorem dX7_init_157 : decode cX7_init 157 = .ok (.newarray .int, 2) := by decide +kernel
theorem dX7_init_159 : decode cX7_init 159 = .ok (.putfield 68, 3) := by decide +kernel
theorem dX7_init_162 : decode cX7_init 162 = .ok (.aload_n 0, 1) := by decide +kernel
theorem dX7_init_163 : decode cX7_init 163 = .ok (.iconst 3, 1) := by decide +kernel
theorem dX7_init_164 : decode cX7_init 164 = .ok (.newarray .int, 2) := by decide +kernel
theorem dX7_init_166 : decode cX7_init 166 = .ok (.putfield 71, 3) := by decide +kernel
theorem dX7_init_169 : decode cX7_init 169 = .ok (.aload_n 0, 1) := by decide +kernel
theorem dX7_init_170 : decode cX7_init 170 = .ok (.iconst 3, 1) := by decide +kernel
theorem dX7_init_171 : decode cX7_init 171 = .ok (.newarray .boolean, 2) := by decide +kernel
theorem dX7_init_173 : decode cX7_init 173 = .ok (.putfield 74, 3) := by decide +kernel
theorem dX7_init_176 : decode cX7_init 176 = .ok (.aload_n 0, 1) := by decide +kernel
theorem dX7_init_177 : decode cX7_init 177 = .ok (.bipush 10, 2) := by decide +kernel
theorem dX7_init_179 : decode cX7_init 179 = .ok (.newarray .int, 2) := by decide +kernel
theorem dX7_init_181 : decode cX7_init 181 = .ok (.putfield 77, 3) := by decide +kernel
theorem dX7_init_184 : decode cX7_init 184 = .ok (.aload_n 0, 1) := by decide +kernel
theorem dX7_init_185 : decode cX7_init 185 = .ok (.bipush 10, 2) := by decide +kernel
theorem dX7_init_187 : decode cX7_init 187 = .ok (.newarray .int, 2) := by decide +kernel
theorem dX7_init_189 : decode cX7_init 189 = .ok (.putfield 80, 3) := by decide +kernel
theorem dX7_init_192 : decode cX7_init 192 = .ok (.aload_n 0, 1) := by decide +kernel
theorem dX7_init_193 : decode cX7_init 193 = .ok (.bipush 30, 2) := by decide +kernel
theorem dX7_init_195 : decode cX7_init 195 = .ok (.newarray .int, 2) := by decide +kernel
theorem dX7_init_197 : decode cX7_init 197 = .ok (.putfield 83, 3) := by decide +kernel
theorem dX7_init_200 : decode cX7_init 200 = .ok (.aload_n 0, 1) := by decide +kernel
theorem dX7_init_201 : decode cX7_init 201 = .ok (.sipush 160, 3) := by decide +kernel
theorem dX7_init_204 : decode cX7_init 204 = .ok (.newarray .long, 2) := by decide +kernel
theorem dX7_init_206 : decode cX7_init 206 = .ok (.putfield 86, 3) := by decide +kernel
theorem dX7_init_209 : decode cX7_init 209 = .ok (.aload_n 0, 1) := by decide +kernel
theorem dX7_init_210 : decode cX7_init 210 = .ok (.bipush 24, 2) := by decide +kernel
theorem dX7_init_212 : decode cX7_init 212 = .ok (.newarray .long, 2) := by decide +kernel
theorem dX7_init_214 : decode cX7_init 214 = .ok (.putfield 90, 3) := by decide +kernel
theorem dX7_init_217 : decode cX7_init 217 = .ok (.aload_n 0, 1) := by decide +kernel
theorem dX7_init_218 : decode cX7_init 218 = .ok (.bipush 24, 2) := by decide +kernel
theorem dX7_init_220 : decode cX7_init 220 = .ok (.newarray .long, 2) := by decide +kernel
theorem dX7_init_222 : decode cX7_init 222 = .ok (.putfield 93, 3) := by decide +kernel
theorem dX7_init_225 : decode cX7_init 225 = .ok (.aload_n 0, 1) := by decide +kernel
theorem dX7_init_226 : decode cX7_init 226 = .ok (.bipush 32, 2) := by decide +kernel
theorem dX7_init_228 : decode cX7_init 228 = .ok (.newarray .boolean, 2) := by decide +kernel
theorem dX7_init_230 : decode cX7_init 230 = .ok (.putfield 96, 3) := by decide +kernel
theorem dX7_init_233 : decode cX7_init 233 = .ok (.return_, 1) := by decide +kernel
theorem dX7_thrown_0 : decode cX7_thrown 0 = .ok (.aload_n 0, 1) := by decide +kernel
theorem dX7_thrown_1 : decode cX7_thrown 1 = .ok (.getfield 99, 3) := by decide +kernel
theorem dX7_thrown_4 : decode cX7_thrown 4 = .ok (.ireturn, 1) := by decide +kernel
theorem dX7_power_0 : decode cX7_power 0 = .ok (.lconst 1, 1) := by decide +kernel
theorem dX7_power_1 : decode cX7_power 1 = .ok (.lstore_n 2, 1) := by decide +kernel
theorem dX7_power_2 : decode cX7_power 2 = .ok (.iload_n 0, 1) := by decide +kernel
theorem dX7_power_3 : decode cX7_power 3 = .ok (.i2l, 1) := by decide +kernel
theorem dX7_power_4 : decode cX7_power 4 = .ok (.lstore 4, 2) := by decide +kernel
theorem dX7_power_6 : decode cX7_power 6 = .ok (.iload_n 1, 1) := by decide +kernel
theorem dX7_power_7 : decode cX7_power 7 = .ok (.istore 6, 2) := by decide +kernel
theorem dX7_power_9 : decode cX7_power 9 = .ok (.iload 6, 2) := by decide +kernel
theorem dX7_power_11 : decode cX7_power 11 = .ok (.ifCond .le 44, 3) := by decide +kernel
theorem dX7_power_14 : decode cX7_power 14 = .ok (.iload 6, 2) := by decide +kernel
theorem dX7_power_16 : decode cX7_power 16 = .ok (.iconst 2, 1) := by decide +kernel
theorem dX7_power_17 : decode cX7_power 17 = .ok (.irem, 1) := by decide +kernel
theorem dX7_power_18 : decode cX7_power 18 = .ok (.iconst 1, 1) := by decide +kernel
theorem dX7_power_19 : decode cX7_power 19 = .ok (.if_icmp .ne 14, 3) := by decide +kernel
theorem dX7_power_22 : decode cX7_power 22 = .ok (.lload_n 2, 1) := by decide +kernel
theorem dX7_power_23 : decode cX7_power 23 = .ok (.lload 4, 2) := by decide +kernel
theorem dX7_power_25 : decode cX7_power 25 = .ok (.lmul, 1) := by decide +kernel
theorem dX7_power_26 : decode cX7_power 26 = .ok (.ldc2_w 103, 3) := by decide +kernel
theorem dX7_power_29 : decode cX7_power 29 = .ok (.lrem, 1) := by decide +kernel
theorem dX7_power_30 : decode cX7_power 30 = .ok (.goto 4, 3) := by decide +kernel
theorem dX7_power_33 : decode cX7_power 33 = .ok (.lload_n 2, 1) := by decide +kernel
theorem dX7_power_34 : decode cX7_power 34 = .ok (.lstore_n 2, 1) := by decide +kernel
theorem dX7_power_35 : decode cX7_power 35 = .ok (.lload 4, 2) := by decide +kernel
theorem dX7_power_37 : decode cX7_power 37 = .ok (.lload 4, 2) := by decide +kernel
theorem dX7_power_39 : decode cX7_power 39 = .ok (.lmul, 1) := by decide +kernel
theorem dX7_power_40 : decode cX7_power 40 = .ok (.ldc2_w 103, 3) := by decide +kernel
theorem dX7_power_43 : decode cX7_power 43 = .ok (.lrem, 1) := by decide +kernel
theorem dX7_power_44 : decode cX7_power 44 = .ok (.lstore 4, 2) := by decide +kernel
theorem dX7_power_46 : decode cX7_power 46 = .ok (.iload 6, 2) := by decide +kernel
theorem dX7_power_48 : decode cX7_power 48 = .ok (.iconst 2, 1) := by decide +kernel
theorem dX7_power_49 : decode cX7_power 49 = .ok (.idiv, 1) := by decide +kernel
theorem dX7_power_50 : decode cX7_power 50 = .ok (.istore 6, 2) := by decide +kernel
theorem dX7_power_52 : decode cX7_power 52 = .ok (.goto (-43), 3) := by decide +kernel
theorem dX7_power_55 : decode cX7_power 55 = .ok (.lload_n 2, 1) := by decide +kernel
theorem dX7_power_56 : decode cX7_power 56 = .ok (.l2i, 1) := by decide +kernel
theorem dX7_power_57 : decode cX7_power 57 = .ok (.ireturn, 1) := by decide +kernel
theorem dX7_times_0 : decode cX7_times 0 = .ok (.iload_n 0, 1) := by decide +kernel
theorem dX7_times_1 : decode cX7_times 1 = .ok (.i2l, 1) := by decide +kernel
theorem dX7_times_2 : decode cX7_times 2 = .ok (.iload_n 1, 1) := by decide +kernel
theorem dX7_times_3 : decode cX7_times 3 = .ok (.i2l, 1) := by decide +kernel
theorem dX7_times_4 : decode cX7_times 4 = .ok (.lmul, 1) := by decide +kernel
theorem dX7_times_5 : decode cX7_times 5 = .ok (.ldc2_w 103, 3) := by decide +kernel
theorem dX7_times_8 : decode cX7_times 8 = .ok (.lrem, 1) := by decide +kernel
theorem dX7_times_9 : decode cX7_times 9 = .ok (.l2i, 1) := by decide +kernel
theorem dX7_times_10 : decode cX7_times 10 = .ok (.ireturn, 1) := by decide +kernel
set_option maxRecDepth 20000 in
theorem ggX7_isElement_X7_power : GoodIn wsX7_isElement wsX7_power := goodIn_r _ [4, 5] rfl (by decide +kernel)
set_option maxRecDepth 20000 in
theorem gX7_isElement_X7_power : GoodIn wsX7_isElement (va_wsS RX7 105 yX7_power wsX7_power) := goodIn_app (goodIn_r _ [1, 2, 3] rfl (by decide +kernel)) ggX7_isElement_X7_power
theorem dX7_isElement_0 : decode cX7_isElement 0 = .ok (.iload_n 0, 1) := by decide +kernel
theorem dX7_isElement_1 : decode cX7_isElement 1 = .ok (.ifCond .le 25, 3) := by decide +kernel
theorem dX7_isElement_4 : decode cX7_isElement 4 = .ok (.iload_n 0, 1) := by decide +kernel
theorem dX7_isElement_5 : decode cX7_isElement 5 = .ok (.sipush 4079, 3) := by decide +kernel
theorem dX7_isElement_8 : decode cX7_isElement 8 = .ok (.if_icmp .ge 18, 3) := by decide +kernel
theorem dX7_isElement_11 : decode cX7_isElement 11 = .ok (.iload_n 0, 1) := by decide +kernel
theorem dX7_isElement_12 : decode cX7_isElement 12 = .ok (.sipush 2039, 3) := by decide +kernel
theorem dX7_isElement_15 : decode cX7_isElement 15 = .ok (.invokestatic 105, 3) := by decide +kernel
theorem dX7_isElement_18 : decode cX7_isElement 18 = .ok (.iconst 1, 1) := by decide +kernel
theorem dX7_isElement_19 : decode cX7_isElement 19 = .ok (.if_icmp .ne 7, 3) := by decide +kernel
theorem dX7_isElement_22 : decode cX7_isElement 22 = .ok (.iconst 1, 1) := by decide +kernel
theorem dX7_isElement_23 : decode cX7_isElement 23 = .ok (.goto 4, 3) := by decide +kernel
theorem dX7_isElement_26 : decode cX7_isElement 26 = .ok (.iconst 0, 1) := by decide +kernel
theorem dX7_isElement_27 : decode cX7_isElement 27 = .ok (.ireturn, 1) := by decide +kernel
theorem dX7_isNumber_0 : decode cX7_isNumber 0 = .ok (.iload_n 0, 1) := by decide +kernel
theorem dX7_isNumber_1 : decode cX7_isNumber 1 = .ok (.ifCond .lt 14, 3) := by decide +kernel
theorem dX7_isNumber_4 : decode cX7_isNumber 4 = .ok (.iload_n 0, 1) := by decide +kernel
theorem dX7_isNumber_5 : decode cX7_isNumber 5 = .ok (.sipush 2039, 3) := by decide +kernel
theorem dX7_isNumber_8 : decode cX7_isNumber 8 = .ok (.if_icmp .ge 7, 3) := by decide +kernel
theorem dX7_isNumber_11 : decode cX7_isNumber 11 = .ok (.iconst 1, 1) := by decide +kernel
theorem dX7_isNumber_12 : decode cX7_isNumber 12 = .ok (.goto 4, 3) := by decide +kernel
theorem dX7_isNumber_15 : decode cX7_isNumber 15 = .ok (.iconst 0, 1) := by decide +kernel
theorem dX7_isNumber_16 : decode cX7_isNumber 16 = .ok (.ireturn, 1) := by decide +kernel
theorem dX7_mingle_0 : decode cX7_mingle 0 = .ok (.aload_n 0, 1) := by decide +kernel
theorem dX7_mingle_1 : decode cX7_mingle 1 = .ok (.aload_n 0, 1) := by decide +kernel
theorem dX7_mingle_2 : decode cX7_mingle 2 = .ok (.getfield 109, 3) := by decide +kernel
theorem dX7_mingle_5 : decode cX7_mingle 5 = .ok (.lload_n 1, 1) := by decide +kernel
theorem dX7_mingle_6 : decode cX7_mingle 6 = .ok (.lxor, 1) := by decide +kernel
theorem dX7_mingle_7 : decode cX7_mingle 7 = .ok (.ldc2_w 113, 3) := by decide +kernel
theorem dX7_mingle_10 : decode cX7_mingle 10 = .ok (.lmul, 1) := by decide +kernel
theorem dX7_mingle_11 : decode cX7_mingle 11 = .ok (.putfield 109, 3) := by decide +kernel
theorem dX7_mingle_14 : decode cX7_mingle 14 = .ok (.aload_n 0, 1) := by decide +kernel
theorem dX7_mingle_15 : decode cX7_mingle 15 = .ok (.aload_n 0, 1) := by decide +kernel
theorem dX7_mingle_16 : decode cX7_mingle 16 = .ok (.getfield 109, 3) := by decide +kernel
theorem dX7_mingle_19 : decode cX7_mingle 19 = .ok (.aload_n 0, 1) := by decide +kernel
theorem dX7_mingle_20 : decode cX7_mingle 20 = .ok (.getfield 109, 3) := by decide +kernel
theorem dX7_mingle_23 : decode cX7_mingle 23 = .ok (.bipush 29, 2) := by decide +kernel
theorem dX7_mingle_25 : decode cX7_mingle 25 = .ok (.lushr, 1) := by decide +kernel
theorem dX7_mingle_26 : decode cX7_mingle 26 = .ok (.lxor, 1) := by decide +kernel
theorem dX7_mingle_27 : decode cX7_mingle 27 = .ok (.putfield 109, 3) := by decide +kernel
theorem dX7_mingle_30 : decode cX7_mingle 30 = .ok (.return_, 1) := by decide +kernel
theorem dX7_sealed_0 : decode cX7_sealed 0 = .ok (.aload_n 0, 1) := by decide +kernel
theorem dX7_sealed_1 : decode cX7_sealed 1 = .ok (.getfield 109, 3) := by decide +kernel
theorem dX7_sealed_4 : decode cX7_sealed 4 = .ok (.iconst 1, 1) := by decide +kernel
theorem dX7_sealed_5 : decode cX7_sealed 5 = .ok (.lushr, 1) := by decide +kernel
theorem dX7_sealed_6 : decode cX7_sealed 6 = .ok (.lreturn, 1) := by decide +kernel
set_option maxRecDepth 20000 in
theorem ggX7_asNumber_X7_sealed : GoodIn wsX7_asNumber wsX7_sealed := goodIn_r _ [6, 7, 8, 9, 10, 11, 12, 13, 14, 15, 16, 17, 18, 19, 20, 21, 22, 23, 24, 25, 26, 27, 28, 29, 30, 31, 32, 33, 34, 35, 36, 37, 38, 39, 40, 41, 42, 43, 44, 45, 46] rfl (by decide +kernel)
set_option maxRecDepth 20000 in
theorem gX7_asNumber_X7_sealed : GoodIn wsX7_asNumber (wsV RX7 115 RX7 yX7_sealed wsX7_sealed) := goodIn_app (goodIn_r _ [2, 3, 4, 5] rfl (by decide +kernel)) ggX7_asNumber_X7_sealed
theorem dX7_asNumber_0 : decode cX7_asNumber 0 = .ok (.aload_n 0, 1) := by decide +kernel
theorem dX7_asNumber_1 : decode cX7_asNumber 1 = .ok (.invokevirtual 115, 3) := by decide +kernel
theorem dX7_asNumber_4 : decode cX7_asNumber 4 = .ok (.ldc2_w 119, 3) := by decide +kernel
theorem dX7_asNumber_7 : decode cX7_asNumber 7 = .ok (.lrem, 1) := by decide +kernel
theorem dX7_asNumber_8 : decode cX7_asNumber 8 = .ok (.l2i, 1) := by decide +kernel
theorem dX7_asNumber_9 : decode cX7_asNumber 9 = .ok (.ireturn, 1) := by decide +kernel
set_option maxRecDepth 20000 in
theorem ggX7_digestOfThree_X7_mingle : GoodIn wsX7_digestOfThree wsX7_mingle := goodIn_r _ [6, 1, 7, 17, 18, 19, 20, 21, 22, 23, 24, 25, 26, 27, 28, 29, 30, 31, 32, 33, 34, 35, 36, 37, 38, 39, 40, 41, 42, 43, 44, 45, 46, 47, 48, 49, 50, 51, 52, 53, 54, 55] rfl (by decide +kernel)
set_option maxRecDepth 20000 in
theorem gX7_digestOfThree_X7_mingle : GoodIn wsX7_digestOfThree (wsV RX7 121 RX7 yX7_mingle wsX7_mingle) := goodIn_app (goodIn_r _ [2, 3, 4, 5] rfl (by decide +kernel)) ggX7_digestOfThree_X7_mingle
set_option maxRecDepth 20000 in
theorem ggX7_digestOfThree_X7_asNumber : GoodIn wsX7_digestOfThree wsX7_asNumber := goodIn_r _ [11, 12, 13, 14, 15, 5, 16, 1, 17, 18, 19, 20, 21, 22, 23, 24, 25, 26, 27, 28, 29, 30, 31, 32, 33, 34, 35, 36, 37, 38, 39, 40, 41, 42, 43, 44, 45, 46, 47, 48, 49, 50, 51, 52, 53, 54, 55] rfl (by decide +kernel)
set_option maxRecDepth 20000 in
theorem gX7_digestOfThree_X7_asNumber : GoodIn wsX7_digestOfThree (wsV RX7 125 RX7 yX7_asNumber wsX7_asNumber) := goodIn_app (goodIn_r _ [8, 9, 10, 5] rfl (by decide +kernel)) ggX7_digestOfThree_X7_asNumber
theorem dX7_digestOfThree_0 : decode cX7_digestOfThree 0 = .ok (.aload_n 0, 1) := by decide +kernel
theorem dX7_digestOfThree_1 : decode cX7_digestOfThree 1 = .ok (.lconst 0, 1) := by decide +kernel
theorem dX7_digestOfThree_2 : decode cX7_digestOfThree 2 = .ok (.putfield 109, 3) := by decide +kernel
theorem dX7_digestOfThree_5 : decode cX7_digestOfThree 5 = .ok (.aload_n 0, 1) := by decide +kernel
theorem dX7_digestOfThree_6 : decode cX7_digestOfThree 6 = .ok (.iload_n 1, 1) := by decide +kernel
theorem dX7_digestOfThree_7 : decode cX7_digestOfThree 7 = .ok (.i2l, 1) := by decide +kernel
theorem dX7_digestOfThree_8 : decode cX7_digestOfThree 8 = .ok (.invokevirtual 121, 3) := by decide +kernel
theorem dX7_digestOfThree_11 : decode cX7_digestOfThree 11 = .ok (.aload_n 0, 1) := by decide +kernel
theorem dX7_digestOfThree_12 : decode cX7_digestOfThree 12 = .ok (.iload_n 2, 1) := by decide +kernel
theorem dX7_digestOfThree_13 : decode cX7_digestOfThree 13 = .ok (.i2l, 1) := by decide +kernel
theorem dX7_digestOfThree_14 : decode cX7_digestOfThree 14 = .ok (.invokevirtual 121, 3) := by decide +kernel
theorem dX7_digestOfThree_17 : decode cX7_digestOfThree 17 = .ok (.aload_n 0, 1) := by decide +kernel
theorem dX7_digestOfThree_18 : decode cX7_digestOfThree 18 = .ok (.iload_n 3, 1) := by decide +kernel
theorem dX7_digestOfThree_19 : decode cX7_digestOfThree 19 = .ok (.i2l, 1) := by decide +kernel
theorem dX7_digestOfThree_20 : decode cX7_digestOfThree 20 = .ok (.invokevirtual 121, 3) := by decide +kernel
theorem dX7_digestOfThree_23 : decode cX7_digestOfThree 23 = .ok (.aload_n 0, 1) := by decide +kernel
theorem dX7_digestOfThree_24 : decode cX7_digestOfThree 24 = .ok (.invokevirtual 125, 3) := by decide +kernel
theorem dX7_digestOfThree_27 : decode cX7_digestOfThree 27 = .ok (.ireturn, 1) := by decide +kernel
set_option maxRecDepth 20000 in
theorem ggX7_digestOfTwo_X7_mingle : GoodIn wsX7_digestOfTwo wsX7_mingle := goodIn_r _ [6, 1, 7, 17, 18, 19, 20, 21, 22, 23, 24, 25, 26, 27, 28, 29, 30, 31, 32, 33, 34, 35, 36, 37, 38, 39, 40, 41, 42, 43, 44, 45, 46, 47, 48, 49, 50, 51, 52, 53, 54, 55] rfl (by decide +kernel)
set_option maxRecDepth 20000 in
theorem gX7_digestOfTwo_X7_mingle : GoodIn wsX7_digestOfTwo (wsV RX7 121 RX7 yX7_mingle wsX7_mingle) := goodIn_app (goodIn_r _ [2, 3, 4, 5] rfl (by decide +kernel)) ggX7_digestOfTwo_X7_mingle
set_option maxRecDepth 20000 in
theorem ggX7_digestOfTwo_X7_asNumber : GoodIn wsX7_digestOfTwo wsX7_asNumber := goodIn_r _ [11, 12, 13, 14, 15, 5, 16, 1, 17, 18, 19, 20, 21, 22, 23, 24, 25, 26, 27, 28, 29, 30, 31, 32, 33, 34, 35, 36, 37, 38, 39, 40, 41, 42, 43, 44, 45, 46, 47, 48, 49, 50, 51, 52, 53, 54, 55] rfl (by decide +kernel)
set_option maxRecDepth 20000 in
theorem gX7_digestOfTwo_X7_asNumber : GoodIn wsX7_digestOfTwo (wsV RX7 125 RX7 yX7_asNumber wsX7_asNumber) := goodIn_app (goodIn_r _ [8, 9, 10, 5] rfl (by decide +kernel)) ggX7_digestOfTwo_X7_asNumber
theorem dX7_digestOfTwo_0 : decode cX7_digestOfTwo 0 = .ok (.aload_n 0, 1) := by decide +kernel
theorem dX7_digestOfTwo_1 : decode cX7_digestOfTwo 1 = .ok (.lconst 0, 1) := by decide +kernel
theorem dX7_digestOfTwo_2 : decode cX7_digestOfTwo 2 = .ok (.putfield 109, 3) := by decide +kernel
theorem dX7_digestOfTwo_5 : decode cX7_digestOfTwo 5 = .ok (.aload_n 0, 1) := by decide +kernel
theorem dX7_digestOfTwo_6 : decode cX7_digestOfTwo 6 = .ok (.iload_n 1, 1) := by decide +kernel
theorem dX7_digestOfTwo_7 : decode cX7_digestOfTwo 7 = .ok (.i2l, 1) := by decide +kernel
theorem dX7_digestOfTwo_8 : decode cX7_digestOfTwo 8 = .ok (.invokevirtual 121, 3) := by decide +kernel
theorem dX7_digestOfTwo_11 : decode cX7_digestOfTwo 11 = .ok (.aload_n 0, 1) := by decide +kernel
theorem dX7_digestOfTwo_12 : decode cX7_digestOfTwo 12 = .ok (.iload_n 2, 1) := by decide +kernel
theorem dX7_digestOfTwo_13 : decode cX7_digestOfTwo 13 = .ok (.i2l, 1) := by decide +kernel
theorem dX7_digestOfTwo_14 : decode cX7_digestOfTwo 14 = .ok (.invokevirtual 121, 3) := by decide +kernel
theorem dX7_digestOfTwo_17 : decode cX7_digestOfTwo 17 = .ok (.aload_n 0, 1) := by decide +kernel
theorem dX7_digestOfTwo_18 : decode cX7_digestOfTwo 18 = .ok (.invokevirtual 125, 3) := by decide +kernel
theorem dX7_digestOfTwo_21 : decode cX7_digestOfTwo 21 = .ok (.ireturn, 1) := by decide +kernel
set_option maxRecDepth 20000 in
theorem ggX7_digestOfFive_X7_mingle : GoodIn wsX7_digestOfFive wsX7_mingle := goodIn_r _ [6, 1, 7, 17, 18, 19, 20, 21, 22, 23, 24, 25, 26, 27, 28, 29, 30, 31, 32, 33, 34, 35, 36, 37, 38, 39, 40, 41, 42, 43, 44, 45, 46, 47, 48, 49, 50, 51, 52, 53, 54, 55] rfl (by decide +kernel)
set_option maxRecDepth 20000 in
theorem gX7_digestOfFive_X7_mingle : GoodIn wsX7_digestOfFive (wsV RX7 121 RX7 yX7_mingle wsX7_mingle) := goodIn_app (goodIn_r _ [2, 3, 4, 5] rfl (by decide +kernel)) ggX7_digestOfFive_X7_mingle
set_option maxRecDepth 20000 in
theorem ggX7_digestOfFive_X7_asNumber : GoodIn wsX7_digestOfFive wsX7_asNumber := goodIn_r _ [11, 12, 13, 14, 15, 5, 16, 1, 17, 18, 19, 20, 21, 22, 23, 24, 25, 26, 27, 28, 29, 30, 31, 32, 33, 34, 35, 36, 37, 38, 39, 40, 41, 42, 43, 44, 45, 46, 47, 48, 49, 50, 51, 52, 53, 54, 55] rfl (by decide +kernel)
set_option maxRecDepth 20000 in
theorem gX7_digestOfFive_X7_asNumber : GoodIn wsX7_digestOfFive (wsV RX7 125 RX7 yX7_asNumber wsX7_asNumber) := goodIn_app (goodIn_r _ [8, 9, 10, 5] rfl (by decide +kernel)) ggX7_digestOfFive_X7_asNumber
theorem dX7_digestOfFive_0 : decode cX7_digestOfFive 0 = .ok (.aload_n 0, 1) := by decide +kernel
theorem dX7_digestOfFive_1 : decode cX7_digestOfFive 1 = .ok (.lconst 0, 1) := by decide +kernel
theorem dX7_digestOfFive_2 : decode cX7_digestOfFive 2 = .ok (.putfield 109, 3) := by decide +kernel
theorem dX7_digestOfFive_5 : decode cX7_digestOfFive 5 = .ok (.aload_n 0, 1) := by decide +kernel
theorem dX7_digestOfFive_6 : decode cX7_digestOfFive 6 = .ok (.iload_n 1, 1) := by decide +kernel
theorem dX7_digestOfFive_7 : decode cX7_digestOfFive 7 = .ok (.i2l, 1) := by decide +kernel
theorem dX7_digestOfFive_8 : decode cX7_digestOfFive 8 = .ok (.invokevirtual 121, 3) := by decide +kernel
theorem dX7_digestOfFive_11 : decode cX7_digestOfFive 11 = .ok (.aload_n 0, 1) := by decide +kernel
theorem dX7_digestOfFive_12 : decode cX7_digestOfFive 12 = .ok (.iload_n 2, 1) := by decide +kernel
theorem dX7_digestOfFive_13 : decode cX7_digestOfFive 13 = .ok (.i2l, 1) := by decide +kernel
theorem dX7_digestOfFive_14 : decode cX7_digestOfFive 14 = .ok (.invokevirtual 121, 3) := by decide +kernel
theorem dX7_digestOfFive_17 : decode cX7_digestOfFive 17 = .ok (.aload_n 0, 1) := by decide +kernel
theorem dX7_digestOfFive_18 : decode cX7_digestOfFive 18 = .ok (.iload_n 3, 1) := by decide +kernel
theorem dX7_digestOfFive_19 : decode cX7_digestOfFive 19 = .ok (.i2l, 1) := by decide +kernel
theorem dX7_digestOfFive_20 : decode cX7_digestOfFive 20 = .ok (.invokevirtual 121, 3) := by decide +kernel
theorem dX7_digestOfFive_23 : decode cX7_digestOfFive 23 = .ok (.aload_n 0, 1) := by decide +kernel
theorem dX7_digestOfFive_24 : decode cX7_digestOfFive 24 = .ok (.iload 4, 2) := by decide +kernel
theorem dX7_digestOfFive_26 : decode cX7_digestOfFive 26 = .ok (.i2l, 1) := by decide +kernel
theorem dX7_digestOfFive_27 : decode cX7_digestOfFive 27 = .ok (.invokevirtual 121, 3) := by decide +kernel
theorem dX7_digestOfFive_30 : decode cX7_digestOfFive 30 = .ok (.aload_n 0, 1) := by decide +kernel
theorem dX7_digestOfFive_31 : decode cX7_digestOfFive 31 = .ok (.iload 5, 2) := by decide +kernel
theorem dX7_digestOfFive_33 : decode cX7_digestOfFive 33 = .ok (.i2l, 1) := by decide +kernel
theorem dX7_digestOfFive_34 : decode cX7_digestOfFive 34 = .ok (.invokevirtual 121, 3) := by decide +kernel
theorem dX7_digestOfFive_37 : decode cX7_digestOfFive 37 = .ok (.aload_n 0, 1) := by decide +kernel
theorem dX7_digestOfFive_38 : decode cX7_digestOfFive 38 = .ok (.invokevirtual 125, 3) := by decide +kernel
theorem dX7_digestOfFive_41 : decode cX7_digestOfFive 41 = .ok (.ireturn, 1) := by decide +kernel
set_option maxRecDepth 20000 in
theorem ggX7_joined_X7_mingle : GoodIn wsX7_joined wsX7_mingle := goodIn_r _ [6, 1, 7, 12, 13, 14, 15, 16, 17, 18, 19, 20, 21, 22, 23, 24, 25, 26, 27, 28, 29, 30, 31, 32, 33, 34, 35, 36, 37, 38, 39, 40, 41, 42, 43, 44, 45, 46, 47, 48, 49, 50] rfl (by decide +kernel)
set_option maxRecDepth 20000 in
theorem gX7_joined_X7_mingle : GoodIn wsX7_joined (wsV RX7 121 RX7 yX7_mingle wsX7_mingle) := goodIn_app (goodIn_r _ [2, 3, 4, 5] rfl (by decide +kernel)) ggX7_joined_X7_mingle
set_option maxRecDepth 20000 in
theorem ggX7_joined_X7_sealed : GoodIn wsX7_joined wsX7_sealed := goodIn_r _ [11, 1, 12, 13, 14, 15, 16, 17, 18, 19, 20, 21, 22, 23, 24, 25, 26, 27, 28, 29, 30, 31, 32, 33, 34, 35, 36, 37, 38, 39, 40, 41, 42, 43, 44, 45, 46, 47, 48, 49, 50] rfl (by decide +kernel)
set_option maxRecDepth 20000 in
theorem gX7_joined_X7_sealed : GoodIn wsX7_joined (wsV RX7 115 RX7 yX7_sealed wsX7_sealed) := goodIn_app (goodIn_r _ [8, 9, 10, 5] rfl (by decide +kernel)) ggX7_joined_X7_sealed
theorem dX7_joined_0 : decode cX7_joined 0 = .ok (.aload_n 0, 1) := by decide +kernel
theorem dX7_joined_1 : decode cX7_joined 1 = .ok (.lconst 0, 1) := by decide +kernel
theorem dX7_joined_2 : decode cX7_joined 2 = .ok (.putfield 109, 3) := by decide +kernel
theorem dX7_joined_5 : decode cX7_joined 5 = .ok (.aload_n 0, 1) := by decide +kernel
theorem dX7_joined_6 : decode cX7_joined 6 = .ok (.lconst 1, 1) := by decide +kernel
theorem dX7_joined_7 : decode cX7_joined 7 = .ok (.invokevirtual 121, 3) := by decide +kernel
theorem dX7_joined_10 : decode cX7_joined 10 = .ok (.aload_n 0, 1) := by decide +kernel
theorem dX7_joined_11 : decode cX7_joined 11 = .ok (.lload_n 1, 1) := by decide +kernel
theorem dX7_joined_12 : decode cX7_joined 12 = .ok (.invokevirtual 121, 3) := by decide +kernel
theorem dX7_joined_15 : decode cX7_joined 15 = .ok (.aload_n 0, 1) := by decide +kernel
theorem dX7_joined_16 : decode cX7_joined 16 = .ok (.lload_n 3, 1) := by decide +kernel
theorem dX7_joined_17 : decode cX7_joined 17 = .ok (.invokevirtual 121, 3) := by decide +kernel
theorem dX7_joined_20 : decode cX7_joined 20 = .ok (.aload_n 0, 1) := by decide +kernel
theorem dX7_joined_21 : decode cX7_joined 21 = .ok (.invokevirtual 115, 3) := by decide +kernel
theorem dX7_joined_24 : decode cX7_joined 24 = .ok (.lreturn, 1) := by decide +kernel
theorem dX7_orders_0 : decode cX7_orders 0 = .ok (.iconst 1, 1) := by decide +kernel
theorem dX7_orders_1 : decode cX7_orders 1 = .ok (.istore_n 1, 1) := by decide +kernel
theorem dX7_orders_2 : decode cX7_orders 2 = .ok (.iconst 2, 1) := by decide +kernel
theorem dX7_orders_3 : decode cX7_orders 3 = .ok (.istore_n 2, 1) := by decide +kernel
theorem dX7_orders_4 : decode cX7_orders 4 = .ok (.iload_n 2, 1) := by decide +kernel
theorem dX7_orders_5 : decode cX7_orders 5 = .ok (.iload_n 0, 1) := by decide +kernel
theorem dX7_orders_6 : decode cX7_orders 6 = .ok (.if_icmp .gt 13, 3) := by decide +kernel
theorem dX7_orders_9 : decode cX7_orders 9 = .ok (.iload_n 1, 1) := by decide +kernel
theorem dX7_orders_10 : decode cX7_orders 10 = .ok (.iload_n 2, 1) := by decide +kernel
theorem dX7_orders_11 : decode cX7_orders 11 = .ok (.imul, 1) := by decide +kernel
theorem dX7_orders_12 : decode cX7_orders 12 = .ok (.istore_n 1, 1) := by decide +kernel
theorem dX7_orders_13 : decode cX7_orders 13 = .ok (.iinc 2 1, 3) := by decide +kernel
theorem dX7_orders_16 : decode cX7_orders 16 = .ok (.goto (-12), 3) := by decide +kernel
theorem dX7_orders_19 : decode cX7_orders 19 = .ok (.iload_n 1, 1) := by decide +kernel
theorem dX7_orders_20 : decode cX7_orders 20 = .ok (.ireturn, 1) := by decide +kernel
theorem dX7_put_0 : decode cX7_put 0 = .ok (.aload_n 0, 1) := by decide +kernel
theorem dX7_put_1 : decode cX7_put 1 = .ok (.getfield 129, 3) := by decide +kernel
theorem dX7_put_4 : decode cX7_put 4 = .ok (.istore 5, 2) := by decide +kernel
theorem dX7_put_6 : decode cX7_put 6 = .ok (.aload_n 0, 1) := by decide +kernel
theorem dX7_put_7 : decode cX7_put 7 = .ok (.dup, 1) := by decide +kernel
theorem dX7_put_8 : decode cX7_put 8 = .ok (.getfield 129, 3) := by decide +kernel
theorem dX7_put_11 : decode cX7_put 11 = .ok (.iconst 1, 1) := by decide +kernel
theorem dX7_put_12 : decode cX7_put 12 = .ok (.iadd, 1) := by decide +kernel
theorem dX7_put_13 : decode cX7_put 13 = .ok (.putfield 129, 3) := by decide +kernel
theorem dX7_put_16 : decode cX7_put 16 = .ok (.aload_n 0, 1) := by decide +kernel
theorem dX7_put_17 : decode cX7_put 17 = .ok (.getfield 7, 3) := by decide +kernel
theorem dX7_put_20 : decode cX7_put 20 = .ok (.iload 5, 2) := by decide +kernel
theorem dX7_put_22 : decode cX7_put 22 = .ok (.iload_n 1, 1) := by decide +kernel
theorem dX7_put_23 : decode cX7_put 23 = .ok (.iastore, 1) := by decide +kernel
theorem dX7_put_24 : decode cX7_put 24 = .ok (.aload_n 0, 1) := by decide +kernel
theorem dX7_put_25 : decode cX7_put 25 = .ok (.getfield 13, 3) := by decide +kernel
theorem dX7_put_28 : decode cX7_put 28 = .ok (.bipush 6, 2) := by decide +kernel
theorem dX7_put_30 : decode cX7_put 30 = .ok (.iload 5, 2) := by decide +kernel
theorem dX7_put_32 : decode cX7_put 32 = .ok (.imul, 1) := by decide +kernel
theorem dX7_put_33 : decode cX7_put 33 = .ok (.iload_n 2, 1) := by decide +kernel
theorem dX7_put_34 : decode cX7_put 34 = .ok (.iastore, 1) := by decide +kernel
theorem dX7_put_35 : decode cX7_put 35 = .ok (.aload_n 0, 1) := by decide +kernel
theorem dX7_put_36 : decode cX7_put 36 = .ok (.getfield 13, 3) := by decide +kernel
theorem dX7_put_39 : decode cX7_put 39 = .ok (.bipush 6, 2) := by decide +kernel
theorem dX7_put_41 : decode cX7_put 41 = .ok (.iload 5, 2) := by decide +kernel
theorem dX7_put_43 : decode cX7_put 43 = .ok (.imul, 1) := by decide +kernel
theorem dX7_put_44 : decode cX7_put 44 = .ok (.iconst 1, 1) := by decide +kernel
theorem dX7_put_45 : decode cX7_put 45 = .ok (.iadd, 1) := by decide +kernel
theorem dX7_put_46 : decode cX7_put 46 = .ok (.iload_n 3, 1) := by decide +kernel
theorem dX7_put_47 : decode cX7_put 47 = .ok (.iastore, 1) := by decide +kernel
theorem dX7_put_48 : decode cX7_put 48 = .ok (.aload_n 0, 1) := by decide +kernel
theorem dX7_put_49 : decode cX7_put 49 = .ok (.getfield 13, 3) := by decide +kernel
theorem dX7_put_52 : decode cX7_put 52 = .ok (.bipush 6, 2) := by decide +kernel
theorem dX7_put_54 : decode cX7_put 54 = .ok (.iload 5, 2) := by decide +kernel
theorem dX7_put_56 : decode cX7_put 56 = .ok (.imul, 1) := by decide +kernel
theorem dX7_put_57 : decode cX7_put 57 = .ok (.iconst 2, 1) := by decide +kernel
theorem dX7_put_58 : decode cX7_put 58 = .ok (.iadd, 1) := by decide +kernel
theorem dX7_put_59 : decode cX7_put 59 = .ok (.iload 4, 2) := by decide +kernel
theorem dX7_put_61 : decode cX7_put 61 = .ok (.iastore, 1) := by decide +kernel
theorem dX7_put_62 : decode cX7_put 62 = .ok (.iconst 3, 1) := by decide +kernel
theorem dX7_put_63 : decode cX7_put 63 = .ok (.istore 6, 2) := by decide +kernel
theorem dX7_put_65 : decode cX7_put 65 = .ok (.iload 6, 2) := by decide +kernel
theorem dX7_put_67 : decode cX7_put 67 = .ok (.bipush 6, 2) := by decide +kernel
theorem dX7_put_69 : decode cX7_put 69 = .ok (.if_icmp .ge 23, 3) := by decide +kernel
theorem dX7_put_72 : decode cX7_put 72 = .ok (.aload_n 0, 1) := by decide +kernel
theorem dX7_put_73 : decode cX7_put 73 = .ok (.getfield 13, 3) := by decide +kernel
theorem dX7_put_76 : decode cX7_put 76 = .ok (.bipush 6, 2) := by decide +kernel
theorem dX7_put_78 : decode cX7_put 78 = .ok (.iload 5, 2) := by decide +kernel
theorem dX7_put_80 : decode cX7_put 80 = .ok (.imul, 1) := by decide +kernel
theorem dX7_put_81 : decode cX7_put 81 = .ok (.iload 6, 2) := by decide +kernel
theorem dX7_put_83 : decode cX7_put 83 = .ok (.iadd, 1) := by decide +kernel
theorem dX7_put_84 : decode cX7_put 84 = .ok (.iconst 0, 1) := by decide +kernel
theorem dX7_put_85 : decode cX7_put 85 = .ok (.iastore, 1) := by decide +kernel
theorem dX7_put_86 : decode cX7_put 86 = .ok (.iinc 6 1, 3) := by decide +kernel
theorem dX7_put_89 : decode cX7_put 89 = .ok (.goto (-24), 3) := by decide +kernel
theorem dX7_put_92 : decode cX7_put 92 = .ok (.iload 5, 2) := by decide +kernel
theorem dX7_put_94 : decode cX7_put 94 = .ok (.ireturn, 1) := by decide +kernel
theorem dX7_noRoom_0 : decode cX7_noRoom 0 = .ok (.aload_n 0, 1) := by decide +kernel
theorem dX7_noRoom_1 : decode cX7_noRoom 1 = .ok (.getfield 129, 3) := by decide +kernel
theorem dX7_noRoom_4 : decode cX7_noRoom 4 = .ok (.iload_n 1, 1) := by decide +kernel
theorem dX7_noRoom_5 : decode cX7_noRoom 5 = .ok (.iadd, 1) := by decide +kernel
theorem dX7_noRoom_6 : decode cX7_noRoom 6 = .ok (.sipush 160, 3) := by decide +kernel
theorem dX7_noRoom_9 : decode cX7_noRoom 9 = .ok (.if_icmp .le 7, 3) := by decide +kernel
theorem dX7_noRoom_12 : decode cX7_noRoom 12 = .ok (.iconst 1, 1) := by decide +kernel
theorem dX7_noRoom_13 : decode cX7_noRoom 13 = .ok (.goto 4, 3) := by decide +kernel
theorem dX7_noRoom_16 : decode cX7_noRoom 16 = .ok (.iconst 0, 1) := by decide +kernel
theorem dX7_noRoom_17 : decode cX7_noRoom 17 = .ok (.ireturn, 1) := by decide +kernel
set_option maxRecDepth 20000 in
theorem ggX7_begin_X7_isNumber : GoodIn wsX7_begin wsX7_isNumber := goodIn_r _ [13] rfl (by decide +kernel)
set_option maxRecDepth 20000 in
theorem gX7_begin_X7_isNumber : GoodIn wsX7_begin (va_wsS RX7 132 yX7_isNumber wsX7_isNumber) := goodIn_app (goodIn_r _ [10, 11, 12] rfl (by decide +kernel)) ggX7_begin_X7_isNumber
set_option maxRecDepth 20000 in
theorem ggX7_begin_X7_power : GoodIn wsX7_begin wsX7_power := goodIn_r _ [16, 17] rfl (by decide +kernel)
set_option maxRecDepth 20000 in
theorem gX7_begin_X7_power : GoodIn wsX7_begin (va_wsS RX7 105 yX7_power wsX7_power) := goodIn_app (goodIn_r _ [14, 15, 12] rfl (by decide +kernel)) ggX7_begin_X7_power
set_option maxRecDepth 20000 in
theorem ggX7_begin_X7_put : GoodIn wsX7_begin wsX7_put := goodIn_r _ [21, 8, 22, 23, 24, 25, 26, 27, 28, 29, 30, 31, 32, 33, 34, 35, 36, 37, 38, 39, 40, 41, 42, 43, 44, 45, 46, 47, 48, 49, 50, 51, 52, 53, 54, 55, 56, 57, 58, 59, 60, 61, 62] rfl (by decide +kernel)
set_option maxRecDepth 20000 in
theorem gX7_begin_X7_put : GoodIn wsX7_begin (wsV RX7 139 RX7 yX7_put wsX7_put) := goodIn_app (goodIn_r _ [18, 19, 20, 12] rfl (by decide +kernel)) ggX7_begin_X7_put
theorem dX7_begin_0 : decode cX7_begin 0 = .ok (.aload_n 0, 1) := by decide +kernel
theorem dX7_begin_1 : decode cX7_begin 1 = .ok (.iload_n 1, 1) := by decide +kernel
theorem dX7_begin_2 : decode cX7_begin 2 = .ok (.invokestatic 132, 3) := by decide +kernel
theorem dX7_begin_5 : decode cX7_begin 5 = .ok (.ifCond .eq 21, 3) := by decide +kernel
theorem dX7_begin_8 : decode cX7_begin 8 = .ok (.iload_n 2, 1) := by decide +kernel
theorem dX7_begin_9 : decode cX7_begin 9 = .ok (.invokestatic 132, 3) := by decide +kernel
theorem dX7_begin_12 : decode cX7_begin 12 = .ok (.ifCond .eq 14, 3) := by decide +kernel
theorem dX7_begin_15 : decode cX7_begin 15 = .ok (.iload_n 3, 1) := by decide +kernel
theorem dX7_begin_16 : decode cX7_begin 16 = .ok (.invokestatic 132, 3) := by decide +kernel
theorem dX7_begin_19 : decode cX7_begin 19 = .ok (.ifCond .eq 7, 3) := by decide +kernel
theorem dX7_begin_22 : decode cX7_begin 22 = .ok (.iconst 0, 1) := by decide +kernel
theorem dX7_begin_23 : decode cX7_begin 23 = .ok (.goto 4, 3) := by decide +kernel
theorem dX7_begin_26 : decode cX7_begin 26 = .ok (.iconst 1, 1) := by decide +kernel
theorem dX7_begin_27 : decode cX7_begin 27 = .ok (.putfield 99, 3) := by decide +kernel
theorem dX7_begin_30 : decode cX7_begin 30 = .ok (.aload_n 0, 1) := by decide +kernel
theorem dX7_begin_31 : decode cX7_begin 31 = .ok (.getfield 99, 3) := by decide +kernel
theorem dX7_begin_34 : decode cX7_begin 34 = .ok (.ifCond .le 4, 3) := by decide +kernel
theorem dX7_begin_37 : decode cX7_begin 37 = .ok (.return_, 1) := by decide +kernel
theorem dX7_begin_38 : decode cX7_begin 38 = .ok (.aload_n 0, 1) := by decide +kernel
theorem dX7_begin_39 : decode cX7_begin 39 = .ok (.getfield 16, 3) := by decide +kernel
theorem dX7_begin_42 : decode cX7_begin 42 = .ok (.iconst 0, 1) := by decide +kernel
theorem dX7_begin_43 : decode cX7_begin 43 = .ok (.iload_n 1, 1) := by decide +kernel
theorem dX7_begin_44 : decode cX7_begin 44 = .ok (.iastore, 1) := by decide +kernel
theorem dX7_begin_45 : decode cX7_begin 45 = .ok (.aload_n 0, 1) := by decide +kernel
theorem dX7_begin_46 : decode cX7_begin 46 = .ok (.getfield 16, 3) := by decide +kernel
theorem dX7_begin_49 : decode cX7_begin 49 = .ok (.iconst 1, 1) := by decide +kernel
theorem dX7_begin_50 : decode cX7_begin 50 = .ok (.iload_n 2, 1) := by decide +kernel
theorem dX7_begin_51 : decode cX7_begin 51 = .ok (.iastore, 1) := by decide +kernel
theorem dX7_begin_52 : decode cX7_begin 52 = .ok (.aload_n 0, 1) := by decide +kernel
theorem dX7_begin_53 : decode cX7_begin 53 = .ok (.getfield 16, 3) := by decide +kernel
theorem dX7_begin_56 : decode cX7_begin 56 = .ok (.iconst 2, 1) := by decide +kernel
theorem dX7_begin_57 : decode cX7_begin 57 = .ok (.iload_n 3, 1) := by decide +kernel
theorem dX7_begin_58 : decode cX7_begin 58 = .ok (.iastore, 1) := by decide +kernel
theorem dX7_begin_59 : decode cX7_begin 59 = .ok (.iconst 0, 1) := by decide +kernel
theorem dX7_begin_60 : decode cX7_begin 60 = .ok (.istore 4, 2) := by decide +kernel
theorem dX7_begin_62 : decode cX7_begin 62 = .ok (.iload 4, 2) := by decide +kernel
theorem dX7_begin_64 : decode cX7_begin 64 = .ok (.iconst 3, 1) := by decide +kernel
theorem dX7_begin_65 : decode cX7_begin 65 = .ok (.if_icmp .ge 35, 3) := by decide +kernel
theorem dX7_begin_68 : decode cX7_begin 68 = .ok (.aload_n 0, 1) := by decide +kernel
theorem dX7_begin_69 : decode cX7_begin 69 = .ok (.getfield 19, 3) := by decide +kernel
theorem dX7_begin_72 : decode cX7_begin 72 = .ok (.iload 4, 2) := by decide +kernel
theorem dX7_begin_74 : decode cX7_begin 74 = .ok (.iconst 4, 1) := by decide +kernel
theorem dX7_begin_75 : decode cX7_begin 75 = .ok (.aload_n 0, 1) := by decide +kernel
theorem dX7_begin_76 : decode cX7_begin 76 = .ok (.getfield 16, 3) := by decide +kernel
theorem dX7_begin_79 : decode cX7_begin 79 = .ok (.iload 4, 2) := by decide +kernel
theorem dX7_begin_81 : decode cX7_begin 81 = .ok (.iaload, 1) := by decide +kernel
theorem dX7_begin_82 : decode cX7_begin 82 = .ok (.invokestatic 105, 3) := by decide +kernel
theorem dX7_begin_85 : decode cX7_begin 85 = .ok (.iastore, 1) := by decide +kernel
theorem dX7_begin_86 : decode cX7_begin 86 = .ok (.aload_n 0, 1) := by decide +kernel
theorem dX7_begin_87 : decode cX7_begin 87 = .ok (.getfield 41, 3) := by decide +kernel
theorem dX7_begin_90 : decode cX7_begin 90 = .ok (.iload 4, 2) := by decide +kernel
theorem dX7_begin_92 : decode cX7_begin 92 = .ok (.iconst 0, 1) := by decide +kernel
theorem dX7_begin_93 : decode cX7_begin 93 = .ok (.bastore, 1) := by decide +kernel
theorem dX7_begin_94 : decode cX7_begin 94 = .ok (.iinc 4 1, 3) := by decide +kernel
theorem dX7_begin_97 : decode cX7_begin 97 = .ok (.goto (-35), 3) := by decide +kernel
theorem dX7_begin_100 : decode cX7_begin 100 = .ok (.iconst 0, 1) := by decide +kernel
theorem dX7_begin_101 : decode cX7_begin 101 = .ok (.istore 4, 2) := by decide +kernel
theorem dX7_begin_103 : decode cX7_begin 103 = .ok (.iload 4, 2) := by decide +kernel
theorem dX7_begin_105 : decode cX7_begin 105 = .ok (.bipush 10, 2) := by decide +kernel
theorem dX7_begin_107 : decode cX7_begin 107 = .ok (.if_icmp .ge 25, 3) := by decide +kernel
theorem dX7_begin_110 : decode cX7_begin 110 = .ok (.aload_n 0, 1) := by decide +kernel
theorem dX7_begin_111 : decode cX7_begin 111 = .ok (.getfield 22, 3) := by decide +kernel
theorem dX7_begin_114 : decode cX7_begin 114 = .ok (.iload 4, 2) := by decide +kernel
theorem dX7_begin_116 : decode cX7_begin 116 = .ok (.iconst 0, 1) := by decide +kernel
theorem dX7_begin_117 : decode cX7_begin 117 = .ok (.bastore, 1) := by decide +kernel
theorem dX7_begin_118 : decode cX7_begin 118 = .ok (.aload_n 0, 1) := by decide +kernel
theorem dX7_begin_119 : decode cX7_begin 119 = .ok (.getfield 26, 3) := by decide +kernel
theorem dX7_begin_122 : decode cX7_begin 122 = .ok (.iload 4, 2) := by decide +kernel
theorem dX7_begin_124 : decode cX7_begin 124 = .ok (.iconst 0, 1) := by decide +kernel
theorem dX7_begin_125 : decode cX7_begin 125 = .ok (.bastore, 1) := by decide +kernel
theorem dX7_begin_126 : decode cX7_begin 126 = .ok (.iinc 4 1, 3) := by decide +kernel
theorem dX7_begin_129 : decode cX7_begin 129 = .ok (.goto (-26), 3) := by decide +kernel
theorem dX7_begin_132 : decode cX7_begin 132 = .ok (.aload_n 0, 1) := by decide +kernel
theorem dX7_begin_133 : decode cX7_begin 133 = .ok (.iconst 0, 1) := by decide +kernel
theorem dX7_begin_134 : decode cX7_begin 134 = .ok (.putfield 136, 3) := by decide +kernel
theorem dX7_begin_137 : decode cX7_begin 137 = .ok (.aload_n 0, 1) := by decide +kernel
theorem dX7_begin_138 : decode cX7_begin 138 = .ok (.iconst 0, 1) := by decide +kernel
theorem dX7_begin_139 : decode cX7_begin 139 = .ok (.putfield 129, 3) := by decide +kernel
theorem dX7_begin_142 : decode cX7_begin 142 = .ok (.aload_n 0, 1) := by decide +kernel
theorem dX7_begin_143 : decode cX7_begin 143 = .ok (.iconst 0, 1) := by decide +kernel
theorem dX7_begin_144 : decode cX7_begin 144 = .ok (.aload_n 0, 1) := by decide +kernel
theorem dX7_begin_145 : decode cX7_begin 145 = .ok (.getfield 19, 3) := by decide +kernel
theorem dX7_begin_148 : decode cX7_begin 148 = .ok (.iconst 0, 1) := by decide +kernel
theorem dX7_begin_149 : decode cX7_begin 149 = .ok (.iaload, 1) := by decide +kernel
theorem dX7_begin_150 : decode cX7_begin 150 = .ok (.aload_n 0, 1) := by decide +kernel
theorem dX7_begin_151 : decode cX7_begin 151 = .ok (.getfield 19, 3) := by decide +kernel
theorem dX7_begin_154 : decode cX7_begin 154 = .ok (.iconst 1, 1) := by decide +kernel
theorem dX7_begin_155 : decode cX7_begin 155 = .ok (.iaload, 1) := by decide +kernel
theorem dX7_begin_156 : decode cX7_begin 156 = .ok (.aload_n 0, 1) := by decide +kernel
theorem dX7_begin_157 : decode cX7_begin 157 = .ok (.getfield 19, 3) := by decide +kernel
theorem dX7_begin_160 : decode cX7_begin 160 = .ok (.iconst 2, 1) := by decide +kernel
theorem dX7_begin_161 : decode cX7_begin 161 = .ok (.iaload, 1) := by decide +kernel
theorem dX7_begin_162 : decode cX7_begin 162 = .ok (.invokevirtual 139, 3) := by decide +kernel
theorem dX7_begin_165 : decode cX7_begin 165 = .ok (.pop, 1) := by decide +kernel
theorem dX7_begin_166 : decode cX7_begin 166 = .ok (.aload_n 0, 1) := by decide +kernel
theorem dX7_begin_167 : decode cX7_begin 167 = .ok (.iconst 1, 1) := by decide +kernel
theorem dX7_begin_168 : decode cX7_begin 168 = .ok (.putfield 143, 3) := by decide +kernel
theorem dX7_begin_171 : decode cX7_begin 171 = .ok (.return_, 1) := by decide +kernel
theorem dX7_noVoter_0 : decode cX7_noVoter 0 = .ok (.iload_n 0, 1) := by decide +kernel
theorem dX7_noVoter_1 : decode cX7_noVoter 1 = .ok (.ifCond .lt 9, 3) := by decide +kernel
theorem dX7_noVoter_4 : decode cX7_noVoter 4 = .ok (.iload_n 0, 1) := by decide +kernel
theorem dX7_noVoter_5 : decode cX7_noVoter 5 = .ok (.bipush 9, 2) := by decide +kernel
theorem dX7_noVoter_7 : decode cX7_noVoter 7 = .ok (.if_icmp .le 7, 3) := by decide +kernel
theorem dX7_noVoter_10 : decode cX7_noVoter 10 = .ok (.iconst 1, 1) := by decide +kernel
theorem dX7_noVoter_11 : decode cX7_noVoter 11 = .ok (.goto 4, 3) := by decide +kernel
theorem dX7_noVoter_14 : decode cX7_noVoter 14 = .ok (.iconst 0, 1) := by decide +kernel
theorem dX7_noVoter_15 : decode cX7_noVoter 15 = .ok (.ireturn, 1) := by decide +kernel
set_option maxRecDepth 20000 in
theorem ggX7_register_X7_noVoter : GoodIn wsX7_register wsX7_noVoter := goodIn_r _ [7] rfl (by decide +kernel)
set_option maxRecDepth 20000 in
theorem gX7_register_X7_noVoter : GoodIn wsX7_register (va_wsS RX7 146 yX7_noVoter wsX7_noVoter) := goodIn_app (goodIn_r _ [4, 5, 6] rfl (by decide +kernel)) ggX7_register_X7_noVoter
set_option maxRecDepth 20000 in
theorem ggX7_register_X7_noRoom : GoodIn wsX7_register wsX7_noRoom := goodIn_r _ [11, 12, 19, 20, 21, 22, 23, 24, 25, 26, 27, 28, 29, 30, 31, 32, 33, 34, 35, 36, 37, 38, 39, 40, 41, 42, 43, 44, 45, 46, 47, 48, 49, 50, 51, 52, 53, 54, 55, 56, 57] rfl (by decide +kernel)
set_option maxRecDepth 20000 in
theorem gX7_register_X7_noRoom : GoodIn wsX7_register (wsV RX7 149 RX7 yX7_noRoom wsX7_noRoom) := goodIn_app (goodIn_r _ [8, 9, 10, 6] rfl (by decide +kernel)) ggX7_register_X7_noRoom
set_option maxRecDepth 20000 in
theorem ggX7_register_X7_put : GoodIn wsX7_register wsX7_put := goodIn_r _ [16, 12, 17, 18, 19, 20, 21, 22, 23, 24, 25, 26, 27, 28, 29, 30, 31, 32, 33, 34, 35, 36, 37, 38, 39, 40, 41, 42, 43, 44, 45, 46, 47, 48, 49, 50, 51, 52, 53, 54, 55, 56, 57] rfl (by decide +kernel)
set_option maxRecDepth 20000 in
theorem gX7_register_X7_put : GoodIn wsX7_register (wsV RX7 139 RX7 yX7_put wsX7_put) := goodIn_app (goodIn_r _ [13, 14, 15, 6] rfl (by decide +kernel)) ggX7_register_X7_put
theorem dX7_register_0 : decode cX7_register 0 = .ok (.aload_n 0, 1) := by decide +kernel
theorem dX7_register_1 : decode cX7_register 1 = .ok (.iload_n 1, 1) := by decide +kernel
theorem dX7_register_2 : decode cX7_register 2 = .ok (.invokestatic 146, 3) := by decide +kernel
theorem dX7_register_5 : decode cX7_register 5 = .ok (.ifCond .eq 7, 3) := by decide +kernel
theorem dX7_register_8 : decode cX7_register 8 = .ok (.iconst 1, 1) := by decide +kernel
theorem dX7_register_9 : decode cX7_register 9 = .ok (.goto 37, 3) := by decide +kernel
theorem dX7_register_12 : decode cX7_register 12 = .ok (.aload_n 0, 1) := by decide +kernel
theorem dX7_register_13 : decode cX7_register 13 = .ok (.getfield 143, 3) := by decide +kernel
theorem dX7_register_16 : decode cX7_register 16 = .ok (.iconst 1, 1) := by decide +kernel
theorem dX7_register_17 : decode cX7_register 17 = .ok (.if_icmp .ne 12, 3) := by decide +kernel
theorem dX7_register_20 : decode cX7_register 20 = .ok (.aload_n 0, 1) := by decide +kernel
theorem dX7_register_21 : decode cX7_register 21 = .ok (.getfield 22, 3) := by decide +kernel
theorem dX7_register_24 : decode cX7_register 24 = .ok (.iload_n 1, 1) := by decide +kernel
theorem dX7_register_25 : decode cX7_register 25 = .ok (.baload, 1) := by decide +kernel
theorem dX7_register_26 : decode cX7_register 26 = .ok (.ifCond .eq 7, 3) := by decide +kernel
theorem dX7_register_29 : decode cX7_register 29 = .ok (.iconst 2, 1) := by decide +kernel
theorem dX7_register_30 : decode cX7_register 30 = .ok (.goto 16, 3) := by decide +kernel
theorem dX7_register_33 : decode cX7_register 33 = .ok (.aload_n 0, 1) := by decide +kernel
theorem dX7_register_34 : decode cX7_register 34 = .ok (.iconst 1, 1) := by decide +kernel
theorem dX7_register_35 : decode cX7_register 35 = .ok (.invokevirtual 149, 3) := by decide +kernel
theorem dX7_register_38 : decode cX7_register 38 = .ok (.ifCond .eq 7, 3) := by decide +kernel
theorem dX7_register_41 : decode cX7_register 41 = .ok (.iconst 3, 1) := by decide +kernel
theorem dX7_register_42 : decode cX7_register 42 = .ok (.goto 4, 3) := by decide +kernel
theorem dX7_register_45 : decode cX7_register 45 = .ok (.iconst 0, 1) := by decide +kernel
theorem dX7_register_46 : decode cX7_register 46 = .ok (.putfield 99, 3) := by decide +kernel
theorem dX7_register_49 : decode cX7_register 49 = .ok (.aload_n 0, 1) := by decide +kernel
theorem dX7_register_50 : decode cX7_register 50 = .ok (.getfield 99, 3) := by decide +kernel
theorem dX7_register_53 : decode cX7_register 53 = .ok (.ifCond .le 4, 3) := by decide +kernel
theorem dX7_register_56 : decode cX7_register 56 = .ok (.return_, 1) := by decide +kernel
theorem dX7_register_57 : decode cX7_register 57 = .ok (.aload_n 0, 1) := by decide +kernel
theorem dX7_register_58 : decode cX7_register 58 = .ok (.getfield 22, 3) := by decide +kernel
theorem dX7_register_61 : decode cX7_register 61 = .ok (.iload_n 1, 1) := by decide +kernel
theorem dX7_register_62 : decode cX7_register 62 = .ok (.iconst 1, 1) := by decide +kernel
theorem dX7_register_63 : decode cX7_register 63 = .ok (.bastore, 1) := by decide +kernel
theorem dX7_register_64 : decode cX7_register 64 = .ok (.aload_n 0, 1) := by decide +kernel
theorem dX7_register_65 : decode cX7_register 65 = .ok (.iconst 1, 1) := by decide +kernel
theorem dX7_register_66 : decode cX7_register 66 = .ok (.iload_n 1, 1) := by decide +kernel
theorem dX7_register_67 : decode cX7_register 67 = .ok (.iconst 0, 1) := by decide +kernel
theorem dX7_register_68 : decode cX7_register 68 = .ok (.iconst 0, 1) := by decide +kernel
theorem dX7_register_69 : decode cX7_register 69 = .ok (.invokevirtual 139, 3) := by decide +kernel
theorem dX7_register_72 : decode cX7_register 72 = .ok (.pop, 1) := by decide +kernel
theorem dX7_register_73 : decode cX7_register 73 = .ok (.return_, 1) := by decide +kernel
set_option maxRecDepth 20000 in
theorem ggX7_publicKey_X7_times : GoodIn wsX7_publicKey wsX7_times := goodIn_r _ [5, 6] rfl (by decide +kernel)
set_option maxRecDepth 20000 in
theorem gX7_publicKey_X7_times : GoodIn wsX7_publicKey (va_wsS RX7 152 yX7_times wsX7_times) := goodIn_app (goodIn_r _ [2, 3, 4] rfl (by decide +kernel)) ggX7_publicKey_X7_times
theorem dX7_publicKey_0 : decode cX7_publicKey 0 = .ok (.aload_n 0, 1) := by decide +kernel
theorem dX7_publicKey_1 : decode cX7_publicKey 1 = .ok (.getfield 19, 3) := by decide +kernel
theorem dX7_publicKey_4 : decode cX7_publicKey 4 = .ok (.iconst 0, 1) := by decide +kernel
theorem dX7_publicKey_5 : decode cX7_publicKey 5 = .ok (.iaload, 1) := by decide +kernel
theorem dX7_publicKey_6 : decode cX7_publicKey 6 = .ok (.aload_n 0, 1) := by decide +kernel
theorem dX7_publicKey_7 : decode cX7_publicKey 7 = .ok (.getfield 19, 3) := by decide +kernel
theorem dX7_publicKey_10 : decode cX7_publicKey 10 = .ok (.iconst 1, 1) := by decide +kernel
theorem dX7_publicKey_11 : decode cX7_publicKey 11 = .ok (.iaload, 1) := by decide +kernel
theorem dX7_publicKey_12 : decode cX7_publicKey 12 = .ok (.invokestatic 152, 3) := by decide +kernel
theorem dX7_publicKey_15 : decode cX7_publicKey 15 = .ok (.aload_n 0, 1) := by decide +kernel
theorem dX7_publicKey_16 : decode cX7_publicKey 16 = .ok (.getfield 19, 3) := by decide +kernel
theorem dX7_publicKey_19 : decode cX7_publicKey 19 = .ok (.iconst 2, 1) := by decide +kernel
theorem dX7_publicKey_20 : decode cX7_publicKey 20 = .ok (.iaload, 1) := by decide +kernel
theorem dX7_publicKey_21 : decode cX7_publicKey 21 = .ok (.invokestatic 152, 3) := by decide +kernel
theorem dX7_publicKey_24 : decode cX7_publicKey 24 = .ok (.ireturn, 1) := by decide +kernel
set_option maxRecDepth 20000 in
theorem ggX7_cast_X7_noVoter : GoodIn wsX7_cast wsX7_noVoter := goodIn_r _ [10] rfl (by decide +kernel)
set_option maxRecDepth 20000 in
theorem gX7_cast_X7_noVoter : GoodIn wsX7_cast (va_wsS RX7 146 yX7_noVoter wsX7_noVoter) := goodIn_app (goodIn_r _ [7, 8, 9] rfl (by decide +kernel)) ggX7_cast_X7_noVoter
set_option maxRecDepth 20000 in
theorem ggX7_cast_X7_isNumber : GoodIn wsX7_cast wsX7_isNumber := goodIn_r _ [13] rfl (by decide +kernel)
set_option maxRecDepth 20000 in
theorem gX7_cast_X7_isNumber : GoodIn wsX7_cast (va_wsS RX7 132 yX7_isNumber wsX7_isNumber) := goodIn_app (goodIn_r _ [11, 12, 9] rfl (by decide +kernel)) ggX7_cast_X7_isNumber
set_option maxRecDepth 20000 in
theorem ggX7_cast_X7_noRoom : GoodIn wsX7_cast wsX7_noRoom := goodIn_r _ [17, 18, 37, 38, 39, 40, 41, 42, 43, 44, 45, 46, 47, 48, 49, 50, 51, 52, 53, 54, 55, 56, 57, 58, 59, 60, 61, 62, 63, 64, 65, 66, 67, 68, 69, 70, 71, 72, 73, 74, 75] rfl (by decide +kernel)
set_option maxRecDepth 20000 in
theorem gX7_cast_X7_noRoom : GoodIn wsX7_cast (wsV RX7 149 RX7 yX7_noRoom wsX7_noRoom) := goodIn_app (goodIn_r _ [14, 15, 16, 9] rfl (by decide +kernel)) ggX7_cast_X7_noRoom
set_option maxRecDepth 20000 in
theorem ggX7_cast_X7_power : GoodIn wsX7_cast wsX7_power := goodIn_r _ [21, 22] rfl (by decide +kernel)
set_option maxRecDepth 20000 in
theorem gX7_cast_X7_power : GoodIn wsX7_cast (va_wsS RX7 105 yX7_power wsX7_power) := goodIn_app (goodIn_r _ [19, 20, 9] rfl (by decide +kernel)) ggX7_cast_X7_power
set_option maxRecDepth 20000 in
theorem ggX7_cast_X7_publicKey : GoodIn wsX7_cast wsX7_publicKey := goodIn_r _ [26, 27, 28, 29, 9, 30, 22, 37, 38, 39, 40, 41, 42, 43, 44, 45, 46, 47, 48, 49, 50, 51, 52, 53, 54, 55, 56, 57, 58, 59, 60, 61, 62, 63, 64, 65, 66, 67, 68, 69, 70, 71, 72, 73, 74, 75] rfl (by decide +kernel)
set_option maxRecDepth 20000 in
theorem gX7_cast_X7_publicKey : GoodIn wsX7_cast (wsV RX7 155 RX7 yX7_publicKey wsX7_publicKey) := goodIn_app (goodIn_r _ [23, 24, 25, 9] rfl (by decide +kernel)) ggX7_cast_X7_publicKey
set_option maxRecDepth 20000 in
theorem ggX7_cast_X7_times : GoodIn wsX7_cast wsX7_times := goodIn_r _ [30, 22] rfl (by decide +kernel)
set_option maxRecDepth 20000 in
theorem gX7_cast_X7_times : GoodIn wsX7_cast (va_wsS RX7 152 yX7_times wsX7_times) := goodIn_app (goodIn_r _ [28, 29, 9] rfl (by decide +kernel)) ggX7_cast_X7_times
set_option maxRecDepth 20000 in
theorem ggX7_cast_X7_put : GoodIn wsX7_cast wsX7_put := goodIn_r _ [34, 18, 35, 36, 37, 38, 39, 40, 41, 42, 43, 44, 45, 46, 47, 48, 49, 50, 51, 52, 53, 54, 55, 56, 57, 58, 59, 60, 61, 62, 63, 64, 65, 66, 67, 68, 69, 70, 71, 72, 73, 74, 75] rfl (by decide +kernel)
set_option maxRecDepth 20000 in
theorem gX7_cast_X7_put : GoodIn wsX7_cast (wsV RX7 139 RX7 yX7_put wsX7_put) := goodIn_app (goodIn_r _ [31, 32, 33, 9] rfl (by decide +kernel)) ggX7_cast_X7_put
theorem dX7_cast_0 : decode cX7_cast 0 = .ok (.aload_n 0, 1) := by decide +kernel
theorem dX7_cast_1 : decode cX7_cast 1 = .ok (.iload_n 1, 1) := by decide +kernel
theorem dX7_cast_2 : decode cX7_cast 2 = .ok (.invokestatic 146, 3) := by decide +kernel
theorem dX7_cast_5 : decode cX7_cast 5 = .ok (.ifCond .ne 19, 3) := by decide +kernel
theorem dX7_cast_8 : decode cX7_cast 8 = .ok (.iload_n 2, 1) := by decide +kernel
theorem dX7_cast_9 : decode cX7_cast 9 = .ok (.ifCond .lt 15, 3) := by decide +kernel
theorem dX7_cast_12 : decode cX7_cast 12 = .ok (.iload_n 2, 1) := by decide +kernel
theorem dX7_cast_13 : decode cX7_cast 13 = .ok (.iconst 3, 1) := by decide +kernel
theorem dX7_cast_14 : decode cX7_cast 14 = .ok (.if_icmp .gt 10, 3) := by decide +kernel
theorem dX7_cast_17 : decode cX7_cast 17 = .ok (.iload_n 3, 1) := by decide +kernel
theorem dX7_cast_18 : decode cX7_cast 18 = .ok (.invokestatic 132, 3) := by decide +kernel
theorem dX7_cast_21 : decode cX7_cast 21 = .ok (.ifCond .ne 7, 3) := by decide +kernel
theorem dX7_cast_24 : decode cX7_cast 24 = .ok (.iconst 1, 1) := by decide +kernel
theorem dX7_cast_25 : decode cX7_cast 25 = .ok (.goto 37, 3) := by decide +kernel
theorem dX7_cast_28 : decode cX7_cast 28 = .ok (.aload_n 0, 1) := by decide +kernel
theorem dX7_cast_29 : decode cX7_cast 29 = .ok (.getfield 143, 3) := by decide +kernel
theorem dX7_cast_32 : decode cX7_cast 32 = .ok (.iconst 1, 1) := by decide +kernel
theorem dX7_cast_33 : decode cX7_cast 33 = .ok (.if_icmp .ne 12, 3) := by decide +kernel
theorem dX7_cast_36 : decode cX7_cast 36 = .ok (.aload_n 0, 1) := by decide +kernel
theorem dX7_cast_37 : decode cX7_cast 37 = .ok (.getfield 22, 3) := by decide +kernel
theorem dX7_cast_40 : decode cX7_cast 40 = .ok (.iload_n 1, 1) := by decide +kernel
theorem dX7_cast_41 : decode cX7_cast 41 = .ok (.baload, 1) := by decide +kernel
theorem dX7_cast_42 : decode cX7_cast 42 = .ok (.ifCond .ne 7, 3) := by decide +kernel
theorem dX7_cast_45 : decode cX7_cast 45 = .ok (.iconst 2, 1) := by decide +kernel
theorem dX7_cast_46 : decode cX7_cast 46 = .ok (.goto 16, 3) := by decide +kernel
theorem dX7_cast_49 : decode cX7_cast 49 = .ok (.aload_n 0, 1) := by decide +kernel
theorem dX7_cast_50 : decode cX7_cast 50 = .ok (.iconst 1, 1) := by decide +kernel
theorem dX7_cast_51 : decode cX7_cast 51 = .ok (.invokevirtual 149, 3) := by decide +kernel
theorem dX7_cast_54 : decode cX7_cast 54 = .ok (.ifCond .eq 7, 3) := by decide +kernel
theorem dX7_cast_57 : decode cX7_cast 57 = .ok (.iconst 3, 1) := by decide +kernel
theorem dX7_cast_58 : decode cX7_cast 58 = .ok (.goto 4, 3) := by decide +kernel
theorem dX7_cast_61 : decode cX7_cast 61 = .ok (.iconst 0, 1) := by decide +kernel
theorem dX7_cast_62 : decode cX7_cast 62 = .ok (.putfield 99, 3) := by decide +kernel
theorem dX7_cast_65 : decode cX7_cast 65 = .ok (.aload_n 0, 1) := by decide +kernel
theorem dX7_cast_66 : decode cX7_cast 66 = .ok (.getfield 99, 3) := by decide +kernel
theorem dX7_cast_69 : decode cX7_cast 69 = .ok (.ifCond .le 5, 3) := by decide +kernel
theorem dX7_cast_72 : decode cX7_cast 72 = .ok (.iconst 0, 1) := by decide +kernel
theorem dX7_cast_73 : decode cX7_cast 73 = .ok (.ireturn, 1) := by decide +kernel
theorem dX7_cast_74 : decode cX7_cast 74 = .ok (.aload_n 0, 1) := by decide +kernel
theorem dX7_cast_75 : decode cX7_cast 75 = .ok (.getfield 26, 3) := by decide +kernel
theorem dX7_cast_78 : decode cX7_cast 78 = .ok (.iload_n 1, 1) := by decide +kernel
theorem dX7_cast_79 : decode cX7_cast 79 = .ok (.iconst 1, 1) := by decide +kernel
theorem dX7_cast_80 : decode cX7_cast 80 = .ok (.bastore, 1) := by decide +kernel
theorem dX7_cast_81 : decode cX7_cast 81 = .ok (.aload_n 0, 1) := by decide +kernel
theorem dX7_cast_82 : decode cX7_cast 82 = .ok (.getfield 29, 3) := by decide +kernel
theorem dX7_cast_85 : decode cX7_cast 85 = .ok (.iload_n 1, 1) := by decide +kernel
theorem dX7_cast_86 : decode cX7_cast 86 = .ok (.iconst 4, 1) := by decide +kernel
theorem dX7_cast_87 : decode cX7_cast 87 = .ok (.iload_n 3, 1) := by decide +kernel
theorem dX7_cast_88 : decode cX7_cast 88 = .ok (.invokestatic 105, 3) := by decide +kernel
theorem dX7_cast_91 : decode cX7_cast 91 = .ok (.iastore, 1) := by decide +kernel
theorem dX7_cast_92 : decode cX7_cast 92 = .ok (.aload_n 0, 1) := by decide +kernel
theorem dX7_cast_93 : decode cX7_cast 93 = .ok (.getfield 32, 3) := by decide +kernel
theorem dX7_cast_96 : decode cX7_cast 96 = .ok (.iload_n 1, 1) := by decide +kernel
theorem dX7_cast_97 : decode cX7_cast 97 = .ok (.iconst 4, 1) := by decide +kernel
theorem dX7_cast_98 : decode cX7_cast 98 = .ok (.iload_n 2, 1) := by decide +kernel
theorem dX7_cast_99 : decode cX7_cast 99 = .ok (.invokestatic 105, 3) := by decide +kernel
theorem dX7_cast_102 : decode cX7_cast 102 = .ok (.aload_n 0, 1) := by decide +kernel
theorem dX7_cast_103 : decode cX7_cast 103 = .ok (.invokevirtual 155, 3) := by decide +kernel
theorem dX7_cast_106 : decode cX7_cast 106 = .ok (.iload_n 3, 1) := by decide +kernel
theorem dX7_cast_107 : decode cX7_cast 107 = .ok (.invokestatic 105, 3) := by decide +kernel
theorem dX7_cast_110 : decode cX7_cast 110 = .ok (.invokestatic 152, 3) := by decide +kernel
theorem dX7_cast_113 : decode cX7_cast 113 = .ok (.iastore, 1) := by decide +kernel
theorem dX7_cast_114 : decode cX7_cast 114 = .ok (.aload_n 0, 1) := by decide +kernel
theorem dX7_cast_115 : decode cX7_cast 115 = .ok (.iconst 2, 1) := by decide +kernel
theorem dX7_cast_116 : decode cX7_cast 116 = .ok (.iload_n 1, 1) := by decide +kernel
theorem dX7_cast_117 : decode cX7_cast 117 = .ok (.aload_n 0, 1) := by decide +kernel
theorem dX7_cast_118 : decode cX7_cast 118 = .ok (.getfield 29, 3) := by decide +kernel
theorem dX7_cast_121 : decode cX7_cast 121 = .ok (.iload_n 1, 1) := by decide +kernel
theorem dX7_cast_122 : decode cX7_cast 122 = .ok (.iaload, 1) := by decide +kernel
theorem dX7_cast_123 : decode cX7_cast 123 = .ok (.aload_n 0, 1) := by decide +kernel
theorem dX7_cast_124 : decode cX7_cast 124 = .ok (.getfield 32, 3) := by decide +kernel
theorem dX7_cast_127 : decode cX7_cast 127 = .ok (.iload_n 1, 1) := by decide +kernel
theorem dX7_cast_128 : decode cX7_cast 128 = .ok (.iaload, 1) := by decide +kernel
theorem dX7_cast_129 : decode cX7_cast 129 = .ok (.invokevirtual 139, 3) := by decide +kernel
theorem dX7_cast_132 : decode cX7_cast 132 = .ok (.ireturn, 1) := by decide +kernel
set_option maxRecDepth 20000 in
theorem ggX7_close_X7_noRoom : GoodIn wsX7_close wsX7_noRoom := goodIn_r _ [13, 14, 21, 22, 23, 24, 25, 26, 27, 28, 29, 30, 31, 32, 33, 34, 35, 36, 37, 38, 39, 40, 41, 42, 43, 44, 45, 46, 47, 48, 49, 50, 51, 52, 53, 54, 55, 56, 57, 58, 59] rfl (by decide +kernel)
set_option maxRecDepth 20000 in
theorem gX7_close_X7_noRoom : GoodIn wsX7_close (wsV RX7 149 RX7 yX7_noRoom wsX7_noRoom) := goodIn_app (goodIn_r _ [9, 10, 11, 12] rfl (by decide +kernel)) ggX7_close_X7_noRoom
set_option maxRecDepth 20000 in
theorem ggX7_close_X7_put : GoodIn wsX7_close wsX7_put := goodIn_r _ [18, 14, 19, 20, 21, 22, 23, 24, 25, 26, 27, 28, 29, 30, 31, 32, 33, 34, 35, 36, 37, 38, 39, 40, 41, 42, 43, 44, 45, 46, 47, 48, 49, 50, 51, 52, 53, 54, 55, 56, 57, 58, 59] rfl (by decide +kernel)
set_option maxRecDepth 20000 in
theorem gX7_close_X7_put : GoodIn wsX7_close (wsV RX7 139 RX7 yX7_put wsX7_put) := goodIn_app (goodIn_r _ [15, 16, 17, 12] rfl (by decide +kernel)) ggX7_close_X7_put
theorem dX7_close_0 : decode cX7_close 0 = .ok (.iconst 0, 1) := by decide +kernel
theorem dX7_close_1 : decode cX7_close 1 = .ok (.istore_n 1, 1) := by decide +kernel
theorem dX7_close_2 : decode cX7_close 2 = .ok (.iconst 0, 1) := by decide +kernel
theorem dX7_close_3 : decode cX7_close 3 = .ok (.istore_n 2, 1) := by decide +kernel
theorem dX7_close_4 : decode cX7_close 4 = .ok (.iload_n 2, 1) := by decide +kernel
theorem dX7_close_5 : decode cX7_close 5 = .ok (.bipush 10, 2) := by decide +kernel
theorem dX7_close_7 : decode cX7_close 7 = .ok (.if_icmp .ge 26, 3) := by decide +kernel
theorem dX7_close_10 : decode cX7_close 10 = .ok (.aload_n 0, 1) := by decide +kernel
theorem dX7_close_11 : decode cX7_close 11 = .ok (.getfield 26, 3) := by decide +kernel
theorem dX7_close_14 : decode cX7_close 14 = .ok (.iload_n 2, 1) := by decide +kernel
theorem dX7_close_15 : decode cX7_close 15 = .ok (.baload, 1) := by decide +kernel
theorem dX7_close_16 : decode cX7_close 16 = .ok (.ifCond .eq 9, 3) := by decide +kernel
theorem dX7_close_19 : decode cX7_close 19 = .ok (.iload_n 1, 1) := by decide +kernel
theorem dX7_close_20 : decode cX7_close 20 = .ok (.iconst 1, 1) := by decide +kernel
theorem dX7_close_21 : decode cX7_close 21 = .ok (.iadd, 1) := by decide +kernel
theorem dX7_close_22 : decode cX7_close 22 = .ok (.goto 4, 3) := by decide +kernel
theorem dX7_close_25 : decode cX7_close 25 = .ok (.iload_n 1, 1) := by decide +kernel
theorem dX7_close_26 : decode cX7_close 26 = .ok (.istore_n 1, 1) := by decide +kernel
theorem dX7_close_27 : decode cX7_close 27 = .ok (.iinc 2 1, 3) := by decide +kernel
theorem dX7_close_30 : decode cX7_close 30 = .ok (.goto (-26), 3) := by decide +kernel
theorem dX7_close_33 : decode cX7_close 33 = .ok (.aload_n 0, 1) := by decide +kernel
theorem dX7_close_34 : decode cX7_close 34 = .ok (.aload_n 0, 1) := by decide +kernel
theorem dX7_close_35 : decode cX7_close 35 = .ok (.getfield 143, 3) := by decide +kernel
theorem dX7_close_38 : decode cX7_close 38 = .ok (.iconst 1, 1) := by decide +kernel
theorem dX7_close_39 : decode cX7_close 39 = .ok (.if_icmp .eq 7, 3) := by decide +kernel
theorem dX7_close_42 : decode cX7_close 42 = .ok (.iconst 1, 1) := by decide +kernel
theorem dX7_close_43 : decode cX7_close 43 = .ok (.goto 18, 3) := by decide +kernel
theorem dX7_close_46 : decode cX7_close 46 = .ok (.aload_n 0, 1) := by decide +kernel
theorem dX7_close_47 : decode cX7_close 47 = .ok (.iconst 1, 1) := by decide +kernel
theorem dX7_close_48 : decode cX7_close 48 = .ok (.iload_n 1, 1) := by decide +kernel
theorem dX7_close_49 : decode cX7_close 49 = .ok (.iadd, 1) := by decide +kernel
theorem dX7_close_50 : decode cX7_close 50 = .ok (.invokevirtual 149, 3) := by decide +kernel
theorem dX7_close_53 : decode cX7_close 53 = .ok (.ifCond .eq 7, 3) := by decide +kernel
theorem dX7_close_56 : decode cX7_close 56 = .ok (.iconst 2, 1) := by decide +kernel
theorem dX7_close_57 : decode cX7_close 57 = .ok (.goto 4, 3) := by decide +kernel
theorem dX7_close_60 : decode cX7_close 60 = .ok (.iconst 0, 1) := by decide +kernel
theorem dX7_close_61 : decode cX7_close 61 = .ok (.putfield 99, 3) := by decide +kernel
theorem dX7_close_64 : decode cX7_close 64 = .ok (.aload_n 0, 1) := by decide +kernel
theorem dX7_close_65 : decode cX7_close 65 = .ok (.getfield 99, 3) := by decide +kernel
theorem dX7_close_68 : decode cX7_close 68 = .ok (.ifCond .le 5, 3) := by decide +kernel
theorem dX7_close_71 : decode cX7_close 71 = .ok (.iconst 0, 1) := by decide +kernel
theorem dX7_close_72 : decode cX7_close 72 = .ok (.ireturn, 1) := by decide +kernel
theorem dX7_close_73 : decode cX7_close 73 = .ok (.aload_n 0, 1) := by decide +kernel
theorem dX7_close_74 : decode cX7_close 74 = .ok (.iconst 3, 1) := by decide +kernel
theorem dX7_close_75 : decode cX7_close 75 = .ok (.iconst 0, 1) := by decide +kernel
theorem dX7_close_76 : decode cX7_close 76 = .ok (.iconst 0, 1) := by decide +kernel
theorem dX7_close_77 : decode cX7_close 77 = .ok (.iconst 0, 1) := by decide +kernel
theorem dX7_close_78 : decode cX7_close 78 = .ok (.invokevirtual 139, 3) := by decide +kernel
theorem dX7_close_81 : decode cX7_close 81 = .ok (.pop, 1) := by decide +kernel
theorem dX7_close_82 : decode cX7_close 82 = .ok (.aload_n 0, 1) := by decide +kernel
theorem dX7_close_83 : decode cX7_close 83 = .ok (.iconst 0, 1) := by decide +kernel
theorem dX7_close_84 : decode cX7_close 84 = .ok (.putfield 136, 3) := by decide +kernel
theorem dX7_close_87 : decode cX7_close 87 = .ok (.iconst 0, 1) := by decide +kernel
theorem dX7_close_88 : decode cX7_close 88 = .ok (.istore_n 2, 1) := by decide +kernel
theorem dX7_close_89 : decode cX7_close 89 = .ok (.iload_n 2, 1) := by decide +kernel
theorem dX7_close_90 : decode cX7_close 90 = .ok (.bipush 10, 2) := by decide +kernel
theorem dX7_close_92 : decode cX7_close 92 = .ok (.if_icmp .ge 77, 3) := by decide +kernel
theorem dX7_close_95 : decode cX7_close 95 = .ok (.aload_n 0, 1) := by decide +kernel
theorem dX7_close_96 : decode cX7_close 96 = .ok (.getfield 26, 3) := by decide +kernel
theorem dX7_close_99 : decode cX7_close 99 = .ok (.iload_n 2, 1) := by decide +kernel
theorem dX7_close_100 : decode cX7_close 100 = .ok (.baload, 1) := by decide +kernel
theorem dX7_close_101 : decode cX7_close 101 = .ok (.ifCond .eq 62, 3) := by decide +kernel
theorem dX7_close_104 : decode cX7_close 104 = .ok (.aload_n 0, 1) := by decide +kernel
theorem dX7_close_105 : decode cX7_close 105 = .ok (.getfield 35, 3) := by decide +kernel
theorem dX7_close_108 : decode cX7_close 108 = .ok (.aload_n 0, 1) := by decide +kernel
theorem dX7_close_109 : decode cX7_close 109 = .ok (.getfield 136, 3) := by decide +kernel
theorem dX7_close_112 : decode cX7_close 112 = .ok (.aload_n 0, 1) := by decide +kernel
theorem dX7_close_113 : decode cX7_close 113 = .ok (.getfield 29, 3) := by decide +kernel
theorem dX7_close_116 : decode cX7_close 116 = .ok (.iload_n 2, 1) := by decide +kernel
theorem dX7_close_117 : decode cX7_close 117 = .ok (.iaload, 1) := by decide +kernel
theorem dX7_close_118 : decode cX7_close 118 = .ok (.iastore, 1) := by decide +kernel
theorem dX7_close_119 : decode cX7_close 119 = .ok (.aload_n 0, 1) := by decide +kernel
theorem dX7_close_120 : decode cX7_close 120 = .ok (.getfield 38, 3) := by decide +kernel
theorem dX7_close_123 : decode cX7_close 123 = .ok (.aload_n 0, 1) := by decide +kernel
theorem dX7_close_124 : decode cX7_close 124 = .ok (.getfield 136, 3) := by decide +kernel
theorem dX7_close_127 : decode cX7_close 127 = .ok (.aload_n 0, 1) := by decide +kernel
theorem dX7_close_128 : decode cX7_close 128 = .ok (.getfield 32, 3) := by decide +kernel
theorem dX7_close_131 : decode cX7_close 131 = .ok (.iload_n 2, 1) := by decide +kernel
theorem dX7_close_132 : decode cX7_close 132 = .ok (.iaload, 1) := by decide +kernel
theorem dX7_close_133 : decode cX7_close 133 = .ok (.iastore, 1) := by decide +kernel
theorem dX7_close_134 : decode cX7_close 134 = .ok (.aload_n 0, 1) := by decide +kernel
theorem dX7_close_135 : decode cX7_close 135 = .ok (.iconst 5, 1) := by decide +kernel
theorem dX7_close_136 : decode cX7_close 136 = .ok (.aload_n 0, 1) := by decide +kernel
theorem dX7_close_137 : decode cX7_close 137 = .ok (.getfield 29, 3) := by decide +kernel
theorem dX7_close_140 : decode cX7_close 140 = .ok (.iload_n 2, 1) := by decide +kernel
theorem dX7_close_141 : decode cX7_close 141 = .ok (.iaload, 1) := by decide +kernel
theorem dX7_close_142 : decode cX7_close 142 = .ok (.aload_n 0, 1) := by decide +kernel
theorem dX7_close_143 : decode cX7_close 143 = .ok (.getfield 32, 3) := by decide +kernel
theorem dX7_close_146 : decode cX7_close 146 = .ok (.iload_n 2, 1) := by decide +kernel
theorem dX7_close_147 : decode cX7_close 147 = .ok (.iaload, 1) := by decide +kernel
theorem dX7_close_148 : decode cX7_close 148 = .ok (.iconst 0, 1) := by decide +kernel
theorem dX7_close_149 : decode cX7_close 149 = .ok (.invokevirtual 139, 3) := by decide +kernel
theorem dX7_close_152 : decode cX7_close 152 = .ok (.pop, 1) := by decide +kernel
theorem dX7_close_153 : decode cX7_close 153 = .ok (.aload_n 0, 1) := by decide +kernel
theorem dX7_close_154 : decode cX7_close 154 = .ok (.dup, 1) := by decide +kernel
theorem dX7_close_155 : decode cX7_close 155 = .ok (.getfield 136, 3) := by decide +kernel
theorem dX7_close_158 : decode cX7_close 158 = .ok (.iconst 1, 1) := by decide +kernel
theorem dX7_close_159 : decode cX7_close 159 = .ok (.iadd, 1) := by decide +kernel
theorem dX7_close_160 : decode cX7_close 160 = .ok (.putfield 136, 3) := by decide +kernel
theorem dX7_close_163 : decode cX7_close 163 = .ok (.iinc 2 1, 3) := by decide +kernel
theorem dX7_close_166 : decode cX7_close 166 = .ok (.goto (-77), 3) := by decide +kernel
theorem dX7_close_169 : decode cX7_close 169 = .ok (.aload_n 0, 1) := by decide +kernel
theorem dX7_close_170 : decode cX7_close 170 = .ok (.iconst 2, 1) := by decide +kernel
theorem dX7_close_171 : decode cX7_close 171 = .ok (.putfield 143, 3) := by decide +kernel
theorem dX7_close_174 : decode cX7_close 174 = .ok (.iload_n 1, 1) := by decide +kernel
theorem dX7_close_175 : decode cX7_close 175 = .ok (.ireturn, 1) := by decide +kernel
theorem dX7_take_0 : decode cX7_take 0 = .ok (.iload_n 2, 1) := by decide +kernel
theorem dX7_take_1 : decode cX7_take 1 = .ok (.istore_n 3, 1) := by decide +kernel
theorem dX7_take_2 : decode cX7_take 2 = .ok (.iconst 0, 1) := by decide +kernel
theorem dX7_take_3 : decode cX7_take 3 = .ok (.istore 4, 2) := by decide +kernel
theorem dX7_take_5 : decode cX7_take 5 = .ok (.iload 4, 2) := by decide +kernel
theorem dX7_take_7 : decode cX7_take 7 = .ok (.iload_n 1, 1) := by decide +kernel
theorem dX7_take_8 : decode cX7_take 8 = .ok (.if_icmp .ge 37, 3) := by decide +kernel
theorem dX7_take_11 : decode cX7_take 11 = .ok (.aload_n 0, 1) := by decide +kernel
theorem dX7_take_12 : decode cX7_take 12 = .ok (.getfield 56, 3) := by decide +kernel
theorem dX7_take_15 : decode cX7_take 15 = .ok (.iload 4, 2) := by decide +kernel
theorem dX7_take_17 : decode cX7_take 17 = .ok (.baload, 1) := by decide +kernel
theorem dX7_take_18 : decode cX7_take 18 = .ok (.ifCond .ne 21, 3) := by decide +kernel
theorem dX7_take_21 : decode cX7_take 21 = .ok (.iload_n 3, 1) := by decide +kernel
theorem dX7_take_22 : decode cX7_take 22 = .ok (.ifCond .ne 14, 3) := by decide +kernel
theorem dX7_take_25 : decode cX7_take 25 = .ok (.aload_n 0, 1) := by decide +kernel
theorem dX7_take_26 : decode cX7_take 26 = .ok (.getfield 56, 3) := by decide +kernel
theorem dX7_take_29 : decode cX7_take 29 = .ok (.iload 4, 2) := by decide +kernel
theorem dX7_take_31 : decode cX7_take 31 = .ok (.iconst 1, 1) := by decide +kernel
theorem dX7_take_32 : decode cX7_take 32 = .ok (.bastore, 1) := by decide +kernel
theorem dX7_take_33 : decode cX7_take 33 = .ok (.iload 4, 2) := by decide +kernel
theorem dX7_take_35 : decode cX7_take 35 = .ok (.ireturn, 1) := by decide +kernel
theorem dX7_take_36 : decode cX7_take 36 = .ok (.iinc 3 (-1), 3) := by decide +kernel
theorem dX7_take_39 : decode cX7_take 39 = .ok (.iinc 4 1, 3) := by decide +kernel
theorem dX7_take_42 : decode cX7_take 42 = .ok (.goto (-37), 3) := by decide +kernel
theorem dX7_take_45 : decode cX7_take 45 = .ok (.iconst (-1), 1) := by decide +kernel
theorem dX7_take_46 : decode cX7_take 46 = .ok (.ireturn, 1) := by decide +kernel
theorem dX7_free_0 : decode cX7_free 0 = .ok (.iconst 0, 1) := by decide +kernel
theorem dX7_free_1 : decode cX7_free 1 = .ok (.istore_n 1, 1) := by decide +kernel
theorem dX7_free_2 : decode cX7_free 2 = .ok (.iload_n 1, 1) := by decide +kernel
theorem dX7_free_3 : decode cX7_free 3 = .ok (.bipush 10, 2) := by decide +kernel
theorem dX7_free_5 : decode cX7_free 5 = .ok (.if_icmp .ge 16, 3) := by decide +kernel
theorem dX7_free_8 : decode cX7_free 8 = .ok (.aload_n 0, 1) := by decide +kernel
theorem dX7_free_9 : decode cX7_free 9 = .ok (.getfield 56, 3) := by decide +kernel
theorem dX7_free_12 : decode cX7_free 12 = .ok (.iload_n 1, 1) := by decide +kernel
theorem dX7_free_13 : decode cX7_free 13 = .ok (.iconst 0, 1) := by decide +kernel
theorem dX7_free_14 : decode cX7_free 14 = .ok (.bastore, 1) := by decide +kernel
theorem dX7_free_15 : decode cX7_free 15 = .ok (.iinc 1 1, 3) := by decide +kernel
theorem dX7_free_18 : decode cX7_free 18 = .ok (.goto (-16), 3) := by decide +kernel
theorem dX7_free_21 : decode cX7_free 21 = .ok (.return_, 1) := by decide +kernel
set_option maxRecDepth 20000 in
theorem ggX7_mix_X7_orders : GoodIn wsX7_mix wsX7_orders := goodIn_r _ [11] rfl (by decide +kernel)
set_option maxRecDepth 20000 in
theorem gX7_mix_X7_orders : GoodIn wsX7_mix (va_wsS RX7 158 yX7_orders wsX7_orders) := goodIn_app (goodIn_r _ [8, 9, 10] rfl (by decide +kernel)) ggX7_mix_X7_orders
set_option maxRecDepth 20000 in
theorem ggX7_mix_X7_noRoom : GoodIn wsX7_mix wsX7_noRoom := goodIn_r _ [15, 16, 63, 64, 65, 66, 67, 68, 69, 70, 71, 72, 73, 74, 75, 76, 77, 78, 79, 80, 81, 82, 83, 84, 85, 86, 87, 88, 89, 90, 91, 92, 93, 94, 95, 96, 97, 98, 99, 100, 101] rfl (by decide +kernel)
set_option maxRecDepth 20000 in
theorem gX7_mix_X7_noRoom : GoodIn wsX7_mix (wsV RX7 149 RX7 yX7_noRoom wsX7_noRoom) := goodIn_app (goodIn_r _ [12, 13, 14, 10] rfl (by decide +kernel)) ggX7_mix_X7_noRoom
set_option maxRecDepth 20000 in
theorem ggX7_mix_X7_put : GoodIn wsX7_mix wsX7_put := goodIn_r _ [20, 16, 21, 22, 63, 64, 65, 66, 67, 68, 69, 70, 71, 72, 73, 74, 75, 76, 77, 78, 79, 80, 81, 82, 83, 84, 85, 86, 87, 88, 89, 90, 91, 92, 93, 94, 95, 96, 97, 98, 99, 100, 101] rfl (by decide +kernel)
set_option maxRecDepth 20000 in
theorem gX7_mix_X7_put : GoodIn wsX7_mix (wsV RX7 139 RX7 yX7_put wsX7_put) := goodIn_app (goodIn_r _ [17, 18, 19, 10] rfl (by decide +kernel)) ggX7_mix_X7_put
set_option maxRecDepth 20000 in
theorem ggX7_mix_X7_free : GoodIn wsX7_mix wsX7_free := goodIn_r _ [26, 27, 63, 64, 65, 66, 67, 68, 69, 70, 71, 72, 73, 74, 75, 76, 77, 78, 79, 80, 81, 82, 83, 84, 85, 86, 87, 88, 89, 90, 91, 92, 93, 94, 95, 96, 97, 98, 99, 100, 101] rfl (by decide +kernel)
set_option maxRecDepth 20000 in
theorem gX7_mix_X7_free : GoodIn wsX7_mix (wsV RX7 162 RX7 yX7_free wsX7_free) := goodIn_app (goodIn_r _ [23, 24, 25, 10] rfl (by decide +kernel)) ggX7_mix_X7_free
set_option maxRecDepth 20000 in
theorem ggX7_mix_X7_take : GoodIn wsX7_mix wsX7_take := goodIn_r _ [31, 27, 63, 64, 65, 66, 67, 68, 69, 70, 71, 72, 73, 74, 75, 76, 77, 78, 79, 80, 81, 82, 83, 84, 85, 86, 87, 88, 89, 90, 91, 92, 93, 94, 95, 96, 97, 98, 99, 100, 101] rfl (by decide +kernel)
set_option maxRecDepth 20000 in
theorem gX7_mix_X7_take : GoodIn wsX7_mix (wsV RX7 165 RX7 yX7_take wsX7_take) := goodIn_app (goodIn_r _ [28, 29, 30, 10] rfl (by decide +kernel)) ggX7_mix_X7_take
set_option maxRecDepth 20000 in
theorem ggX7_mix_X7_digestOfTwo : GoodIn wsX7_mix wsX7_digestOfTwo := goodIn_r _ [35, 36, 37, 38, 39, 10, 40, 41, 42, 43, 44, 45, 46, 47, 48, 49, 50, 63, 64, 65, 66, 67, 68, 69, 70, 71, 72, 73, 74, 75, 76, 77, 78, 79, 80, 81, 82, 83, 84, 85, 86, 87, 88, 89, 90, 91, 92, 93, 94, 95, 96, 97, 98, 99, 100, 101] rfl (by decide +kernel)
set_option maxRecDepth 20000 in
theorem gX7_mix_X7_digestOfTwo : GoodIn wsX7_mix (wsV RX7 168 RX7 yX7_digestOfTwo wsX7_digestOfTwo) := goodIn_app (goodIn_r _ [32, 33, 34, 10] rfl (by decide +kernel)) ggX7_mix_X7_digestOfTwo
set_option maxRecDepth 20000 in
theorem ggX7_mix_X7_power : GoodIn wsX7_mix wsX7_power := goodIn_r _ [53, 54] rfl (by decide +kernel)
set_option maxRecDepth 20000 in
theorem gX7_mix_X7_power : GoodIn wsX7_mix (va_wsS RX7 105 yX7_power wsX7_power) := goodIn_app (goodIn_r _ [51, 52, 10] rfl (by decide +kernel)) ggX7_mix_X7_power
set_option maxRecDepth 20000 in
theorem ggX7_mix_X7_times : GoodIn wsX7_mix wsX7_times := goodIn_r _ [57, 54] rfl (by decide +kernel)
set_option maxRecDepth 20000 in
theorem gX7_mix_X7_times : GoodIn wsX7_mix (va_wsS RX7 152 yX7_times wsX7_times) := goodIn_app (goodIn_r _ [55, 56, 10] rfl (by decide +kernel)) ggX7_mix_X7_times
set_option maxRecDepth 20000 in
theorem ggX7_mix_X7_publicKey : GoodIn wsX7_mix wsX7_publicKey := goodIn_r _ [61, 62, 55, 56, 10, 57, 54, 63, 64, 65, 66, 67, 68, 69, 70, 71, 72, 73, 74, 75, 76, 77, 78, 79, 80, 81, 82, 83, 84, 85, 86, 87, 88, 89, 90, 91, 92, 93, 94, 95, 96, 97, 98, 99, 100, 101] rfl (by decide +kernel)
set_option maxRecDepth 20000 in
theorem gX7_mix_X7_publicKey : GoodIn wsX7_mix (wsV RX7 155 RX7 yX7_publicKey wsX7_publicKey) := goodIn_app (goodIn_r _ [58, 59, 60, 10] rfl (by decide +kernel)) ggX7_mix_X7_publicKey
theorem dX7_mix_0 : decode cX7_mix 0 = .ok (.aload_n 0, 1) := by decide +kernel
theorem dX7_mix_1 : decode cX7_mix 1 = .ok (.aload_n 0, 1) := by decide +kernel
theorem dX7_mix_2 : decode cX7_mix 2 = .ok (.getfield 143, 3) := by decide +kernel
theorem dX7_mix_5 : decode cX7_mix 5 = .ok (.iconst 2, 1) := by decide +kernel
theorem dX7_mix_6 : decode cX7_mix 6 = .ok (.if_icmp .eq 7, 3) := by decide +kernel
theorem dX7_mix_9 : decode cX7_mix 9 = .ok (.iconst 1, 1) := by decide +kernel
theorem dX7_mix_10 : decode cX7_mix 10 = .ok (.goto 40, 3) := by decide +kernel
theorem dX7_mix_13 : decode cX7_mix 13 = .ok (.iload_n 2, 1) := by decide +kernel
theorem dX7_mix_14 : decode cX7_mix 14 = .ok (.ifCond .lt 14, 3) := by decide +kernel
theorem dX7_mix_17 : decode cX7_mix 17 = .ok (.iload_n 2, 1) := by decide +kernel
theorem dX7_mix_18 : decode cX7_mix 18 = .ok (.aload_n 0, 1) := by decide +kernel
theorem dX7_mix_19 : decode cX7_mix 19 = .ok (.getfield 136, 3) := by decide +kernel
theorem dX7_mix_22 : decode cX7_mix 22 = .ok (.invokestatic 158, 3) := by decide +kernel
theorem dX7_mix_25 : decode cX7_mix 25 = .ok (.if_icmp .lt 7, 3) := by decide +kernel
theorem dX7_mix_28 : decode cX7_mix 28 = .ok (.iconst 2, 1) := by decide +kernel
theorem dX7_mix_29 : decode cX7_mix 29 = .ok (.goto 21, 3) := by decide +kernel
theorem dX7_mix_32 : decode cX7_mix 32 = .ok (.aload_n 0, 1) := by decide +kernel
theorem dX7_mix_33 : decode cX7_mix 33 = .ok (.iconst 1, 1) := by decide +kernel
theorem dX7_mix_34 : decode cX7_mix 34 = .ok (.aload_n 0, 1) := by decide +kernel
theorem dX7_mix_35 : decode cX7_mix 35 = .ok (.getfield 136, 3) := by decide +kernel
theorem dX7_mix_38 : decode cX7_mix 38 = .ok (.iadd, 1) := by decide +kernel
theorem dX7_mix_39 : decode cX7_mix 39 = .ok (.invokevirtual 149, 3) := by decide +kernel
theorem dX7_mix_42 : decode cX7_mix 42 = .ok (.ifCond .eq 7, 3) := by decide +kernel
theorem dX7_mix_45 : decode cX7_mix 45 = .ok (.iconst 3, 1) := by decide +kernel
theorem dX7_mix_46 : decode cX7_mix 46 = .ok (.goto 4, 3) := by decide +kernel
theorem dX7_mix_49 : decode cX7_mix 49 = .ok (.iconst 0, 1) := by decide +kernel
theorem dX7_mix_50 : decode cX7_mix 50 = .ok (.putfield 99, 3) := by decide +kernel
theorem dX7_mix_53 : decode cX7_mix 53 = .ok (.aload_n 0, 1) := by decide +kernel
theorem dX7_mix_54 : decode cX7_mix 54 = .ok (.getfield 99, 3) := by decide +kernel
theorem dX7_mix_57 : decode cX7_mix 57 = .ok (.ifCond .le 4, 3) := by decide +kernel
theorem dX7_mix_60 : decode cX7_mix 60 = .ok (.return_, 1) := by decide +kernel
theorem dX7_mix_61 : decode cX7_mix 61 = .ok (.aload_n 0, 1) := by decide +kernel
theorem dX7_mix_62 : decode cX7_mix 62 = .ok (.iconst 4, 1) := by decide +kernel
theorem dX7_mix_63 : decode cX7_mix 63 = .ok (.iload_n 1, 1) := by decide +kernel
theorem dX7_mix_64 : decode cX7_mix 64 = .ok (.iload_n 2, 1) := by decide +kernel
theorem dX7_mix_65 : decode cX7_mix 65 = .ok (.iconst 0, 1) := by decide +kernel
theorem dX7_mix_66 : decode cX7_mix 66 = .ok (.invokevirtual 139, 3) := by decide +kernel
theorem dX7_mix_69 : decode cX7_mix 69 = .ok (.pop, 1) := by decide +kernel
theorem dX7_mix_70 : decode cX7_mix 70 = .ok (.aload_n 0, 1) := by decide +kernel
theorem dX7_mix_71 : decode cX7_mix 71 = .ok (.invokevirtual 162, 3) := by decide +kernel
theorem dX7_mix_74 : decode cX7_mix 74 = .ok (.iload_n 2, 1) := by decide +kernel
theorem dX7_mix_75 : decode cX7_mix 75 = .ok (.istore_n 3, 1) := by decide +kernel
theorem dX7_mix_76 : decode cX7_mix 76 = .ok (.iconst 0, 1) := by decide +kernel
theorem dX7_mix_77 : decode cX7_mix 77 = .ok (.istore 4, 2) := by decide +kernel
theorem dX7_mix_79 : decode cX7_mix 79 = .ok (.iload 4, 2) := by decide +kernel
theorem dX7_mix_81 : decode cX7_mix 81 = .ok (.aload_n 0, 1) := by decide +kernel
theorem dX7_mix_82 : decode cX7_mix 82 = .ok (.getfield 136, 3) := by decide +kernel
theorem dX7_mix_85 : decode cX7_mix 85 = .ok (.if_icmp .ge 117, 3) := by decide +kernel
theorem dX7_mix_88 : decode cX7_mix 88 = .ok (.aload_n 0, 1) := by decide +kernel
theorem dX7_mix_89 : decode cX7_mix 89 = .ok (.aload_n 0, 1) := by decide +kernel
theorem dX7_mix_90 : decode cX7_mix 90 = .ok (.getfield 136, 3) := by decide +kernel
theorem dX7_mix_93 : decode cX7_mix 93 = .ok (.iload_n 3, 1) := by decide +kernel
theorem dX7_mix_94 : decode cX7_mix 94 = .ok (.aload_n 0, 1) := by decide +kernel
theorem dX7_mix_95 : decode cX7_mix 95 = .ok (.getfield 136, 3) := by decide +kernel
theorem dX7_mix_98 : decode cX7_mix 98 = .ok (.iload 4, 2) := by decide +kernel
theorem dX7_mix_100 : decode cX7_mix 100 = .ok (.isub, 1) := by decide +kernel
theorem dX7_mix_101 : decode cX7_mix 101 = .ok (.irem, 1) := by decide +kernel
theorem dX7_mix_102 : decode cX7_mix 102 = .ok (.invokevirtual 165, 3) := by decide +kernel
theorem dX7_mix_105 : decode cX7_mix 105 = .ok (.istore 5, 2) := by decide +kernel
theorem dX7_mix_107 : decode cX7_mix 107 = .ok (.iload_n 3, 1) := by decide +kernel
theorem dX7_mix_108 : decode cX7_mix 108 = .ok (.aload_n 0, 1) := by decide +kernel
theorem dX7_mix_109 : decode cX7_mix 109 = .ok (.getfield 136, 3) := by decide +kernel
theorem dX7_mix_112 : decode cX7_mix 112 = .ok (.iload 4, 2) := by decide +kernel
theorem dX7_mix_114 : decode cX7_mix 114 = .ok (.isub, 1) := by decide +kernel
theorem dX7_mix_115 : decode cX7_mix 115 = .ok (.idiv, 1) := by decide +kernel
theorem dX7_mix_116 : decode cX7_mix 116 = .ok (.istore_n 3, 1) := by decide +kernel
theorem dX7_mix_117 : decode cX7_mix 117 = .ok (.aload_n 0, 1) := by decide +kernel
theorem dX7_mix_118 : decode cX7_mix 118 = .ok (.iload_n 1, 1) := by decide +kernel
theorem dX7_mix_119 : decode cX7_mix 119 = .ok (.iload 4, 2) := by decide +kernel
theorem dX7_mix_121 : decode cX7_mix 121 = .ok (.invokevirtual 168, 3) := by decide +kernel
theorem dX7_mix_124 : decode cX7_mix 124 = .ok (.istore 6, 2) := by decide +kernel
theorem dX7_mix_126 : decode cX7_mix 126 = .ok (.aload_n 0, 1) := by decide +kernel
theorem dX7_mix_127 : decode cX7_mix 127 = .ok (.getfield 50, 3) := by decide +kernel
theorem dX7_mix_130 : decode cX7_mix 130 = .ok (.iload 4, 2) := by decide +kernel
theorem dX7_mix_132 : decode cX7_mix 132 = .ok (.aload_n 0, 1) := by decide +kernel
theorem dX7_mix_133 : decode cX7_mix 133 = .ok (.getfield 35, 3) := by decide +kernel
theorem dX7_mix_136 : decode cX7_mix 136 = .ok (.iload 5, 2) := by decide +kernel
theorem dX7_mix_138 : decode cX7_mix 138 = .ok (.iaload, 1) := by decide +kernel
theorem dX7_mix_139 : decode cX7_mix 139 = .ok (.iconst 4, 1) := by decide +kernel
theorem dX7_mix_140 : decode cX7_mix 140 = .ok (.iload 6, 2) := by decide +kernel
theorem dX7_mix_142 : decode cX7_mix 142 = .ok (.invokestatic 105, 3) := by decide +kernel
theorem dX7_mix_145 : decode cX7_mix 145 = .ok (.invokestatic 152, 3) := by decide +kernel
theorem dX7_mix_148 : decode cX7_mix 148 = .ok (.iastore, 1) := by decide +kernel
theorem dX7_mix_149 : decode cX7_mix 149 = .ok (.aload_n 0, 1) := by decide +kernel
theorem dX7_mix_150 : decode cX7_mix 150 = .ok (.getfield 53, 3) := by decide +kernel
theorem dX7_mix_153 : decode cX7_mix 153 = .ok (.iload 4, 2) := by decide +kernel
theorem dX7_mix_155 : decode cX7_mix 155 = .ok (.aload_n 0, 1) := by decide +kernel
theorem dX7_mix_156 : decode cX7_mix 156 = .ok (.getfield 38, 3) := by decide +kernel
theorem dX7_mix_159 : decode cX7_mix 159 = .ok (.iload 5, 2) := by decide +kernel
theorem dX7_mix_161 : decode cX7_mix 161 = .ok (.iaload, 1) := by decide +kernel
theorem dX7_mix_162 : decode cX7_mix 162 = .ok (.aload_n 0, 1) := by decide +kernel
theorem dX7_mix_163 : decode cX7_mix 163 = .ok (.invokevirtual 155, 3) := by decide +kernel
theorem dX7_mix_166 : decode cX7_mix 166 = .ok (.iload 6, 2) := by decide +kernel
theorem dX7_mix_168 : decode cX7_mix 168 = .ok (.invokestatic 105, 3) := by decide +kernel
theorem dX7_mix_171 : decode cX7_mix 171 = .ok (.invokestatic 152, 3) := by decide +kernel
theorem dX7_mix_174 : decode cX7_mix 174 = .ok (.iastore, 1) := by decide +kernel
theorem dX7_mix_175 : decode cX7_mix 175 = .ok (.aload_n 0, 1) := by decide +kernel
theorem dX7_mix_176 : decode cX7_mix 176 = .ok (.iconst 5, 1) := by decide +kernel
theorem dX7_mix_177 : decode cX7_mix 177 = .ok (.aload_n 0, 1) := by decide +kernel
theorem dX7_mix_178 : decode cX7_mix 178 = .ok (.getfield 50, 3) := by decide +kernel
theorem dX7_mix_181 : decode cX7_mix 181 = .ok (.iload 4, 2) := by decide +kernel
theorem dX7_mix_183 : decode cX7_mix 183 = .ok (.iaload, 1) := by decide +kernel
theorem dX7_mix_184 : decode cX7_mix 184 = .ok (.aload_n 0, 1) := by decide +kernel
theorem dX7_mix_185 : decode cX7_mix 185 = .ok (.getfield 53, 3) := by decide +kernel
theorem dX7_mix_188 : decode cX7_mix 188 = .ok (.iload 4, 2) := by decide +kernel
theorem dX7_mix_190 : decode cX7_mix 190 = .ok (.iaload, 1) := by decide +kernel
theorem dX7_mix_191 : decode cX7_mix 191 = .ok (.iconst 0, 1) := by decide +kernel
theorem dX7_mix_192 : decode cX7_mix 192 = .ok (.invokevirtual 139, 3) := by decide +kernel
theorem dX7_mix_195 : decode cX7_mix 195 = .ok (.pop, 1) := by decide +kernel
theorem dX7_mix_196 : decode cX7_mix 196 = .ok (.iinc 4 1, 3) := by decide +kernel
theorem dX7_mix_199 : decode cX7_mix 199 = .ok (.goto (-120), 3) := by decide +kernel
theorem dX7_mix_202 : decode cX7_mix 202 = .ok (.iconst 0, 1) := by decide +kernel
theorem dX7_mix_203 : decode cX7_mix 203 = .ok (.istore 4, 2) := by decide +kernel
theorem dX7_mix_205 : decode cX7_mix 205 = .ok (.iload 4, 2) := by decide +kernel
theorem dX7_mix_207 : decode cX7_mix 207 = .ok (.aload_n 0, 1) := by decide +kernel
theorem dX7_mix_208 : decode cX7_mix 208 = .ok (.getfield 136, 3) := by decide +kernel
theorem dX7_mix_211 : decode cX7_mix 211 = .ok (.if_icmp .ge 37, 3) := by decide +kernel
theorem dX7_mix_214 : decode cX7_mix 214 = .ok (.aload_n 0, 1) := by decide +kernel
theorem dX7_mix_215 : decode cX7_mix 215 = .ok (.getfield 35, 3) := by decide +kernel
theorem dX7_mix_218 : decode cX7_mix 218 = .ok (.iload 4, 2) := by decide +kernel
theorem dX7_mix_220 : decode cX7_mix 220 = .ok (.aload_n 0, 1) := by decide +kernel
theorem dX7_mix_221 : decode cX7_mix 221 = .ok (.getfield 50, 3) := by decide +kernel
theorem dX7_mix_224 : decode cX7_mix 224 = .ok (.iload 4, 2) := by decide +kernel
theorem dX7_mix_226 : decode cX7_mix 226 = .ok (.iaload, 1) := by decide +kernel
theorem dX7_mix_227 : decode cX7_mix 227 = .ok (.iastore, 1) := by decide +kernel
theorem dX7_mix_228 : decode cX7_mix 228 = .ok (.aload_n 0, 1) := by decide +kernel
theorem dX7_mix_229 : decode cX7_mix 229 = .ok (.getfield 38, 3) := by decide +kernel
theorem dX7_mix_232 : decode cX7_mix 232 = .ok (.iload 4, 2) := by decide +kernel
theorem dX7_mix_234 : decode cX7_mix 234 = .ok (.aload_n 0, 1) := by decide +kernel
theorem dX7_mix_235 : decode cX7_mix 235 = .ok (.getfield 53, 3) := by decide +kernel
theorem dX7_mix_238 : decode cX7_mix 238 = .ok (.iload 4, 2) := by decide +kernel
theorem dX7_mix_240 : decode cX7_mix 240 = .ok (.iaload, 1) := by decide +kernel
theorem dX7_mix_241 : decode cX7_mix 241 = .ok (.iastore, 1) := by decide +kernel
theorem dX7_mix_242 : decode cX7_mix 242 = .ok (.iinc 4 1, 3) := by decide +kernel
theorem dX7_mix_245 : decode cX7_mix 245 = .ok (.goto (-40), 3) := by decide +kernel
theorem dX7_mix_248 : decode cX7_mix 248 = .ok (.return_, 1) := by decide +kernel
set_option maxRecDepth 20000 in
theorem ggX7_open_X7_noRoom : GoodIn wsX7_open wsX7_noRoom := goodIn_r _ [15, 16, 48, 49, 50, 51, 52, 53, 54, 55, 56, 57, 58, 59, 60, 61, 62, 63, 64, 65, 66, 67, 68, 69, 70, 71, 72, 73, 74, 75, 76, 77, 78, 79, 80, 81, 82, 83, 84, 85, 86] rfl (by decide +kernel)
set_option maxRecDepth 20000 in
theorem gX7_open_X7_noRoom : GoodIn wsX7_open (wsV RX7 149 RX7 yX7_noRoom wsX7_noRoom) := goodIn_app (goodIn_r _ [11, 12, 13, 14] rfl (by decide +kernel)) ggX7_open_X7_noRoom
set_option maxRecDepth 20000 in
theorem ggX7_open_X7_power : GoodIn wsX7_open wsX7_power := goodIn_r _ [19, 20] rfl (by decide +kernel)
set_option maxRecDepth 20000 in
theorem gX7_open_X7_power : GoodIn wsX7_open (va_wsS RX7 105 yX7_power wsX7_power) := goodIn_app (goodIn_r _ [17, 18, 14] rfl (by decide +kernel)) ggX7_open_X7_power
set_option maxRecDepth 20000 in
theorem ggX7_open_X7_digestOfThree : GoodIn wsX7_open wsX7_digestOfThree := goodIn_r _ [24, 25, 26, 27, 28, 14, 29, 30, 31, 32, 33, 34, 10, 35, 36, 37, 38, 48, 49, 50, 51, 52, 53, 54, 55, 56, 57, 58, 59, 60, 61, 62, 63, 64, 65, 66, 67, 68, 69, 70, 71, 72, 73, 74, 75, 76, 77, 78, 79, 80, 81, 82, 83, 84, 85, 86] rfl (by decide +kernel)
set_option maxRecDepth 20000 in
theorem gX7_open_X7_digestOfThree : GoodIn wsX7_open (wsV RX7 171 RX7 yX7_digestOfThree wsX7_digestOfThree) := goodIn_app (goodIn_r _ [21, 22, 23, 14] rfl (by decide +kernel)) ggX7_open_X7_digestOfThree
set_option maxRecDepth 20000 in
theorem ggX7_open_X7_digestOfFive : GoodIn wsX7_open wsX7_digestOfFive := goodIn_r _ [42, 25, 26, 27, 28, 14, 29, 30, 31, 32, 33, 34, 10, 35, 36, 37, 38, 48, 49, 50, 51, 52, 53, 54, 55, 56, 57, 58, 59, 60, 61, 62, 63, 64, 65, 66, 67, 68, 69, 70, 71, 72, 73, 74, 75, 76, 77, 78, 79, 80, 81, 82, 83, 84, 85, 86] rfl (by decide +kernel)
set_option maxRecDepth 20000 in
theorem gX7_open_X7_digestOfFive : GoodIn wsX7_open (wsV RX7 175 RX7 yX7_digestOfFive wsX7_digestOfFive) := goodIn_app (goodIn_r _ [39, 40, 41, 14] rfl (by decide +kernel)) ggX7_open_X7_digestOfFive
set_option maxRecDepth 20000 in
theorem ggX7_open_X7_put : GoodIn wsX7_open wsX7_put := goodIn_r _ [46, 16, 47, 9, 48, 49, 50, 51, 52, 53, 54, 55, 56, 57, 58, 59, 60, 61, 62, 63, 64, 65, 66, 67, 68, 69, 70, 71, 72, 73, 74, 75, 76, 77, 78, 79, 80, 81, 82, 83, 84, 85, 86] rfl (by decide +kernel)
set_option maxRecDepth 20000 in
theorem gX7_open_X7_put : GoodIn wsX7_open (wsV RX7 139 RX7 yX7_put wsX7_put) := goodIn_app (goodIn_r _ [43, 44, 45, 14] rfl (by decide +kernel)) ggX7_open_X7_put
theorem dX7_open_0 : decode cX7_open 0 = .ok (.iload_n 1, 1) := by decide +kernel
theorem dX7_open_1 : decode cX7_open 1 = .ok (.ifCond .lt 12, 3) := by decide +kernel
theorem dX7_open_4 : decode cX7_open 4 = .ok (.iload_n 1, 1) := by decide +kernel
theorem dX7_open_5 : decode cX7_open 5 = .ok (.iconst 2, 1) := by decide +kernel
theorem dX7_open_6 : decode cX7_open 6 = .ok (.if_icmp .gt 7, 3) := by decide +kernel
theorem dX7_open_9 : decode cX7_open 9 = .ok (.iconst 1, 1) := by decide +kernel
theorem dX7_open_10 : decode cX7_open 10 = .ok (.goto 4, 3) := by decide +kernel
theorem dX7_open_13 : decode cX7_open 13 = .ok (.iconst 0, 1) := by decide +kernel
theorem dX7_open_14 : decode cX7_open 14 = .ok (.istore_n 3, 1) := by decide +kernel
theorem dX7_open_15 : decode cX7_open 15 = .ok (.aload_n 0, 1) := by decide +kernel
theorem dX7_open_16 : decode cX7_open 16 = .ok (.iload_n 3, 1) := by decide +kernel
theorem dX7_open_17 : decode cX7_open 17 = .ok (.ifCond .ne 7, 3) := by decide +kernel
theorem dX7_open_20 : decode cX7_open 20 = .ok (.iconst 1, 1) := by decide +kernel
theorem dX7_open_21 : decode cX7_open 21 = .ok (.goto 48, 3) := by decide +kernel
theorem dX7_open_24 : decode cX7_open 24 = .ok (.aload_n 0, 1) := by decide +kernel
theorem dX7_open_25 : decode cX7_open 25 = .ok (.getfield 143, 3) := by decide +kernel
theorem dX7_open_28 : decode cX7_open 28 = .ok (.iconst 2, 1) := by decide +kernel
theorem dX7_open_29 : decode cX7_open 29 = .ok (.if_icmp .eq 11, 3) := by decide +kernel
theorem dX7_open_32 : decode cX7_open 32 = .ok (.aload_n 0, 1) := by decide +kernel
theorem dX7_open_33 : decode cX7_open 33 = .ok (.getfield 143, 3) := by decide +kernel
theorem dX7_open_36 : decode cX7_open 36 = .ok (.iconst 3, 1) := by decide +kernel
theorem dX7_open_37 : decode cX7_open 37 = .ok (.if_icmp .ne 12, 3) := by decide +kernel
theorem dX7_open_40 : decode cX7_open 40 = .ok (.aload_n 0, 1) := by decide +kernel
theorem dX7_open_41 : decode cX7_open 41 = .ok (.getfield 41, 3) := by decide +kernel
theorem dX7_open_44 : decode cX7_open 44 = .ok (.iload_n 1, 1) := by decide +kernel
theorem dX7_open_45 : decode cX7_open 45 = .ok (.baload, 1) := by decide +kernel
theorem dX7_open_46 : decode cX7_open 46 = .ok (.ifCond .eq 7, 3) := by decide +kernel
theorem dX7_open_49 : decode cX7_open 49 = .ok (.iconst 2, 1) := by decide +kernel
theorem dX7_open_50 : decode cX7_open 50 = .ok (.goto 19, 3) := by decide +kernel
theorem dX7_open_53 : decode cX7_open 53 = .ok (.aload_n 0, 1) := by decide +kernel
theorem dX7_open_54 : decode cX7_open 54 = .ok (.aload_n 0, 1) := by decide +kernel
theorem dX7_open_55 : decode cX7_open 55 = .ok (.getfield 136, 3) := by decide +kernel
theorem dX7_open_58 : decode cX7_open 58 = .ok (.invokevirtual 149, 3) := by decide +kernel
theorem dX7_open_61 : decode cX7_open 61 = .ok (.ifCond .eq 7, 3) := by decide +kernel
theorem dX7_open_64 : decode cX7_open 64 = .ok (.iconst 3, 1) := by decide +kernel
theorem dX7_open_65 : decode cX7_open 65 = .ok (.goto 4, 3) := by decide +kernel
theorem dX7_open_68 : decode cX7_open 68 = .ok (.iconst 0, 1) := by decide +kernel
theorem dX7_open_69 : decode cX7_open 69 = .ok (.putfield 99, 3) := by decide +kernel
theorem dX7_open_72 : decode cX7_open 72 = .ok (.aload_n 0, 1) := by decide +kernel
theorem dX7_open_73 : decode cX7_open 73 = .ok (.getfield 99, 3) := by decide +kernel
theorem dX7_open_76 : decode cX7_open 76 = .ok (.ifCond .le 4, 3) := by decide +kernel
theorem dX7_open_79 : decode cX7_open 79 = .ok (.return_, 1) := by decide +kernel
theorem dX7_open_80 : decode cX7_open 80 = .ok (.aload_n 0, 1) := by decide +kernel
theorem dX7_open_81 : decode cX7_open 81 = .ok (.getfield 16, 3) := by decide +kernel
theorem dX7_open_84 : decode cX7_open 84 = .ok (.iload_n 1, 1) := by decide +kernel
theorem dX7_open_85 : decode cX7_open 85 = .ok (.iaload, 1) := by decide +kernel
theorem dX7_open_86 : decode cX7_open 86 = .ok (.istore 4, 2) := by decide +kernel
theorem dX7_open_88 : decode cX7_open 88 = .ok (.iconst 0, 1) := by decide +kernel
theorem dX7_open_89 : decode cX7_open 89 = .ok (.istore 5, 2) := by decide +kernel
theorem dX7_open_91 : decode cX7_open 91 = .ok (.iload 5, 2) := by decide +kernel
theorem dX7_open_93 : decode cX7_open 93 = .ok (.aload_n 0, 1) := by decide +kernel
theorem dX7_open_94 : decode cX7_open 94 = .ok (.getfield 136, 3) := by decide +kernel
theorem dX7_open_97 : decode cX7_open 97 = .ok (.if_icmp .ge 163, 3) := by decide +kernel
theorem dX7_open_100 : decode cX7_open 100 = .ok (.aload_n 0, 1) := by decide +kernel
theorem dX7_open_101 : decode cX7_open 101 = .ok (.getfield 35, 3) := by decide +kernel
theorem dX7_open_104 : decode cX7_open 104 = .ok (.iload 5, 2) := by decide +kernel
theorem dX7_open_106 : decode cX7_open 106 = .ok (.iaload, 1) := by decide +kernel
theorem dX7_open_107 : decode cX7_open 107 = .ok (.iload 4, 2) := by decide +kernel
theorem dX7_open_109 : decode cX7_open 109 = .ok (.invokestatic 105, 3) := by decide +kernel
theorem dX7_open_112 : decode cX7_open 112 = .ok (.istore 6, 2) := by decide +kernel
theorem dX7_open_114 : decode cX7_open 114 = .ok (.aload_n 0, 1) := by decide +kernel
theorem dX7_open_115 : decode cX7_open 115 = .ok (.iload_n 2, 1) := by decide +kernel
theorem dX7_open_116 : decode cX7_open 116 = .ok (.iload_n 1, 1) := by decide +kernel
theorem dX7_open_117 : decode cX7_open 117 = .ok (.iload 5, 2) := by decide +kernel
theorem dX7_open_119 : decode cX7_open 119 = .ok (.invokevirtual 171, 3) := by decide +kernel
theorem dX7_open_122 : decode cX7_open 122 = .ok (.istore 7, 2) := by decide +kernel
theorem dX7_open_124 : decode cX7_open 124 = .ok (.iconst 4, 1) := by decide +kernel
theorem dX7_open_125 : decode cX7_open 125 = .ok (.iload 7, 2) := by decide +kernel
theorem dX7_open_127 : decode cX7_open 127 = .ok (.invokestatic 105, 3) := by decide +kernel
theorem dX7_open_130 : decode cX7_open 130 = .ok (.istore 8, 2) := by decide +kernel
theorem dX7_open_132 : decode cX7_open 132 = .ok (.aload_n 0, 1) := by decide +kernel
theorem dX7_open_133 : decode cX7_open 133 = .ok (.getfield 35, 3) := by decide +kernel
theorem dX7_open_136 : decode cX7_open 136 = .ok (.iload 5, 2) := by decide +kernel
theorem dX7_open_138 : decode cX7_open 138 = .ok (.iaload, 1) := by decide +kernel
theorem dX7_open_139 : decode cX7_open 139 = .ok (.iload 7, 2) := by decide +kernel
theorem dX7_open_141 : decode cX7_open 141 = .ok (.invokestatic 105, 3) := by decide +kernel
theorem dX7_open_144 : decode cX7_open 144 = .ok (.istore 9, 2) := by decide +kernel
theorem dX7_open_146 : decode cX7_open 146 = .ok (.aload_n 0, 1) := by decide +kernel
theorem dX7_open_147 : decode cX7_open 147 = .ok (.aload_n 0, 1) := by decide +kernel
theorem dX7_open_148 : decode cX7_open 148 = .ok (.getfield 19, 3) := by decide +kernel
theorem dX7_open_151 : decode cX7_open 151 = .ok (.iload_n 1, 1) := by decide +kernel
theorem dX7_open_152 : decode cX7_open 152 = .ok (.iaload, 1) := by decide +kernel
theorem dX7_open_153 : decode cX7_open 153 = .ok (.aload_n 0, 1) := by decide +kernel
theorem dX7_open_154 : decode cX7_open 154 = .ok (.getfield 35, 3) := by decide +kernel
theorem dX7_open_157 : decode cX7_open 157 = .ok (.iload 5, 2) := by decide +kernel
theorem dX7_open_159 : decode cX7_open 159 = .ok (.iaload, 1) := by decide +kernel
theorem dX7_open_160 : decode cX7_open 160 = .ok (.iload 6, 2) := by decide +kernel
theorem dX7_open_162 : decode cX7_open 162 = .ok (.iload 8, 2) := by decide +kernel
theorem dX7_open_164 : decode cX7_open 164 = .ok (.iload 9, 2) := by decide +kernel
theorem dX7_open_166 : decode cX7_open 166 = .ok (.invokevirtual 175, 3) := by decide +kernel
theorem dX7_open_169 : decode cX7_open 169 = .ok (.istore 10, 2) := by decide +kernel
theorem dX7_open_171 : decode cX7_open 171 = .ok (.aload_n 0, 1) := by decide +kernel
theorem dX7_open_172 : decode cX7_open 172 = .ok (.getfield 44, 3) := by decide +kernel
theorem dX7_open_175 : decode cX7_open 175 = .ok (.bipush 10, 2) := by decide +kernel
theorem dX7_open_177 : decode cX7_open 177 = .ok (.iload_n 1, 1) := by decide +kernel
theorem dX7_open_178 : decode cX7_open 178 = .ok (.imul, 1) := by decide +kernel
theorem dX7_open_179 : decode cX7_open 179 = .ok (.iload 5, 2) := by decide +kernel
theorem dX7_open_181 : decode cX7_open 181 = .ok (.iadd, 1) := by decide +kernel
theorem dX7_open_182 : decode cX7_open 182 = .ok (.iload 6, 2) := by decide +kernel
theorem dX7_open_184 : decode cX7_open 184 = .ok (.iastore, 1) := by decide +kernel
theorem dX7_open_185 : decode cX7_open 185 = .ok (.aload_n 0, 1) := by decide +kernel
theorem dX7_open_186 : decode cX7_open 186 = .ok (.bipush 6, 2) := by decide +kernel
theorem dX7_open_188 : decode cX7_open 188 = .ok (.iload_n 1, 1) := by decide +kernel
theorem dX7_open_189 : decode cX7_open 189 = .ok (.iload 5, 2) := by decide +kernel
theorem dX7_open_191 : decode cX7_open 191 = .ok (.iload 6, 2) := by decide +kernel
theorem dX7_open_193 : decode cX7_open 193 = .ok (.invokevirtual 139, 3) := by decide +kernel
theorem dX7_open_196 : decode cX7_open 196 = .ok (.istore 11, 2) := by decide +kernel
theorem dX7_open_198 : decode cX7_open 198 = .ok (.aload_n 0, 1) := by decide +kernel
theorem dX7_open_199 : decode cX7_open 199 = .ok (.getfield 13, 3) := by decide +kernel
theorem dX7_open_202 : decode cX7_open 202 = .ok (.bipush 6, 2) := by decide +kernel
theorem dX7_open_204 : decode cX7_open 204 = .ok (.iload 11, 2) := by decide +kernel
theorem dX7_open_206 : decode cX7_open 206 = .ok (.imul, 1) := by decide +kernel
theorem dX7_open_207 : decode cX7_open 207 = .ok (.iconst 3, 1) := by decide +kernel
theorem dX7_open_208 : decode cX7_open 208 = .ok (.iadd, 1) := by decide +kernel
theorem dX7_open_209 : decode cX7_open 209 = .ok (.iload 7, 2) := by decide +kernel
theorem dX7_open_211 : decode cX7_open 211 = .ok (.i2l, 1) := by decide +kernel
theorem dX7_open_212 : decode cX7_open 212 = .ok (.iload 10, 2) := by decide +kernel
theorem dX7_open_214 : decode cX7_open 214 = .ok (.i2l, 1) := by decide +kernel
theorem dX7_open_215 : decode cX7_open 215 = .ok (.iload 4, 2) := by decide +kernel
theorem dX7_open_217 : decode cX7_open 217 = .ok (.i2l, 1) := by decide +kernel
theorem dX7_open_218 : decode cX7_open 218 = .ok (.lmul, 1) := by decide +kernel
theorem dX7_open_219 : decode cX7_open 219 = .ok (.ladd, 1) := by decide +kernel
theorem dX7_open_220 : decode cX7_open 220 = .ok (.ldc2_w 119, 3) := by decide +kernel
theorem dX7_open_223 : decode cX7_open 223 = .ok (.lrem, 1) := by decide +kernel
theorem dX7_open_224 : decode cX7_open 224 = .ok (.l2i, 1) := by decide +kernel
theorem dX7_open_225 : decode cX7_open 225 = .ok (.iastore, 1) := by decide +kernel
theorem dX7_open_226 : decode cX7_open 226 = .ok (.aload_n 0, 1) := by decide +kernel
theorem dX7_open_227 : decode cX7_open 227 = .ok (.getfield 13, 3) := by decide +kernel
theorem dX7_open_230 : decode cX7_open 230 = .ok (.bipush 6, 2) := by decide +kernel
theorem dX7_open_232 : decode cX7_open 232 = .ok (.iload 11, 2) := by decide +kernel
theorem dX7_open_234 : decode cX7_open 234 = .ok (.imul, 1) := by decide +kernel
theorem dX7_open_235 : decode cX7_open 235 = .ok (.iconst 4, 1) := by decide +kernel
theorem dX7_open_236 : decode cX7_open 236 = .ok (.iadd, 1) := by decide +kernel
theorem dX7_open_237 : decode cX7_open 237 = .ok (.iload 8, 2) := by decide +kernel
theorem dX7_open_239 : decode cX7_open 239 = .ok (.iastore, 1) := by decide +kernel
theorem dX7_open_240 : decode cX7_open 240 = .ok (.aload_n 0, 1) := by decide +kernel
theorem dX7_open_241 : decode cX7_open 241 = .ok (.getfield 13, 3) := by decide +kernel
theorem dX7_open_244 : decode cX7_open 244 = .ok (.bipush 6, 2) := by decide +kernel
theorem dX7_open_246 : decode cX7_open 246 = .ok (.iload 11, 2) := by decide +kernel
theorem dX7_open_248 : decode cX7_open 248 = .ok (.imul, 1) := by decide +kernel
theorem dX7_open_249 : decode cX7_open 249 = .ok (.iconst 5, 1) := by decide +kernel
theorem dX7_open_250 : decode cX7_open 250 = .ok (.iadd, 1) := by decide +kernel
theorem dX7_open_251 : decode cX7_open 251 = .ok (.iload 9, 2) := by decide +kernel
theorem dX7_open_253 : decode cX7_open 253 = .ok (.iastore, 1) := by decide +kernel
theorem dX7_open_254 : decode cX7_open 254 = .ok (.iinc 5 1, 3) := by decide +kernel
theorem dX7_open_257 : decode cX7_open 257 = .ok (.goto (-166), 3) := by decide +kernel
theorem dX7_open_260 : decode cX7_open 260 = .ok (.aload_n 0, 1) := by decide +kernel
theorem dX7_open_261 : decode cX7_open 261 = .ok (.getfield 41, 3) := by decide +kernel
theorem dX7_open_264 : decode cX7_open 264 = .ok (.iload_n 1, 1) := by decide +kernel
theorem dX7_open_265 : decode cX7_open 265 = .ok (.iconst 1, 1) := by decide +kernel
theorem dX7_open_266 : decode cX7_open 266 = .ok (.bastore, 1) := by decide +kernel
theorem dX7_open_267 : decode cX7_open 267 = .ok (.aload_n 0, 1) := by decide +kernel
theorem dX7_open_268 : decode cX7_open 268 = .ok (.iconst 3, 1) := by decide +kernel
theorem dX7_open_269 : decode cX7_open 269 = .ok (.putfield 143, 3) := by decide +kernel
theorem dX7_open_272 : decode cX7_open 272 = .ok (.return_, 1) := by decide +kernel
set_option maxRecDepth 20000 in
theorem ggX7_choiceOf_X7_power : GoodIn wsX7_choiceOf wsX7_power := goodIn_r _ [4, 5] rfl (by decide +kernel)
set_option maxRecDepth 20000 in
theorem gX7_choiceOf_X7_power : GoodIn wsX7_choiceOf (va_wsS RX7 105 yX7_power wsX7_power) := goodIn_app (goodIn_r _ [1, 2, 3] rfl (by decide +kernel)) ggX7_choiceOf_X7_power
theorem dX7_choiceOf_0 : decode cX7_choiceOf 0 = .ok (.iconst 0, 1) := by decide +kernel
theorem dX7_choiceOf_1 : decode cX7_choiceOf 1 = .ok (.istore_n 1, 1) := by decide +kernel
theorem dX7_choiceOf_2 : decode cX7_choiceOf 2 = .ok (.iload_n 1, 1) := by decide +kernel
theorem dX7_choiceOf_3 : decode cX7_choiceOf 3 = .ok (.iconst 4, 1) := by decide +kernel
theorem dX7_choiceOf_4 : decode cX7_choiceOf 4 = .ok (.if_icmp .ge 20, 3) := by decide +kernel
theorem dX7_choiceOf_7 : decode cX7_choiceOf 7 = .ok (.iconst 4, 1) := by decide +kernel
theorem dX7_choiceOf_8 : decode cX7_choiceOf 8 = .ok (.iload_n 1, 1) := by decide +kernel
theorem dX7_choiceOf_9 : decode cX7_choiceOf 9 = .ok (.invokestatic 105, 3) := by decide +kernel
theorem dX7_choiceOf_12 : decode cX7_choiceOf 12 = .ok (.iload_n 0, 1) := by decide +kernel
theorem dX7_choiceOf_13 : decode cX7_choiceOf 13 = .ok (.if_icmp .ne 5, 3) := by decide +kernel
theorem dX7_choiceOf_16 : decode cX7_choiceOf 16 = .ok (.iload_n 1, 1) := by decide +kernel
theorem dX7_choiceOf_17 : decode cX7_choiceOf 17 = .ok (.ireturn, 1) := by decide +kernel
theorem dX7_choiceOf_18 : decode cX7_choiceOf 18 = .ok (.iinc 1 1, 3) := by decide +kernel
theorem dX7_choiceOf_21 : decode cX7_choiceOf 21 = .ok (.goto (-19), 3) := by decide +kernel
theorem dX7_choiceOf_24 : decode cX7_choiceOf 24 = .ok (.iconst (-1), 1) := by decide +kernel
theorem dX7_choiceOf_25 : decode cX7_choiceOf 25 = .ok (.ireturn, 1) := by decide +kernel
set_option maxRecDepth 20000 in
theorem ggX7_valueOf_X7_times : GoodIn wsX7_valueOf wsX7_times := goodIn_r _ [4, 5] rfl (by decide +kernel)
set_option maxRecDepth 20000 in
theorem gX7_valueOf_X7_times : GoodIn wsX7_valueOf (va_wsS RX7 152 yX7_times wsX7_times) := goodIn_app (goodIn_r _ [1, 2, 3] rfl (by decide +kernel)) ggX7_valueOf_X7_times
set_option maxRecDepth 20000 in
theorem ggX7_valueOf_X7_power : GoodIn wsX7_valueOf wsX7_power := goodIn_r _ [8, 5] rfl (by decide +kernel)
set_option maxRecDepth 20000 in
theorem gX7_valueOf_X7_power : GoodIn wsX7_valueOf (va_wsS RX7 105 yX7_power wsX7_power) := goodIn_app (goodIn_r _ [6, 7, 3] rfl (by decide +kernel)) ggX7_valueOf_X7_power
theorem dX7_valueOf_0 : decode cX7_valueOf 0 = .ok (.iload_n 0, 1) := by decide +kernel
theorem dX7_valueOf_1 : decode cX7_valueOf 1 = .ok (.iload_n 1, 1) := by decide +kernel
theorem dX7_valueOf_2 : decode cX7_valueOf 2 = .ok (.iload_n 2, 1) := by decide +kernel
theorem dX7_valueOf_3 : decode cX7_valueOf 3 = .ok (.invokestatic 152, 3) := by decide +kernel
theorem dX7_valueOf_6 : decode cX7_valueOf 6 = .ok (.iload_n 3, 1) := by decide +kernel
theorem dX7_valueOf_7 : decode cX7_valueOf 7 = .ok (.invokestatic 152, 3) := by decide +kernel
theorem dX7_valueOf_10 : decode cX7_valueOf 10 = .ok (.sipush 2038, 3) := by decide +kernel
theorem dX7_valueOf_13 : decode cX7_valueOf 13 = .ok (.invokestatic 105, 3) := by decide +kernel
theorem dX7_valueOf_16 : decode cX7_valueOf 16 = .ok (.invokestatic 152, 3) := by decide +kernel
theorem dX7_valueOf_19 : decode cX7_valueOf 19 = .ok (.ireturn, 1) := by decide +kernel
set_option maxRecDepth 20000 in
theorem ggX7_finish_X7_noRoom : GoodIn wsX7_finish wsX7_noRoom := goodIn_r _ [13, 14, 33, 34, 35, 36, 37, 38, 39, 40, 41, 42, 43, 44, 45, 46, 47, 48, 49, 50, 51, 52, 53, 54, 55, 56, 57, 58, 59, 60, 61, 62, 63, 64, 65, 66, 67, 68, 69, 70, 71] rfl (by decide +kernel)
set_option maxRecDepth 20000 in
theorem gX7_finish_X7_noRoom : GoodIn wsX7_finish (wsV RX7 149 RX7 yX7_noRoom wsX7_noRoom) := goodIn_app (goodIn_r _ [9, 10, 11, 12] rfl (by decide +kernel)) ggX7_finish_X7_noRoom
set_option maxRecDepth 20000 in
theorem ggX7_finish_X7_valueOf : GoodIn wsX7_finish wsX7_valueOf := goodIn_r _ [17, 18, 19, 12, 20, 21, 22, 23, 24] rfl (by decide +kernel)
set_option maxRecDepth 20000 in
theorem gX7_finish_X7_valueOf : GoodIn wsX7_finish (va_wsS RX7 179 yX7_valueOf wsX7_valueOf) := goodIn_app (goodIn_r _ [15, 16, 12] rfl (by decide +kernel)) ggX7_finish_X7_valueOf
set_option maxRecDepth 20000 in
theorem ggX7_finish_X7_choiceOf : GoodIn wsX7_finish wsX7_choiceOf := goodIn_r _ [27, 22, 23, 12, 24, 21] rfl (by decide +kernel)
set_option maxRecDepth 20000 in
theorem gX7_finish_X7_choiceOf : GoodIn wsX7_finish (va_wsS RX7 182 yX7_choiceOf wsX7_choiceOf) := goodIn_app (goodIn_r _ [25, 26, 12] rfl (by decide +kernel)) ggX7_finish_X7_choiceOf
set_option maxRecDepth 20000 in
theorem ggX7_finish_X7_put : GoodIn wsX7_finish wsX7_put := goodIn_r _ [31, 14, 32, 8, 33, 34, 35, 36, 37, 38, 39, 40, 41, 42, 43, 44, 45, 46, 47, 48, 49, 50, 51, 52, 53, 54, 55, 56, 57, 58, 59, 60, 61, 62, 63, 64, 65, 66, 67, 68, 69, 70, 71] rfl (by decide +kernel)
set_option maxRecDepth 20000 in
theorem gX7_finish_X7_put : GoodIn wsX7_finish (wsV RX7 139 RX7 yX7_put wsX7_put) := goodIn_app (goodIn_r _ [28, 29, 30, 12] rfl (by decide +kernel)) ggX7_finish_X7_put
theorem dX7_finish_0 : decode cX7_finish 0 = .ok (.aload_n 0, 1) := by decide +kernel
theorem dX7_finish_1 : decode cX7_finish 1 = .ok (.aload_n 0, 1) := by decide +kernel
theorem dX7_finish_2 : decode cX7_finish 2 = .ok (.getfield 143, 3) := by decide +kernel
theorem dX7_finish_5 : decode cX7_finish 5 = .ok (.iconst 3, 1) := by decide +kernel
theorem dX7_finish_6 : decode cX7_finish 6 = .ok (.if_icmp .ne 30, 3) := by decide +kernel
theorem dX7_finish_9 : decode cX7_finish 9 = .ok (.aload_n 0, 1) := by decide +kernel
theorem dX7_finish_10 : decode cX7_finish 10 = .ok (.getfield 41, 3) := by decide +kernel
theorem dX7_finish_13 : decode cX7_finish 13 = .ok (.iconst 0, 1) := by decide +kernel
theorem dX7_finish_14 : decode cX7_finish 14 = .ok (.baload, 1) := by decide +kernel
theorem dX7_finish_15 : decode cX7_finish 15 = .ok (.ifCond .eq 21, 3) := by decide +kernel
theorem dX7_finish_18 : decode cX7_finish 18 = .ok (.aload_n 0, 1) := by decide +kernel
theorem dX7_finish_19 : decode cX7_finish 19 = .ok (.getfield 41, 3) := by decide +kernel
theorem dX7_finish_22 : decode cX7_finish 22 = .ok (.iconst 1, 1) := by decide +kernel
theorem dX7_finish_23 : decode cX7_finish 23 = .ok (.baload, 1) := by decide +kernel
theorem dX7_finish_24 : decode cX7_finish 24 = .ok (.ifCond .eq 12, 3) := by decide +kernel
theorem dX7_finish_27 : decode cX7_finish 27 = .ok (.aload_n 0, 1) := by decide +kernel
theorem dX7_finish_28 : decode cX7_finish 28 = .ok (.getfield 41, 3) := by decide +kernel
theorem dX7_finish_31 : decode cX7_finish 31 = .ok (.iconst 2, 1) := by decide +kernel
theorem dX7_finish_32 : decode cX7_finish 32 = .ok (.baload, 1) := by decide +kernel
theorem dX7_finish_33 : decode cX7_finish 33 = .ok (.ifCond .ne 7, 3) := by decide +kernel
theorem dX7_finish_36 : decode cX7_finish 36 = .ok (.iconst 1, 1) := by decide +kernel
theorem dX7_finish_37 : decode cX7_finish 37 = .ok (.goto 16, 3) := by decide +kernel
theorem dX7_finish_40 : decode cX7_finish 40 = .ok (.aload_n 0, 1) := by decide +kernel
theorem dX7_finish_41 : decode cX7_finish 41 = .ok (.iconst 1, 1) := by decide +kernel
theorem dX7_finish_42 : decode cX7_finish 42 = .ok (.invokevirtual 149, 3) := by decide +kernel
theorem dX7_finish_45 : decode cX7_finish 45 = .ok (.ifCond .eq 7, 3) := by decide +kernel
theorem dX7_finish_48 : decode cX7_finish 48 = .ok (.iconst 2, 1) := by decide +kernel
theorem dX7_finish_49 : decode cX7_finish 49 = .ok (.goto 4, 3) := by decide +kernel
theorem dX7_finish_52 : decode cX7_finish 52 = .ok (.iconst 0, 1) := by decide +kernel
theorem dX7_finish_53 : decode cX7_finish 53 = .ok (.putfield 99, 3) := by decide +kernel
theorem dX7_finish_56 : decode cX7_finish 56 = .ok (.aload_n 0, 1) := by decide +kernel
theorem dX7_finish_57 : decode cX7_finish 57 = .ok (.getfield 99, 3) := by decide +kernel
theorem dX7_finish_60 : decode cX7_finish 60 = .ok (.ifCond .le 5, 3) := by decide +kernel
theorem dX7_finish_63 : decode cX7_finish 63 = .ok (.iconst 0, 1) := by decide +kernel
theorem dX7_finish_64 : decode cX7_finish 64 = .ok (.ireturn, 1) := by decide +kernel
theorem dX7_finish_65 : decode cX7_finish 65 = .ok (.iconst 0, 1) := by decide +kernel
theorem dX7_finish_66 : decode cX7_finish 66 = .ok (.istore_n 1, 1) := by decide +kernel
theorem dX7_finish_67 : decode cX7_finish 67 = .ok (.iconst 0, 1) := by decide +kernel
theorem dX7_finish_68 : decode cX7_finish 68 = .ok (.istore_n 2, 1) := by decide +kernel
theorem dX7_finish_69 : decode cX7_finish 69 = .ok (.iload_n 2, 1) := by decide +kernel
theorem dX7_finish_70 : decode cX7_finish 70 = .ok (.iconst 4, 1) := by decide +kernel
theorem dX7_finish_71 : decode cX7_finish 71 = .ok (.if_icmp .ge 16, 3) := by decide +kernel
theorem dX7_finish_74 : decode cX7_finish 74 = .ok (.aload_n 0, 1) := by decide +kernel
theorem dX7_finish_75 : decode cX7_finish 75 = .ok (.getfield 47, 3) := by decide +kernel
theorem dX7_finish_78 : decode cX7_finish 78 = .ok (.iload_n 2, 1) := by decide +kernel
theorem dX7_finish_79 : decode cX7_finish 79 = .ok (.iconst 0, 1) := by decide +kernel
theorem dX7_finish_80 : decode cX7_finish 80 = .ok (.iastore, 1) := by decide +kernel
theorem dX7_finish_81 : decode cX7_finish 81 = .ok (.iinc 2 1, 3) := by decide +kernel
theorem dX7_finish_84 : decode cX7_finish 84 = .ok (.goto (-15), 3) := by decide +kernel
theorem dX7_finish_87 : decode cX7_finish 87 = .ok (.iconst 0, 1) := by decide +kernel
theorem dX7_finish_88 : decode cX7_finish 88 = .ok (.istore_n 2, 1) := by decide +kernel
theorem dX7_finish_89 : decode cX7_finish 89 = .ok (.iload_n 2, 1) := by decide +kernel
theorem dX7_finish_90 : decode cX7_finish 90 = .ok (.aload_n 0, 1) := by decide +kernel
theorem dX7_finish_91 : decode cX7_finish 91 = .ok (.getfield 136, 3) := by decide +kernel
theorem dX7_finish_94 : decode cX7_finish 94 = .ok (.if_icmp .ge 63, 3) := by decide +kernel
theorem dX7_finish_97 : decode cX7_finish 97 = .ok (.aload_n 0, 1) := by decide +kernel
theorem dX7_finish_98 : decode cX7_finish 98 = .ok (.getfield 38, 3) := by decide +kernel
theorem dX7_finish_101 : decode cX7_finish 101 = .ok (.iload_n 2, 1) := by decide +kernel
theorem dX7_finish_102 : decode cX7_finish 102 = .ok (.iaload, 1) := by decide +kernel
theorem dX7_finish_103 : decode cX7_finish 103 = .ok (.aload_n 0, 1) := by decide +kernel
theorem dX7_finish_104 : decode cX7_finish 104 = .ok (.getfield 44, 3) := by decide +kernel
theorem dX7_finish_107 : decode cX7_finish 107 = .ok (.iload_n 2, 1) := by decide +kernel
theorem dX7_finish_108 : decode cX7_finish 108 = .ok (.iaload, 1) := by decide +kernel
theorem dX7_finish_109 : decode cX7_finish 109 = .ok (.aload_n 0, 1) := by decide +kernel
theorem dX7_finish_110 : decode cX7_finish 110 = .ok (.getfield 44, 3) := by decide +kernel
theorem dX7_finish_113 : decode cX7_finish 113 = .ok (.bipush 10, 2) := by decide +kernel
theorem dX7_finish_115 : decode cX7_finish 115 = .ok (.iload_n 2, 1) := by decide +kernel
theorem dX7_finish_116 : decode cX7_finish 116 = .ok (.iadd, 1) := by decide +kernel
theorem dX7_finish_117 : decode cX7_finish 117 = .ok (.iaload, 1) := by decide +kernel
theorem dX7_finish_118 : decode cX7_finish 118 = .ok (.aload_n 0, 1) := by decide +kernel
theorem dX7_finish_119 : decode cX7_finish 119 = .ok (.getfield 44, 3) := by decide +kernel
theorem dX7_finish_122 : decode cX7_finish 122 = .ok (.bipush 20, 2) := by decide +kernel
theorem dX7_finish_124 : decode cX7_finish 124 = .ok (.iload_n 2, 1) := by decide +kernel
theorem dX7_finish_125 : decode cX7_finish 125 = .ok (.iadd, 1) := by decide +kernel
theorem dX7_finish_126 : decode cX7_finish 126 = .ok (.iaload, 1) := by decide +kernel
theorem dX7_finish_127 : decode cX7_finish 127 = .ok (.invokestatic 179, 3) := by decide +kernel
theorem dX7_finish_130 : decode cX7_finish 130 = .ok (.invokestatic 182, 3) := by decide +kernel
theorem dX7_finish_133 : decode cX7_finish 133 = .ok (.istore_n 3, 1) := by decide +kernel
theorem dX7_finish_134 : decode cX7_finish 134 = .ok (.iload_n 3, 1) := by decide +kernel
theorem dX7_finish_135 : decode cX7_finish 135 = .ok (.ifCond .lt 16, 3) := by decide +kernel
theorem dX7_finish_138 : decode cX7_finish 138 = .ok (.aload_n 0, 1) := by decide +kernel
theorem dX7_finish_139 : decode cX7_finish 139 = .ok (.getfield 47, 3) := by decide +kernel
theorem dX7_finish_142 : decode cX7_finish 142 = .ok (.iload_n 3, 1) := by decide +kernel
theorem dX7_finish_143 : decode cX7_finish 143 = .ok (.dup2, 1) := by decide +kernel
theorem dX7_finish_144 : decode cX7_finish 144 = .ok (.iaload, 1) := by decide +kernel
theorem dX7_finish_145 : decode cX7_finish 145 = .ok (.iconst 1, 1) := by decide +kernel
theorem dX7_finish_146 : decode cX7_finish 146 = .ok (.iadd, 1) := by decide +kernel
theorem dX7_finish_147 : decode cX7_finish 147 = .ok (.iastore, 1) := by decide +kernel
theorem dX7_finish_148 : decode cX7_finish 148 = .ok (.iinc 1 1, 3) := by decide +kernel
theorem dX7_finish_151 : decode cX7_finish 151 = .ok (.iinc 2 1, 3) := by decide +kernel
theorem dX7_finish_154 : decode cX7_finish 154 = .ok (.goto (-65), 3) := by decide +kernel
theorem dX7_finish_157 : decode cX7_finish 157 = .ok (.aload_n 0, 1) := by decide +kernel
theorem dX7_finish_158 : decode cX7_finish 158 = .ok (.bipush 7, 2) := by decide +kernel
theorem dX7_finish_160 : decode cX7_finish 160 = .ok (.aload_n 0, 1) := by decide +kernel
theorem dX7_finish_161 : decode cX7_finish 161 = .ok (.getfield 47, 3) := by decide +kernel
theorem dX7_finish_164 : decode cX7_finish 164 = .ok (.iconst 0, 1) := by decide +kernel
theorem dX7_finish_165 : decode cX7_finish 165 = .ok (.iaload, 1) := by decide +kernel
theorem dX7_finish_166 : decode cX7_finish 166 = .ok (.aload_n 0, 1) := by decide +kernel
theorem dX7_finish_167 : decode cX7_finish 167 = .ok (.getfield 47, 3) := by decide +kernel
theorem dX7_finish_170 : decode cX7_finish 170 = .ok (.iconst 1, 1) := by decide +kernel
theorem dX7_finish_171 : decode cX7_finish 171 = .ok (.iaload, 1) := by decide +kernel
theorem dX7_finish_172 : decode cX7_finish 172 = .ok (.aload_n 0, 1) := by decide +kernel
theorem dX7_finish_173 : decode cX7_finish 173 = .ok (.getfield 47, 3) := by decide +kernel
theorem dX7_finish_176 : decode cX7_finish 176 = .ok (.iconst 2, 1) := by decide +kernel
theorem dX7_finish_177 : decode cX7_finish 177 = .ok (.iaload, 1) := by decide +kernel
theorem dX7_finish_178 : decode cX7_finish 178 = .ok (.invokevirtual 139, 3) := by decide +kernel
theorem dX7_finish_181 : decode cX7_finish 181 = .ok (.istore_n 2, 1) := by decide +kernel
theorem dX7_finish_182 : decode cX7_finish 182 = .ok (.aload_n 0, 1) := by decide +kernel
theorem dX7_finish_183 : decode cX7_finish 183 = .ok (.getfield 13, 3) := by decide +kernel
theorem dX7_finish_186 : decode cX7_finish 186 = .ok (.bipush 6, 2) := by decide +kernel
theorem dX7_finish_188 : decode cX7_finish 188 = .ok (.iload_n 2, 1) := by decide +kernel
theorem dX7_finish_189 : decode cX7_finish 189 = .ok (.imul, 1) := by decide +kernel
theorem dX7_finish_190 : decode cX7_finish 190 = .ok (.iconst 3, 1) := by decide +kernel
theorem dX7_finish_191 : decode cX7_finish 191 = .ok (.iadd, 1) := by decide +kernel
theorem dX7_finish_192 : decode cX7_finish 192 = .ok (.aload_n 0, 1) := by decide +kernel
theorem dX7_finish_193 : decode cX7_finish 193 = .ok (.getfield 47, 3) := by decide +kernel
theorem dX7_finish_196 : decode cX7_finish 196 = .ok (.iconst 3, 1) := by decide +kernel
theorem dX7_finish_197 : decode cX7_finish 197 = .ok (.iaload, 1) := by decide +kernel
theorem dX7_finish_198 : decode cX7_finish 198 = .ok (.iastore, 1) := by decide +kernel
theorem dX7_finish_199 : decode cX7_finish 199 = .ok (.aload_n 0, 1) := by decide +kernel
theorem dX7_finish_200 : decode cX7_finish 200 = .ok (.iconst 4, 1) := by decide +kernel
theorem dX7_finish_201 : decode cX7_finish 201 = .ok (.putfield 143, 3) := by decide +kernel
theorem dX7_finish_204 : decode cX7_finish 204 = .ok (.iload_n 1, 1) := by decide +kernel
theorem dX7_finish_205 : decode cX7_finish 205 = .ok (.ireturn, 1) := by decide +kernel
theorem dX7_phase_0 : decode cX7_phase 0 = .ok (.aload_n 0, 1) := by decide +kernel
theorem dX7_phase_1 : decode cX7_phase 1 = .ok (.iconst 0, 1) := by decide +kernel
theorem dX7_phase_2 : decode cX7_phase 2 = .ok (.putfield 99, 3) := by decide +kernel
theorem dX7_phase_5 : decode cX7_phase 5 = .ok (.aload_n 0, 1) := by decide +kernel
theorem dX7_phase_6 : decode cX7_phase 6 = .ok (.getfield 143, 3) := by decide +kernel
theorem dX7_phase_9 : decode cX7_phase 9 = .ok (.ireturn, 1) := by decide +kernel
theorem dX7_votes_0 : decode cX7_votes 0 = .ok (.aload_n 0, 1) := by decide +kernel
theorem dX7_votes_1 : decode cX7_votes 1 = .ok (.iload_n 1, 1) := by decide +kernel
theorem dX7_votes_2 : decode cX7_votes 2 = .ok (.ifCond .lt 8, 3) := by decide +kernel
theorem dX7_votes_5 : decode cX7_votes 5 = .ok (.iload_n 1, 1) := by decide +kernel
theorem dX7_votes_6 : decode cX7_votes 6 = .ok (.iconst 3, 1) := by decide +kernel
theorem dX7_votes_7 : decode cX7_votes 7 = .ok (.if_icmp .le 7, 3) := by decide +kernel
theorem dX7_votes_10 : decode cX7_votes 10 = .ok (.iconst 1, 1) := by decide +kernel
theorem dX7_votes_11 : decode cX7_votes 11 = .ok (.goto 4, 3) := by decide +kernel
theorem dX7_votes_14 : decode cX7_votes 14 = .ok (.iconst 0, 1) := by decide +kernel
theorem dX7_votes_15 : decode cX7_votes 15 = .ok (.putfield 99, 3) := by decide +kernel
theorem dX7_votes_18 : decode cX7_votes 18 = .ok (.aload_n 0, 1) := by decide +kernel
theorem dX7_votes_19 : decode cX7_votes 19 = .ok (.getfield 99, 3) := by decide +kernel
theorem dX7_votes_22 : decode cX7_votes 22 = .ok (.ifCond .le 7, 3) := by decide +kernel
theorem dX7_votes_25 : decode cX7_votes 25 = .ok (.iconst 0, 1) := by decide +kernel
theorem dX7_votes_26 : decode cX7_votes 26 = .ok (.goto 21, 3) := by decide +kernel
theorem dX7_votes_29 : decode cX7_votes 29 = .ok (.aload_n 0, 1) := by decide +kernel
theorem dX7_votes_30 : decode cX7_votes 30 = .ok (.getfield 143, 3) := by decide +kernel
theorem dX7_votes_33 : decode cX7_votes 33 = .ok (.iconst 4, 1) := by decide +kernel
theorem dX7_votes_34 : decode cX7_votes 34 = .ok (.if_icmp .ne 12, 3) := by decide +kernel
theorem dX7_votes_37 : decode cX7_votes 37 = .ok (.aload_n 0, 1) := by decide +kernel
theorem dX7_votes_38 : decode cX7_votes 38 = .ok (.getfield 47, 3) := by decide +kernel
theorem dX7_votes_41 : decode cX7_votes 41 = .ok (.iload_n 1, 1) := by decide +kernel
theorem dX7_votes_42 : decode cX7_votes 42 = .ok (.iaload, 1) := by decide +kernel
theorem dX7_votes_43 : decode cX7_votes 43 = .ok (.goto 4, 3) := by decide +kernel
theorem dX7_votes_46 : decode cX7_votes 46 = .ok (.iconst (-1), 1) := by decide +kernel
theorem dX7_votes_47 : decode cX7_votes 47 = .ok (.ireturn, 1) := by decide +kernel
theorem dX7_records_0 : decode cX7_records 0 = .ok (.aload_n 0, 1) := by decide +kernel
theorem dX7_records_1 : decode cX7_records 1 = .ok (.iconst 0, 1) := by decide +kernel
theorem dX7_records_2 : decode cX7_records 2 = .ok (.putfield 99, 3) := by decide +kernel
theorem dX7_records_5 : decode cX7_records 5 = .ok (.aload_n 0, 1) := by decide +kernel
theorem dX7_records_6 : decode cX7_records 6 = .ok (.getfield 129, 3) := by decide +kernel
theorem dX7_records_9 : decode cX7_records 9 = .ok (.ireturn, 1) := by decide +kernel
theorem dX7_noRecord_0 : decode cX7_noRecord 0 = .ok (.iload_n 1, 1) := by decide +kernel
theorem dX7_noRecord_1 : decode cX7_noRecord 1 = .ok (.ifCond .lt 11, 3) := by decide +kernel
theorem dX7_noRecord_4 : decode cX7_noRecord 4 = .ok (.iload_n 1, 1) := by decide +kernel
theorem dX7_noRecord_5 : decode cX7_noRecord 5 = .ok (.aload_n 0, 1) := by decide +kernel
theorem dX7_noRecord_6 : decode cX7_noRecord 6 = .ok (.getfield 129, 3) := by decide +kernel
theorem dX7_noRecord_9 : decode cX7_noRecord 9 = .ok (.if_icmp .lt 7, 3) := by decide +kernel
theorem dX7_noRecord_12 : decode cX7_noRecord 12 = .ok (.iconst 1, 1) := by decide +kernel
theorem dX7_noRecord_13 : decode cX7_noRecord 13 = .ok (.goto 4, 3) := by decide +kernel
theorem dX7_noRecord_16 : decode cX7_noRecord 16 = .ok (.iconst 0, 1) := by decide +kernel
theorem dX7_noRecord_17 : decode cX7_noRecord 17 = .ok (.ireturn, 1) := by decide +kernel
set_option maxRecDepth 20000 in
theorem ggX7_field_X7_noRecord : GoodIn wsX7_field wsX7_noRecord := goodIn_r _ [8, 9, 10, 11, 12, 13, 14, 15, 16, 17, 18, 19, 20, 21, 22, 23, 24, 25, 26, 27, 28, 29, 30, 31, 32, 33, 34, 35, 36, 37, 38, 39, 40, 41, 42, 43, 44, 45, 46, 47, 48] rfl (by decide +kernel)
set_option maxRecDepth 20000 in
theorem gX7_field_X7_noRecord : GoodIn wsX7_field (wsV RX7 185 RX7 yX7_noRecord wsX7_noRecord) := goodIn_app (goodIn_r _ [4, 5, 6, 7] rfl (by decide +kernel)) ggX7_field_X7_noRecord
theorem dX7_field_0 : decode cX7_field 0 = .ok (.aload_n 0, 1) := by decide +kernel
theorem dX7_field_1 : decode cX7_field 1 = .ok (.aload_n 0, 1) := by decide +kernel
theorem dX7_field_2 : decode cX7_field 2 = .ok (.iload_n 1, 1) := by decide +kernel
theorem dX7_field_3 : decode cX7_field 3 = .ok (.invokevirtual 185, 3) := by decide +kernel
theorem dX7_field_6 : decode cX7_field 6 = .ok (.ifCond .ne 13, 3) := by decide +kernel
theorem dX7_field_9 : decode cX7_field 9 = .ok (.iload_n 2, 1) := by decide +kernel
theorem dX7_field_10 : decode cX7_field 10 = .ok (.ifCond .lt 9, 3) := by decide +kernel
theorem dX7_field_13 : decode cX7_field 13 = .ok (.iload_n 2, 1) := by decide +kernel
theorem dX7_field_14 : decode cX7_field 14 = .ok (.bipush 6, 2) := by decide +kernel
theorem dX7_field_16 : decode cX7_field 16 = .ok (.if_icmp .le 7, 3) := by decide +kernel
theorem dX7_field_19 : decode cX7_field 19 = .ok (.iconst 1, 1) := by decide +kernel
theorem dX7_field_20 : decode cX7_field 20 = .ok (.goto 4, 3) := by decide +kernel
theorem dX7_field_23 : decode cX7_field 23 = .ok (.iconst 0, 1) := by decide +kernel
theorem dX7_field_24 : decode cX7_field 24 = .ok (.putfield 99, 3) := by decide +kernel
theorem dX7_field_27 : decode cX7_field 27 = .ok (.aload_n 0, 1) := by decide +kernel
theorem dX7_field_28 : decode cX7_field 28 = .ok (.getfield 99, 3) := by decide +kernel
theorem dX7_field_31 : decode cX7_field 31 = .ok (.ifCond .le 7, 3) := by decide +kernel
theorem dX7_field_34 : decode cX7_field 34 = .ok (.iconst 0, 1) := by decide +kernel
theorem dX7_field_35 : decode cX7_field 35 = .ok (.goto 29, 3) := by decide +kernel
theorem dX7_field_38 : decode cX7_field 38 = .ok (.iload_n 2, 1) := by decide +kernel
theorem dX7_field_39 : decode cX7_field 39 = .ok (.ifCond .ne 12, 3) := by decide +kernel
theorem dX7_field_42 : decode cX7_field 42 = .ok (.aload_n 0, 1) := by decide +kernel
theorem dX7_field_43 : decode cX7_field 43 = .ok (.getfield 7, 3) := by decide +kernel
theorem dX7_field_46 : decode cX7_field 46 = .ok (.iload_n 1, 1) := by decide +kernel
theorem dX7_field_47 : decode cX7_field 47 = .ok (.iaload, 1) := by decide +kernel
theorem dX7_field_48 : decode cX7_field 48 = .ok (.goto 16, 3) := by decide +kernel
theorem dX7_field_51 : decode cX7_field 51 = .ok (.aload_n 0, 1) := by decide +kernel
theorem dX7_field_52 : decode cX7_field 52 = .ok (.getfield 13, 3) := by decide +kernel
theorem dX7_field_55 : decode cX7_field 55 = .ok (.bipush 6, 2) := by decide +kernel
theorem dX7_field_57 : decode cX7_field 57 = .ok (.iload_n 1, 1) := by decide +kernel
theorem dX7_field_58 : decode cX7_field 58 = .ok (.imul, 1) := by decide +kernel
theorem dX7_field_59 : decode cX7_field 59 = .ok (.iload_n 2, 1) := by decide +kernel
theorem dX7_field_60 : decode cX7_field 60 = .ok (.iadd, 1) := by decide +kernel
theorem dX7_field_61 : decode cX7_field 61 = .ok (.iconst 1, 1) := by decide +kernel
theorem dX7_field_62 : decode cX7_field 62 = .ok (.isub, 1) := by decide +kernel
theorem dX7_field_63 : decode cX7_field 63 = .ok (.iaload, 1) := by decide +kernel
theorem dX7_field_64 : decode cX7_field 64 = .ok (.ireturn, 1) := by decide +kernel
set_option maxRecDepth 20000 in
theorem ggX7_forge_X7_noRecord : GoodIn wsX7_forge wsX7_noRecord := goodIn_r _ [7, 8, 9, 10, 11, 12, 13, 14, 15, 16, 17, 18, 19, 20, 21, 22, 23, 24, 25, 26, 27, 28, 29, 30, 31, 32, 33, 34, 35, 36, 37, 38, 39, 40, 41, 42, 43, 44, 45, 46, 47] rfl (by decide +kernel)
set_option maxRecDepth 20000 in
theorem gX7_forge_X7_noRecord : GoodIn wsX7_forge (wsV RX7 185 RX7 yX7_noRecord wsX7_noRecord) := goodIn_app (goodIn_r _ [3, 4, 5, 6] rfl (by decide +kernel)) ggX7_forge_X7_noRecord
theorem dX7_forge_0 : decode cX7_forge 0 = .ok (.aload_n 0, 1) := by decide +kernel
theorem dX7_forge_1 : decode cX7_forge 1 = .ok (.aload_n 0, 1) := by decide +kernel
theorem dX7_forge_2 : decode cX7_forge 2 = .ok (.iload_n 1, 1) := by decide +kernel
theorem dX7_forge_3 : decode cX7_forge 3 = .ok (.invokevirtual 185, 3) := by decide +kernel
theorem dX7_forge_6 : decode cX7_forge 6 = .ok (.ifCond .ne 14, 3) := by decide +kernel
theorem dX7_forge_9 : decode cX7_forge 9 = .ok (.iload_n 2, 1) := by decide +kernel
theorem dX7_forge_10 : decode cX7_forge 10 = .ok (.iconst 1, 1) := by decide +kernel
theorem dX7_forge_11 : decode cX7_forge 11 = .ok (.if_icmp .lt 9, 3) := by decide +kernel
theorem dX7_forge_14 : decode cX7_forge 14 = .ok (.iload_n 2, 1) := by decide +kernel
theorem dX7_forge_15 : decode cX7_forge 15 = .ok (.bipush 6, 2) := by decide +kernel
theorem dX7_forge_17 : decode cX7_forge 17 = .ok (.if_icmp .le 7, 3) := by decide +kernel
theorem dX7_forge_20 : decode cX7_forge 20 = .ok (.iconst 1, 1) := by decide +kernel
theorem dX7_forge_21 : decode cX7_forge 21 = .ok (.goto 4, 3) := by decide +kernel
theorem dX7_forge_24 : decode cX7_forge 24 = .ok (.iconst 0, 1) := by decide +kernel
theorem dX7_forge_25 : decode cX7_forge 25 = .ok (.putfield 99, 3) := by decide +kernel
theorem dX7_forge_28 : decode cX7_forge 28 = .ok (.aload_n 0, 1) := by decide +kernel
theorem dX7_forge_29 : decode cX7_forge 29 = .ok (.getfield 99, 3) := by decide +kernel
theorem dX7_forge_32 : decode cX7_forge 32 = .ok (.ifCond .le 5, 3) := by decide +kernel
theorem dX7_forge_35 : decode cX7_forge 35 = .ok (.iconst 0, 1) := by decide +kernel
theorem dX7_forge_36 : decode cX7_forge 36 = .ok (.ireturn, 1) := by decide +kernel
theorem dX7_forge_37 : decode cX7_forge 37 = .ok (.aload_n 0, 1) := by decide +kernel
theorem dX7_forge_38 : decode cX7_forge 38 = .ok (.getfield 13, 3) := by decide +kernel
theorem dX7_forge_41 : decode cX7_forge 41 = .ok (.bipush 6, 2) := by decide +kernel
theorem dX7_forge_43 : decode cX7_forge 43 = .ok (.iload_n 1, 1) := by decide +kernel
theorem dX7_forge_44 : decode cX7_forge 44 = .ok (.imul, 1) := by decide +kernel
theorem dX7_forge_45 : decode cX7_forge 45 = .ok (.iload_n 2, 1) := by decide +kernel
theorem dX7_forge_46 : decode cX7_forge 46 = .ok (.iadd, 1) := by decide +kernel
theorem dX7_forge_47 : decode cX7_forge 47 = .ok (.iconst 1, 1) := by decide +kernel
theorem dX7_forge_48 : decode cX7_forge 48 = .ok (.isub, 1) := by decide +kernel
theorem dX7_forge_49 : decode cX7_forge 49 = .ok (.iaload, 1) := by decide +kernel
theorem dX7_forge_50 : decode cX7_forge 50 = .ok (.istore 4, 2) := by decide +kernel
theorem dX7_forge_52 : decode cX7_forge 52 = .ok (.aload_n 0, 1) := by decide +kernel
theorem dX7_forge_53 : decode cX7_forge 53 = .ok (.getfield 13, 3) := by decide +kernel
theorem dX7_forge_56 : decode cX7_forge 56 = .ok (.bipush 6, 2) := by decide +kernel
theorem dX7_forge_58 : decode cX7_forge 58 = .ok (.iload_n 1, 1) := by decide +kernel
theorem dX7_forge_59 : decode cX7_forge 59 = .ok (.imul, 1) := by decide +kernel
theorem dX7_forge_60 : decode cX7_forge 60 = .ok (.iload_n 2, 1) := by decide +kernel
theorem dX7_forge_61 : decode cX7_forge 61 = .ok (.iadd, 1) := by decide +kernel
theorem dX7_forge_62 : decode cX7_forge 62 = .ok (.iconst 1, 1) := by decide +kernel
theorem dX7_forge_63 : decode cX7_forge 63 = .ok (.isub, 1) := by decide +kernel
theorem dX7_forge_64 : decode cX7_forge 64 = .ok (.iload_n 3, 1) := by decide +kernel
theorem dX7_forge_65 : decode cX7_forge 65 = .ok (.iastore, 1) := by decide +kernel
theorem dX7_forge_66 : decode cX7_forge 66 = .ok (.iload 4, 2) := by decide +kernel
theorem dX7_forge_68 : decode cX7_forge 68 = .ok (.ireturn, 1) := by decide +kernel
theorem dX7_bare_0 : decode cX7_bare 0 = .ok (.iconst 1, 1) := by decide +kernel
theorem dX7_bare_1 : decode cX7_bare 1 = .ok (.istore_n 3, 1) := by decide +kernel
theorem dX7_bare_2 : decode cX7_bare 2 = .ok (.iload_n 2, 1) := by decide +kernel
theorem dX7_bare_3 : decode cX7_bare 3 = .ok (.istore 4, 2) := by decide +kernel
theorem dX7_bare_5 : decode cX7_bare 5 = .ok (.iload 4, 2) := by decide +kernel
theorem dX7_bare_7 : decode cX7_bare 7 = .ok (.bipush 6, 2) := by decide +kernel
theorem dX7_bare_9 : decode cX7_bare 9 = .ok (.if_icmp .ge 34, 3) := by decide +kernel
theorem dX7_bare_12 : decode cX7_bare 12 = .ok (.iload_n 3, 1) := by decide +kernel
theorem dX7_bare_13 : decode cX7_bare 13 = .ok (.ifCond .eq 22, 3) := by decide +kernel
theorem dX7_bare_16 : decode cX7_bare 16 = .ok (.aload_n 0, 1) := by decide +kernel
theorem dX7_bare_17 : decode cX7_bare 17 = .ok (.getfield 13, 3) := by decide +kernel
theorem dX7_bare_20 : decode cX7_bare 20 = .ok (.bipush 6, 2) := by decide +kernel
theorem dX7_bare_22 : decode cX7_bare 22 = .ok (.iload_n 1, 1) := by decide +kernel
theorem dX7_bare_23 : decode cX7_bare 23 = .ok (.imul, 1) := by decide +kernel
theorem dX7_bare_24 : decode cX7_bare 24 = .ok (.iload 4, 2) := by decide +kernel
theorem dX7_bare_26 : decode cX7_bare 26 = .ok (.iadd, 1) := by decide +kernel
theorem dX7_bare_27 : decode cX7_bare 27 = .ok (.iaload, 1) := by decide +kernel
theorem dX7_bare_28 : decode cX7_bare 28 = .ok (.ifCond .ne 7, 3) := by decide +kernel
theorem dX7_bare_31 : decode cX7_bare 31 = .ok (.iconst 1, 1) := by decide +kernel
theorem dX7_bare_32 : decode cX7_bare 32 = .ok (.goto 4, 3) := by decide +kernel
theorem dX7_bare_35 : decode cX7_bare 35 = .ok (.iconst 0, 1) := by decide +kernel
theorem dX7_bare_36 : decode cX7_bare 36 = .ok (.istore_n 3, 1) := by decide +kernel
theorem dX7_bare_37 : decode cX7_bare 37 = .ok (.iinc 4 1, 3) := by decide +kernel
theorem dX7_bare_40 : decode cX7_bare 40 = .ok (.goto (-35), 3) := by decide +kernel
theorem dX7_bare_43 : decode cX7_bare 43 = .ok (.iload_n 3, 1) := by decide +kernel
theorem dX7_bare_44 : decode cX7_bare 44 = .ok (.ireturn, 1) := by decide +kernel
set_option maxRecDepth 20000 in
theorem ggX7_rightBegun_X7_bare : GoodIn wsX7_rightBegun wsX7_bare := goodIn_r _ [8, 2, 16, 17, 18, 19, 20, 21, 22, 23, 24, 25, 26, 27, 28, 29, 30, 31, 32, 33, 34, 35, 36, 37, 38, 39, 40, 41, 42, 43, 44, 45, 46, 47, 48, 49, 50, 51, 52, 53, 54] rfl (by decide +kernel)
set_option maxRecDepth 20000 in
theorem gX7_rightBegun_X7_bare : GoodIn wsX7_rightBegun (wsV RX7 191 RX7 yX7_bare wsX7_bare) := goodIn_app (goodIn_r _ [4, 5, 6, 7] rfl (by decide +kernel)) ggX7_rightBegun_X7_bare
set_option maxRecDepth 20000 in
theorem ggX7_rightBegun_X7_isElement : GoodIn wsX7_rightBegun wsX7_isElement := goodIn_r _ [11, 12, 13, 7, 14, 15] rfl (by decide +kernel)
set_option maxRecDepth 20000 in
theorem gX7_rightBegun_X7_isElement : GoodIn wsX7_rightBegun (va_wsS RX7 195 yX7_isElement wsX7_isElement) := goodIn_app (goodIn_r _ [9, 10, 7] rfl (by decide +kernel)) ggX7_rightBegun_X7_isElement
theorem dX7_rightBegun_0 : decode cX7_rightBegun 0 = .ok (.aload_n 0, 1) := by decide +kernel
theorem dX7_rightBegun_1 : decode cX7_rightBegun 1 = .ok (.getfield 188, 3) := by decide +kernel
theorem dX7_rightBegun_4 : decode cX7_rightBegun 4 = .ok (.ifCond .ne 16, 3) := by decide +kernel
theorem dX7_rightBegun_7 : decode cX7_rightBegun 7 = .ok (.aload_n 0, 1) := by decide +kernel
theorem dX7_rightBegun_8 : decode cX7_rightBegun 8 = .ok (.iload_n 1, 1) := by decide +kernel
theorem dX7_rightBegun_9 : decode cX7_rightBegun 9 = .ok (.iconst 3, 1) := by decide +kernel
theorem dX7_rightBegun_10 : decode cX7_rightBegun 10 = .ok (.invokevirtual 191, 3) := by decide +kernel
theorem dX7_rightBegun_13 : decode cX7_rightBegun 13 = .ok (.ifCond .eq 7, 3) := by decide +kernel
theorem dX7_rightBegun_16 : decode cX7_rightBegun 16 = .ok (.iconst 1, 1) := by decide +kernel
theorem dX7_rightBegun_17 : decode cX7_rightBegun 17 = .ok (.goto 4, 3) := by decide +kernel
theorem dX7_rightBegun_20 : decode cX7_rightBegun 20 = .ok (.iconst 0, 1) := by decide +kernel
theorem dX7_rightBegun_21 : decode cX7_rightBegun 21 = .ok (.istore_n 2, 1) := by decide +kernel
theorem dX7_rightBegun_22 : decode cX7_rightBegun 22 = .ok (.iconst 0, 1) := by decide +kernel
theorem dX7_rightBegun_23 : decode cX7_rightBegun 23 = .ok (.istore_n 3, 1) := by decide +kernel
theorem dX7_rightBegun_24 : decode cX7_rightBegun 24 = .ok (.iload_n 3, 1) := by decide +kernel
theorem dX7_rightBegun_25 : decode cX7_rightBegun 25 = .ok (.iconst 3, 1) := by decide +kernel
theorem dX7_rightBegun_26 : decode cX7_rightBegun 26 = .ok (.if_icmp .ge 53, 3) := by decide +kernel
theorem dX7_rightBegun_29 : decode cX7_rightBegun 29 = .ok (.iload_n 2, 1) := by decide +kernel
theorem dX7_rightBegun_30 : decode cX7_rightBegun 30 = .ok (.ifCond .eq 24, 3) := by decide +kernel
theorem dX7_rightBegun_33 : decode cX7_rightBegun 33 = .ok (.aload_n 0, 1) := by decide +kernel
theorem dX7_rightBegun_34 : decode cX7_rightBegun 34 = .ok (.getfield 13, 3) := by decide +kernel
theorem dX7_rightBegun_37 : decode cX7_rightBegun 37 = .ok (.bipush 6, 2) := by decide +kernel
theorem dX7_rightBegun_39 : decode cX7_rightBegun 39 = .ok (.iload_n 1, 1) := by decide +kernel
theorem dX7_rightBegun_40 : decode cX7_rightBegun 40 = .ok (.imul, 1) := by decide +kernel
theorem dX7_rightBegun_41 : decode cX7_rightBegun 41 = .ok (.iload_n 3, 1) := by decide +kernel
theorem dX7_rightBegun_42 : decode cX7_rightBegun 42 = .ok (.iadd, 1) := by decide +kernel
theorem dX7_rightBegun_43 : decode cX7_rightBegun 43 = .ok (.iaload, 1) := by decide +kernel
theorem dX7_rightBegun_44 : decode cX7_rightBegun 44 = .ok (.invokestatic 195, 3) := by decide +kernel
theorem dX7_rightBegun_47 : decode cX7_rightBegun 47 = .ok (.ifCond .eq 7, 3) := by decide +kernel
theorem dX7_rightBegun_50 : decode cX7_rightBegun 50 = .ok (.iconst 1, 1) := by decide +kernel
theorem dX7_rightBegun_51 : decode cX7_rightBegun 51 = .ok (.goto 4, 3) := by decide +kernel
theorem dX7_rightBegun_54 : decode cX7_rightBegun 54 = .ok (.iconst 0, 1) := by decide +kernel
theorem dX7_rightBegun_55 : decode cX7_rightBegun 55 = .ok (.istore_n 2, 1) := by decide +kernel
theorem dX7_rightBegun_56 : decode cX7_rightBegun 56 = .ok (.aload_n 0, 1) := by decide +kernel
theorem dX7_rightBegun_57 : decode cX7_rightBegun 57 = .ok (.getfield 71, 3) := by decide +kernel
theorem dX7_rightBegun_60 : decode cX7_rightBegun 60 = .ok (.iload_n 3, 1) := by decide +kernel
theorem dX7_rightBegun_61 : decode cX7_rightBegun 61 = .ok (.aload_n 0, 1) := by decide +kernel
theorem dX7_rightBegun_62 : decode cX7_rightBegun 62 = .ok (.getfield 13, 3) := by decide +kernel
theorem dX7_rightBegun_65 : decode cX7_rightBegun 65 = .ok (.bipush 6, 2) := by decide +kernel
theorem dX7_rightBegun_67 : decode cX7_rightBegun 67 = .ok (.iload_n 1, 1) := by decide +kernel
theorem dX7_rightBegun_68 : decode cX7_rightBegun 68 = .ok (.imul, 1) := by decide +kernel
theorem dX7_rightBegun_69 : decode cX7_rightBegun 69 = .ok (.iload_n 3, 1) := by decide +kernel
theorem dX7_rightBegun_70 : decode cX7_rightBegun 70 = .ok (.iadd, 1) := by decide +kernel
theorem dX7_rightBegun_71 : decode cX7_rightBegun 71 = .ok (.iaload, 1) := by decide +kernel
theorem dX7_rightBegun_72 : decode cX7_rightBegun 72 = .ok (.iastore, 1) := by decide +kernel
theorem dX7_rightBegun_73 : decode cX7_rightBegun 73 = .ok (.iinc 3 1, 3) := by decide +kernel
theorem dX7_rightBegun_76 : decode cX7_rightBegun 76 = .ok (.goto (-52), 3) := by decide +kernel
theorem dX7_rightBegun_79 : decode cX7_rightBegun 79 = .ok (.aload_n 0, 1) := by decide +kernel
theorem dX7_rightBegun_80 : decode cX7_rightBegun 80 = .ok (.iconst 1, 1) := by decide +kernel
theorem dX7_rightBegun_81 : decode cX7_rightBegun 81 = .ok (.putfield 188, 3) := by decide +kernel
theorem dX7_rightBegun_84 : decode cX7_rightBegun 84 = .ok (.iload_n 2, 1) := by decide +kernel
theorem dX7_rightBegun_85 : decode cX7_rightBegun 85 = .ok (.ireturn, 1) := by decide +kernel
set_option maxRecDepth 20000 in
theorem ggX7_rightVoter_X7_noVoter : GoodIn wsX7_rightVoter wsX7_noVoter := goodIn_r _ [7] rfl (by decide +kernel)
set_option maxRecDepth 20000 in
theorem gX7_rightVoter_X7_noVoter : GoodIn wsX7_rightVoter (va_wsS RX7 146 yX7_noVoter wsX7_noVoter) := goodIn_app (goodIn_r _ [4, 5, 6] rfl (by decide +kernel)) ggX7_rightVoter_X7_noVoter
set_option maxRecDepth 20000 in
theorem ggX7_rightVoter_X7_bare : GoodIn wsX7_rightVoter wsX7_bare := goodIn_r _ [11, 1, 12, 13, 14, 15, 16, 17, 18, 19, 20, 21, 22, 23, 24, 25, 26, 27, 28, 29, 30, 31, 32, 33, 34, 35, 36, 37, 38, 39, 40, 41, 42, 43, 44, 45, 46, 47, 48, 49, 50] rfl (by decide +kernel)
set_option maxRecDepth 20000 in
theorem gX7_rightVoter_X7_bare : GoodIn wsX7_rightVoter (wsV RX7 191 RX7 yX7_bare wsX7_bare) := goodIn_app (goodIn_r _ [8, 9, 10, 6] rfl (by decide +kernel)) ggX7_rightVoter_X7_bare
theorem dX7_rightVoter_0 : decode cX7_rightVoter 0 = .ok (.aload_n 0, 1) := by decide +kernel
theorem dX7_rightVoter_1 : decode cX7_rightVoter 1 = .ok (.getfield 13, 3) := by decide +kernel
theorem dX7_rightVoter_4 : decode cX7_rightVoter 4 = .ok (.bipush 6, 2) := by decide +kernel
theorem dX7_rightVoter_6 : decode cX7_rightVoter 6 = .ok (.iload_n 1, 1) := by decide +kernel
theorem dX7_rightVoter_7 : decode cX7_rightVoter 7 = .ok (.imul, 1) := by decide +kernel
theorem dX7_rightVoter_8 : decode cX7_rightVoter 8 = .ok (.iaload, 1) := by decide +kernel
theorem dX7_rightVoter_9 : decode cX7_rightVoter 9 = .ok (.istore_n 2, 1) := by decide +kernel
theorem dX7_rightVoter_10 : decode cX7_rightVoter 10 = .ok (.aload_n 0, 1) := by decide +kernel
theorem dX7_rightVoter_11 : decode cX7_rightVoter 11 = .ok (.getfield 188, 3) := by decide +kernel
theorem dX7_rightVoter_14 : decode cX7_rightVoter 14 = .ok (.iconst 1, 1) := by decide +kernel
theorem dX7_rightVoter_15 : decode cX7_rightVoter 15 = .ok (.if_icmp .ne 28, 3) := by decide +kernel
theorem dX7_rightVoter_18 : decode cX7_rightVoter 18 = .ok (.iload_n 2, 1) := by decide +kernel
theorem dX7_rightVoter_19 : decode cX7_rightVoter 19 = .ok (.invokestatic 146, 3) := by decide +kernel
theorem dX7_rightVoter_22 : decode cX7_rightVoter 22 = .ok (.ifCond .ne 21, 3) := by decide +kernel
theorem dX7_rightVoter_25 : decode cX7_rightVoter 25 = .ok (.aload_n 0, 1) := by decide +kernel
theorem dX7_rightVoter_26 : decode cX7_rightVoter 26 = .ok (.getfield 59, 3) := by decide +kernel
theorem dX7_rightVoter_29 : decode cX7_rightVoter 29 = .ok (.iload_n 2, 1) := by decide +kernel
theorem dX7_rightVoter_30 : decode cX7_rightVoter 30 = .ok (.baload, 1) := by decide +kernel
theorem dX7_rightVoter_31 : decode cX7_rightVoter 31 = .ok (.ifCond .ne 12, 3) := by decide +kernel
theorem dX7_rightVoter_34 : decode cX7_rightVoter 34 = .ok (.aload_n 0, 1) := by decide +kernel
theorem dX7_rightVoter_35 : decode cX7_rightVoter 35 = .ok (.iload_n 1, 1) := by decide +kernel
theorem dX7_rightVoter_36 : decode cX7_rightVoter 36 = .ok (.iconst 1, 1) := by decide +kernel
theorem dX7_rightVoter_37 : decode cX7_rightVoter 37 = .ok (.invokevirtual 191, 3) := by decide +kernel
theorem dX7_rightVoter_40 : decode cX7_rightVoter 40 = .ok (.ifCond .ne 5, 3) := by decide +kernel
theorem dX7_rightVoter_43 : decode cX7_rightVoter 43 = .ok (.iconst 0, 1) := by decide +kernel
theorem dX7_rightVoter_44 : decode cX7_rightVoter 44 = .ok (.ireturn, 1) := by decide +kernel
theorem dX7_rightVoter_45 : decode cX7_rightVoter 45 = .ok (.aload_n 0, 1) := by decide +kernel
theorem dX7_rightVoter_46 : decode cX7_rightVoter 46 = .ok (.getfield 59, 3) := by decide +kernel
theorem dX7_rightVoter_49 : decode cX7_rightVoter 49 = .ok (.iload_n 2, 1) := by decide +kernel
theorem dX7_rightVoter_50 : decode cX7_rightVoter 50 = .ok (.iconst 1, 1) := by decide +kernel
theorem dX7_rightVoter_51 : decode cX7_rightVoter 51 = .ok (.bastore, 1) := by decide +kernel
theorem dX7_rightVoter_52 : decode cX7_rightVoter 52 = .ok (.iconst 1, 1) := by decide +kernel
theorem dX7_rightVoter_53 : decode cX7_rightVoter 53 = .ok (.ireturn, 1) := by decide +kernel
set_option maxRecDepth 20000 in
theorem ggX7_rightBallot_X7_noVoter : GoodIn wsX7_rightBallot wsX7_noVoter := goodIn_r _ [10] rfl (by decide +kernel)
set_option maxRecDepth 20000 in
theorem gX7_rightBallot_X7_noVoter : GoodIn wsX7_rightBallot (va_wsS RX7 146 yX7_noVoter wsX7_noVoter) := goodIn_app (goodIn_r _ [7, 8, 9] rfl (by decide +kernel)) ggX7_rightBallot_X7_noVoter
set_option maxRecDepth 20000 in
theorem ggX7_rightBallot_X7_isElement : GoodIn wsX7_rightBallot wsX7_isElement := goodIn_r _ [13, 14, 15, 9, 16, 17] rfl (by decide +kernel)
set_option maxRecDepth 20000 in
theorem gX7_rightBallot_X7_isElement : GoodIn wsX7_rightBallot (va_wsS RX7 195 yX7_isElement wsX7_isElement) := goodIn_app (goodIn_r _ [11, 12, 9] rfl (by decide +kernel)) ggX7_rightBallot_X7_isElement
set_option maxRecDepth 20000 in
theorem ggX7_rightBallot_X7_bare : GoodIn wsX7_rightBallot wsX7_bare := goodIn_r _ [21, 1, 22, 23, 24, 25, 26, 27, 28, 29, 30, 31, 32, 33, 34, 35, 36, 37, 38, 39, 40, 41, 42, 43, 44, 45, 46, 47, 48, 49, 50, 51, 52, 53, 54, 55, 56, 57, 58, 59, 60] rfl (by decide +kernel)
set_option maxRecDepth 20000 in
theorem gX7_rightBallot_X7_bare : GoodIn wsX7_rightBallot (wsV RX7 191 RX7 yX7_bare wsX7_bare) := goodIn_app (goodIn_r _ [18, 19, 20, 9] rfl (by decide +kernel)) ggX7_rightBallot_X7_bare
theorem dX7_rightBallot_0 : decode cX7_rightBallot 0 = .ok (.aload_n 0, 1) := by decide +kernel
theorem dX7_rightBallot_1 : decode cX7_rightBallot 1 = .ok (.getfield 13, 3) := by decide +kernel
theorem dX7_rightBallot_4 : decode cX7_rightBallot 4 = .ok (.bipush 6, 2) := by decide +kernel
theorem dX7_rightBallot_6 : decode cX7_rightBallot 6 = .ok (.iload_n 1, 1) := by decide +kernel
theorem dX7_rightBallot_7 : decode cX7_rightBallot 7 = .ok (.imul, 1) := by decide +kernel
theorem dX7_rightBallot_8 : decode cX7_rightBallot 8 = .ok (.iaload, 1) := by decide +kernel
theorem dX7_rightBallot_9 : decode cX7_rightBallot 9 = .ok (.istore_n 2, 1) := by decide +kernel
theorem dX7_rightBallot_10 : decode cX7_rightBallot 10 = .ok (.aload_n 0, 1) := by decide +kernel
theorem dX7_rightBallot_11 : decode cX7_rightBallot 11 = .ok (.getfield 188, 3) := by decide +kernel
theorem dX7_rightBallot_14 : decode cX7_rightBallot 14 = .ok (.iconst 1, 1) := by decide +kernel
theorem dX7_rightBallot_15 : decode cX7_rightBallot 15 = .ok (.if_icmp .ne 62, 3) := by decide +kernel
theorem dX7_rightBallot_18 : decode cX7_rightBallot 18 = .ok (.iload_n 2, 1) := by decide +kernel
theorem dX7_rightBallot_19 : decode cX7_rightBallot 19 = .ok (.invokestatic 146, 3) := by decide +kernel
theorem dX7_rightBallot_22 : decode cX7_rightBallot 22 = .ok (.ifCond .ne 55, 3) := by decide +kernel
theorem dX7_rightBallot_25 : decode cX7_rightBallot 25 = .ok (.aload_n 0, 1) := by decide +kernel
theorem dX7_rightBallot_26 : decode cX7_rightBallot 26 = .ok (.getfield 59, 3) := by decide +kernel
theorem dX7_rightBallot_29 : decode cX7_rightBallot 29 = .ok (.iload_n 2, 1) := by decide +kernel
theorem dX7_rightBallot_30 : decode cX7_rightBallot 30 = .ok (.baload, 1) := by decide +kernel
theorem dX7_rightBallot_31 : decode cX7_rightBallot 31 = .ok (.ifCond .eq 46, 3) := by decide +kernel
theorem dX7_rightBallot_34 : decode cX7_rightBallot 34 = .ok (.aload_n 0, 1) := by decide +kernel
theorem dX7_rightBallot_35 : decode cX7_rightBallot 35 = .ok (.getfield 13, 3) := by decide +kernel
theorem dX7_rightBallot_38 : decode cX7_rightBallot 38 = .ok (.bipush 6, 2) := by decide +kernel
theorem dX7_rightBallot_40 : decode cX7_rightBallot 40 = .ok (.iload_n 1, 1) := by decide +kernel
theorem dX7_rightBallot_41 : decode cX7_rightBallot 41 = .ok (.imul, 1) := by decide +kernel
theorem dX7_rightBallot_42 : decode cX7_rightBallot 42 = .ok (.iconst 1, 1) := by decide +kernel
theorem dX7_rightBallot_43 : decode cX7_rightBallot 43 = .ok (.iadd, 1) := by decide +kernel
theorem dX7_rightBallot_44 : decode cX7_rightBallot 44 = .ok (.iaload, 1) := by decide +kernel
theorem dX7_rightBallot_45 : decode cX7_rightBallot 45 = .ok (.invokestatic 195, 3) := by decide +kernel
theorem dX7_rightBallot_48 : decode cX7_rightBallot 48 = .ok (.ifCond .eq 29, 3) := by decide +kernel
theorem dX7_rightBallot_51 : decode cX7_rightBallot 51 = .ok (.aload_n 0, 1) := by decide +kernel
theorem dX7_rightBallot_52 : decode cX7_rightBallot 52 = .ok (.getfield 13, 3) := by decide +kernel
theorem dX7_rightBallot_55 : decode cX7_rightBallot 55 = .ok (.bipush 6, 2) := by decide +kernel
theorem dX7_rightBallot_57 : decode cX7_rightBallot 57 = .ok (.iload_n 1, 1) := by decide +kernel
theorem dX7_rightBallot_58 : decode cX7_rightBallot 58 = .ok (.imul, 1) := by decide +kernel
theorem dX7_rightBallot_59 : decode cX7_rightBallot 59 = .ok (.iconst 2, 1) := by decide +kernel
theorem dX7_rightBallot_60 : decode cX7_rightBallot 60 = .ok (.iadd, 1) := by decide +kernel
theorem dX7_rightBallot_61 : decode cX7_rightBallot 61 = .ok (.iaload, 1) := by decide +kernel
theorem dX7_rightBallot_62 : decode cX7_rightBallot 62 = .ok (.invokestatic 195, 3) := by decide +kernel
theorem dX7_rightBallot_65 : decode cX7_rightBallot 65 = .ok (.ifCond .eq 12, 3) := by decide +kernel
theorem dX7_rightBallot_68 : decode cX7_rightBallot 68 = .ok (.aload_n 0, 1) := by decide +kernel
theorem dX7_rightBallot_69 : decode cX7_rightBallot 69 = .ok (.iload_n 1, 1) := by decide +kernel
theorem dX7_rightBallot_70 : decode cX7_rightBallot 70 = .ok (.iconst 3, 1) := by decide +kernel
theorem dX7_rightBallot_71 : decode cX7_rightBallot 71 = .ok (.invokevirtual 191, 3) := by decide +kernel
theorem dX7_rightBallot_74 : decode cX7_rightBallot 74 = .ok (.ifCond .ne 5, 3) := by decide +kernel
theorem dX7_rightBallot_77 : decode cX7_rightBallot 77 = .ok (.iconst 0, 1) := by decide +kernel
theorem dX7_rightBallot_78 : decode cX7_rightBallot 78 = .ok (.ireturn, 1) := by decide +kernel
theorem dX7_rightBallot_79 : decode cX7_rightBallot 79 = .ok (.aload_n 0, 1) := by decide +kernel
theorem dX7_rightBallot_80 : decode cX7_rightBallot 80 = .ok (.getfield 62, 3) := by decide +kernel
theorem dX7_rightBallot_83 : decode cX7_rightBallot 83 = .ok (.iload_n 2, 1) := by decide +kernel
theorem dX7_rightBallot_84 : decode cX7_rightBallot 84 = .ok (.iconst 1, 1) := by decide +kernel
theorem dX7_rightBallot_85 : decode cX7_rightBallot 85 = .ok (.bastore, 1) := by decide +kernel
theorem dX7_rightBallot_86 : decode cX7_rightBallot 86 = .ok (.aload_n 0, 1) := by decide +kernel
theorem dX7_rightBallot_87 : decode cX7_rightBallot 87 = .ok (.getfield 65, 3) := by decide +kernel
theorem dX7_rightBallot_90 : decode cX7_rightBallot 90 = .ok (.iload_n 2, 1) := by decide +kernel
theorem dX7_rightBallot_91 : decode cX7_rightBallot 91 = .ok (.aload_n 0, 1) := by decide +kernel
theorem dX7_rightBallot_92 : decode cX7_rightBallot 92 = .ok (.getfield 13, 3) := by decide +kernel
theorem dX7_rightBallot_95 : decode cX7_rightBallot 95 = .ok (.bipush 6, 2) := by decide +kernel
theorem dX7_rightBallot_97 : decode cX7_rightBallot 97 = .ok (.iload_n 1, 1) := by decide +kernel
theorem dX7_rightBallot_98 : decode cX7_rightBallot 98 = .ok (.imul, 1) := by decide +kernel
theorem dX7_rightBallot_99 : decode cX7_rightBallot 99 = .ok (.iconst 1, 1) := by decide +kernel
theorem dX7_rightBallot_100 : decode cX7_rightBallot 100 = .ok (.iadd, 1) := by decide +kernel
theorem dX7_rightBallot_101 : decode cX7_rightBallot 101 = .ok (.iaload, 1) := by decide +kernel
theorem dX7_rightBallot_102 : decode cX7_rightBallot 102 = .ok (.iastore, 1) := by decide +kernel
theorem dX7_rightBallot_103 : decode cX7_rightBallot 103 = .ok (.aload_n 0, 1) := by decide +kernel
theorem dX7_rightBallot_104 : decode cX7_rightBallot 104 = .ok (.getfield 68, 3) := by decide +kernel
theorem dX7_rightBallot_107 : decode cX7_rightBallot 107 = .ok (.iload_n 2, 1) := by decide +kernel
theorem dX7_rightBallot_108 : decode cX7_rightBallot 108 = .ok (.aload_n 0, 1) := by decide +kernel
theorem dX7_rightBallot_109 : decode cX7_rightBallot 109 = .ok (.getfield 13, 3) := by decide +kernel
theorem dX7_rightBallot_112 : decode cX7_rightBallot 112 = .ok (.bipush 6, 2) := by decide +kernel
theorem dX7_rightBallot_114 : decode cX7_rightBallot 114 = .ok (.iload_n 1, 1) := by decide +kernel
theorem dX7_rightBallot_115 : decode cX7_rightBallot 115 = .ok (.imul, 1) := by decide +kernel
theorem dX7_rightBallot_116 : decode cX7_rightBallot 116 = .ok (.iconst 2, 1) := by decide +kernel
theorem dX7_rightBallot_117 : decode cX7_rightBallot 117 = .ok (.iadd, 1) := by decide +kernel
theorem dX7_rightBallot_118 : decode cX7_rightBallot 118 = .ok (.iaload, 1) := by decide +kernel
theorem dX7_rightBallot_119 : decode cX7_rightBallot 119 = .ok (.iastore, 1) := by decide +kernel
theorem dX7_rightBallot_120 : decode cX7_rightBallot 120 = .ok (.iconst 1, 1) := by decide +kernel
theorem dX7_rightBallot_121 : decode cX7_rightBallot 121 = .ok (.ireturn, 1) := by decide +kernel
theorem dX7_await_0 : decode cX7_await 0 = .ok (.aload_n 0, 1) := by decide +kernel
theorem dX7_await_1 : decode cX7_await 1 = .ok (.iload_n 1, 1) := by decide +kernel
theorem dX7_await_2 : decode cX7_await 2 = .ok (.putfield 198, 3) := by decide +kernel
theorem dX7_await_5 : decode cX7_await 5 = .ok (.aload_n 0, 1) := by decide +kernel
theorem dX7_await_6 : decode cX7_await 6 = .ok (.iconst 0, 1) := by decide +kernel
theorem dX7_await_7 : decode cX7_await 7 = .ok (.putfield 201, 3) := by decide +kernel
theorem dX7_await_10 : decode cX7_await 10 = .ok (.aload_n 0, 1) := by decide +kernel
theorem dX7_await_11 : decode cX7_await 11 = .ok (.iload_n 1, 1) := by decide +kernel
theorem dX7_await_12 : decode cX7_await 12 = .ok (.ifCond .le 7, 3) := by decide +kernel
theorem dX7_await_15 : decode cX7_await 15 = .ok (.iconst 2, 1) := by decide +kernel
theorem dX7_await_16 : decode cX7_await 16 = .ok (.goto 4, 3) := by decide +kernel
theorem dX7_await_19 : decode cX7_await 19 = .ok (.iconst 3, 1) := by decide +kernel
theorem dX7_await_20 : decode cX7_await 20 = .ok (.putfield 188, 3) := by decide +kernel
theorem dX7_await_23 : decode cX7_await 23 = .ok (.return_, 1) := by decide +kernel
set_option maxRecDepth 20000 in
theorem ggX7_rightClosed_X7_bare : GoodIn wsX7_rightClosed wsX7_bare := goodIn_r _ [11, 12, 19, 20, 21, 22, 23, 24, 25, 26, 27, 28, 29, 30, 31, 32, 33, 34, 35, 36, 37, 38, 39, 40, 41, 42, 43, 44, 45, 46, 47, 48, 49, 50, 51, 52, 53, 54, 55, 56, 57] rfl (by decide +kernel)
set_option maxRecDepth 20000 in
theorem gX7_rightClosed_X7_bare : GoodIn wsX7_rightClosed (wsV RX7 191 RX7 yX7_bare wsX7_bare) := goodIn_app (goodIn_r _ [7, 8, 9, 10] rfl (by decide +kernel)) ggX7_rightClosed_X7_bare
set_option maxRecDepth 20000 in
theorem ggX7_rightClosed_X7_await : GoodIn wsX7_rightClosed wsX7_await := goodIn_r _ [16, 17, 18, 1, 19, 20, 21, 22, 23, 24, 25, 26, 27, 28, 29, 30, 31, 32, 33, 34, 35, 36, 37, 38, 39, 40, 41, 42, 43, 44, 45, 46, 47, 48, 49, 50, 51, 52, 53, 54, 55, 56, 57] rfl (by decide +kernel)
set_option maxRecDepth 20000 in
theorem gX7_rightClosed_X7_await : GoodIn wsX7_rightClosed (wsV RX7 204 RX7 yX7_await wsX7_await) := goodIn_app (goodIn_r _ [13, 14, 15, 10] rfl (by decide +kernel)) ggX7_rightClosed_X7_await
theorem dX7_rightClosed_0 : decode cX7_rightClosed 0 = .ok (.aload_n 0, 1) := by decide +kernel
theorem dX7_rightClosed_1 : decode cX7_rightClosed 1 = .ok (.getfield 188, 3) := by decide +kernel
theorem dX7_rightClosed_4 : decode cX7_rightClosed 4 = .ok (.iconst 1, 1) := by decide +kernel
theorem dX7_rightClosed_5 : decode cX7_rightClosed 5 = .ok (.if_icmp .ne 12, 3) := by decide +kernel
theorem dX7_rightClosed_8 : decode cX7_rightClosed 8 = .ok (.aload_n 0, 1) := by decide +kernel
theorem dX7_rightClosed_9 : decode cX7_rightClosed 9 = .ok (.iload_n 1, 1) := by decide +kernel
theorem dX7_rightClosed_10 : decode cX7_rightClosed 10 = .ok (.iconst 0, 1) := by decide +kernel
theorem dX7_rightClosed_11 : decode cX7_rightClosed 11 = .ok (.invokevirtual 191, 3) := by decide +kernel
theorem dX7_rightClosed_14 : decode cX7_rightClosed 14 = .ok (.ifCond .ne 5, 3) := by decide +kernel
theorem dX7_rightClosed_17 : decode cX7_rightClosed 17 = .ok (.iconst 0, 1) := by decide +kernel
theorem dX7_rightClosed_18 : decode cX7_rightClosed 18 = .ok (.ireturn, 1) := by decide +kernel
theorem dX7_rightClosed_19 : decode cX7_rightClosed 19 = .ok (.iconst 0, 1) := by decide +kernel
theorem dX7_rightClosed_20 : decode cX7_rightClosed 20 = .ok (.istore_n 2, 1) := by decide +kernel
theorem dX7_rightClosed_21 : decode cX7_rightClosed 21 = .ok (.iconst 0, 1) := by decide +kernel
theorem dX7_rightClosed_22 : decode cX7_rightClosed 22 = .ok (.istore_n 3, 1) := by decide +kernel
theorem dX7_rightClosed_23 : decode cX7_rightClosed 23 = .ok (.iload_n 3, 1) := by decide +kernel
theorem dX7_rightClosed_24 : decode cX7_rightClosed 24 = .ok (.bipush 10, 2) := by decide +kernel
theorem dX7_rightClosed_26 : decode cX7_rightClosed 26 = .ok (.if_icmp .ge 45, 3) := by decide +kernel
theorem dX7_rightClosed_29 : decode cX7_rightClosed 29 = .ok (.aload_n 0, 1) := by decide +kernel
theorem dX7_rightClosed_30 : decode cX7_rightClosed 30 = .ok (.getfield 62, 3) := by decide +kernel
theorem dX7_rightClosed_33 : decode cX7_rightClosed 33 = .ok (.iload_n 3, 1) := by decide +kernel
theorem dX7_rightClosed_34 : decode cX7_rightClosed 34 = .ok (.baload, 1) := by decide +kernel
theorem dX7_rightClosed_35 : decode cX7_rightClosed 35 = .ok (.ifCond .eq 30, 3) := by decide +kernel
theorem dX7_rightClosed_38 : decode cX7_rightClosed 38 = .ok (.aload_n 0, 1) := by decide +kernel
theorem dX7_rightClosed_39 : decode cX7_rightClosed 39 = .ok (.getfield 77, 3) := by decide +kernel
theorem dX7_rightClosed_42 : decode cX7_rightClosed 42 = .ok (.iload_n 2, 1) := by decide +kernel
theorem dX7_rightClosed_43 : decode cX7_rightClosed 43 = .ok (.aload_n 0, 1) := by decide +kernel
theorem dX7_rightClosed_44 : decode cX7_rightClosed 44 = .ok (.getfield 65, 3) := by decide +kernel
theorem dX7_rightClosed_47 : decode cX7_rightClosed 47 = .ok (.iload_n 3, 1) := by decide +kernel
theorem dX7_rightClosed_48 : decode cX7_rightClosed 48 = .ok (.iaload, 1) := by decide +kernel
theorem dX7_rightClosed_49 : decode cX7_rightClosed 49 = .ok (.iastore, 1) := by decide +kernel
theorem dX7_rightClosed_50 : decode cX7_rightClosed 50 = .ok (.aload_n 0, 1) := by decide +kernel
theorem dX7_rightClosed_51 : decode cX7_rightClosed 51 = .ok (.getfield 80, 3) := by decide +kernel
theorem dX7_rightClosed_54 : decode cX7_rightClosed 54 = .ok (.iload_n 2, 1) := by decide +kernel
theorem dX7_rightClosed_55 : decode cX7_rightClosed 55 = .ok (.aload_n 0, 1) := by decide +kernel
theorem dX7_rightClosed_56 : decode cX7_rightClosed 56 = .ok (.getfield 68, 3) := by decide +kernel
theorem dX7_rightClosed_59 : decode cX7_rightClosed 59 = .ok (.iload_n 3, 1) := by decide +kernel
theorem dX7_rightClosed_60 : decode cX7_rightClosed 60 = .ok (.iaload, 1) := by decide +kernel
theorem dX7_rightClosed_61 : decode cX7_rightClosed 61 = .ok (.iastore, 1) := by decide +kernel
theorem dX7_rightClosed_62 : decode cX7_rightClosed 62 = .ok (.iinc 2 1, 3) := by decide +kernel
theorem dX7_rightClosed_65 : decode cX7_rightClosed 65 = .ok (.iinc 3 1, 3) := by decide +kernel
theorem dX7_rightClosed_68 : decode cX7_rightClosed 68 = .ok (.goto (-45), 3) := by decide +kernel
theorem dX7_rightClosed_71 : decode cX7_rightClosed 71 = .ok (.aload_n 0, 1) := by decide +kernel
theorem dX7_rightClosed_72 : decode cX7_rightClosed 72 = .ok (.iload_n 2, 1) := by decide +kernel
theorem dX7_rightClosed_73 : decode cX7_rightClosed 73 = .ok (.invokevirtual 204, 3) := by decide +kernel
theorem dX7_rightClosed_76 : decode cX7_rightClosed 76 = .ok (.iconst 1, 1) := by decide +kernel
theorem dX7_rightClosed_77 : decode cX7_rightClosed 77 = .ok (.ireturn, 1) := by decide +kernel
set_option maxRecDepth 20000 in
theorem ggX7_rightMixed_X7_orders : GoodIn wsX7_rightMixed wsX7_orders := goodIn_r _ [13] rfl (by decide +kernel)
set_option maxRecDepth 20000 in
theorem gX7_rightMixed_X7_orders : GoodIn wsX7_rightMixed (va_wsS RX7 158 yX7_orders wsX7_orders) := goodIn_app (goodIn_r _ [10, 11, 12] rfl (by decide +kernel)) ggX7_rightMixed_X7_orders
set_option maxRecDepth 20000 in
theorem ggX7_rightMixed_X7_bare : GoodIn wsX7_rightMixed wsX7_bare := goodIn_r _ [17, 1, 58, 59, 60, 61, 62, 63, 64, 65, 66, 67, 68, 69, 70, 71, 72, 73, 74, 75, 76, 77, 78, 79, 80, 81, 82, 83, 84, 85, 86, 87, 88, 89, 90, 91, 92, 93, 94, 95, 96] rfl (by decide +kernel)
set_option maxRecDepth 20000 in
theorem gX7_rightMixed_X7_bare : GoodIn wsX7_rightMixed (wsV RX7 191 RX7 yX7_bare wsX7_bare) := goodIn_app (goodIn_r _ [14, 15, 16, 12] rfl (by decide +kernel)) ggX7_rightMixed_X7_bare
set_option maxRecDepth 20000 in
theorem ggX7_rightMixed_X7_times : GoodIn wsX7_rightMixed wsX7_times := goodIn_r _ [20, 21] rfl (by decide +kernel)
set_option maxRecDepth 20000 in
theorem gX7_rightMixed_X7_times : GoodIn wsX7_rightMixed (va_wsS RX7 152 yX7_times wsX7_times) := goodIn_app (goodIn_r _ [18, 19, 12] rfl (by decide +kernel)) ggX7_rightMixed_X7_times
set_option maxRecDepth 20000 in
theorem ggX7_rightMixed_X7_free : GoodIn wsX7_rightMixed wsX7_free := goodIn_r _ [25, 26, 58, 59, 60, 61, 62, 63, 64, 65, 66, 67, 68, 69, 70, 71, 72, 73, 74, 75, 76, 77, 78, 79, 80, 81, 82, 83, 84, 85, 86, 87, 88, 89, 90, 91, 92, 93, 94, 95, 96] rfl (by decide +kernel)
set_option maxRecDepth 20000 in
theorem gX7_rightMixed_X7_free : GoodIn wsX7_rightMixed (wsV RX7 162 RX7 yX7_free wsX7_free) := goodIn_app (goodIn_r _ [22, 23, 24, 12] rfl (by decide +kernel)) ggX7_rightMixed_X7_free
set_option maxRecDepth 20000 in
theorem ggX7_rightMixed_X7_take : GoodIn wsX7_rightMixed wsX7_take := goodIn_r _ [30, 26, 58, 59, 60, 61, 62, 63, 64, 65, 66, 67, 68, 69, 70, 71, 72, 73, 74, 75, 76, 77, 78, 79, 80, 81, 82, 83, 84, 85, 86, 87, 88, 89, 90, 91, 92, 93, 94, 95, 96] rfl (by decide +kernel)
set_option maxRecDepth 20000 in
theorem gX7_rightMixed_X7_take : GoodIn wsX7_rightMixed (wsV RX7 165 RX7 yX7_take wsX7_take) := goodIn_app (goodIn_r _ [27, 28, 29, 12] rfl (by decide +kernel)) ggX7_rightMixed_X7_take
set_option maxRecDepth 20000 in
theorem ggX7_rightMixed_X7_digestOfTwo : GoodIn wsX7_rightMixed wsX7_digestOfTwo := goodIn_r _ [34, 35, 36, 37, 38, 12, 39, 40, 41, 42, 43, 44, 45, 46, 47, 48, 49, 58, 59, 60, 61, 62, 63, 64, 65, 66, 67, 68, 69, 70, 71, 72, 73, 74, 75, 76, 77, 78, 79, 80, 81, 82, 83, 84, 85, 86, 87, 88, 89, 90, 91, 92, 93, 94, 95, 96] rfl (by decide +kernel)
set_option maxRecDepth 20000 in
theorem gX7_rightMixed_X7_digestOfTwo : GoodIn wsX7_rightMixed (wsV RX7 168 RX7 yX7_digestOfTwo wsX7_digestOfTwo) := goodIn_app (goodIn_r _ [31, 32, 33, 12] rfl (by decide +kernel)) ggX7_rightMixed_X7_digestOfTwo
set_option maxRecDepth 20000 in
theorem ggX7_rightMixed_X7_power : GoodIn wsX7_rightMixed wsX7_power := goodIn_r _ [52, 21] rfl (by decide +kernel)
set_option maxRecDepth 20000 in
theorem gX7_rightMixed_X7_power : GoodIn wsX7_rightMixed (va_wsS RX7 105 yX7_power wsX7_power) := goodIn_app (goodIn_r _ [50, 51, 12] rfl (by decide +kernel)) ggX7_rightMixed_X7_power
set_option maxRecDepth 20000 in
theorem ggX7_rightMixed_X7_await : GoodIn wsX7_rightMixed wsX7_await := goodIn_r _ [56, 4, 57, 3, 58, 59, 60, 61, 62, 63, 64, 65, 66, 67, 68, 69, 70, 71, 72, 73, 74, 75, 76, 77, 78, 79, 80, 81, 82, 83, 84, 85, 86, 87, 88, 89, 90, 91, 92, 93, 94, 95, 96] rfl (by decide +kernel)
set_option maxRecDepth 20000 in
theorem gX7_rightMixed_X7_await : GoodIn wsX7_rightMixed (wsV RX7 204 RX7 yX7_await wsX7_await) := goodIn_app (goodIn_r _ [53, 54, 55, 12] rfl (by decide +kernel)) ggX7_rightMixed_X7_await
theorem dX7_rightMixed_0 : decode cX7_rightMixed 0 = .ok (.aload_n 0, 1) := by decide +kernel
theorem dX7_rightMixed_1 : decode cX7_rightMixed 1 = .ok (.getfield 13, 3) := by decide +kernel
theorem dX7_rightMixed_4 : decode cX7_rightMixed 4 = .ok (.bipush 6, 2) := by decide +kernel
theorem dX7_rightMixed_6 : decode cX7_rightMixed 6 = .ok (.iload_n 1, 1) := by decide +kernel
theorem dX7_rightMixed_7 : decode cX7_rightMixed 7 = .ok (.imul, 1) := by decide +kernel
theorem dX7_rightMixed_8 : decode cX7_rightMixed 8 = .ok (.iconst 1, 1) := by decide +kernel
theorem dX7_rightMixed_9 : decode cX7_rightMixed 9 = .ok (.iadd, 1) := by decide +kernel
theorem dX7_rightMixed_10 : decode cX7_rightMixed 10 = .ok (.iaload, 1) := by decide +kernel
theorem dX7_rightMixed_11 : decode cX7_rightMixed 11 = .ok (.istore_n 2, 1) := by decide +kernel
theorem dX7_rightMixed_12 : decode cX7_rightMixed 12 = .ok (.aload_n 0, 1) := by decide +kernel
theorem dX7_rightMixed_13 : decode cX7_rightMixed 13 = .ok (.getfield 74, 3) := by decide +kernel
theorem dX7_rightMixed_16 : decode cX7_rightMixed 16 = .ok (.iconst 0, 1) := by decide +kernel
theorem dX7_rightMixed_17 : decode cX7_rightMixed 17 = .ok (.baload, 1) := by decide +kernel
theorem dX7_rightMixed_18 : decode cX7_rightMixed 18 = .ok (.ifCond .ne 25, 3) := by decide +kernel
theorem dX7_rightMixed_21 : decode cX7_rightMixed 21 = .ok (.aload_n 0, 1) := by decide +kernel
theorem dX7_rightMixed_22 : decode cX7_rightMixed 22 = .ok (.getfield 74, 3) := by decide +kernel
theorem dX7_rightMixed_25 : decode cX7_rightMixed 25 = .ok (.iconst 1, 1) := by decide +kernel
theorem dX7_rightMixed_26 : decode cX7_rightMixed 26 = .ok (.baload, 1) := by decide +kernel
theorem dX7_rightMixed_27 : decode cX7_rightMixed 27 = .ok (.ifCond .ne 16, 3) := by decide +kernel
theorem dX7_rightMixed_30 : decode cX7_rightMixed 30 = .ok (.aload_n 0, 1) := by decide +kernel
theorem dX7_rightMixed_31 : decode cX7_rightMixed 31 = .ok (.getfield 74, 3) := by decide +kernel
theorem dX7_rightMixed_34 : decode cX7_rightMixed 34 = .ok (.iconst 2, 1) := by decide +kernel
theorem dX7_rightMixed_35 : decode cX7_rightMixed 35 = .ok (.baload, 1) := by decide +kernel
theorem dX7_rightMixed_36 : decode cX7_rightMixed 36 = .ok (.ifCond .ne 7, 3) := by decide +kernel
theorem dX7_rightMixed_39 : decode cX7_rightMixed 39 = .ok (.iconst 1, 1) := by decide +kernel
theorem dX7_rightMixed_40 : decode cX7_rightMixed 40 = .ok (.goto 4, 3) := by decide +kernel
theorem dX7_rightMixed_43 : decode cX7_rightMixed 43 = .ok (.iconst 0, 1) := by decide +kernel
theorem dX7_rightMixed_44 : decode cX7_rightMixed 44 = .ok (.istore_n 3, 1) := by decide +kernel
theorem dX7_rightMixed_45 : decode cX7_rightMixed 45 = .ok (.aload_n 0, 1) := by decide +kernel
theorem dX7_rightMixed_46 : decode cX7_rightMixed 46 = .ok (.getfield 188, 3) := by decide +kernel
theorem dX7_rightMixed_49 : decode cX7_rightMixed 49 = .ok (.iconst 3, 1) := by decide +kernel
theorem dX7_rightMixed_50 : decode cX7_rightMixed 50 = .ok (.if_icmp .ne 31, 3) := by decide +kernel
theorem dX7_rightMixed_53 : decode cX7_rightMixed 53 = .ok (.iload_n 3, 1) := by decide +kernel
theorem dX7_rightMixed_54 : decode cX7_rightMixed 54 = .ok (.ifCond .eq 27, 3) := by decide +kernel
theorem dX7_rightMixed_57 : decode cX7_rightMixed 57 = .ok (.iload_n 2, 1) := by decide +kernel
theorem dX7_rightMixed_58 : decode cX7_rightMixed 58 = .ok (.ifCond .lt 23, 3) := by decide +kernel
theorem dX7_rightMixed_61 : decode cX7_rightMixed 61 = .ok (.iload_n 2, 1) := by decide +kernel
theorem dX7_rightMixed_62 : decode cX7_rightMixed 62 = .ok (.aload_n 0, 1) := by decide +kernel
theorem dX7_rightMixed_63 : decode cX7_rightMixed 63 = .ok (.getfield 198, 3) := by decide +kernel
theorem dX7_rightMixed_66 : decode cX7_rightMixed 66 = .ok (.invokestatic 158, 3) := by decide +kernel
theorem dX7_rightMixed_69 : decode cX7_rightMixed 69 = .ok (.if_icmp .ge 12, 3) := by decide +kernel
theorem dX7_rightMixed_72 : decode cX7_rightMixed 72 = .ok (.aload_n 0, 1) := by decide +kernel
theorem dX7_rightMixed_73 : decode cX7_rightMixed 73 = .ok (.iload_n 1, 1) := by decide +kernel
theorem dX7_rightMixed_74 : decode cX7_rightMixed 74 = .ok (.iconst 2, 1) := by decide +kernel
theorem dX7_rightMixed_75 : decode cX7_rightMixed 75 = .ok (.invokevirtual 191, 3) := by decide +kernel
theorem dX7_rightMixed_78 : decode cX7_rightMixed 78 = .ok (.ifCond .ne 5, 3) := by decide +kernel
theorem dX7_rightMixed_81 : decode cX7_rightMixed 81 = .ok (.iconst 0, 1) := by decide +kernel
theorem dX7_rightMixed_82 : decode cX7_rightMixed 82 = .ok (.ireturn, 1) := by decide +kernel
theorem dX7_rightMixed_83 : decode cX7_rightMixed 83 = .ok (.aload_n 0, 1) := by decide +kernel
theorem dX7_rightMixed_84 : decode cX7_rightMixed 84 = .ok (.getfield 71, 3) := by decide +kernel
theorem dX7_rightMixed_87 : decode cX7_rightMixed 87 = .ok (.iconst 0, 1) := by decide +kernel
theorem dX7_rightMixed_88 : decode cX7_rightMixed 88 = .ok (.iaload, 1) := by decide +kernel
theorem dX7_rightMixed_89 : decode cX7_rightMixed 89 = .ok (.aload_n 0, 1) := by decide +kernel
theorem dX7_rightMixed_90 : decode cX7_rightMixed 90 = .ok (.getfield 71, 3) := by decide +kernel
theorem dX7_rightMixed_93 : decode cX7_rightMixed 93 = .ok (.iconst 1, 1) := by decide +kernel
theorem dX7_rightMixed_94 : decode cX7_rightMixed 94 = .ok (.iaload, 1) := by decide +kernel
theorem dX7_rightMixed_95 : decode cX7_rightMixed 95 = .ok (.invokestatic 152, 3) := by decide +kernel
theorem dX7_rightMixed_98 : decode cX7_rightMixed 98 = .ok (.aload_n 0, 1) := by decide +kernel
theorem dX7_rightMixed_99 : decode cX7_rightMixed 99 = .ok (.getfield 71, 3) := by decide +kernel
theorem dX7_rightMixed_102 : decode cX7_rightMixed 102 = .ok (.iconst 2, 1) := by decide +kernel
theorem dX7_rightMixed_103 : decode cX7_rightMixed 103 = .ok (.iaload, 1) := by decide +kernel
theorem dX7_rightMixed_104 : decode cX7_rightMixed 104 = .ok (.invokestatic 152, 3) := by decide +kernel
theorem dX7_rightMixed_107 : decode cX7_rightMixed 107 = .ok (.istore 4, 2) := by decide +kernel
theorem dX7_rightMixed_109 : decode cX7_rightMixed 109 = .ok (.aload_n 0, 1) := by decide +kernel
theorem dX7_rightMixed_110 : decode cX7_rightMixed 110 = .ok (.invokevirtual 162, 3) := by decide +kernel
theorem dX7_rightMixed_113 : decode cX7_rightMixed 113 = .ok (.iload_n 2, 1) := by decide +kernel
theorem dX7_rightMixed_114 : decode cX7_rightMixed 114 = .ok (.istore 5, 2) := by decide +kernel
theorem dX7_rightMixed_116 : decode cX7_rightMixed 116 = .ok (.iconst 0, 1) := by decide +kernel
theorem dX7_rightMixed_117 : decode cX7_rightMixed 117 = .ok (.istore 6, 2) := by decide +kernel
theorem dX7_rightMixed_119 : decode cX7_rightMixed 119 = .ok (.iload 6, 2) := by decide +kernel
theorem dX7_rightMixed_121 : decode cX7_rightMixed 121 = .ok (.aload_n 0, 1) := by decide +kernel
theorem dX7_rightMixed_122 : decode cX7_rightMixed 122 = .ok (.getfield 198, 3) := by decide +kernel
theorem dX7_rightMixed_125 : decode cX7_rightMixed 125 = .ok (.if_icmp .ge 105, 3) := by decide +kernel
theorem dX7_rightMixed_128 : decode cX7_rightMixed 128 = .ok (.aload_n 0, 1) := by decide +kernel
theorem dX7_rightMixed_129 : decode cX7_rightMixed 129 = .ok (.aload_n 0, 1) := by decide +kernel
theorem dX7_rightMixed_130 : decode cX7_rightMixed 130 = .ok (.getfield 198, 3) := by decide +kernel
theorem dX7_rightMixed_133 : decode cX7_rightMixed 133 = .ok (.iload 5, 2) := by decide +kernel
theorem dX7_rightMixed_135 : decode cX7_rightMixed 135 = .ok (.aload_n 0, 1) := by decide +kernel
theorem dX7_rightMixed_136 : decode cX7_rightMixed 136 = .ok (.getfield 198, 3) := by decide +kernel
theorem dX7_rightMixed_139 : decode cX7_rightMixed 139 = .ok (.iload 6, 2) := by decide +kernel
theorem dX7_rightMixed_141 : decode cX7_rightMixed 141 = .ok (.isub, 1) := by decide +kernel
theorem dX7_rightMixed_142 : decode cX7_rightMixed 142 = .ok (.irem, 1) := by decide +kernel
theorem dX7_rightMixed_143 : decode cX7_rightMixed 143 = .ok (.invokevirtual 165, 3) := by decide +kernel
theorem dX7_rightMixed_146 : decode cX7_rightMixed 146 = .ok (.istore 7, 2) := by decide +kernel
theorem dX7_rightMixed_148 : decode cX7_rightMixed 148 = .ok (.iload 5, 2) := by decide +kernel
theorem dX7_rightMixed_150 : decode cX7_rightMixed 150 = .ok (.aload_n 0, 1) := by decide +kernel
theorem dX7_rightMixed_151 : decode cX7_rightMixed 151 = .ok (.getfield 198, 3) := by decide +kernel
theorem dX7_rightMixed_154 : decode cX7_rightMixed 154 = .ok (.iload 6, 2) := by decide +kernel
theorem dX7_rightMixed_156 : decode cX7_rightMixed 156 = .ok (.isub, 1) := by decide +kernel
theorem dX7_rightMixed_157 : decode cX7_rightMixed 157 = .ok (.idiv, 1) := by decide +kernel
theorem dX7_rightMixed_158 : decode cX7_rightMixed 158 = .ok (.istore 5, 2) := by decide +kernel
theorem dX7_rightMixed_160 : decode cX7_rightMixed 160 = .ok (.aload_n 0, 1) := by decide +kernel
theorem dX7_rightMixed_161 : decode cX7_rightMixed 161 = .ok (.aload_n 0, 1) := by decide +kernel
theorem dX7_rightMixed_162 : decode cX7_rightMixed 162 = .ok (.getfield 13, 3) := by decide +kernel
theorem dX7_rightMixed_165 : decode cX7_rightMixed 165 = .ok (.bipush 6, 2) := by decide +kernel
theorem dX7_rightMixed_167 : decode cX7_rightMixed 167 = .ok (.iload_n 1, 1) := by decide +kernel
theorem dX7_rightMixed_168 : decode cX7_rightMixed 168 = .ok (.imul, 1) := by decide +kernel
theorem dX7_rightMixed_169 : decode cX7_rightMixed 169 = .ok (.iaload, 1) := by decide +kernel
theorem dX7_rightMixed_170 : decode cX7_rightMixed 170 = .ok (.iload 6, 2) := by decide +kernel
theorem dX7_rightMixed_172 : decode cX7_rightMixed 172 = .ok (.invokevirtual 168, 3) := by decide +kernel
theorem dX7_rightMixed_175 : decode cX7_rightMixed 175 = .ok (.istore 8, 2) := by decide +kernel
theorem dX7_rightMixed_177 : decode cX7_rightMixed 177 = .ok (.aload_n 0, 1) := by decide +kernel
theorem dX7_rightMixed_178 : decode cX7_rightMixed 178 = .ok (.getfield 50, 3) := by decide +kernel
theorem dX7_rightMixed_181 : decode cX7_rightMixed 181 = .ok (.iload 6, 2) := by decide +kernel
theorem dX7_rightMixed_183 : decode cX7_rightMixed 183 = .ok (.aload_n 0, 1) := by decide +kernel
theorem dX7_rightMixed_184 : decode cX7_rightMixed 184 = .ok (.getfield 77, 3) := by decide +kernel
theorem dX7_rightMixed_187 : decode cX7_rightMixed 187 = .ok (.iload 7, 2) := by decide +kernel
theorem dX7_rightMixed_189 : decode cX7_rightMixed 189 = .ok (.iaload, 1) := by decide +kernel
theorem dX7_rightMixed_190 : decode cX7_rightMixed 190 = .ok (.iconst 4, 1) := by decide +kernel
theorem dX7_rightMixed_191 : decode cX7_rightMixed 191 = .ok (.iload 8, 2) := by decide +kernel
theorem dX7_rightMixed_193 : decode cX7_rightMixed 193 = .ok (.invokestatic 105, 3) := by decide +kernel
theorem dX7_rightMixed_196 : decode cX7_rightMixed 196 = .ok (.invokestatic 152, 3) := by decide +kernel
theorem dX7_rightMixed_199 : decode cX7_rightMixed 199 = .ok (.iastore, 1) := by decide +kernel
theorem dX7_rightMixed_200 : decode cX7_rightMixed 200 = .ok (.aload_n 0, 1) := by decide +kernel
theorem dX7_rightMixed_201 : decode cX7_rightMixed 201 = .ok (.getfield 53, 3) := by decide +kernel
theorem dX7_rightMixed_204 : decode cX7_rightMixed 204 = .ok (.iload 6, 2) := by decide +kernel
theorem dX7_rightMixed_206 : decode cX7_rightMixed 206 = .ok (.aload_n 0, 1) := by decide +kernel
theorem dX7_rightMixed_207 : decode cX7_rightMixed 207 = .ok (.getfield 80, 3) := by decide +kernel
theorem dX7_rightMixed_210 : decode cX7_rightMixed 210 = .ok (.iload 7, 2) := by decide +kernel
theorem dX7_rightMixed_212 : decode cX7_rightMixed 212 = .ok (.iaload, 1) := by decide +kernel
theorem dX7_rightMixed_213 : decode cX7_rightMixed 213 = .ok (.iload 4, 2) := by decide +kernel
theorem dX7_rightMixed_215 : decode cX7_rightMixed 215 = .ok (.iload 8, 2) := by decide +kernel
theorem dX7_rightMixed_217 : decode cX7_rightMixed 217 = .ok (.invokestatic 105, 3) := by decide +kernel
theorem dX7_rightMixed_220 : decode cX7_rightMixed 220 = .ok (.invokestatic 152, 3) := by decide +kernel
theorem dX7_rightMixed_223 : decode cX7_rightMixed 223 = .ok (.iastore, 1) := by decide +kernel
theorem dX7_rightMixed_224 : decode cX7_rightMixed 224 = .ok (.iinc 6 1, 3) := by decide +kernel
theorem dX7_rightMixed_227 : decode cX7_rightMixed 227 = .ok (.goto (-108), 3) := by decide +kernel
theorem dX7_rightMixed_230 : decode cX7_rightMixed 230 = .ok (.iconst 0, 1) := by decide +kernel
theorem dX7_rightMixed_231 : decode cX7_rightMixed 231 = .ok (.istore 6, 2) := by decide +kernel
theorem dX7_rightMixed_233 : decode cX7_rightMixed 233 = .ok (.iload 6, 2) := by decide +kernel
theorem dX7_rightMixed_235 : decode cX7_rightMixed 235 = .ok (.aload_n 0, 1) := by decide +kernel
theorem dX7_rightMixed_236 : decode cX7_rightMixed 236 = .ok (.getfield 198, 3) := by decide +kernel
theorem dX7_rightMixed_239 : decode cX7_rightMixed 239 = .ok (.if_icmp .ge 37, 3) := by decide +kernel
theorem dX7_rightMixed_242 : decode cX7_rightMixed 242 = .ok (.aload_n 0, 1) := by decide +kernel
theorem dX7_rightMixed_243 : decode cX7_rightMixed 243 = .ok (.getfield 77, 3) := by decide +kernel
theorem dX7_rightMixed_246 : decode cX7_rightMixed 246 = .ok (.iload 6, 2) := by decide +kernel
theorem dX7_rightMixed_248 : decode cX7_rightMixed 248 = .ok (.aload_n 0, 1) := by decide +kernel
theorem dX7_rightMixed_249 : decode cX7_rightMixed 249 = .ok (.getfield 50, 3) := by decide +kernel
theorem dX7_rightMixed_252 : decode cX7_rightMixed 252 = .ok (.iload 6, 2) := by decide +kernel
theorem dX7_rightMixed_254 : decode cX7_rightMixed 254 = .ok (.iaload, 1) := by decide +kernel
theorem dX7_rightMixed_255 : decode cX7_rightMixed 255 = .ok (.iastore, 1) := by decide +kernel
theorem dX7_rightMixed_256 : decode cX7_rightMixed 256 = .ok (.aload_n 0, 1) := by decide +kernel
theorem dX7_rightMixed_257 : decode cX7_rightMixed 257 = .ok (.getfield 80, 3) := by decide +kernel
theorem dX7_rightMixed_260 : decode cX7_rightMixed 260 = .ok (.iload 6, 2) := by decide +kernel
theorem dX7_rightMixed_262 : decode cX7_rightMixed 262 = .ok (.aload_n 0, 1) := by decide +kernel
theorem dX7_rightMixed_263 : decode cX7_rightMixed 263 = .ok (.getfield 53, 3) := by decide +kernel
theorem dX7_rightMixed_266 : decode cX7_rightMixed 266 = .ok (.iload 6, 2) := by decide +kernel
theorem dX7_rightMixed_268 : decode cX7_rightMixed 268 = .ok (.iaload, 1) := by decide +kernel
theorem dX7_rightMixed_269 : decode cX7_rightMixed 269 = .ok (.iastore, 1) := by decide +kernel
theorem dX7_rightMixed_270 : decode cX7_rightMixed 270 = .ok (.iinc 6 1, 3) := by decide +kernel
theorem dX7_rightMixed_273 : decode cX7_rightMixed 273 = .ok (.goto (-40), 3) := by decide +kernel
theorem dX7_rightMixed_276 : decode cX7_rightMixed 276 = .ok (.aload_n 0, 1) := by decide +kernel
theorem dX7_rightMixed_277 : decode cX7_rightMixed 277 = .ok (.aload_n 0, 1) := by decide +kernel
theorem dX7_rightMixed_278 : decode cX7_rightMixed 278 = .ok (.getfield 198, 3) := by decide +kernel
theorem dX7_rightMixed_281 : decode cX7_rightMixed 281 = .ok (.invokevirtual 204, 3) := by decide +kernel
theorem dX7_rightMixed_284 : decode cX7_rightMixed 284 = .ok (.iconst 1, 1) := by decide +kernel
theorem dX7_rightMixed_285 : decode cX7_rightMixed 285 = .ok (.ireturn, 1) := by decide +kernel
set_option maxRecDepth 20000 in
theorem ggX7_rightEntry_X7_bare : GoodIn wsX7_rightEntry wsX7_bare := goodIn_r _ [11, 2, 12, 13, 14, 15, 16, 17, 18, 19, 20, 21, 22, 23, 24, 25, 26, 27, 28, 29, 30, 31, 32, 33, 34, 35, 36, 37, 38, 39, 40, 41, 42, 43, 44, 45, 46, 47, 48, 49, 50] rfl (by decide +kernel)
set_option maxRecDepth 20000 in
theorem gX7_rightEntry_X7_bare : GoodIn wsX7_rightEntry (wsV RX7 191 RX7 yX7_bare wsX7_bare) := goodIn_app (goodIn_r _ [7, 8, 9, 10] rfl (by decide +kernel)) ggX7_rightEntry_X7_bare
theorem dX7_rightEntry_0 : decode cX7_rightEntry 0 = .ok (.aload_n 0, 1) := by decide +kernel
theorem dX7_rightEntry_1 : decode cX7_rightEntry 1 = .ok (.getfield 188, 3) := by decide +kernel
theorem dX7_rightEntry_4 : decode cX7_rightEntry 4 = .ok (.iconst 2, 1) := by decide +kernel
theorem dX7_rightEntry_5 : decode cX7_rightEntry 5 = .ok (.if_icmp .ne 56, 3) := by decide +kernel
theorem dX7_rightEntry_8 : decode cX7_rightEntry 8 = .ok (.aload_n 0, 1) := by decide +kernel
theorem dX7_rightEntry_9 : decode cX7_rightEntry 9 = .ok (.getfield 13, 3) := by decide +kernel
theorem dX7_rightEntry_12 : decode cX7_rightEntry 12 = .ok (.bipush 6, 2) := by decide +kernel
theorem dX7_rightEntry_14 : decode cX7_rightEntry 14 = .ok (.iload_n 1, 1) := by decide +kernel
theorem dX7_rightEntry_15 : decode cX7_rightEntry 15 = .ok (.imul, 1) := by decide +kernel
theorem dX7_rightEntry_16 : decode cX7_rightEntry 16 = .ok (.iaload, 1) := by decide +kernel
theorem dX7_rightEntry_17 : decode cX7_rightEntry 17 = .ok (.aload_n 0, 1) := by decide +kernel
theorem dX7_rightEntry_18 : decode cX7_rightEntry 18 = .ok (.getfield 77, 3) := by decide +kernel
theorem dX7_rightEntry_21 : decode cX7_rightEntry 21 = .ok (.aload_n 0, 1) := by decide +kernel
theorem dX7_rightEntry_22 : decode cX7_rightEntry 22 = .ok (.getfield 201, 3) := by decide +kernel
theorem dX7_rightEntry_25 : decode cX7_rightEntry 25 = .ok (.iaload, 1) := by decide +kernel
theorem dX7_rightEntry_26 : decode cX7_rightEntry 26 = .ok (.if_icmp .ne 35, 3) := by decide +kernel
theorem dX7_rightEntry_29 : decode cX7_rightEntry 29 = .ok (.aload_n 0, 1) := by decide +kernel
theorem dX7_rightEntry_30 : decode cX7_rightEntry 30 = .ok (.getfield 13, 3) := by decide +kernel
theorem dX7_rightEntry_33 : decode cX7_rightEntry 33 = .ok (.bipush 6, 2) := by decide +kernel
theorem dX7_rightEntry_35 : decode cX7_rightEntry 35 = .ok (.iload_n 1, 1) := by decide +kernel
theorem dX7_rightEntry_36 : decode cX7_rightEntry 36 = .ok (.imul, 1) := by decide +kernel
theorem dX7_rightEntry_37 : decode cX7_rightEntry 37 = .ok (.iconst 1, 1) := by decide +kernel
theorem dX7_rightEntry_38 : decode cX7_rightEntry 38 = .ok (.iadd, 1) := by decide +kernel
theorem dX7_rightEntry_39 : decode cX7_rightEntry 39 = .ok (.iaload, 1) := by decide +kernel
theorem dX7_rightEntry_40 : decode cX7_rightEntry 40 = .ok (.aload_n 0, 1) := by decide +kernel
theorem dX7_rightEntry_41 : decode cX7_rightEntry 41 = .ok (.getfield 80, 3) := by decide +kernel
theorem dX7_rightEntry_44 : decode cX7_rightEntry 44 = .ok (.aload_n 0, 1) := by decide +kernel
theorem dX7_rightEntry_45 : decode cX7_rightEntry 45 = .ok (.getfield 201, 3) := by decide +kernel
theorem dX7_rightEntry_48 : decode cX7_rightEntry 48 = .ok (.iaload, 1) := by decide +kernel
theorem dX7_rightEntry_49 : decode cX7_rightEntry 49 = .ok (.if_icmp .ne 12, 3) := by decide +kernel
theorem dX7_rightEntry_52 : decode cX7_rightEntry 52 = .ok (.aload_n 0, 1) := by decide +kernel
theorem dX7_rightEntry_53 : decode cX7_rightEntry 53 = .ok (.iload_n 1, 1) := by decide +kernel
theorem dX7_rightEntry_54 : decode cX7_rightEntry 54 = .ok (.iconst 2, 1) := by decide +kernel
theorem dX7_rightEntry_55 : decode cX7_rightEntry 55 = .ok (.invokevirtual 191, 3) := by decide +kernel
theorem dX7_rightEntry_58 : decode cX7_rightEntry 58 = .ok (.ifCond .ne 5, 3) := by decide +kernel
theorem dX7_rightEntry_61 : decode cX7_rightEntry 61 = .ok (.iconst 0, 1) := by decide +kernel
theorem dX7_rightEntry_62 : decode cX7_rightEntry 62 = .ok (.ireturn, 1) := by decide +kernel
theorem dX7_rightEntry_63 : decode cX7_rightEntry 63 = .ok (.aload_n 0, 1) := by decide +kernel
theorem dX7_rightEntry_64 : decode cX7_rightEntry 64 = .ok (.dup, 1) := by decide +kernel
theorem dX7_rightEntry_65 : decode cX7_rightEntry 65 = .ok (.getfield 201, 3) := by decide +kernel
theorem dX7_rightEntry_68 : decode cX7_rightEntry 68 = .ok (.iconst 1, 1) := by decide +kernel
theorem dX7_rightEntry_69 : decode cX7_rightEntry 69 = .ok (.iadd, 1) := by decide +kernel
theorem dX7_rightEntry_70 : decode cX7_rightEntry 70 = .ok (.putfield 201, 3) := by decide +kernel
theorem dX7_rightEntry_73 : decode cX7_rightEntry 73 = .ok (.aload_n 0, 1) := by decide +kernel
theorem dX7_rightEntry_74 : decode cX7_rightEntry 74 = .ok (.aload_n 0, 1) := by decide +kernel
theorem dX7_rightEntry_75 : decode cX7_rightEntry 75 = .ok (.getfield 201, 3) := by decide +kernel
theorem dX7_rightEntry_78 : decode cX7_rightEntry 78 = .ok (.aload_n 0, 1) := by decide +kernel
theorem dX7_rightEntry_79 : decode cX7_rightEntry 79 = .ok (.getfield 198, 3) := by decide +kernel
theorem dX7_rightEntry_82 : decode cX7_rightEntry 82 = .ok (.if_icmp .ne 7, 3) := by decide +kernel
theorem dX7_rightEntry_85 : decode cX7_rightEntry 85 = .ok (.iconst 3, 1) := by decide +kernel
theorem dX7_rightEntry_86 : decode cX7_rightEntry 86 = .ok (.goto 4, 3) := by decide +kernel
theorem dX7_rightEntry_89 : decode cX7_rightEntry 89 = .ok (.iconst 2, 1) := by decide +kernel
theorem dX7_rightEntry_90 : decode cX7_rightEntry 90 = .ok (.putfield 188, 3) := by decide +kernel
theorem dX7_rightEntry_93 : decode cX7_rightEntry 93 = .ok (.iconst 1, 1) := by decide +kernel
theorem dX7_rightEntry_94 : decode cX7_rightEntry 94 = .ok (.ireturn, 1) := by decide +kernel
set_option maxRecDepth 20000 in
theorem ggX7_rightShare_X7_isElement : GoodIn wsX7_rightShare wsX7_isElement := goodIn_r _ [13, 14, 15, 12, 16, 17] rfl (by decide +kernel)
set_option maxRecDepth 20000 in
theorem gX7_rightShare_X7_isElement : GoodIn wsX7_rightShare (va_wsS RX7 195 yX7_isElement wsX7_isElement) := goodIn_app (goodIn_r _ [10, 11, 12] rfl (by decide +kernel)) ggX7_rightShare_X7_isElement
set_option maxRecDepth 20000 in
theorem ggX7_rightShare_X7_isNumber : GoodIn wsX7_rightShare wsX7_isNumber := goodIn_r _ [20] rfl (by decide +kernel)
set_option maxRecDepth 20000 in
theorem gX7_rightShare_X7_isNumber : GoodIn wsX7_rightShare (va_wsS RX7 132 yX7_isNumber wsX7_isNumber) := goodIn_app (goodIn_r _ [18, 19, 12] rfl (by decide +kernel)) ggX7_rightShare_X7_isNumber
set_option maxRecDepth 20000 in
theorem ggX7_rightShare_X7_digestOfFive : GoodIn wsX7_rightShare wsX7_digestOfFive := goodIn_r _ [24, 25, 26, 27, 28, 12, 29, 30, 31, 32, 33, 34, 35, 36, 37, 38, 39, 43, 44, 45, 46, 47, 48, 49, 50, 51, 52, 53, 54, 55, 56, 57, 58, 59, 60, 61, 62, 63, 64, 65, 66, 67, 68, 69, 70, 71, 72, 73, 74, 75, 76, 77, 78, 79, 80, 81] rfl (by decide +kernel)
set_option maxRecDepth 20000 in
theorem gX7_rightShare_X7_digestOfFive : GoodIn wsX7_rightShare (wsV RX7 175 RX7 yX7_digestOfFive wsX7_digestOfFive) := goodIn_app (goodIn_r _ [21, 22, 23, 12] rfl (by decide +kernel)) ggX7_rightShare_X7_digestOfFive
set_option maxRecDepth 20000 in
theorem ggX7_rightShare_X7_power : GoodIn wsX7_rightShare wsX7_power := goodIn_r _ [16, 17] rfl (by decide +kernel)
set_option maxRecDepth 20000 in
theorem gX7_rightShare_X7_power : GoodIn wsX7_rightShare (va_wsS RX7 105 yX7_power wsX7_power) := goodIn_app (goodIn_r _ [14, 15, 12] rfl (by decide +kernel)) ggX7_rightShare_X7_power
set_option maxRecDepth 20000 in
theorem ggX7_rightShare_X7_times : GoodIn wsX7_rightShare wsX7_times := goodIn_r _ [42, 17] rfl (by decide +kernel)
set_option maxRecDepth 20000 in
theorem gX7_rightShare_X7_times : GoodIn wsX7_rightShare (va_wsS RX7 152 yX7_times wsX7_times) := goodIn_app (goodIn_r _ [40, 41, 12] rfl (by decide +kernel)) ggX7_rightShare_X7_times
theorem dX7_rightShare_0 : decode cX7_rightShare 0 = .ok (.aload_n 0, 1) := by decide +kernel
theorem dX7_rightShare_1 : decode cX7_rightShare 1 = .ok (.getfield 13, 3) := by decide +kernel
theorem dX7_rightShare_4 : decode cX7_rightShare 4 = .ok (.bipush 6, 2) := by decide +kernel
theorem dX7_rightShare_6 : decode cX7_rightShare 6 = .ok (.iload_n 1, 1) := by decide +kernel
theorem dX7_rightShare_7 : decode cX7_rightShare 7 = .ok (.imul, 1) := by decide +kernel
theorem dX7_rightShare_8 : decode cX7_rightShare 8 = .ok (.iaload, 1) := by decide +kernel
theorem dX7_rightShare_9 : decode cX7_rightShare 9 = .ok (.istore_n 2, 1) := by decide +kernel
theorem dX7_rightShare_10 : decode cX7_rightShare 10 = .ok (.aload_n 0, 1) := by decide +kernel
theorem dX7_rightShare_11 : decode cX7_rightShare 11 = .ok (.getfield 188, 3) := by decide +kernel
theorem dX7_rightShare_14 : decode cX7_rightShare 14 = .ok (.iconst 4, 1) := by decide +kernel
theorem dX7_rightShare_15 : decode cX7_rightShare 15 = .ok (.if_icmp .ne 10, 3) := by decide +kernel
theorem dX7_rightShare_18 : decode cX7_rightShare 18 = .ok (.aload_n 0, 1) := by decide +kernel
theorem dX7_rightShare_19 : decode cX7_rightShare 19 = .ok (.getfield 201, 3) := by decide +kernel
theorem dX7_rightShare_22 : decode cX7_rightShare 22 = .ok (.goto 4, 3) := by decide +kernel
theorem dX7_rightShare_25 : decode cX7_rightShare 25 = .ok (.iconst 0, 1) := by decide +kernel
theorem dX7_rightShare_26 : decode cX7_rightShare 26 = .ok (.istore_n 3, 1) := by decide +kernel
theorem dX7_rightShare_27 : decode cX7_rightShare 27 = .ok (.aload_n 0, 1) := by decide +kernel
theorem dX7_rightShare_28 : decode cX7_rightShare 28 = .ok (.getfield 188, 3) := by decide +kernel
theorem dX7_rightShare_31 : decode cX7_rightShare 31 = .ok (.iconst 3, 1) := by decide +kernel
theorem dX7_rightShare_32 : decode cX7_rightShare 32 = .ok (.if_icmp .ne 28, 3) := by decide +kernel
theorem dX7_rightShare_35 : decode cX7_rightShare 35 = .ok (.aload_n 0, 1) := by decide +kernel
theorem dX7_rightShare_36 : decode cX7_rightShare 36 = .ok (.getfield 198, 3) := by decide +kernel
theorem dX7_rightShare_39 : decode cX7_rightShare 39 = .ok (.ifCond .le 21, 3) := by decide +kernel
theorem dX7_rightShare_42 : decode cX7_rightShare 42 = .ok (.iload_n 2, 1) := by decide +kernel
theorem dX7_rightShare_43 : decode cX7_rightShare 43 = .ok (.ifCond .lt 17, 3) := by decide +kernel
theorem dX7_rightShare_46 : decode cX7_rightShare 46 = .ok (.iload_n 2, 1) := by decide +kernel
theorem dX7_rightShare_47 : decode cX7_rightShare 47 = .ok (.iconst 2, 1) := by decide +kernel
theorem dX7_rightShare_48 : decode cX7_rightShare 48 = .ok (.if_icmp .gt 12, 3) := by decide +kernel
theorem dX7_rightShare_51 : decode cX7_rightShare 51 = .ok (.aload_n 0, 1) := by decide +kernel
theorem dX7_rightShare_52 : decode cX7_rightShare 52 = .ok (.getfield 74, 3) := by decide +kernel
theorem dX7_rightShare_55 : decode cX7_rightShare 55 = .ok (.iload_n 2, 1) := by decide +kernel
theorem dX7_rightShare_56 : decode cX7_rightShare 56 = .ok (.baload, 1) := by decide +kernel
theorem dX7_rightShare_57 : decode cX7_rightShare 57 = .ok (.ifCond .eq 19, 3) := by decide +kernel
theorem dX7_rightShare_60 : decode cX7_rightShare 60 = .ok (.aload_n 0, 1) := by decide +kernel
theorem dX7_rightShare_61 : decode cX7_rightShare 61 = .ok (.getfield 188, 3) := by decide +kernel
theorem dX7_rightShare_64 : decode cX7_rightShare 64 = .ok (.iconst 4, 1) := by decide +kernel
theorem dX7_rightShare_65 : decode cX7_rightShare 65 = .ok (.if_icmp .ne 15, 3) := by decide +kernel
theorem dX7_rightShare_68 : decode cX7_rightShare 68 = .ok (.iload_n 2, 1) := by decide +kernel
theorem dX7_rightShare_69 : decode cX7_rightShare 69 = .ok (.aload_n 0, 1) := by decide +kernel
theorem dX7_rightShare_70 : decode cX7_rightShare 70 = .ok (.getfield 208, 3) := by decide +kernel
theorem dX7_rightShare_73 : decode cX7_rightShare 73 = .ok (.if_icmp .ne 7, 3) := by decide +kernel
theorem dX7_rightShare_76 : decode cX7_rightShare 76 = .ok (.iconst 1, 1) := by decide +kernel
theorem dX7_rightShare_77 : decode cX7_rightShare 77 = .ok (.goto 4, 3) := by decide +kernel
theorem dX7_rightShare_80 : decode cX7_rightShare 80 = .ok (.iconst 0, 1) := by decide +kernel
theorem dX7_rightShare_81 : decode cX7_rightShare 81 = .ok (.istore 4, 2) := by decide +kernel
theorem dX7_rightShare_83 : decode cX7_rightShare 83 = .ok (.iload 4, 2) := by decide +kernel
theorem dX7_rightShare_85 : decode cX7_rightShare 85 = .ok (.ifCond .eq 18, 3) := by decide +kernel
theorem dX7_rightShare_88 : decode cX7_rightShare 88 = .ok (.aload_n 0, 1) := by decide +kernel
theorem dX7_rightShare_89 : decode cX7_rightShare 89 = .ok (.getfield 13, 3) := by decide +kernel
theorem dX7_rightShare_92 : decode cX7_rightShare 92 = .ok (.bipush 6, 2) := by decide +kernel
theorem dX7_rightShare_94 : decode cX7_rightShare 94 = .ok (.iload_n 1, 1) := by decide +kernel
theorem dX7_rightShare_95 : decode cX7_rightShare 95 = .ok (.imul, 1) := by decide +kernel
theorem dX7_rightShare_96 : decode cX7_rightShare 96 = .ok (.iconst 1, 1) := by decide +kernel
theorem dX7_rightShare_97 : decode cX7_rightShare 97 = .ok (.iadd, 1) := by decide +kernel
theorem dX7_rightShare_98 : decode cX7_rightShare 98 = .ok (.iaload, 1) := by decide +kernel
theorem dX7_rightShare_99 : decode cX7_rightShare 99 = .ok (.iload_n 3, 1) := by decide +kernel
theorem dX7_rightShare_100 : decode cX7_rightShare 100 = .ok (.if_icmp .eq 5, 3) := by decide +kernel
theorem dX7_rightShare_103 : decode cX7_rightShare 103 = .ok (.iconst 0, 1) := by decide +kernel
theorem dX7_rightShare_104 : decode cX7_rightShare 104 = .ok (.ireturn, 1) := by decide +kernel
theorem dX7_rightShare_105 : decode cX7_rightShare 105 = .ok (.aload_n 0, 1) := by decide +kernel
theorem dX7_rightShare_106 : decode cX7_rightShare 106 = .ok (.getfield 13, 3) := by decide +kernel
theorem dX7_rightShare_109 : decode cX7_rightShare 109 = .ok (.bipush 6, 2) := by decide +kernel
theorem dX7_rightShare_111 : decode cX7_rightShare 111 = .ok (.iload_n 1, 1) := by decide +kernel
theorem dX7_rightShare_112 : decode cX7_rightShare 112 = .ok (.imul, 1) := by decide +kernel
theorem dX7_rightShare_113 : decode cX7_rightShare 113 = .ok (.iconst 2, 1) := by decide +kernel
theorem dX7_rightShare_114 : decode cX7_rightShare 114 = .ok (.iadd, 1) := by decide +kernel
theorem dX7_rightShare_115 : decode cX7_rightShare 115 = .ok (.iaload, 1) := by decide +kernel
theorem dX7_rightShare_116 : decode cX7_rightShare 116 = .ok (.istore 5, 2) := by decide +kernel
theorem dX7_rightShare_118 : decode cX7_rightShare 118 = .ok (.aload_n 0, 1) := by decide +kernel
theorem dX7_rightShare_119 : decode cX7_rightShare 119 = .ok (.getfield 13, 3) := by decide +kernel
theorem dX7_rightShare_122 : decode cX7_rightShare 122 = .ok (.bipush 6, 2) := by decide +kernel
theorem dX7_rightShare_124 : decode cX7_rightShare 124 = .ok (.iload_n 1, 1) := by decide +kernel
theorem dX7_rightShare_125 : decode cX7_rightShare 125 = .ok (.imul, 1) := by decide +kernel
theorem dX7_rightShare_126 : decode cX7_rightShare 126 = .ok (.iconst 3, 1) := by decide +kernel
theorem dX7_rightShare_127 : decode cX7_rightShare 127 = .ok (.iadd, 1) := by decide +kernel
theorem dX7_rightShare_128 : decode cX7_rightShare 128 = .ok (.iaload, 1) := by decide +kernel
theorem dX7_rightShare_129 : decode cX7_rightShare 129 = .ok (.istore 6, 2) := by decide +kernel
theorem dX7_rightShare_131 : decode cX7_rightShare 131 = .ok (.aload_n 0, 1) := by decide +kernel
theorem dX7_rightShare_132 : decode cX7_rightShare 132 = .ok (.getfield 13, 3) := by decide +kernel
theorem dX7_rightShare_135 : decode cX7_rightShare 135 = .ok (.bipush 6, 2) := by decide +kernel
theorem dX7_rightShare_137 : decode cX7_rightShare 137 = .ok (.iload_n 1, 1) := by decide +kernel
theorem dX7_rightShare_138 : decode cX7_rightShare 138 = .ok (.imul, 1) := by decide +kernel
theorem dX7_rightShare_139 : decode cX7_rightShare 139 = .ok (.iconst 4, 1) := by decide +kernel
theorem dX7_rightShare_140 : decode cX7_rightShare 140 = .ok (.iadd, 1) := by decide +kernel
theorem dX7_rightShare_141 : decode cX7_rightShare 141 = .ok (.iaload, 1) := by decide +kernel
theorem dX7_rightShare_142 : decode cX7_rightShare 142 = .ok (.istore 7, 2) := by decide +kernel
theorem dX7_rightShare_144 : decode cX7_rightShare 144 = .ok (.aload_n 0, 1) := by decide +kernel
theorem dX7_rightShare_145 : decode cX7_rightShare 145 = .ok (.getfield 13, 3) := by decide +kernel
theorem dX7_rightShare_148 : decode cX7_rightShare 148 = .ok (.bipush 6, 2) := by decide +kernel
theorem dX7_rightShare_150 : decode cX7_rightShare 150 = .ok (.iload_n 1, 1) := by decide +kernel
theorem dX7_rightShare_151 : decode cX7_rightShare 151 = .ok (.imul, 1) := by decide +kernel
theorem dX7_rightShare_152 : decode cX7_rightShare 152 = .ok (.iconst 5, 1) := by decide +kernel
theorem dX7_rightShare_153 : decode cX7_rightShare 153 = .ok (.iadd, 1) := by decide +kernel
theorem dX7_rightShare_154 : decode cX7_rightShare 154 = .ok (.iaload, 1) := by decide +kernel
theorem dX7_rightShare_155 : decode cX7_rightShare 155 = .ok (.istore 8, 2) := by decide +kernel
theorem dX7_rightShare_157 : decode cX7_rightShare 157 = .ok (.iload 5, 2) := by decide +kernel
theorem dX7_rightShare_159 : decode cX7_rightShare 159 = .ok (.invokestatic 195, 3) := by decide +kernel
theorem dX7_rightShare_162 : decode cX7_rightShare 162 = .ok (.ifCond .eq 27, 3) := by decide +kernel
theorem dX7_rightShare_165 : decode cX7_rightShare 165 = .ok (.iload 6, 2) := by decide +kernel
theorem dX7_rightShare_167 : decode cX7_rightShare 167 = .ok (.invokestatic 132, 3) := by decide +kernel
theorem dX7_rightShare_170 : decode cX7_rightShare 170 = .ok (.ifCond .eq 19, 3) := by decide +kernel
theorem dX7_rightShare_173 : decode cX7_rightShare 173 = .ok (.iload 7, 2) := by decide +kernel
theorem dX7_rightShare_175 : decode cX7_rightShare 175 = .ok (.invokestatic 195, 3) := by decide +kernel
theorem dX7_rightShare_178 : decode cX7_rightShare 178 = .ok (.ifCond .eq 11, 3) := by decide +kernel
theorem dX7_rightShare_181 : decode cX7_rightShare 181 = .ok (.iload 8, 2) := by decide +kernel
theorem dX7_rightShare_183 : decode cX7_rightShare 183 = .ok (.invokestatic 195, 3) := by decide +kernel
theorem dX7_rightShare_186 : decode cX7_rightShare 186 = .ok (.ifCond .ne 5, 3) := by decide +kernel
theorem dX7_rightShare_189 : decode cX7_rightShare 189 = .ok (.iconst 0, 1) := by decide +kernel
theorem dX7_rightShare_190 : decode cX7_rightShare 190 = .ok (.ireturn, 1) := by decide +kernel
theorem dX7_rightShare_191 : decode cX7_rightShare 191 = .ok (.aload_n 0, 1) := by decide +kernel
theorem dX7_rightShare_192 : decode cX7_rightShare 192 = .ok (.aload_n 0, 1) := by decide +kernel
theorem dX7_rightShare_193 : decode cX7_rightShare 193 = .ok (.getfield 71, 3) := by decide +kernel
theorem dX7_rightShare_196 : decode cX7_rightShare 196 = .ok (.iload_n 2, 1) := by decide +kernel
theorem dX7_rightShare_197 : decode cX7_rightShare 197 = .ok (.iaload, 1) := by decide +kernel
theorem dX7_rightShare_198 : decode cX7_rightShare 198 = .ok (.aload_n 0, 1) := by decide +kernel
theorem dX7_rightShare_199 : decode cX7_rightShare 199 = .ok (.getfield 77, 3) := by decide +kernel
theorem dX7_rightShare_202 : decode cX7_rightShare 202 = .ok (.iload_n 3, 1) := by decide +kernel
theorem dX7_rightShare_203 : decode cX7_rightShare 203 = .ok (.iaload, 1) := by decide +kernel
theorem dX7_rightShare_204 : decode cX7_rightShare 204 = .ok (.iload 5, 2) := by decide +kernel
theorem dX7_rightShare_206 : decode cX7_rightShare 206 = .ok (.iload 7, 2) := by decide +kernel
theorem dX7_rightShare_208 : decode cX7_rightShare 208 = .ok (.iload 8, 2) := by decide +kernel
theorem dX7_rightShare_210 : decode cX7_rightShare 210 = .ok (.invokevirtual 175, 3) := by decide +kernel
theorem dX7_rightShare_213 : decode cX7_rightShare 213 = .ok (.istore 9, 2) := by decide +kernel
theorem dX7_rightShare_215 : decode cX7_rightShare 215 = .ok (.iconst 4, 1) := by decide +kernel
theorem dX7_rightShare_216 : decode cX7_rightShare 216 = .ok (.iload 6, 2) := by decide +kernel
theorem dX7_rightShare_218 : decode cX7_rightShare 218 = .ok (.invokestatic 105, 3) := by decide +kernel
theorem dX7_rightShare_221 : decode cX7_rightShare 221 = .ok (.iload 7, 2) := by decide +kernel
theorem dX7_rightShare_223 : decode cX7_rightShare 223 = .ok (.aload_n 0, 1) := by decide +kernel
theorem dX7_rightShare_224 : decode cX7_rightShare 224 = .ok (.getfield 71, 3) := by decide +kernel
theorem dX7_rightShare_227 : decode cX7_rightShare 227 = .ok (.iload_n 2, 1) := by decide +kernel
theorem dX7_rightShare_228 : decode cX7_rightShare 228 = .ok (.iaload, 1) := by decide +kernel
theorem dX7_rightShare_229 : decode cX7_rightShare 229 = .ok (.iload 9, 2) := by decide +kernel
theorem dX7_rightShare_231 : decode cX7_rightShare 231 = .ok (.invokestatic 105, 3) := by decide +kernel
theorem dX7_rightShare_234 : decode cX7_rightShare 234 = .ok (.invokestatic 152, 3) := by decide +kernel
theorem dX7_rightShare_237 : decode cX7_rightShare 237 = .ok (.if_icmp .ne 29, 3) := by decide +kernel
theorem dX7_rightShare_240 : decode cX7_rightShare 240 = .ok (.aload_n 0, 1) := by decide +kernel
theorem dX7_rightShare_241 : decode cX7_rightShare 241 = .ok (.getfield 77, 3) := by decide +kernel
theorem dX7_rightShare_244 : decode cX7_rightShare 244 = .ok (.iload_n 3, 1) := by decide +kernel
theorem dX7_rightShare_245 : decode cX7_rightShare 245 = .ok (.iaload, 1) := by decide +kernel
theorem dX7_rightShare_246 : decode cX7_rightShare 246 = .ok (.iload 6, 2) := by decide +kernel
theorem dX7_rightShare_248 : decode cX7_rightShare 248 = .ok (.invokestatic 105, 3) := by decide +kernel
theorem dX7_rightShare_251 : decode cX7_rightShare 251 = .ok (.iload 8, 2) := by decide +kernel
theorem dX7_rightShare_253 : decode cX7_rightShare 253 = .ok (.iload 5, 2) := by decide +kernel
theorem dX7_rightShare_255 : decode cX7_rightShare 255 = .ok (.iload 9, 2) := by decide +kernel
theorem dX7_rightShare_257 : decode cX7_rightShare 257 = .ok (.invokestatic 105, 3) := by decide +kernel
theorem dX7_rightShare_260 : decode cX7_rightShare 260 = .ok (.invokestatic 152, 3) := by decide +kernel
theorem dX7_rightShare_263 : decode cX7_rightShare 263 = .ok (.if_icmp .eq 5, 3) := by decide +kernel
theorem dX7_rightShare_266 : decode cX7_rightShare 266 = .ok (.iconst 0, 1) := by decide +kernel
theorem dX7_rightShare_267 : decode cX7_rightShare 267 = .ok (.ireturn, 1) := by decide +kernel
theorem dX7_rightShare_268 : decode cX7_rightShare 268 = .ok (.aload_n 0, 1) := by decide +kernel
theorem dX7_rightShare_269 : decode cX7_rightShare 269 = .ok (.getfield 83, 3) := by decide +kernel
theorem dX7_rightShare_272 : decode cX7_rightShare 272 = .ok (.bipush 10, 2) := by decide +kernel
theorem dX7_rightShare_274 : decode cX7_rightShare 274 = .ok (.iload_n 2, 1) := by decide +kernel
theorem dX7_rightShare_275 : decode cX7_rightShare 275 = .ok (.imul, 1) := by decide +kernel
theorem dX7_rightShare_276 : decode cX7_rightShare 276 = .ok (.iload_n 3, 1) := by decide +kernel
theorem dX7_rightShare_277 : decode cX7_rightShare 277 = .ok (.iadd, 1) := by decide +kernel
theorem dX7_rightShare_278 : decode cX7_rightShare 278 = .ok (.iload 5, 2) := by decide +kernel
theorem dX7_rightShare_280 : decode cX7_rightShare 280 = .ok (.iastore, 1) := by decide +kernel
theorem dX7_rightShare_281 : decode cX7_rightShare 281 = .ok (.aload_n 0, 1) := by decide +kernel
theorem dX7_rightShare_282 : decode cX7_rightShare 282 = .ok (.iload_n 2, 1) := by decide +kernel
theorem dX7_rightShare_283 : decode cX7_rightShare 283 = .ok (.putfield 208, 3) := by decide +kernel
theorem dX7_rightShare_286 : decode cX7_rightShare 286 = .ok (.aload_n 0, 1) := by decide +kernel
theorem dX7_rightShare_287 : decode cX7_rightShare 287 = .ok (.iload_n 3, 1) := by decide +kernel
theorem dX7_rightShare_288 : decode cX7_rightShare 288 = .ok (.iconst 1, 1) := by decide +kernel
theorem dX7_rightShare_289 : decode cX7_rightShare 289 = .ok (.iadd, 1) := by decide +kernel
theorem dX7_rightShare_290 : decode cX7_rightShare 290 = .ok (.putfield 201, 3) := by decide +kernel
theorem dX7_rightShare_293 : decode cX7_rightShare 293 = .ok (.aload_n 0, 1) := by decide +kernel
theorem dX7_rightShare_294 : decode cX7_rightShare 294 = .ok (.getfield 74, 3) := by decide +kernel
theorem dX7_rightShare_297 : decode cX7_rightShare 297 = .ok (.iload_n 2, 1) := by decide +kernel
theorem dX7_rightShare_298 : decode cX7_rightShare 298 = .ok (.aload_n 0, 1) := by decide +kernel
theorem dX7_rightShare_299 : decode cX7_rightShare 299 = .ok (.getfield 201, 3) := by decide +kernel
theorem dX7_rightShare_302 : decode cX7_rightShare 302 = .ok (.aload_n 0, 1) := by decide +kernel
theorem dX7_rightShare_303 : decode cX7_rightShare 303 = .ok (.getfield 198, 3) := by decide +kernel
theorem dX7_rightShare_306 : decode cX7_rightShare 306 = .ok (.if_icmp .ne 7, 3) := by decide +kernel
theorem dX7_rightShare_309 : decode cX7_rightShare 309 = .ok (.iconst 1, 1) := by decide +kernel
theorem dX7_rightShare_310 : decode cX7_rightShare 310 = .ok (.goto 4, 3) := by decide +kernel
theorem dX7_rightShare_313 : decode cX7_rightShare 313 = .ok (.iconst 0, 1) := by decide +kernel
theorem dX7_rightShare_314 : decode cX7_rightShare 314 = .ok (.bastore, 1) := by decide +kernel
theorem dX7_rightShare_315 : decode cX7_rightShare 315 = .ok (.aload_n 0, 1) := by decide +kernel
theorem dX7_rightShare_316 : decode cX7_rightShare 316 = .ok (.aload_n 0, 1) := by decide +kernel
theorem dX7_rightShare_317 : decode cX7_rightShare 317 = .ok (.getfield 74, 3) := by decide +kernel
theorem dX7_rightShare_320 : decode cX7_rightShare 320 = .ok (.iload_n 2, 1) := by decide +kernel
theorem dX7_rightShare_321 : decode cX7_rightShare 321 = .ok (.baload, 1) := by decide +kernel
theorem dX7_rightShare_322 : decode cX7_rightShare 322 = .ok (.ifCond .eq 7, 3) := by decide +kernel
theorem dX7_rightShare_325 : decode cX7_rightShare 325 = .ok (.iconst 3, 1) := by decide +kernel
theorem dX7_rightShare_326 : decode cX7_rightShare 326 = .ok (.goto 4, 3) := by decide +kernel
theorem dX7_rightShare_329 : decode cX7_rightShare 329 = .ok (.iconst 4, 1) := by decide +kernel
theorem dX7_rightShare_330 : decode cX7_rightShare 330 = .ok (.putfield 188, 3) := by decide +kernel
theorem dX7_rightShare_333 : decode cX7_rightShare 333 = .ok (.iconst 1, 1) := by decide +kernel
theorem dX7_rightShare_334 : decode cX7_rightShare 334 = .ok (.ireturn, 1) := by decide +kernel
set_option maxRecDepth 20000 in
theorem ggX7_rightResult_X7_bare : GoodIn wsX7_rightResult wsX7_bare := goodIn_r _ [11, 6, 25, 26, 27, 28, 29, 30, 31, 32, 33, 34, 35, 36, 37, 38, 39, 40, 41, 42, 43, 44, 45, 46, 47, 48, 49, 50, 51, 52, 53, 54, 55, 56, 57, 58, 59, 60, 61, 62, 63] rfl (by decide +kernel)
set_option maxRecDepth 20000 in
theorem gX7_rightResult_X7_bare : GoodIn wsX7_rightResult (wsV RX7 191 RX7 yX7_bare wsX7_bare) := goodIn_app (goodIn_r _ [7, 8, 9, 10] rfl (by decide +kernel)) ggX7_rightResult_X7_bare
set_option maxRecDepth 20000 in
theorem ggX7_rightResult_X7_valueOf : GoodIn wsX7_rightResult wsX7_valueOf := goodIn_r _ [14, 15, 16, 10, 17, 18, 19, 20, 21] rfl (by decide +kernel)
set_option maxRecDepth 20000 in
theorem gX7_rightResult_X7_valueOf : GoodIn wsX7_rightResult (va_wsS RX7 179 yX7_valueOf wsX7_valueOf) := goodIn_app (goodIn_r _ [12, 13, 10] rfl (by decide +kernel)) ggX7_rightResult_X7_valueOf
set_option maxRecDepth 20000 in
theorem ggX7_rightResult_X7_choiceOf : GoodIn wsX7_rightResult wsX7_choiceOf := goodIn_r _ [24, 19, 20, 10, 21, 18] rfl (by decide +kernel)
set_option maxRecDepth 20000 in
theorem gX7_rightResult_X7_choiceOf : GoodIn wsX7_rightResult (va_wsS RX7 182 yX7_choiceOf wsX7_choiceOf) := goodIn_app (goodIn_r _ [22, 23, 10] rfl (by decide +kernel)) ggX7_rightResult_X7_choiceOf
theorem dX7_rightResult_0 : decode cX7_rightResult 0 = .ok (.aload_n 0, 1) := by decide +kernel
theorem dX7_rightResult_1 : decode cX7_rightResult 1 = .ok (.getfield 198, 3) := by decide +kernel
theorem dX7_rightResult_4 : decode cX7_rightResult 4 = .ok (.ifCond .eq 30, 3) := by decide +kernel
theorem dX7_rightResult_7 : decode cX7_rightResult 7 = .ok (.aload_n 0, 1) := by decide +kernel
theorem dX7_rightResult_8 : decode cX7_rightResult 8 = .ok (.getfield 74, 3) := by decide +kernel
theorem dX7_rightResult_11 : decode cX7_rightResult 11 = .ok (.iconst 0, 1) := by decide +kernel
theorem dX7_rightResult_12 : decode cX7_rightResult 12 = .ok (.baload, 1) := by decide +kernel
theorem dX7_rightResult_13 : decode cX7_rightResult 13 = .ok (.ifCond .eq 25, 3) := by decide +kernel
theorem dX7_rightResult_16 : decode cX7_rightResult 16 = .ok (.aload_n 0, 1) := by decide +kernel
theorem dX7_rightResult_17 : decode cX7_rightResult 17 = .ok (.getfield 74, 3) := by decide +kernel
theorem dX7_rightResult_20 : decode cX7_rightResult 20 = .ok (.iconst 1, 1) := by decide +kernel
theorem dX7_rightResult_21 : decode cX7_rightResult 21 = .ok (.baload, 1) := by decide +kernel
theorem dX7_rightResult_22 : decode cX7_rightResult 22 = .ok (.ifCond .eq 16, 3) := by decide +kernel
theorem dX7_rightResult_25 : decode cX7_rightResult 25 = .ok (.aload_n 0, 1) := by decide +kernel
theorem dX7_rightResult_26 : decode cX7_rightResult 26 = .ok (.getfield 74, 3) := by decide +kernel
theorem dX7_rightResult_29 : decode cX7_rightResult 29 = .ok (.iconst 2, 1) := by decide +kernel
theorem dX7_rightResult_30 : decode cX7_rightResult 30 = .ok (.baload, 1) := by decide +kernel
theorem dX7_rightResult_31 : decode cX7_rightResult 31 = .ok (.ifCond .eq 7, 3) := by decide +kernel
theorem dX7_rightResult_34 : decode cX7_rightResult 34 = .ok (.iconst 1, 1) := by decide +kernel
theorem dX7_rightResult_35 : decode cX7_rightResult 35 = .ok (.goto 4, 3) := by decide +kernel
theorem dX7_rightResult_38 : decode cX7_rightResult 38 = .ok (.iconst 0, 1) := by decide +kernel
theorem dX7_rightResult_39 : decode cX7_rightResult 39 = .ok (.istore_n 2, 1) := by decide +kernel
theorem dX7_rightResult_40 : decode cX7_rightResult 40 = .ok (.aload_n 0, 1) := by decide +kernel
theorem dX7_rightResult_41 : decode cX7_rightResult 41 = .ok (.getfield 188, 3) := by decide +kernel
theorem dX7_rightResult_44 : decode cX7_rightResult 44 = .ok (.iconst 3, 1) := by decide +kernel
theorem dX7_rightResult_45 : decode cX7_rightResult 45 = .ok (.if_icmp .ne 16, 3) := by decide +kernel
theorem dX7_rightResult_48 : decode cX7_rightResult 48 = .ok (.iload_n 2, 1) := by decide +kernel
theorem dX7_rightResult_49 : decode cX7_rightResult 49 = .ok (.ifCond .eq 12, 3) := by decide +kernel
theorem dX7_rightResult_52 : decode cX7_rightResult 52 = .ok (.aload_n 0, 1) := by decide +kernel
theorem dX7_rightResult_53 : decode cX7_rightResult 53 = .ok (.iload_n 1, 1) := by decide +kernel
theorem dX7_rightResult_54 : decode cX7_rightResult 54 = .ok (.iconst 4, 1) := by decide +kernel
theorem dX7_rightResult_55 : decode cX7_rightResult 55 = .ok (.invokevirtual 191, 3) := by decide +kernel
theorem dX7_rightResult_58 : decode cX7_rightResult 58 = .ok (.ifCond .ne 5, 3) := by decide +kernel
theorem dX7_rightResult_61 : decode cX7_rightResult 61 = .ok (.iconst 0, 1) := by decide +kernel
theorem dX7_rightResult_62 : decode cX7_rightResult 62 = .ok (.ireturn, 1) := by decide +kernel
theorem dX7_rightResult_63 : decode cX7_rightResult 63 = .ok (.iconst 0, 1) := by decide +kernel
theorem dX7_rightResult_64 : decode cX7_rightResult 64 = .ok (.istore_n 3, 1) := by decide +kernel
theorem dX7_rightResult_65 : decode cX7_rightResult 65 = .ok (.iload_n 3, 1) := by decide +kernel
theorem dX7_rightResult_66 : decode cX7_rightResult 66 = .ok (.iconst 4, 1) := by decide +kernel
theorem dX7_rightResult_67 : decode cX7_rightResult 67 = .ok (.if_icmp .ge 103, 3) := by decide +kernel
theorem dX7_rightResult_70 : decode cX7_rightResult 70 = .ok (.iconst 0, 1) := by decide +kernel
theorem dX7_rightResult_71 : decode cX7_rightResult 71 = .ok (.istore 4, 2) := by decide +kernel
theorem dX7_rightResult_73 : decode cX7_rightResult 73 = .ok (.iconst 0, 1) := by decide +kernel
theorem dX7_rightResult_74 : decode cX7_rightResult 74 = .ok (.istore 5, 2) := by decide +kernel
theorem dX7_rightResult_76 : decode cX7_rightResult 76 = .ok (.iload 5, 2) := by decide +kernel
theorem dX7_rightResult_78 : decode cX7_rightResult 78 = .ok (.aload_n 0, 1) := by decide +kernel
theorem dX7_rightResult_79 : decode cX7_rightResult 79 = .ok (.getfield 198, 3) := by decide +kernel
theorem dX7_rightResult_82 : decode cX7_rightResult 82 = .ok (.if_icmp .ge 64, 3) := by decide +kernel
theorem dX7_rightResult_85 : decode cX7_rightResult 85 = .ok (.aload_n 0, 1) := by decide +kernel
theorem dX7_rightResult_86 : decode cX7_rightResult 86 = .ok (.getfield 80, 3) := by decide +kernel
theorem dX7_rightResult_89 : decode cX7_rightResult 89 = .ok (.iload 5, 2) := by decide +kernel
theorem dX7_rightResult_91 : decode cX7_rightResult 91 = .ok (.iaload, 1) := by decide +kernel
theorem dX7_rightResult_92 : decode cX7_rightResult 92 = .ok (.aload_n 0, 1) := by decide +kernel
theorem dX7_rightResult_93 : decode cX7_rightResult 93 = .ok (.getfield 83, 3) := by decide +kernel
theorem dX7_rightResult_96 : decode cX7_rightResult 96 = .ok (.iload 5, 2) := by decide +kernel
theorem dX7_rightResult_98 : decode cX7_rightResult 98 = .ok (.iaload, 1) := by decide +kernel
theorem dX7_rightResult_99 : decode cX7_rightResult 99 = .ok (.aload_n 0, 1) := by decide +kernel
theorem dX7_rightResult_100 : decode cX7_rightResult 100 = .ok (.getfield 83, 3) := by decide +kernel
theorem dX7_rightResult_103 : decode cX7_rightResult 103 = .ok (.bipush 10, 2) := by decide +kernel
theorem dX7_rightResult_105 : decode cX7_rightResult 105 = .ok (.iload 5, 2) := by decide +kernel
theorem dX7_rightResult_107 : decode cX7_rightResult 107 = .ok (.iadd, 1) := by decide +kernel
theorem dX7_rightResult_108 : decode cX7_rightResult 108 = .ok (.iaload, 1) := by decide +kernel
theorem dX7_rightResult_109 : decode cX7_rightResult 109 = .ok (.aload_n 0, 1) := by decide +kernel
theorem dX7_rightResult_110 : decode cX7_rightResult 110 = .ok (.getfield 83, 3) := by decide +kernel
theorem dX7_rightResult_113 : decode cX7_rightResult 113 = .ok (.bipush 20, 2) := by decide +kernel
theorem dX7_rightResult_115 : decode cX7_rightResult 115 = .ok (.iload 5, 2) := by decide +kernel
theorem dX7_rightResult_117 : decode cX7_rightResult 117 = .ok (.iadd, 1) := by decide +kernel
theorem dX7_rightResult_118 : decode cX7_rightResult 118 = .ok (.iaload, 1) := by decide +kernel
theorem dX7_rightResult_119 : decode cX7_rightResult 119 = .ok (.invokestatic 179, 3) := by decide +kernel
theorem dX7_rightResult_122 : decode cX7_rightResult 122 = .ok (.invokestatic 182, 3) := by decide +kernel
theorem dX7_rightResult_125 : decode cX7_rightResult 125 = .ok (.iload_n 3, 1) := by decide +kernel
theorem dX7_rightResult_126 : decode cX7_rightResult 126 = .ok (.if_icmp .ne 10, 3) := by decide +kernel
theorem dX7_rightResult_129 : decode cX7_rightResult 129 = .ok (.iload 4, 2) := by decide +kernel
theorem dX7_rightResult_131 : decode cX7_rightResult 131 = .ok (.iconst 1, 1) := by decide +kernel
theorem dX7_rightResult_132 : decode cX7_rightResult 132 = .ok (.iadd, 1) := by decide +kernel
theorem dX7_rightResult_133 : decode cX7_rightResult 133 = .ok (.goto 5, 3) := by decide +kernel
theorem dX7_rightResult_136 : decode cX7_rightResult 136 = .ok (.iload 4, 2) := by decide +kernel
theorem dX7_rightResult_138 : decode cX7_rightResult 138 = .ok (.istore 4, 2) := by decide +kernel
theorem dX7_rightResult_140 : decode cX7_rightResult 140 = .ok (.iinc 5 1, 3) := by decide +kernel
theorem dX7_rightResult_143 : decode cX7_rightResult 143 = .ok (.goto (-67), 3) := by decide +kernel
theorem dX7_rightResult_146 : decode cX7_rightResult 146 = .ok (.aload_n 0, 1) := by decide +kernel
theorem dX7_rightResult_147 : decode cX7_rightResult 147 = .ok (.getfield 13, 3) := by decide +kernel
theorem dX7_rightResult_150 : decode cX7_rightResult 150 = .ok (.bipush 6, 2) := by decide +kernel
theorem dX7_rightResult_152 : decode cX7_rightResult 152 = .ok (.iload_n 1, 1) := by decide +kernel
theorem dX7_rightResult_153 : decode cX7_rightResult 153 = .ok (.imul, 1) := by decide +kernel
theorem dX7_rightResult_154 : decode cX7_rightResult 154 = .ok (.iload_n 3, 1) := by decide +kernel
theorem dX7_rightResult_155 : decode cX7_rightResult 155 = .ok (.iadd, 1) := by decide +kernel
theorem dX7_rightResult_156 : decode cX7_rightResult 156 = .ok (.iaload, 1) := by decide +kernel
theorem dX7_rightResult_157 : decode cX7_rightResult 157 = .ok (.iload 4, 2) := by decide +kernel
theorem dX7_rightResult_159 : decode cX7_rightResult 159 = .ok (.if_icmp .eq 5, 3) := by decide +kernel
theorem dX7_rightResult_162 : decode cX7_rightResult 162 = .ok (.iconst 0, 1) := by decide +kernel
theorem dX7_rightResult_163 : decode cX7_rightResult 163 = .ok (.ireturn, 1) := by decide +kernel
theorem dX7_rightResult_164 : decode cX7_rightResult 164 = .ok (.iinc 3 1, 3) := by decide +kernel
theorem dX7_rightResult_167 : decode cX7_rightResult 167 = .ok (.goto (-102), 3) := by decide +kernel
theorem dX7_rightResult_170 : decode cX7_rightResult 170 = .ok (.aload_n 0, 1) := by decide +kernel
theorem dX7_rightResult_171 : decode cX7_rightResult 171 = .ok (.iconst 5, 1) := by decide +kernel
theorem dX7_rightResult_172 : decode cX7_rightResult 172 = .ok (.putfield 188, 3) := by decide +kernel
theorem dX7_rightResult_175 : decode cX7_rightResult 175 = .ok (.iconst 1, 1) := by decide +kernel
theorem dX7_rightResult_176 : decode cX7_rightResult 176 = .ok (.ireturn, 1) := by decide +kernel
set_option maxRecDepth 20000 in
theorem ggX7_right_X7_rightBegun : GoodIn wsX7_right wsX7_rightBegun := goodIn_r _ [6, 7, 8, 9, 10, 11, 12, 5, 13, 14, 15, 16, 17, 18, 19, 20, 116, 117, 118, 119, 120, 121, 122, 123, 124, 125, 126, 127, 128, 129, 130, 131, 132, 133, 134, 135, 136, 137, 138, 139, 140, 141, 142, 143, 144, 145, 146, 147, 148, 149, 150, 151, 152, 153, 154] rfl (by decide +kernel)
set_option maxRecDepth 20000 in
theorem gX7_right_X7_rightBegun : GoodIn wsX7_right (wsV RX7 211 RX7 yX7_rightBegun wsX7_rightBegun) := goodIn_app (goodIn_r _ [2, 3, 4, 5] rfl (by decide +kernel)) ggX7_right_X7_rightBegun
set_option maxRecDepth 20000 in
theorem ggX7_right_X7_rightVoter : GoodIn wsX7_right wsX7_rightVoter := goodIn_r _ [24, 8, 7, 25, 26, 27, 5, 28, 10, 11, 12, 13, 116, 117, 118, 119, 120, 121, 122, 123, 124, 125, 126, 127, 128, 129, 130, 131, 132, 133, 134, 135, 136, 137, 138, 139, 140, 141, 142, 143, 144, 145, 146, 147, 148, 149, 150, 151, 152, 153, 154] rfl (by decide +kernel)
set_option maxRecDepth 20000 in
theorem gX7_right_X7_rightVoter : GoodIn wsX7_right (wsV RX7 214 RX7 yX7_rightVoter wsX7_rightVoter) := goodIn_app (goodIn_r _ [21, 22, 23, 5] rfl (by decide +kernel)) ggX7_right_X7_rightVoter
set_option maxRecDepth 20000 in
theorem ggX7_right_X7_rightBallot : GoodIn wsX7_right wsX7_rightBallot := goodIn_r _ [32, 8, 7, 25, 33, 34, 35, 26, 27, 5, 28, 14, 15, 16, 17, 18, 19, 20, 10, 11, 12, 13, 116, 117, 118, 119, 120, 121, 122, 123, 124, 125, 126, 127, 128, 129, 130, 131, 132, 133, 134, 135, 136, 137, 138, 139, 140, 141, 142, 143, 144, 145, 146, 147, 148, 149, 150, 151, 152, 153, 154] rfl (by decide +kernel)
set_option maxRecDepth 20000 in
theorem gX7_right_X7_rightBallot : GoodIn wsX7_right (wsV RX7 217 RX7 yX7_rightBallot wsX7_rightBallot) := goodIn_app (goodIn_r _ [29, 30, 31, 5] rfl (by decide +kernel)) ggX7_right_X7_rightBallot
set_option maxRecDepth 20000 in
theorem ggX7_right_X7_rightClosed : GoodIn wsX7_right wsX7_rightClosed := goodIn_r _ [39, 7, 33, 40, 34, 41, 35, 10, 11, 12, 5, 13, 8, 42, 43, 44, 45, 46, 47, 116, 117, 118, 119, 120, 121, 122, 123, 124, 125, 126, 127, 128, 129, 130, 131, 132, 133, 134, 135, 136, 137, 138, 139, 140, 141, 142, 143, 144, 145, 146, 147, 148, 149, 150, 151, 152, 153, 154] rfl (by decide +kernel)
set_option maxRecDepth 20000 in
theorem gX7_right_X7_rightClosed : GoodIn wsX7_right (wsV RX7 220 RX7 yX7_rightClosed wsX7_rightClosed) := goodIn_app (goodIn_r _ [36, 37, 38, 5] rfl (by decide +kernel)) ggX7_right_X7_rightClosed
set_option maxRecDepth 20000 in
theorem ggX7_right_X7_rightMixed : GoodIn wsX7_right wsX7_rightMixed := goodIn_r _ [51, 8, 52, 7, 46, 9, 53, 40, 54, 41, 55, 56, 5, 57, 10, 11, 12, 13, 58, 59, 60, 20, 61, 62, 63, 64, 65, 66, 67, 68, 69, 70, 71, 72, 73, 74, 75, 76, 77, 78, 79, 80, 81, 82, 83, 84, 85, 86, 87, 88, 17, 18, 19, 42, 43, 44, 45, 47, 116, 117, 118, 119, 120, 121, 122, 123, 124, 125, 126, 127, 128, 129, 130, 131, 132, 133, 134, 135, 136, 137, 138, 139, 140, 141, 142, 143, 144, 145, 146, 147, 148, 149, 150, 151, 152, 153, 154] rfl (by decide +kernel)
set_option maxRecDepth 20000 in
theorem gX7_right_X7_rightMixed : GoodIn wsX7_right (wsV RX7 223 RX7 yX7_rightMixed wsX7_rightMixed) := goodIn_app (goodIn_r _ [48, 49, 50, 5] rfl (by decide +kernel)) ggX7_right_X7_rightMixed
set_option maxRecDepth 20000 in
theorem ggX7_right_X7_rightEntry : GoodIn wsX7_right wsX7_rightEntry := goodIn_r _ [92, 7, 8, 40, 47, 41, 46, 10, 11, 12, 5, 13, 116, 117, 118, 119, 120, 121, 122, 123, 124, 125, 126, 127, 128, 129, 130, 131, 132, 133, 134, 135, 136, 137, 138, 139, 140, 141, 142, 143, 144, 145, 146, 147, 148, 149, 150, 151, 152, 153, 154] rfl (by decide +kernel)
set_option maxRecDepth 20000 in
theorem gX7_right_X7_rightEntry : GoodIn wsX7_right (wsV RX7 226 RX7 yX7_rightEntry wsX7_rightEntry) := goodIn_app (goodIn_r _ [89, 90, 91, 5] rfl (by decide +kernel)) ggX7_right_X7_rightEntry
set_option maxRecDepth 20000 in
theorem ggX7_right_X7_rightShare : GoodIn wsX7_right wsX7_rightShare := goodIn_r _ [96, 8, 7, 47, 46, 52, 97, 9, 40, 98, 14, 15, 5, 16, 17, 18, 19, 20, 99, 100, 101, 102, 103, 104, 105, 74, 75, 76, 77, 78, 79, 80, 81, 82, 83, 84, 85, 86, 87, 88, 58, 59, 60, 116, 117, 118, 119, 120, 121, 122, 123, 124, 125, 126, 127, 128, 129, 130, 131, 132, 133, 134, 135, 136, 137, 138, 139, 140, 141, 142, 143, 144, 145, 146, 147, 148, 149, 150, 151, 152, 153, 154] rfl (by decide +kernel)
set_option maxRecDepth 20000 in
theorem gX7_right_X7_rightShare : GoodIn wsX7_right (wsV RX7 229 RX7 yX7_rightShare wsX7_rightShare) := goodIn_app (goodIn_r _ [93, 94, 95, 5] rfl (by decide +kernel)) ggX7_right_X7_rightShare
set_option maxRecDepth 20000 in
theorem ggX7_right_X7_rightResult : GoodIn wsX7_right wsX7_rightResult := goodIn_r _ [109, 46, 52, 7, 41, 98, 8, 10, 11, 12, 5, 13, 110, 111, 112, 58, 59, 60, 20, 17, 18, 19, 113, 114, 115, 116, 117, 118, 119, 120, 121, 122, 123, 124, 125, 126, 127, 128, 129, 130, 131, 132, 133, 134, 135, 136, 137, 138, 139, 140, 141, 142, 143, 144, 145, 146, 147, 148, 149, 150, 151, 152, 153, 154] rfl (by decide +kernel)
set_option maxRecDepth 20000 in
theorem gX7_right_X7_rightResult : GoodIn wsX7_right (wsV RX7 232 RX7 yX7_rightResult wsX7_rightResult) := goodIn_app (goodIn_r _ [106, 107, 108, 5] rfl (by decide +kernel)) ggX7_right_X7_rightResult
theorem dX7_right_0 : decode cX7_right 0 = .ok (.aload_n 0, 1) := by decide +kernel
theorem dX7_right_1 : decode cX7_right 1 = .ok (.getfield 7, 3) := by decide +kernel
theorem dX7_right_4 : decode cX7_right 4 = .ok (.iload_n 1, 1) := by decide +kernel
theorem dX7_right_5 : decode cX7_right 5 = .ok (.iaload, 1) := by decide +kernel
theorem dX7_right_6 : decode cX7_right 6 = .ok (.tableswitch 84 0 6 #[42, 48, 54, 60, 66, 72, 78], 42) := by decide +kernel
theorem dX7_right_48 : decode cX7_right 48 = .ok (.aload_n 0, 1) := by decide +kernel
theorem dX7_right_49 : decode cX7_right 49 = .ok (.iload_n 1, 1) := by decide +kernel
theorem dX7_right_50 : decode cX7_right 50 = .ok (.invokevirtual 211, 3) := by decide +kernel
theorem dX7_right_53 : decode cX7_right 53 = .ok (.ireturn, 1) := by decide +kernel
theorem dX7_right_54 : decode cX7_right 54 = .ok (.aload_n 0, 1) := by decide +kernel
theorem dX7_right_55 : decode cX7_right 55 = .ok (.iload_n 1, 1) := by decide +kernel
theorem dX7_right_56 : decode cX7_right 56 = .ok (.invokevirtual 214, 3) := by decide +kernel
theorem dX7_right_59 : decode cX7_right 59 = .ok (.ireturn, 1) := by decide +kernel
theorem dX7_right_60 : decode cX7_right 60 = .ok (.aload_n 0, 1) := by decide +kernel
theorem dX7_right_61 : decode cX7_right 61 = .ok (.iload_n 1, 1) := by decide +kernel
theorem dX7_right_62 : decode cX7_right 62 = .ok (.invokevirtual 217, 3) := by decide +kernel
theorem dX7_right_65 : decode cX7_right 65 = .ok (.ireturn, 1) := by decide +kernel
theorem dX7_right_66 : decode cX7_right 66 = .ok (.aload_n 0, 1) := by decide +kernel
theorem dX7_right_67 : decode cX7_right 67 = .ok (.iload_n 1, 1) := by decide +kernel
theorem dX7_right_68 : decode cX7_right 68 = .ok (.invokevirtual 220, 3) := by decide +kernel
theorem dX7_right_71 : decode cX7_right 71 = .ok (.ireturn, 1) := by decide +kernel
theorem dX7_right_72 : decode cX7_right 72 = .ok (.aload_n 0, 1) := by decide +kernel
theorem dX7_right_73 : decode cX7_right 73 = .ok (.iload_n 1, 1) := by decide +kernel
theorem dX7_right_74 : decode cX7_right 74 = .ok (.invokevirtual 223, 3) := by decide +kernel
theorem dX7_right_77 : decode cX7_right 77 = .ok (.ireturn, 1) := by decide +kernel
theorem dX7_right_78 : decode cX7_right 78 = .ok (.aload_n 0, 1) := by decide +kernel
theorem dX7_right_79 : decode cX7_right 79 = .ok (.iload_n 1, 1) := by decide +kernel
theorem dX7_right_80 : decode cX7_right 80 = .ok (.invokevirtual 226, 3) := by decide +kernel
theorem dX7_right_83 : decode cX7_right 83 = .ok (.ireturn, 1) := by decide +kernel
theorem dX7_right_84 : decode cX7_right 84 = .ok (.aload_n 0, 1) := by decide +kernel
theorem dX7_right_85 : decode cX7_right 85 = .ok (.iload_n 1, 1) := by decide +kernel
theorem dX7_right_86 : decode cX7_right 86 = .ok (.invokevirtual 229, 3) := by decide +kernel
theorem dX7_right_89 : decode cX7_right 89 = .ok (.ireturn, 1) := by decide +kernel
theorem dX7_right_90 : decode cX7_right 90 = .ok (.aload_n 0, 1) := by decide +kernel
theorem dX7_right_91 : decode cX7_right 91 = .ok (.iload_n 1, 1) := by decide +kernel
theorem dX7_right_92 : decode cX7_right 92 = .ok (.invokevirtual 232, 3) := by decide +kernel
theorem dX7_right_95 : decode cX7_right 95 = .ok (.ireturn, 1) := by decide +kernel
set_option maxRecDepth 20000 in
theorem ggX7_audit_X7_right : GoodIn wsX7_audit wsX7_right := goodIn_r _ [12, 13, 14, 15, 16, 11, 17, 2, 18, 19, 20, 21, 22, 23, 24, 25, 26, 27, 28, 29, 30, 31, 32, 33, 34, 4, 35, 36, 37, 38, 39, 40, 41, 5, 42, 43, 44, 45, 46, 47, 48, 49, 50, 51, 52, 53, 3, 54, 55, 56, 57, 58, 6, 59, 60, 61, 62, 63, 64, 65, 66, 67, 68, 69, 70, 71, 72, 73, 74, 75, 76, 77, 78, 79, 80, 81, 82, 83, 84, 85, 86, 87, 88, 89, 90, 91, 92, 93, 94, 95, 96, 97, 98, 99, 100, 101, 102, 103, 104, 105, 106, 107, 108, 109, 110, 111, 112, 113, 114, 115, 116, 117, 118, 119, 120, 121, 122, 123, 124, 125, 126, 127, 128, 129, 130, 131, 132, 133, 134, 135, 136, 137, 138, 139, 140, 141, 142, 143, 144, 145, 146, 147, 148, 149, 150, 151, 152, 153, 154, 155, 156, 157, 158, 159, 160] rfl (by decide +kernel)
set_option maxRecDepth 20000 in
theorem gX7_audit_X7_right : GoodIn wsX7_audit (wsV RX7 235 RX7 yX7_right wsX7_right) := goodIn_app (goodIn_r _ [8, 9, 10, 11] rfl (by decide +kernel)) ggX7_audit_X7_right
theorem dX7_audit_0 : decode cX7_audit 0 = .ok (.aload_n 0, 1) := by decide +kernel
theorem dX7_audit_1 : decode cX7_audit 1 = .ok (.iconst 0, 1) := by decide +kernel
theorem dX7_audit_2 : decode cX7_audit 2 = .ok (.putfield 99, 3) := by decide +kernel
theorem dX7_audit_5 : decode cX7_audit 5 = .ok (.aload_n 0, 1) := by decide +kernel
theorem dX7_audit_6 : decode cX7_audit 6 = .ok (.iconst 0, 1) := by decide +kernel
theorem dX7_audit_7 : decode cX7_audit 7 = .ok (.putfield 188, 3) := by decide +kernel
theorem dX7_audit_10 : decode cX7_audit 10 = .ok (.aload_n 0, 1) := by decide +kernel
theorem dX7_audit_11 : decode cX7_audit 11 = .ok (.iconst 0, 1) := by decide +kernel
theorem dX7_audit_12 : decode cX7_audit 12 = .ok (.putfield 198, 3) := by decide +kernel
theorem dX7_audit_15 : decode cX7_audit 15 = .ok (.iconst 0, 1) := by decide +kernel
theorem dX7_audit_16 : decode cX7_audit 16 = .ok (.istore_n 1, 1) := by decide +kernel
theorem dX7_audit_17 : decode cX7_audit 17 = .ok (.iload_n 1, 1) := by decide +kernel
theorem dX7_audit_18 : decode cX7_audit 18 = .ok (.bipush 10, 2) := by decide +kernel
theorem dX7_audit_20 : decode cX7_audit 20 = .ok (.if_icmp .ge 23, 3) := by decide +kernel
theorem dX7_audit_23 : decode cX7_audit 23 = .ok (.aload_n 0, 1) := by decide +kernel
theorem dX7_audit_24 : decode cX7_audit 24 = .ok (.getfield 59, 3) := by decide +kernel
theorem dX7_audit_27 : decode cX7_audit 27 = .ok (.iload_n 1, 1) := by decide +kernel
theorem dX7_audit_28 : decode cX7_audit 28 = .ok (.iconst 0, 1) := by decide +kernel
theorem dX7_audit_29 : decode cX7_audit 29 = .ok (.bastore, 1) := by decide +kernel
theorem dX7_audit_30 : decode cX7_audit 30 = .ok (.aload_n 0, 1) := by decide +kernel
theorem dX7_audit_31 : decode cX7_audit 31 = .ok (.getfield 62, 3) := by decide +kernel
theorem dX7_audit_34 : decode cX7_audit 34 = .ok (.iload_n 1, 1) := by decide +kernel
theorem dX7_audit_35 : decode cX7_audit 35 = .ok (.iconst 0, 1) := by decide +kernel
theorem dX7_audit_36 : decode cX7_audit 36 = .ok (.bastore, 1) := by decide +kernel
theorem dX7_audit_37 : decode cX7_audit 37 = .ok (.iinc 1 1, 3) := by decide +kernel
theorem dX7_audit_40 : decode cX7_audit 40 = .ok (.goto (-23), 3) := by decide +kernel
theorem dX7_audit_43 : decode cX7_audit 43 = .ok (.iconst 0, 1) := by decide +kernel
theorem dX7_audit_44 : decode cX7_audit 44 = .ok (.istore_n 1, 1) := by decide +kernel
theorem dX7_audit_45 : decode cX7_audit 45 = .ok (.iload_n 1, 1) := by decide +kernel
theorem dX7_audit_46 : decode cX7_audit 46 = .ok (.iconst 3, 1) := by decide +kernel
theorem dX7_audit_47 : decode cX7_audit 47 = .ok (.if_icmp .ge 16, 3) := by decide +kernel
theorem dX7_audit_50 : decode cX7_audit 50 = .ok (.aload_n 0, 1) := by decide +kernel
theorem dX7_audit_51 : decode cX7_audit 51 = .ok (.getfield 74, 3) := by decide +kernel
theorem dX7_audit_54 : decode cX7_audit 54 = .ok (.iload_n 1, 1) := by decide +kernel
theorem dX7_audit_55 : decode cX7_audit 55 = .ok (.iconst 0, 1) := by decide +kernel
theorem dX7_audit_56 : decode cX7_audit 56 = .ok (.bastore, 1) := by decide +kernel
theorem dX7_audit_57 : decode cX7_audit 57 = .ok (.iinc 1 1, 3) := by decide +kernel
theorem dX7_audit_60 : decode cX7_audit 60 = .ok (.goto (-15), 3) := by decide +kernel
theorem dX7_audit_63 : decode cX7_audit 63 = .ok (.iconst 0, 1) := by decide +kernel
theorem dX7_audit_64 : decode cX7_audit 64 = .ok (.istore_n 1, 1) := by decide +kernel
theorem dX7_audit_65 : decode cX7_audit 65 = .ok (.iload_n 1, 1) := by decide +kernel
theorem dX7_audit_66 : decode cX7_audit 66 = .ok (.aload_n 0, 1) := by decide +kernel
theorem dX7_audit_67 : decode cX7_audit 67 = .ok (.getfield 129, 3) := by decide +kernel
theorem dX7_audit_70 : decode cX7_audit 70 = .ok (.if_icmp .ge 19, 3) := by decide +kernel
theorem dX7_audit_73 : decode cX7_audit 73 = .ok (.aload_n 0, 1) := by decide +kernel
theorem dX7_audit_74 : decode cX7_audit 74 = .ok (.iload_n 1, 1) := by decide +kernel
theorem dX7_audit_75 : decode cX7_audit 75 = .ok (.invokevirtual 235, 3) := by decide +kernel
theorem dX7_audit_78 : decode cX7_audit 78 = .ok (.ifCond .ne 5, 3) := by decide +kernel
theorem dX7_audit_81 : decode cX7_audit 81 = .ok (.iload_n 1, 1) := by decide +kernel
theorem dX7_audit_82 : decode cX7_audit 82 = .ok (.ireturn, 1) := by decide +kernel
theorem dX7_audit_83 : decode cX7_audit 83 = .ok (.iinc 1 1, 3) := by decide +kernel
theorem dX7_audit_86 : decode cX7_audit 86 = .ok (.goto (-21), 3) := by decide +kernel
theorem dX7_audit_89 : decode cX7_audit 89 = .ok (.iconst (-1), 1) := by decide +kernel
theorem dX7_audit_90 : decode cX7_audit 90 = .ok (.ireturn, 1) := by decide +kernel
set_option maxRecDepth 20000 in
theorem ggX7_leafOf_X7_mingle : GoodIn wsX7_leafOf wsX7_mingle := goodIn_r _ [8, 1, 9, 14, 15, 16, 17, 18, 19, 20, 21, 22, 23, 24, 25, 26, 27, 28, 29, 30, 31, 32, 33, 34, 35, 36, 37, 38, 39, 40, 41, 42, 43, 44, 45, 46, 47, 48, 49, 50, 51, 52] rfl (by decide +kernel)
set_option maxRecDepth 20000 in
theorem gX7_leafOf_X7_mingle : GoodIn wsX7_leafOf (wsV RX7 121 RX7 yX7_mingle wsX7_mingle) := goodIn_app (goodIn_r _ [4, 5, 6, 7] rfl (by decide +kernel)) ggX7_leafOf_X7_mingle
set_option maxRecDepth 20000 in
theorem ggX7_leafOf_X7_sealed : GoodIn wsX7_leafOf wsX7_sealed := goodIn_r _ [13, 1, 14, 15, 16, 17, 18, 19, 20, 21, 22, 23, 24, 25, 26, 27, 28, 29, 30, 31, 32, 33, 34, 35, 36, 37, 38, 39, 40, 41, 42, 43, 44, 45, 46, 47, 48, 49, 50, 51, 52] rfl (by decide +kernel)
set_option maxRecDepth 20000 in
theorem gX7_leafOf_X7_sealed : GoodIn wsX7_leafOf (wsV RX7 115 RX7 yX7_sealed wsX7_sealed) := goodIn_app (goodIn_r _ [10, 11, 12, 7] rfl (by decide +kernel)) ggX7_leafOf_X7_sealed
theorem dX7_leafOf_0 : decode cX7_leafOf 0 = .ok (.aload_n 0, 1) := by decide +kernel
theorem dX7_leafOf_1 : decode cX7_leafOf 1 = .ok (.lconst 0, 1) := by decide +kernel
theorem dX7_leafOf_2 : decode cX7_leafOf 2 = .ok (.putfield 109, 3) := by decide +kernel
theorem dX7_leafOf_5 : decode cX7_leafOf 5 = .ok (.aload_n 0, 1) := by decide +kernel
theorem dX7_leafOf_6 : decode cX7_leafOf 6 = .ok (.lconst 0, 1) := by decide +kernel
theorem dX7_leafOf_7 : decode cX7_leafOf 7 = .ok (.invokevirtual 121, 3) := by decide +kernel
theorem dX7_leafOf_10 : decode cX7_leafOf 10 = .ok (.aload_n 0, 1) := by decide +kernel
theorem dX7_leafOf_11 : decode cX7_leafOf 11 = .ok (.aload_n 0, 1) := by decide +kernel
theorem dX7_leafOf_12 : decode cX7_leafOf 12 = .ok (.getfield 7, 3) := by decide +kernel
theorem dX7_leafOf_15 : decode cX7_leafOf 15 = .ok (.iload_n 1, 1) := by decide +kernel
theorem dX7_leafOf_16 : decode cX7_leafOf 16 = .ok (.iaload, 1) := by decide +kernel
theorem dX7_leafOf_17 : decode cX7_leafOf 17 = .ok (.i2l, 1) := by decide +kernel
theorem dX7_leafOf_18 : decode cX7_leafOf 18 = .ok (.invokevirtual 121, 3) := by decide +kernel
theorem dX7_leafOf_21 : decode cX7_leafOf 21 = .ok (.iconst 0, 1) := by decide +kernel
theorem dX7_leafOf_22 : decode cX7_leafOf 22 = .ok (.istore_n 2, 1) := by decide +kernel
theorem dX7_leafOf_23 : decode cX7_leafOf 23 = .ok (.iload_n 2, 1) := by decide +kernel
theorem dX7_leafOf_24 : decode cX7_leafOf 24 = .ok (.bipush 6, 2) := by decide +kernel
theorem dX7_leafOf_26 : decode cX7_leafOf 26 = .ok (.if_icmp .ge 25, 3) := by decide +kernel
theorem dX7_leafOf_29 : decode cX7_leafOf 29 = .ok (.aload_n 0, 1) := by decide +kernel
theorem dX7_leafOf_30 : decode cX7_leafOf 30 = .ok (.aload_n 0, 1) := by decide +kernel
theorem dX7_leafOf_31 : decode cX7_leafOf 31 = .ok (.getfield 13, 3) := by decide +kernel
theorem dX7_leafOf_34 : decode cX7_leafOf 34 = .ok (.bipush 6, 2) := by decide +kernel
theorem dX7_leafOf_36 : decode cX7_leafOf 36 = .ok (.iload_n 1, 1) := by decide +kernel
theorem dX7_leafOf_37 : decode cX7_leafOf 37 = .ok (.imul, 1) := by decide +kernel
theorem dX7_leafOf_38 : decode cX7_leafOf 38 = .ok (.iload_n 2, 1) := by decide +kernel
theorem dX7_leafOf_39 : decode cX7_leafOf 39 = .ok (.iadd, 1) := by decide +kernel
theorem dX7_leafOf_40 : decode cX7_leafOf 40 = .ok (.iaload, 1) := by decide +kernel
theorem dX7_leafOf_41 : decode cX7_leafOf 41 = .ok (.i2l, 1) := by decide +kernel
theorem dX7_leafOf_42 : decode cX7_leafOf 42 = .ok (.invokevirtual 121, 3) := by decide +kernel
theorem dX7_leafOf_45 : decode cX7_leafOf 45 = .ok (.iinc 2 1, 3) := by decide +kernel
theorem dX7_leafOf_48 : decode cX7_leafOf 48 = .ok (.goto (-25), 3) := by decide +kernel
theorem dX7_leafOf_51 : decode cX7_leafOf 51 = .ok (.aload_n 0, 1) := by decide +kernel
theorem dX7_leafOf_52 : decode cX7_leafOf 52 = .ok (.invokevirtual 115, 3) := by decide +kernel
theorem dX7_leafOf_55 : decode cX7_leafOf 55 = .ok (.lreturn, 1) := by decide +kernel
set_option maxRecDepth 20000 in
theorem ggX7_leaf_X7_noRecord : GoodIn wsX7_leaf wsX7_noRecord := goodIn_r _ [6, 7, 24, 25, 26, 27, 28, 29, 30, 31, 32, 33, 34, 35, 36, 37, 38, 39, 40, 41, 42, 43, 44, 45, 46, 47, 48, 49, 50, 51, 52, 53, 54, 55, 56, 57, 58, 59, 60, 61, 62] rfl (by decide +kernel)
set_option maxRecDepth 20000 in
theorem gX7_leaf_X7_noRecord : GoodIn wsX7_leaf (wsV RX7 185 RX7 yX7_noRecord wsX7_noRecord) := goodIn_app (goodIn_r _ [2, 3, 4, 5] rfl (by decide +kernel)) ggX7_leaf_X7_noRecord
set_option maxRecDepth 20000 in
theorem ggX7_leaf_X7_leafOf : GoodIn wsX7_leaf wsX7_leafOf := goodIn_r _ [11, 12, 13, 14, 15, 16, 17, 5, 18, 19, 20, 21, 22, 23, 24, 25, 26, 27, 28, 29, 30, 31, 32, 33, 34, 35, 36, 37, 38, 39, 40, 41, 42, 43, 44, 45, 46, 47, 48, 49, 50, 51, 52, 53, 54, 55, 56, 57, 58, 59, 60, 61, 62] rfl (by decide +kernel)
set_option maxRecDepth 20000 in
theorem gX7_leaf_X7_leafOf : GoodIn wsX7_leaf (wsV RX7 238 RX7 yX7_leafOf wsX7_leafOf) := goodIn_app (goodIn_r _ [8, 9, 10, 5] rfl (by decide +kernel)) ggX7_leaf_X7_leafOf
theorem dX7_leaf_0 : decode cX7_leaf 0 = .ok (.aload_n 0, 1) := by decide +kernel
theorem dX7_leaf_1 : decode cX7_leaf 1 = .ok (.aload_n 0, 1) := by decide +kernel
theorem dX7_leaf_2 : decode cX7_leaf 2 = .ok (.iload_n 1, 1) := by decide +kernel
theorem dX7_leaf_3 : decode cX7_leaf 3 = .ok (.invokevirtual 185, 3) := by decide +kernel
theorem dX7_leaf_6 : decode cX7_leaf 6 = .ok (.ifCond .eq 7, 3) := by decide +kernel
theorem dX7_leaf_9 : decode cX7_leaf 9 = .ok (.iconst 1, 1) := by decide +kernel
theorem dX7_leaf_10 : decode cX7_leaf 10 = .ok (.goto 4, 3) := by decide +kernel
theorem dX7_leaf_13 : decode cX7_leaf 13 = .ok (.iconst 0, 1) := by decide +kernel
theorem dX7_leaf_14 : decode cX7_leaf 14 = .ok (.putfield 99, 3) := by decide +kernel
theorem dX7_leaf_17 : decode cX7_leaf 17 = .ok (.aload_n 0, 1) := by decide +kernel
theorem dX7_leaf_18 : decode cX7_leaf 18 = .ok (.getfield 99, 3) := by decide +kernel
theorem dX7_leaf_21 : decode cX7_leaf 21 = .ok (.ifCond .le 7, 3) := by decide +kernel
theorem dX7_leaf_24 : decode cX7_leaf 24 = .ok (.lconst 0, 1) := by decide +kernel
theorem dX7_leaf_25 : decode cX7_leaf 25 = .ok (.goto 8, 3) := by decide +kernel
theorem dX7_leaf_28 : decode cX7_leaf 28 = .ok (.aload_n 0, 1) := by decide +kernel
theorem dX7_leaf_29 : decode cX7_leaf 29 = .ok (.iload_n 1, 1) := by decide +kernel
theorem dX7_leaf_30 : decode cX7_leaf 30 = .ok (.invokevirtual 238, 3) := by decide +kernel
theorem dX7_leaf_33 : decode cX7_leaf 33 = .ok (.lreturn, 1) := by decide +kernel
set_option maxRecDepth 20000 in
theorem ggX7_headOf_X7_leafOf : GoodIn wsX7_headOf wsX7_leafOf := goodIn_r _ [6, 7, 8, 9, 10, 11, 12, 5, 13, 14, 15, 16, 17, 18, 23, 24, 25, 26, 27, 28, 29, 30, 31, 32, 33, 34, 35, 36, 37, 38, 39, 40, 41, 42, 43, 44, 45, 46, 47, 48, 49, 50, 51, 52, 53, 54, 55, 56, 57, 58, 59, 60, 61] rfl (by decide +kernel)
set_option maxRecDepth 20000 in
theorem gX7_headOf_X7_leafOf : GoodIn wsX7_headOf (wsV RX7 238 RX7 yX7_leafOf wsX7_leafOf) := goodIn_app (goodIn_r _ [2, 3, 4, 5] rfl (by decide +kernel)) ggX7_headOf_X7_leafOf
set_option maxRecDepth 20000 in
theorem ggX7_headOf_X7_joined : GoodIn wsX7_headOf wsX7_joined := goodIn_r _ [22, 7, 10, 11, 12, 5, 13, 14, 15, 16, 17, 18, 23, 24, 25, 26, 27, 28, 29, 30, 31, 32, 33, 34, 35, 36, 37, 38, 39, 40, 41, 42, 43, 44, 45, 46, 47, 48, 49, 50, 51, 52, 53, 54, 55, 56, 57, 58, 59, 60, 61] rfl (by decide +kernel)
set_option maxRecDepth 20000 in
theorem gX7_headOf_X7_joined : GoodIn wsX7_headOf (wsV RX7 242 RX7 yX7_joined wsX7_joined) := goodIn_app (goodIn_r _ [19, 20, 21, 5] rfl (by decide +kernel)) ggX7_headOf_X7_joined
theorem dX7_headOf_0 : decode cX7_headOf 0 = .ok (.iconst 0, 1) := by decide +kernel
theorem dX7_headOf_1 : decode cX7_headOf 1 = .ok (.istore_n 3, 1) := by decide +kernel
theorem dX7_headOf_2 : decode cX7_headOf 2 = .ok (.iload_n 3, 1) := by decide +kernel
theorem dX7_headOf_3 : decode cX7_headOf 3 = .ok (.iload_n 2, 1) := by decide +kernel
theorem dX7_headOf_4 : decode cX7_headOf 4 = .ok (.if_icmp .ge 22, 3) := by decide +kernel
theorem dX7_headOf_7 : decode cX7_headOf 7 = .ok (.aload_n 0, 1) := by decide +kernel
theorem dX7_headOf_8 : decode cX7_headOf 8 = .ok (.getfield 86, 3) := by decide +kernel
theorem dX7_headOf_11 : decode cX7_headOf 11 = .ok (.iload_n 3, 1) := by decide +kernel
theorem dX7_headOf_12 : decode cX7_headOf 12 = .ok (.aload_n 0, 1) := by decide +kernel
theorem dX7_headOf_13 : decode cX7_headOf 13 = .ok (.iload_n 1, 1) := by decide +kernel
theorem dX7_headOf_14 : decode cX7_headOf 14 = .ok (.iload_n 3, 1) := by decide +kernel
theorem dX7_headOf_15 : decode cX7_headOf 15 = .ok (.iadd, 1) := by decide +kernel
theorem dX7_headOf_16 : decode cX7_headOf 16 = .ok (.invokevirtual 238, 3) := by decide +kernel
theorem dX7_headOf_19 : decode cX7_headOf 19 = .ok (.lastore, 1) := by decide +kernel
theorem dX7_headOf_20 : decode cX7_headOf 20 = .ok (.iinc 3 1, 3) := by decide +kernel
theorem dX7_headOf_23 : decode cX7_headOf 23 = .ok (.goto (-21), 3) := by decide +kernel
theorem dX7_headOf_26 : decode cX7_headOf 26 = .ok (.iload_n 2, 1) := by decide +kernel
theorem dX7_headOf_27 : decode cX7_headOf 27 = .ok (.istore_n 3, 1) := by decide +kernel
theorem dX7_headOf_28 : decode cX7_headOf 28 = .ok (.iload_n 3, 1) := by decide +kernel
theorem dX7_headOf_29 : decode cX7_headOf 29 = .ok (.iconst 1, 1) := by decide +kernel
theorem dX7_headOf_30 : decode cX7_headOf 30 = .ok (.if_icmp .le 83, 3) := by decide +kernel
theorem dX7_headOf_33 : decode cX7_headOf 33 = .ok (.iconst 0, 1) := by decide +kernel
theorem dX7_headOf_34 : decode cX7_headOf 34 = .ok (.istore 4, 2) := by decide +kernel
theorem dX7_headOf_36 : decode cX7_headOf 36 = .ok (.iload 4, 2) := by decide +kernel
theorem dX7_headOf_38 : decode cX7_headOf 38 = .ok (.iconst 1, 1) := by decide +kernel
theorem dX7_headOf_39 : decode cX7_headOf 39 = .ok (.iadd, 1) := by decide +kernel
theorem dX7_headOf_40 : decode cX7_headOf 40 = .ok (.iload_n 3, 1) := by decide +kernel
theorem dX7_headOf_41 : decode cX7_headOf 41 = .ok (.if_icmp .ge 38, 3) := by decide +kernel
theorem dX7_headOf_44 : decode cX7_headOf 44 = .ok (.aload_n 0, 1) := by decide +kernel
theorem dX7_headOf_45 : decode cX7_headOf 45 = .ok (.getfield 86, 3) := by decide +kernel
theorem dX7_headOf_48 : decode cX7_headOf 48 = .ok (.iload 4, 2) := by decide +kernel
theorem dX7_headOf_50 : decode cX7_headOf 50 = .ok (.iconst 2, 1) := by decide +kernel
theorem dX7_headOf_51 : decode cX7_headOf 51 = .ok (.idiv, 1) := by decide +kernel
theorem dX7_headOf_52 : decode cX7_headOf 52 = .ok (.aload_n 0, 1) := by decide +kernel
theorem dX7_headOf_53 : decode cX7_headOf 53 = .ok (.aload_n 0, 1) := by decide +kernel
theorem dX7_headOf_54 : decode cX7_headOf 54 = .ok (.getfield 86, 3) := by decide +kernel
theorem dX7_headOf_57 : decode cX7_headOf 57 = .ok (.iload 4, 2) := by decide +kernel
theorem dX7_headOf_59 : decode cX7_headOf 59 = .ok (.laload, 1) := by decide +kernel
theorem dX7_headOf_60 : decode cX7_headOf 60 = .ok (.aload_n 0, 1) := by decide +kernel
theorem dX7_headOf_61 : decode cX7_headOf 61 = .ok (.getfield 86, 3) := by decide +kernel
theorem dX7_headOf_64 : decode cX7_headOf 64 = .ok (.iload 4, 2) := by decide +kernel
theorem dX7_headOf_66 : decode cX7_headOf 66 = .ok (.iconst 1, 1) := by decide +kernel
theorem dX7_headOf_67 : decode cX7_headOf 67 = .ok (.iadd, 1) := by decide +kernel
theorem dX7_headOf_68 : decode cX7_headOf 68 = .ok (.laload, 1) := by decide +kernel
theorem dX7_headOf_69 : decode cX7_headOf 69 = .ok (.invokevirtual 242, 3) := by decide +kernel
theorem dX7_headOf_72 : decode cX7_headOf 72 = .ok (.lastore, 1) := by decide +kernel
theorem dX7_headOf_73 : decode cX7_headOf 73 = .ok (.iinc 4 2, 3) := by decide +kernel
theorem dX7_headOf_76 : decode cX7_headOf 76 = .ok (.goto (-40), 3) := by decide +kernel
theorem dX7_headOf_79 : decode cX7_headOf 79 = .ok (.iload_n 3, 1) := by decide +kernel
theorem dX7_headOf_80 : decode cX7_headOf 80 = .ok (.iconst 2, 1) := by decide +kernel
theorem dX7_headOf_81 : decode cX7_headOf 81 = .ok (.irem, 1) := by decide +kernel
theorem dX7_headOf_82 : decode cX7_headOf 82 = .ok (.iconst 1, 1) := by decide +kernel
theorem dX7_headOf_83 : decode cX7_headOf 83 = .ok (.if_icmp .ne 19, 3) := by decide +kernel
theorem dX7_headOf_86 : decode cX7_headOf 86 = .ok (.aload_n 0, 1) := by decide +kernel
theorem dX7_headOf_87 : decode cX7_headOf 87 = .ok (.getfield 86, 3) := by decide +kernel
theorem dX7_headOf_90 : decode cX7_headOf 90 = .ok (.iload_n 3, 1) := by decide +kernel
theorem dX7_headOf_91 : decode cX7_headOf 91 = .ok (.iconst 2, 1) := by decide +kernel
theorem dX7_headOf_92 : decode cX7_headOf 92 = .ok (.idiv, 1) := by decide +kernel
theorem dX7_headOf_93 : decode cX7_headOf 93 = .ok (.aload_n 0, 1) := by decide +kernel
theorem dX7_headOf_94 : decode cX7_headOf 94 = .ok (.getfield 86, 3) := by decide +kernel
theorem dX7_headOf_97 : decode cX7_headOf 97 = .ok (.iload_n 3, 1) := by decide +kernel
theorem dX7_headOf_98 : decode cX7_headOf 98 = .ok (.iconst 1, 1) := by decide +kernel
theorem dX7_headOf_99 : decode cX7_headOf 99 = .ok (.isub, 1) := by decide +kernel
theorem dX7_headOf_100 : decode cX7_headOf 100 = .ok (.laload, 1) := by decide +kernel
theorem dX7_headOf_101 : decode cX7_headOf 101 = .ok (.lastore, 1) := by decide +kernel
theorem dX7_headOf_102 : decode cX7_headOf 102 = .ok (.iload_n 3, 1) := by decide +kernel
theorem dX7_headOf_103 : decode cX7_headOf 103 = .ok (.iconst 2, 1) := by decide +kernel
theorem dX7_headOf_104 : decode cX7_headOf 104 = .ok (.idiv, 1) := by decide +kernel
theorem dX7_headOf_105 : decode cX7_headOf 105 = .ok (.iload_n 3, 1) := by decide +kernel
theorem dX7_headOf_106 : decode cX7_headOf 106 = .ok (.iconst 2, 1) := by decide +kernel
theorem dX7_headOf_107 : decode cX7_headOf 107 = .ok (.irem, 1) := by decide +kernel
theorem dX7_headOf_108 : decode cX7_headOf 108 = .ok (.iadd, 1) := by decide +kernel
theorem dX7_headOf_109 : decode cX7_headOf 109 = .ok (.istore_n 3, 1) := by decide +kernel
theorem dX7_headOf_110 : decode cX7_headOf 110 = .ok (.goto (-82), 3) := by decide +kernel
theorem dX7_headOf_113 : decode cX7_headOf 113 = .ok (.aload_n 0, 1) := by decide +kernel
theorem dX7_headOf_114 : decode cX7_headOf 114 = .ok (.getfield 86, 3) := by decide +kernel
theorem dX7_headOf_117 : decode cX7_headOf 117 = .ok (.iconst 0, 1) := by decide +kernel
theorem dX7_headOf_118 : decode cX7_headOf 118 = .ok (.laload, 1) := by decide +kernel
theorem dX7_headOf_119 : decode cX7_headOf 119 = .ok (.lreturn, 1) := by decide +kernel
set_option maxRecDepth 20000 in
theorem ggX7_head_X7_headOf : GoodIn wsX7_head wsX7_headOf := goodIn_r _ [7, 8, 9, 10, 11, 6, 12, 13, 14, 15, 16, 17, 18, 19, 20, 21, 22, 23, 24, 25, 26, 27, 28, 29, 30, 31, 32, 33, 34, 35, 36, 37, 38, 39, 40, 41, 42, 43, 44, 45, 46, 47, 48, 49, 50, 51, 52, 53, 54, 55, 56, 57, 58, 59, 60, 61, 62, 63, 64, 65, 66, 67] rfl (by decide +kernel)
set_option maxRecDepth 20000 in
theorem gX7_head_X7_headOf : GoodIn wsX7_head (wsV RX7 246 RX7 yX7_headOf wsX7_headOf) := goodIn_app (goodIn_r _ [3, 4, 5, 6] rfl (by decide +kernel)) ggX7_head_X7_headOf
theorem dX7_head_0 : decode cX7_head 0 = .ok (.aload_n 0, 1) := by decide +kernel
theorem dX7_head_1 : decode cX7_head 1 = .ok (.iload_n 1, 1) := by decide +kernel
theorem dX7_head_2 : decode cX7_head 2 = .ok (.ifCond .lt 11, 3) := by decide +kernel
theorem dX7_head_5 : decode cX7_head 5 = .ok (.iload_n 1, 1) := by decide +kernel
theorem dX7_head_6 : decode cX7_head 6 = .ok (.aload_n 0, 1) := by decide +kernel
theorem dX7_head_7 : decode cX7_head 7 = .ok (.getfield 129, 3) := by decide +kernel
theorem dX7_head_10 : decode cX7_head 10 = .ok (.if_icmp .le 7, 3) := by decide +kernel
theorem dX7_head_13 : decode cX7_head 13 = .ok (.iconst 1, 1) := by decide +kernel
theorem dX7_head_14 : decode cX7_head 14 = .ok (.goto 4, 3) := by decide +kernel
theorem dX7_head_17 : decode cX7_head 17 = .ok (.iconst 0, 1) := by decide +kernel
theorem dX7_head_18 : decode cX7_head 18 = .ok (.putfield 99, 3) := by decide +kernel
theorem dX7_head_21 : decode cX7_head 21 = .ok (.aload_n 0, 1) := by decide +kernel
theorem dX7_head_22 : decode cX7_head 22 = .ok (.getfield 99, 3) := by decide +kernel
theorem dX7_head_25 : decode cX7_head 25 = .ok (.ifCond .gt 7, 3) := by decide +kernel
theorem dX7_head_28 : decode cX7_head 28 = .ok (.iload_n 1, 1) := by decide +kernel
theorem dX7_head_29 : decode cX7_head 29 = .ok (.ifCond .ne 7, 3) := by decide +kernel
theorem dX7_head_32 : decode cX7_head 32 = .ok (.lconst 0, 1) := by decide +kernel
theorem dX7_head_33 : decode cX7_head 33 = .ok (.goto 9, 3) := by decide +kernel
theorem dX7_head_36 : decode cX7_head 36 = .ok (.aload_n 0, 1) := by decide +kernel
theorem dX7_head_37 : decode cX7_head 37 = .ok (.iconst 0, 1) := by decide +kernel
theorem dX7_head_38 : decode cX7_head 38 = .ok (.iload_n 1, 1) := by decide +kernel
theorem dX7_head_39 : decode cX7_head 39 = .ok (.invokevirtual 246, 3) := by decide +kernel
theorem dX7_head_42 : decode cX7_head 42 = .ok (.lreturn, 1) := by decide +kernel
theorem dX7_partOf_0 : decode cX7_partOf 0 = .ok (.iconst 1, 1) := by decide +kernel
theorem dX7_partOf_1 : decode cX7_partOf 1 = .ok (.istore_n 1, 1) := by decide +kernel
theorem dX7_partOf_2 : decode cX7_partOf 2 = .ok (.iload_n 1, 1) := by decide +kernel
theorem dX7_partOf_3 : decode cX7_partOf 3 = .ok (.iload_n 0, 1) := by decide +kernel
theorem dX7_partOf_4 : decode cX7_partOf 4 = .ok (.iload_n 1, 1) := by decide +kernel
theorem dX7_partOf_5 : decode cX7_partOf 5 = .ok (.isub, 1) := by decide +kernel
theorem dX7_partOf_6 : decode cX7_partOf 6 = .ok (.if_icmp .ge 10, 3) := by decide +kernel
theorem dX7_partOf_9 : decode cX7_partOf 9 = .ok (.iload_n 1, 1) := by decide +kernel
theorem dX7_partOf_10 : decode cX7_partOf 10 = .ok (.iconst 2, 1) := by decide +kernel
theorem dX7_partOf_11 : decode cX7_partOf 11 = .ok (.imul, 1) := by decide +kernel
theorem dX7_partOf_12 : decode cX7_partOf 12 = .ok (.istore_n 1, 1) := by decide +kernel
theorem dX7_partOf_13 : decode cX7_partOf 13 = .ok (.goto (-11), 3) := by decide +kernel
theorem dX7_partOf_16 : decode cX7_partOf 16 = .ok (.iload_n 1, 1) := by decide +kernel
theorem dX7_partOf_17 : decode cX7_partOf 17 = .ok (.ireturn, 1) := by decide +kernel
set_option maxRecDepth 20000 in
theorem ggX7_prove_X7_partOf : GoodIn wsX7_prove wsX7_partOf := goodIn_r _ [8] rfl (by decide +kernel)
set_option maxRecDepth 20000 in
theorem gX7_prove_X7_partOf : GoodIn wsX7_prove (va_wsS RX7 250 yX7_partOf wsX7_partOf) := goodIn_app (goodIn_r _ [5, 6, 7] rfl (by decide +kernel)) ggX7_prove_X7_partOf
set_option maxRecDepth 20000 in
theorem ggX7_prove_X7_headOf : GoodIn wsX7_prove wsX7_headOf := goodIn_r _ [12, 13, 14, 15, 16, 7, 17, 18, 19, 20, 21, 22, 23, 24, 25, 26, 27, 28, 29, 30, 31, 32, 33, 39, 40, 41, 42, 43, 44, 45, 46, 47, 48, 49, 50, 51, 52, 53, 54, 55, 56, 57, 58, 59, 60, 61, 62, 63, 64, 65, 66, 67, 68, 69, 70, 71, 72, 73, 74, 75, 76, 77] rfl (by decide +kernel)
set_option maxRecDepth 20000 in
theorem gX7_prove_X7_headOf : GoodIn wsX7_prove (wsV RX7 246 RX7 yX7_headOf wsX7_headOf) := goodIn_app (goodIn_r _ [9, 10, 11, 7] rfl (by decide +kernel)) ggX7_prove_X7_headOf
set_option maxRecDepth 20000 in
theorem ggX7_prove_X7_turnRound : GoodIn wsX7_prove wsX7_turnRound := goodIn_r _ [37, 38, 3, 4, 39, 40, 41, 42, 43, 44, 45, 46, 47, 48, 49, 50, 51, 52, 53, 54, 55, 56, 57, 58, 59, 60, 61, 62, 63, 64, 65, 66, 67, 68, 69, 70, 71, 72, 73, 74, 75, 76, 77] rfl (by decide +kernel)
set_option maxRecDepth 20000 in
theorem gX7_prove_X7_turnRound : GoodIn wsX7_prove (wsV RX7 253 RX7 yX7_turnRound wsX7_turnRound) := goodIn_app (goodIn_r _ [34, 35, 36, 7] rfl (by decide +kernel)) ggX7_prove_X7_turnRound
theorem dX7_prove_0 : decode cX7_prove 0 = .ok (.aload_n 0, 1) := by decide +kernel
theorem dX7_prove_1 : decode cX7_prove 1 = .ok (.iload_n 2, 1) := by decide +kernel
theorem dX7_prove_2 : decode cX7_prove 2 = .ok (.aload_n 0, 1) := by decide +kernel
theorem dX7_prove_3 : decode cX7_prove 3 = .ok (.getfield 129, 3) := by decide +kernel
theorem dX7_prove_6 : decode cX7_prove 6 = .ok (.if_icmp .gt 12, 3) := by decide +kernel
theorem dX7_prove_9 : decode cX7_prove 9 = .ok (.iload_n 1, 1) := by decide +kernel
theorem dX7_prove_10 : decode cX7_prove 10 = .ok (.ifCond .lt 8, 3) := by decide +kernel
theorem dX7_prove_13 : decode cX7_prove 13 = .ok (.iload_n 1, 1) := by decide +kernel
theorem dX7_prove_14 : decode cX7_prove 14 = .ok (.iload_n 2, 1) := by decide +kernel
theorem dX7_prove_15 : decode cX7_prove 15 = .ok (.if_icmp .lt 7, 3) := by decide +kernel
theorem dX7_prove_18 : decode cX7_prove 18 = .ok (.iconst 1, 1) := by decide +kernel
theorem dX7_prove_19 : decode cX7_prove 19 = .ok (.goto 4, 3) := by decide +kernel
theorem dX7_prove_22 : decode cX7_prove 22 = .ok (.iconst 0, 1) := by decide +kernel
theorem dX7_prove_23 : decode cX7_prove 23 = .ok (.putfield 99, 3) := by decide +kernel
theorem dX7_prove_26 : decode cX7_prove 26 = .ok (.aload_n 0, 1) := by decide +kernel
theorem dX7_prove_27 : decode cX7_prove 27 = .ok (.getfield 99, 3) := by decide +kernel
theorem dX7_prove_30 : decode cX7_prove 30 = .ok (.ifCond .le 5, 3) := by decide +kernel
theorem dX7_prove_33 : decode cX7_prove 33 = .ok (.iconst 0, 1) := by decide +kernel
theorem dX7_prove_34 : decode cX7_prove 34 = .ok (.ireturn, 1) := by decide +kernel
theorem dX7_prove_35 : decode cX7_prove 35 = .ok (.iconst 0, 1) := by decide +kernel
theorem dX7_prove_36 : decode cX7_prove 36 = .ok (.istore_n 3, 1) := by decide +kernel
theorem dX7_prove_37 : decode cX7_prove 37 = .ok (.iload_n 2, 1) := by decide +kernel
theorem dX7_prove_38 : decode cX7_prove 38 = .ok (.istore 4, 2) := by decide +kernel
theorem dX7_prove_40 : decode cX7_prove 40 = .ok (.iconst 0, 1) := by decide +kernel
theorem dX7_prove_41 : decode cX7_prove 41 = .ok (.istore 5, 2) := by decide +kernel
theorem dX7_prove_43 : decode cX7_prove 43 = .ok (.iload 4, 2) := by decide +kernel
theorem dX7_prove_45 : decode cX7_prove 45 = .ok (.iconst 1, 1) := by decide +kernel
theorem dX7_prove_46 : decode cX7_prove 46 = .ok (.if_icmp .le 97, 3) := by decide +kernel
theorem dX7_prove_49 : decode cX7_prove 49 = .ok (.iload 4, 2) := by decide +kernel
theorem dX7_prove_51 : decode cX7_prove 51 = .ok (.invokestatic 250, 3) := by decide +kernel
theorem dX7_prove_54 : decode cX7_prove 54 = .ok (.istore 6, 2) := by decide +kernel
theorem dX7_prove_56 : decode cX7_prove 56 = .ok (.iload_n 1, 1) := by decide +kernel
theorem dX7_prove_57 : decode cX7_prove 57 = .ok (.iload_n 3, 1) := by decide +kernel
theorem dX7_prove_58 : decode cX7_prove 58 = .ok (.isub, 1) := by decide +kernel
theorem dX7_prove_59 : decode cX7_prove 59 = .ok (.iload 6, 2) := by decide +kernel
theorem dX7_prove_61 : decode cX7_prove 61 = .ok (.if_icmp .ge 7, 3) := by decide +kernel
theorem dX7_prove_64 : decode cX7_prove 64 = .ok (.iconst 1, 1) := by decide +kernel
theorem dX7_prove_65 : decode cX7_prove 65 = .ok (.goto 4, 3) := by decide +kernel
theorem dX7_prove_68 : decode cX7_prove 68 = .ok (.iconst 0, 1) := by decide +kernel
theorem dX7_prove_69 : decode cX7_prove 69 = .ok (.istore 7, 2) := by decide +kernel
theorem dX7_prove_71 : decode cX7_prove 71 = .ok (.aload_n 0, 1) := by decide +kernel
theorem dX7_prove_72 : decode cX7_prove 72 = .ok (.getfield 93, 3) := by decide +kernel
theorem dX7_prove_75 : decode cX7_prove 75 = .ok (.iload 5, 2) := by decide +kernel
theorem dX7_prove_77 : decode cX7_prove 77 = .ok (.iload 7, 2) := by decide +kernel
theorem dX7_prove_79 : decode cX7_prove 79 = .ok (.ifCond .eq 19, 3) := by decide +kernel
theorem dX7_prove_82 : decode cX7_prove 82 = .ok (.aload_n 0, 1) := by decide +kernel
theorem dX7_prove_83 : decode cX7_prove 83 = .ok (.iload_n 3, 1) := by decide +kernel
theorem dX7_prove_84 : decode cX7_prove 84 = .ok (.iload 6, 2) := by decide +kernel
theorem dX7_prove_86 : decode cX7_prove 86 = .ok (.iadd, 1) := by decide +kernel
theorem dX7_prove_87 : decode cX7_prove 87 = .ok (.iload 4, 2) := by decide +kernel
theorem dX7_prove_89 : decode cX7_prove 89 = .ok (.iload 6, 2) := by decide +kernel
theorem dX7_prove_91 : decode cX7_prove 91 = .ok (.isub, 1) := by decide +kernel
theorem dX7_prove_92 : decode cX7_prove 92 = .ok (.invokevirtual 246, 3) := by decide +kernel
theorem dX7_prove_95 : decode cX7_prove 95 = .ok (.goto 10, 3) := by decide +kernel
theorem dX7_prove_98 : decode cX7_prove 98 = .ok (.aload_n 0, 1) := by decide +kernel
theorem dX7_prove_99 : decode cX7_prove 99 = .ok (.iload_n 3, 1) := by decide +kernel
theorem dX7_prove_100 : decode cX7_prove 100 = .ok (.iload 6, 2) := by decide +kernel
theorem dX7_prove_102 : decode cX7_prove 102 = .ok (.invokevirtual 246, 3) := by decide +kernel
theorem dX7_prove_105 : decode cX7_prove 105 = .ok (.lastore, 1) := by decide +kernel
theorem dX7_prove_106 : decode cX7_prove 106 = .ok (.iinc 5 1, 3) := by decide +kernel
theorem dX7_prove_109 : decode cX7_prove 109 = .ok (.iload 7, 2) := by decide +kernel
theorem dX7_prove_111 : decode cX7_prove 111 = .ok (.ifCond .eq 7, 3) := by decide +kernel
theorem dX7_prove_114 : decode cX7_prove 114 = .ok (.iload_n 3, 1) := by decide +kernel
theorem dX7_prove_115 : decode cX7_prove 115 = .ok (.goto 7, 3) := by decide +kernel
theorem dX7_prove_118 : decode cX7_prove 118 = .ok (.iload_n 3, 1) := by decide +kernel
theorem dX7_prove_119 : decode cX7_prove 119 = .ok (.iload 6, 2) := by decide +kernel
theorem dX7_prove_121 : decode cX7_prove 121 = .ok (.iadd, 1) := by decide +kernel
theorem dX7_prove_122 : decode cX7_prove 122 = .ok (.istore_n 3, 1) := by decide +kernel
theorem dX7_prove_123 : decode cX7_prove 123 = .ok (.iload 7, 2) := by decide +kernel
theorem dX7_prove_125 : decode cX7_prove 125 = .ok (.ifCond .eq 8, 3) := by decide +kernel
theorem dX7_prove_128 : decode cX7_prove 128 = .ok (.iload 6, 2) := by decide +kernel
theorem dX7_prove_130 : decode cX7_prove 130 = .ok (.goto 8, 3) := by decide +kernel
theorem dX7_prove_133 : decode cX7_prove 133 = .ok (.iload 4, 2) := by decide +kernel
theorem dX7_prove_135 : decode cX7_prove 135 = .ok (.iload 6, 2) := by decide +kernel
theorem dX7_prove_137 : decode cX7_prove 137 = .ok (.isub, 1) := by decide +kernel
theorem dX7_prove_138 : decode cX7_prove 138 = .ok (.istore 4, 2) := by decide +kernel
theorem dX7_prove_140 : decode cX7_prove 140 = .ok (.goto (-97), 3) := by decide +kernel
theorem dX7_prove_143 : decode cX7_prove 143 = .ok (.aload_n 0, 1) := by decide +kernel
theorem dX7_prove_144 : decode cX7_prove 144 = .ok (.iload 5, 2) := by decide +kernel
theorem dX7_prove_146 : decode cX7_prove 146 = .ok (.iconst 0, 1) := by decide +kernel
theorem dX7_prove_147 : decode cX7_prove 147 = .ok (.invokevirtual 253, 3) := by decide +kernel
theorem dX7_prove_150 : decode cX7_prove 150 = .ok (.aload_n 0, 1) := by decide +kernel
theorem dX7_prove_151 : decode cX7_prove 151 = .ok (.getfield 257, 3) := by decide +kernel
theorem dX7_prove_154 : decode cX7_prove 154 = .ok (.ireturn, 1) := by decide +kernel
theorem dX7_turnRound_0 : decode cX7_turnRound 0 = .ok (.iconst 0, 1) := by decide +kernel
theorem dX7_turnRound_1 : decode cX7_turnRound 1 = .ok (.istore_n 3, 1) := by decide +kernel
theorem dX7_turnRound_2 : decode cX7_turnRound 2 = .ok (.iload_n 3, 1) := by decide +kernel
theorem dX7_turnRound_3 : decode cX7_turnRound 3 = .ok (.iload_n 1, 1) := by decide +kernel
theorem dX7_turnRound_4 : decode cX7_turnRound 4 = .ok (.if_icmp .ge 27, 3) := by decide +kernel
theorem dX7_turnRound_7 : decode cX7_turnRound 7 = .ok (.aload_n 0, 1) := by decide +kernel
theorem dX7_turnRound_8 : decode cX7_turnRound 8 = .ok (.getfield 90, 3) := by decide +kernel
theorem dX7_turnRound_11 : decode cX7_turnRound 11 = .ok (.iload_n 2, 1) := by decide +kernel
theorem dX7_turnRound_12 : decode cX7_turnRound 12 = .ok (.iload_n 3, 1) := by decide +kernel
theorem dX7_turnRound_13 : decode cX7_turnRound 13 = .ok (.iadd, 1) := by decide +kernel
theorem dX7_turnRound_14 : decode cX7_turnRound 14 = .ok (.aload_n 0, 1) := by decide +kernel
theorem dX7_turnRound_15 : decode cX7_turnRound 15 = .ok (.getfield 93, 3) := by decide +kernel
theorem dX7_turnRound_18 : decode cX7_turnRound 18 = .ok (.iload_n 1, 1) := by decide +kernel
theorem dX7_turnRound_19 : decode cX7_turnRound 19 = .ok (.iconst 1, 1) := by decide +kernel
theorem dX7_turnRound_20 : decode cX7_turnRound 20 = .ok (.isub, 1) := by decide +kernel
theorem dX7_turnRound_21 : decode cX7_turnRound 21 = .ok (.iload_n 3, 1) := by decide +kernel
theorem dX7_turnRound_22 : decode cX7_turnRound 22 = .ok (.isub, 1) := by decide +kernel
theorem dX7_turnRound_23 : decode cX7_turnRound 23 = .ok (.laload, 1) := by decide +kernel
theorem dX7_turnRound_24 : decode cX7_turnRound 24 = .ok (.lastore, 1) := by decide +kernel
theorem dX7_turnRound_25 : decode cX7_turnRound 25 = .ok (.iinc 3 1, 3) := by decide +kernel
theorem dX7_turnRound_28 : decode cX7_turnRound 28 = .ok (.goto (-26), 3) := by decide +kernel
theorem dX7_turnRound_31 : decode cX7_turnRound 31 = .ok (.aload_n 0, 1) := by decide +kernel
theorem dX7_turnRound_32 : decode cX7_turnRound 32 = .ok (.iload_n 2, 1) := by decide +kernel
theorem dX7_turnRound_33 : decode cX7_turnRound 33 = .ok (.iload_n 1, 1) := by decide +kernel
theorem dX7_turnRound_34 : decode cX7_turnRound 34 = .ok (.iadd, 1) := by decide +kernel
theorem dX7_turnRound_35 : decode cX7_turnRound 35 = .ok (.putfield 257, 3) := by decide +kernel
theorem dX7_turnRound_38 : decode cX7_turnRound 38 = .ok (.return_, 1) := by decide +kernel
set_option maxRecDepth 20000 in
theorem ggX7_relate_X7_partOf : GoodIn wsX7_relate wsX7_partOf := goodIn_r _ [9] rfl (by decide +kernel)
set_option maxRecDepth 20000 in
theorem gX7_relate_X7_partOf : GoodIn wsX7_relate (va_wsS RX7 250 yX7_partOf wsX7_partOf) := goodIn_app (goodIn_r _ [6, 7, 8] rfl (by decide +kernel)) ggX7_relate_X7_partOf
set_option maxRecDepth 20000 in
theorem ggX7_relate_X7_headOf : GoodIn wsX7_relate wsX7_headOf := goodIn_r _ [13, 14, 15, 16, 17, 8, 18, 19, 20, 21, 22, 23, 24, 25, 26, 27, 28, 29, 30, 31, 32, 33, 34, 39, 40, 41, 42, 43, 44, 45, 46, 47, 48, 49, 50, 51, 52, 53, 54, 55, 56, 57, 58, 59, 60, 61, 62, 63, 64, 65, 66, 67, 68, 69, 70, 71, 72, 73, 74, 75, 76, 77] rfl (by decide +kernel)
set_option maxRecDepth 20000 in
theorem gX7_relate_X7_headOf : GoodIn wsX7_relate (wsV RX7 246 RX7 yX7_headOf wsX7_headOf) := goodIn_app (goodIn_r _ [10, 11, 12, 8] rfl (by decide +kernel)) ggX7_relate_X7_headOf
set_option maxRecDepth 20000 in
theorem ggX7_relate_X7_turnRound : GoodIn wsX7_relate wsX7_turnRound := goodIn_r _ [38, 4, 3, 5, 39, 40, 41, 42, 43, 44, 45, 46, 47, 48, 49, 50, 51, 52, 53, 54, 55, 56, 57, 58, 59, 60, 61, 62, 63, 64, 65, 66, 67, 68, 69, 70, 71, 72, 73, 74, 75, 76, 77] rfl (by decide +kernel)
set_option maxRecDepth 20000 in
theorem gX7_relate_X7_turnRound : GoodIn wsX7_relate (wsV RX7 253 RX7 yX7_turnRound wsX7_turnRound) := goodIn_app (goodIn_r _ [35, 36, 37, 8] rfl (by decide +kernel)) ggX7_relate_X7_turnRound
theorem dX7_relate_0 : decode cX7_relate 0 = .ok (.aload_n 0, 1) := by decide +kernel
theorem dX7_relate_1 : decode cX7_relate 1 = .ok (.iload_n 2, 1) := by decide +kernel
theorem dX7_relate_2 : decode cX7_relate 2 = .ok (.aload_n 0, 1) := by decide +kernel
theorem dX7_relate_3 : decode cX7_relate 3 = .ok (.getfield 129, 3) := by decide +kernel
theorem dX7_relate_6 : decode cX7_relate 6 = .ok (.if_icmp .gt 13, 3) := by decide +kernel
theorem dX7_relate_9 : decode cX7_relate 9 = .ok (.iload_n 1, 1) := by decide +kernel
theorem dX7_relate_10 : decode cX7_relate 10 = .ok (.iconst 1, 1) := by decide +kernel
theorem dX7_relate_11 : decode cX7_relate 11 = .ok (.if_icmp .lt 8, 3) := by decide +kernel
theorem dX7_relate_14 : decode cX7_relate 14 = .ok (.iload_n 1, 1) := by decide +kernel
theorem dX7_relate_15 : decode cX7_relate 15 = .ok (.iload_n 2, 1) := by decide +kernel
theorem dX7_relate_16 : decode cX7_relate 16 = .ok (.if_icmp .le 7, 3) := by decide +kernel
theorem dX7_relate_19 : decode cX7_relate 19 = .ok (.iconst 1, 1) := by decide +kernel
theorem dX7_relate_20 : decode cX7_relate 20 = .ok (.goto 4, 3) := by decide +kernel
theorem dX7_relate_23 : decode cX7_relate 23 = .ok (.iconst 0, 1) := by decide +kernel
theorem dX7_relate_24 : decode cX7_relate 24 = .ok (.putfield 99, 3) := by decide +kernel
theorem dX7_relate_27 : decode cX7_relate 27 = .ok (.aload_n 0, 1) := by decide +kernel
theorem dX7_relate_28 : decode cX7_relate 28 = .ok (.getfield 99, 3) := by decide +kernel
theorem dX7_relate_31 : decode cX7_relate 31 = .ok (.ifCond .le 5, 3) := by decide +kernel
theorem dX7_relate_34 : decode cX7_relate 34 = .ok (.iconst 0, 1) := by decide +kernel
theorem dX7_relate_35 : decode cX7_relate 35 = .ok (.ireturn, 1) := by decide +kernel
theorem dX7_relate_36 : decode cX7_relate 36 = .ok (.iconst 0, 1) := by decide +kernel
theorem dX7_relate_37 : decode cX7_relate 37 = .ok (.istore_n 3, 1) := by decide +kernel
theorem dX7_relate_38 : decode cX7_relate 38 = .ok (.iload_n 2, 1) := by decide +kernel
theorem dX7_relate_39 : decode cX7_relate 39 = .ok (.istore 4, 2) := by decide +kernel
theorem dX7_relate_41 : decode cX7_relate 41 = .ok (.iload_n 1, 1) := by decide +kernel
theorem dX7_relate_42 : decode cX7_relate 42 = .ok (.istore 5, 2) := by decide +kernel
theorem dX7_relate_44 : decode cX7_relate 44 = .ok (.iconst 1, 1) := by decide +kernel
theorem dX7_relate_45 : decode cX7_relate 45 = .ok (.istore 6, 2) := by decide +kernel
theorem dX7_relate_47 : decode cX7_relate 47 = .ok (.iconst 0, 1) := by decide +kernel
theorem dX7_relate_48 : decode cX7_relate 48 = .ok (.istore 7, 2) := by decide +kernel
theorem dX7_relate_50 : decode cX7_relate 50 = .ok (.iload 5, 2) := by decide +kernel
theorem dX7_relate_52 : decode cX7_relate 52 = .ok (.iload 4, 2) := by decide +kernel
theorem dX7_relate_54 : decode cX7_relate 54 = .ok (.if_icmp .eq 130, 3) := by decide +kernel
theorem dX7_relate_57 : decode cX7_relate 57 = .ok (.iload 4, 2) := by decide +kernel
theorem dX7_relate_59 : decode cX7_relate 59 = .ok (.invokestatic 250, 3) := by decide +kernel
theorem dX7_relate_62 : decode cX7_relate 62 = .ok (.istore 8, 2) := by decide +kernel
theorem dX7_relate_64 : decode cX7_relate 64 = .ok (.iload 5, 2) := by decide +kernel
theorem dX7_relate_66 : decode cX7_relate 66 = .ok (.iload 8, 2) := by decide +kernel
theorem dX7_relate_68 : decode cX7_relate 68 = .ok (.if_icmp .gt 7, 3) := by decide +kernel
theorem dX7_relate_71 : decode cX7_relate 71 = .ok (.iconst 1, 1) := by decide +kernel
theorem dX7_relate_72 : decode cX7_relate 72 = .ok (.goto 4, 3) := by decide +kernel
theorem dX7_relate_75 : decode cX7_relate 75 = .ok (.iconst 0, 1) := by decide +kernel
theorem dX7_relate_76 : decode cX7_relate 76 = .ok (.istore 9, 2) := by decide +kernel
theorem dX7_relate_78 : decode cX7_relate 78 = .ok (.aload_n 0, 1) := by decide +kernel
theorem dX7_relate_79 : decode cX7_relate 79 = .ok (.getfield 93, 3) := by decide +kernel
theorem dX7_relate_82 : decode cX7_relate 82 = .ok (.iload 7, 2) := by decide +kernel
theorem dX7_relate_84 : decode cX7_relate 84 = .ok (.iload 9, 2) := by decide +kernel
theorem dX7_relate_86 : decode cX7_relate 86 = .ok (.ifCond .eq 19, 3) := by decide +kernel
theorem dX7_relate_89 : decode cX7_relate 89 = .ok (.aload_n 0, 1) := by decide +kernel
theorem dX7_relate_90 : decode cX7_relate 90 = .ok (.iload_n 3, 1) := by decide +kernel
theorem dX7_relate_91 : decode cX7_relate 91 = .ok (.iload 8, 2) := by decide +kernel
theorem dX7_relate_93 : decode cX7_relate 93 = .ok (.iadd, 1) := by decide +kernel
theorem dX7_relate_94 : decode cX7_relate 94 = .ok (.iload 4, 2) := by decide +kernel
theorem dX7_relate_96 : decode cX7_relate 96 = .ok (.iload 8, 2) := by decide +kernel
theorem dX7_relate_98 : decode cX7_relate 98 = .ok (.isub, 1) := by decide +kernel
theorem dX7_relate_99 : decode cX7_relate 99 = .ok (.invokevirtual 246, 3) := by decide +kernel
theorem dX7_relate_102 : decode cX7_relate 102 = .ok (.goto 10, 3) := by decide +kernel
theorem dX7_relate_105 : decode cX7_relate 105 = .ok (.aload_n 0, 1) := by decide +kernel
theorem dX7_relate_106 : decode cX7_relate 106 = .ok (.iload_n 3, 1) := by decide +kernel
theorem dX7_relate_107 : decode cX7_relate 107 = .ok (.iload 8, 2) := by decide +kernel
theorem dX7_relate_109 : decode cX7_relate 109 = .ok (.invokevirtual 246, 3) := by decide +kernel
theorem dX7_relate_112 : decode cX7_relate 112 = .ok (.lastore, 1) := by decide +kernel
theorem dX7_relate_113 : decode cX7_relate 113 = .ok (.iinc 7 1, 3) := by decide +kernel
theorem dX7_relate_116 : decode cX7_relate 116 = .ok (.iload 6, 2) := by decide +kernel
theorem dX7_relate_118 : decode cX7_relate 118 = .ok (.ifCond .eq 12, 3) := by decide +kernel
theorem dX7_relate_121 : decode cX7_relate 121 = .ok (.iload 9, 2) := by decide +kernel
theorem dX7_relate_123 : decode cX7_relate 123 = .ok (.ifCond .eq 7, 3) := by decide +kernel
theorem dX7_relate_126 : decode cX7_relate 126 = .ok (.iconst 1, 1) := by decide +kernel
theorem dX7_relate_127 : decode cX7_relate 127 = .ok (.goto 4, 3) := by decide +kernel
theorem dX7_relate_130 : decode cX7_relate 130 = .ok (.iconst 0, 1) := by decide +kernel
theorem dX7_relate_131 : decode cX7_relate 131 = .ok (.istore 6, 2) := by decide +kernel
theorem dX7_relate_133 : decode cX7_relate 133 = .ok (.iload 9, 2) := by decide +kernel
theorem dX7_relate_135 : decode cX7_relate 135 = .ok (.ifCond .eq 7, 3) := by decide +kernel
theorem dX7_relate_138 : decode cX7_relate 138 = .ok (.iload_n 3, 1) := by decide +kernel
theorem dX7_relate_139 : decode cX7_relate 139 = .ok (.goto 7, 3) := by decide +kernel
theorem dX7_relate_142 : decode cX7_relate 142 = .ok (.iload_n 3, 1) := by decide +kernel
theorem dX7_relate_143 : decode cX7_relate 143 = .ok (.iload 8, 2) := by decide +kernel
theorem dX7_relate_145 : decode cX7_relate 145 = .ok (.iadd, 1) := by decide +kernel
theorem dX7_relate_146 : decode cX7_relate 146 = .ok (.istore_n 3, 1) := by decide +kernel
theorem dX7_relate_147 : decode cX7_relate 147 = .ok (.iload 9, 2) := by decide +kernel
theorem dX7_relate_149 : decode cX7_relate 149 = .ok (.ifCond .eq 8, 3) := by decide +kernel
theorem dX7_relate_152 : decode cX7_relate 152 = .ok (.iload 5, 2) := by decide +kernel
theorem dX7_relate_154 : decode cX7_relate 154 = .ok (.goto 8, 3) := by decide +kernel
theorem dX7_relate_157 : decode cX7_relate 157 = .ok (.iload 5, 2) := by decide +kernel
theorem dX7_relate_159 : decode cX7_relate 159 = .ok (.iload 8, 2) := by decide +kernel
theorem dX7_relate_161 : decode cX7_relate 161 = .ok (.isub, 1) := by decide +kernel
theorem dX7_relate_162 : decode cX7_relate 162 = .ok (.istore 5, 2) := by decide +kernel
theorem dX7_relate_164 : decode cX7_relate 164 = .ok (.iload 9, 2) := by decide +kernel
theorem dX7_relate_166 : decode cX7_relate 166 = .ok (.ifCond .eq 8, 3) := by decide +kernel
theorem dX7_relate_169 : decode cX7_relate 169 = .ok (.iload 8, 2) := by decide +kernel
theorem dX7_relate_171 : decode cX7_relate 171 = .ok (.goto 8, 3) := by decide +kernel
theorem dX7_relate_174 : decode cX7_relate 174 = .ok (.iload 4, 2) := by decide +kernel
theorem dX7_relate_176 : decode cX7_relate 176 = .ok (.iload 8, 2) := by decide +kernel
theorem dX7_relate_178 : decode cX7_relate 178 = .ok (.isub, 1) := by decide +kernel
theorem dX7_relate_179 : decode cX7_relate 179 = .ok (.istore 4, 2) := by decide +kernel
theorem dX7_relate_181 : decode cX7_relate 181 = .ok (.goto (-131), 3) := by decide +kernel
theorem dX7_relate_184 : decode cX7_relate 184 = .ok (.iload 6, 2) := by decide +kernel
theorem dX7_relate_186 : decode cX7_relate 186 = .ok (.ifCond .ne 16, 3) := by decide +kernel
theorem dX7_relate_189 : decode cX7_relate 189 = .ok (.aload_n 0, 1) := by decide +kernel
theorem dX7_relate_190 : decode cX7_relate 190 = .ok (.getfield 90, 3) := by decide +kernel
theorem dX7_relate_193 : decode cX7_relate 193 = .ok (.iconst 0, 1) := by decide +kernel
theorem dX7_relate_194 : decode cX7_relate 194 = .ok (.aload_n 0, 1) := by decide +kernel
theorem dX7_relate_195 : decode cX7_relate 195 = .ok (.iload_n 3, 1) := by decide +kernel
theorem dX7_relate_196 : decode cX7_relate 196 = .ok (.iload 4, 2) := by decide +kernel
theorem dX7_relate_198 : decode cX7_relate 198 = .ok (.invokevirtual 246, 3) := by decide +kernel
theorem dX7_relate_201 : decode cX7_relate 201 = .ok (.lastore, 1) := by decide +kernel
theorem dX7_relate_202 : decode cX7_relate 202 = .ok (.aload_n 0, 1) := by decide +kernel
theorem dX7_relate_203 : decode cX7_relate 203 = .ok (.iload 7, 2) := by decide +kernel
theorem dX7_relate_205 : decode cX7_relate 205 = .ok (.iload 6, 2) := by decide +kernel
theorem dX7_relate_207 : decode cX7_relate 207 = .ok (.ifCond .eq 7, 3) := by decide +kernel
theorem dX7_relate_210 : decode cX7_relate 210 = .ok (.iconst 0, 1) := by decide +kernel
theorem dX7_relate_211 : decode cX7_relate 211 = .ok (.goto 4, 3) := by decide +kernel
theorem dX7_relate_214 : decode cX7_relate 214 = .ok (.iconst 1, 1) := by decide +kernel
theorem dX7_relate_215 : decode cX7_relate 215 = .ok (.invokevirtual 253, 3) := by decide +kernel
theorem dX7_relate_218 : decode cX7_relate 218 = .ok (.aload_n 0, 1) := by decide +kernel
theorem dX7_relate_219 : decode cX7_relate 219 = .ok (.getfield 257, 3) := by decide +kernel
theorem dX7_relate_222 : decode cX7_relate 222 = .ok (.ireturn, 1) := by decide +kernel
theorem dX7_proof_0 : decode cX7_proof 0 = .ok (.aload_n 0, 1) := by decide +kernel
theorem dX7_proof_1 : decode cX7_proof 1 = .ok (.iload_n 1, 1) := by decide +kernel
theorem dX7_proof_2 : decode cX7_proof 2 = .ok (.ifCond .lt 11, 3) := by decide +kernel
theorem dX7_proof_5 : decode cX7_proof 5 = .ok (.iload_n 1, 1) := by decide +kernel
theorem dX7_proof_6 : decode cX7_proof 6 = .ok (.aload_n 0, 1) := by decide +kernel
theorem dX7_proof_7 : decode cX7_proof 7 = .ok (.getfield 257, 3) := by decide +kernel
theorem dX7_proof_10 : decode cX7_proof 10 = .ok (.if_icmp .lt 7, 3) := by decide +kernel
theorem dX7_proof_13 : decode cX7_proof 13 = .ok (.iconst 1, 1) := by decide +kernel
theorem dX7_proof_14 : decode cX7_proof 14 = .ok (.goto 4, 3) := by decide +kernel
theorem dX7_proof_17 : decode cX7_proof 17 = .ok (.iconst 0, 1) := by decide +kernel
theorem dX7_proof_18 : decode cX7_proof 18 = .ok (.putfield 99, 3) := by decide +kernel
theorem dX7_proof_21 : decode cX7_proof 21 = .ok (.aload_n 0, 1) := by decide +kernel
theorem dX7_proof_22 : decode cX7_proof 22 = .ok (.getfield 99, 3) := by decide +kernel
theorem dX7_proof_25 : decode cX7_proof 25 = .ok (.ifCond .le 7, 3) := by decide +kernel
theorem dX7_proof_28 : decode cX7_proof 28 = .ok (.lconst 0, 1) := by decide +kernel
theorem dX7_proof_29 : decode cX7_proof 29 = .ok (.goto 9, 3) := by decide +kernel
theorem dX7_proof_32 : decode cX7_proof 32 = .ok (.aload_n 0, 1) := by decide +kernel
theorem dX7_proof_33 : decode cX7_proof 33 = .ok (.getfield 90, 3) := by decide +kernel
theorem dX7_proof_36 : decode cX7_proof 36 = .ok (.iload_n 1, 1) := by decide +kernel
theorem dX7_proof_37 : decode cX7_proof 37 = .ok (.laload, 1) := by decide +kernel
theorem dX7_proof_38 : decode cX7_proof 38 = .ok (.lreturn, 1) := by decide +kernel
set_option maxRecDepth 20000 in
theorem ggX7_shows_X7_joined : GoodIn wsX7_shows wsX7_joined := goodIn_r _ [8, 9, 10, 11, 12, 7, 13, 14, 15, 16, 17, 18, 19, 20, 21, 22, 23, 24, 25, 26, 27, 28, 29, 30, 31, 32, 33, 34, 35, 36, 37, 38, 39, 40, 41, 42, 43, 44, 45, 46, 47, 48, 49, 50, 51, 52, 53, 54, 55, 56, 57] rfl (by decide +kernel)
set_option maxRecDepth 20000 in
theorem gX7_shows_X7_joined : GoodIn wsX7_shows (wsV RX7 242 RX7 yX7_joined wsX7_joined) := goodIn_app (goodIn_r _ [4, 5, 6, 7] rfl (by decide +kernel)) ggX7_shows_X7_joined
theorem dX7_shows_0 : decode cX7_shows 0 = .ok (.aload_n 0, 1) := by decide +kernel
theorem dX7_shows_1 : decode cX7_shows 1 = .ok (.iconst 0, 1) := by decide +kernel
theorem dX7_shows_2 : decode cX7_shows 2 = .ok (.putfield 99, 3) := by decide +kernel
theorem dX7_shows_5 : decode cX7_shows 5 = .ok (.iload_n 1, 1) := by decide +kernel
theorem dX7_shows_6 : decode cX7_shows 6 = .ok (.ifCond .lt 8, 3) := by decide +kernel
theorem dX7_shows_9 : decode cX7_shows 9 = .ok (.iload_n 1, 1) := by decide +kernel
theorem dX7_shows_10 : decode cX7_shows 10 = .ok (.iload_n 2, 1) := by decide +kernel
theorem dX7_shows_11 : decode cX7_shows 11 = .ok (.if_icmp .lt 5, 3) := by decide +kernel
theorem dX7_shows_14 : decode cX7_shows 14 = .ok (.iconst 0, 1) := by decide +kernel
theorem dX7_shows_15 : decode cX7_shows 15 = .ok (.ireturn, 1) := by decide +kernel
theorem dX7_shows_16 : decode cX7_shows 16 = .ok (.iload_n 1, 1) := by decide +kernel
theorem dX7_shows_17 : decode cX7_shows 17 = .ok (.istore 7, 2) := by decide +kernel
theorem dX7_shows_19 : decode cX7_shows 19 = .ok (.iload_n 2, 1) := by decide +kernel
theorem dX7_shows_20 : decode cX7_shows 20 = .ok (.istore 8, 2) := by decide +kernel
theorem dX7_shows_22 : decode cX7_shows 22 = .ok (.iconst 0, 1) := by decide +kernel
theorem dX7_shows_23 : decode cX7_shows 23 = .ok (.istore 9, 2) := by decide +kernel
theorem dX7_shows_25 : decode cX7_shows 25 = .ok (.lload_n 3, 1) := by decide +kernel
theorem dX7_shows_26 : decode cX7_shows 26 = .ok (.lstore 10, 2) := by decide +kernel
theorem dX7_shows_28 : decode cX7_shows 28 = .ok (.iload 8, 2) := by decide +kernel
theorem dX7_shows_30 : decode cX7_shows 30 = .ok (.iconst 1, 1) := by decide +kernel
theorem dX7_shows_31 : decode cX7_shows 31 = .ok (.if_icmp .le 104, 3) := by decide +kernel
theorem dX7_shows_34 : decode cX7_shows 34 = .ok (.iload 7, 2) := by decide +kernel
theorem dX7_shows_36 : decode cX7_shows 36 = .ok (.iconst 2, 1) := by decide +kernel
theorem dX7_shows_37 : decode cX7_shows 37 = .ok (.irem, 1) := by decide +kernel
theorem dX7_shows_38 : decode cX7_shows 38 = .ok (.ifCond .ne 16, 3) := by decide +kernel
theorem dX7_shows_41 : decode cX7_shows 41 = .ok (.iload 7, 2) := by decide +kernel
theorem dX7_shows_43 : decode cX7_shows 43 = .ok (.iload 8, 2) := by decide +kernel
theorem dX7_shows_45 : decode cX7_shows 45 = .ok (.iconst 1, 1) := by decide +kernel
theorem dX7_shows_46 : decode cX7_shows 46 = .ok (.isub, 1) := by decide +kernel
theorem dX7_shows_47 : decode cX7_shows 47 = .ok (.if_icmp .ne 7, 3) := by decide +kernel
theorem dX7_shows_50 : decode cX7_shows 50 = .ok (.iconst 1, 1) := by decide +kernel
theorem dX7_shows_51 : decode cX7_shows 51 = .ok (.goto 4, 3) := by decide +kernel
theorem dX7_shows_54 : decode cX7_shows 54 = .ok (.iconst 0, 1) := by decide +kernel
theorem dX7_shows_55 : decode cX7_shows 55 = .ok (.istore 12, 2) := by decide +kernel
theorem dX7_shows_57 : decode cX7_shows 57 = .ok (.iload 12, 2) := by decide +kernel
theorem dX7_shows_59 : decode cX7_shows 59 = .ok (.ifCond .ne 56, 3) := by decide +kernel
theorem dX7_shows_62 : decode cX7_shows 62 = .ok (.iload 9, 2) := by decide +kernel
theorem dX7_shows_64 : decode cX7_shows 64 = .ok (.aload_n 0, 1) := by decide +kernel
theorem dX7_shows_65 : decode cX7_shows 65 = .ok (.getfield 257, 3) := by decide +kernel
theorem dX7_shows_68 : decode cX7_shows 68 = .ok (.if_icmp .ne 5, 3) := by decide +kernel
theorem dX7_shows_71 : decode cX7_shows 71 = .ok (.iconst 0, 1) := by decide +kernel
theorem dX7_shows_72 : decode cX7_shows 72 = .ok (.ireturn, 1) := by decide +kernel
theorem dX7_shows_73 : decode cX7_shows 73 = .ok (.iload 7, 2) := by decide +kernel
theorem dX7_shows_75 : decode cX7_shows 75 = .ok (.iconst 2, 1) := by decide +kernel
theorem dX7_shows_76 : decode cX7_shows 76 = .ok (.irem, 1) := by decide +kernel
theorem dX7_shows_77 : decode cX7_shows 77 = .ok (.iconst 1, 1) := by decide +kernel
theorem dX7_shows_78 : decode cX7_shows 78 = .ok (.if_icmp .ne 19, 3) := by decide +kernel
theorem dX7_shows_81 : decode cX7_shows 81 = .ok (.aload_n 0, 1) := by decide +kernel
theorem dX7_shows_82 : decode cX7_shows 82 = .ok (.aload_n 0, 1) := by decide +kernel
theorem dX7_shows_83 : decode cX7_shows 83 = .ok (.getfield 90, 3) := by decide +kernel
theorem dX7_shows_86 : decode cX7_shows 86 = .ok (.iload 9, 2) := by decide +kernel
theorem dX7_shows_88 : decode cX7_shows 88 = .ok (.laload, 1) := by decide +kernel
theorem dX7_shows_89 : decode cX7_shows 89 = .ok (.lload 10, 2) := by decide +kernel
theorem dX7_shows_91 : decode cX7_shows 91 = .ok (.invokevirtual 242, 3) := by decide +kernel
theorem dX7_shows_94 : decode cX7_shows 94 = .ok (.goto 16, 3) := by decide +kernel
theorem dX7_shows_97 : decode cX7_shows 97 = .ok (.aload_n 0, 1) := by decide +kernel
theorem dX7_shows_98 : decode cX7_shows 98 = .ok (.lload 10, 2) := by decide +kernel
theorem dX7_shows_100 : decode cX7_shows 100 = .ok (.aload_n 0, 1) := by decide +kernel
theorem dX7_shows_101 : decode cX7_shows 101 = .ok (.getfield 90, 3) := by decide +kernel
theorem dX7_shows_104 : decode cX7_shows 104 = .ok (.iload 9, 2) := by decide +kernel
theorem dX7_shows_106 : decode cX7_shows 106 = .ok (.laload, 1) := by decide +kernel
theorem dX7_shows_107 : decode cX7_shows 107 = .ok (.invokevirtual 242, 3) := by decide +kernel
theorem dX7_shows_110 : decode cX7_shows 110 = .ok (.lstore 10, 2) := by decide +kernel
theorem dX7_shows_112 : decode cX7_shows 112 = .ok (.iinc 9 1, 3) := by decide +kernel
theorem dX7_shows_115 : decode cX7_shows 115 = .ok (.iload 7, 2) := by decide +kernel
theorem dX7_shows_117 : decode cX7_shows 117 = .ok (.iconst 2, 1) := by decide +kernel
theorem dX7_shows_118 : decode cX7_shows 118 = .ok (.idiv, 1) := by decide +kernel
theorem dX7_shows_119 : decode cX7_shows 119 = .ok (.istore 7, 2) := by decide +kernel
theorem dX7_shows_121 : decode cX7_shows 121 = .ok (.iload 8, 2) := by decide +kernel
theorem dX7_shows_123 : decode cX7_shows 123 = .ok (.iconst 2, 1) := by decide +kernel
theorem dX7_shows_124 : decode cX7_shows 124 = .ok (.idiv, 1) := by decide +kernel
theorem dX7_shows_125 : decode cX7_shows 125 = .ok (.iload 8, 2) := by decide +kernel
theorem dX7_shows_127 : decode cX7_shows 127 = .ok (.iconst 2, 1) := by decide +kernel
theorem dX7_shows_128 : decode cX7_shows 128 = .ok (.irem, 1) := by decide +kernel
theorem dX7_shows_129 : decode cX7_shows 129 = .ok (.iadd, 1) := by decide +kernel
theorem dX7_shows_130 : decode cX7_shows 130 = .ok (.istore 8, 2) := by decide +kernel
theorem dX7_shows_132 : decode cX7_shows 132 = .ok (.goto (-104), 3) := by decide +kernel
theorem dX7_shows_135 : decode cX7_shows 135 = .ok (.iload 9, 2) := by decide +kernel
theorem dX7_shows_137 : decode cX7_shows 137 = .ok (.aload_n 0, 1) := by decide +kernel
theorem dX7_shows_138 : decode cX7_shows 138 = .ok (.getfield 257, 3) := by decide +kernel
theorem dX7_shows_141 : decode cX7_shows 141 = .ok (.if_icmp .ne 15, 3) := by decide +kernel
theorem dX7_shows_144 : decode cX7_shows 144 = .ok (.lload 10, 2) := by decide +kernel
theorem dX7_shows_146 : decode cX7_shows 146 = .ok (.lload 5, 2) := by decide +kernel
theorem dX7_shows_148 : decode cX7_shows 148 = .ok (.lcmp, 1) := by decide +kernel
theorem dX7_shows_149 : decode cX7_shows 149 = .ok (.ifCond .ne 7, 3) := by decide +kernel
theorem dX7_shows_152 : decode cX7_shows 152 = .ok (.iconst 1, 1) := by decide +kernel
theorem dX7_shows_153 : decode cX7_shows 153 = .ok (.goto 4, 3) := by decide +kernel
theorem dX7_shows_156 : decode cX7_shows 156 = .ok (.iconst 0, 1) := by decide +kernel
theorem dX7_shows_157 : decode cX7_shows 157 = .ok (.ireturn, 1) := by decide +kernel
set_option maxRecDepth 20000 in
theorem ggX7_continues_X7_partOf : GoodIn wsX7_continues wsX7_partOf := goodIn_r _ [8] rfl (by decide +kernel)
set_option maxRecDepth 20000 in
theorem gX7_continues_X7_partOf : GoodIn wsX7_continues (va_wsS RX7 250 yX7_partOf wsX7_partOf) := goodIn_app (goodIn_r _ [5, 6, 7] rfl (by decide +kernel)) ggX7_continues_X7_partOf
set_option maxRecDepth 20000 in
theorem ggX7_continues_X7_joined : GoodIn wsX7_continues wsX7_joined := goodIn_r _ [12, 13, 14, 15, 16, 7, 17, 18, 19, 20, 21, 22, 23, 24, 25, 26, 27, 28, 29, 30, 31, 32, 33, 34, 35, 36, 37, 38, 39, 40, 41, 42, 43, 44, 45, 46, 47, 48, 49, 50, 51, 52, 53, 54, 55, 56, 57, 58, 59, 60, 61] rfl (by decide +kernel)
set_option maxRecDepth 20000 in
theorem gX7_continues_X7_joined : GoodIn wsX7_continues (wsV RX7 242 RX7 yX7_joined wsX7_joined) := goodIn_app (goodIn_r _ [9, 10, 11, 7] rfl (by decide +kernel)) ggX7_continues_X7_joined
theorem dX7_continues_0 : decode cX7_continues 0 = .ok (.aload_n 0, 1) := by decide +kernel
theorem dX7_continues_1 : decode cX7_continues 1 = .ok (.iconst 0, 1) := by decide +kernel
theorem dX7_continues_2 : decode cX7_continues 2 = .ok (.putfield 99, 3) := by decide +kernel
theorem dX7_continues_5 : decode cX7_continues 5 = .ok (.iload_n 1, 1) := by decide +kernel
theorem dX7_continues_6 : decode cX7_continues 6 = .ok (.iconst 1, 1) := by decide +kernel
theorem dX7_continues_7 : decode cX7_continues 7 = .ok (.if_icmp .lt 8, 3) := by decide +kernel
theorem dX7_continues_10 : decode cX7_continues 10 = .ok (.iload_n 1, 1) := by decide +kernel
theorem dX7_continues_11 : decode cX7_continues 11 = .ok (.iload_n 2, 1) := by decide +kernel
theorem dX7_continues_12 : decode cX7_continues 12 = .ok (.if_icmp .le 5, 3) := by decide +kernel
theorem dX7_continues_15 : decode cX7_continues 15 = .ok (.iconst 0, 1) := by decide +kernel
theorem dX7_continues_16 : decode cX7_continues 16 = .ok (.ireturn, 1) := by decide +kernel
theorem dX7_continues_17 : decode cX7_continues 17 = .ok (.iload_n 1, 1) := by decide +kernel
theorem dX7_continues_18 : decode cX7_continues 18 = .ok (.istore 7, 2) := by decide +kernel
theorem dX7_continues_20 : decode cX7_continues 20 = .ok (.iload_n 2, 1) := by decide +kernel
theorem dX7_continues_21 : decode cX7_continues 21 = .ok (.istore 8, 2) := by decide +kernel
theorem dX7_continues_23 : decode cX7_continues 23 = .ok (.iconst 0, 1) := by decide +kernel
theorem dX7_continues_24 : decode cX7_continues 24 = .ok (.istore 9, 2) := by decide +kernel
theorem dX7_continues_26 : decode cX7_continues 26 = .ok (.iconst 1, 1) := by decide +kernel
theorem dX7_continues_27 : decode cX7_continues 27 = .ok (.istore 10, 2) := by decide +kernel
theorem dX7_continues_29 : decode cX7_continues 29 = .ok (.iload 7, 2) := by decide +kernel
theorem dX7_continues_31 : decode cX7_continues 31 = .ok (.iload 8, 2) := by decide +kernel
theorem dX7_continues_33 : decode cX7_continues 33 = .ok (.if_icmp .eq 98, 3) := by decide +kernel
theorem dX7_continues_36 : decode cX7_continues 36 = .ok (.iload 8, 2) := by decide +kernel
theorem dX7_continues_38 : decode cX7_continues 38 = .ok (.invokestatic 250, 3) := by decide +kernel
theorem dX7_continues_41 : decode cX7_continues 41 = .ok (.istore 11, 2) := by decide +kernel
theorem dX7_continues_43 : decode cX7_continues 43 = .ok (.iload 7, 2) := by decide +kernel
theorem dX7_continues_45 : decode cX7_continues 45 = .ok (.iload 11, 2) := by decide +kernel
theorem dX7_continues_47 : decode cX7_continues 47 = .ok (.if_icmp .gt 7, 3) := by decide +kernel
theorem dX7_continues_50 : decode cX7_continues 50 = .ok (.iconst 1, 1) := by decide +kernel
theorem dX7_continues_51 : decode cX7_continues 51 = .ok (.goto 4, 3) := by decide +kernel
theorem dX7_continues_54 : decode cX7_continues 54 = .ok (.iconst 0, 1) := by decide +kernel
theorem dX7_continues_55 : decode cX7_continues 55 = .ok (.istore 12, 2) := by decide +kernel
theorem dX7_continues_57 : decode cX7_continues 57 = .ok (.aload_n 0, 1) := by decide +kernel
theorem dX7_continues_58 : decode cX7_continues 58 = .ok (.getfield 96, 3) := by decide +kernel
theorem dX7_continues_61 : decode cX7_continues 61 = .ok (.iload 9, 2) := by decide +kernel
theorem dX7_continues_63 : decode cX7_continues 63 = .ok (.iload 12, 2) := by decide +kernel
theorem dX7_continues_65 : decode cX7_continues 65 = .ok (.ifCond .ne 7, 3) := by decide +kernel
theorem dX7_continues_68 : decode cX7_continues 68 = .ok (.iconst 1, 1) := by decide +kernel
theorem dX7_continues_69 : decode cX7_continues 69 = .ok (.goto 4, 3) := by decide +kernel
theorem dX7_continues_72 : decode cX7_continues 72 = .ok (.iconst 0, 1) := by decide +kernel
theorem dX7_continues_73 : decode cX7_continues 73 = .ok (.bastore, 1) := by decide +kernel
theorem dX7_continues_74 : decode cX7_continues 74 = .ok (.iinc 9 1, 3) := by decide +kernel
theorem dX7_continues_77 : decode cX7_continues 77 = .ok (.iload 10, 2) := by decide +kernel
theorem dX7_continues_79 : decode cX7_continues 79 = .ok (.ifCond .eq 12, 3) := by decide +kernel
theorem dX7_continues_82 : decode cX7_continues 82 = .ok (.iload 12, 2) := by decide +kernel
theorem dX7_continues_84 : decode cX7_continues 84 = .ok (.ifCond .eq 7, 3) := by decide +kernel
theorem dX7_continues_87 : decode cX7_continues 87 = .ok (.iconst 1, 1) := by decide +kernel
theorem dX7_continues_88 : decode cX7_continues 88 = .ok (.goto 4, 3) := by decide +kernel
theorem dX7_continues_91 : decode cX7_continues 91 = .ok (.iconst 0, 1) := by decide +kernel
theorem dX7_continues_92 : decode cX7_continues 92 = .ok (.istore 10, 2) := by decide +kernel
theorem dX7_continues_94 : decode cX7_continues 94 = .ok (.iload 12, 2) := by decide +kernel
theorem dX7_continues_96 : decode cX7_continues 96 = .ok (.ifCond .eq 8, 3) := by decide +kernel
theorem dX7_continues_99 : decode cX7_continues 99 = .ok (.iload 7, 2) := by decide +kernel
theorem dX7_continues_101 : decode cX7_continues 101 = .ok (.goto 8, 3) := by decide +kernel
theorem dX7_continues_104 : decode cX7_continues 104 = .ok (.iload 7, 2) := by decide +kernel
theorem dX7_continues_106 : decode cX7_continues 106 = .ok (.iload 11, 2) := by decide +kernel
theorem dX7_continues_108 : decode cX7_continues 108 = .ok (.isub, 1) := by decide +kernel
theorem dX7_continues_109 : decode cX7_continues 109 = .ok (.istore 7, 2) := by decide +kernel
theorem dX7_continues_111 : decode cX7_continues 111 = .ok (.iload 12, 2) := by decide +kernel
theorem dX7_continues_113 : decode cX7_continues 113 = .ok (.ifCond .eq 8, 3) := by decide +kernel
theorem dX7_continues_116 : decode cX7_continues 116 = .ok (.iload 11, 2) := by decide +kernel
theorem dX7_continues_118 : decode cX7_continues 118 = .ok (.goto 8, 3) := by decide +kernel
theorem dX7_continues_121 : decode cX7_continues 121 = .ok (.iload 8, 2) := by decide +kernel
theorem dX7_continues_123 : decode cX7_continues 123 = .ok (.iload 11, 2) := by decide +kernel
theorem dX7_continues_125 : decode cX7_continues 125 = .ok (.isub, 1) := by decide +kernel
theorem dX7_continues_126 : decode cX7_continues 126 = .ok (.istore 8, 2) := by decide +kernel
theorem dX7_continues_128 : decode cX7_continues 128 = .ok (.goto (-99), 3) := by decide +kernel
theorem dX7_continues_131 : decode cX7_continues 131 = .ok (.aload_n 0, 1) := by decide +kernel
theorem dX7_continues_132 : decode cX7_continues 132 = .ok (.getfield 257, 3) := by decide +kernel
theorem dX7_continues_135 : decode cX7_continues 135 = .ok (.iload 10, 2) := by decide +kernel
theorem dX7_continues_137 : decode cX7_continues 137 = .ok (.ifCond .eq 8, 3) := by decide +kernel
theorem dX7_continues_140 : decode cX7_continues 140 = .ok (.iload 9, 2) := by decide +kernel
theorem dX7_continues_142 : decode cX7_continues 142 = .ok (.goto 7, 3) := by decide +kernel
theorem dX7_continues_145 : decode cX7_continues 145 = .ok (.iload 9, 2) := by decide +kernel
theorem dX7_continues_147 : decode cX7_continues 147 = .ok (.iconst 1, 1) := by decide +kernel
theorem dX7_continues_148 : decode cX7_continues 148 = .ok (.iadd, 1) := by decide +kernel
theorem dX7_continues_149 : decode cX7_continues 149 = .ok (.if_icmp .eq 5, 3) := by decide +kernel
theorem dX7_continues_152 : decode cX7_continues 152 = .ok (.iconst 0, 1) := by decide +kernel
theorem dX7_continues_153 : decode cX7_continues 153 = .ok (.ireturn, 1) := by decide +kernel
theorem dX7_continues_154 : decode cX7_continues 154 = .ok (.iload 10, 2) := by decide +kernel
theorem dX7_continues_156 : decode cX7_continues 156 = .ok (.ifCond .eq 7, 3) := by decide +kernel
theorem dX7_continues_159 : decode cX7_continues 159 = .ok (.iconst 0, 1) := by decide +kernel
theorem dX7_continues_160 : decode cX7_continues 160 = .ok (.goto 4, 3) := by decide +kernel
theorem dX7_continues_163 : decode cX7_continues 163 = .ok (.iconst 1, 1) := by decide +kernel
theorem dX7_continues_164 : decode cX7_continues 164 = .ok (.istore 11, 2) := by decide +kernel
theorem dX7_continues_166 : decode cX7_continues 166 = .ok (.iload 10, 2) := by decide +kernel
theorem dX7_continues_168 : decode cX7_continues 168 = .ok (.ifCond .eq 7, 3) := by decide +kernel
theorem dX7_continues_171 : decode cX7_continues 171 = .ok (.lload_n 3, 1) := by decide +kernel
theorem dX7_continues_172 : decode cX7_continues 172 = .ok (.goto 9, 3) := by decide +kernel
theorem dX7_continues_175 : decode cX7_continues 175 = .ok (.aload_n 0, 1) := by decide +kernel
theorem dX7_continues_176 : decode cX7_continues 176 = .ok (.getfield 90, 3) := by decide +kernel
theorem dX7_continues_179 : decode cX7_continues 179 = .ok (.iconst 0, 1) := by decide +kernel
theorem dX7_continues_180 : decode cX7_continues 180 = .ok (.laload, 1) := by decide +kernel
theorem dX7_continues_181 : decode cX7_continues 181 = .ok (.lstore 12, 2) := by decide +kernel
theorem dX7_continues_183 : decode cX7_continues 183 = .ok (.lload 12, 2) := by decide +kernel
theorem dX7_continues_185 : decode cX7_continues 185 = .ok (.lstore 14, 2) := by decide +kernel
theorem dX7_continues_187 : decode cX7_continues 187 = .ok (.iload 9, 2) := by decide +kernel
theorem dX7_continues_189 : decode cX7_continues 189 = .ok (.iconst 1, 1) := by decide +kernel
theorem dX7_continues_190 : decode cX7_continues 190 = .ok (.isub, 1) := by decide +kernel
theorem dX7_continues_191 : decode cX7_continues 191 = .ok (.istore 16, 2) := by decide +kernel
theorem dX7_continues_193 : decode cX7_continues 193 = .ok (.iload 16, 2) := by decide +kernel
theorem dX7_continues_195 : decode cX7_continues 195 = .ok (.ifCond .lt 83, 3) := by decide +kernel
theorem dX7_continues_198 : decode cX7_continues 198 = .ok (.aload_n 0, 1) := by decide +kernel
theorem dX7_continues_199 : decode cX7_continues 199 = .ok (.getfield 96, 3) := by decide +kernel
theorem dX7_continues_202 : decode cX7_continues 202 = .ok (.iload 16, 2) := by decide +kernel
theorem dX7_continues_204 : decode cX7_continues 204 = .ok (.baload, 1) := by decide +kernel
theorem dX7_continues_205 : decode cX7_continues 205 = .ok (.ifCond .eq 19, 3) := by decide +kernel
theorem dX7_continues_208 : decode cX7_continues 208 = .ok (.aload_n 0, 1) := by decide +kernel
theorem dX7_continues_209 : decode cX7_continues 209 = .ok (.aload_n 0, 1) := by decide +kernel
theorem dX7_continues_210 : decode cX7_continues 210 = .ok (.getfield 90, 3) := by decide +kernel
theorem dX7_continues_213 : decode cX7_continues 213 = .ok (.iload 11, 2) := by decide +kernel
theorem dX7_continues_215 : decode cX7_continues 215 = .ok (.laload, 1) := by decide +kernel
theorem dX7_continues_216 : decode cX7_continues 216 = .ok (.lload 12, 2) := by decide +kernel
theorem dX7_continues_218 : decode cX7_continues 218 = .ok (.invokevirtual 242, 3) := by decide +kernel
theorem dX7_continues_221 : decode cX7_continues 221 = .ok (.goto 5, 3) := by decide +kernel
theorem dX7_continues_224 : decode cX7_continues 224 = .ok (.lload 12, 2) := by decide +kernel
theorem dX7_continues_226 : decode cX7_continues 226 = .ok (.lstore 12, 2) := by decide +kernel
theorem dX7_continues_228 : decode cX7_continues 228 = .ok (.aload_n 0, 1) := by decide +kernel
theorem dX7_continues_229 : decode cX7_continues 229 = .ok (.getfield 96, 3) := by decide +kernel
theorem dX7_continues_232 : decode cX7_continues 232 = .ok (.iload 16, 2) := by decide +kernel
theorem dX7_continues_234 : decode cX7_continues 234 = .ok (.baload, 1) := by decide +kernel
theorem dX7_continues_235 : decode cX7_continues 235 = .ok (.ifCond .eq 19, 3) := by decide +kernel
theorem dX7_continues_238 : decode cX7_continues 238 = .ok (.aload_n 0, 1) := by decide +kernel
theorem dX7_continues_239 : decode cX7_continues 239 = .ok (.aload_n 0, 1) := by decide +kernel
theorem dX7_continues_240 : decode cX7_continues 240 = .ok (.getfield 90, 3) := by decide +kernel
theorem dX7_continues_243 : decode cX7_continues 243 = .ok (.iload 11, 2) := by decide +kernel
theorem dX7_continues_245 : decode cX7_continues 245 = .ok (.laload, 1) := by decide +kernel
theorem dX7_continues_246 : decode cX7_continues 246 = .ok (.lload 14, 2) := by decide +kernel
theorem dX7_continues_248 : decode cX7_continues 248 = .ok (.invokevirtual 242, 3) := by decide +kernel
theorem dX7_continues_251 : decode cX7_continues 251 = .ok (.goto 16, 3) := by decide +kernel
theorem dX7_continues_254 : decode cX7_continues 254 = .ok (.aload_n 0, 1) := by decide +kernel
theorem dX7_continues_255 : decode cX7_continues 255 = .ok (.lload 14, 2) := by decide +kernel
theorem dX7_continues_257 : decode cX7_continues 257 = .ok (.aload_n 0, 1) := by decide +kernel
theorem dX7_continues_258 : decode cX7_continues 258 = .ok (.getfield 90, 3) := by decide +kernel
theorem dX7_continues_261 : decode cX7_continues 261 = .ok (.iload 11, 2) := by decide +kernel
theorem dX7_continues_263 : decode cX7_continues 263 = .ok (.laload, 1) := by decide +kernel
theorem dX7_continues_264 : decode cX7_continues 264 = .ok (.invokevirtual 242, 3) := by decide +kernel
theorem dX7_continues_267 : decode cX7_continues 267 = .ok (.lstore 14, 2) := by decide +kernel
theorem dX7_continues_269 : decode cX7_continues 269 = .ok (.iinc 11 1, 3) := by decide +kernel
theorem dX7_continues_272 : decode cX7_continues 272 = .ok (.iinc 16 (-1), 3) := by decide +kernel
theorem dX7_continues_275 : decode cX7_continues 275 = .ok (.goto (-82), 3) := by decide +kernel
theorem dX7_continues_278 : decode cX7_continues 278 = .ok (.lload 12, 2) := by decide +kernel
theorem dX7_continues_280 : decode cX7_continues 280 = .ok (.lload_n 3, 1) := by decide +kernel
theorem dX7_continues_281 : decode cX7_continues 281 = .ok (.lcmp, 1) := by decide +kernel
theorem dX7_continues_282 : decode cX7_continues 282 = .ok (.ifCond .ne 15, 3) := by decide +kernel
theorem dX7_continues_285 : decode cX7_continues 285 = .ok (.lload 14, 2) := by decide +kernel
theorem dX7_continues_287 : decode cX7_continues 287 = .ok (.lload 5, 2) := by decide +kernel
theorem dX7_continues_289 : decode cX7_continues 289 = .ok (.lcmp, 1) := by decide +kernel
theorem dX7_continues_290 : decode cX7_continues 290 = .ok (.ifCond .ne 7, 3) := by decide +kernel
theorem dX7_continues_293 : decode cX7_continues 293 = .ok (.iconst 1, 1) := by decide +kernel
theorem dX7_continues_294 : decode cX7_continues 294 = .ok (.goto 4, 3) := by decide +kernel
theorem dX7_continues_297 : decode cX7_continues 297 = .ok (.iconst 0, 1) := by decide +kernel
theorem dX7_continues_298 : decode cX7_continues 298 = .ok (.ireturn, 1) := by decide +kernel
