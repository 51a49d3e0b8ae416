theorem dX10_about_142 : decode cX10_about 142 = .ok (.aload_n 0, 1) := by decide +kernel
theorem dX10_about_143 : decode cX10_about 143 = .ok (.getfield 112, 3) := by decide +kernel
theorem dX10_about_146 : decode cX10_about 146 = .ok (.ireturn, 1) := by decide +kernel
theorem dX10_about_147 : decode cX10_about 147 = .ok (.iconst (-1), 1) := by decide +kernel
theorem dX10_about_148 : decode cX10_about 148 = .ok (.ireturn, 1) := by decide +kernel
theorem dX10_within_0 : decode cX10_within 0 = .ok (.iload_n 0, 1) := by decide +kernel
theorem dX10_within_1 : decode cX10_within 1 = .ok (.iload_n 1, 1) := by decide +kernel
theorem dX10_within_2 : decode cX10_within 2 = .ok (.if_icmp .lt 12, 3) := by decide +kernel
theorem dX10_within_5 : decode cX10_within 5 = .ok (.iload_n 0, 1) := by decide +kernel
theorem dX10_within_6 : decode cX10_within 6 = .ok (.iload_n 2, 1) := by decide +kernel
theorem dX10_within_7 : decode cX10_within 7 = .ok (.if_icmp .gt 7, 3) := by decide +kernel
theorem dX10_within_10 : decode cX10_within 10 = .ok (.iconst 1, 1) := by decide +kernel
theorem dX10_within_11 : decode cX10_within 11 = .ok (.goto 4, 3) := by decide +kernel
theorem dX10_within_14 : decode cX10_within 14 = .ok (.iconst 0, 1) := by decide +kernel
theorem dX10_within_15 : decode cX10_within 15 = .ok (.ireturn, 1) := by decide +kernel
theorem dX10_isPlace_0 : decode cX10_isPlace 0 = .ok (.iload_n 0, 1) := by decide +kernel
theorem dX10_isPlace_1 : decode cX10_isPlace 1 = .ok (.iconst 0, 1) := by decide +kernel
theorem dX10_isPlace_2 : decode cX10_isPlace 2 = .ok (.bipush 99, 2) := by decide +kernel
theorem dX10_isPlace_4 : decode cX10_isPlace 4 = .ok (.invokestatic 97, 3) := by decide +kernel
theorem dX10_isPlace_7 : decode cX10_isPlace 7 = .ok (.ireturn, 1) := by decide +kernel
theorem dX10_isWind_0 : decode cX10_isWind 0 = .ok (.iload_n 0, 1) := by decide +kernel
theorem dX10_isWind_1 : decode cX10_isWind 1 = .ok (.iconst 0, 1) := by decide +kernel
theorem dX10_isWind_2 : decode cX10_isWind 2 = .ok (.bipush 20, 2) := by decide +kernel
theorem dX10_isWind_4 : decode cX10_isWind 4 = .ok (.invokestatic 97, 3) := by decide +kernel
theorem dX10_isWind_7 : decode cX10_isWind 7 = .ok (.ireturn, 1) := by decide +kernel
theorem dX10_isQuarter_0 : decode cX10_isQuarter 0 = .ok (.iload_n 0, 1) := by decide +kernel
theorem dX10_isQuarter_1 : decode cX10_isQuarter 1 = .ok (.iconst 0, 1) := by decide +kernel
theorem dX10_isQuarter_2 : decode cX10_isQuarter 2 = .ok (.bipush 95, 2) := by decide +kernel
theorem dX10_isQuarter_4 : decode cX10_isQuarter 4 = .ok (.invokestatic 97, 3) := by decide +kernel
theorem dX10_isQuarter_7 : decode cX10_isQuarter 7 = .ok (.ireturn, 1) := by decide +kernel
theorem dX11_init_0 : decode cX11_init 0 = .ok (.aload_n 0, 1) := by decide +kernel
theorem dX11_init_1 : decode cX11_init 1 = .ok (.invokespecial 1, 3) := by decide +kernel
theorem dX11_init_4 : decode cX11_init 4 = .ok (.aload_n 0, 1) := by decide +kernel
theorem dX11_init_5 : decode cX11_init 5 = .ok (.sipush 1500, 3) := by decide +kernel
theorem dX11_init_8 : decode cX11_init 8 = .ok (.newarray .int, 2) := by decide +kernel
theorem dX11_init_10 : decode cX11_init 10 = .ok (.putfield 7, 3) := by decide +kernel
theorem dX11_init_13 : decode cX11_init 13 = .ok (.aload_n 0, 1) := by decide +kernel
theorem dX11_init_14 : decode cX11_init 14 = .ok (.iconst (-1), 1) := by decide +kernel
theorem dX11_init_15 : decode cX11_init 15 = .ok (.putfield 13, 3) := by decide +kernel
theorem dX11_init_18 : decode cX11_init 18 = .ok (.aload_n 0, 1) := by decide +kernel
theorem dX11_init_19 : decode cX11_init 19 = .ok (.bipush 48, 2) := by decide +kernel
theorem dX11_init_21 : decode cX11_init 21 = .ok (.newarray .long, 2) := by decide +kernel
theorem dX11_init_23 : decode cX11_init 23 = .ok (.putfield 17, 3) := by decide +kernel
theorem dX11_init_26 : decode cX11_init 26 = .ok (.aload_n 0, 1) := by decide +kernel
theorem dX11_init_27 : decode cX11_init 27 = .ok (.bipush 11, 2) := by decide +kernel
theorem dX11_init_29 : decode cX11_init 29 = .ok (.newarray .int, 2) := by decide +kernel
theorem dX11_init_31 : decode cX11_init 31 = .ok (.putfield 21, 3) := by decide +kernel
theorem dX11_init_34 : decode cX11_init 34 = .ok (.aload_n 0, 1) := by decide +kernel
theorem dX11_init_35 : decode cX11_init 35 = .ok (.bipush 11, 2) := by decide +kernel
theorem dX11_init_37 : decode cX11_init 37 = .ok (.newarray .int, 2) := by decide +kernel
theorem dX11_init_39 : decode cX11_init 39 = .ok (.putfield 24, 3) := by decide +kernel
theorem dX11_init_42 : decode cX11_init 42 = .ok (.aload_n 0, 1) := by decide +kernel
theorem dX11_init_43 : decode cX11_init 43 = .ok (.bipush 11, 2) := by decide +kernel
theorem dX11_init_45 : decode cX11_init 45 = .ok (.newarray .int, 2) := by decide +kernel
theorem dX11_init_47 : decode cX11_init 47 = .ok (.putfield 27, 3) := by decide +kernel
theorem dX11_init_50 : decode cX11_init 50 = .ok (.aload_n 0, 1) := by decide +kernel
theorem dX11_init_51 : decode cX11_init 51 = .ok (.iconst 4, 1) := by decide +kernel
theorem dX11_init_52 : decode cX11_init 52 = .ok (.newarray .int, 2) := by decide +kernel
theorem dX11_init_54 : decode cX11_init 54 = .ok (.putfield 30, 3) := by decide +kernel
theorem dX11_init_57 : decode cX11_init 57 = .ok (.aload_n 0, 1) := by decide +kernel
theorem dX11_init_58 : decode cX11_init 58 = .ok (.bipush 11, 2) := by decide +kernel
theorem dX11_init_60 : decode cX11_init 60 = .ok (.newarray .int, 2) := by decide +kernel
theorem dX11_init_62 : decode cX11_init 62 = .ok (.putfield 33, 3) := by decide +kernel
theorem dX11_init_65 : decode cX11_init 65 = .ok (.aload_n 0, 1) := by decide +kernel
theorem dX11_init_66 : decode cX11_init 66 = .ok (.bipush 11, 2) := by decide +kernel
theorem dX11_init_68 : decode cX11_init 68 = .ok (.newarray .int, 2) := by decide +kernel
theorem dX11_init_70 : decode cX11_init 70 = .ok (.putfield 36, 3) := by decide +kernel
theorem dX11_init_73 : decode cX11_init 73 = .ok (.aload_n 0, 1) := by decide +kernel
theorem dX11_init_74 : decode cX11_init 74 = .ok (.bipush 11, 2) := by decide +kernel
theorem dX11_init_76 : decode cX11_init 76 = .ok (.newarray .int, 2) := by decide +kernel
theorem dX11_init_78 : decode cX11_init 78 = .ok (.putfield 39, 3) := by decide +kernel
theorem dX11_init_81 : decode cX11_init 81 = .ok (.aload_n 0, 1) := by decide +kernel
theorem dX11_init_82 : decode cX11_init 82 = .ok (.bipush 11, 2) := by decide +kernel
theorem dX11_init_84 : decode cX11_init 84 = .ok (.newarray .int, 2) := by decide +kernel
theorem dX11_init_86 : decode cX11_init 86 = .ok (.putfield 42, 3) := by decide +kernel
theorem dX11_init_89 : decode cX11_init 89 = .ok (.aload_n 0, 1) := by decide +kernel
theorem dX11_init_90 : decode cX11_init 90 = .ok (.iconst 4, 1) := by decide +kernel
theorem dX11_init_91 : decode cX11_init 91 = .ok (.newarray .int, 2) := by decide +kernel
theorem dX11_init_93 : decode cX11_init 93 = .ok (.putfield 45, 3) := by decide +kernel
theorem dX11_init_96 : decode cX11_init 96 = .ok (.aload_n 0, 1) := by decide +kernel
theorem dX11_init_97 : decode cX11_init 97 = .ok (.bipush 11, 2) := by decide +kernel
theorem dX11_init_99 : decode cX11_init 99 = .ok (.newarray .int, 2) := by decide +kernel
theorem dX11_init_101 : decode cX11_init 101 = .ok (.putfield 48, 3) := by decide +kernel
theorem dX11_init_104 : decode cX11_init 104 = .ok (.aload_n 0, 1) := by decide +kernel
theorem dX11_init_105 : decode cX11_init 105 = .ok (.bipush 9, 2) := by decide +kernel
theorem dX11_init_107 : decode cX11_init 107 = .ok (.newarray .int, 2) := by decide +kernel
theorem dX11_init_109 : decode cX11_init 109 = .ok (.putfield 51, 3) := by decide +kernel
theorem dX11_init_112 : decode cX11_init 112 = .ok (.aload_n 0, 1) := by decide +kernel
theorem dX11_init_113 : decode cX11_init 113 = .ok (.bipush 11, 2) := by decide +kernel
theorem dX11_init_115 : decode cX11_init 115 = .ok (.newarray .int, 2) := by decide +kernel
theorem dX11_init_117 : decode cX11_init 117 = .ok (.putfield 54, 3) := by decide +kernel
theorem dX11_init_120 : decode cX11_init 120 = .ok (.aload_n 0, 1) := by decide +kernel
theorem dX11_init_121 : decode cX11_init 121 = .ok (.bipush 40, 2) := by decide +kernel
theorem dX11_init_123 : decode cX11_init 123 = .ok (.newarray .int, 2) := by decide +kernel
theorem dX11_init_125 : decode cX11_init 125 = .ok (.putfield 57, 3) := by decide +kernel
theorem dX11_init_128 : decode cX11_init 128 = .ok (.aload_n 0, 1) := by decide +kernel
theorem dX11_init_129 : decode cX11_init 129 = .ok (.bipush 40, 2) := by decide +kernel
theorem dX11_init_131 : decode cX11_init 131 = .ok (.newarray .int, 2) := by decide +kernel
theorem dX11_init_133 : decode cX11_init 133 = .ok (.putfield 60, 3) := by decide +kernel
theorem dX11_init_136 : decode cX11_init 136 = .ok (.aload_n 0, 1) := by decide +kernel
theorem dX11_init_137 : decode cX11_init 137 = .ok (.bipush 40, 2) := by decide +kernel
theorem dX11_init_139 : decode cX11_init 139 = .ok (.newarray .int, 2) := by decide +kernel
theorem dX11_init_141 : decode cX11_init 141 = .ok (.putfield 63, 3) := by decide +kernel
theorem dX11_init_144 : decode cX11_init 144 = .ok (.aload_n 0, 1) := by decide +kernel
theorem dX11_init_145 : decode cX11_init 145 = .ok (.bipush 40, 2) := by decide +kernel
theorem dX11_init_147 : decode cX11_init 147 = .ok (.newarray .int, 2) := by decide +kernel
theorem dX11_init_149 : decode cX11_init 149 = .ok (.putfield 66, 3) := by decide +kernel
theorem dX11_init_152 : decode cX11_init 152 = .ok (.aload_n 0, 1) := by decide +kernel
theorem dX11_init_153 : decode cX11_init 153 = .ok (.bipush 40, 2) := by decide +kernel
theorem dX11_init_155 : decode cX11_init 155 = .ok (.newarray .int, 2) := by decide +kernel
theorem dX11_init_157 : decode cX11_init 157 = .ok (.putfield 69, 3) := by decide +kernel
theorem dX11_init_160 : decode cX11_init 160 = .ok (.aload_n 0, 1) := by decide +kernel
theorem dX11_init_161 : decode cX11_init 161 = .ok (.bipush 40, 2) := by decide +kernel
theorem dX11_init_163 : decode cX11_init 163 = .ok (.newarray .int, 2) := by decide +kernel
theorem dX11_init_165 : decode cX11_init 165 = .ok (.putfield 72, 3) := by decide +kernel
theorem dX11_init_168 : decode cX11_init 168 = .ok (.aload_n 0, 1) := by decide +kernel
theorem dX11_init_169 : decode cX11_init 169 = .ok (.bipush 40, 2) := by decide +kernel
theorem dX11_init_171 : decode cX11_init 171 = .ok (.newarray .int, 2) := by decide +kernel
theorem dX11_init_173 : decode cX11_init 173 = .ok (.putfield 75, 3) := by decide +kernel
theorem dX11_init_176 : decode cX11_init 176 = .ok (.aload_n 0, 1) := by decide +kernel
theorem dX11_init_177 : decode cX11_init 177 = .ok (.bipush 40, 2) := by decide +kernel
theorem dX11_init_179 : decode cX11_init 179 = .ok (.newarray .int, 2) := by decide +kernel
theorem dX11_init_181 : decode cX11_init 181 = .ok (.putfield 78, 3) := by decide +kernel
theorem dX11_init_184 : decode cX11_init 184 = .ok (.aload_n 0, 1) := by decide +kernel
theorem dX11_init_185 : decode cX11_init 185 = .ok (.bipush 100, 2) := by decide +kernel
theorem dX11_init_187 : decode cX11_init 187 = .ok (.newarray .boolean, 2) := by decide +kernel
theorem dX11_init_189 : decode cX11_init 189 = .ok (.putfield 81, 3) := by decide +kernel
theorem dX11_init_192 : decode cX11_init 192 = .ok (.aload_n 0, 1) := by decide +kernel
theorem dX11_init_193 : decode cX11_init 193 = .ok (.bipush 9, 2) := by decide +kernel
theorem dX11_init_195 : decode cX11_init 195 = .ok (.newarray .int, 2) := by decide +kernel
theorem dX11_init_197 : decode cX11_init 197 = .ok (.putfield 85, 3) := by decide +kernel
theorem dX11_init_200 : decode cX11_init 200 = .ok (.aload_n 0, 1) := by decide +kernel
theorem dX11_init_201 : decode cX11_init 201 = .ok (.bipush 9, 2) := by decide +kernel
theorem dX11_init_203 : decode cX11_init 203 = .ok (.newarray .int, 2) := by decide +kernel
theorem dX11_init_205 : decode cX11_init 205 = .ok (.putfield 88, 3) := by decide +kernel
theorem dX11_init_208 : decode cX11_init 208 = .ok (.aload_n 0, 1) := by decide +kernel
theorem dX11_init_209 : decode cX11_init 209 = .ok (.bipush 12, 2) := by decide +kernel
theorem dX11_init_211 : decode cX11_init 211 = .ok (.newarray .int, 2) := by decide +kernel
theorem dX11_init_213 : decode cX11_init 213 = .ok (.putfield 91, 3) := by decide +kernel
theorem dX11_init_216 : decode cX11_init 216 = .ok (.aload_n 0, 1) := by decide +kernel
theorem dX11_init_217 : decode cX11_init 217 = .ok (.bipush 64, 2) := by decide +kernel
theorem dX11_init_219 : decode cX11_init 219 = .ok (.newarray .int, 2) := by decide +kernel
theorem dX11_init_221 : decode cX11_init 221 = .ok (.putfield 94, 3) := by decide +kernel
theorem dX11_init_224 : decode cX11_init 224 = .ok (.aload_n 0, 1) := by decide +kernel
theorem dX11_init_225 : decode cX11_init 225 = .ok (.iconst 3, 1) := by decide +kernel
theorem dX11_init_226 : decode cX11_init 226 = .ok (.newarray .boolean, 2) := by decide +kernel
theorem dX11_init_228 : decode cX11_init 228 = .ok (.putfield 97, 3) := by decide +kernel
theorem dX11_init_231 : decode cX11_init 231 = .ok (.aload_n 0, 1) := by decide +kernel
theorem dX11_init_232 : decode cX11_init 232 = .ok (.bipush 48, 2) := by decide +kernel
theorem dX11_init_234 : decode cX11_init 234 = .ok (.newarray .int, 2) := by decide +kernel
theorem dX11_init_236 : decode cX11_init 236 = .ok (.putfield 100, 3) := by decide +kernel
theorem dX11_init_239 : decode cX11_init 239 = .ok (.return_, 1) := by decide +kernel
theorem dX11_feed_0 : decode cX11_feed 0 = .ok (.aload_n 0, 1) := by decide +kernel
theorem dX11_feed_1 : decode cX11_feed 1 = .ok (.getfield 103, 3) := by decide +kernel
theorem dX11_feed_4 : decode cX11_feed 4 = .ok (.bipush 20, 2) := by decide +kernel
theorem dX11_feed_6 : decode cX11_feed 6 = .ok (.iadd, 1) := by decide +kernel
theorem dX11_feed_7 : decode cX11_feed 7 = .ok (.sipush 1500, 3) := by decide +kernel
theorem dX11_feed_10 : decode cX11_feed 10 = .ok (.if_icmp .le 5, 3) := by decide +kernel
theorem dX11_feed_13 : decode cX11_feed 13 = .ok (.iconst (-1), 1) := by decide +kernel
theorem dX11_feed_14 : decode cX11_feed 14 = .ok (.ireturn, 1) := by decide +kernel
theorem dX11_feed_15 : decode cX11_feed 15 = .ok (.aload_n 0, 1) := by decide +kernel
theorem dX11_feed_16 : decode cX11_feed 16 = .ok (.iload_n 1, 1) := by decide +kernel
theorem dX11_feed_17 : decode cX11_feed 17 = .ok (.invokevirtual 106, 3) := by decide +kernel
theorem dX11_feed_20 : decode cX11_feed 20 = .ok (.aload_n 0, 1) := by decide +kernel
theorem dX11_feed_21 : decode cX11_feed 21 = .ok (.iload_n 2, 1) := by decide +kernel
theorem dX11_feed_22 : decode cX11_feed 22 = .ok (.invokevirtual 106, 3) := by decide +kernel
theorem dX11_feed_25 : decode cX11_feed 25 = .ok (.aload_n 0, 1) := by decide +kernel
theorem dX11_feed_26 : decode cX11_feed 26 = .ok (.iload_n 3, 1) := by decide +kernel
theorem dX11_feed_27 : decode cX11_feed 27 = .ok (.invokevirtual 106, 3) := by decide +kernel
theorem dX11_feed_30 : decode cX11_feed 30 = .ok (.aload_n 0, 1) := by decide +kernel
theorem dX11_feed_31 : decode cX11_feed 31 = .ok (.iload 4, 2) := by decide +kernel
theorem dX11_feed_33 : decode cX11_feed 33 = .ok (.invokevirtual 106, 3) := by decide +kernel
theorem dX11_feed_36 : decode cX11_feed 36 = .ok (.aload_n 0, 1) := by decide +kernel
theorem dX11_feed_37 : decode cX11_feed 37 = .ok (.iload 5, 2) := by decide +kernel
theorem dX11_feed_39 : decode cX11_feed 39 = .ok (.invokevirtual 106, 3) := by decide +kernel
theorem dX11_feed_42 : decode cX11_feed 42 = .ok (.aload_n 0, 1) := by decide +kernel
theorem dX11_feed_43 : decode cX11_feed 43 = .ok (.getfield 103, 3) := by decide +kernel
theorem dX11_feed_46 : decode cX11_feed 46 = .ok (.ireturn, 1) := by decide +kernel
theorem dX11_four_0 : decode cX11_four 0 = .ok (.bipush 24, 2) := by decide +kernel
theorem dX11_four_2 : decode cX11_four 2 = .ok (.istore_n 2, 1) := by decide +kernel
theorem dX11_four_3 : decode cX11_four 3 = .ok (.iload_n 2, 1) := by decide +kernel
theorem dX11_four_4 : decode cX11_four 4 = .ok (.ifCond .lt 35, 3) := by decide +kernel
theorem dX11_four_7 : decode cX11_four 7 = .ok (.aload_n 0, 1) := by decide +kernel
theorem dX11_four_8 : decode cX11_four 8 = .ok (.getfield 7, 3) := by decide +kernel
theorem dX11_four_11 : decode cX11_four 11 = .ok (.aload_n 0, 1) := by decide +kernel
theorem dX11_four_12 : decode cX11_four 12 = .ok (.getfield 103, 3) := by decide +kernel
theorem dX11_four_15 : decode cX11_four 15 = .ok (.iload_n 1, 1) := by decide +kernel
theorem dX11_four_16 : decode cX11_four 16 = .ok (.iload_n 2, 1) := by decide +kernel
theorem dX11_four_17 : decode cX11_four 17 = .ok (.ishr, 1) := by decide +kernel
theorem dX11_four_18 : decode cX11_four 18 = .ok (.sipush 255, 3) := by decide +kernel
theorem dX11_four_21 : decode cX11_four 21 = .ok (.iand, 1) := by decide +kernel
theorem dX11_four_22 : decode cX11_four 22 = .ok (.iastore, 1) := by decide +kernel
theorem dX11_four_23 : decode cX11_four 23 = .ok (.aload_n 0, 1) := by decide +kernel
theorem dX11_four_24 : decode cX11_four 24 = .ok (.dup, 1) := by decide +kernel
theorem dX11_four_25 : decode cX11_four 25 = .ok (.getfield 103, 3) := by decide +kernel
theorem dX11_four_28 : decode cX11_four 28 = .ok (.iconst 1, 1) := by decide +kernel
theorem dX11_four_29 : decode cX11_four 29 = .ok (.iadd, 1) := by decide +kernel
theorem dX11_four_30 : decode cX11_four 30 = .ok (.putfield 103, 3) := by decide +kernel
theorem dX11_four_33 : decode cX11_four 33 = .ok (.iinc 2 (-8), 3) := by decide +kernel
theorem dX11_four_36 : decode cX11_four 36 = .ok (.goto (-33), 3) := by decide +kernel
theorem dX11_four_39 : decode cX11_four 39 = .ok (.return_, 1) := by decide +kernel
theorem dX11_end_0 : decode cX11_end 0 = .ok (.iload_n 1, 1) := by decide +kernel
theorem dX11_end_1 : decode cX11_end 1 = .ok (.ifCond .lt 11, 3) := by decide +kernel
theorem dX11_end_4 : decode cX11_end 4 = .ok (.iload_n 1, 1) := by decide +kernel
theorem dX11_end_5 : decode cX11_end 5 = .ok (.aload_n 0, 1) := by decide +kernel
theorem dX11_end_6 : decode cX11_end 6 = .ok (.getfield 103, 3) := by decide +kernel
theorem dX11_end_9 : decode cX11_end 9 = .ok (.if_icmp .le 5, 3) := by decide +kernel
theorem dX11_end_12 : decode cX11_end 12 = .ok (.iconst (-1), 1) := by decide +kernel
theorem dX11_end_13 : decode cX11_end 13 = .ok (.ireturn, 1) := by decide +kernel
theorem dX11_end_14 : decode cX11_end 14 = .ok (.aload_n 0, 1) := by decide +kernel
theorem dX11_end_15 : decode cX11_end 15 = .ok (.iload_n 1, 1) := by decide +kernel
theorem dX11_end_16 : decode cX11_end 16 = .ok (.putfield 103, 3) := by decide +kernel
theorem dX11_end_19 : decode cX11_end 19 = .ok (.iload_n 1, 1) := by decide +kernel
theorem dX11_end_20 : decode cX11_end 20 = .ok (.ireturn, 1) := by decide +kernel
theorem dX11_here_0 : decode cX11_here 0 = .ok (.aload_n 0, 1) := by decide +kernel
theorem dX11_here_1 : decode cX11_here 1 = .ok (.getfield 110, 3) := by decide +kernel
theorem dX11_here_4 : decode cX11_here 4 = .ok (.iload_n 1, 1) := by decide +kernel
theorem dX11_here_5 : decode cX11_here 5 = .ok (.iadd, 1) := by decide +kernel
theorem dX11_here_6 : decode cX11_here 6 = .ok (.aload_n 0, 1) := by decide +kernel
theorem dX11_here_7 : decode cX11_here 7 = .ok (.getfield 113, 3) := by decide +kernel
theorem dX11_here_10 : decode cX11_here 10 = .ok (.if_icmp .ge 17, 3) := by decide +kernel
theorem dX11_here_13 : decode cX11_here 13 = .ok (.aload_n 0, 1) := by decide +kernel
theorem dX11_here_14 : decode cX11_here 14 = .ok (.getfield 7, 3) := by decide +kernel
theorem dX11_here_17 : decode cX11_here 17 = .ok (.aload_n 0, 1) := by decide +kernel
theorem dX11_here_18 : decode cX11_here 18 = .ok (.getfield 110, 3) := by decide +kernel
theorem dX11_here_21 : decode cX11_here 21 = .ok (.iload_n 1, 1) := by decide +kernel
theorem dX11_here_22 : decode cX11_here 22 = .ok (.iadd, 1) := by decide +kernel
theorem dX11_here_23 : decode cX11_here 23 = .ok (.iaload, 1) := by decide +kernel
theorem dX11_here_24 : decode cX11_here 24 = .ok (.goto 4, 3) := by decide +kernel
theorem dX11_here_27 : decode cX11_here 27 = .ok (.iconst (-1), 1) := by decide +kernel
theorem dX11_here_28 : decode cX11_here 28 = .ok (.ireturn, 1) := by decide +kernel
theorem dX11_isLetter_0 : decode cX11_isLetter 0 = .ok (.iload_n 0, 1) := by decide +kernel
theorem dX11_isLetter_1 : decode cX11_isLetter 1 = .ok (.bipush 97, 2) := by decide +kernel
theorem dX11_isLetter_3 : decode cX11_isLetter 3 = .ok (.if_icmp .lt 13, 3) := by decide +kernel
theorem dX11_isLetter_6 : decode cX11_isLetter 6 = .ok (.iload_n 0, 1) := by decide +kernel
theorem dX11_isLetter_7 : decode cX11_isLetter 7 = .ok (.bipush 122, 2) := by decide +kernel
theorem dX11_isLetter_9 : decode cX11_isLetter 9 = .ok (.if_icmp .gt 7, 3) := by decide +kernel
theorem dX11_isLetter_12 : decode cX11_isLetter 12 = .ok (.iconst 1, 1) := by decide +kernel
theorem dX11_isLetter_13 : decode cX11_isLetter 13 = .ok (.goto 4, 3) := by decide +kernel
theorem dX11_isLetter_16 : decode cX11_isLetter 16 = .ok (.iconst 0, 1) := by decide +kernel
theorem dX11_isLetter_17 : decode cX11_isLetter 17 = .ok (.ireturn, 1) := by decide +kernel
theorem dX11_isDigit_0 : decode cX11_isDigit 0 = .ok (.iload_n 0, 1) := by decide +kernel
theorem dX11_isDigit_1 : decode cX11_isDigit 1 = .ok (.bipush 48, 2) := by decide +kernel
theorem dX11_isDigit_3 : decode cX11_isDigit 3 = .ok (.if_icmp .lt 13, 3) := by decide +kernel
theorem dX11_isDigit_6 : decode cX11_isDigit 6 = .ok (.iload_n 0, 1) := by decide +kernel
theorem dX11_isDigit_7 : decode cX11_isDigit 7 = .ok (.bipush 57, 2) := by decide +kernel
theorem dX11_isDigit_9 : decode cX11_isDigit 9 = .ok (.if_icmp .gt 7, 3) := by decide +kernel
theorem dX11_isDigit_12 : decode cX11_isDigit 12 = .ok (.iconst 1, 1) := by decide +kernel
theorem dX11_isDigit_13 : decode cX11_isDigit 13 = .ok (.goto 4, 3) := by decide +kernel
theorem dX11_isDigit_16 : decode cX11_isDigit 16 = .ok (.iconst 0, 1) := by decide +kernel
theorem dX11_isDigit_17 : decode cX11_isDigit 17 = .ok (.ireturn, 1) := by decide +kernel
theorem dX11_token_0 : decode cX11_token 0 = .ok (.aload_n 0, 1) := by decide +kernel
theorem dX11_token_1 : decode cX11_token 1 = .ok (.iconst 0, 1) := by decide +kernel
theorem dX11_token_2 : decode cX11_token 2 = .ok (.invokevirtual 116, 3) := by decide +kernel
theorem dX11_token_5 : decode cX11_token 5 = .ok (.bipush 32, 2) := by decide +kernel
theorem dX11_token_7 : decode cX11_token 7 = .ok (.if_icmp .eq 13, 3) := by decide +kernel
theorem dX11_token_10 : decode cX11_token 10 = .ok (.aload_n 0, 1) := by decide +kernel
theorem dX11_token_11 : decode cX11_token 11 = .ok (.iconst 0, 1) := by decide +kernel
theorem dX11_token_12 : decode cX11_token 12 = .ok (.invokevirtual 116, 3) := by decide +kernel
theorem dX11_token_15 : decode cX11_token 15 = .ok (.bipush 10, 2) := by decide +kernel
theorem dX11_token_17 : decode cX11_token 17 = .ok (.if_icmp .ne 16, 3) := by decide +kernel
theorem dX11_token_20 : decode cX11_token 20 = .ok (.aload_n 0, 1) := by decide +kernel
theorem dX11_token_21 : decode cX11_token 21 = .ok (.dup, 1) := by decide +kernel
theorem dX11_token_22 : decode cX11_token 22 = .ok (.getfield 110, 3) := by decide +kernel
theorem dX11_token_25 : decode cX11_token 25 = .ok (.iconst 1, 1) := by decide +kernel
theorem dX11_token_26 : decode cX11_token 26 = .ok (.iadd, 1) := by decide +kernel
theorem dX11_token_27 : decode cX11_token 27 = .ok (.putfield 110, 3) := by decide +kernel
theorem dX11_token_30 : decode cX11_token 30 = .ok (.goto (-30), 3) := by decide +kernel
theorem dX11_token_33 : decode cX11_token 33 = .ok (.aload_n 0, 1) := by decide +kernel
theorem dX11_token_34 : decode cX11_token 34 = .ok (.aload_n 0, 1) := by decide +kernel
theorem dX11_token_35 : decode cX11_token 35 = .ok (.getfield 110, 3) := by decide +kernel
theorem dX11_token_38 : decode cX11_token 38 = .ok (.putfield 120, 3) := by decide +kernel
theorem dX11_token_41 : decode cX11_token 41 = .ok (.aload_n 0, 1) := by decide +kernel
theorem dX11_token_42 : decode cX11_token 42 = .ok (.iconst 0, 1) := by decide +kernel
theorem dX11_token_43 : decode cX11_token 43 = .ok (.invokevirtual 116, 3) := by decide +kernel
theorem dX11_token_46 : decode cX11_token 46 = .ok (.istore_n 1, 1) := by decide +kernel
theorem dX11_token_47 : decode cX11_token 47 = .ok (.iconst 0, 1) := by decide +kernel
theorem dX11_token_48 : decode cX11_token 48 = .ok (.istore_n 2, 1) := by decide +kernel
theorem dX11_token_49 : decode cX11_token 49 = .ok (.aload_n 0, 1) := by decide +kernel
theorem dX11_token_50 : decode cX11_token 50 = .ok (.lconst 0, 1) := by decide +kernel
theorem dX11_token_51 : decode cX11_token 51 = .ok (.putfield 123, 3) := by decide +kernel
theorem dX11_token_54 : decode cX11_token 54 = .ok (.aload_n 0, 1) := by decide +kernel
theorem dX11_token_55 : decode cX11_token 55 = .ok (.iconst 0, 1) := by decide +kernel
theorem dX11_token_56 : decode cX11_token 56 = .ok (.putfield 127, 3) := by decide +kernel
theorem dX11_token_59 : decode cX11_token 59 = .ok (.iload_n 1, 1) := by decide +kernel
theorem dX11_token_60 : decode cX11_token 60 = .ok (.ifCond .ge 11, 3) := by decide +kernel
theorem dX11_token_63 : decode cX11_token 63 = .ok (.aload_n 0, 1) := by decide +kernel
theorem dX11_token_64 : decode cX11_token 64 = .ok (.iconst 0, 1) := by decide +kernel
theorem dX11_token_65 : decode cX11_token 65 = .ok (.putfield 130, 3) := by decide +kernel
theorem dX11_token_68 : decode cX11_token 68 = .ok (.goto 163, 3) := by decide +kernel
theorem dX11_token_71 : decode cX11_token 71 = .ok (.iload_n 1, 1) := by decide +kernel
theorem dX11_token_72 : decode cX11_token 72 = .ok (.invokestatic 133, 3) := by decide +kernel
theorem dX11_token_75 : decode cX11_token 75 = .ok (.ifCond .eq 62, 3) := by decide +kernel
theorem dX11_token_78 : decode cX11_token 78 = .ok (.aload_n 0, 1) := by decide +kernel
theorem dX11_token_79 : decode cX11_token 79 = .ok (.iload_n 2, 1) := by decide +kernel
theorem dX11_token_80 : decode cX11_token 80 = .ok (.invokevirtual 116, 3) := by decide +kernel
theorem dX11_token_83 : decode cX11_token 83 = .ok (.invokestatic 133, 3) := by decide +kernel
theorem dX11_token_86 : decode cX11_token 86 = .ok (.ifCond .eq 33, 3) := by decide +kernel
theorem dX11_token_89 : decode cX11_token 89 = .ok (.iload_n 2, 1) := by decide +kernel
theorem dX11_token_90 : decode cX11_token 90 = .ok (.bipush 8, 2) := by decide +kernel
theorem dX11_token_92 : decode cX11_token 92 = .ok (.if_icmp .ge 21, 3) := by decide +kernel
theorem dX11_token_95 : decode cX11_token 95 = .ok (.aload_n 0, 1) := by decide +kernel
theorem dX11_token_96 : decode cX11_token 96 = .ok (.aload_n 0, 1) := by decide +kernel
theorem dX11_token_97 : decode cX11_token 97 = .ok (.getfield 123, 3) := by decide +kernel
theorem dX11_token_100 : decode cX11_token 100 = .ok (.bipush 8, 2) := by decide +kernel
theorem dX11_token_102 : decode cX11_token 102 = .ok (.lshl, 1) := by decide +kernel
theorem dX11_token_103 : decode cX11_token 103 = .ok (.aload_n 0, 1) := by decide +kernel
theorem dX11_token_104 : decode cX11_token 104 = .ok (.iload_n 2, 1) := by decide +kernel
theorem dX11_token_105 : decode cX11_token 105 = .ok (.invokevirtual 116, 3) := by decide +kernel
theorem dX11_token_108 : decode cX11_token 108 = .ok (.i2l, 1) := by decide +kernel
theorem dX11_token_109 : decode cX11_token 109 = .ok (.lor, 1) := by decide +kernel
theorem dX11_token_110 : decode cX11_token 110 = .ok (.putfield 123, 3) := by decide +kernel
theorem dX11_token_113 : decode cX11_token 113 = .ok (.iinc 2 1, 3) := by decide +kernel
theorem dX11_token_116 : decode cX11_token 116 = .ok (.goto (-38), 3) := by decide +kernel
theorem dX11_token_119 : decode cX11_token 119 = .ok (.aload_n 0, 1) := by decide +kernel
theorem dX11_token_120 : decode cX11_token 120 = .ok (.iload_n 2, 1) := by decide +kernel
theorem dX11_token_121 : decode cX11_token 121 = .ok (.bipush 8, 2) := by decide +kernel
theorem dX11_token_123 : decode cX11_token 123 = .ok (.if_icmp .le 7, 3) := by decide +kernel
theorem dX11_token_126 : decode cX11_token 126 = .ok (.iconst 3, 1) := by decide +kernel
theorem dX11_token_127 : decode cX11_token 127 = .ok (.goto 4, 3) := by decide +kernel
theorem dX11_token_130 : decode cX11_token 130 = .ok (.iconst 1, 1) := by decide +kernel
theorem dX11_token_131 : decode cX11_token 131 = .ok (.putfield 130, 3) := by decide +kernel
theorem dX11_token_134 : decode cX11_token 134 = .ok (.goto 97, 3) := by decide +kernel
theorem dX11_token_137 : decode cX11_token 137 = .ok (.iload_n 1, 1) := by decide +kernel
theorem dX11_token_138 : decode cX11_token 138 = .ok (.invokestatic 137, 3) := by decide +kernel
theorem dX11_token_141 : decode cX11_token 141 = .ok (.ifCond .eq 73, 3) := by decide +kernel
theorem dX11_token_144 : decode cX11_token 144 = .ok (.aload_n 0, 1) := by decide +kernel
theorem dX11_token_145 : decode cX11_token 145 = .ok (.iload_n 2, 1) := by decide +kernel
theorem dX11_token_146 : decode cX11_token 146 = .ok (.invokevirtual 116, 3) := by decide +kernel
theorem dX11_token_149 : decode cX11_token 149 = .ok (.invokestatic 137, 3) := by decide +kernel
theorem dX11_token_152 : decode cX11_token 152 = .ok (.ifCond .eq 34, 3) := by decide +kernel
theorem dX11_token_155 : decode cX11_token 155 = .ok (.iload_n 2, 1) := by decide +kernel
theorem dX11_token_156 : decode cX11_token 156 = .ok (.iconst 4, 1) := by decide +kernel
theorem dX11_token_157 : decode cX11_token 157 = .ok (.if_icmp .ge 23, 3) := by decide +kernel
theorem dX11_token_160 : decode cX11_token 160 = .ok (.aload_n 0, 1) := by decide +kernel
theorem dX11_token_161 : decode cX11_token 161 = .ok (.bipush 10, 2) := by decide +kernel
theorem dX11_token_163 : decode cX11_token 163 = .ok (.aload_n 0, 1) := by decide +kernel
theorem dX11_token_164 : decode cX11_token 164 = .ok (.getfield 127, 3) := by decide +kernel
theorem dX11_token_167 : decode cX11_token 167 = .ok (.imul, 1) := by decide +kernel
theorem dX11_token_168 : decode cX11_token 168 = .ok (.aload_n 0, 1) := by decide +kernel
theorem dX11_token_169 : decode cX11_token 169 = .ok (.iload_n 2, 1) := by decide +kernel
theorem dX11_token_170 : decode cX11_token 170 = .ok (.invokevirtual 116, 3) := by decide +kernel
theorem dX11_token_173 : decode cX11_token 173 = .ok (.iadd, 1) := by decide +kernel
theorem dX11_token_174 : decode cX11_token 174 = .ok (.bipush 48, 2) := by decide +kernel
theorem dX11_token_176 : decode cX11_token 176 = .ok (.isub, 1) := by decide +kernel
theorem dX11_token_177 : decode cX11_token 177 = .ok (.putfield 127, 3) := by decide +kernel
theorem dX11_token_180 : decode cX11_token 180 = .ok (.iinc 2 1, 3) := by decide +kernel
theorem dX11_token_183 : decode cX11_token 183 = .ok (.goto (-39), 3) := by decide +kernel
theorem dX11_token_186 : decode cX11_token 186 = .ok (.aload_n 0, 1) := by decide +kernel
theorem dX11_token_187 : decode cX11_token 187 = .ok (.iload_n 2, 1) := by decide +kernel
theorem dX11_token_188 : decode cX11_token 188 = .ok (.iconst 4, 1) := by decide +kernel
theorem dX11_token_189 : decode cX11_token 189 = .ok (.if_icmp .gt 14, 3) := by decide +kernel
theorem dX11_token_192 : decode cX11_token 192 = .ok (.aload_n 0, 1) := by decide +kernel
theorem dX11_token_193 : decode cX11_token 193 = .ok (.iload_n 2, 1) := by decide +kernel
theorem dX11_token_194 : decode cX11_token 194 = .ok (.invokevirtual 116, 3) := by decide +kernel
theorem dX11_token_197 : decode cX11_token 197 = .ok (.invokestatic 133, 3) := by decide +kernel
theorem dX11_token_200 : decode cX11_token 200 = .ok (.ifCond .eq 7, 3) := by decide +kernel
theorem dX11_token_203 : decode cX11_token 203 = .ok (.iconst 3, 1) := by decide +kernel
theorem dX11_token_204 : decode cX11_token 204 = .ok (.goto 4, 3) := by decide +kernel
theorem dX11_token_207 : decode cX11_token 207 = .ok (.iconst 2, 1) := by decide +kernel
theorem dX11_token_208 : decode cX11_token 208 = .ok (.putfield 130, 3) := by decide +kernel
theorem dX11_token_211 : decode cX11_token 211 = .ok (.goto 20, 3) := by decide +kernel
theorem dX11_token_214 : decode cX11_token 214 = .ok (.iconst 1, 1) := by decide +kernel
theorem dX11_token_215 : decode cX11_token 215 = .ok (.istore_n 2, 1) := by decide +kernel
theorem dX11_token_216 : decode cX11_token 216 = .ok (.aload_n 0, 1) := by decide +kernel
theorem dX11_token_217 : decode cX11_token 217 = .ok (.iload_n 1, 1) := by decide +kernel
theorem dX11_token_218 : decode cX11_token 218 = .ok (.bipush 59, 2) := by decide +kernel
theorem dX11_token_220 : decode cX11_token 220 = .ok (.if_icmp .ne 7, 3) := by decide +kernel
theorem dX11_token_223 : decode cX11_token 223 = .ok (.iload_n 1, 1) := by decide +kernel
theorem dX11_token_224 : decode cX11_token 224 = .ok (.goto 4, 3) := by decide +kernel
theorem dX11_token_227 : decode cX11_token 227 = .ok (.iconst 3, 1) := by decide +kernel
theorem dX11_token_228 : decode cX11_token 228 = .ok (.putfield 130, 3) := by decide +kernel
theorem dX11_token_231 : decode cX11_token 231 = .ok (.aload_n 0, 1) := by decide +kernel
theorem dX11_token_232 : decode cX11_token 232 = .ok (.getfield 130, 3) := by decide +kernel
theorem dX11_token_235 : decode cX11_token 235 = .ok (.iconst 3, 1) := by decide +kernel
theorem dX11_token_236 : decode cX11_token 236 = .ok (.if_icmp .eq 13, 3) := by decide +kernel
theorem dX11_token_239 : decode cX11_token 239 = .ok (.aload_n 0, 1) := by decide +kernel
theorem dX11_token_240 : decode cX11_token 240 = .ok (.dup, 1) := by decide +kernel
theorem dX11_token_241 : decode cX11_token 241 = .ok (.getfield 110, 3) := by decide +kernel
theorem dX11_token_244 : decode cX11_token 244 = .ok (.iload_n 2, 1) := by decide +kernel
theorem dX11_token_245 : decode cX11_token 245 = .ok (.iadd, 1) := by decide +kernel
theorem dX11_token_246 : decode cX11_token 246 = .ok (.putfield 110, 3) := by decide +kernel
theorem dX11_token_249 : decode cX11_token 249 = .ok (.return_, 1) := by decide +kernel
theorem dX11_wrong_0 : decode cX11_wrong 0 = .ok (.aload_n 0, 1) := by decide +kernel
theorem dX11_wrong_1 : decode cX11_wrong 1 = .ok (.getfield 140, 3) := by decide +kernel
theorem dX11_wrong_4 : decode cX11_wrong 4 = .ok (.ifCond .le 4, 3) := by decide +kernel
theorem dX11_wrong_7 : decode cX11_wrong 7 = .ok (.return_, 1) := by decide +kernel
theorem dX11_wrong_8 : decode cX11_wrong 8 = .ok (.aload_n 0, 1) := by decide +kernel
theorem dX11_wrong_9 : decode cX11_wrong 9 = .ok (.aload_n 0, 1) := by decide +kernel
theorem dX11_wrong_10 : decode cX11_wrong 10 = .ok (.getfield 130, 3) := by decide +kernel
theorem dX11_wrong_13 : decode cX11_wrong 13 = .ok (.iconst 3, 1) := by decide +kernel
theorem dX11_wrong_14 : decode cX11_wrong 14 = .ok (.if_icmp .ne 7, 3) := by decide +kernel
theorem dX11_wrong_17 : decode cX11_wrong 17 = .ok (.iconst 1, 1) := by decide +kernel
theorem dX11_wrong_18 : decode cX11_wrong 18 = .ok (.goto 4, 3) := by decide +kernel
theorem dX11_wrong_21 : decode cX11_wrong 21 = .ok (.iload_n 1, 1) := by decide +kernel
theorem dX11_wrong_22 : decode cX11_wrong 22 = .ok (.putfield 140, 3) := by decide +kernel
theorem dX11_wrong_25 : decode cX11_wrong 25 = .ok (.aload_n 0, 1) := by decide +kernel
theorem dX11_wrong_26 : decode cX11_wrong 26 = .ok (.aload_n 0, 1) := by decide +kernel
theorem dX11_wrong_27 : decode cX11_wrong 27 = .ok (.getfield 120, 3) := by decide +kernel
theorem dX11_wrong_30 : decode cX11_wrong 30 = .ok (.putfield 13, 3) := by decide +kernel
theorem dX11_wrong_33 : decode cX11_wrong 33 = .ok (.return_, 1) := by decide +kernel
theorem dX11_isWord_0 : decode cX11_isWord 0 = .ok (.aload_n 0, 1) := by decide +kernel
theorem dX11_isWord_1 : decode cX11_isWord 1 = .ok (.getfield 130, 3) := by decide +kernel
theorem dX11_isWord_4 : decode cX11_isWord 4 = .ok (.iconst 1, 1) := by decide +kernel
theorem dX11_isWord_5 : decode cX11_isWord 5 = .ok (.if_icmp .ne 16, 3) := by decide +kernel
theorem dX11_isWord_8 : decode cX11_isWord 8 = .ok (.aload_n 0, 1) := by decide +kernel
theorem dX11_isWord_9 : decode cX11_isWord 9 = .ok (.getfield 123, 3) := by decide +kernel
theorem dX11_isWord_12 : decode cX11_isWord 12 = .ok (.lload_n 1, 1) := by decide +kernel
theorem dX11_isWord_13 : decode cX11_isWord 13 = .ok (.lcmp, 1) := by decide +kernel
theorem dX11_isWord_14 : decode cX11_isWord 14 = .ok (.ifCond .ne 7, 3) := by decide +kernel
theorem dX11_isWord_17 : decode cX11_isWord 17 = .ok (.iconst 1, 1) := by decide +kernel
theorem dX11_isWord_18 : decode cX11_isWord 18 = .ok (.goto 4, 3) := by decide +kernel
theorem dX11_isWord_21 : decode cX11_isWord 21 = .ok (.iconst 0, 1) := by decide +kernel
theorem dX11_isWord_22 : decode cX11_isWord 22 = .ok (.ireturn, 1) := by decide +kernel
theorem dX11_isName_0 : decode cX11_isName 0 = .ok (.aload_n 0, 1) := by decide +kernel
theorem dX11_isName_1 : decode cX11_isName 1 = .ok (.getfield 130, 3) := by decide +kernel
theorem dX11_isName_4 : decode cX11_isName 4 = .ok (.iconst 1, 1) := by decide +kernel
theorem dX11_isName_5 : decode cX11_isName 5 = .ok (.if_icmp .ne 106, 3) := by decide +kernel
theorem dX11_isName_8 : decode cX11_isName 8 = .ok (.aload_n 0, 1) := by decide +kernel
theorem dX11_isName_9 : decode cX11_isName 9 = .ok (.getfield 123, 3) := by decide +kernel
theorem dX11_isName_12 : decode cX11_isName 12 = .ok (.ldc2_w 143, 3) := by decide +kernel
theorem dX11_isName_15 : decode cX11_isName 15 = .ok (.lcmp, 1) := by decide +kernel
theorem dX11_isName_16 : decode cX11_isName 16 = .ok (.ifCond .eq 95, 3) := by decide +kernel
theorem dX11_isName_19 : decode cX11_isName 19 = .ok (.aload_n 0, 1) := by decide +kernel
theorem dX11_isName_20 : decode cX11_isName 20 = .ok (.getfield 123, 3) := by decide +kernel
theorem dX11_isName_23 : decode cX11_isName 23 = .ok (.ldc2_w 145, 3) := by decide +kernel
theorem dX11_isName_26 : decode cX11_isName 26 = .ok (.lcmp, 1) := by decide +kernel
theorem dX11_isName_27 : decode cX11_isName 27 = .ok (.ifCond .eq 84, 3) := by decide +kernel
theorem dX11_isName_30 : decode cX11_isName 30 = .ok (.aload_n 0, 1) := by decide +kernel
theorem dX11_isName_31 : decode cX11_isName 31 = .ok (.getfield 123, 3) := by decide +kernel
theorem dX11_isName_34 : decode cX11_isName 34 = .ok (.ldc2_w 147, 3) := by decide +kernel
theorem dX11_isName_37 : decode cX11_isName 37 = .ok (.lcmp, 1) := by decide +kernel
theorem dX11_isName_38 : decode cX11_isName 38 = .ok (.ifCond .eq 73, 3) := by decide +kernel
theorem dX11_isName_41 : decode cX11_isName 41 = .ok (.aload_n 0, 1) := by decide +kernel
theorem dX11_isName_42 : decode cX11_isName 42 = .ok (.getfield 123, 3) := by decide +kernel
theorem dX11_isName_45 : decode cX11_isName 45 = .ok (.ldc2_w 149, 3) := by decide +kernel
theorem dX11_isName_48 : decode cX11_isName 48 = .ok (.lcmp, 1) := by decide +kernel
theorem dX11_isName_49 : decode cX11_isName 49 = .ok (.ifCond .eq 62, 3) := by decide +kernel
theorem dX11_isName_52 : decode cX11_isName 52 = .ok (.aload_n 0, 1) := by decide +kernel
theorem dX11_isName_53 : decode cX11_isName 53 = .ok (.getfield 123, 3) := by decide +kernel
theorem dX11_isName_56 : decode cX11_isName 56 = .ok (.ldc2_w 151, 3) := by decide +kernel
theorem dX11_isName_59 : decode cX11_isName 59 = .ok (.lcmp, 1) := by decide +kernel
theorem dX11_isName_60 : decode cX11_isName 60 = .ok (.ifCond .eq 51, 3) := by decide +kernel
theorem dX11_isName_63 : decode cX11_isName 63 = .ok (.aload_n 0, 1) := by decide +kernel
theorem dX11_isName_64 : decode cX11_isName 64 = .ok (.getfield 123, 3) := by decide +kernel
theorem dX11_isName_67 : decode cX11_isName 67 = .ok (.ldc2_w 153, 3) := by decide +kernel
theorem dX11_isName_70 : decode cX11_isName 70 = .ok (.lcmp, 1) := by decide +kernel
theorem dX11_isName_71 : decode cX11_isName 71 = .ok (.ifCond .eq 40, 3) := by decide +kernel
theorem dX11_isName_74 : decode cX11_isName 74 = .ok (.aload_n 0, 1) := by decide +kernel
theorem dX11_isName_75 : decode cX11_isName 75 = .ok (.getfield 123, 3) := by decide +kernel
theorem dX11_isName_78 : decode cX11_isName 78 = .ok (.ldc2_w 155, 3) := by decide +kernel
theorem dX11_isName_81 : decode cX11_isName 81 = .ok (.lcmp, 1) := by decide +kernel
theorem dX11_isName_82 : decode cX11_isName 82 = .ok (.ifCond .eq 29, 3) := by decide +kernel
theorem dX11_isName_85 : decode cX11_isName 85 = .ok (.aload_n 0, 1) := by decide +kernel
theorem dX11_isName_86 : decode cX11_isName 86 = .ok (.getfield 123, 3) := by decide +kernel
theorem dX11_isName_89 : decode cX11_isName 89 = .ok (.ldc2_w 157, 3) := by decide +kernel
theorem dX11_isName_92 : decode cX11_isName 92 = .ok (.lcmp, 1) := by decide +kernel
theorem dX11_isName_93 : decode cX11_isName 93 = .ok (.ifCond .eq 18, 3) := by decide +kernel
theorem dX11_isName_96 : decode cX11_isName 96 = .ok (.aload_n 0, 1) := by decide +kernel
theorem dX11_isName_97 : decode cX11_isName 97 = .ok (.getfield 123, 3) := by decide +kernel
theorem dX11_isName_100 : decode cX11_isName 100 = .ok (.ldc2_w 159, 3) := by decide +kernel
theorem dX11_isName_103 : decode cX11_isName 103 = .ok (.lcmp, 1) := by decide +kernel
theorem dX11_isName_104 : decode cX11_isName 104 = .ok (.ifCond .eq 7, 3) := by decide +kernel
theorem dX11_isName_107 : decode cX11_isName 107 = .ok (.iconst 1, 1) := by decide +kernel
theorem dX11_isName_108 : decode cX11_isName 108 = .ok (.goto 4, 3) := by decide +kernel
theorem dX11_isName_111 : decode cX11_isName 111 = .ok (.iconst 0, 1) := by decide +kernel
theorem dX11_isName_112 : decode cX11_isName 112 = .ok (.ireturn, 1) := by decide +kernel
theorem dX11_want_0 : decode cX11_want 0 = .ok (.aload_n 0, 1) := by decide +kernel
theorem dX11_want_1 : decode cX11_want 1 = .ok (.getfield 140, 3) := by decide +kernel
theorem dX11_want_4 : decode cX11_want 4 = .ok (.ifCond .le 4, 3) := by decide +kernel
theorem dX11_want_7 : decode cX11_want 7 = .ok (.return_, 1) := by decide +kernel
theorem dX11_want_8 : decode cX11_want 8 = .ok (.aload_n 0, 1) := by decide +kernel
theorem dX11_want_9 : decode cX11_want 9 = .ok (.lload_n 1, 1) := by decide +kernel
theorem dX11_want_10 : decode cX11_want 10 = .ok (.invokevirtual 161, 3) := by decide +kernel
theorem dX11_want_13 : decode cX11_want 13 = .ok (.ifCond .ne 11, 3) := by decide +kernel
theorem dX11_want_16 : decode cX11_want 16 = .ok (.aload_n 0, 1) := by decide +kernel
theorem dX11_want_17 : decode cX11_want 17 = .ok (.iconst 2, 1) := by decide +kernel
theorem dX11_want_18 : decode cX11_want 18 = .ok (.invokevirtual 165, 3) := by decide +kernel
theorem dX11_want_21 : decode cX11_want 21 = .ok (.goto 7, 3) := by decide +kernel
theorem dX11_want_24 : decode cX11_want 24 = .ok (.aload_n 0, 1) := by decide +kernel
theorem dX11_want_25 : decode cX11_want 25 = .ok (.invokevirtual 168, 3) := by decide +kernel
theorem dX11_want_28 : decode cX11_want 28 = .ok (.return_, 1) := by decide +kernel
theorem dX11_toldNumber_0 : decode cX11_toldNumber 0 = .ok (.aload_n 0, 1) := by decide +kernel
theorem dX11_toldNumber_1 : decode cX11_toldNumber 1 = .ok (.getfield 140, 3) := by decide +kernel
theorem dX11_toldNumber_4 : decode cX11_toldNumber 4 = .ok (.ifCond .le 5, 3) := by decide +kernel
theorem dX11_toldNumber_7 : decode cX11_toldNumber 7 = .ok (.iconst 0, 1) := by decide +kernel
theorem dX11_toldNumber_8 : decode cX11_toldNumber 8 = .ok (.ireturn, 1) := by decide +kernel
theorem dX11_toldNumber_9 : decode cX11_toldNumber 9 = .ok (.aload_n 0, 1) := by decide +kernel
theorem dX11_toldNumber_10 : decode cX11_toldNumber 10 = .ok (.getfield 130, 3) := by decide +kernel
theorem dX11_toldNumber_13 : decode cX11_toldNumber 13 = .ok (.iconst 2, 1) := by decide +kernel
theorem dX11_toldNumber_14 : decode cX11_toldNumber 14 = .ok (.if_icmp .eq 11, 3) := by decide +kernel
theorem dX11_toldNumber_17 : decode cX11_toldNumber 17 = .ok (.aload_n 0, 1) := by decide +kernel
theorem dX11_toldNumber_18 : decode cX11_toldNumber 18 = .ok (.iconst 2, 1) := by decide +kernel
theorem dX11_toldNumber_19 : decode cX11_toldNumber 19 = .ok (.invokevirtual 165, 3) := by decide +kernel
theorem dX11_toldNumber_22 : decode cX11_toldNumber 22 = .ok (.goto 24, 3) := by decide +kernel
theorem dX11_toldNumber_25 : decode cX11_toldNumber 25 = .ok (.aload_n 0, 1) := by decide +kernel
theorem dX11_toldNumber_26 : decode cX11_toldNumber 26 = .ok (.getfield 127, 3) := by decide +kernel
theorem dX11_toldNumber_29 : decode cX11_toldNumber 29 = .ok (.iload_n 1, 1) := by decide +kernel
theorem dX11_toldNumber_30 : decode cX11_toldNumber 30 = .ok (.if_icmp .lt 11, 3) := by decide +kernel
theorem dX11_toldNumber_33 : decode cX11_toldNumber 33 = .ok (.aload_n 0, 1) := by decide +kernel
theorem dX11_toldNumber_34 : decode cX11_toldNumber 34 = .ok (.getfield 127, 3) := by decide +kernel
theorem dX11_toldNumber_37 : decode cX11_toldNumber 37 = .ok (.iload_n 2, 1) := by decide +kernel
theorem dX11_toldNumber_38 : decode cX11_toldNumber 38 = .ok (.if_icmp .le 8, 3) := by decide +kernel
theorem dX11_toldNumber_41 : decode cX11_toldNumber 41 = .ok (.aload_n 0, 1) := by decide +kernel
theorem dX11_toldNumber_42 : decode cX11_toldNumber 42 = .ok (.iconst 4, 1) := by decide +kernel
theorem dX11_toldNumber_43 : decode cX11_toldNumber 43 = .ok (.invokevirtual 165, 3) := by decide +kernel
theorem dX11_toldNumber_46 : decode cX11_toldNumber 46 = .ok (.aload_n 0, 1) := by decide +kernel
theorem dX11_toldNumber_47 : decode cX11_toldNumber 47 = .ok (.getfield 127, 3) := by decide +kernel
theorem dX11_toldNumber_50 : decode cX11_toldNumber 50 = .ok (.istore_n 3, 1) := by decide +kernel
theorem dX11_toldNumber_51 : decode cX11_toldNumber 51 = .ok (.aload_n 0, 1) := by decide +kernel
theorem dX11_toldNumber_52 : decode cX11_toldNumber 52 = .ok (.getfield 140, 3) := by decide +kernel
theorem dX11_toldNumber_55 : decode cX11_toldNumber 55 = .ok (.ifCond .ne 7, 3) := by decide +kernel
theorem dX11_toldNumber_58 : decode cX11_toldNumber 58 = .ok (.aload_n 0, 1) := by decide +kernel
theorem dX11_toldNumber_59 : decode cX11_toldNumber 59 = .ok (.invokevirtual 168, 3) := by decide +kernel
theorem dX11_toldNumber_62 : decode cX11_toldNumber 62 = .ok (.iload_n 3, 1) := by decide +kernel
theorem dX11_toldNumber_63 : decode cX11_toldNumber 63 = .ok (.ireturn, 1) := by decide +kernel
theorem dX11_told_0 : decode cX11_told 0 = .ok (.aload_n 0, 1) := by decide +kernel
theorem dX11_told_1 : decode cX11_told 1 = .ok (.lload_n 1, 1) := by decide +kernel
theorem dX11_told_2 : decode cX11_told 2 = .ok (.invokevirtual 171, 3) := by decide +kernel
theorem dX11_told_5 : decode cX11_told 5 = .ok (.aload_n 0, 1) := by decide +kernel
theorem dX11_told_6 : decode cX11_told 6 = .ok (.iload_n 3, 1) := by decide +kernel
theorem dX11_told_7 : decode cX11_told 7 = .ok (.iload 4, 2) := by decide +kernel
theorem dX11_told_9 : decode cX11_told 9 = .ok (.invokevirtual 175, 3) := by decide +kernel
theorem dX11_told_12 : decode cX11_told 12 = .ok (.ireturn, 1) := by decide +kernel
theorem dX11_find_0 : decode cX11_find 0 = .ok (.iconst (-1), 1) := by decide +kernel
theorem dX11_find_1 : decode cX11_find 1 = .ok (.istore_n 3, 1) := by decide +kernel
theorem dX11_find_2 : decode cX11_find 2 = .ok (.iconst 0, 1) := by decide +kernel
theorem dX11_find_3 : decode cX11_find 3 = .ok (.istore 4, 2) := by decide +kernel
theorem dX11_find_5 : decode cX11_find 5 = .ok (.iload 4, 2) := by decide +kernel
theorem dX11_find_7 : decode cX11_find 7 = .ok (.iload_n 2, 1) := by decide +kernel
theorem dX11_find_8 : decode cX11_find 8 = .ok (.if_icmp .ge 33, 3) := by decide +kernel
theorem dX11_find_11 : decode cX11_find 11 = .ok (.aload_n 0, 1) := by decide +kernel
theorem dX11_find_12 : decode cX11_find 12 = .ok (.getfield 17, 3) := by decide +kernel
theorem dX11_find_15 : decode cX11_find 15 = .ok (.iload_n 1, 1) := by decide +kernel
theorem dX11_find_16 : decode cX11_find 16 = .ok (.iload 4, 2) := by decide +kernel
theorem dX11_find_18 : decode cX11_find 18 = .ok (.iadd, 1) := by decide +kernel
theorem dX11_find_19 : decode cX11_find 19 = .ok (.laload, 1) := by decide +kernel
theorem dX11_find_20 : decode cX11_find 20 = .ok (.aload_n 0, 1) := by decide +kernel
theorem dX11_find_21 : decode cX11_find 21 = .ok (.getfield 123, 3) := by decide +kernel
theorem dX11_find_24 : decode cX11_find 24 = .ok (.lcmp, 1) := by decide +kernel
theorem dX11_find_25 : decode cX11_find 25 = .ok (.ifCond .ne 8, 3) := by decide +kernel
theorem dX11_find_28 : decode cX11_find 28 = .ok (.iload 4, 2) := by decide +kernel
theorem dX11_find_30 : decode cX11_find 30 = .ok (.goto 4, 3) := by decide +kernel
theorem dX11_find_33 : decode cX11_find 33 = .ok (.iload_n 3, 1) := by decide +kernel
theorem dX11_find_34 : decode cX11_find 34 = .ok (.istore_n 3, 1) := by decide +kernel
theorem dX11_find_35 : decode cX11_find 35 = .ok (.iinc 4 1, 3) := by decide +kernel
theorem dX11_find_38 : decode cX11_find 38 = .ok (.goto (-33), 3) := by decide +kernel
theorem dX11_find_41 : decode cX11_find 41 = .ok (.iload_n 3, 1) := by decide +kernel
theorem dX11_find_42 : decode cX11_find 42 = .ok (.ireturn, 1) := by decide +kernel
theorem dX11_newName_0 : decode cX11_newName 0 = .ok (.aload_n 0, 1) := by decide +kernel
theorem dX11_newName_1 : decode cX11_newName 1 = .ok (.invokevirtual 168, 3) := by decide +kernel
theorem dX11_newName_4 : decode cX11_newName 4 = .ok (.aload_n 0, 1) := by decide +kernel
theorem dX11_newName_5 : decode cX11_newName 5 = .ok (.invokevirtual 179, 3) := by decide +kernel
theorem dX11_newName_8 : decode cX11_newName 8 = .ok (.ifCond .ne 11, 3) := by decide +kernel
theorem dX11_newName_11 : decode cX11_newName 11 = .ok (.aload_n 0, 1) := by decide +kernel
theorem dX11_newName_12 : decode cX11_newName 12 = .ok (.iconst 2, 1) := by decide +kernel
theorem dX11_newName_13 : decode cX11_newName 13 = .ok (.invokevirtual 165, 3) := by decide +kernel
theorem dX11_newName_16 : decode cX11_newName 16 = .ok (.goto 17, 3) := by decide +kernel
theorem dX11_newName_19 : decode cX11_newName 19 = .ok (.aload_n 0, 1) := by decide +kernel
theorem dX11_newName_20 : decode cX11_newName 20 = .ok (.iload_n 1, 1) := by decide +kernel
theorem dX11_newName_21 : decode cX11_newName 21 = .ok (.iload_n 2, 1) := by decide +kernel
theorem dX11_newName_22 : decode cX11_newName 22 = .ok (.invokevirtual 183, 3) := by decide +kernel
theorem dX11_newName_25 : decode cX11_newName 25 = .ok (.ifCond .lt 8, 3) := by decide +kernel
theorem dX11_newName_28 : decode cX11_newName 28 = .ok (.aload_n 0, 1) := by decide +kernel
theorem dX11_newName_29 : decode cX11_newName 29 = .ok (.iconst 3, 1) := by decide +kernel
theorem dX11_newName_30 : decode cX11_newName 30 = .ok (.invokevirtual 165, 3) := by decide +kernel
theorem dX11_newName_33 : decode cX11_newName 33 = .ok (.aload_n 0, 1) := by decide +kernel
theorem dX11_newName_34 : decode cX11_newName 34 = .ok (.getfield 140, 3) := by decide +kernel
theorem dX11_newName_37 : decode cX11_newName 37 = .ok (.ifCond .le 4, 3) := by decide +kernel
theorem dX11_newName_40 : decode cX11_newName 40 = .ok (.return_, 1) := by decide +kernel
theorem dX11_newName_41 : decode cX11_newName 41 = .ok (.aload_n 0, 1) := by decide +kernel
theorem dX11_newName_42 : decode cX11_newName 42 = .ok (.getfield 17, 3) := by decide +kernel
theorem dX11_newName_45 : decode cX11_newName 45 = .ok (.iload_n 1, 1) := by decide +kernel
theorem dX11_newName_46 : decode cX11_newName 46 = .ok (.iload_n 2, 1) := by decide +kernel
theorem dX11_newName_47 : decode cX11_newName 47 = .ok (.iadd, 1) := by decide +kernel
theorem dX11_newName_48 : decode cX11_newName 48 = .ok (.aload_n 0, 1) := by decide +kernel
theorem dX11_newName_49 : decode cX11_newName 49 = .ok (.getfield 123, 3) := by decide +kernel
theorem dX11_newName_52 : decode cX11_newName 52 = .ok (.lastore, 1) := by decide +kernel
theorem dX11_newName_53 : decode cX11_newName 53 = .ok (.aload_n 0, 1) := by decide +kernel
theorem dX11_newName_54 : decode cX11_newName 54 = .ok (.invokevirtual 168, 3) := by decide +kernel
theorem dX11_newName_57 : decode cX11_newName 57 = .ok (.return_, 1) := by decide +kernel
theorem dX11_readHerd_0 : decode cX11_readHerd 0 = .ok (.aload_n 0, 1) := by decide +kernel
theorem dX11_readHerd_1 : decode cX11_readHerd 1 = .ok (.iconst 0, 1) := by decide +kernel
theorem dX11_readHerd_2 : decode cX11_readHerd 2 = .ok (.aload_n 0, 1) := by decide +kernel
theorem dX11_readHerd_3 : decode cX11_readHerd 3 = .ok (.getfield 186, 3) := by decide +kernel
theorem dX11_readHerd_6 : decode cX11_readHerd 6 = .ok (.invokevirtual 189, 3) := by decide +kernel
theorem dX11_readHerd_9 : decode cX11_readHerd 9 = .ok (.aload_n 0, 1) := by decide +kernel
theorem dX11_readHerd_10 : decode cX11_readHerd 10 = .ok (.getfield 140, 3) := by decide +kernel
theorem dX11_readHerd_13 : decode cX11_readHerd 13 = .ok (.ifCond .ne 13, 3) := by decide +kernel
theorem dX11_readHerd_16 : decode cX11_readHerd 16 = .ok (.aload_n 0, 1) := by decide +kernel
theorem dX11_readHerd_17 : decode cX11_readHerd 17 = .ok (.dup, 1) := by decide +kernel
theorem dX11_readHerd_18 : decode cX11_readHerd 18 = .ok (.getfield 186, 3) := by decide +kernel
theorem dX11_readHerd_21 : decode cX11_readHerd 21 = .ok (.iconst 1, 1) := by decide +kernel
theorem dX11_readHerd_22 : decode cX11_readHerd 22 = .ok (.iadd, 1) := by decide +kernel
theorem dX11_readHerd_23 : decode cX11_readHerd 23 = .ok (.putfield 186, 3) := by decide +kernel
theorem dX11_readHerd_26 : decode cX11_readHerd 26 = .ok (.return_, 1) := by decide +kernel
theorem dX11_readBell_0 : decode cX11_readBell 0 = .ok (.aload_n 0, 1) := by decide +kernel
theorem dX11_readBell_1 : decode cX11_readBell 1 = .ok (.getfield 27, 3) := by decide +kernel
theorem dX11_readBell_4 : decode cX11_readBell 4 = .ok (.aload_n 0, 1) := by decide +kernel
theorem dX11_readBell_5 : decode cX11_readBell 5 = .ok (.getfield 193, 3) := by decide +kernel
theorem dX11_readBell_8 : decode cX11_readBell 8 = .ok (.iload_n 1, 1) := by decide +kernel
theorem dX11_readBell_9 : decode cX11_readBell 9 = .ok (.iastore, 1) := by decide +kernel
theorem dX11_readBell_10 : decode cX11_readBell 10 = .ok (.aload_n 0, 1) := by decide +kernel
theorem dX11_readBell_11 : decode cX11_readBell 11 = .ok (.getfield 33, 3) := by decide +kernel
theorem dX11_readBell_14 : decode cX11_readBell 14 = .ok (.aload_n 0, 1) := by decide +kernel
theorem dX11_readBell_15 : decode cX11_readBell 15 = .ok (.getfield 193, 3) := by decide +kernel
theorem dX11_readBell_18 : decode cX11_readBell 18 = .ok (.iconst 0, 1) := by decide +kernel
theorem dX11_readBell_19 : decode cX11_readBell 19 = .ok (.iastore, 1) := by decide +kernel
theorem dX11_readBell_20 : decode cX11_readBell 20 = .ok (.aload_n 0, 1) := by decide +kernel
theorem dX11_readBell_21 : decode cX11_readBell 21 = .ok (.getfield 21, 3) := by decide +kernel
theorem dX11_readBell_24 : decode cX11_readBell 24 = .ok (.aload_n 0, 1) := by decide +kernel
theorem dX11_readBell_25 : decode cX11_readBell 25 = .ok (.getfield 193, 3) := by decide +kernel
theorem dX11_readBell_28 : decode cX11_readBell 28 = .ok (.aload_n 0, 1) := by decide +kernel
theorem dX11_readBell_29 : decode cX11_readBell 29 = .ok (.ldc2_w 149, 3) := by decide +kernel
theorem dX11_readBell_32 : decode cX11_readBell 32 = .ok (.iconst 0, 1) := by decide +kernel
theorem dX11_readBell_33 : decode cX11_readBell 33 = .ok (.bipush 11, 2) := by decide +kernel
theorem dX11_readBell_35 : decode cX11_readBell 35 = .ok (.invokevirtual 196, 3) := by decide +kernel
theorem dX11_readBell_38 : decode cX11_readBell 38 = .ok (.iastore, 1) := by decide +kernel
theorem dX11_readBell_39 : decode cX11_readBell 39 = .ok (.aload_n 0, 1) := by decide +kernel
theorem dX11_readBell_40 : decode cX11_readBell 40 = .ok (.getfield 24, 3) := by decide +kernel
theorem dX11_readBell_43 : decode cX11_readBell 43 = .ok (.aload_n 0, 1) := by decide +kernel
theorem dX11_readBell_44 : decode cX11_readBell 44 = .ok (.getfield 193, 3) := by decide +kernel
theorem dX11_readBell_47 : decode cX11_readBell 47 = .ok (.aload_n 0, 1) := by decide +kernel
theorem dX11_readBell_48 : decode cX11_readBell 48 = .ok (.ldc2_w 151, 3) := by decide +kernel
theorem dX11_readBell_51 : decode cX11_readBell 51 = .ok (.iconst 1, 1) := by decide +kernel
theorem dX11_readBell_52 : decode cX11_readBell 52 = .ok (.bipush 99, 2) := by decide +kernel
theorem dX11_readBell_54 : decode cX11_readBell 54 = .ok (.invokevirtual 196, 3) := by decide +kernel
theorem dX11_readBell_57 : decode cX11_readBell 57 = .ok (.iastore, 1) := by decide +kernel
theorem dX11_readBell_58 : decode cX11_readBell 58 = .ok (.aload_n 0, 1) := by decide +kernel
theorem dX11_readBell_59 : decode cX11_readBell 59 = .ok (.getfield 140, 3) := by decide +kernel
theorem dX11_readBell_62 : decode cX11_readBell 62 = .ok (.ifCond .ne 13, 3) := by decide +kernel
theorem dX11_readBell_65 : decode cX11_readBell 65 = .ok (.aload_n 0, 1) := by decide +kernel
theorem dX11_readBell_66 : decode cX11_readBell 66 = .ok (.dup, 1) := by decide +kernel
theorem dX11_readBell_67 : decode cX11_readBell 67 = .ok (.getfield 193, 3) := by decide +kernel
theorem dX11_readBell_70 : decode cX11_readBell 70 = .ok (.iconst 1, 1) := by decide +kernel
theorem dX11_readBell_71 : decode cX11_readBell 71 = .ok (.iadd, 1) := by decide +kernel
theorem dX11_readBell_72 : decode cX11_readBell 72 = .ok (.putfield 193, 3) := by decide +kernel
theorem dX11_readBell_75 : decode cX11_readBell 75 = .ok (.return_, 1) := by decide +kernel
theorem dX11_readBeast_0 : decode cX11_readBeast 0 = .ok (.aload_n 0, 1) := by decide +kernel
theorem dX11_readBeast_1 : decode cX11_readBeast 1 = .ok (.bipush 16, 2) := by decide +kernel
theorem dX11_readBeast_3 : decode cX11_readBeast 3 = .ok (.aload_n 0, 1) := by decide +kernel
theorem dX11_readBeast_4 : decode cX11_readBeast 4 = .ok (.getfield 193, 3) := by decide +kernel
theorem dX11_readBeast_7 : decode cX11_readBeast 7 = .ok (.invokevirtual 189, 3) := by decide +kernel
theorem dX11_readBeast_10 : decode cX11_readBeast 10 = .ok (.aload_n 0, 1) := by decide +kernel
theorem dX11_readBeast_11 : decode cX11_readBeast 11 = .ok (.ldc2_w 147, 3) := by decide +kernel
theorem dX11_readBeast_14 : decode cX11_readBeast 14 = .ok (.invokevirtual 171, 3) := by decide +kernel
theorem dX11_readBeast_17 : decode cX11_readBeast 17 = .ok (.aload_n 0, 1) := by decide +kernel
theorem dX11_readBeast_18 : decode cX11_readBeast 18 = .ok (.getfield 140, 3) := by decide +kernel
theorem dX11_readBeast_21 : decode cX11_readBeast 21 = .ok (.ifCond .le 4, 3) := by decide +kernel
theorem dX11_readBeast_24 : decode cX11_readBeast 24 = .ok (.return_, 1) := by decide +kernel
theorem dX11_readBeast_25 : decode cX11_readBeast 25 = .ok (.aload_n 0, 1) := by decide +kernel
theorem dX11_readBeast_26 : decode cX11_readBeast 26 = .ok (.iconst 0, 1) := by decide +kernel
theorem dX11_readBeast_27 : decode cX11_readBeast 27 = .ok (.aload_n 0, 1) := by decide +kernel
theorem dX11_readBeast_28 : decode cX11_readBeast 28 = .ok (.getfield 186, 3) := by decide +kernel
theorem dX11_readBeast_31 : decode cX11_readBeast 31 = .ok (.invokevirtual 183, 3) := by decide +kernel
theorem dX11_readBeast_34 : decode cX11_readBeast 34 = .ok (.istore_n 1, 1) := by decide +kernel
theorem dX11_readBeast_35 : decode cX11_readBeast 35 = .ok (.aload_n 0, 1) := by decide +kernel
theorem dX11_readBeast_36 : decode cX11_readBeast 36 = .ok (.invokevirtual 179, 3) := by decide +kernel
theorem dX11_readBeast_39 : decode cX11_readBeast 39 = .ok (.ifCond .ne 11, 3) := by decide +kernel
theorem dX11_readBeast_42 : decode cX11_readBeast 42 = .ok (.aload_n 0, 1) := by decide +kernel
theorem dX11_readBeast_43 : decode cX11_readBeast 43 = .ok (.iconst 2, 1) := by decide +kernel
theorem dX11_readBeast_44 : decode cX11_readBeast 44 = .ok (.invokevirtual 165, 3) := by decide +kernel
theorem dX11_readBeast_47 : decode cX11_readBeast 47 = .ok (.goto 12, 3) := by decide +kernel
theorem dX11_readBeast_50 : decode cX11_readBeast 50 = .ok (.iload_n 1, 1) := by decide +kernel
theorem dX11_readBeast_51 : decode cX11_readBeast 51 = .ok (.ifCond .ge 8, 3) := by decide +kernel
theorem dX11_readBeast_54 : decode cX11_readBeast 54 = .ok (.aload_n 0, 1) := by decide +kernel
theorem dX11_readBeast_55 : decode cX11_readBeast 55 = .ok (.iconst 5, 1) := by decide +kernel
theorem dX11_readBeast_56 : decode cX11_readBeast 56 = .ok (.invokevirtual 165, 3) := by decide +kernel
theorem dX11_readBeast_59 : decode cX11_readBeast 59 = .ok (.aload_n 0, 1) := by decide +kernel
theorem dX11_readBeast_60 : decode cX11_readBeast 60 = .ok (.getfield 140, 3) := by decide +kernel
theorem dX11_readBeast_63 : decode cX11_readBeast 63 = .ok (.ifCond .ne 7, 3) := by decide +kernel
theorem dX11_readBeast_66 : decode cX11_readBeast 66 = .ok (.aload_n 0, 1) := by decide +kernel
theorem dX11_readBeast_67 : decode cX11_readBeast 67 = .ok (.invokevirtual 168, 3) := by decide +kernel
theorem dX11_readBeast_70 : decode cX11_readBeast 70 = .ok (.aload_n 0, 1) := by decide +kernel
theorem dX11_readBeast_71 : decode cX11_readBeast 71 = .ok (.iload_n 1, 1) := by decide +kernel
theorem dX11_readBeast_72 : decode cX11_readBeast 72 = .ok (.invokevirtual 200, 3) := by decide +kernel
theorem dX11_readBeast_75 : decode cX11_readBeast 75 = .ok (.aload_n 0, 1) := by decide +kernel
theorem dX11_readBeast_76 : decode cX11_readBeast 76 = .ok (.getfield 140, 3) := by decide +kernel
theorem dX11_readBeast_79 : decode cX11_readBeast 79 = .ok (.ifCond .ne 13, 3) := by decide +kernel
theorem dX11_readBeast_82 : decode cX11_readBeast 82 = .ok (.aload_n 0, 1) := by decide +kernel
theorem dX11_readBeast_83 : decode cX11_readBeast 83 = .ok (.dup, 1) := by decide +kernel
theorem dX11_readBeast_84 : decode cX11_readBeast 84 = .ok (.getfield 203, 3) := by decide +kernel
theorem dX11_readBeast_87 : decode cX11_readBeast 87 = .ok (.iconst 1, 1) := by decide +kernel
theorem dX11_readBeast_88 : decode cX11_readBeast 88 = .ok (.iadd, 1) := by decide +kernel
theorem dX11_readBeast_89 : decode cX11_readBeast 89 = .ok (.putfield 203, 3) := by decide +kernel
theorem dX11_readBeast_92 : decode cX11_readBeast 92 = .ok (.return_, 1) := by decide +kernel
theorem dX11_readStranger_0 : decode cX11_readStranger 0 = .ok (.aload_n 0, 1) := by decide +kernel
theorem dX11_readStranger_1 : decode cX11_readStranger 1 = .ok (.bipush 16, 2) := by decide +kernel
theorem dX11_readStranger_3 : decode cX11_readStranger 3 = .ok (.aload_n 0, 1) := by decide +kernel
theorem dX11_readStranger_4 : decode cX11_readStranger 4 = .ok (.getfield 193, 3) := by decide +kernel
theorem dX11_readStranger_7 : decode cX11_readStranger 7 = .ok (.invokevirtual 189, 3) := by decide +kernel
theorem dX11_readStranger_10 : decode cX11_readStranger 10 = .ok (.aload_n 0, 1) := by decide +kernel
theorem dX11_readStranger_11 : decode cX11_readStranger 11 = .ok (.iconst (-1), 1) := by decide +kernel
theorem dX11_readStranger_12 : decode cX11_readStranger 12 = .ok (.invokevirtual 200, 3) := by decide +kernel
theorem dX11_readStranger_15 : decode cX11_readStranger 15 = .ok (.aload_n 0, 1) := by decide +kernel
theorem dX11_readStranger_16 : decode cX11_readStranger 16 = .ok (.getfield 140, 3) := by decide +kernel
theorem dX11_readStranger_19 : decode cX11_readStranger 19 = .ok (.ifCond .ne 13, 3) := by decide +kernel
theorem dX11_readStranger_22 : decode cX11_readStranger 22 = .ok (.aload_n 0, 1) := by decide +kernel
theorem dX11_readStranger_23 : decode cX11_readStranger 23 = .ok (.dup, 1) := by decide +kernel
theorem dX11_readStranger_24 : decode cX11_readStranger 24 = .ok (.getfield 206, 3) := by decide +kernel
theorem dX11_readStranger_27 : decode cX11_readStranger 27 = .ok (.iconst 1, 1) := by decide +kernel
theorem dX11_readStranger_28 : decode cX11_readStranger 28 = .ok (.iadd, 1) := by decide +kernel
theorem dX11_readStranger_29 : decode cX11_readStranger 29 = .ok (.putfield 206, 3) := by decide +kernel
theorem dX11_readStranger_32 : decode cX11_readStranger 32 = .ok (.return_, 1) := by decide +kernel
theorem dX11_readEar_0 : decode cX11_readEar 0 = .ok (.aload_n 0, 1) := by decide +kernel
theorem dX11_readEar_1 : decode cX11_readEar 1 = .ok (.bipush 32, 2) := by decide +kernel
theorem dX11_readEar_3 : decode cX11_readEar 3 = .ok (.aload_n 0, 1) := by decide +kernel
theorem dX11_readEar_4 : decode cX11_readEar 4 = .ok (.getfield 209, 3) := by decide +kernel
theorem dX11_readEar_7 : decode cX11_readEar 7 = .ok (.invokevirtual 189, 3) := by decide +kernel
theorem dX11_readEar_10 : decode cX11_readEar 10 = .ok (.aload_n 0, 1) := by decide +kernel
theorem dX11_readEar_11 : decode cX11_readEar 11 = .ok (.getfield 30, 3) := by decide +kernel
theorem dX11_readEar_14 : decode cX11_readEar 14 = .ok (.aload_n 0, 1) := by decide +kernel
theorem dX11_readEar_15 : decode cX11_readEar 15 = .ok (.getfield 209, 3) := by decide +kernel
theorem dX11_readEar_18 : decode cX11_readEar 18 = .ok (.aload_n 0, 1) := by decide +kernel
theorem dX11_readEar_19 : decode cX11_readEar 19 = .ok (.ldc2_w 157, 3) := by decide +kernel
theorem dX11_readEar_22 : decode cX11_readEar 22 = .ok (.iconst 0, 1) := by decide +kernel
theorem dX11_readEar_23 : decode cX11_readEar 23 = .ok (.bipush 99, 2) := by decide +kernel
theorem dX11_readEar_25 : decode cX11_readEar 25 = .ok (.invokevirtual 196, 3) := by decide +kernel
theorem dX11_readEar_28 : decode cX11_readEar 28 = .ok (.iastore, 1) := by decide +kernel
theorem dX11_readEar_29 : decode cX11_readEar 29 = .ok (.aload_n 0, 1) := by decide +kernel
theorem dX11_readEar_30 : decode cX11_readEar 30 = .ok (.getfield 140, 3) := by decide +kernel
theorem dX11_readEar_33 : decode cX11_readEar 33 = .ok (.ifCond .ne 13, 3) := by decide +kernel
theorem dX11_readEar_36 : decode cX11_readEar 36 = .ok (.aload_n 0, 1) := by decide +kernel
theorem dX11_readEar_37 : decode cX11_readEar 37 = .ok (.dup, 1) := by decide +kernel
theorem dX11_readEar_38 : decode cX11_readEar 38 = .ok (.getfield 209, 3) := by decide +kernel
theorem dX11_readEar_41 : decode cX11_readEar 41 = .ok (.iconst 1, 1) := by decide +kernel
theorem dX11_readEar_42 : decode cX11_readEar 42 = .ok (.iadd, 1) := by decide +kernel
theorem dX11_readEar_43 : decode cX11_readEar 43 = .ok (.putfield 209, 3) := by decide +kernel
theorem dX11_readEar_46 : decode cX11_readEar 46 = .ok (.return_, 1) := by decide +kernel
theorem dX11_old_0 : decode cX11_old 0 = .ok (.aload_n 0, 1) := by decide +kernel
theorem dX11_old_1 : decode cX11_old 1 = .ok (.getfield 140, 3) := by decide +kernel
theorem dX11_old_4 : decode cX11_old 4 = .ok (.ifCond .le 5, 3) := by decide +kernel
theorem dX11_old_7 : decode cX11_old 7 = .ok (.iconst 0, 1) := by decide +kernel
theorem dX11_old_8 : decode cX11_old 8 = .ok (.ireturn, 1) := by decide +kernel
theorem dX11_old_9 : decode cX11_old 9 = .ok (.aload_n 0, 1) := by decide +kernel
theorem dX11_old_10 : decode cX11_old 10 = .ok (.bipush 16, 2) := by decide +kernel
theorem dX11_old_12 : decode cX11_old 12 = .ok (.aload_n 0, 1) := by decide +kernel
theorem dX11_old_13 : decode cX11_old 13 = .ok (.getfield 193, 3) := by decide +kernel
theorem dX11_old_16 : decode cX11_old 16 = .ok (.invokevirtual 183, 3) := by decide +kernel
theorem dX11_old_19 : decode cX11_old 19 = .ok (.istore_n 1, 1) := by decide +kernel
theorem dX11_old_20 : decode cX11_old 20 = .ok (.aload_n 0, 1) := by decide +kernel
theorem dX11_old_21 : decode cX11_old 21 = .ok (.invokevirtual 179, 3) := by decide +kernel
theorem dX11_old_24 : decode cX11_old 24 = .ok (.ifCond .ne 11, 3) := by decide +kernel
theorem dX11_old_27 : decode cX11_old 27 = .ok (.aload_n 0, 1) := by decide +kernel
theorem dX11_old_28 : decode cX11_old 28 = .ok (.iconst 2, 1) := by decide +kernel
theorem dX11_old_29 : decode cX11_old 29 = .ok (.invokevirtual 165, 3) := by decide +kernel
theorem dX11_old_32 : decode cX11_old 32 = .ok (.goto 21, 3) := by decide +kernel
theorem dX11_old_35 : decode cX11_old 35 = .ok (.iload_n 1, 1) := by decide +kernel
theorem dX11_old_36 : decode cX11_old 36 = .ok (.ifCond .lt 12, 3) := by decide +kernel
theorem dX11_old_39 : decode cX11_old 39 = .ok (.aload_n 0, 1) := by decide +kernel
theorem dX11_old_40 : decode cX11_old 40 = .ok (.getfield 27, 3) := by decide +kernel
theorem dX11_old_43 : decode cX11_old 43 = .ok (.iload_n 1, 1) := by decide +kernel
theorem dX11_old_44 : decode cX11_old 44 = .ok (.iaload, 1) := by decide +kernel
theorem dX11_old_45 : decode cX11_old 45 = .ok (.ifCond .ge 8, 3) := by decide +kernel
theorem dX11_old_48 : decode cX11_old 48 = .ok (.aload_n 0, 1) := by decide +kernel
theorem dX11_old_49 : decode cX11_old 49 = .ok (.iconst 5, 1) := by decide +kernel
theorem dX11_old_50 : decode cX11_old 50 = .ok (.invokevirtual 165, 3) := by decide +kernel
theorem dX11_old_53 : decode cX11_old 53 = .ok (.iload_n 1, 1) := by decide +kernel
theorem dX11_old_54 : decode cX11_old 54 = .ok (.ireturn, 1) := by decide +kernel
theorem dX11_readBeside_0 : decode cX11_readBeside 0 = .ok (.aload_n 0, 1) := by decide +kernel
theorem dX11_readBeside_1 : decode cX11_readBeside 1 = .ok (.invokevirtual 168, 3) := by decide +kernel
theorem dX11_readBeside_4 : decode cX11_readBeside 4 = .ok (.aload_n 0, 1) := by decide +kernel
theorem dX11_readBeside_5 : decode cX11_readBeside 5 = .ok (.invokevirtual 212, 3) := by decide +kernel
theorem dX11_readBeside_8 : decode cX11_readBeside 8 = .ok (.istore_n 1, 1) := by decide +kernel
theorem dX11_readBeside_9 : decode cX11_readBeside 9 = .ok (.aload_n 0, 1) := by decide +kernel
theorem dX11_readBeside_10 : decode cX11_readBeside 10 = .ok (.getfield 140, 3) := by decide +kernel
theorem dX11_readBeside_13 : decode cX11_readBeside 13 = .ok (.ifCond .ne 7, 3) := by decide +kernel
theorem dX11_readBeside_16 : decode cX11_readBeside 16 = .ok (.aload_n 0, 1) := by decide +kernel
theorem dX11_readBeside_17 : decode cX11_readBeside 17 = .ok (.invokevirtual 168, 3) := by decide +kernel
theorem dX11_readBeside_20 : decode cX11_readBeside 20 = .ok (.aload_n 0, 1) := by decide +kernel
theorem dX11_readBeside_21 : decode cX11_readBeside 21 = .ok (.invokevirtual 212, 3) := by decide +kernel
theorem dX11_readBeside_24 : decode cX11_readBeside 24 = .ok (.istore_n 2, 1) := by decide +kernel
theorem dX11_readBeside_25 : decode cX11_readBeside 25 = .ok (.aload_n 0, 1) := by decide +kernel
theorem dX11_readBeside_26 : decode cX11_readBeside 26 = .ok (.getfield 140, 3) := by decide +kernel
theorem dX11_readBeside_29 : decode cX11_readBeside 29 = .ok (.ifCond .ne 27, 3) := by decide +kernel
theorem dX11_readBeside_32 : decode cX11_readBeside 32 = .ok (.iload_n 1, 1) := by decide +kernel
theorem dX11_readBeside_33 : decode cX11_readBeside 33 = .ok (.iload_n 2, 1) := by decide +kernel
theorem dX11_readBeside_34 : decode cX11_readBeside 34 = .ok (.if_icmp .eq 17, 3) := by decide +kernel
theorem dX11_readBeside_37 : decode cX11_readBeside 37 = .ok (.aload_n 0, 1) := by decide +kernel
theorem dX11_readBeside_38 : decode cX11_readBeside 38 = .ok (.getfield 33, 3) := by decide +kernel
theorem dX11_readBeside_41 : decode cX11_readBeside 41 = .ok (.iload_n 1, 1) := by decide +kernel
theorem dX11_readBeside_42 : decode cX11_readBeside 42 = .ok (.iaload, 1) := by decide +kernel
theorem dX11_readBeside_43 : decode cX11_readBeside 43 = .ok (.iload_n 2, 1) := by decide +kernel
theorem dX11_readBeside_44 : decode cX11_readBeside 44 = .ok (.ishr, 1) := by decide +kernel
theorem dX11_readBeside_45 : decode cX11_readBeside 45 = .ok (.iconst 1, 1) := by decide +kernel
theorem dX11_readBeside_46 : decode cX11_readBeside 46 = .ok (.iand, 1) := by decide +kernel
theorem dX11_readBeside_47 : decode cX11_readBeside 47 = .ok (.iconst 1, 1) := by decide +kernel
theorem dX11_readBeside_48 : decode cX11_readBeside 48 = .ok (.if_icmp .ne 8, 3) := by decide +kernel
theorem dX11_readBeside_51 : decode cX11_readBeside 51 = .ok (.aload_n 0, 1) := by decide +kernel
theorem dX11_readBeside_52 : decode cX11_readBeside 52 = .ok (.iconst 3, 1) := by decide +kernel
theorem dX11_readBeside_53 : decode cX11_readBeside 53 = .ok (.invokevirtual 165, 3) := by decide +kernel
theorem dX11_readBeside_56 : decode cX11_readBeside 56 = .ok (.aload_n 0, 1) := by decide +kernel
theorem dX11_readBeside_57 : decode cX11_readBeside 57 = .ok (.getfield 140, 3) := by decide +kernel
theorem dX11_readBeside_60 : decode cX11_readBeside 60 = .ok (.ifCond .le 4, 3) := by decide +kernel
theorem dX11_readBeside_63 : decode cX11_readBeside 63 = .ok (.return_, 1) := by decide +kernel
theorem dX11_readBeside_64 : decode cX11_readBeside 64 = .ok (.aload_n 0, 1) := by decide +kernel
theorem dX11_readBeside_65 : decode cX11_readBeside 65 = .ok (.invokevirtual 168, 3) := by decide +kernel
theorem dX11_readBeside_68 : decode cX11_readBeside 68 = .ok (.aload_n 0, 1) := by decide +kernel
theorem dX11_readBeside_69 : decode cX11_readBeside 69 = .ok (.getfield 33, 3) := by decide +kernel
theorem dX11_readBeside_72 : decode cX11_readBeside 72 = .ok (.iload_n 1, 1) := by decide +kernel
theorem dX11_readBeside_73 : decode cX11_readBeside 73 = .ok (.dup2, 1) := by decide +kernel
theorem dX11_readBeside_74 : decode cX11_readBeside 74 = .ok (.iaload, 1) := by decide +kernel
theorem dX11_readBeside_75 : decode cX11_readBeside 75 = .ok (.iconst 1, 1) := by decide +kernel
theorem dX11_readBeside_76 : decode cX11_readBeside 76 = .ok (.iload_n 2, 1) := by decide +kernel
theorem dX11_readBeside_77 : decode cX11_readBeside 77 = .ok (.ishl, 1) := by decide +kernel
theorem dX11_readBeside_78 : decode cX11_readBeside 78 = .ok (.ior, 1) := by decide +kernel
theorem dX11_readBeside_79 : decode cX11_readBeside 79 = .ok (.iastore, 1) := by decide +kernel
theorem dX11_readBeside_80 : decode cX11_readBeside 80 = .ok (.aload_n 0, 1) := by decide +kernel
theorem dX11_readBeside_81 : decode cX11_readBeside 81 = .ok (.getfield 33, 3) := by decide +kernel
theorem dX11_readBeside_84 : decode cX11_readBeside 84 = .ok (.iload_n 2, 1) := by decide +kernel
theorem dX11_readBeside_85 : decode cX11_readBeside 85 = .ok (.dup2, 1) := by decide +kernel
theorem dX11_readBeside_86 : decode cX11_readBeside 86 = .ok (.iaload, 1) := by decide +kernel
theorem dX11_readBeside_87 : decode cX11_readBeside 87 = .ok (.iconst 1, 1) := by decide +kernel
theorem dX11_readBeside_88 : decode cX11_readBeside 88 = .ok (.iload_n 1, 1) := by decide +kernel
theorem dX11_readBeside_89 : decode cX11_readBeside 89 = .ok (.ishl, 1) := by decide +kernel
theorem dX11_readBeside_90 : decode cX11_readBeside 90 = .ok (.ior, 1) := by decide +kernel
theorem dX11_readBeside_91 : decode cX11_readBeside 91 = .ok (.iastore, 1) := by decide +kernel
theorem dX11_readBeside_92 : decode cX11_readBeside 92 = .ok (.aload_n 0, 1) := by decide +kernel
theorem dX11_readBeside_93 : decode cX11_readBeside 93 = .ok (.dup, 1) := by decide +kernel
theorem dX11_readBeside_94 : decode cX11_readBeside 94 = .ok (.getfield 216, 3) := by decide +kernel
theorem dX11_readBeside_97 : decode cX11_readBeside 97 = .ok (.iconst 1, 1) := by decide +kernel
theorem dX11_readBeside_98 : decode cX11_readBeside 98 = .ok (.iadd, 1) := by decide +kernel
theorem dX11_readBeside_99 : decode cX11_readBeside 99 = .ok (.putfield 216, 3) := by decide +kernel
theorem dX11_readBeside_102 : decode cX11_readBeside 102 = .ok (.return_, 1) := by decide +kernel
theorem dX11_readLine_0 : decode cX11_readLine 0 = .ok (.aload_n 0, 1) := by decide +kernel
theorem dX11_readLine_1 : decode cX11_readLine 1 = .ok (.ldc2_w 143, 3) := by decide +kernel
theorem dX11_readLine_4 : decode cX11_readLine 4 = .ok (.invokevirtual 161, 3) := by decide +kernel
theorem dX11_readLine_7 : decode cX11_readLine 7 = .ok (.ifCond .eq 18, 3) := by decide +kernel
theorem dX11_readLine_10 : decode cX11_readLine 10 = .ok (.aload_n 0, 1) := by decide +kernel
theorem dX11_readLine_11 : decode cX11_readLine 11 = .ok (.getfield 186, 3) := by decide +kernel
theorem dX11_readLine_14 : decode cX11_readLine 14 = .ok (.iconst 3, 1) := by decide +kernel
theorem dX11_readLine_15 : decode cX11_readLine 15 = .ok (.if_icmp .ge 10, 3) := by decide +kernel
theorem dX11_readLine_18 : decode cX11_readLine 18 = .ok (.aload_n 0, 1) := by decide +kernel
theorem dX11_readLine_19 : decode cX11_readLine 19 = .ok (.invokevirtual 219, 3) := by decide +kernel
theorem dX11_readLine_22 : decode cX11_readLine 22 = .ok (.goto 110, 3) := by decide +kernel
theorem dX11_readLine_25 : decode cX11_readLine 25 = .ok (.aload_n 0, 1) := by decide +kernel
theorem dX11_readLine_26 : decode cX11_readLine 26 = .ok (.ldc2_w 145, 3) := by decide +kernel
theorem dX11_readLine_29 : decode cX11_readLine 29 = .ok (.invokevirtual 161, 3) := by decide +kernel
theorem dX11_readLine_32 : decode cX11_readLine 32 = .ok (.ifCond .eq 19, 3) := by decide +kernel
theorem dX11_readLine_35 : decode cX11_readLine 35 = .ok (.aload_n 0, 1) := by decide +kernel
theorem dX11_readLine_36 : decode cX11_readLine 36 = .ok (.getfield 203, 3) := by decide +kernel
theorem dX11_readLine_39 : decode cX11_readLine 39 = .ok (.bipush 9, 2) := by decide +kernel
theorem dX11_readLine_41 : decode cX11_readLine 41 = .ok (.if_icmp .ge 10, 3) := by decide +kernel
theorem dX11_readLine_44 : decode cX11_readLine 44 = .ok (.aload_n 0, 1) := by decide +kernel
theorem dX11_readLine_45 : decode cX11_readLine 45 = .ok (.invokevirtual 222, 3) := by decide +kernel
theorem dX11_readLine_48 : decode cX11_readLine 48 = .ok (.goto 84, 3) := by decide +kernel
theorem dX11_readLine_51 : decode cX11_readLine 51 = .ok (.aload_n 0, 1) := by decide +kernel
theorem dX11_readLine_52 : decode cX11_readLine 52 = .ok (.ldc2_w 153, 3) := by decide +kernel
theorem dX11_readLine_55 : decode cX11_readLine 55 = .ok (.invokevirtual 161, 3) := by decide +kernel
theorem dX11_readLine_58 : decode cX11_readLine 58 = .ok (.ifCond .eq 18, 3) := by decide +kernel
theorem dX11_readLine_61 : decode cX11_readLine 61 = .ok (.aload_n 0, 1) := by decide +kernel
theorem dX11_readLine_62 : decode cX11_readLine 62 = .ok (.getfield 206, 3) := by decide +kernel
theorem dX11_readLine_65 : decode cX11_readLine 65 = .ok (.iconst 2, 1) := by decide +kernel
theorem dX11_readLine_66 : decode cX11_readLine 66 = .ok (.if_icmp .ge 10, 3) := by decide +kernel
theorem dX11_readLine_69 : decode cX11_readLine 69 = .ok (.aload_n 0, 1) := by decide +kernel
theorem dX11_readLine_70 : decode cX11_readLine 70 = .ok (.invokevirtual 225, 3) := by decide +kernel
theorem dX11_readLine_73 : decode cX11_readLine 73 = .ok (.goto 59, 3) := by decide +kernel
theorem dX11_readLine_76 : decode cX11_readLine 76 = .ok (.aload_n 0, 1) := by decide +kernel
theorem dX11_readLine_77 : decode cX11_readLine 77 = .ok (.ldc2_w 155, 3) := by decide +kernel
theorem dX11_readLine_80 : decode cX11_readLine 80 = .ok (.invokevirtual 161, 3) := by decide +kernel
theorem dX11_readLine_83 : decode cX11_readLine 83 = .ok (.ifCond .eq 18, 3) := by decide +kernel
theorem dX11_readLine_86 : decode cX11_readLine 86 = .ok (.aload_n 0, 1) := by decide +kernel
theorem dX11_readLine_87 : decode cX11_readLine 87 = .ok (.getfield 209, 3) := by decide +kernel
theorem dX11_readLine_90 : decode cX11_readLine 90 = .ok (.iconst 4, 1) := by decide +kernel
theorem dX11_readLine_91 : decode cX11_readLine 91 = .ok (.if_icmp .ge 10, 3) := by decide +kernel
theorem dX11_readLine_94 : decode cX11_readLine 94 = .ok (.aload_n 0, 1) := by decide +kernel
theorem dX11_readLine_95 : decode cX11_readLine 95 = .ok (.invokevirtual 228, 3) := by decide +kernel
theorem dX11_readLine_98 : decode cX11_readLine 98 = .ok (.goto 34, 3) := by decide +kernel
theorem dX11_readLine_101 : decode cX11_readLine 101 = .ok (.aload_n 0, 1) := by decide +kernel
theorem dX11_readLine_102 : decode cX11_readLine 102 = .ok (.ldc2_w 159, 3) := by decide +kernel
theorem dX11_readLine_105 : decode cX11_readLine 105 = .ok (.invokevirtual 161, 3) := by decide +kernel
theorem dX11_readLine_108 : decode cX11_readLine 108 = .ok (.ifCond .eq 19, 3) := by decide +kernel
theorem dX11_readLine_111 : decode cX11_readLine 111 = .ok (.aload_n 0, 1) := by decide +kernel
theorem dX11_readLine_112 : decode cX11_readLine 112 = .ok (.getfield 216, 3) := by decide +kernel
theorem dX11_readLine_115 : decode cX11_readLine 115 = .ok (.bipush 20, 2) := by decide +kernel
theorem dX11_readLine_117 : decode cX11_readLine 117 = .ok (.if_icmp .ge 10, 3) := by decide +kernel
theorem dX11_readLine_120 : decode cX11_readLine 120 = .ok (.aload_n 0, 1) := by decide +kernel
theorem dX11_readLine_121 : decode cX11_readLine 121 = .ok (.invokevirtual 231, 3) := by decide +kernel
theorem dX11_readLine_124 : decode cX11_readLine 124 = .ok (.goto 8, 3) := by decide +kernel
theorem dX11_readLine_127 : decode cX11_readLine 127 = .ok (.aload_n 0, 1) := by decide +kernel
theorem dX11_readLine_128 : decode cX11_readLine 128 = .ok (.iconst 2, 1) := by decide +kernel
theorem dX11_readLine_129 : decode cX11_readLine 129 = .ok (.invokevirtual 165, 3) := by decide +kernel
theorem dX11_readLine_132 : decode cX11_readLine 132 = .ok (.aload_n 0, 1) := by decide +kernel
theorem dX11_readLine_133 : decode cX11_readLine 133 = .ok (.getfield 140, 3) := by decide +kernel
theorem dX11_readLine_136 : decode cX11_readLine 136 = .ok (.ifCond .ne 17, 3) := by decide +kernel
theorem dX11_readLine_139 : decode cX11_readLine 139 = .ok (.aload_n 0, 1) := by decide +kernel
theorem dX11_readLine_140 : decode cX11_readLine 140 = .ok (.getfield 130, 3) := by decide +kernel
theorem dX11_readLine_143 : decode cX11_readLine 143 = .ok (.bipush 59, 2) := by decide +kernel
theorem dX11_readLine_145 : decode cX11_readLine 145 = .ok (.if_icmp .eq 8, 3) := by decide +kernel
theorem dX11_readLine_148 : decode cX11_readLine 148 = .ok (.aload_n 0, 1) := by decide +kernel
theorem dX11_readLine_149 : decode cX11_readLine 149 = .ok (.iconst 2, 1) := by decide +kernel
theorem dX11_readLine_150 : decode cX11_readLine 150 = .ok (.invokevirtual 165, 3) := by decide +kernel
theorem dX11_readLine_153 : decode cX11_readLine 153 = .ok (.aload_n 0, 1) := by decide +kernel
theorem dX11_readLine_154 : decode cX11_readLine 154 = .ok (.getfield 140, 3) := by decide +kernel
theorem dX11_readLine_157 : decode cX11_readLine 157 = .ok (.ifCond .ne 7, 3) := by decide +kernel
theorem dX11_readLine_160 : decode cX11_readLine 160 = .ok (.aload_n 0, 1) := by decide +kernel
theorem dX11_readLine_161 : decode cX11_readLine 161 = .ok (.invokevirtual 168, 3) := by decide +kernel
theorem dX11_readLine_164 : decode cX11_readLine 164 = .ok (.return_, 1) := by decide +kernel
theorem dX11_readAll_0 : decode cX11_readAll 0 = .ok (.aload_n 0, 1) := by decide +kernel
theorem dX11_readAll_1 : decode cX11_readAll 1 = .ok (.aload_n 0, 1) := by decide +kernel
theorem dX11_readAll_2 : decode cX11_readAll 2 = .ok (.getfield 103, 3) := by decide +kernel
theorem dX11_readAll_5 : decode cX11_readAll 5 = .ok (.putfield 113, 3) := by decide +kernel
theorem dX11_readAll_8 : decode cX11_readAll 8 = .ok (.aload_n 0, 1) := by decide +kernel
theorem dX11_readAll_9 : decode cX11_readAll 9 = .ok (.iconst 0, 1) := by decide +kernel
theorem dX11_readAll_10 : decode cX11_readAll 10 = .ok (.putfield 103, 3) := by decide +kernel
theorem dX11_readAll_13 : decode cX11_readAll 13 = .ok (.aload_n 0, 1) := by decide +kernel
theorem dX11_readAll_14 : decode cX11_readAll 14 = .ok (.iconst 0, 1) := by decide +kernel
theorem dX11_readAll_15 : decode cX11_readAll 15 = .ok (.putfield 110, 3) := by decide +kernel
theorem dX11_readAll_18 : decode cX11_readAll 18 = .ok (.aload_n 0, 1) := by decide +kernel
theorem dX11_readAll_19 : decode cX11_readAll 19 = .ok (.iconst 0, 1) := by decide +kernel
theorem dX11_readAll_20 : decode cX11_readAll 20 = .ok (.putfield 140, 3) := by decide +kernel
theorem dX11_readAll_23 : decode cX11_readAll 23 = .ok (.aload_n 0, 1) := by decide +kernel
theorem dX11_readAll_24 : decode cX11_readAll 24 = .ok (.iconst (-1), 1) := by decide +kernel
theorem dX11_readAll_25 : decode cX11_readAll 25 = .ok (.putfield 13, 3) := by decide +kernel
theorem dX11_readAll_28 : decode cX11_readAll 28 = .ok (.aload_n 0, 1) := by decide +kernel
theorem dX11_readAll_29 : decode cX11_readAll 29 = .ok (.iconst 0, 1) := by decide +kernel
theorem dX11_readAll_30 : decode cX11_readAll 30 = .ok (.putfield 186, 3) := by decide +kernel
theorem dX11_readAll_33 : decode cX11_readAll 33 = .ok (.aload_n 0, 1) := by decide +kernel
theorem dX11_readAll_34 : decode cX11_readAll 34 = .ok (.iconst 0, 1) := by decide +kernel
theorem dX11_readAll_35 : decode cX11_readAll 35 = .ok (.putfield 193, 3) := by decide +kernel
theorem dX11_readAll_38 : decode cX11_readAll 38 = .ok (.aload_n 0, 1) := by decide +kernel
theorem dX11_readAll_39 : decode cX11_readAll 39 = .ok (.iconst 0, 1) := by decide +kernel
theorem dX11_readAll_40 : decode cX11_readAll 40 = .ok (.putfield 203, 3) := by decide +kernel
theorem dX11_readAll_43 : decode cX11_readAll 43 = .ok (.aload_n 0, 1) := by decide +kernel
theorem dX11_readAll_44 : decode cX11_readAll 44 = .ok (.iconst 0, 1) := by decide +kernel
theorem dX11_readAll_45 : decode cX11_readAll 45 = .ok (.putfield 206, 3) := by decide +kernel
theorem dX11_readAll_48 : decode cX11_readAll 48 = .ok (.aload_n 0, 1) := by decide +kernel
theorem dX11_readAll_49 : decode cX11_readAll 49 = .ok (.iconst 0, 1) := by decide +kernel
theorem dX11_readAll_50 : decode cX11_readAll 50 = .ok (.putfield 209, 3) := by decide +kernel
theorem dX11_readAll_53 : decode cX11_readAll 53 = .ok (.aload_n 0, 1) := by decide +kernel
theorem dX11_readAll_54 : decode cX11_readAll 54 = .ok (.iconst 0, 1) := by decide +kernel
theorem dX11_readAll_55 : decode cX11_readAll 55 = .ok (.putfield 216, 3) := by decide +kernel
theorem dX11_readAll_58 : decode cX11_readAll 58 = .ok (.aload_n 0, 1) := by decide +kernel
theorem dX11_readAll_59 : decode cX11_readAll 59 = .ok (.invokevirtual 168, 3) := by decide +kernel
theorem dX11_readAll_62 : decode cX11_readAll 62 = .ok (.aload_n 0, 1) := by decide +kernel
theorem dX11_readAll_63 : decode cX11_readAll 63 = .ok (.getfield 140, 3) := by decide +kernel
theorem dX11_readAll_66 : decode cX11_readAll 66 = .ok (.ifCond .ne 17, 3) := by decide +kernel
theorem dX11_readAll_69 : decode cX11_readAll 69 = .ok (.aload_n 0, 1) := by decide +kernel
theorem dX11_readAll_70 : decode cX11_readAll 70 = .ok (.getfield 130, 3) := by decide +kernel
theorem dX11_readAll_73 : decode cX11_readAll 73 = .ok (.ifCond .eq 10, 3) := by decide +kernel
theorem dX11_readAll_76 : decode cX11_readAll 76 = .ok (.aload_n 0, 1) := by decide +kernel
theorem dX11_readAll_77 : decode cX11_readAll 77 = .ok (.invokevirtual 234, 3) := by decide +kernel
theorem dX11_readAll_80 : decode cX11_readAll 80 = .ok (.goto (-18), 3) := by decide +kernel
theorem dX11_readAll_83 : decode cX11_readAll 83 = .ok (.return_, 1) := by decide +kernel
theorem dX11_valley_0 : decode cX11_valley 0 = .ok (.aload_n 0, 1) := by decide +kernel
theorem dX11_valley_1 : decode cX11_valley 1 = .ok (.invokevirtual 237, 3) := by decide +kernel
theorem dX11_valley_4 : decode cX11_valley 4 = .ok (.aload_n 0, 1) := by decide +kernel
theorem dX11_valley_5 : decode cX11_valley 5 = .ok (.getfield 140, 3) := by decide +kernel
theorem dX11_valley_8 : decode cX11_valley 8 = .ok (.ifCond .le 5, 3) := by decide +kernel
theorem dX11_valley_11 : decode cX11_valley 11 = .ok (.iconst (-1), 1) := by decide +kernel
theorem dX11_valley_12 : decode cX11_valley 12 = .ok (.ireturn, 1) := by decide +kernel
theorem dX11_valley_13 : decode cX11_valley 13 = .ok (.aload_n 0, 1) := by decide +kernel
theorem dX11_valley_14 : decode cX11_valley 14 = .ok (.aload_n 0, 1) := by decide +kernel
theorem dX11_valley_15 : decode cX11_valley 15 = .ok (.getfield 186, 3) := by decide +kernel
theorem dX11_valley_18 : decode cX11_valley 18 = .ok (.putfield 240, 3) := by decide +kernel
theorem dX11_valley_21 : decode cX11_valley 21 = .ok (.aload_n 0, 1) := by decide +kernel
theorem dX11_valley_22 : decode cX11_valley 22 = .ok (.aload_n 0, 1) := by decide +kernel
theorem dX11_valley_23 : decode cX11_valley 23 = .ok (.getfield 193, 3) := by decide +kernel
theorem dX11_valley_26 : decode cX11_valley 26 = .ok (.putfield 243, 3) := by decide +kernel
theorem dX11_valley_29 : decode cX11_valley 29 = .ok (.aload_n 0, 1) := by decide +kernel
theorem dX11_valley_30 : decode cX11_valley 30 = .ok (.aload_n 0, 1) := by decide +kernel
theorem dX11_valley_31 : decode cX11_valley 31 = .ok (.getfield 206, 3) := by decide +kernel
theorem dX11_valley_34 : decode cX11_valley 34 = .ok (.putfield 246, 3) := by decide +kernel
theorem dX11_valley_37 : decode cX11_valley 37 = .ok (.aload_n 0, 1) := by decide +kernel
theorem dX11_valley_38 : decode cX11_valley 38 = .ok (.aload_n 0, 1) := by decide +kernel
theorem dX11_valley_39 : decode cX11_valley 39 = .ok (.getfield 209, 3) := by decide +kernel
theorem dX11_valley_42 : decode cX11_valley 42 = .ok (.putfield 249, 3) := by decide +kernel
theorem dX11_valley_45 : decode cX11_valley 45 = .ok (.aload_n 0, 1) := by decide +kernel
theorem dX11_valley_46 : decode cX11_valley 46 = .ok (.iconst 0, 1) := by decide +kernel
theorem dX11_valley_47 : decode cX11_valley 47 = .ok (.putfield 252, 3) := by decide +kernel
theorem dX11_valley_50 : decode cX11_valley 50 = .ok (.iconst 0, 1) := by decide +kernel
theorem dX11_valley_51 : decode cX11_valley 51 = .ok (.istore_n 1, 1) := by decide +kernel
theorem dX11_valley_52 : decode cX11_valley 52 = .ok (.iload_n 1, 1) := by decide +kernel
theorem dX11_valley_53 : decode cX11_valley 53 = .ok (.bipush 11, 2) := by decide +kernel
theorem dX11_valley_55 : decode cX11_valley 55 = .ok (.if_icmp .ge 104, 3) := by decide +kernel
theorem dX11_valley_58 : decode cX11_valley 58 = .ok (.aload_n 0, 1) := by decide +kernel
theorem dX11_valley_59 : decode cX11_valley 59 = .ok (.getfield 36, 3) := by decide +kernel
theorem dX11_valley_62 : decode cX11_valley 62 = .ok (.iload_n 1, 1) := by decide +kernel
theorem dX11_valley_63 : decode cX11_valley 63 = .ok (.aload_n 0, 1) := by decide +kernel
theorem dX11_valley_64 : decode cX11_valley 64 = .ok (.getfield 21, 3) := by decide +kernel
theorem dX11_valley_67 : decode cX11_valley 67 = .ok (.iload_n 1, 1) := by decide +kernel
theorem dX11_valley_68 : decode cX11_valley 68 = .ok (.iaload, 1) := by decide +kernel
theorem dX11_valley_69 : decode cX11_valley 69 = .ok (.iastore, 1) := by decide +kernel
theorem dX11_valley_70 : decode cX11_valley 70 = .ok (.aload_n 0, 1) := by decide +kernel
theorem dX11_valley_71 : decode cX11_valley 71 = .ok (.getfield 39, 3) := by decide +kernel
theorem dX11_valley_74 : decode cX11_valley 74 = .ok (.iload_n 1, 1) := by decide +kernel
theorem dX11_valley_75 : decode cX11_valley 75 = .ok (.aload_n 0, 1) := by decide +kernel
theorem dX11_valley_76 : decode cX11_valley 76 = .ok (.getfield 24, 3) := by decide +kernel
theorem dX11_valley_79 : decode cX11_valley 79 = .ok (.iload_n 1, 1) := by decide +kernel
theorem dX11_valley_80 : decode cX11_valley 80 = .ok (.iaload, 1) := by decide +kernel
theorem dX11_valley_81 : decode cX11_valley 81 = .ok (.iastore, 1) := by decide +kernel
theorem dX11_valley_82 : decode cX11_valley 82 = .ok (.aload_n 0, 1) := by decide +kernel
theorem dX11_valley_83 : decode cX11_valley 83 = .ok (.getfield 42, 3) := by decide +kernel
theorem dX11_valley_86 : decode cX11_valley 86 = .ok (.iload_n 1, 1) := by decide +kernel
theorem dX11_valley_87 : decode cX11_valley 87 = .ok (.aload_n 0, 1) := by decide +kernel
theorem dX11_valley_88 : decode cX11_valley 88 = .ok (.getfield 27, 3) := by decide +kernel
theorem dX11_valley_91 : decode cX11_valley 91 = .ok (.iload_n 1, 1) := by decide +kernel
theorem dX11_valley_92 : decode cX11_valley 92 = .ok (.iaload, 1) := by decide +kernel
theorem dX11_valley_93 : decode cX11_valley 93 = .ok (.iastore, 1) := by decide +kernel
theorem dX11_valley_94 : decode cX11_valley 94 = .ok (.aload_n 0, 1) := by decide +kernel
theorem dX11_valley_95 : decode cX11_valley 95 = .ok (.getfield 48, 3) := by decide +kernel
theorem dX11_valley_98 : decode cX11_valley 98 = .ok (.iload_n 1, 1) := by decide +kernel
theorem dX11_valley_99 : decode cX11_valley 99 = .ok (.aload_n 0, 1) := by decide +kernel
theorem dX11_valley_100 : decode cX11_valley 100 = .ok (.getfield 33, 3) := by decide +kernel
theorem dX11_valley_103 : decode cX11_valley 103 = .ok (.iload_n 1, 1) := by decide +kernel
theorem dX11_valley_104 : decode cX11_valley 104 = .ok (.iaload, 1) := by decide +kernel
theorem dX11_valley_105 : decode cX11_valley 105 = .ok (.iastore, 1) := by decide +kernel
theorem dX11_valley_106 : decode cX11_valley 106 = .ok (.aload_n 0, 1) := by decide +kernel
theorem dX11_valley_107 : decode cX11_valley 107 = .ok (.getfield 54, 3) := by decide +kernel
theorem dX11_valley_110 : decode cX11_valley 110 = .ok (.iload_n 1, 1) := by decide +kernel
theorem dX11_valley_111 : decode cX11_valley 111 = .ok (.iconst 0, 1) := by decide +kernel
theorem dX11_valley_112 : decode cX11_valley 112 = .ok (.iastore, 1) := by decide +kernel
theorem dX11_valley_113 : decode cX11_valley 113 = .ok (.iload_n 1, 1) := by decide +kernel
theorem dX11_valley_114 : decode cX11_valley 114 = .ok (.aload_n 0, 1) := by decide +kernel
theorem dX11_valley_115 : decode cX11_valley 115 = .ok (.getfield 243, 3) := by decide +kernel
theorem dX11_valley_118 : decode cX11_valley 118 = .ok (.if_icmp .ge 35, 3) := by decide +kernel
theorem dX11_valley_121 : decode cX11_valley 121 = .ok (.aload_n 0, 1) := by decide +kernel
theorem dX11_valley_122 : decode cX11_valley 122 = .ok (.getfield 42, 3) := by decide +kernel
theorem dX11_valley_125 : decode cX11_valley 125 = .ok (.iload_n 1, 1) := by decide +kernel
theorem dX11_valley_126 : decode cX11_valley 126 = .ok (.iaload, 1) := by decide +kernel
theorem dX11_valley_127 : decode cX11_valley 127 = .ok (.ifCond .ge 6, 3) := by decide +kernel
theorem dX11_valley_130 : decode cX11_valley 130 = .ok (.goto 23, 3) := by decide +kernel
theorem dX11_valley_133 : decode cX11_valley 133 = .ok (.aload_n 0, 1) := by decide +kernel
theorem dX11_valley_134 : decode cX11_valley 134 = .ok (.getfield 51, 3) := by decide +kernel
theorem dX11_valley_137 : decode cX11_valley 137 = .ok (.aload_n 0, 1) := by decide +kernel
theorem dX11_valley_138 : decode cX11_valley 138 = .ok (.getfield 252, 3) := by decide +kernel
theorem dX11_valley_141 : decode cX11_valley 141 = .ok (.iload_n 1, 1) := by decide +kernel
theorem dX11_valley_142 : decode cX11_valley 142 = .ok (.iastore, 1) := by decide +kernel
theorem dX11_valley_143 : decode cX11_valley 143 = .ok (.aload_n 0, 1) := by decide +kernel
theorem dX11_valley_144 : decode cX11_valley 144 = .ok (.dup, 1) := by decide +kernel
theorem dX11_valley_145 : decode cX11_valley 145 = .ok (.getfield 252, 3) := by decide +kernel
theorem dX11_valley_148 : decode cX11_valley 148 = .ok (.iconst 1, 1) := by decide +kernel
theorem dX11_valley_149 : decode cX11_valley 149 = .ok (.iadd, 1) := by decide +kernel
theorem dX11_valley_150 : decode cX11_valley 150 = .ok (.putfield 252, 3) := by decide +kernel
theorem dX11_valley_153 : decode cX11_valley 153 = .ok (.iinc 1 1, 3) := by decide +kernel
theorem dX11_valley_156 : decode cX11_valley 156 = .ok (.goto (-104), 3) := by decide +kernel
theorem dX11_valley_159 : decode cX11_valley 159 = .ok (.iconst 0, 1) := by decide +kernel
theorem dX11_valley_160 : decode cX11_valley 160 = .ok (.istore_n 1, 1) := by decide +kernel
theorem dX11_valley_161 : decode cX11_valley 161 = .ok (.iload_n 1, 1) := by decide +kernel
theorem dX11_valley_162 : decode cX11_valley 162 = .ok (.iconst 4, 1) := by decide +kernel
theorem dX11_valley_163 : decode cX11_valley 163 = .ok (.if_icmp .ge 21, 3) := by decide +kernel
theorem dX11_valley_166 : decode cX11_valley 166 = .ok (.aload_n 0, 1) := by decide +kernel
theorem dX11_valley_167 : decode cX11_valley 167 = .ok (.getfield 45, 3) := by decide +kernel
theorem dX11_valley_170 : decode cX11_valley 170 = .ok (.iload_n 1, 1) := by decide +kernel
theorem dX11_valley_171 : decode cX11_valley 171 = .ok (.aload_n 0, 1) := by decide +kernel
theorem dX11_valley_172 : decode cX11_valley 172 = .ok (.getfield 30, 3) := by decide +kernel
theorem dX11_valley_175 : decode cX11_valley 175 = .ok (.iload_n 1, 1) := by decide +kernel
theorem dX11_valley_176 : decode cX11_valley 176 = .ok (.iaload, 1) := by decide +kernel
theorem dX11_valley_177 : decode cX11_valley 177 = .ok (.iastore, 1) := by decide +kernel
theorem dX11_valley_178 : decode cX11_valley 178 = .ok (.iinc 1 1, 3) := by decide +kernel
theorem dX11_valley_181 : decode cX11_valley 181 = .ok (.goto (-20), 3) := by decide +kernel
theorem dX11_valley_184 : decode cX11_valley 184 = .ok (.aload_n 0, 1) := by decide +kernel
theorem dX11_valley_185 : decode cX11_valley 185 = .ok (.aload_n 0, 1) := by decide +kernel
theorem dX11_valley_186 : decode cX11_valley 186 = .ok (.invokevirtual 255, 3) := by decide +kernel
theorem dX11_valley_189 : decode cX11_valley 189 = .ok (.putfield 258, 3) := by decide +kernel
theorem dX11_valley_192 : decode cX11_valley 192 = .ok (.aload_n 0, 1) := by decide +kernel
theorem dX11_valley_193 : decode cX11_valley 193 = .ok (.iconst 0, 1) := by decide +kernel
theorem dX11_valley_194 : decode cX11_valley 194 = .ok (.putfield 261, 3) := by decide +kernel
theorem dX11_valley_197 : decode cX11_valley 197 = .ok (.aload_n 0, 1) := by decide +kernel
theorem dX11_valley_198 : decode cX11_valley 198 = .ok (.iconst 0, 1) := by decide +kernel
theorem dX11_valley_199 : decode cX11_valley 199 = .ok (.putfield 264, 3) := by decide +kernel
theorem dX11_valley_202 : decode cX11_valley 202 = .ok (.aload_n 0, 1) := by decide +kernel
theorem dX11_valley_203 : decode cX11_valley 203 = .ok (.iconst 0, 1) := by decide +kernel
theorem dX11_valley_204 : decode cX11_valley 204 = .ok (.putfield 267, 3) := by decide +kernel
theorem dX11_valley_207 : decode cX11_valley 207 = .ok (.aload_n 0, 1) := by decide +kernel
theorem dX11_valley_208 : decode cX11_valley 208 = .ok (.iconst 0, 1) := by decide +kernel
theorem dX11_valley_209 : decode cX11_valley 209 = .ok (.putfield 270, 3) := by decide +kernel
theorem dX11_valley_212 : decode cX11_valley 212 = .ok (.aload_n 0, 1) := by decide +kernel
theorem dX11_valley_213 : decode cX11_valley 213 = .ok (.iconst 0, 1) := by decide +kernel
theorem dX11_valley_214 : decode cX11_valley 214 = .ok (.putfield 273, 3) := by decide +kernel
theorem dX11_valley_217 : decode cX11_valley 217 = .ok (.aload_n 0, 1) := by decide +kernel
theorem dX11_valley_218 : decode cX11_valley 218 = .ok (.iconst 0, 1) := by decide +kernel
theorem dX11_valley_219 : decode cX11_valley 219 = .ok (.putfield 276, 3) := by decide +kernel
theorem dX11_valley_222 : decode cX11_valley 222 = .ok (.aload_n 0, 1) := by decide +kernel
theorem dX11_valley_223 : decode cX11_valley 223 = .ok (.iconst 0, 1) := by decide +kernel
theorem dX11_valley_224 : decode cX11_valley 224 = .ok (.putfield 279, 3) := by decide +kernel
theorem dX11_valley_227 : decode cX11_valley 227 = .ok (.iconst 0, 1) := by decide +kernel
theorem dX11_valley_228 : decode cX11_valley 228 = .ok (.istore_n 1, 1) := by decide +kernel
theorem dX11_valley_229 : decode cX11_valley 229 = .ok (.iload_n 1, 1) := by decide +kernel
theorem dX11_valley_230 : decode cX11_valley 230 = .ok (.iconst 3, 1) := by decide +kernel
theorem dX11_valley_231 : decode cX11_valley 231 = .ok (.if_icmp .ge 16, 3) := by decide +kernel
theorem dX11_valley_234 : decode cX11_valley 234 = .ok (.aload_n 0, 1) := by decide +kernel
theorem dX11_valley_235 : decode cX11_valley 235 = .ok (.getfield 97, 3) := by decide +kernel
theorem dX11_valley_238 : decode cX11_valley 238 = .ok (.iload_n 1, 1) := by decide +kernel
theorem dX11_valley_239 : decode cX11_valley 239 = .ok (.iconst 0, 1) := by decide +kernel
theorem dX11_valley_240 : decode cX11_valley 240 = .ok (.bastore, 1) := by decide +kernel
theorem dX11_valley_241 : decode cX11_valley 241 = .ok (.iinc 1 1, 3) := by decide +kernel
theorem dX11_valley_244 : decode cX11_valley 244 = .ok (.goto (-15), 3) := by decide +kernel
theorem dX11_valley_247 : decode cX11_valley 247 = .ok (.aload_n 0, 1) := by decide +kernel
theorem dX11_valley_248 : decode cX11_valley 248 = .ok (.getfield 243, 3) := by decide +kernel
theorem dX11_valley_251 : decode cX11_valley 251 = .ok (.ireturn, 1) := by decide +kernel
theorem dX11_fault_0 : decode cX11_fault 0 = .ok (.iload_n 1, 1) := by decide +kernel
theorem dX11_fault_1 : decode cX11_fault 1 = .ok (.ifCond .ne 10, 3) := by decide +kernel
theorem dX11_fault_4 : decode cX11_fault 4 = .ok (.aload_n 0, 1) := by decide +kernel
theorem dX11_fault_5 : decode cX11_fault 5 = .ok (.getfield 140, 3) := by decide +kernel
theorem dX11_fault_8 : decode cX11_fault 8 = .ok (.goto 16, 3) := by decide +kernel
theorem dX11_fault_11 : decode cX11_fault 11 = .ok (.iload_n 1, 1) := by decide +kernel
theorem dX11_fault_12 : decode cX11_fault 12 = .ok (.iconst 1, 1) := by decide +kernel
theorem dX11_fault_13 : decode cX11_fault 13 = .ok (.if_icmp .ne 10, 3) := by decide +kernel
theorem dX11_fault_16 : decode cX11_fault 16 = .ok (.aload_n 0, 1) := by decide +kernel
theorem dX11_fault_17 : decode cX11_fault 17 = .ok (.getfield 13, 3) := by decide +kernel
theorem dX11_fault_20 : decode cX11_fault 20 = .ok (.goto 4, 3) := by decide +kernel
theorem dX11_fault_23 : decode cX11_fault 23 = .ok (.iconst (-1), 1) := by decide +kernel
theorem dX11_fault_24 : decode cX11_fault 24 = .ok (.ireturn, 1) := by decide +kernel
theorem dX11_isIn_0 : decode cX11_isIn 0 = .ok (.iload_n 0, 1) := by decide +kernel
theorem dX11_isIn_1 : decode cX11_isIn 1 = .ok (.iload_n 1, 1) := by decide +kernel
theorem dX11_isIn_2 : decode cX11_isIn 2 = .ok (.if_icmp .lt 12, 3) := by decide +kernel
theorem dX11_isIn_5 : decode cX11_isIn 5 = .ok (.iload_n 0, 1) := by decide +kernel
theorem dX11_isIn_6 : decode cX11_isIn 6 = .ok (.iload_n 2, 1) := by decide +kernel
theorem dX11_isIn_7 : decode cX11_isIn 7 = .ok (.if_icmp .gt 7, 3) := by decide +kernel
theorem dX11_isIn_10 : decode cX11_isIn 10 = .ok (.iconst 1, 1) := by decide +kernel
theorem dX11_isIn_11 : decode cX11_isIn 11 = .ok (.goto 4, 3) := by decide +kernel
theorem dX11_isIn_14 : decode cX11_isIn 14 = .ok (.iconst 0, 1) := by decide +kernel
theorem dX11_isIn_15 : decode cX11_isIn 15 = .ok (.ireturn, 1) := by decide +kernel
theorem dX11_isBell_0 : decode cX11_isBell 0 = .ok (.iload_n 1, 1) := by decide +kernel
theorem dX11_isBell_1 : decode cX11_isBell 1 = .ok (.iconst 0, 1) := by decide +kernel
theorem dX11_isBell_2 : decode cX11_isBell 2 = .ok (.aload_n 0, 1) := by decide +kernel
theorem dX11_isBell_3 : decode cX11_isBell 3 = .ok (.getfield 243, 3) := by decide +kernel
theorem dX11_isBell_6 : decode cX11_isBell 6 = .ok (.iconst 1, 1) := by decide +kernel
theorem dX11_isBell_7 : decode cX11_isBell 7 = .ok (.isub, 1) := by decide +kernel
theorem dX11_isBell_8 : decode cX11_isBell 8 = .ok (.invokestatic 283, 3) := by decide +kernel
theorem dX11_isBell_11 : decode cX11_isBell 11 = .ok (.ireturn, 1) := by decide +kernel
theorem dX11_isEar_0 : decode cX11_isEar 0 = .ok (.iload_n 1, 1) := by decide +kernel
theorem dX11_isEar_1 : decode cX11_isEar 1 = .ok (.iconst 0, 1) := by decide +kernel
theorem dX11_isEar_2 : decode cX11_isEar 2 = .ok (.aload_n 0, 1) := by decide +kernel
theorem dX11_isEar_3 : decode cX11_isEar 3 = .ok (.getfield 249, 3) := by decide +kernel
theorem dX11_isEar_6 : decode cX11_isEar 6 = .ok (.iconst 1, 1) := by decide +kernel
theorem dX11_isEar_7 : decode cX11_isEar 7 = .ok (.isub, 1) := by decide +kernel
theorem dX11_isEar_8 : decode cX11_isEar 8 = .ok (.invokestatic 283, 3) := by decide +kernel
theorem dX11_isEar_11 : decode cX11_isEar 11 = .ok (.ireturn, 1) := by decide +kernel
theorem dX11_beastSet_0 : decode cX11_beastSet 0 = .ok (.iconst 0, 1) := by decide +kernel
theorem dX11_beastSet_1 : decode cX11_beastSet 1 = .ok (.istore_n 1, 1) := by decide +kernel
theorem dX11_beastSet_2 : decode cX11_beastSet 2 = .ok (.iconst 0, 1) := by decide +kernel
theorem dX11_beastSet_3 : decode cX11_beastSet 3 = .ok (.istore_n 2, 1) := by decide +kernel
theorem dX11_beastSet_4 : decode cX11_beastSet 4 = .ok (.iload_n 2, 1) := by decide +kernel
theorem dX11_beastSet_5 : decode cX11_beastSet 5 = .ok (.aload_n 0, 1) := by decide +kernel
theorem dX11_beastSet_6 : decode cX11_beastSet 6 = .ok (.getfield 252, 3) := by decide +kernel
theorem dX11_beastSet_9 : decode cX11_beastSet 9 = .ok (.if_icmp .ge 20, 3) := by decide +kernel
theorem dX11_beastSet_12 : decode cX11_beastSet 12 = .ok (.iload_n 1, 1) := by decide +kernel
theorem dX11_beastSet_13 : decode cX11_beastSet 13 = .ok (.iconst 1, 1) := by decide +kernel
theorem dX11_beastSet_14 : decode cX11_beastSet 14 = .ok (.aload_n 0, 1) := by decide +kernel
theorem dX11_beastSet_15 : decode cX11_beastSet 15 = .ok (.getfield 51, 3) := by decide +kernel
theorem dX11_beastSet_18 : decode cX11_beastSet 18 = .ok (.iload_n 2, 1) := by decide +kernel
theorem dX11_beastSet_19 : decode cX11_beastSet 19 = .ok (.iaload, 1) := by decide +kernel
theorem dX11_beastSet_20 : decode cX11_beastSet 20 = .ok (.ishl, 1) := by decide +kernel
theorem dX11_beastSet_21 : decode cX11_beastSet 21 = .ok (.ior, 1) := by decide +kernel
theorem dX11_beastSet_22 : decode cX11_beastSet 22 = .ok (.istore_n 1, 1) := by decide +kernel
theorem dX11_beastSet_23 : decode cX11_beastSet 23 = .ok (.iinc 2 1, 3) := by decide +kernel
theorem dX11_beastSet_26 : decode cX11_beastSet 26 = .ok (.goto (-22), 3) := by decide +kernel
theorem dX11_beastSet_29 : decode cX11_beastSet 29 = .ok (.iload_n 1, 1) := by decide +kernel
theorem dX11_beastSet_30 : decode cX11_beastSet 30 = .ok (.ireturn, 1) := by decide +kernel
theorem dX11_modulo_0 : decode cX11_modulo 0 = .ok (.iload_n 0, 1) := by decide +kernel
theorem dX11_modulo_1 : decode cX11_modulo 1 = .ok (.bipush 12, 2) := by decide +kernel
theorem dX11_modulo_3 : decode cX11_modulo 3 = .ok (.irem, 1) := by decide +kernel
theorem dX11_modulo_4 : decode cX11_modulo 4 = .ok (.bipush 12, 2) := by decide +kernel
theorem dX11_modulo_6 : decode cX11_modulo 6 = .ok (.iadd, 1) := by decide +kernel
theorem dX11_modulo_7 : decode cX11_modulo 7 = .ok (.bipush 12, 2) := by decide +kernel
theorem dX11_modulo_9 : decode cX11_modulo 9 = .ok (.irem, 1) := by decide +kernel
theorem dX11_modulo_10 : decode cX11_modulo 10 = .ok (.ireturn, 1) := by decide +kernel
theorem dX11_toneNow_0 : decode cX11_toneNow 0 = .ok (.aload_n 0, 1) := by decide +kernel
theorem dX11_toneNow_1 : decode cX11_toneNow 1 = .ok (.getfield 36, 3) := by decide +kernel
theorem dX11_toneNow_4 : decode cX11_toneNow 4 = .ok (.iload_n 1, 1) := by decide +kernel
theorem dX11_toneNow_5 : decode cX11_toneNow 5 = .ok (.iaload, 1) := by decide +kernel
theorem dX11_toneNow_6 : decode cX11_toneNow 6 = .ok (.aload_n 0, 1) := by decide +kernel
theorem dX11_toneNow_7 : decode cX11_toneNow 7 = .ok (.getfield 54, 3) := by decide +kernel
theorem dX11_toneNow_10 : decode cX11_toneNow 10 = .ok (.iload_n 1, 1) := by decide +kernel
theorem dX11_toneNow_11 : decode cX11_toneNow 11 = .ok (.iaload, 1) := by decide +kernel
theorem dX11_toneNow_12 : decode cX11_toneNow 12 = .ok (.aload_n 0, 1) := by decide +kernel
theorem dX11_toneNow_13 : decode cX11_toneNow 13 = .ok (.getfield 270, 3) := by decide +kernel
theorem dX11_toneNow_16 : decode cX11_toneNow 16 = .ok (.imul, 1) := by decide +kernel
theorem dX11_toneNow_17 : decode cX11_toneNow 17 = .ok (.isub, 1) := by decide +kernel
theorem dX11_toneNow_18 : decode cX11_toneNow 18 = .ok (.invokestatic 290, 3) := by decide +kernel
theorem dX11_toneNow_21 : decode cX11_toneNow 21 = .ok (.ireturn, 1) := by decide +kernel
theorem dX11_loudAt_0 : decode cX11_loudAt 0 = .ok (.aload_n 0, 1) := by decide +kernel
theorem dX11_loudAt_1 : decode cX11_loudAt 1 = .ok (.getfield 45, 3) := by decide +kernel
theorem dX11_loudAt_4 : decode cX11_loudAt 4 = .ok (.iload_n 2, 1) := by decide +kernel
theorem dX11_loudAt_5 : decode cX11_loudAt 5 = .ok (.iaload, 1) := by decide +kernel
theorem dX11_loudAt_6 : decode cX11_loudAt 6 = .ok (.iload_n 3, 1) := by decide +kernel
theorem dX11_loudAt_7 : decode cX11_loudAt 7 = .ok (.isub, 1) := by decide +kernel
theorem dX11_loudAt_8 : decode cX11_loudAt 8 = .ok (.istore 5, 2) := by decide +kernel
theorem dX11_loudAt_10 : decode cX11_loudAt 10 = .ok (.aload_n 0, 1) := by decide +kernel
theorem dX11_loudAt_11 : decode cX11_loudAt 11 = .ok (.getfield 39, 3) := by decide +kernel
theorem dX11_loudAt_14 : decode cX11_loudAt 14 = .ok (.iload_n 1, 1) := by decide +kernel
theorem dX11_loudAt_15 : decode cX11_loudAt 15 = .ok (.iaload, 1) := by decide +kernel
theorem dX11_loudAt_16 : decode cX11_loudAt 16 = .ok (.iload 5, 2) := by decide +kernel
theorem dX11_loudAt_18 : decode cX11_loudAt 18 = .ok (.ifCond .ge 9, 3) := by decide +kernel
theorem dX11_loudAt_21 : decode cX11_loudAt 21 = .ok (.iload 5, 2) := by decide +kernel
theorem dX11_loudAt_23 : decode cX11_loudAt 23 = .ok (.ineg, 1) := by decide +kernel
theorem dX11_loudAt_24 : decode cX11_loudAt 24 = .ok (.goto 5, 3) := by decide +kernel
theorem dX11_loudAt_27 : decode cX11_loudAt 27 = .ok (.iload 5, 2) := by decide +kernel
theorem dX11_loudAt_29 : decode cX11_loudAt 29 = .ok (.isub, 1) := by decide +kernel
theorem dX11_loudAt_30 : decode cX11_loudAt 30 = .ok (.iload 4, 2) := by decide +kernel
theorem dX11_loudAt_32 : decode cX11_loudAt 32 = .ok (.isub, 1) := by decide +kernel
theorem dX11_loudAt_33 : decode cX11_loudAt 33 = .ok (.istore 6, 2) := by decide +kernel
theorem dX11_loudAt_35 : decode cX11_loudAt 35 = .ok (.iload 6, 2) := by decide +kernel
theorem dX11_loudAt_37 : decode cX11_loudAt 37 = .ok (.ifCond .ge 7, 3) := by decide +kernel
theorem dX11_loudAt_40 : decode cX11_loudAt 40 = .ok (.iconst 0, 1) := by decide +kernel
theorem dX11_loudAt_41 : decode cX11_loudAt 41 = .ok (.goto 5, 3) := by decide +kernel
theorem dX11_loudAt_44 : decode cX11_loudAt 44 = .ok (.iload 6, 2) := by decide +kernel
theorem dX11_loudAt_46 : decode cX11_loudAt 46 = .ok (.ireturn, 1) := by decide +kernel
theorem dX11_bell_0 : decode cX11_bell 0 = .ok (.aload_n 0, 1) := by decide +kernel
theorem dX11_bell_1 : decode cX11_bell 1 = .ok (.iload_n 1, 1) := by decide +kernel
theorem dX11_bell_2 : decode cX11_bell 2 = .ok (.invokevirtual 287, 3) := by decide +kernel
theorem dX11_bell_5 : decode cX11_bell 5 = .ok (.ifCond .ne 6, 3) := by decide +kernel
theorem dX11_bell_8 : decode cX11_bell 8 = .ok (.bipush (-2), 2) := by decide +kernel
theorem dX11_bell_10 : decode cX11_bell 10 = .ok (.ireturn, 1) := by decide +kernel
theorem dX11_bell_11 : decode cX11_bell 11 = .ok (.iload_n 2, 1) := by decide +kernel
theorem dX11_bell_12 : decode cX11_bell 12 = .ok (.tableswitch 85 0 5 #[40, 46, 53, 60, 67, 76], 40) := by decide +kernel
theorem dX11_bell_52 : decode cX11_bell 52 = .ok (.aload_n 0, 1) := by decide +kernel
theorem dX11_bell_53 : decode cX11_bell 53 = .ok (.iload_n 1, 1) := by decide +kernel
theorem dX11_bell_54 : decode cX11_bell 54 = .ok (.invokevirtual 293, 3) := by decide +kernel
theorem dX11_bell_57 : decode cX11_bell 57 = .ok (.ireturn, 1) := by decide +kernel
theorem dX11_bell_58 : decode cX11_bell 58 = .ok (.aload_n 0, 1) := by decide +kernel
theorem dX11_bell_59 : decode cX11_bell 59 = .ok (.getfield 39, 3) := by decide +kernel
theorem dX11_bell_62 : decode cX11_bell 62 = .ok (.iload_n 1, 1) := by decide +kernel
theorem dX11_bell_63 : decode cX11_bell 63 = .ok (.iaload, 1) := by decide +kernel
theorem dX11_bell_64 : decode cX11_bell 64 = .ok (.ireturn, 1) := by decide +kernel
theorem dX11_bell_65 : decode cX11_bell 65 = .ok (.aload_n 0, 1) := by decide +kernel
theorem dX11_bell_66 : decode cX11_bell 66 = .ok (.getfield 42, 3) := by decide +kernel
theorem dX11_bell_69 : decode cX11_bell 69 = .ok (.iload_n 1, 1) := by decide +kernel
theorem dX11_bell_70 : decode cX11_bell 70 = .ok (.iaload, 1) := by decide +kernel
theorem dX11_bell_71 : decode cX11_bell 71 = .ok (.ireturn, 1) := by decide +kernel
theorem dX11_bell_72 : decode cX11_bell 72 = .ok (.aload_n 0, 1) := by decide +kernel
theorem dX11_bell_73 : decode cX11_bell 73 = .ok (.getfield 54, 3) := by decide +kernel
theorem dX11_bell_76 : decode cX11_bell 76 = .ok (.iload_n 1, 1) := by decide +kernel
theorem dX11_bell_77 : decode cX11_bell 77 = .ok (.iaload, 1) := by decide +kernel
theorem dX11_bell_78 : decode cX11_bell 78 = .ok (.ireturn, 1) := by decide +kernel
theorem dX11_bell_79 : decode cX11_bell 79 = .ok (.aload_n 0, 1) := by decide +kernel
theorem dX11_bell_80 : decode cX11_bell 80 = .ok (.getfield 258, 3) := by decide +kernel
theorem dX11_bell_83 : decode cX11_bell 83 = .ok (.iload_n 1, 1) := by decide +kernel
theorem dX11_bell_84 : decode cX11_bell 84 = .ok (.ishr, 1) := by decide +kernel
theorem dX11_bell_85 : decode cX11_bell 85 = .ok (.iconst 1, 1) := by decide +kernel
theorem dX11_bell_86 : decode cX11_bell 86 = .ok (.iand, 1) := by decide +kernel
theorem dX11_bell_87 : decode cX11_bell 87 = .ok (.ireturn, 1) := by decide +kernel
theorem dX11_bell_88 : decode cX11_bell 88 = .ok (.aload_n 0, 1) := by decide +kernel
theorem dX11_bell_89 : decode cX11_bell 89 = .ok (.getfield 261, 3) := by decide +kernel
theorem dX11_bell_92 : decode cX11_bell 92 = .ok (.iload_n 1, 1) := by decide +kernel
theorem dX11_bell_93 : decode cX11_bell 93 = .ok (.ishr, 1) := by decide +kernel
theorem dX11_bell_94 : decode cX11_bell 94 = .ok (.iconst 1, 1) := by decide +kernel
theorem dX11_bell_95 : decode cX11_bell 95 = .ok (.iand, 1) := by decide +kernel
theorem dX11_bell_96 : decode cX11_bell 96 = .ok (.ireturn, 1) := by decide +kernel
theorem dX11_bell_97 : decode cX11_bell 97 = .ok (.bipush (-2), 2) := by decide +kernel
theorem dX11_bell_99 : decode cX11_bell 99 = .ok (.ireturn, 1) := by decide +kernel
theorem dX11_heard_0 : decode cX11_heard 0 = .ok (.iconst 0, 1) := by decide +kernel
theorem dX11_heard_1 : decode cX11_heard 1 = .ok (.istore_n 3, 1) := by decide +kernel
theorem dX11_heard_2 : decode cX11_heard 2 = .ok (.iconst 0, 1) := by decide +kernel
theorem dX11_heard_3 : decode cX11_heard 3 = .ok (.istore 4, 2) := by decide +kernel
theorem dX11_heard_5 : decode cX11_heard 5 = .ok (.iload 4, 2) := by decide +kernel
theorem dX11_heard_7 : decode cX11_heard 7 = .ok (.aload_n 0, 1) := by decide +kernel
theorem dX11_heard_8 : decode cX11_heard 8 = .ok (.getfield 243, 3) := by decide +kernel
theorem dX11_heard_11 : decode cX11_heard 11 = .ok (.if_icmp .ge 66, 3) := by decide +kernel
theorem dX11_heard_14 : decode cX11_heard 14 = .ok (.iload_n 3, 1) := by decide +kernel
theorem dX11_heard_15 : decode cX11_heard 15 = .ok (.aload_n 0, 1) := by decide +kernel
theorem dX11_heard_16 : decode cX11_heard 16 = .ok (.getfield 258, 3) := by decide +kernel
theorem dX11_heard_19 : decode cX11_heard 19 = .ok (.iload 4, 2) := by decide +kernel
theorem dX11_heard_21 : decode cX11_heard 21 = .ok (.ishr, 1) := by decide +kernel
theorem dX11_heard_22 : decode cX11_heard 22 = .ok (.iconst 1, 1) := by decide +kernel
theorem dX11_heard_23 : decode cX11_heard 23 = .ok (.iand, 1) := by decide +kernel
theorem dX11_heard_24 : decode cX11_heard 24 = .ok (.iconst 1, 1) := by decide +kernel
theorem dX11_heard_25 : decode cX11_heard 25 = .ok (.if_icmp .ne 43, 3) := by decide +kernel
theorem dX11_heard_28 : decode cX11_heard 28 = .ok (.aload_n 0, 1) := by decide +kernel
theorem dX11_heard_29 : decode cX11_heard 29 = .ok (.getfield 261, 3) := by decide +kernel
theorem dX11_heard_32 : decode cX11_heard 32 = .ok (.iload 4, 2) := by decide +kernel
theorem dX11_heard_34 : decode cX11_heard 34 = .ok (.ishr, 1) := by decide +kernel
theorem dX11_heard_35 : decode cX11_heard 35 = .ok (.iconst 1, 1) := by decide +kernel
theorem dX11_heard_36 : decode cX11_heard 36 = .ok (.iand, 1) := by decide +kernel
theorem dX11_heard_37 : decode cX11_heard 37 = .ok (.ifCond .ne 31, 3) := by decide +kernel
theorem dX11_heard_40 : decode cX11_heard 40 = .ok (.aload_n 0, 1) := by decide +kernel
theorem dX11_heard_41 : decode cX11_heard 41 = .ok (.iload 4, 2) := by decide +kernel
theorem dX11_heard_43 : decode cX11_heard 43 = .ok (.invokevirtual 293, 3) := by decide +kernel
theorem dX11_heard_46 : decode cX11_heard 46 = .ok (.iload_n 2, 1) := by decide +kernel
theorem dX11_heard_47 : decode cX11_heard 47 = .ok (.if_icmp .ne 21, 3) := by decide +kernel
theorem dX11_heard_50 : decode cX11_heard 50 = .ok (.aload_n 0, 1) := by decide +kernel
theorem dX11_heard_51 : decode cX11_heard 51 = .ok (.iload 4, 2) := by decide +kernel
theorem dX11_heard_53 : decode cX11_heard 53 = .ok (.iload_n 1, 1) := by decide +kernel
theorem dX11_heard_54 : decode cX11_heard 54 = .ok (.aload_n 0, 1) := by decide +kernel
theorem dX11_heard_55 : decode cX11_heard 55 = .ok (.getfield 264, 3) := by decide +kernel
theorem dX11_heard_58 : decode cX11_heard 58 = .ok (.aload_n 0, 1) := by decide +kernel
theorem dX11_heard_59 : decode cX11_heard 59 = .ok (.getfield 267, 3) := by decide +kernel
theorem dX11_heard_62 : decode cX11_heard 62 = .ok (.invokevirtual 296, 3) := by decide +kernel
theorem dX11_heard_65 : decode cX11_heard 65 = .ok (.goto 4, 3) := by decide +kernel
theorem dX11_heard_68 : decode cX11_heard 68 = .ok (.iconst 0, 1) := by decide +kernel
theorem dX11_heard_69 : decode cX11_heard 69 = .ok (.iadd, 1) := by decide +kernel
theorem dX11_heard_70 : decode cX11_heard 70 = .ok (.istore_n 3, 1) := by decide +kernel
theorem dX11_heard_71 : decode cX11_heard 71 = .ok (.iinc 4 1, 3) := by decide +kernel
theorem dX11_heard_74 : decode cX11_heard 74 = .ok (.goto (-69), 3) := by decide +kernel
theorem dX11_heard_77 : decode cX11_heard 77 = .ok (.iload_n 3, 1) := by decide +kernel
theorem dX11_heard_78 : decode cX11_heard 78 = .ok (.ireturn, 1) := by decide +kernel
theorem dX11_isTone_0 : decode cX11_isTone 0 = .ok (.iload_n 0, 1) := by decide +kernel
theorem dX11_isTone_1 : decode cX11_isTone 1 = .ok (.iconst 0, 1) := by decide +kernel
theorem dX11_isTone_2 : decode cX11_isTone 2 = .ok (.bipush 11, 2) := by decide +kernel
theorem dX11_isTone_4 : decode cX11_isTone 4 = .ok (.invokestatic 283, 3) := by decide +kernel
theorem dX11_isTone_7 : decode cX11_isTone 7 = .ok (.ireturn, 1) := by decide +kernel
theorem dX11_hear_0 : decode cX11_hear 0 = .ok (.aload_n 0, 1) := by decide +kernel
theorem dX11_hear_1 : decode cX11_hear 1 = .ok (.iload_n 1, 1) := by decide +kernel
theorem dX11_hear_2 : decode cX11_hear 2 = .ok (.invokevirtual 300, 3) := by decide +kernel
theorem dX11_hear_5 : decode cX11_hear 5 = .ok (.ifCond .eq 19, 3) := by decide +kernel
theorem dX11_hear_8 : decode cX11_hear 8 = .ok (.iload_n 2, 1) := by decide +kernel
theorem dX11_hear_9 : decode cX11_hear 9 = .ok (.invokestatic 303, 3) := by decide +kernel
theorem dX11_hear_12 : decode cX11_hear 12 = .ok (.ifCond .eq 12, 3) := by decide +kernel
theorem dX11_hear_15 : decode cX11_hear 15 = .ok (.aload_n 0, 1) := by decide +kernel
theorem dX11_hear_16 : decode cX11_hear 16 = .ok (.iload_n 1, 1) := by decide +kernel
theorem dX11_hear_17 : decode cX11_hear 17 = .ok (.iload_n 2, 1) := by decide +kernel
theorem dX11_hear_18 : decode cX11_hear 18 = .ok (.invokevirtual 306, 3) := by decide +kernel
theorem dX11_hear_21 : decode cX11_hear 21 = .ok (.goto 4, 3) := by decide +kernel
theorem dX11_hear_24 : decode cX11_hear 24 = .ok (.iconst (-1), 1) := by decide +kernel
theorem dX11_hear_25 : decode cX11_hear 25 = .ok (.ireturn, 1) := by decide +kernel
theorem dX11_chord_0 : decode cX11_chord 0 = .ok (.aload_n 0, 1) := by decide +kernel
theorem dX11_chord_1 : decode cX11_chord 1 = .ok (.iload_n 1, 1) := by decide +kernel
theorem dX11_chord_2 : decode cX11_chord 2 = .ok (.invokevirtual 300, 3) := by decide +kernel
theorem dX11_chord_5 : decode cX11_chord 5 = .ok (.ifCond .ne 5, 3) := by decide +kernel
theorem dX11_chord_8 : decode cX11_chord 8 = .ok (.iconst (-1), 1) := by decide +kernel
theorem dX11_chord_9 : decode cX11_chord 9 = .ok (.ireturn, 1) := by decide +kernel
theorem dX11_chord_10 : decode cX11_chord 10 = .ok (.iconst 0, 1) := by decide +kernel
theorem dX11_chord_11 : decode cX11_chord 11 = .ok (.istore_n 2, 1) := by decide +kernel
theorem dX11_chord_12 : decode cX11_chord 12 = .ok (.iconst 0, 1) := by decide +kernel
theorem dX11_chord_13 : decode cX11_chord 13 = .ok (.istore_n 3, 1) := by decide +kernel
theorem dX11_chord_14 : decode cX11_chord 14 = .ok (.iload_n 3, 1) := by decide +kernel
theorem dX11_chord_15 : decode cX11_chord 15 = .ok (.bipush 12, 2) := by decide +kernel
theorem dX11_chord_17 : decode cX11_chord 17 = .ok (.if_icmp .ge 28, 3) := by decide +kernel
theorem dX11_chord_20 : decode cX11_chord 20 = .ok (.iload_n 2, 1) := by decide +kernel
theorem dX11_chord_21 : decode cX11_chord 21 = .ok (.aload_n 0, 1) := by decide +kernel
theorem dX11_chord_22 : decode cX11_chord 22 = .ok (.iload_n 1, 1) := by decide +kernel
theorem dX11_chord_23 : decode cX11_chord 23 = .ok (.iload_n 3, 1) := by decide +kernel
theorem dX11_chord_24 : decode cX11_chord 24 = .ok (.invokevirtual 306, 3) := by decide +kernel
theorem dX11_chord_27 : decode cX11_chord 27 = .ok (.ifCond .le 9, 3) := by decide +kernel
theorem dX11_chord_30 : decode cX11_chord 30 = .ok (.iconst 1, 1) := by decide +kernel
theorem dX11_chord_31 : decode cX11_chord 31 = .ok (.iload_n 3, 1) := by decide +kernel
theorem dX11_chord_32 : decode cX11_chord 32 = .ok (.ishl, 1) := by decide +kernel
theorem dX11_chord_33 : decode cX11_chord 33 = .ok (.goto 4, 3) := by decide +kernel
theorem dX11_chord_36 : decode cX11_chord 36 = .ok (.iconst 0, 1) := by decide +kernel
theorem dX11_chord_37 : decode cX11_chord 37 = .ok (.ior, 1) := by decide +kernel
theorem dX11_chord_38 : decode cX11_chord 38 = .ok (.istore_n 2, 1) := by decide +kernel
theorem dX11_chord_39 : decode cX11_chord 39 = .ok (.iinc 3 1, 3) := by decide +kernel
theorem dX11_chord_42 : decode cX11_chord 42 = .ok (.goto (-28), 3) := by decide +kernel
theorem dX11_chord_45 : decode cX11_chord 45 = .ok (.iload_n 2, 1) := by decide +kernel
theorem dX11_chord_46 : decode cX11_chord 46 = .ok (.ireturn, 1) := by decide +kernel
theorem dX11_comes_0 : decode cX11_comes 0 = .ok (.aload_n 0, 1) := by decide +kernel
theorem dX11_comes_1 : decode cX11_comes 1 = .ok (.iload_n 1, 1) := by decide +kernel
theorem dX11_comes_2 : decode cX11_comes 2 = .ok (.invokevirtual 287, 3) := by decide +kernel
theorem dX11_comes_5 : decode cX11_comes 5 = .ok (.ifCond .eq 23, 3) := by decide +kernel
theorem dX11_comes_8 : decode cX11_comes 8 = .ok (.aload_n 0, 1) := by decide +kernel
theorem dX11_comes_9 : decode cX11_comes 9 = .ok (.getfield 258, 3) := by decide +kernel
theorem dX11_comes_12 : decode cX11_comes 12 = .ok (.iload_n 1, 1) := by decide +kernel
theorem dX11_comes_13 : decode cX11_comes 13 = .ok (.ishr, 1) := by decide +kernel
theorem dX11_comes_14 : decode cX11_comes 14 = .ok (.iconst 1, 1) := by decide +kernel
theorem dX11_comes_15 : decode cX11_comes 15 = .ok (.iand, 1) := by decide +kernel
theorem dX11_comes_16 : decode cX11_comes 16 = .ok (.iload_n 2, 1) := by decide +kernel
theorem dX11_comes_17 : decode cX11_comes 17 = .ok (.ifCond .eq 7, 3) := by decide +kernel
theorem dX11_comes_20 : decode cX11_comes 20 = .ok (.iconst 1, 1) := by decide +kernel
theorem dX11_comes_21 : decode cX11_comes 21 = .ok (.goto 4, 3) := by decide +kernel
theorem dX11_comes_24 : decode cX11_comes 24 = .ok (.iconst 0, 1) := by decide +kernel
theorem dX11_comes_25 : decode cX11_comes 25 = .ok (.if_icmp .ne 5, 3) := by decide +kernel
theorem dX11_comes_28 : decode cX11_comes 28 = .ok (.iconst 0, 1) := by decide +kernel
theorem dX11_comes_29 : decode cX11_comes 29 = .ok (.ireturn, 1) := by decide +kernel
theorem dX11_comes_30 : decode cX11_comes 30 = .ok (.aload_n 0, 1) := by decide +kernel
theorem dX11_comes_31 : decode cX11_comes 31 = .ok (.dup, 1) := by decide +kernel
theorem dX11_comes_32 : decode cX11_comes 32 = .ok (.getfield 258, 3) := by decide +kernel
theorem dX11_comes_35 : decode cX11_comes 35 = .ok (.iconst 1, 1) := by decide +kernel
theorem dX11_comes_36 : decode cX11_comes 36 = .ok (.iload_n 1, 1) := by decide +kernel
theorem dX11_comes_37 : decode cX11_comes 37 = .ok (.ishl, 1) := by decide +kernel
theorem dX11_comes_38 : decode cX11_comes 38 = .ok (.ixor, 1) := by decide +kernel
theorem dX11_comes_39 : decode cX11_comes 39 = .ok (.putfield 258, 3) := by decide +kernel
theorem dX11_comes_42 : decode cX11_comes 42 = .ok (.aload_n 0, 1) := by decide +kernel
theorem dX11_comes_43 : decode cX11_comes 43 = .ok (.dup, 1) := by decide +kernel
theorem dX11_comes_44 : decode cX11_comes 44 = .ok (.getfield 261, 3) := by decide +kernel
theorem dX11_comes_47 : decode cX11_comes 47 = .ok (.aload_n 0, 1) := by decide +kernel
theorem dX11_comes_48 : decode cX11_comes 48 = .ok (.getfield 258, 3) := by decide +kernel
theorem dX11_comes_51 : decode cX11_comes 51 = .ok (.iand, 1) := by decide +kernel
theorem dX11_comes_52 : decode cX11_comes 52 = .ok (.putfield 261, 3) := by decide +kernel
theorem dX11_comes_55 : decode cX11_comes 55 = .ok (.iconst 1, 1) := by decide +kernel
theorem dX11_comes_56 : decode cX11_comes 56 = .ok (.ireturn, 1) := by decide +kernel
theorem dX11_stand_0 : decode cX11_stand 0 = .ok (.aload_n 0, 1) := by decide +kernel
theorem dX11_stand_1 : decode cX11_stand 1 = .ok (.iload_n 1, 1) := by decide +kernel
theorem dX11_stand_2 : decode cX11_stand 2 = .ok (.invokevirtual 287, 3) := by decide +kernel
theorem dX11_stand_5 : decode cX11_stand 5 = .ok (.ifCond .eq 34, 3) := by decide +kernel
theorem dX11_stand_8 : decode cX11_stand 8 = .ok (.aload_n 0, 1) := by decide +kernel
theorem dX11_stand_9 : decode cX11_stand 9 = .ok (.getfield 258, 3) := by decide +kernel
theorem dX11_stand_12 : decode cX11_stand 12 = .ok (.iload_n 1, 1) := by decide +kernel
theorem dX11_stand_13 : decode cX11_stand 13 = .ok (.ishr, 1) := by decide +kernel
theorem dX11_stand_14 : decode cX11_stand 14 = .ok (.iconst 1, 1) := by decide +kernel
theorem dX11_stand_15 : decode cX11_stand 15 = .ok (.iand, 1) := by decide +kernel
theorem dX11_stand_16 : decode cX11_stand 16 = .ok (.ifCond .eq 23, 3) := by decide +kernel
theorem dX11_stand_19 : decode cX11_stand 19 = .ok (.aload_n 0, 1) := by decide +kernel
theorem dX11_stand_20 : decode cX11_stand 20 = .ok (.getfield 261, 3) := by decide +kernel
theorem dX11_stand_23 : decode cX11_stand 23 = .ok (.iload_n 1, 1) := by decide +kernel
theorem dX11_stand_24 : decode cX11_stand 24 = .ok (.ishr, 1) := by decide +kernel
theorem dX11_stand_25 : decode cX11_stand 25 = .ok (.iconst 1, 1) := by decide +kernel
theorem dX11_stand_26 : decode cX11_stand 26 = .ok (.iand, 1) := by decide +kernel
theorem dX11_stand_27 : decode cX11_stand 27 = .ok (.iload_n 2, 1) := by decide +kernel
theorem dX11_stand_28 : decode cX11_stand 28 = .ok (.ifCond .eq 7, 3) := by decide +kernel
theorem dX11_stand_31 : decode cX11_stand 31 = .ok (.iconst 1, 1) := by decide +kernel
theorem dX11_stand_32 : decode cX11_stand 32 = .ok (.goto 4, 3) := by decide +kernel
theorem dX11_stand_35 : decode cX11_stand 35 = .ok (.iconst 0, 1) := by decide +kernel
theorem dX11_stand_36 : decode cX11_stand 36 = .ok (.if_icmp .ne 5, 3) := by decide +kernel
theorem dX11_stand_39 : decode cX11_stand 39 = .ok (.iconst 0, 1) := by decide +kernel
theorem dX11_stand_40 : decode cX11_stand 40 = .ok (.ireturn, 1) := by decide +kernel
theorem dX11_stand_41 : decode cX11_stand 41 = .ok (.aload_n 0, 1) := by decide +kernel
theorem dX11_stand_42 : decode cX11_stand 42 = .ok (.dup, 1) := by decide +kernel
theorem dX11_stand_43 : decode cX11_stand 43 = .ok (.getfield 261, 3) := by decide +kernel
theorem dX11_stand_46 : decode cX11_stand 46 = .ok (.iconst 1, 1) := by decide +kernel
theorem dX11_stand_47 : decode cX11_stand 47 = .ok (.iload_n 1, 1) := by decide +kernel
theorem dX11_stand_48 : decode cX11_stand 48 = .ok (.ishl, 1) := by decide +kernel
theorem dX11_stand_49 : decode cX11_stand 49 = .ok (.ixor, 1) := by decide +kernel
theorem dX11_stand_50 : decode cX11_stand 50 = .ok (.putfield 261, 3) := by decide +kernel
theorem dX11_stand_53 : decode cX11_stand 53 = .ok (.iconst 1, 1) := by decide +kernel
theorem dX11_stand_54 : decode cX11_stand 54 = .ok (.ireturn, 1) := by decide +kernel
theorem dX11_isPlace_0 : decode cX11_isPlace 0 = .ok (.iload_n 0, 1) := by decide +kernel
theorem dX11_isPlace_1 : decode cX11_isPlace 1 = .ok (.iconst 0, 1) := by decide +kernel
theorem dX11_isPlace_2 : decode cX11_isPlace 2 = .ok (.bipush 99, 2) := by decide +kernel
theorem dX11_isPlace_4 : decode cX11_isPlace 4 = .ok (.invokestatic 283, 3) := by decide +kernel
theorem dX11_isPlace_7 : decode cX11_isPlace 7 = .ok (.ireturn, 1) := by decide +kernel
theorem dX11_isWind_0 : decode cX11_isWind 0 = .ok (.iload_n 0, 1) := by decide +kernel
theorem dX11_isWind_1 : decode cX11_isWind 1 = .ok (.iconst 0, 1) := by decide +kernel
theorem dX11_isWind_2 : decode cX11_isWind 2 = .ok (.bipush 20, 2) := by decide +kernel
theorem dX11_isWind_4 : decode cX11_isWind 4 = .ok (.invokestatic 283, 3) := by decide +kernel
theorem dX11_isWind_7 : decode cX11_isWind 7 = .ok (.ireturn, 1) := by decide +kernel
theorem dX11_walk_0 : decode cX11_walk 0 = .ok (.iload_n 1, 1) := by decide +kernel
theorem dX11_walk_1 : decode cX11_walk 1 = .ok (.invokestatic 309, 3) := by decide +kernel
theorem dX11_walk_4 : decode cX11_walk 4 = .ok (.ifCond .eq 10, 3) := by decide +kernel
theorem dX11_walk_7 : decode cX11_walk 7 = .ok (.iload_n 2, 1) := by decide +kernel
theorem dX11_walk_8 : decode cX11_walk 8 = .ok (.invokestatic 312, 3) := by decide +kernel
theorem dX11_walk_11 : decode cX11_walk 11 = .ok (.ifCond .ne 5, 3) := by decide +kernel
theorem dX11_walk_14 : decode cX11_walk 14 = .ok (.iconst (-1), 1) := by decide +kernel
theorem dX11_walk_15 : decode cX11_walk 15 = .ok (.ireturn, 1) := by decide +kernel
theorem dX11_walk_16 : decode cX11_walk 16 = .ok (.aload_n 0, 1) := by decide +kernel
theorem dX11_walk_17 : decode cX11_walk 17 = .ok (.getfield 264, 3) := by decide +kernel
theorem dX11_walk_20 : decode cX11_walk 20 = .ok (.istore_n 3, 1) := by decide +kernel
theorem dX11_walk_21 : decode cX11_walk 21 = .ok (.aload_n 0, 1) := by decide +kernel
theorem dX11_walk_22 : decode cX11_walk 22 = .ok (.iload_n 1, 1) := by decide +kernel
theorem dX11_walk_23 : decode cX11_walk 23 = .ok (.putfield 264, 3) := by decide +kernel
theorem dX11_walk_26 : decode cX11_walk 26 = .ok (.aload_n 0, 1) := by decide +kernel
theorem dX11_walk_27 : decode cX11_walk 27 = .ok (.iload_n 2, 1) := by decide +kernel
theorem dX11_walk_28 : decode cX11_walk 28 = .ok (.putfield 267, 3) := by decide +kernel
theorem dX11_walk_31 : decode cX11_walk 31 = .ok (.iload_n 3, 1) := by decide +kernel
theorem dX11_walk_32 : decode cX11_walk 32 = .ok (.ireturn, 1) := by decide +kernel
theorem dX11_crack_0 : decode cX11_crack 0 = .ok (.aload_n 0, 1) := by decide +kernel
theorem dX11_crack_1 : decode cX11_crack 1 = .ok (.iload_n 1, 1) := by decide +kernel
theorem dX11_crack_2 : decode cX11_crack 2 = .ok (.invokevirtual 287, 3) := by decide +kernel
theorem dX11_crack_5 : decode cX11_crack 5 = .ok (.ifCond .eq 12, 3) := by decide +kernel
theorem dX11_crack_8 : decode cX11_crack 8 = .ok (.iload_n 2, 1) := by decide +kernel
theorem dX11_crack_9 : decode cX11_crack 9 = .ok (.iconst 0, 1) := by decide +kernel
theorem dX11_crack_10 : decode cX11_crack 10 = .ok (.iconst 2, 1) := by decide +kernel
theorem dX11_crack_11 : decode cX11_crack 11 = .ok (.invokestatic 283, 3) := by decide +kernel
theorem dX11_crack_14 : decode cX11_crack 14 = .ok (.ifCond .ne 5, 3) := by decide +kernel
theorem dX11_crack_17 : decode cX11_crack 17 = .ok (.iconst (-1), 1) := by decide +kernel
theorem dX11_crack_18 : decode cX11_crack 18 = .ok (.ireturn, 1) := by decide +kernel
theorem dX11_crack_19 : decode cX11_crack 19 = .ok (.aload_n 0, 1) := by decide +kernel
theorem dX11_crack_20 : decode cX11_crack 20 = .ok (.getfield 54, 3) := by decide +kernel
theorem dX11_crack_23 : decode cX11_crack 23 = .ok (.iload_n 1, 1) := by decide +kernel
theorem dX11_crack_24 : decode cX11_crack 24 = .ok (.iaload, 1) := by decide +kernel
theorem dX11_crack_25 : decode cX11_crack 25 = .ok (.istore_n 3, 1) := by decide +kernel
theorem dX11_crack_26 : decode cX11_crack 26 = .ok (.aload_n 0, 1) := by decide +kernel
theorem dX11_crack_27 : decode cX11_crack 27 = .ok (.getfield 54, 3) := by decide +kernel
theorem dX11_crack_30 : decode cX11_crack 30 = .ok (.iload_n 1, 1) := by decide +kernel
theorem dX11_crack_31 : decode cX11_crack 31 = .ok (.iload_n 2, 1) := by decide +kernel
theorem dX11_crack_32 : decode cX11_crack 32 = .ok (.iastore, 1) := by decide +kernel
theorem dX11_crack_33 : decode cX11_crack 33 = .ok (.iload_n 3, 1) := by decide +kernel
theorem dX11_crack_34 : decode cX11_crack 34 = .ok (.ireturn, 1) := by decide +kernel
theorem dX11_years_0 : decode cX11_years 0 = .ok (.iload_n 1, 1) := by decide +kernel
theorem dX11_years_1 : decode cX11_years 1 = .ok (.iconst 0, 1) := by decide +kernel
theorem dX11_years_2 : decode cX11_years 2 = .ok (.bipush 20, 2) := by decide +kernel
theorem dX11_years_4 : decode cX11_years 4 = .ok (.invokestatic 283, 3) := by decide +kernel
theorem dX11_years_7 : decode cX11_years 7 = .ok (.ifCond .eq 15, 3) := by decide +kernel
theorem dX11_years_10 : decode cX11_years 10 = .ok (.aload_n 0, 1) := by decide +kernel
theorem dX11_years_11 : decode cX11_years 11 = .ok (.getfield 270, 3) := by decide +kernel
theorem dX11_years_14 : decode cX11_years 14 = .ok (.iload_n 1, 1) := by decide +kernel
theorem dX11_years_15 : decode cX11_years 15 = .ok (.iadd, 1) := by decide +kernel
theorem dX11_years_16 : decode cX11_years 16 = .ok (.sipush 200, 3) := by decide +kernel
theorem dX11_years_19 : decode cX11_years 19 = .ok (.if_icmp .le 5, 3) := by decide +kernel
theorem dX11_years_22 : decode cX11_years 22 = .ok (.iconst (-1), 1) := by decide +kernel
theorem dX11_years_23 : decode cX11_years 23 = .ok (.ireturn, 1) := by decide +kernel
theorem dX11_years_24 : decode cX11_years 24 = .ok (.aload_n 0, 1) := by decide +kernel
theorem dX11_years_25 : decode cX11_years 25 = .ok (.dup, 1) := by decide +kernel
theorem dX11_years_26 : decode cX11_years 26 = .ok (.getfield 270, 3) := by decide +kernel
theorem dX11_years_29 : decode cX11_years 29 = .ok (.iload_n 1, 1) := by decide +kernel
theorem dX11_years_30 : decode cX11_years 30 = .ok (.iadd, 1) := by decide +kernel
theorem dX11_years_31 : decode cX11_years 31 = .ok (.putfield 270, 3) := by decide +kernel
theorem dX11_years_34 : decode cX11_years 34 = .ok (.aload_n 0, 1) := by decide +kernel
theorem dX11_years_35 : decode cX11_years 35 = .ok (.getfield 270, 3) := by decide +kernel
theorem dX11_years_38 : decode cX11_years 38 = .ok (.ireturn, 1) := by decide +kernel
theorem dX11_isQuarter_0 : decode cX11_isQuarter 0 = .ok (.iload_n 0, 1) := by decide +kernel
theorem dX11_isQuarter_1 : decode cX11_isQuarter 1 = .ok (.iconst 0, 1) := by decide +kernel
theorem dX11_isQuarter_2 : decode cX11_isQuarter 2 = .ok (.bipush 95, 2) := by decide +kernel
theorem dX11_isQuarter_4 : decode cX11_isQuarter 4 = .ok (.invokestatic 283, 3) := by decide +kernel
theorem dX11_isQuarter_7 : decode cX11_isQuarter 7 = .ok (.ireturn, 1) := by decide +kernel
theorem dX11_entry_0 : decode cX11_entry 0 = .ok (.aload_n 0, 1) := by decide +kernel
theorem dX11_entry_1 : decode cX11_entry 1 = .ok (.getfield 273, 3) := by decide +kernel
theorem dX11_entry_4 : decode cX11_entry 4 = .ok (.bipush 40, 2) := by decide +kernel
theorem dX11_entry_6 : decode cX11_entry 6 = .ok (.if_icmp .ne 5, 3) := by decide +kernel
theorem dX11_entry_9 : decode cX11_entry 9 = .ok (.iconst (-1), 1) := by decide +kernel
theorem dX11_entry_10 : decode cX11_entry 10 = .ok (.ireturn, 1) := by decide +kernel
theorem dX11_entry_11 : decode cX11_entry 11 = .ok (.aload_n 0, 1) := by decide +kernel
theorem dX11_entry_12 : decode cX11_entry 12 = .ok (.getfield 57, 3) := by decide +kernel
theorem dX11_entry_15 : decode cX11_entry 15 = .ok (.aload_n 0, 1) := by decide +kernel
theorem dX11_entry_16 : decode cX11_entry 16 = .ok (.getfield 273, 3) := by decide +kernel
theorem dX11_entry_19 : decode cX11_entry 19 = .ok (.iload_n 1, 1) := by decide +kernel
theorem dX11_entry_20 : decode cX11_entry 20 = .ok (.iastore, 1) := by decide +kernel
theorem dX11_entry_21 : decode cX11_entry 21 = .ok (.aload_n 0, 1) := by decide +kernel
theorem dX11_entry_22 : decode cX11_entry 22 = .ok (.getfield 60, 3) := by decide +kernel
theorem dX11_entry_25 : decode cX11_entry 25 = .ok (.aload_n 0, 1) := by decide +kernel
theorem dX11_entry_26 : decode cX11_entry 26 = .ok (.getfield 273, 3) := by decide +kernel
theorem dX11_entry_29 : decode cX11_entry 29 = .ok (.iload_n 2, 1) := by decide +kernel
theorem dX11_entry_30 : decode cX11_entry 30 = .ok (.iastore, 1) := by decide +kernel
theorem dX11_entry_31 : decode cX11_entry 31 = .ok (.aload_n 0, 1) := by decide +kernel
theorem dX11_entry_32 : decode cX11_entry 32 = .ok (.getfield 63, 3) := by decide +kernel
theorem dX11_entry_35 : decode cX11_entry 35 = .ok (.aload_n 0, 1) := by decide +kernel
theorem dX11_entry_36 : decode cX11_entry 36 = .ok (.getfield 273, 3) := by decide +kernel
theorem dX11_entry_39 : decode cX11_entry 39 = .ok (.iload_n 3, 1) := by decide +kernel
theorem dX11_entry_40 : decode cX11_entry 40 = .ok (.iastore, 1) := by decide +kernel
theorem dX11_entry_41 : decode cX11_entry 41 = .ok (.aload_n 0, 1) := by decide +kernel
theorem dX11_entry_42 : decode cX11_entry 42 = .ok (.getfield 66, 3) := by decide +kernel
theorem dX11_entry_45 : decode cX11_entry 45 = .ok (.aload_n 0, 1) := by decide +kernel
theorem dX11_entry_46 : decode cX11_entry 46 = .ok (.getfield 273, 3) := by decide +kernel
theorem dX11_entry_49 : decode cX11_entry 49 = .ok (.iload 4, 2) := by decide +kernel
theorem dX11_entry_51 : decode cX11_entry 51 = .ok (.iastore, 1) := by decide +kernel
theorem dX11_entry_52 : decode cX11_entry 52 = .ok (.aload_n 0, 1) := by decide +kernel
theorem dX11_entry_53 : decode cX11_entry 53 = .ok (.getfield 69, 3) := by decide +kernel
theorem dX11_entry_56 : decode cX11_entry 56 = .ok (.aload_n 0, 1) := by decide +kernel
theorem dX11_entry_57 : decode cX11_entry 57 = .ok (.getfield 273, 3) := by decide +kernel
theorem dX11_entry_60 : decode cX11_entry 60 = .ok (.iload 5, 2) := by decide +kernel
theorem dX11_entry_62 : decode cX11_entry 62 = .ok (.iastore, 1) := by decide +kernel
theorem dX11_entry_63 : decode cX11_entry 63 = .ok (.aload_n 0, 1) := by decide +kernel
theorem dX11_entry_64 : decode cX11_entry 64 = .ok (.getfield 72, 3) := by decide +kernel
theorem dX11_entry_67 : decode cX11_entry 67 = .ok (.aload_n 0, 1) := by decide +kernel
theorem dX11_entry_68 : decode cX11_entry 68 = .ok (.getfield 273, 3) := by decide +kernel
theorem dX11_entry_71 : decode cX11_entry 71 = .ok (.iload 6, 2) := by decide +kernel
theorem dX11_entry_73 : decode cX11_entry 73 = .ok (.iastore, 1) := by decide +kernel
theorem dX11_entry_74 : decode cX11_entry 74 = .ok (.aload_n 0, 1) := by decide +kernel
theorem dX11_entry_75 : decode cX11_entry 75 = .ok (.getfield 75, 3) := by decide +kernel
theorem dX11_entry_78 : decode cX11_entry 78 = .ok (.aload_n 0, 1) := by decide +kernel
theorem dX11_entry_79 : decode cX11_entry 79 = .ok (.getfield 273, 3) := by decide +kernel
theorem dX11_entry_82 : decode cX11_entry 82 = .ok (.aload_n 0, 1) := by decide +kernel
theorem dX11_entry_83 : decode cX11_entry 83 = .ok (.getfield 315, 3) := by decide +kernel
theorem dX11_entry_86 : decode cX11_entry 86 = .ok (.iastore, 1) := by decide +kernel
theorem dX11_entry_87 : decode cX11_entry 87 = .ok (.aload_n 0, 1) := by decide +kernel
theorem dX11_entry_88 : decode cX11_entry 88 = .ok (.getfield 78, 3) := by decide +kernel
theorem dX11_entry_91 : decode cX11_entry 91 = .ok (.aload_n 0, 1) := by decide +kernel
theorem dX11_entry_92 : decode cX11_entry 92 = .ok (.getfield 273, 3) := by decide +kernel
theorem dX11_entry_95 : decode cX11_entry 95 = .ok (.iconst (-1), 1) := by decide +kernel
theorem dX11_entry_96 : decode cX11_entry 96 = .ok (.iastore, 1) := by decide +kernel
theorem dX11_entry_97 : decode cX11_entry 97 = .ok (.aload_n 0, 1) := by decide +kernel
theorem dX11_entry_98 : decode cX11_entry 98 = .ok (.dup, 1) := by decide +kernel
theorem dX11_entry_99 : decode cX11_entry 99 = .ok (.getfield 273, 3) := by decide +kernel
theorem dX11_entry_102 : decode cX11_entry 102 = .ok (.iconst 1, 1) := by decide +kernel
theorem dX11_entry_103 : decode cX11_entry 103 = .ok (.iadd, 1) := by decide +kernel
theorem dX11_entry_104 : decode cX11_entry 104 = .ok (.putfield 273, 3) := by decide +kernel
theorem dX11_entry_107 : decode cX11_entry 107 = .ok (.aload_n 0, 1) := by decide +kernel
theorem dX11_entry_108 : decode cX11_entry 108 = .ok (.getfield 273, 3) := by decide +kernel
theorem dX11_entry_111 : decode cX11_entry 111 = .ok (.iconst 1, 1) := by decide +kernel
theorem dX11_entry_112 : decode cX11_entry 112 = .ok (.isub, 1) := by decide +kernel
theorem dX11_entry_113 : decode cX11_entry 113 = .ok (.ireturn, 1) := by decide +kernel
theorem dX11_sound_0 : decode cX11_sound 0 = .ok (.iload_n 1, 1) := by decide +kernel
theorem dX11_sound_1 : decode cX11_sound 1 = .ok (.invokestatic 318, 3) := by decide +kernel
theorem dX11_sound_4 : decode cX11_sound 4 = .ok (.ifCond .eq 58, 3) := by decide +kernel
theorem dX11_sound_7 : decode cX11_sound 7 = .ok (.aload_n 0, 1) := by decide +kernel
theorem dX11_sound_8 : decode cX11_sound 8 = .ok (.iload_n 2, 1) := by decide +kernel
theorem dX11_sound_9 : decode cX11_sound 9 = .ok (.invokevirtual 300, 3) := by decide +kernel
theorem dX11_sound_12 : decode cX11_sound 12 = .ok (.ifCond .eq 50, 3) := by decide +kernel
theorem dX11_sound_15 : decode cX11_sound 15 = .ok (.iload_n 3, 1) := by decide +kernel
theorem dX11_sound_16 : decode cX11_sound 16 = .ok (.invokestatic 303, 3) := by decide +kernel
theorem dX11_sound_19 : decode cX11_sound 19 = .ok (.ifCond .eq 43, 3) := by decide +kernel
theorem dX11_sound_22 : decode cX11_sound 22 = .ok (.iload 4, 2) := by decide +kernel
theorem dX11_sound_24 : decode cX11_sound 24 = .ok (.iconst 0, 1) := by decide +kernel
theorem dX11_sound_25 : decode cX11_sound 25 = .ok (.sipush 999, 3) := by decide +kernel
theorem dX11_sound_28 : decode cX11_sound 28 = .ok (.invokestatic 283, 3) := by decide +kernel
theorem dX11_sound_31 : decode cX11_sound 31 = .ok (.ifCond .eq 31, 3) := by decide +kernel
theorem dX11_sound_34 : decode cX11_sound 34 = .ok (.iload 5, 2) := by decide +kernel
theorem dX11_sound_36 : decode cX11_sound 36 = .ok (.iload 4, 2) := by decide +kernel
theorem dX11_sound_38 : decode cX11_sound 38 = .ok (.sipush 999, 3) := by decide +kernel
theorem dX11_sound_41 : decode cX11_sound 41 = .ok (.invokestatic 283, 3) := by decide +kernel
theorem dX11_sound_44 : decode cX11_sound 44 = .ok (.ifCond .eq 18, 3) := by decide +kernel
theorem dX11_sound_47 : decode cX11_sound 47 = .ok (.aload_n 0, 1) := by decide +kernel
theorem dX11_sound_48 : decode cX11_sound 48 = .ok (.iconst 0, 1) := by decide +kernel
theorem dX11_sound_49 : decode cX11_sound 49 = .ok (.iload_n 1, 1) := by decide +kernel
theorem dX11_sound_50 : decode cX11_sound 50 = .ok (.iload_n 2, 1) := by decide +kernel
theorem dX11_sound_51 : decode cX11_sound 51 = .ok (.iload_n 3, 1) := by decide +kernel
theorem dX11_sound_52 : decode cX11_sound 52 = .ok (.iload 4, 2) := by decide +kernel
theorem dX11_sound_54 : decode cX11_sound 54 = .ok (.iload 5, 2) := by decide +kernel
theorem dX11_sound_56 : decode cX11_sound 56 = .ok (.invokevirtual 321, 3) := by decide +kernel
theorem dX11_sound_59 : decode cX11_sound 59 = .ok (.goto 4, 3) := by decide +kernel
theorem dX11_sound_62 : decode cX11_sound 62 = .ok (.iconst (-1), 1) := by decide +kernel
theorem dX11_sound_63 : decode cX11_sound 63 = .ok (.ireturn, 1) := by decide +kernel
theorem dX11_evening_0 : decode cX11_evening 0 = .ok (.iload_n 1, 1) := by decide +kernel
theorem dX11_evening_1 : decode cX11_evening 1 = .ok (.iconst 0, 1) := by decide +kernel
theorem dX11_evening_2 : decode cX11_evening 2 = .ok (.bipush 20, 2) := by decide +kernel
theorem dX11_evening_4 : decode cX11_evening 4 = .ok (.invokestatic 283, 3) := by decide +kernel
theorem dX11_evening_7 : decode cX11_evening 7 = .ok (.ifCond .eq 27, 3) := by decide +kernel
theorem dX11_evening_10 : decode cX11_evening 10 = .ok (.iload_n 2, 1) := by decide +kernel
theorem dX11_evening_11 : decode cX11_evening 11 = .ok (.iconst 0, 1) := by decide +kernel
theorem dX11_evening_12 : decode cX11_evening 12 = .ok (.sipush 4095, 3) := by decide +kernel
theorem dX11_evening_15 : decode cX11_evening 15 = .ok (.invokestatic 283, 3) := by decide +kernel
theorem dX11_evening_18 : decode cX11_evening 18 = .ok (.ifCond .eq 16, 3) := by decide +kernel
theorem dX11_evening_21 : decode cX11_evening 21 = .ok (.aload_n 0, 1) := by decide +kernel
theorem dX11_evening_22 : decode cX11_evening 22 = .ok (.iconst 1, 1) := by decide +kernel
theorem dX11_evening_23 : decode cX11_evening 23 = .ok (.iload_n 1, 1) := by decide +kernel
theorem dX11_evening_24 : decode cX11_evening 24 = .ok (.iconst 0, 1) := by decide +kernel
theorem dX11_evening_25 : decode cX11_evening 25 = .ok (.iload_n 2, 1) := by decide +kernel
theorem dX11_evening_26 : decode cX11_evening 26 = .ok (.iconst 0, 1) := by decide +kernel
theorem dX11_evening_27 : decode cX11_evening 27 = .ok (.iconst 0, 1) := by decide +kernel
theorem dX11_evening_28 : decode cX11_evening 28 = .ok (.invokevirtual 321, 3) := by decide +kernel
theorem dX11_evening_31 : decode cX11_evening 31 = .ok (.goto 4, 3) := by decide +kernel
theorem dX11_evening_34 : decode cX11_evening 34 = .ok (.iconst (-1), 1) := by decide +kernel
theorem dX11_evening_35 : decode cX11_evening 35 = .ok (.ireturn, 1) := by decide +kernel
theorem dX11_note_0 : decode cX11_note 0 = .ok (.iload_n 1, 1) := by decide +kernel
theorem dX11_note_1 : decode cX11_note 1 = .ok (.invokestatic 318, 3) := by decide +kernel
theorem dX11_note_4 : decode cX11_note 4 = .ok (.ifCond .eq 29, 3) := by decide +kernel
theorem dX11_note_7 : decode cX11_note 7 = .ok (.aload_n 0, 1) := by decide +kernel
theorem dX11_note_8 : decode cX11_note 8 = .ok (.iload_n 2, 1) := by decide +kernel
theorem dX11_note_9 : decode cX11_note 9 = .ok (.invokevirtual 300, 3) := by decide +kernel
theorem dX11_note_12 : decode cX11_note 12 = .ok (.ifCond .eq 21, 3) := by decide +kernel
theorem dX11_note_15 : decode cX11_note 15 = .ok (.iload_n 3, 1) := by decide +kernel
theorem dX11_note_16 : decode cX11_note 16 = .ok (.invokestatic 303, 3) := by decide +kernel
theorem dX11_note_19 : decode cX11_note 19 = .ok (.ifCond .eq 14, 3) := by decide +kernel
theorem dX11_note_22 : decode cX11_note 22 = .ok (.iload 4, 2) := by decide +kernel
theorem dX11_note_24 : decode cX11_note 24 = .ok (.iconst 0, 1) := by decide +kernel
theorem dX11_note_25 : decode cX11_note 25 = .ok (.bipush 99, 2) := by decide +kernel
theorem dX11_note_27 : decode cX11_note 27 = .ok (.invokestatic 283, 3) := by decide +kernel
theorem dX11_note_30 : decode cX11_note 30 = .ok (.ifCond .ne 5, 3) := by decide +kernel
theorem dX11_note_33 : decode cX11_note 33 = .ok (.iconst (-1), 1) := by decide +kernel
theorem dX11_note_34 : decode cX11_note 34 = .ok (.ireturn, 1) := by decide +kernel
theorem dX11_note_35 : decode cX11_note 35 = .ok (.aload_n 0, 1) := by decide +kernel
theorem dX11_note_36 : decode cX11_note 36 = .ok (.iload_n 2, 1) := by decide +kernel
theorem dX11_note_37 : decode cX11_note 37 = .ok (.iload_n 3, 1) := by decide +kernel
theorem dX11_note_38 : decode cX11_note 38 = .ok (.invokevirtual 306, 3) := by decide +kernel
theorem dX11_note_41 : decode cX11_note 41 = .ok (.istore 5, 2) := by decide +kernel
theorem dX11_note_43 : decode cX11_note 43 = .ok (.aload_n 0, 1) := by decide +kernel
theorem dX11_note_44 : decode cX11_note 44 = .ok (.iconst 0, 1) := by decide +kernel
theorem dX11_note_45 : decode cX11_note 45 = .ok (.iload_n 1, 1) := by decide +kernel
theorem dX11_note_46 : decode cX11_note 46 = .ok (.iload_n 2, 1) := by decide +kernel
theorem dX11_note_47 : decode cX11_note 47 = .ok (.iload_n 3, 1) := by decide +kernel
theorem dX11_note_48 : decode cX11_note 48 = .ok (.iload 5, 2) := by decide +kernel
theorem dX11_note_50 : decode cX11_note 50 = .ok (.iload 4, 2) := by decide +kernel
theorem dX11_note_52 : decode cX11_note 52 = .ok (.if_icmp .ge 7, 3) := by decide +kernel
theorem dX11_note_55 : decode cX11_note 55 = .ok (.iconst 0, 1) := by decide +kernel
theorem dX11_note_56 : decode cX11_note 56 = .ok (.goto 8, 3) := by decide +kernel
theorem dX11_note_59 : decode cX11_note 59 = .ok (.iload 5, 2) := by decide +kernel
theorem dX11_note_61 : decode cX11_note 61 = .ok (.iload 4, 2) := by decide +kernel
theorem dX11_note_63 : decode cX11_note 63 = .ok (.isub, 1) := by decide +kernel
theorem dX11_note_64 : decode cX11_note 64 = .ok (.iload 5, 2) := by decide +kernel
theorem dX11_note_66 : decode cX11_note 66 = .ok (.iload 4, 2) := by decide +kernel
theorem dX11_note_68 : decode cX11_note 68 = .ok (.iadd, 1) := by decide +kernel
theorem dX11_note_69 : decode cX11_note 69 = .ok (.invokevirtual 321, 3) := by decide +kernel
theorem dX11_note_72 : decode cX11_note 72 = .ok (.ireturn, 1) := by decide +kernel
theorem dX11_untell_0 : decode cX11_untell 0 = .ok (.iload_n 1, 1) := by decide +kernel
theorem dX11_untell_1 : decode cX11_untell 1 = .ok (.iconst 0, 1) := by decide +kernel
theorem dX11_untell_2 : decode cX11_untell 2 = .ok (.aload_n 0, 1) := by decide +kernel
theorem dX11_untell_3 : decode cX11_untell 3 = .ok (.getfield 273, 3) := by decide +kernel
theorem dX11_untell_6 : decode cX11_untell 6 = .ok (.iconst 1, 1) := by decide +kernel
theorem dX11_untell_7 : decode cX11_untell 7 = .ok (.isub, 1) := by decide +kernel
theorem dX11_untell_8 : decode cX11_untell 8 = .ok (.invokestatic 283, 3) := by decide +kernel
theorem dX11_untell_11 : decode cX11_untell 11 = .ok (.ifCond .eq 12, 3) := by decide +kernel
theorem dX11_untell_14 : decode cX11_untell 14 = .ok (.aload_n 0, 1) := by decide +kernel
theorem dX11_untell_15 : decode cX11_untell 15 = .ok (.getfield 78, 3) := by decide +kernel
theorem dX11_untell_18 : decode cX11_untell 18 = .ok (.iload_n 1, 1) := by decide +kernel
theorem dX11_untell_19 : decode cX11_untell 19 = .ok (.iaload, 1) := by decide +kernel
theorem dX11_untell_20 : decode cX11_untell 20 = .ok (.ifCond .lt 5, 3) := by decide +kernel
theorem dX11_untell_23 : decode cX11_untell 23 = .ok (.iconst 0, 1) := by decide +kernel
theorem dX11_untell_24 : decode cX11_untell 24 = .ok (.ireturn, 1) := by decide +kernel
theorem dX11_untell_25 : decode cX11_untell 25 = .ok (.aload_n 0, 1) := by decide +kernel
theorem dX11_untell_26 : decode cX11_untell 26 = .ok (.getfield 78, 3) := by decide +kernel
theorem dX11_untell_29 : decode cX11_untell 29 = .ok (.iload_n 1, 1) := by decide +kernel
theorem dX11_untell_30 : decode cX11_untell 30 = .ok (.aload_n 0, 1) := by decide +kernel
theorem dX11_untell_31 : decode cX11_untell 31 = .ok (.getfield 315, 3) := by decide +kernel
theorem dX11_untell_34 : decode cX11_untell 34 = .ok (.iastore, 1) := by decide +kernel
theorem dX11_untell_35 : decode cX11_untell 35 = .ok (.iconst 1, 1) := by decide +kernel
theorem dX11_untell_36 : decode cX11_untell 36 = .ok (.ireturn, 1) := by decide +kernel
theorem dX11_later_0 : decode cX11_later 0 = .ok (.iload_n 1, 1) := by decide +kernel
theorem dX11_later_1 : decode cX11_later 1 = .ok (.ifCond .lt 22, 3) := by decide +kernel
theorem dX11_later_4 : decode cX11_later 4 = .ok (.iload_n 1, 1) := by decide +kernel
theorem dX11_later_5 : decode cX11_later 5 = .ok (.sipush 1000, 3) := by decide +kernel
theorem dX11_later_8 : decode cX11_later 8 = .ok (.if_icmp .gt 15, 3) := by decide +kernel
theorem dX11_later_11 : decode cX11_later 11 = .ok (.aload_n 0, 1) := by decide +kernel
theorem dX11_later_12 : decode cX11_later 12 = .ok (.getfield 315, 3) := by decide +kernel
theorem dX11_later_15 : decode cX11_later 15 = .ok (.iload_n 1, 1) := by decide +kernel
theorem dX11_later_16 : decode cX11_later 16 = .ok (.iadd, 1) := by decide +kernel
theorem dX11_later_17 : decode cX11_later 17 = .ok (.ldc_w 325, 3) := by decide +kernel
theorem dX11_later_20 : decode cX11_later 20 = .ok (.if_icmp .le 5, 3) := by decide +kernel
theorem dX11_later_23 : decode cX11_later 23 = .ok (.iconst (-1), 1) := by decide +kernel
theorem dX11_later_24 : decode cX11_later 24 = .ok (.ireturn, 1) := by decide +kernel
theorem dX11_later_25 : decode cX11_later 25 = .ok (.aload_n 0, 1) := by decide +kernel
theorem dX11_later_26 : decode cX11_later 26 = .ok (.dup, 1) := by decide +kernel
theorem dX11_later_27 : decode cX11_later 27 = .ok (.getfield 315, 3) := by decide +kernel
theorem dX11_later_30 : decode cX11_later 30 = .ok (.iload_n 1, 1) := by decide +kernel
theorem dX11_later_31 : decode cX11_later 31 = .ok (.iadd, 1) := by decide +kernel
theorem dX11_later_32 : decode cX11_later 32 = .ok (.putfield 315, 3) := by decide +kernel
theorem dX11_later_35 : decode cX11_later 35 = .ok (.aload_n 0, 1) := by decide +kernel
theorem dX11_later_36 : decode cX11_later 36 = .ok (.getfield 315, 3) := by decide +kernel
theorem dX11_later_39 : decode cX11_later 39 = .ok (.ireturn, 1) := by decide +kernel
theorem dX11_counts_0 : decode cX11_counts 0 = .ok (.aload_n 0, 1) := by decide +kernel
theorem dX11_counts_1 : decode cX11_counts 1 = .ok (.getfield 57, 3) := by decide +kernel
theorem dX11_counts_4 : decode cX11_counts 4 = .ok (.iload_n 1, 1) := by decide +kernel
theorem dX11_counts_5 : decode cX11_counts 5 = .ok (.iaload, 1) := by decide +kernel
theorem dX11_counts_6 : decode cX11_counts 6 = .ok (.iload_n 2, 1) := by decide +kernel
theorem dX11_counts_7 : decode cX11_counts 7 = .ok (.if_icmp .ne 36, 3) := by decide +kernel
theorem dX11_counts_10 : decode cX11_counts 10 = .ok (.aload_n 0, 1) := by decide +kernel
theorem dX11_counts_11 : decode cX11_counts 11 = .ok (.getfield 75, 3) := by decide +kernel
theorem dX11_counts_14 : decode cX11_counts 14 = .ok (.iload_n 1, 1) := by decide +kernel
theorem dX11_counts_15 : decode cX11_counts 15 = .ok (.iaload, 1) := by decide +kernel
theorem dX11_counts_16 : decode cX11_counts 16 = .ok (.iload_n 3, 1) := by decide +kernel
theorem dX11_counts_17 : decode cX11_counts 17 = .ok (.if_icmp .gt 26, 3) := by decide +kernel
theorem dX11_counts_20 : decode cX11_counts 20 = .ok (.aload_n 0, 1) := by decide +kernel
theorem dX11_counts_21 : decode cX11_counts 21 = .ok (.getfield 78, 3) := by decide +kernel
theorem dX11_counts_24 : decode cX11_counts 24 = .ok (.iload_n 1, 1) := by decide +kernel
theorem dX11_counts_25 : decode cX11_counts 25 = .ok (.iaload, 1) := by decide +kernel
theorem dX11_counts_26 : decode cX11_counts 26 = .ok (.ifCond .lt 13, 3) := by decide +kernel
theorem dX11_counts_29 : decode cX11_counts 29 = .ok (.aload_n 0, 1) := by decide +kernel
theorem dX11_counts_30 : decode cX11_counts 30 = .ok (.getfield 78, 3) := by decide +kernel
theorem dX11_counts_33 : decode cX11_counts 33 = .ok (.iload_n 1, 1) := by decide +kernel
theorem dX11_counts_34 : decode cX11_counts 34 = .ok (.iaload, 1) := by decide +kernel
theorem dX11_counts_35 : decode cX11_counts 35 = .ok (.iload_n 3, 1) := by decide +kernel
theorem dX11_counts_36 : decode cX11_counts 36 = .ok (.if_icmp .le 7, 3) := by decide +kernel
theorem dX11_counts_39 : decode cX11_counts 39 = .ok (.iconst 1, 1) := by decide +kernel
theorem dX11_counts_40 : decode cX11_counts 40 = .ok (.goto 4, 3) := by decide +kernel
theorem dX11_counts_43 : decode cX11_counts 43 = .ok (.iconst 0, 1) := by decide +kernel
theorem dX11_counts_44 : decode cX11_counts 44 = .ok (.ireturn, 1) := by decide +kernel
theorem dX11_loudOfSet_0 : decode cX11_loudOfSet 0 = .ok (.iconst 0, 1) := by decide +kernel
theorem dX11_loudOfSet_1 : decode cX11_loudOfSet 1 = .ok (.istore 6, 2) := by decide +kernel
theorem dX11_loudOfSet_3 : decode cX11_loudOfSet 3 = .ok (.iconst 0, 1) := by decide +kernel
theorem dX11_loudOfSet_4 : decode cX11_loudOfSet 4 = .ok (.istore 7, 2) := by decide +kernel
theorem dX11_loudOfSet_6 : decode cX11_loudOfSet 6 = .ok (.iload 7, 2) := by decide +kernel
theorem dX11_loudOfSet_8 : decode cX11_loudOfSet 8 = .ok (.aload_n 0, 1) := by decide +kernel
theorem dX11_loudOfSet_9 : decode cX11_loudOfSet 9 = .ok (.getfield 243, 3) := by decide +kernel
theorem dX11_loudOfSet_12 : decode cX11_loudOfSet 12 = .ok (.if_icmp .ge 50, 3) := by decide +kernel
theorem dX11_loudOfSet_15 : decode cX11_loudOfSet 15 = .ok (.iload 6, 2) := by decide +kernel
theorem dX11_loudOfSet_17 : decode cX11_loudOfSet 17 = .ok (.iload_n 1, 1) := by decide +kernel
theorem dX11_loudOfSet_18 : decode cX11_loudOfSet 18 = .ok (.iload 7, 2) := by decide +kernel
theorem dX11_loudOfSet_20 : decode cX11_loudOfSet 20 = .ok (.ishr, 1) := by decide +kernel
theorem dX11_loudOfSet_21 : decode cX11_loudOfSet 21 = .ok (.iconst 1, 1) := by decide +kernel
theorem dX11_loudOfSet_22 : decode cX11_loudOfSet 22 = .ok (.iand, 1) := by decide +kernel
theorem dX11_loudOfSet_23 : decode cX11_loudOfSet 23 = .ok (.iconst 1, 1) := by decide +kernel
theorem dX11_loudOfSet_24 : decode cX11_loudOfSet 24 = .ok (.if_icmp .ne 28, 3) := by decide +kernel
theorem dX11_loudOfSet_27 : decode cX11_loudOfSet 27 = .ok (.aload_n 0, 1) := by decide +kernel
theorem dX11_loudOfSet_28 : decode cX11_loudOfSet 28 = .ok (.getfield 36, 3) := by decide +kernel
theorem dX11_loudOfSet_31 : decode cX11_loudOfSet 31 = .ok (.iload 7, 2) := by decide +kernel
theorem dX11_loudOfSet_33 : decode cX11_loudOfSet 33 = .ok (.iaload, 1) := by decide +kernel
theorem dX11_loudOfSet_34 : decode cX11_loudOfSet 34 = .ok (.iload_n 2, 1) := by decide +kernel
theorem dX11_loudOfSet_35 : decode cX11_loudOfSet 35 = .ok (.if_icmp .ne 17, 3) := by decide +kernel
theorem dX11_loudOfSet_38 : decode cX11_loudOfSet 38 = .ok (.aload_n 0, 1) := by decide +kernel
theorem dX11_loudOfSet_39 : decode cX11_loudOfSet 39 = .ok (.iload 7, 2) := by decide +kernel
theorem dX11_loudOfSet_41 : decode cX11_loudOfSet 41 = .ok (.iload_n 3, 1) := by decide +kernel
theorem dX11_loudOfSet_42 : decode cX11_loudOfSet 42 = .ok (.iload 4, 2) := by decide +kernel
theorem dX11_loudOfSet_44 : decode cX11_loudOfSet 44 = .ok (.iload 5, 2) := by decide +kernel
theorem dX11_loudOfSet_46 : decode cX11_loudOfSet 46 = .ok (.invokevirtual 296, 3) := by decide +kernel
theorem dX11_loudOfSet_49 : decode cX11_loudOfSet 49 = .ok (.goto 4, 3) := by decide +kernel
theorem dX11_loudOfSet_52 : decode cX11_loudOfSet 52 = .ok (.iconst 0, 1) := by decide +kernel
theorem dX11_loudOfSet_53 : decode cX11_loudOfSet 53 = .ok (.iadd, 1) := by decide +kernel
theorem dX11_loudOfSet_54 : decode cX11_loudOfSet 54 = .ok (.istore 6, 2) := by decide +kernel
theorem dX11_loudOfSet_56 : decode cX11_loudOfSet 56 = .ok (.iinc 7 1, 3) := by decide +kernel
theorem dX11_loudOfSet_59 : decode cX11_loudOfSet 59 = .ok (.goto (-53), 3) := by decide +kernel
theorem dX11_loudOfSet_62 : decode cX11_loudOfSet 62 = .ok (.iload 6, 2) := by decide +kernel
theorem dX11_loudOfSet_64 : decode cX11_loudOfSet 64 = .ok (.ireturn, 1) := by decide +kernel
theorem dX11_isSo_0 : decode cX11_isSo 0 = .ok (.aload_n 0, 1) := by decide +kernel
theorem dX11_isSo_1 : decode cX11_isSo 1 = .ok (.iload_n 2, 1) := by decide +kernel
theorem dX11_isSo_2 : decode cX11_isSo 2 = .ok (.aload_n 0, 1) := by decide +kernel
theorem dX11_isSo_3 : decode cX11_isSo 3 = .ok (.getfield 66, 3) := by decide +kernel
theorem dX11_isSo_6 : decode cX11_isSo 6 = .ok (.iload_n 1, 1) := by decide +kernel
theorem dX11_isSo_7 : decode cX11_isSo 7 = .ok (.iaload, 1) := by decide +kernel
theorem dX11_isSo_8 : decode cX11_isSo 8 = .ok (.aload_n 0, 1) := by decide +kernel
theorem dX11_isSo_9 : decode cX11_isSo 9 = .ok (.getfield 63, 3) := by decide +kernel
theorem dX11_isSo_12 : decode cX11_isSo 12 = .ok (.iload_n 1, 1) := by decide +kernel
theorem dX11_isSo_13 : decode cX11_isSo 13 = .ok (.iaload, 1) := by decide +kernel
theorem dX11_isSo_14 : decode cX11_isSo 14 = .ok (.iload_n 3, 1) := by decide +kernel
theorem dX11_isSo_15 : decode cX11_isSo 15 = .ok (.iload 4, 2) := by decide +kernel
theorem dX11_isSo_17 : decode cX11_isSo 17 = .ok (.invokevirtual 326, 3) := by decide +kernel
theorem dX11_isSo_20 : decode cX11_isSo 20 = .ok (.istore 5, 2) := by decide +kernel
theorem dX11_isSo_22 : decode cX11_isSo 22 = .ok (.iload 5, 2) := by decide +kernel
theorem dX11_isSo_24 : decode cX11_isSo 24 = .ok (.aload_n 0, 1) := by decide +kernel
theorem dX11_isSo_25 : decode cX11_isSo 25 = .ok (.getfield 69, 3) := by decide +kernel
theorem dX11_isSo_28 : decode cX11_isSo 28 = .ok (.iload_n 1, 1) := by decide +kernel
theorem dX11_isSo_29 : decode cX11_isSo 29 = .ok (.iaload, 1) := by decide +kernel
theorem dX11_isSo_30 : decode cX11_isSo 30 = .ok (.if_icmp .lt 18, 3) := by decide +kernel
theorem dX11_isSo_33 : decode cX11_isSo 33 = .ok (.iload 5, 2) := by decide +kernel
theorem dX11_isSo_35 : decode cX11_isSo 35 = .ok (.aload_n 0, 1) := by decide +kernel
theorem dX11_isSo_36 : decode cX11_isSo 36 = .ok (.getfield 72, 3) := by decide +kernel
theorem dX11_isSo_39 : decode cX11_isSo 39 = .ok (.iload_n 1, 1) := by decide +kernel
theorem dX11_isSo_40 : decode cX11_isSo 40 = .ok (.iaload, 1) := by decide +kernel
theorem dX11_isSo_41 : decode cX11_isSo 41 = .ok (.if_icmp .gt 7, 3) := by decide +kernel
theorem dX11_isSo_44 : decode cX11_isSo 44 = .ok (.iconst 1, 1) := by decide +kernel
theorem dX11_isSo_45 : decode cX11_isSo 45 = .ok (.goto 4, 3) := by decide +kernel
theorem dX11_isSo_48 : decode cX11_isSo 48 = .ok (.iconst 0, 1) := by decide +kernel
theorem dX11_isSo_49 : decode cX11_isSo 49 = .ok (.ireturn, 1) := by decide +kernel
theorem dX11_areSo_0 : decode cX11_areSo 0 = .ok (.iconst 1, 1) := by decide +kernel
theorem dX11_areSo_1 : decode cX11_areSo 1 = .ok (.istore 6, 2) := by decide +kernel
theorem dX11_areSo_3 : decode cX11_areSo 3 = .ok (.iconst 0, 1) := by decide +kernel
theorem dX11_areSo_4 : decode cX11_areSo 4 = .ok (.istore 7, 2) := by decide +kernel
theorem dX11_areSo_6 : decode cX11_areSo 6 = .ok (.iload 7, 2) := by decide +kernel
theorem dX11_areSo_8 : decode cX11_areSo 8 = .ok (.aload_n 0, 1) := by decide +kernel
theorem dX11_areSo_9 : decode cX11_areSo 9 = .ok (.getfield 273, 3) := by decide +kernel
theorem dX11_areSo_12 : decode cX11_areSo 12 = .ok (.if_icmp .ge 57, 3) := by decide +kernel
theorem dX11_areSo_15 : decode cX11_areSo 15 = .ok (.iload 6, 2) := by decide +kernel
theorem dX11_areSo_17 : decode cX11_areSo 17 = .ok (.ifCond .eq 52, 3) := by decide +kernel
theorem dX11_areSo_20 : decode cX11_areSo 20 = .ok (.aload_n 0, 1) := by decide +kernel
theorem dX11_areSo_21 : decode cX11_areSo 21 = .ok (.iload 7, 2) := by decide +kernel
theorem dX11_areSo_23 : decode cX11_areSo 23 = .ok (.iconst 0, 1) := by decide +kernel
theorem dX11_areSo_24 : decode cX11_areSo 24 = .ok (.iload 5, 2) := by decide +kernel
theorem dX11_areSo_26 : decode cX11_areSo 26 = .ok (.invokevirtual 330, 3) := by decide +kernel
theorem dX11_areSo_29 : decode cX11_areSo 29 = .ok (.ifCond .eq 27, 3) := by decide +kernel
theorem dX11_areSo_32 : decode cX11_areSo 32 = .ok (.aload_n 0, 1) := by decide +kernel
theorem dX11_areSo_33 : decode cX11_areSo 33 = .ok (.getfield 60, 3) := by decide +kernel
theorem dX11_areSo_36 : decode cX11_areSo 36 = .ok (.iload 7, 2) := by decide +kernel
theorem dX11_areSo_38 : decode cX11_areSo 38 = .ok (.iaload, 1) := by decide +kernel
theorem dX11_areSo_39 : decode cX11_areSo 39 = .ok (.iload_n 3, 1) := by decide +kernel
theorem dX11_areSo_40 : decode cX11_areSo 40 = .ok (.if_icmp .ne 16, 3) := by decide +kernel
theorem dX11_areSo_43 : decode cX11_areSo 43 = .ok (.aload_n 0, 1) := by decide +kernel
theorem dX11_areSo_44 : decode cX11_areSo 44 = .ok (.iload 7, 2) := by decide +kernel
theorem dX11_areSo_46 : decode cX11_areSo 46 = .ok (.iload_n 1, 1) := by decide +kernel
theorem dX11_areSo_47 : decode cX11_areSo 47 = .ok (.iload_n 2, 1) := by decide +kernel
theorem dX11_areSo_48 : decode cX11_areSo 48 = .ok (.iload 4, 2) := by decide +kernel
theorem dX11_areSo_50 : decode cX11_areSo 50 = .ok (.invokevirtual 333, 3) := by decide +kernel
theorem dX11_areSo_53 : decode cX11_areSo 53 = .ok (.ifCond .eq 7, 3) := by decide +kernel
theorem dX11_areSo_56 : decode cX11_areSo 56 = .ok (.iconst 1, 1) := by decide +kernel
theorem dX11_areSo_57 : decode cX11_areSo 57 = .ok (.goto 4, 3) := by decide +kernel
theorem dX11_areSo_60 : decode cX11_areSo 60 = .ok (.iconst 0, 1) := by decide +kernel
theorem dX11_areSo_61 : decode cX11_areSo 61 = .ok (.istore 6, 2) := by decide +kernel
theorem dX11_areSo_63 : decode cX11_areSo 63 = .ok (.iinc 7 1, 3) := by decide +kernel
theorem dX11_areSo_66 : decode cX11_areSo 66 = .ok (.goto (-60), 3) := by decide +kernel
theorem dX11_areSo_69 : decode cX11_areSo 69 = .ok (.iload 6, 2) := by decide +kernel
theorem dX11_areSo_71 : decode cX11_areSo 71 = .ok (.ireturn, 1) := by decide +kernel
theorem dX11_sets_0 : decode cX11_sets 0 = .ok (.iload_n 1, 1) := by decide +kernel
theorem dX11_sets_1 : decode cX11_sets 1 = .ok (.invokestatic 318, 3) := by decide +kernel
theorem dX11_sets_4 : decode cX11_sets 4 = .ok (.ifCond .eq 19, 3) := by decide +kernel
theorem dX11_sets_7 : decode cX11_sets 7 = .ok (.iload_n 2, 1) := by decide +kernel
theorem dX11_sets_8 : decode cX11_sets 8 = .ok (.invokestatic 312, 3) := by decide +kernel
theorem dX11_sets_11 : decode cX11_sets 11 = .ok (.ifCond .eq 12, 3) := by decide +kernel
theorem dX11_sets_14 : decode cX11_sets 14 = .ok (.iload_n 3, 1) := by decide +kernel
theorem dX11_sets_15 : decode cX11_sets 15 = .ok (.iconst 0, 1) := by decide +kernel
theorem dX11_sets_16 : decode cX11_sets 16 = .ok (.iconst 5, 1) := by decide +kernel
theorem dX11_sets_17 : decode cX11_sets 17 = .ok (.invokestatic 283, 3) := by decide +kernel
theorem dX11_sets_20 : decode cX11_sets 20 = .ok (.ifCond .ne 6, 3) := by decide +kernel
theorem dX11_sets_23 : decode cX11_sets 23 = .ok (.bipush (-2), 2) := by decide +kernel
theorem dX11_sets_25 : decode cX11_sets 25 = .ok (.ireturn, 1) := by decide +kernel
theorem dX11_sets_26 : decode cX11_sets 26 = .ok (.iconst 0, 1) := by decide +kernel
theorem dX11_sets_27 : decode cX11_sets 27 = .ok (.istore 5, 2) := by decide +kernel
theorem dX11_sets_29 : decode cX11_sets 29 = .ok (.iconst 1, 1) := by decide +kernel
theorem dX11_sets_30 : decode cX11_sets 30 = .ok (.aload_n 0, 1) := by decide +kernel
theorem dX11_sets_31 : decode cX11_sets 31 = .ok (.getfield 243, 3) := by decide +kernel
theorem dX11_sets_34 : decode cX11_sets 34 = .ok (.ishl, 1) := by decide +kernel
theorem dX11_sets_35 : decode cX11_sets 35 = .ok (.iconst 1, 1) := by decide +kernel
theorem dX11_sets_36 : decode cX11_sets 36 = .ok (.isub, 1) := by decide +kernel
theorem dX11_sets_37 : decode cX11_sets 37 = .ok (.istore 6, 2) := by decide +kernel
theorem dX11_sets_39 : decode cX11_sets 39 = .ok (.iconst 0, 1) := by decide +kernel
theorem dX11_sets_40 : decode cX11_sets 40 = .ok (.istore 7, 2) := by decide +kernel
theorem dX11_sets_42 : decode cX11_sets 42 = .ok (.iconst 0, 1) := by decide +kernel
theorem dX11_sets_43 : decode cX11_sets 43 = .ok (.istore 8, 2) := by decide +kernel
theorem dX11_sets_45 : decode cX11_sets 45 = .ok (.iload 8, 2) := by decide +kernel
theorem dX11_sets_47 : decode cX11_sets 47 = .ok (.bipush 100, 2) := by decide +kernel
theorem dX11_sets_49 : decode cX11_sets 49 = .ok (.if_icmp .ge 17, 3) := by decide +kernel
theorem dX11_sets_52 : decode cX11_sets 52 = .ok (.aload_n 0, 1) := by decide +kernel
theorem dX11_sets_53 : decode cX11_sets 53 = .ok (.getfield 81, 3) := by decide +kernel
theorem dX11_sets_56 : decode cX11_sets 56 = .ok (.iload 8, 2) := by decide +kernel
theorem dX11_sets_58 : decode cX11_sets 58 = .ok (.iconst 0, 1) := by decide +kernel
theorem dX11_sets_59 : decode cX11_sets 59 = .ok (.bastore, 1) := by decide +kernel
theorem dX11_sets_60 : decode cX11_sets 60 = .ok (.iinc 8 1, 3) := by decide +kernel
theorem dX11_sets_63 : decode cX11_sets 63 = .ok (.goto (-18), 3) := by decide +kernel
theorem dX11_sets_66 : decode cX11_sets 66 = .ok (.iconst 0, 1) := by decide +kernel
theorem dX11_sets_67 : decode cX11_sets 67 = .ok (.istore 8, 2) := by decide +kernel
theorem dX11_sets_69 : decode cX11_sets 69 = .ok (.iload 8, 2) := by decide +kernel
theorem dX11_sets_71 : decode cX11_sets 71 = .ok (.iconst 1, 1) := by decide +kernel
theorem dX11_sets_72 : decode cX11_sets 72 = .ok (.aload_n 0, 1) := by decide +kernel
theorem dX11_sets_73 : decode cX11_sets 73 = .ok (.getfield 243, 3) := by decide +kernel
theorem dX11_sets_76 : decode cX11_sets 76 = .ok (.ishl, 1) := by decide +kernel
theorem dX11_sets_77 : decode cX11_sets 77 = .ok (.if_icmp .ge 82, 3) := by decide +kernel
theorem dX11_sets_80 : decode cX11_sets 80 = .ok (.iconst 0, 1) := by decide +kernel
theorem dX11_sets_81 : decode cX11_sets 81 = .ok (.istore 9, 2) := by decide +kernel
theorem dX11_sets_83 : decode cX11_sets 83 = .ok (.iconst 0, 1) := by decide +kernel
theorem dX11_sets_84 : decode cX11_sets 84 = .ok (.istore 10, 2) := by decide +kernel
theorem dX11_sets_86 : decode cX11_sets 86 = .ok (.iload 10, 2) := by decide +kernel
theorem dX11_sets_88 : decode cX11_sets 88 = .ok (.bipush 100, 2) := by decide +kernel
theorem dX11_sets_90 : decode cX11_sets 90 = .ok (.if_icmp .ge 38, 3) := by decide +kernel
theorem dX11_sets_93 : decode cX11_sets 93 = .ok (.aload_n 0, 1) := by decide +kernel
theorem dX11_sets_94 : decode cX11_sets 94 = .ok (.iload 8, 2) := by decide +kernel
theorem dX11_sets_96 : decode cX11_sets 96 = .ok (.iload 10, 2) := by decide +kernel
theorem dX11_sets_98 : decode cX11_sets 98 = .ok (.iload_n 1, 1) := by decide +kernel
theorem dX11_sets_99 : decode cX11_sets 99 = .ok (.iload_n 2, 1) := by decide +kernel
theorem dX11_sets_100 : decode cX11_sets 100 = .ok (.iload 4, 2) := by decide +kernel
theorem dX11_sets_102 : decode cX11_sets 102 = .ok (.invokevirtual 337, 3) := by decide +kernel
theorem dX11_sets_105 : decode cX11_sets 105 = .ok (.ifCond .ne 6, 3) := by decide +kernel
theorem dX11_sets_108 : decode cX11_sets 108 = .ok (.goto 14, 3) := by decide +kernel
theorem dX11_sets_111 : decode cX11_sets 111 = .ok (.iconst 1, 1) := by decide +kernel
theorem dX11_sets_112 : decode cX11_sets 112 = .ok (.istore 9, 2) := by decide +kernel
theorem dX11_sets_114 : decode cX11_sets 114 = .ok (.aload_n 0, 1) := by decide +kernel
theorem dX11_sets_115 : decode cX11_sets 115 = .ok (.getfield 81, 3) := by decide +kernel
theorem dX11_sets_118 : decode cX11_sets 118 = .ok (.iload 10, 2) := by decide +kernel
theorem dX11_sets_120 : decode cX11_sets 120 = .ok (.iconst 1, 1) := by decide +kernel
theorem dX11_sets_121 : decode cX11_sets 121 = .ok (.bastore, 1) := by decide +kernel
theorem dX11_sets_122 : decode cX11_sets 122 = .ok (.iinc 10 1, 3) := by decide +kernel
theorem dX11_sets_125 : decode cX11_sets 125 = .ok (.goto (-39), 3) := by decide +kernel
theorem dX11_sets_128 : decode cX11_sets 128 = .ok (.iload 9, 2) := by decide +kernel
theorem dX11_sets_130 : decode cX11_sets 130 = .ok (.ifCond .ne 6, 3) := by decide +kernel
theorem dX11_sets_133 : decode cX11_sets 133 = .ok (.goto 20, 3) := by decide +kernel
theorem dX11_sets_136 : decode cX11_sets 136 = .ok (.iinc 5 1, 3) := by decide +kernel
theorem dX11_sets_139 : decode cX11_sets 139 = .ok (.iload 6, 2) := by decide +kernel
theorem dX11_sets_141 : decode cX11_sets 141 = .ok (.iload 8, 2) := by decide +kernel
theorem dX11_sets_143 : decode cX11_sets 143 = .ok (.iand, 1) := by decide +kernel
theorem dX11_sets_144 : decode cX11_sets 144 = .ok (.istore 6, 2) := by decide +kernel
theorem dX11_sets_146 : decode cX11_sets 146 = .ok (.iload 7, 2) := by decide +kernel
theorem dX11_sets_148 : decode cX11_sets 148 = .ok (.iload 8, 2) := by decide +kernel
theorem dX11_sets_150 : decode cX11_sets 150 = .ok (.ior, 1) := by decide +kernel
theorem dX11_sets_151 : decode cX11_sets 151 = .ok (.istore 7, 2) := by decide +kernel
theorem dX11_sets_153 : decode cX11_sets 153 = .ok (.iinc 8 1, 3) := by decide +kernel
theorem dX11_sets_156 : decode cX11_sets 156 = .ok (.goto (-87), 3) := by decide +kernel
theorem dX11_sets_159 : decode cX11_sets 159 = .ok (.iconst 0, 1) := by decide +kernel
theorem dX11_sets_160 : decode cX11_sets 160 = .ok (.istore 8, 2) := by decide +kernel
theorem dX11_sets_162 : decode cX11_sets 162 = .ok (.iconst (-1), 1) := by decide +kernel
theorem dX11_sets_163 : decode cX11_sets 163 = .ok (.istore 9, 2) := by decide +kernel
theorem dX11_sets_165 : decode cX11_sets 165 = .ok (.iconst (-1), 1) := by decide +kernel
theorem dX11_sets_166 : decode cX11_sets 166 = .ok (.istore 10, 2) := by decide +kernel
theorem dX11_sets_168 : decode cX11_sets 168 = .ok (.iconst 0, 1) := by decide +kernel
theorem dX11_sets_169 : decode cX11_sets 169 = .ok (.istore 11, 2) := by decide +kernel
theorem dX11_sets_171 : decode cX11_sets 171 = .ok (.iload 11, 2) := by decide +kernel
theorem dX11_sets_173 : decode cX11_sets 173 = .ok (.bipush 100, 2) := by decide +kernel
theorem dX11_sets_175 : decode cX11_sets 175 = .ok (.if_icmp .ge 43, 3) := by decide +kernel
theorem dX11_sets_178 : decode cX11_sets 178 = .ok (.aload_n 0, 1) := by decide +kernel
theorem dX11_sets_179 : decode cX11_sets 179 = .ok (.getfield 81, 3) := by decide +kernel
theorem dX11_sets_182 : decode cX11_sets 182 = .ok (.iload 11, 2) := by decide +kernel
theorem dX11_sets_184 : decode cX11_sets 184 = .ok (.baload, 1) := by decide +kernel
theorem dX11_sets_185 : decode cX11_sets 185 = .ok (.ifCond .ne 6, 3) := by decide +kernel
theorem dX11_sets_188 : decode cX11_sets 188 = .ok (.goto 24, 3) := by decide +kernel
theorem dX11_sets_191 : decode cX11_sets 191 = .ok (.iinc 8 1, 3) := by decide +kernel
theorem dX11_sets_194 : decode cX11_sets 194 = .ok (.iload 9, 2) := by decide +kernel
theorem dX11_sets_196 : decode cX11_sets 196 = .ok (.ifCond .ge 8, 3) := by decide +kernel
theorem dX11_sets_199 : decode cX11_sets 199 = .ok (.iload 11, 2) := by decide +kernel
theorem dX11_sets_201 : decode cX11_sets 201 = .ok (.goto 5, 3) := by decide +kernel
theorem dX11_sets_204 : decode cX11_sets 204 = .ok (.iload 9, 2) := by decide +kernel
theorem dX11_sets_206 : decode cX11_sets 206 = .ok (.istore 9, 2) := by decide +kernel
theorem dX11_sets_208 : decode cX11_sets 208 = .ok (.iload 11, 2) := by decide +kernel
theorem dX11_sets_210 : decode cX11_sets 210 = .ok (.istore 10, 2) := by decide +kernel
theorem dX11_sets_212 : decode cX11_sets 212 = .ok (.iinc 11 1, 3) := by decide +kernel
theorem dX11_sets_215 : decode cX11_sets 215 = .ok (.goto (-44), 3) := by decide +kernel
theorem dX11_sets_218 : decode cX11_sets 218 = .ok (.iload_n 3, 1) := by decide +kernel
theorem dX11_sets_219 : decode cX11_sets 219 = .ok (.tableswitch 77 0 4 #[33, 36, 48, 71, 74], 33) := by decide +kernel
theorem dX11_sets_252 : decode cX11_sets 252 = .ok (.iload 5, 2) := by decide +kernel
theorem dX11_sets_254 : decode cX11_sets 254 = .ok (.ireturn, 1) := by decide +kernel
theorem dX11_sets_255 : decode cX11_sets 255 = .ok (.iload 5, 2) := by decide +kernel
theorem dX11_sets_257 : decode cX11_sets 257 = .ok (.ifCond .ne 7, 3) := by decide +kernel
theorem dX11_sets_260 : decode cX11_sets 260 = .ok (.iconst 0, 1) := by decide +kernel
theorem dX11_sets_261 : decode cX11_sets 261 = .ok (.goto 5, 3) := by decide +kernel
theorem dX11_sets_264 : decode cX11_sets 264 = .ok (.iload 6, 2) := by decide +kernel
theorem dX11_sets_266 : decode cX11_sets 266 = .ok (.ireturn, 1) := by decide +kernel
theorem dX11_sets_267 : decode cX11_sets 267 = .ok (.iload 5, 2) := by decide +kernel
theorem dX11_sets_269 : decode cX11_sets 269 = .ok (.ifCond .ne 7, 3) := by decide +kernel
theorem dX11_sets_272 : decode cX11_sets 272 = .ok (.iconst 0, 1) := by decide +kernel
theorem dX11_sets_273 : decode cX11_sets 273 = .ok (.goto 16, 3) := by decide +kernel
theorem dX11_sets_276 : decode cX11_sets 276 = .ok (.iconst 1, 1) := by decide +kernel
theorem dX11_sets_277 : decode cX11_sets 277 = .ok (.aload_n 0, 1) := by decide +kernel
theorem dX11_sets_278 : decode cX11_sets 278 = .ok (.getfield 243, 3) := by decide +kernel
theorem dX11_sets_281 : decode cX11_sets 281 = .ok (.ishl, 1) := by decide +kernel
theorem dX11_sets_282 : decode cX11_sets 282 = .ok (.iconst 1, 1) := by decide +kernel
theorem dX11_sets_283 : decode cX11_sets 283 = .ok (.isub, 1) := by decide +kernel
theorem dX11_sets_284 : decode cX11_sets 284 = .ok (.iload 7, 2) := by decide +kernel
theorem dX11_sets_286 : decode cX11_sets 286 = .ok (.iconst (-1), 1) := by decide +kernel
theorem dX11_sets_287 : decode cX11_sets 287 = .ok (.ixor, 1) := by decide +kernel
theorem dX11_sets_288 : decode cX11_sets 288 = .ok (.iand, 1) := by decide +kernel
theorem dX11_sets_289 : decode cX11_sets 289 = .ok (.ireturn, 1) := by decide +kernel
theorem dX11_sets_290 : decode cX11_sets 290 = .ok (.iload 8, 2) := by decide +kernel
theorem dX11_sets_292 : decode cX11_sets 292 = .ok (.ireturn, 1) := by decide +kernel
theorem dX11_sets_293 : decode cX11_sets 293 = .ok (.iload 9, 2) := by decide +kernel
theorem dX11_sets_295 : decode cX11_sets 295 = .ok (.ireturn, 1) := by decide +kernel
theorem dX11_sets_296 : decode cX11_sets 296 = .ok (.iload 10, 2) := by decide +kernel
theorem dX11_sets_298 : decode cX11_sets 298 = .ok (.ireturn, 1) := by decide +kernel
theorem dX11_spring_0 : decode cX11_spring 0 = .ok (.aload_n 0, 1) := by decide +kernel
theorem dX11_spring_1 : decode cX11_spring 1 = .ok (.iload_n 1, 1) := by decide +kernel
theorem dX11_spring_2 : decode cX11_spring 2 = .ok (.invokevirtual 300, 3) := by decide +kernel
theorem dX11_spring_5 : decode cX11_spring 5 = .ok (.ifCond .eq 39, 3) := by decide +kernel
theorem dX11_spring_8 : decode cX11_spring 8 = .ok (.aload_n 0, 1) := by decide +kernel
theorem dX11_spring_9 : decode cX11_spring 9 = .ok (.iload_n 3, 1) := by decide +kernel
theorem dX11_spring_10 : decode cX11_spring 10 = .ok (.invokevirtual 300, 3) := by decide +kernel
theorem dX11_spring_13 : decode cX11_spring 13 = .ok (.ifCond .eq 31, 3) := by decide +kernel
theorem dX11_spring_16 : decode cX11_spring 16 = .ok (.iload_n 1, 1) := by decide +kernel
theorem dX11_spring_17 : decode cX11_spring 17 = .ok (.iload_n 3, 1) := by decide +kernel
theorem dX11_spring_18 : decode cX11_spring 18 = .ok (.if_icmp .eq 26, 3) := by decide +kernel
theorem dX11_spring_21 : decode cX11_spring 21 = .ok (.iload_n 2, 1) := by decide +kernel
theorem dX11_spring_22 : decode cX11_spring 22 = .ok (.invokestatic 309, 3) := by decide +kernel
theorem dX11_spring_25 : decode cX11_spring 25 = .ok (.ifCond .eq 19, 3) := by decide +kernel
theorem dX11_spring_28 : decode cX11_spring 28 = .ok (.iload 4, 2) := by decide +kernel
theorem dX11_spring_30 : decode cX11_spring 30 = .ok (.invokestatic 309, 3) := by decide +kernel
theorem dX11_spring_33 : decode cX11_spring 33 = .ok (.ifCond .eq 11, 3) := by decide +kernel
theorem dX11_spring_36 : decode cX11_spring 36 = .ok (.iload 5, 2) := by decide +kernel
theorem dX11_spring_38 : decode cX11_spring 38 = .ok (.invokestatic 318, 3) := by decide +kernel
theorem dX11_spring_41 : decode cX11_spring 41 = .ok (.ifCond .ne 5, 3) := by decide +kernel
theorem dX11_spring_44 : decode cX11_spring 44 = .ok (.iconst 0, 1) := by decide +kernel
theorem dX11_spring_45 : decode cX11_spring 45 = .ok (.ireturn, 1) := by decide +kernel
theorem dX11_spring_46 : decode cX11_spring 46 = .ok (.aload_n 0, 1) := by decide +kernel
theorem dX11_spring_47 : decode cX11_spring 47 = .ok (.iconst 1, 1) := by decide +kernel
theorem dX11_spring_48 : decode cX11_spring 48 = .ok (.putfield 279, 3) := by decide +kernel
theorem dX11_spring_51 : decode cX11_spring 51 = .ok (.aload_n 0, 1) := by decide +kernel
theorem dX11_spring_52 : decode cX11_spring 52 = .ok (.iload_n 1, 1) := by decide +kernel
theorem dX11_spring_53 : decode cX11_spring 53 = .ok (.putfield 341, 3) := by decide +kernel
theorem dX11_spring_56 : decode cX11_spring 56 = .ok (.aload_n 0, 1) := by decide +kernel
theorem dX11_spring_57 : decode cX11_spring 57 = .ok (.iload_n 2, 1) := by decide +kernel
theorem dX11_spring_58 : decode cX11_spring 58 = .ok (.putfield 344, 3) := by decide +kernel
theorem dX11_spring_61 : decode cX11_spring 61 = .ok (.aload_n 0, 1) := by decide +kernel
theorem dX11_spring_62 : decode cX11_spring 62 = .ok (.iload_n 3, 1) := by decide +kernel
theorem dX11_spring_63 : decode cX11_spring 63 = .ok (.putfield 347, 3) := by decide +kernel
theorem dX11_spring_66 : decode cX11_spring 66 = .ok (.aload_n 0, 1) := by decide +kernel
theorem dX11_spring_67 : decode cX11_spring 67 = .ok (.iload 4, 2) := by decide +kernel
theorem dX11_spring_69 : decode cX11_spring 69 = .ok (.putfield 350, 3) := by decide +kernel
theorem dX11_spring_72 : decode cX11_spring 72 = .ok (.aload_n 0, 1) := by decide +kernel
theorem dX11_spring_73 : decode cX11_spring 73 = .ok (.iload 5, 2) := by decide +kernel
theorem dX11_spring_75 : decode cX11_spring 75 = .ok (.putfield 353, 3) := by decide +kernel
theorem dX11_spring_78 : decode cX11_spring 78 = .ok (.iconst 1, 1) := by decide +kernel
theorem dX11_spring_79 : decode cX11_spring 79 = .ok (.ireturn, 1) := by decide +kernel
theorem dX11_isParted_0 : decode cX11_isParted 0 = .ok (.aload_n 0, 1) := by decide +kernel
theorem dX11_isParted_1 : decode cX11_isParted 1 = .ok (.invokevirtual 255, 3) := by decide +kernel
theorem dX11_isParted_4 : decode cX11_isParted 4 = .ok (.iload_n 1, 1) := by decide +kernel
theorem dX11_isParted_5 : decode cX11_isParted 5 = .ok (.iconst (-1), 1) := by decide +kernel
theorem dX11_isParted_6 : decode cX11_isParted 6 = .ok (.ixor, 1) := by decide +kernel
theorem dX11_isParted_7 : decode cX11_isParted 7 = .ok (.iand, 1) := by decide +kernel
theorem dX11_isParted_8 : decode cX11_isParted 8 = .ok (.istore 4, 2) := by decide +kernel
theorem dX11_isParted_10 : decode cX11_isParted 10 = .ok (.iconst 1, 1) := by decide +kernel
theorem dX11_isParted_11 : decode cX11_isParted 11 = .ok (.istore 5, 2) := by decide +kernel
theorem dX11_isParted_13 : decode cX11_isParted 13 = .ok (.iconst 0, 1) := by decide +kernel
theorem dX11_isParted_14 : decode cX11_isParted 14 = .ok (.istore 6, 2) := by decide +kernel
theorem dX11_isParted_16 : decode cX11_isParted 16 = .ok (.iload 6, 2) := by decide +kernel
theorem dX11_isParted_18 : decode cX11_isParted 18 = .ok (.aload_n 0, 1) := by decide +kernel
theorem dX11_isParted_19 : decode cX11_isParted 19 = .ok (.getfield 273, 3) := by decide +kernel
theorem dX11_isParted_22 : decode cX11_isParted 22 = .ok (.if_icmp .ge 102, 3) := by decide +kernel
theorem dX11_isParted_25 : decode cX11_isParted 25 = .ok (.iload 5, 2) := by decide +kernel
theorem dX11_isParted_27 : decode cX11_isParted 27 = .ok (.ifCond .eq 97, 3) := by decide +kernel
theorem dX11_isParted_30 : decode cX11_isParted 30 = .ok (.aload_n 0, 1) := by decide +kernel
theorem dX11_isParted_31 : decode cX11_isParted 31 = .ok (.iload 6, 2) := by decide +kernel
theorem dX11_isParted_33 : decode cX11_isParted 33 = .ok (.iconst 0, 1) := by decide +kernel
theorem dX11_isParted_34 : decode cX11_isParted 34 = .ok (.iload_n 3, 1) := by decide +kernel
theorem dX11_isParted_35 : decode cX11_isParted 35 = .ok (.invokevirtual 330, 3) := by decide +kernel
theorem dX11_isParted_38 : decode cX11_isParted 38 = .ok (.ifCond .eq 80, 3) := by decide +kernel
theorem dX11_isParted_41 : decode cX11_isParted 41 = .ok (.aload_n 0, 1) := by decide +kernel
theorem dX11_isParted_42 : decode cX11_isParted 42 = .ok (.getfield 60, 3) := by decide +kernel
theorem dX11_isParted_45 : decode cX11_isParted 45 = .ok (.iload 6, 2) := by decide +kernel
theorem dX11_isParted_47 : decode cX11_isParted 47 = .ok (.iaload, 1) := by decide +kernel
theorem dX11_isParted_48 : decode cX11_isParted 48 = .ok (.aload_n 0, 1) := by decide +kernel
theorem dX11_isParted_49 : decode cX11_isParted 49 = .ok (.getfield 353, 3) := by decide +kernel
theorem dX11_isParted_52 : decode cX11_isParted 52 = .ok (.if_icmp .eq 6, 3) := by decide +kernel
theorem dX11_isParted_55 : decode cX11_isParted 55 = .ok (.goto 63, 3) := by decide +kernel
theorem dX11_isParted_58 : decode cX11_isParted 58 = .ok (.aload_n 0, 1) := by decide +kernel
theorem dX11_isParted_59 : decode cX11_isParted 59 = .ok (.getfield 63, 3) := by decide +kernel
theorem dX11_isParted_62 : decode cX11_isParted 62 = .ok (.iload 6, 2) := by decide +kernel
theorem dX11_isParted_64 : decode cX11_isParted 64 = .ok (.iaload, 1) := by decide +kernel
theorem dX11_isParted_65 : decode cX11_isParted 65 = .ok (.aload_n 0, 1) := by decide +kernel
theorem dX11_isParted_66 : decode cX11_isParted 66 = .ok (.getfield 341, 3) := by decide +kernel
theorem dX11_isParted_69 : decode cX11_isParted 69 = .ok (.if_icmp .ne 20, 3) := by decide +kernel
theorem dX11_isParted_72 : decode cX11_isParted 72 = .ok (.aload_n 0, 1) := by decide +kernel
theorem dX11_isParted_73 : decode cX11_isParted 73 = .ok (.iload 6, 2) := by decide +kernel
theorem dX11_isParted_75 : decode cX11_isParted 75 = .ok (.iload_n 1, 1) := by decide +kernel
theorem dX11_isParted_76 : decode cX11_isParted 76 = .ok (.aload_n 0, 1) := by decide +kernel
theorem dX11_isParted_77 : decode cX11_isParted 77 = .ok (.getfield 344, 3) := by decide +kernel
theorem dX11_isParted_80 : decode cX11_isParted 80 = .ok (.iload_n 2, 1) := by decide +kernel
theorem dX11_isParted_81 : decode cX11_isParted 81 = .ok (.invokevirtual 333, 3) := by decide +kernel
theorem dX11_isParted_84 : decode cX11_isParted 84 = .ok (.istore 5, 2) := by decide +kernel
theorem dX11_isParted_86 : decode cX11_isParted 86 = .ok (.goto 32, 3) := by decide +kernel
theorem dX11_isParted_89 : decode cX11_isParted 89 = .ok (.aload_n 0, 1) := by decide +kernel
theorem dX11_isParted_90 : decode cX11_isParted 90 = .ok (.getfield 63, 3) := by decide +kernel
theorem dX11_isParted_93 : decode cX11_isParted 93 = .ok (.iload 6, 2) := by decide +kernel
theorem dX11_isParted_95 : decode cX11_isParted 95 = .ok (.iaload, 1) := by decide +kernel
theorem dX11_isParted_96 : decode cX11_isParted 96 = .ok (.aload_n 0, 1) := by decide +kernel
theorem dX11_isParted_97 : decode cX11_isParted 97 = .ok (.getfield 347, 3) := by decide +kernel
theorem dX11_isParted_100 : decode cX11_isParted 100 = .ok (.if_icmp .ne 18, 3) := by decide +kernel
theorem dX11_isParted_103 : decode cX11_isParted 103 = .ok (.aload_n 0, 1) := by decide +kernel
theorem dX11_isParted_104 : decode cX11_isParted 104 = .ok (.iload 6, 2) := by decide +kernel
theorem dX11_isParted_106 : decode cX11_isParted 106 = .ok (.iload 4, 2) := by decide +kernel
theorem dX11_isParted_108 : decode cX11_isParted 108 = .ok (.aload_n 0, 1) := by decide +kernel
theorem dX11_isParted_109 : decode cX11_isParted 109 = .ok (.getfield 350, 3) := by decide +kernel
theorem dX11_isParted_112 : decode cX11_isParted 112 = .ok (.iload_n 2, 1) := by decide +kernel
theorem dX11_isParted_113 : decode cX11_isParted 113 = .ok (.invokevirtual 333, 3) := by decide +kernel
theorem dX11_isParted_116 : decode cX11_isParted 116 = .ok (.istore 5, 2) := by decide +kernel
theorem dX11_isParted_118 : decode cX11_isParted 118 = .ok (.iinc 6 1, 3) := by decide +kernel
theorem dX11_isParted_121 : decode cX11_isParted 121 = .ok (.goto (-105), 3) := by decide +kernel
theorem dX11_isParted_124 : decode cX11_isParted 124 = .ok (.iload 5, 2) := by decide +kernel
theorem dX11_isParted_126 : decode cX11_isParted 126 = .ok (.ireturn, 1) := by decide +kernel
theorem dX11_mixedOf_0 : decode cX11_mixedOf 0 = .ok (.iconst 0, 1) := by decide +kernel
theorem dX11_mixedOf_1 : decode cX11_mixedOf 1 = .ok (.istore_n 2, 1) := by decide +kernel
theorem dX11_mixedOf_2 : decode cX11_mixedOf 2 = .ok (.iconst 0, 1) := by decide +kernel
theorem dX11_mixedOf_3 : decode cX11_mixedOf 3 = .ok (.istore_n 3, 1) := by decide +kernel
theorem dX11_mixedOf_4 : decode cX11_mixedOf 4 = .ok (.iload_n 3, 1) := by decide +kernel
theorem dX11_mixedOf_5 : decode cX11_mixedOf 5 = .ok (.aload_n 0, 1) := by decide +kernel
theorem dX11_mixedOf_6 : decode cX11_mixedOf 6 = .ok (.getfield 240, 3) := by decide +kernel
theorem dX11_mixedOf_9 : decode cX11_mixedOf 9 = .ok (.if_icmp .ge 93, 3) := by decide +kernel
theorem dX11_mixedOf_12 : decode cX11_mixedOf 12 = .ok (.iconst 0, 1) := by decide +kernel
theorem dX11_mixedOf_13 : decode cX11_mixedOf 13 = .ok (.istore 4, 2) := by decide +kernel
theorem dX11_mixedOf_15 : decode cX11_mixedOf 15 = .ok (.iconst 0, 1) := by decide +kernel
theorem dX11_mixedOf_16 : decode cX11_mixedOf 16 = .ok (.istore 5, 2) := by decide +kernel
theorem dX11_mixedOf_18 : decode cX11_mixedOf 18 = .ok (.iconst 0, 1) := by decide +kernel
theorem dX11_mixedOf_19 : decode cX11_mixedOf 19 = .ok (.istore 6, 2) := by decide +kernel
theorem dX11_mixedOf_21 : decode cX11_mixedOf 21 = .ok (.iload 6, 2) := by decide +kernel
theorem dX11_mixedOf_23 : decode cX11_mixedOf 23 = .ok (.aload_n 0, 1) := by decide +kernel
theorem dX11_mixedOf_24 : decode cX11_mixedOf 24 = .ok (.getfield 252, 3) := by decide +kernel
theorem dX11_mixedOf_27 : decode cX11_mixedOf 27 = .ok (.if_icmp .ge 52, 3) := by decide +kernel
theorem dX11_mixedOf_30 : decode cX11_mixedOf 30 = .ok (.aload_n 0, 1) := by decide +kernel
theorem dX11_mixedOf_31 : decode cX11_mixedOf 31 = .ok (.getfield 42, 3) := by decide +kernel
theorem dX11_mixedOf_34 : decode cX11_mixedOf 34 = .ok (.aload_n 0, 1) := by decide +kernel
theorem dX11_mixedOf_35 : decode cX11_mixedOf 35 = .ok (.getfield 51, 3) := by decide +kernel
theorem dX11_mixedOf_38 : decode cX11_mixedOf 38 = .ok (.iload 6, 2) := by decide +kernel
theorem dX11_mixedOf_40 : decode cX11_mixedOf 40 = .ok (.iaload, 1) := by decide +kernel
theorem dX11_mixedOf_41 : decode cX11_mixedOf 41 = .ok (.iaload, 1) := by decide +kernel
theorem dX11_mixedOf_42 : decode cX11_mixedOf 42 = .ok (.iload_n 3, 1) := by decide +kernel
theorem dX11_mixedOf_43 : decode cX11_mixedOf 43 = .ok (.if_icmp .eq 6, 3) := by decide +kernel
theorem dX11_mixedOf_46 : decode cX11_mixedOf 46 = .ok (.goto 27, 3) := by decide +kernel
theorem dX11_mixedOf_49 : decode cX11_mixedOf 49 = .ok (.iload_n 1, 1) := by decide +kernel
theorem dX11_mixedOf_50 : decode cX11_mixedOf 50 = .ok (.aload_n 0, 1) := by decide +kernel
theorem dX11_mixedOf_51 : decode cX11_mixedOf 51 = .ok (.getfield 51, 3) := by decide +kernel
