theorem dX11_mixedOf_54 : decode cX11_mixedOf 54 = .ok (.iload 6, 2) := by decide +kernel
theorem dX11_mixedOf_56 : decode cX11_mixedOf 56 = .ok (.iaload, 1) := by decide +kernel
theorem dX11_mixedOf_57 : decode cX11_mixedOf 57 = .ok (.ishr, 1) := by decide +kernel
theorem dX11_mixedOf_58 : decode cX11_mixedOf 58 = .ok (.iconst 1, 1) := by decide +kernel
theorem dX11_mixedOf_59 : decode cX11_mixedOf 59 = .ok (.iand, 1) := by decide +kernel
theorem dX11_mixedOf_60 : decode cX11_mixedOf 60 = .ok (.iconst 1, 1) := by decide +kernel
theorem dX11_mixedOf_61 : decode cX11_mixedOf 61 = .ok (.if_icmp .ne 9, 3) := by decide +kernel
theorem dX11_mixedOf_64 : decode cX11_mixedOf 64 = .ok (.iinc 4 1, 3) := by decide +kernel
theorem dX11_mixedOf_67 : decode cX11_mixedOf 67 = .ok (.goto 6, 3) := by decide +kernel
theorem dX11_mixedOf_70 : decode cX11_mixedOf 70 = .ok (.iinc 5 1, 3) := by decide +kernel
theorem dX11_mixedOf_73 : decode cX11_mixedOf 73 = .ok (.iinc 6 1, 3) := by decide +kernel
theorem dX11_mixedOf_76 : decode cX11_mixedOf 76 = .ok (.goto (-55), 3) := by decide +kernel
theorem dX11_mixedOf_79 : decode cX11_mixedOf 79 = .ok (.iload_n 2, 1) := by decide +kernel
theorem dX11_mixedOf_80 : decode cX11_mixedOf 80 = .ok (.iload 4, 2) := by decide +kernel
theorem dX11_mixedOf_82 : decode cX11_mixedOf 82 = .ok (.iload 5, 2) := by decide +kernel
theorem dX11_mixedOf_84 : decode cX11_mixedOf 84 = .ok (.if_icmp .ge 8, 3) := by decide +kernel
theorem dX11_mixedOf_87 : decode cX11_mixedOf 87 = .ok (.iload 4, 2) := by decide +kernel
theorem dX11_mixedOf_89 : decode cX11_mixedOf 89 = .ok (.goto 5, 3) := by decide +kernel
theorem dX11_mixedOf_92 : decode cX11_mixedOf 92 = .ok (.iload 5, 2) := by decide +kernel
theorem dX11_mixedOf_94 : decode cX11_mixedOf 94 = .ok (.iadd, 1) := by decide +kernel
theorem dX11_mixedOf_95 : decode cX11_mixedOf 95 = .ok (.istore_n 2, 1) := by decide +kernel
theorem dX11_mixedOf_96 : decode cX11_mixedOf 96 = .ok (.iinc 3 1, 3) := by decide +kernel
theorem dX11_mixedOf_99 : decode cX11_mixedOf 99 = .ok (.goto (-95), 3) := by decide +kernel
theorem dX11_mixedOf_102 : decode cX11_mixedOf 102 = .ok (.iload_n 2, 1) := by decide +kernel
theorem dX11_mixedOf_103 : decode cX11_mixedOf 103 = .ok (.ireturn, 1) := by decide +kernel
theorem dX11_parted_0 : decode cX11_parted 0 = .ok (.iload_n 1, 1) := by decide +kernel
theorem dX11_parted_1 : decode cX11_parted 1 = .ok (.invokestatic 312, 3) := by decide +kernel
theorem dX11_parted_4 : decode cX11_parted 4 = .ok (.ifCond .eq 19, 3) := by decide +kernel
theorem dX11_parted_7 : decode cX11_parted 7 = .ok (.iload_n 2, 1) := by decide +kernel
theorem dX11_parted_8 : decode cX11_parted 8 = .ok (.iconst 0, 1) := by decide +kernel
theorem dX11_parted_9 : decode cX11_parted 9 = .ok (.iconst 4, 1) := by decide +kernel
theorem dX11_parted_10 : decode cX11_parted 10 = .ok (.invokestatic 283, 3) := by decide +kernel
theorem dX11_parted_13 : decode cX11_parted 13 = .ok (.ifCond .eq 10, 3) := by decide +kernel
theorem dX11_parted_16 : decode cX11_parted 16 = .ok (.aload_n 0, 1) := by decide +kernel
theorem dX11_parted_17 : decode cX11_parted 17 = .ok (.getfield 279, 3) := by decide +kernel
theorem dX11_parted_20 : decode cX11_parted 20 = .ok (.ifCond .ne 6, 3) := by decide +kernel
theorem dX11_parted_23 : decode cX11_parted 23 = .ok (.bipush (-2), 2) := by decide +kernel
theorem dX11_parted_25 : decode cX11_parted 25 = .ok (.ireturn, 1) := by decide +kernel
theorem dX11_parted_26 : decode cX11_parted 26 = .ok (.aload_n 0, 1) := by decide +kernel
theorem dX11_parted_27 : decode cX11_parted 27 = .ok (.invokevirtual 255, 3) := by decide +kernel
theorem dX11_parted_30 : decode cX11_parted 30 = .ok (.istore 4, 2) := by decide +kernel
theorem dX11_parted_32 : decode cX11_parted 32 = .ok (.iconst 0, 1) := by decide +kernel
theorem dX11_parted_33 : decode cX11_parted 33 = .ok (.istore 5, 2) := by decide +kernel
theorem dX11_parted_35 : decode cX11_parted 35 = .ok (.iload 4, 2) := by decide +kernel
theorem dX11_parted_37 : decode cX11_parted 37 = .ok (.istore 6, 2) := by decide +kernel
theorem dX11_parted_39 : decode cX11_parted 39 = .ok (.iconst 0, 1) := by decide +kernel
theorem dX11_parted_40 : decode cX11_parted 40 = .ok (.istore 7, 2) := by decide +kernel
theorem dX11_parted_42 : decode cX11_parted 42 = .ok (.iconst (-1), 1) := by decide +kernel
theorem dX11_parted_43 : decode cX11_parted 43 = .ok (.istore 8, 2) := by decide +kernel
theorem dX11_parted_45 : decode cX11_parted 45 = .ok (.iconst 0, 1) := by decide +kernel
theorem dX11_parted_46 : decode cX11_parted 46 = .ok (.istore 9, 2) := by decide +kernel
theorem dX11_parted_48 : decode cX11_parted 48 = .ok (.iconst 0, 1) := by decide +kernel
theorem dX11_parted_49 : decode cX11_parted 49 = .ok (.istore 10, 2) := by decide +kernel
theorem dX11_parted_51 : decode cX11_parted 51 = .ok (.iload 10, 2) := by decide +kernel
theorem dX11_parted_53 : decode cX11_parted 53 = .ok (.iload 4, 2) := by decide +kernel
theorem dX11_parted_55 : decode cX11_parted 55 = .ok (.if_icmp .gt 81, 3) := by decide +kernel
theorem dX11_parted_58 : decode cX11_parted 58 = .ok (.iload 10, 2) := by decide +kernel
theorem dX11_parted_60 : decode cX11_parted 60 = .ok (.iload 4, 2) := by decide +kernel
theorem dX11_parted_62 : decode cX11_parted 62 = .ok (.iconst (-1), 1) := by decide +kernel
theorem dX11_parted_63 : decode cX11_parted 63 = .ok (.ixor, 1) := by decide +kernel
theorem dX11_parted_64 : decode cX11_parted 64 = .ok (.iand, 1) := by decide +kernel
theorem dX11_parted_65 : decode cX11_parted 65 = .ok (.ifCond .ne 65, 3) := by decide +kernel
theorem dX11_parted_68 : decode cX11_parted 68 = .ok (.aload_n 0, 1) := by decide +kernel
theorem dX11_parted_69 : decode cX11_parted 69 = .ok (.iload 10, 2) := by decide +kernel
theorem dX11_parted_71 : decode cX11_parted 71 = .ok (.iload_n 1, 1) := by decide +kernel
theorem dX11_parted_72 : decode cX11_parted 72 = .ok (.iload_n 3, 1) := by decide +kernel
theorem dX11_parted_73 : decode cX11_parted 73 = .ok (.invokevirtual 356, 3) := by decide +kernel
theorem dX11_parted_76 : decode cX11_parted 76 = .ok (.ifCond .ne 6, 3) := by decide +kernel
theorem dX11_parted_79 : decode cX11_parted 79 = .ok (.goto 51, 3) := by decide +kernel
theorem dX11_parted_82 : decode cX11_parted 82 = .ok (.iinc 5 1, 3) := by decide +kernel
theorem dX11_parted_85 : decode cX11_parted 85 = .ok (.iload 6, 2) := by decide +kernel
theorem dX11_parted_87 : decode cX11_parted 87 = .ok (.iload 10, 2) := by decide +kernel
theorem dX11_parted_89 : decode cX11_parted 89 = .ok (.iand, 1) := by decide +kernel
theorem dX11_parted_90 : decode cX11_parted 90 = .ok (.istore 6, 2) := by decide +kernel
theorem dX11_parted_92 : decode cX11_parted 92 = .ok (.iload 7, 2) := by decide +kernel
theorem dX11_parted_94 : decode cX11_parted 94 = .ok (.iload 10, 2) := by decide +kernel
theorem dX11_parted_96 : decode cX11_parted 96 = .ok (.ior, 1) := by decide +kernel
theorem dX11_parted_97 : decode cX11_parted 97 = .ok (.istore 7, 2) := by decide +kernel
theorem dX11_parted_99 : decode cX11_parted 99 = .ok (.aload_n 0, 1) := by decide +kernel
theorem dX11_parted_100 : decode cX11_parted 100 = .ok (.iload 10, 2) := by decide +kernel
theorem dX11_parted_102 : decode cX11_parted 102 = .ok (.invokevirtual 359, 3) := by decide +kernel
theorem dX11_parted_105 : decode cX11_parted 105 = .ok (.istore 11, 2) := by decide +kernel
theorem dX11_parted_107 : decode cX11_parted 107 = .ok (.iload 8, 2) := by decide +kernel
theorem dX11_parted_109 : decode cX11_parted 109 = .ok (.ifCond .lt 13, 3) := by decide +kernel
theorem dX11_parted_112 : decode cX11_parted 112 = .ok (.iload 11, 2) := by decide +kernel
theorem dX11_parted_114 : decode cX11_parted 114 = .ok (.iload 9, 2) := by decide +kernel
theorem dX11_parted_116 : decode cX11_parted 116 = .ok (.if_icmp .lt 6, 3) := by decide +kernel
theorem dX11_parted_119 : decode cX11_parted 119 = .ok (.goto 11, 3) := by decide +kernel
theorem dX11_parted_122 : decode cX11_parted 122 = .ok (.iload 10, 2) := by decide +kernel
theorem dX11_parted_124 : decode cX11_parted 124 = .ok (.istore 8, 2) := by decide +kernel
theorem dX11_parted_126 : decode cX11_parted 126 = .ok (.iload 11, 2) := by decide +kernel
theorem dX11_parted_128 : decode cX11_parted 128 = .ok (.istore 9, 2) := by decide +kernel
theorem dX11_parted_130 : decode cX11_parted 130 = .ok (.iinc 10 1, 3) := by decide +kernel
theorem dX11_parted_133 : decode cX11_parted 133 = .ok (.goto (-82), 3) := by decide +kernel
theorem dX11_parted_136 : decode cX11_parted 136 = .ok (.iload_n 2, 1) := by decide +kernel
theorem dX11_parted_137 : decode cX11_parted 137 = .ok (.tableswitch 75 0 3 #[31, 34, 46, 63], 31) := by decide +kernel
theorem dX11_parted_168 : decode cX11_parted 168 = .ok (.iload 5, 2) := by decide +kernel
theorem dX11_parted_170 : decode cX11_parted 170 = .ok (.ireturn, 1) := by decide +kernel
theorem dX11_parted_171 : decode cX11_parted 171 = .ok (.iload 5, 2) := by decide +kernel
theorem dX11_parted_173 : decode cX11_parted 173 = .ok (.ifCond .ne 7, 3) := by decide +kernel
theorem dX11_parted_176 : decode cX11_parted 176 = .ok (.iconst 0, 1) := by decide +kernel
theorem dX11_parted_177 : decode cX11_parted 177 = .ok (.goto 5, 3) := by decide +kernel
theorem dX11_parted_180 : decode cX11_parted 180 = .ok (.iload 6, 2) := by decide +kernel
theorem dX11_parted_182 : decode cX11_parted 182 = .ok (.ireturn, 1) := by decide +kernel
theorem dX11_parted_183 : decode cX11_parted 183 = .ok (.iload 5, 2) := by decide +kernel
theorem dX11_parted_185 : decode cX11_parted 185 = .ok (.ifCond .ne 7, 3) := by decide +kernel
theorem dX11_parted_188 : decode cX11_parted 188 = .ok (.iconst 0, 1) := by decide +kernel
theorem dX11_parted_189 : decode cX11_parted 189 = .ok (.goto 10, 3) := by decide +kernel
theorem dX11_parted_192 : decode cX11_parted 192 = .ok (.iload 4, 2) := by decide +kernel
theorem dX11_parted_194 : decode cX11_parted 194 = .ok (.iload 7, 2) := by decide +kernel
theorem dX11_parted_196 : decode cX11_parted 196 = .ok (.iconst (-1), 1) := by decide +kernel
theorem dX11_parted_197 : decode cX11_parted 197 = .ok (.ixor, 1) := by decide +kernel
theorem dX11_parted_198 : decode cX11_parted 198 = .ok (.iand, 1) := by decide +kernel
theorem dX11_parted_199 : decode cX11_parted 199 = .ok (.ireturn, 1) := by decide +kernel
theorem dX11_parted_200 : decode cX11_parted 200 = .ok (.iload 8, 2) := by decide +kernel
theorem dX11_parted_202 : decode cX11_parted 202 = .ok (.ifCond .ge 7, 3) := by decide +kernel
theorem dX11_parted_205 : decode cX11_parted 205 = .ok (.iconst (-1), 1) := by decide +kernel
theorem dX11_parted_206 : decode cX11_parted 206 = .ok (.goto 5, 3) := by decide +kernel
theorem dX11_parted_209 : decode cX11_parted 209 = .ok (.iload 9, 2) := by decide +kernel
theorem dX11_parted_211 : decode cX11_parted 211 = .ok (.ireturn, 1) := by decide +kernel
theorem dX11_parted_212 : decode cX11_parted 212 = .ok (.iload 8, 2) := by decide +kernel
theorem dX11_parted_214 : decode cX11_parted 214 = .ok (.ireturn, 1) := by decide +kernel
theorem dX11_couldCome_0 : decode cX11_couldCome 0 = .ok (.iconst 1, 1) := by decide +kernel
theorem dX11_couldCome_1 : decode cX11_couldCome 1 = .ok (.istore 6, 2) := by decide +kernel
theorem dX11_couldCome_3 : decode cX11_couldCome 3 = .ok (.iconst 0, 1) := by decide +kernel
theorem dX11_couldCome_4 : decode cX11_couldCome 4 = .ok (.istore 7, 2) := by decide +kernel
theorem dX11_couldCome_6 : decode cX11_couldCome 6 = .ok (.iload 7, 2) := by decide +kernel
theorem dX11_couldCome_8 : decode cX11_couldCome 8 = .ok (.aload_n 0, 1) := by decide +kernel
theorem dX11_couldCome_9 : decode cX11_couldCome 9 = .ok (.getfield 273, 3) := by decide +kernel
theorem dX11_couldCome_12 : decode cX11_couldCome 12 = .ok (.if_icmp .ge 68, 3) := by decide +kernel
theorem dX11_couldCome_15 : decode cX11_couldCome 15 = .ok (.iload 6, 2) := by decide +kernel
theorem dX11_couldCome_17 : decode cX11_couldCome 17 = .ok (.ifCond .eq 63, 3) := by decide +kernel
theorem dX11_couldCome_20 : decode cX11_couldCome 20 = .ok (.aload_n 0, 1) := by decide +kernel
theorem dX11_couldCome_21 : decode cX11_couldCome 21 = .ok (.iload 7, 2) := by decide +kernel
theorem dX11_couldCome_23 : decode cX11_couldCome 23 = .ok (.iconst 0, 1) := by decide +kernel
theorem dX11_couldCome_24 : decode cX11_couldCome 24 = .ok (.iload 5, 2) := by decide +kernel
theorem dX11_couldCome_26 : decode cX11_couldCome 26 = .ok (.invokevirtual 330, 3) := by decide +kernel
theorem dX11_couldCome_29 : decode cX11_couldCome 29 = .ok (.ifCond .eq 38, 3) := by decide +kernel
theorem dX11_couldCome_32 : decode cX11_couldCome 32 = .ok (.aload_n 0, 1) := by decide +kernel
theorem dX11_couldCome_33 : decode cX11_couldCome 33 = .ok (.iload 7, 2) := by decide +kernel
theorem dX11_couldCome_35 : decode cX11_couldCome 35 = .ok (.aload_n 0, 1) := by decide +kernel
theorem dX11_couldCome_36 : decode cX11_couldCome 36 = .ok (.invokevirtual 255, 3) := by decide +kernel
theorem dX11_couldCome_39 : decode cX11_couldCome 39 = .ok (.aload_n 0, 1) := by decide +kernel
theorem dX11_couldCome_40 : decode cX11_couldCome 40 = .ok (.getfield 60, 3) := by decide +kernel
theorem dX11_couldCome_43 : decode cX11_couldCome 43 = .ok (.iload 7, 2) := by decide +kernel
theorem dX11_couldCome_45 : decode cX11_couldCome 45 = .ok (.iaload, 1) := by decide +kernel
theorem dX11_couldCome_46 : decode cX11_couldCome 46 = .ok (.iload_n 2, 1) := by decide +kernel
theorem dX11_couldCome_47 : decode cX11_couldCome 47 = .ok (.if_icmp .lt 9, 3) := by decide +kernel
theorem dX11_couldCome_50 : decode cX11_couldCome 50 = .ok (.iconst 1, 1) := by decide +kernel
theorem dX11_couldCome_51 : decode cX11_couldCome 51 = .ok (.iload_n 1, 1) := by decide +kernel
theorem dX11_couldCome_52 : decode cX11_couldCome 52 = .ok (.ishl, 1) := by decide +kernel
theorem dX11_couldCome_53 : decode cX11_couldCome 53 = .ok (.goto 4, 3) := by decide +kernel
theorem dX11_couldCome_56 : decode cX11_couldCome 56 = .ok (.iconst 0, 1) := by decide +kernel
theorem dX11_couldCome_57 : decode cX11_couldCome 57 = .ok (.ior, 1) := by decide +kernel
theorem dX11_couldCome_58 : decode cX11_couldCome 58 = .ok (.iload_n 3, 1) := by decide +kernel
theorem dX11_couldCome_59 : decode cX11_couldCome 59 = .ok (.iload 4, 2) := by decide +kernel
theorem dX11_couldCome_61 : decode cX11_couldCome 61 = .ok (.invokevirtual 333, 3) := by decide +kernel
theorem dX11_couldCome_64 : decode cX11_couldCome 64 = .ok (.ifCond .eq 7, 3) := by decide +kernel
theorem dX11_couldCome_67 : decode cX11_couldCome 67 = .ok (.iconst 1, 1) := by decide +kernel
theorem dX11_couldCome_68 : decode cX11_couldCome 68 = .ok (.goto 4, 3) := by decide +kernel
theorem dX11_couldCome_71 : decode cX11_couldCome 71 = .ok (.iconst 0, 1) := by decide +kernel
theorem dX11_couldCome_72 : decode cX11_couldCome 72 = .ok (.istore 6, 2) := by decide +kernel
theorem dX11_couldCome_74 : decode cX11_couldCome 74 = .ok (.iinc 7 1, 3) := by decide +kernel
theorem dX11_couldCome_77 : decode cX11_couldCome 77 = .ok (.goto (-71), 3) := by decide +kernel
theorem dX11_couldCome_80 : decode cX11_couldCome 80 = .ok (.iload 6, 2) := by decide +kernel
theorem dX11_couldCome_82 : decode cX11_couldCome 82 = .ok (.ireturn, 1) := by decide +kernel
theorem dX11_came_0 : decode cX11_came 0 = .ok (.aload_n 0, 1) := by decide +kernel
theorem dX11_came_1 : decode cX11_came 1 = .ok (.iload_n 1, 1) := by decide +kernel
theorem dX11_came_2 : decode cX11_came 2 = .ok (.invokevirtual 287, 3) := by decide +kernel
theorem dX11_came_5 : decode cX11_came 5 = .ok (.ifCond .eq 36, 3) := by decide +kernel
theorem dX11_came_8 : decode cX11_came 8 = .ok (.aload_n 0, 1) := by decide +kernel
theorem dX11_came_9 : decode cX11_came 9 = .ok (.getfield 42, 3) := by decide +kernel
theorem dX11_came_12 : decode cX11_came 12 = .ok (.iload_n 1, 1) := by decide +kernel
theorem dX11_came_13 : decode cX11_came 13 = .ok (.iaload, 1) := by decide +kernel
theorem dX11_came_14 : decode cX11_came 14 = .ok (.ifCond .ge 27, 3) := by decide +kernel
theorem dX11_came_17 : decode cX11_came 17 = .ok (.iload_n 2, 1) := by decide +kernel
theorem dX11_came_18 : decode cX11_came 18 = .ok (.invokestatic 309, 3) := by decide +kernel
theorem dX11_came_21 : decode cX11_came 21 = .ok (.ifCond .eq 20, 3) := by decide +kernel
theorem dX11_came_24 : decode cX11_came 24 = .ok (.iload_n 3, 1) := by decide +kernel
theorem dX11_came_25 : decode cX11_came 25 = .ok (.invokestatic 312, 3) := by decide +kernel
theorem dX11_came_28 : decode cX11_came 28 = .ok (.ifCond .eq 13, 3) := by decide +kernel
theorem dX11_came_31 : decode cX11_came 31 = .ok (.iload 4, 2) := by decide +kernel
theorem dX11_came_33 : decode cX11_came 33 = .ok (.iconst 0, 1) := by decide +kernel
theorem dX11_came_34 : decode cX11_came 34 = .ok (.iconst 2, 1) := by decide +kernel
theorem dX11_came_35 : decode cX11_came 35 = .ok (.invokestatic 283, 3) := by decide +kernel
theorem dX11_came_38 : decode cX11_came 38 = .ok (.ifCond .ne 6, 3) := by decide +kernel
theorem dX11_came_41 : decode cX11_came 41 = .ok (.bipush (-2), 2) := by decide +kernel
theorem dX11_came_43 : decode cX11_came 43 = .ok (.ireturn, 1) := by decide +kernel
theorem dX11_came_44 : decode cX11_came 44 = .ok (.iconst 0, 1) := by decide +kernel
theorem dX11_came_45 : decode cX11_came 45 = .ok (.istore 6, 2) := by decide +kernel
theorem dX11_came_47 : decode cX11_came 47 = .ok (.iconst (-1), 1) := by decide +kernel
theorem dX11_came_48 : decode cX11_came 48 = .ok (.istore 7, 2) := by decide +kernel
theorem dX11_came_50 : decode cX11_came 50 = .ok (.iconst (-1), 1) := by decide +kernel
theorem dX11_came_51 : decode cX11_came 51 = .ok (.istore 8, 2) := by decide +kernel
theorem dX11_came_53 : decode cX11_came 53 = .ok (.iconst 0, 1) := by decide +kernel
theorem dX11_came_54 : decode cX11_came 54 = .ok (.istore 9, 2) := by decide +kernel
theorem dX11_came_56 : decode cX11_came 56 = .ok (.iload 9, 2) := by decide +kernel
theorem dX11_came_58 : decode cX11_came 58 = .ok (.bipush 96, 2) := by decide +kernel
theorem dX11_came_60 : decode cX11_came 60 = .ok (.if_icmp .gt 47, 3) := by decide +kernel
theorem dX11_came_63 : decode cX11_came 63 = .ok (.aload_n 0, 1) := by decide +kernel
theorem dX11_came_64 : decode cX11_came 64 = .ok (.iload_n 1, 1) := by decide +kernel
theorem dX11_came_65 : decode cX11_came 65 = .ok (.iload 9, 2) := by decide +kernel
theorem dX11_came_67 : decode cX11_came 67 = .ok (.iload_n 2, 1) := by decide +kernel
theorem dX11_came_68 : decode cX11_came 68 = .ok (.iload_n 3, 1) := by decide +kernel
theorem dX11_came_69 : decode cX11_came 69 = .ok (.iload 5, 2) := by decide +kernel
theorem dX11_came_71 : decode cX11_came 71 = .ok (.invokevirtual 362, 3) := by decide +kernel
theorem dX11_came_74 : decode cX11_came 74 = .ok (.ifCond .ne 6, 3) := by decide +kernel
theorem dX11_came_77 : decode cX11_came 77 = .ok (.goto 24, 3) := by decide +kernel
theorem dX11_came_80 : decode cX11_came 80 = .ok (.iinc 6 1, 3) := by decide +kernel
theorem dX11_came_83 : decode cX11_came 83 = .ok (.iload 7, 2) := by decide +kernel
theorem dX11_came_85 : decode cX11_came 85 = .ok (.ifCond .ge 8, 3) := by decide +kernel
theorem dX11_came_88 : decode cX11_came 88 = .ok (.iload 9, 2) := by decide +kernel
theorem dX11_came_90 : decode cX11_came 90 = .ok (.goto 5, 3) := by decide +kernel
theorem dX11_came_93 : decode cX11_came 93 = .ok (.iload 7, 2) := by decide +kernel
theorem dX11_came_95 : decode cX11_came 95 = .ok (.istore 7, 2) := by decide +kernel
theorem dX11_came_97 : decode cX11_came 97 = .ok (.iload 9, 2) := by decide +kernel
theorem dX11_came_99 : decode cX11_came 99 = .ok (.istore 8, 2) := by decide +kernel
theorem dX11_came_101 : decode cX11_came 101 = .ok (.iinc 9 1, 3) := by decide +kernel
theorem dX11_came_104 : decode cX11_came 104 = .ok (.goto (-48), 3) := by decide +kernel
theorem dX11_came_107 : decode cX11_came 107 = .ok (.iload 4, 2) := by decide +kernel
theorem dX11_came_109 : decode cX11_came 109 = .ok (.ifCond .ne 8, 3) := by decide +kernel
theorem dX11_came_112 : decode cX11_came 112 = .ok (.iload 6, 2) := by decide +kernel
theorem dX11_came_114 : decode cX11_came 114 = .ok (.goto 16, 3) := by decide +kernel
theorem dX11_came_117 : decode cX11_came 117 = .ok (.iload 4, 2) := by decide +kernel
theorem dX11_came_119 : decode cX11_came 119 = .ok (.iconst 1, 1) := by decide +kernel
theorem dX11_came_120 : decode cX11_came 120 = .ok (.if_icmp .ne 8, 3) := by decide +kernel
theorem dX11_came_123 : decode cX11_came 123 = .ok (.iload 7, 2) := by decide +kernel
theorem dX11_came_125 : decode cX11_came 125 = .ok (.goto 5, 3) := by decide +kernel
theorem dX11_came_128 : decode cX11_came 128 = .ok (.iload 8, 2) := by decide +kernel
theorem dX11_came_130 : decode cX11_came 130 = .ok (.ireturn, 1) := by decide +kernel
theorem dX11_tonesIn_0 : decode cX11_tonesIn 0 = .ok (.iconst 0, 1) := by decide +kernel
theorem dX11_tonesIn_1 : decode cX11_tonesIn 1 = .ok (.istore_n 2, 1) := by decide +kernel
theorem dX11_tonesIn_2 : decode cX11_tonesIn 2 = .ok (.iconst 0, 1) := by decide +kernel
theorem dX11_tonesIn_3 : decode cX11_tonesIn 3 = .ok (.istore_n 3, 1) := by decide +kernel
theorem dX11_tonesIn_4 : decode cX11_tonesIn 4 = .ok (.iload_n 3, 1) := by decide +kernel
theorem dX11_tonesIn_5 : decode cX11_tonesIn 5 = .ok (.aload_n 0, 1) := by decide +kernel
theorem dX11_tonesIn_6 : decode cX11_tonesIn 6 = .ok (.getfield 252, 3) := by decide +kernel
theorem dX11_tonesIn_9 : decode cX11_tonesIn 9 = .ok (.if_icmp .ge 37, 3) := by decide +kernel
theorem dX11_tonesIn_12 : decode cX11_tonesIn 12 = .ok (.iload_n 2, 1) := by decide +kernel
theorem dX11_tonesIn_13 : decode cX11_tonesIn 13 = .ok (.iconst 1, 1) := by decide +kernel
theorem dX11_tonesIn_14 : decode cX11_tonesIn 14 = .ok (.aload_n 0, 1) := by decide +kernel
theorem dX11_tonesIn_15 : decode cX11_tonesIn 15 = .ok (.getfield 36, 3) := by decide +kernel
theorem dX11_tonesIn_18 : decode cX11_tonesIn 18 = .ok (.aload_n 0, 1) := by decide +kernel
theorem dX11_tonesIn_19 : decode cX11_tonesIn 19 = .ok (.getfield 51, 3) := by decide +kernel
theorem dX11_tonesIn_22 : decode cX11_tonesIn 22 = .ok (.iload_n 3, 1) := by decide +kernel
theorem dX11_tonesIn_23 : decode cX11_tonesIn 23 = .ok (.iaload, 1) := by decide +kernel
theorem dX11_tonesIn_24 : decode cX11_tonesIn 24 = .ok (.iaload, 1) := by decide +kernel
theorem dX11_tonesIn_25 : decode cX11_tonesIn 25 = .ok (.aload_n 0, 1) := by decide +kernel
theorem dX11_tonesIn_26 : decode cX11_tonesIn 26 = .ok (.getfield 85, 3) := by decide +kernel
theorem dX11_tonesIn_29 : decode cX11_tonesIn 29 = .ok (.iload_n 3, 1) := by decide +kernel
theorem dX11_tonesIn_30 : decode cX11_tonesIn 30 = .ok (.iaload, 1) := by decide +kernel
theorem dX11_tonesIn_31 : decode cX11_tonesIn 31 = .ok (.iload_n 1, 1) := by decide +kernel
theorem dX11_tonesIn_32 : decode cX11_tonesIn 32 = .ok (.imul, 1) := by decide +kernel
theorem dX11_tonesIn_33 : decode cX11_tonesIn 33 = .ok (.isub, 1) := by decide +kernel
theorem dX11_tonesIn_34 : decode cX11_tonesIn 34 = .ok (.invokestatic 290, 3) := by decide +kernel
theorem dX11_tonesIn_37 : decode cX11_tonesIn 37 = .ok (.ishl, 1) := by decide +kernel
theorem dX11_tonesIn_38 : decode cX11_tonesIn 38 = .ok (.ior, 1) := by decide +kernel
theorem dX11_tonesIn_39 : decode cX11_tonesIn 39 = .ok (.istore_n 2, 1) := by decide +kernel
theorem dX11_tonesIn_40 : decode cX11_tonesIn 40 = .ok (.iinc 3 1, 3) := by decide +kernel
theorem dX11_tonesIn_43 : decode cX11_tonesIn 43 = .ok (.goto (-39), 3) := by decide +kernel
theorem dX11_tonesIn_46 : decode cX11_tonesIn 46 = .ok (.iload_n 2, 1) := by decide +kernel
theorem dX11_tonesIn_47 : decode cX11_tonesIn 47 = .ok (.ireturn, 1) := by decide +kernel
theorem dX11_areEvenings_0 : decode cX11_areEvenings 0 = .ok (.iconst 1, 1) := by decide +kernel
theorem dX11_areEvenings_1 : decode cX11_areEvenings 1 = .ok (.istore_n 3, 1) := by decide +kernel
theorem dX11_areEvenings_2 : decode cX11_areEvenings 2 = .ok (.iconst 0, 1) := by decide +kernel
theorem dX11_areEvenings_3 : decode cX11_areEvenings 3 = .ok (.istore 4, 2) := by decide +kernel
theorem dX11_areEvenings_5 : decode cX11_areEvenings 5 = .ok (.iload 4, 2) := by decide +kernel
theorem dX11_areEvenings_7 : decode cX11_areEvenings 7 = .ok (.iload_n 2, 1) := by decide +kernel
theorem dX11_areEvenings_8 : decode cX11_areEvenings 8 = .ok (.if_icmp .gt 51, 3) := by decide +kernel
theorem dX11_areEvenings_11 : decode cX11_areEvenings 11 = .ok (.iload_n 3, 1) := by decide +kernel
theorem dX11_areEvenings_12 : decode cX11_areEvenings 12 = .ok (.ifCond .eq 47, 3) := by decide +kernel
theorem dX11_areEvenings_15 : decode cX11_areEvenings 15 = .ok (.aload_n 0, 1) := by decide +kernel
theorem dX11_areEvenings_16 : decode cX11_areEvenings 16 = .ok (.iload 4, 2) := by decide +kernel
theorem dX11_areEvenings_18 : decode cX11_areEvenings 18 = .ok (.iconst 1, 1) := by decide +kernel
theorem dX11_areEvenings_19 : decode cX11_areEvenings 19 = .ok (.iload_n 1, 1) := by decide +kernel
theorem dX11_areEvenings_20 : decode cX11_areEvenings 20 = .ok (.invokevirtual 330, 3) := by decide +kernel
theorem dX11_areEvenings_23 : decode cX11_areEvenings 23 = .ok (.ifCond .eq 24, 3) := by decide +kernel
theorem dX11_areEvenings_26 : decode cX11_areEvenings 26 = .ok (.aload_n 0, 1) := by decide +kernel
theorem dX11_areEvenings_27 : decode cX11_areEvenings 27 = .ok (.aload_n 0, 1) := by decide +kernel
theorem dX11_areEvenings_28 : decode cX11_areEvenings 28 = .ok (.getfield 60, 3) := by decide +kernel
theorem dX11_areEvenings_31 : decode cX11_areEvenings 31 = .ok (.iload 4, 2) := by decide +kernel
theorem dX11_areEvenings_33 : decode cX11_areEvenings 33 = .ok (.iaload, 1) := by decide +kernel
theorem dX11_areEvenings_34 : decode cX11_areEvenings 34 = .ok (.invokevirtual 365, 3) := by decide +kernel
theorem dX11_areEvenings_37 : decode cX11_areEvenings 37 = .ok (.aload_n 0, 1) := by decide +kernel
theorem dX11_areEvenings_38 : decode cX11_areEvenings 38 = .ok (.getfield 66, 3) := by decide +kernel
theorem dX11_areEvenings_41 : decode cX11_areEvenings 41 = .ok (.iload 4, 2) := by decide +kernel
theorem dX11_areEvenings_43 : decode cX11_areEvenings 43 = .ok (.iaload, 1) := by decide +kernel
theorem dX11_areEvenings_44 : decode cX11_areEvenings 44 = .ok (.if_icmp .ne 7, 3) := by decide +kernel
theorem dX11_areEvenings_47 : decode cX11_areEvenings 47 = .ok (.iconst 1, 1) := by decide +kernel
theorem dX11_areEvenings_48 : decode cX11_areEvenings 48 = .ok (.goto 4, 3) := by decide +kernel
theorem dX11_areEvenings_51 : decode cX11_areEvenings 51 = .ok (.iconst 0, 1) := by decide +kernel
theorem dX11_areEvenings_52 : decode cX11_areEvenings 52 = .ok (.istore_n 3, 1) := by decide +kernel
theorem dX11_areEvenings_53 : decode cX11_areEvenings 53 = .ok (.iinc 4 1, 3) := by decide +kernel
theorem dX11_areEvenings_56 : decode cX11_areEvenings 56 = .ok (.goto (-51), 3) := by decide +kernel
theorem dX11_areEvenings_59 : decode cX11_areEvenings 59 = .ok (.iload_n 3, 1) := by decide +kernel
theorem dX11_areEvenings_60 : decode cX11_areEvenings 60 = .ok (.ireturn, 1) := by decide +kernel
theorem dX11_nextTried_0 : decode cX11_nextTried 0 = .ok (.aload_n 0, 1) := by decide +kernel
theorem dX11_nextTried_1 : decode cX11_nextTried 1 = .ok (.getfield 252, 3) := by decide +kernel
theorem dX11_nextTried_4 : decode cX11_nextTried 4 = .ok (.iconst 1, 1) := by decide +kernel
theorem dX11_nextTried_5 : decode cX11_nextTried 5 = .ok (.isub, 1) := by decide +kernel
theorem dX11_nextTried_6 : decode cX11_nextTried 6 = .ok (.istore_n 1, 1) := by decide +kernel
theorem dX11_nextTried_7 : decode cX11_nextTried 7 = .ok (.iload_n 1, 1) := by decide +kernel
theorem dX11_nextTried_8 : decode cX11_nextTried 8 = .ok (.ifCond .lt 38, 3) := by decide +kernel
theorem dX11_nextTried_11 : decode cX11_nextTried 11 = .ok (.aload_n 0, 1) := by decide +kernel
theorem dX11_nextTried_12 : decode cX11_nextTried 12 = .ok (.getfield 85, 3) := by decide +kernel
theorem dX11_nextTried_15 : decode cX11_nextTried 15 = .ok (.iload_n 1, 1) := by decide +kernel
theorem dX11_nextTried_16 : decode cX11_nextTried 16 = .ok (.iaload, 1) := by decide +kernel
theorem dX11_nextTried_17 : decode cX11_nextTried 17 = .ok (.iconst 2, 1) := by decide +kernel
theorem dX11_nextTried_18 : decode cX11_nextTried 18 = .ok (.if_icmp .ge 15, 3) := by decide +kernel
theorem dX11_nextTried_21 : decode cX11_nextTried 21 = .ok (.aload_n 0, 1) := by decide +kernel
theorem dX11_nextTried_22 : decode cX11_nextTried 22 = .ok (.getfield 85, 3) := by decide +kernel
theorem dX11_nextTried_25 : decode cX11_nextTried 25 = .ok (.iload_n 1, 1) := by decide +kernel
theorem dX11_nextTried_26 : decode cX11_nextTried 26 = .ok (.dup2, 1) := by decide +kernel
theorem dX11_nextTried_27 : decode cX11_nextTried 27 = .ok (.iaload, 1) := by decide +kernel
theorem dX11_nextTried_28 : decode cX11_nextTried 28 = .ok (.iconst 1, 1) := by decide +kernel
theorem dX11_nextTried_29 : decode cX11_nextTried 29 = .ok (.iadd, 1) := by decide +kernel
theorem dX11_nextTried_30 : decode cX11_nextTried 30 = .ok (.iastore, 1) := by decide +kernel
theorem dX11_nextTried_31 : decode cX11_nextTried 31 = .ok (.iconst 1, 1) := by decide +kernel
theorem dX11_nextTried_32 : decode cX11_nextTried 32 = .ok (.ireturn, 1) := by decide +kernel
theorem dX11_nextTried_33 : decode cX11_nextTried 33 = .ok (.aload_n 0, 1) := by decide +kernel
theorem dX11_nextTried_34 : decode cX11_nextTried 34 = .ok (.getfield 85, 3) := by decide +kernel
theorem dX11_nextTried_37 : decode cX11_nextTried 37 = .ok (.iload_n 1, 1) := by decide +kernel
theorem dX11_nextTried_38 : decode cX11_nextTried 38 = .ok (.iconst 0, 1) := by decide +kernel
theorem dX11_nextTried_39 : decode cX11_nextTried 39 = .ok (.iastore, 1) := by decide +kernel
theorem dX11_nextTried_40 : decode cX11_nextTried 40 = .ok (.iinc 1 (-1), 3) := by decide +kernel
theorem dX11_nextTried_43 : decode cX11_nextTried 43 = .ok (.goto (-36), 3) := by decide +kernel
theorem dX11_nextTried_46 : decode cX11_nextTried 46 = .ok (.iconst 0, 1) := by decide +kernel
theorem dX11_nextTried_47 : decode cX11_nextTried 47 = .ok (.ireturn, 1) := by decide +kernel
theorem dX11_clearTried_0 : decode cX11_clearTried 0 = .ok (.iconst 0, 1) := by decide +kernel
theorem dX11_clearTried_1 : decode cX11_clearTried 1 = .ok (.istore_n 1, 1) := by decide +kernel
theorem dX11_clearTried_2 : decode cX11_clearTried 2 = .ok (.iload_n 1, 1) := by decide +kernel
theorem dX11_clearTried_3 : decode cX11_clearTried 3 = .ok (.bipush 9, 2) := by decide +kernel
theorem dX11_clearTried_5 : decode cX11_clearTried 5 = .ok (.if_icmp .ge 16, 3) := by decide +kernel
theorem dX11_clearTried_8 : decode cX11_clearTried 8 = .ok (.aload_n 0, 1) := by decide +kernel
theorem dX11_clearTried_9 : decode cX11_clearTried 9 = .ok (.getfield 85, 3) := by decide +kernel
theorem dX11_clearTried_12 : decode cX11_clearTried 12 = .ok (.iload_n 1, 1) := by decide +kernel
theorem dX11_clearTried_13 : decode cX11_clearTried 13 = .ok (.iconst 0, 1) := by decide +kernel
theorem dX11_clearTried_14 : decode cX11_clearTried 14 = .ok (.iastore, 1) := by decide +kernel
theorem dX11_clearTried_15 : decode cX11_clearTried 15 = .ok (.iinc 1 1, 3) := by decide +kernel
theorem dX11_clearTried_18 : decode cX11_clearTried 18 = .ok (.goto (-16), 3) := by decide +kernel
theorem dX11_clearTried_21 : decode cX11_clearTried 21 = .ok (.return_, 1) := by decide +kernel
theorem dX11_triedSum_0 : decode cX11_triedSum 0 = .ok (.iconst 0, 1) := by decide +kernel
theorem dX11_triedSum_1 : decode cX11_triedSum 1 = .ok (.istore_n 1, 1) := by decide +kernel
theorem dX11_triedSum_2 : decode cX11_triedSum 2 = .ok (.iconst 0, 1) := by decide +kernel
theorem dX11_triedSum_3 : decode cX11_triedSum 3 = .ok (.istore_n 2, 1) := by decide +kernel
theorem dX11_triedSum_4 : decode cX11_triedSum 4 = .ok (.iload_n 2, 1) := by decide +kernel
theorem dX11_triedSum_5 : decode cX11_triedSum 5 = .ok (.aload_n 0, 1) := by decide +kernel
theorem dX11_triedSum_6 : decode cX11_triedSum 6 = .ok (.getfield 252, 3) := by decide +kernel
theorem dX11_triedSum_9 : decode cX11_triedSum 9 = .ok (.if_icmp .ge 18, 3) := by decide +kernel
theorem dX11_triedSum_12 : decode cX11_triedSum 12 = .ok (.iload_n 1, 1) := by decide +kernel
theorem dX11_triedSum_13 : decode cX11_triedSum 13 = .ok (.aload_n 0, 1) := by decide +kernel
theorem dX11_triedSum_14 : decode cX11_triedSum 14 = .ok (.getfield 85, 3) := by decide +kernel
theorem dX11_triedSum_17 : decode cX11_triedSum 17 = .ok (.iload_n 2, 1) := by decide +kernel
theorem dX11_triedSum_18 : decode cX11_triedSum 18 = .ok (.iaload, 1) := by decide +kernel
theorem dX11_triedSum_19 : decode cX11_triedSum 19 = .ok (.iadd, 1) := by decide +kernel
theorem dX11_triedSum_20 : decode cX11_triedSum 20 = .ok (.istore_n 1, 1) := by decide +kernel
theorem dX11_triedSum_21 : decode cX11_triedSum 21 = .ok (.iinc 2 1, 3) := by decide +kernel
theorem dX11_triedSum_24 : decode cX11_triedSum 24 = .ok (.goto (-20), 3) := by decide +kernel
theorem dX11_triedSum_27 : decode cX11_triedSum 27 = .ok (.iload_n 1, 1) := by decide +kernel
theorem dX11_triedSum_28 : decode cX11_triedSum 28 = .ok (.ireturn, 1) := by decide +kernel
theorem dX11_putDown_0 : decode cX11_putDown 0 = .ok (.iconst 0, 1) := by decide +kernel
theorem dX11_putDown_1 : decode cX11_putDown 1 = .ok (.istore_n 1, 1) := by decide +kernel
theorem dX11_putDown_2 : decode cX11_putDown 2 = .ok (.iload_n 1, 1) := by decide +kernel
theorem dX11_putDown_3 : decode cX11_putDown 3 = .ok (.bipush 9, 2) := by decide +kernel
theorem dX11_putDown_5 : decode cX11_putDown 5 = .ok (.if_icmp .ge 21, 3) := by decide +kernel
theorem dX11_putDown_8 : decode cX11_putDown 8 = .ok (.aload_n 0, 1) := by decide +kernel
theorem dX11_putDown_9 : decode cX11_putDown 9 = .ok (.getfield 88, 3) := by decide +kernel
theorem dX11_putDown_12 : decode cX11_putDown 12 = .ok (.iload_n 1, 1) := by decide +kernel
theorem dX11_putDown_13 : decode cX11_putDown 13 = .ok (.aload_n 0, 1) := by decide +kernel
theorem dX11_putDown_14 : decode cX11_putDown 14 = .ok (.getfield 85, 3) := by decide +kernel
theorem dX11_putDown_17 : decode cX11_putDown 17 = .ok (.iload_n 1, 1) := by decide +kernel
theorem dX11_putDown_18 : decode cX11_putDown 18 = .ok (.iaload, 1) := by decide +kernel
theorem dX11_putDown_19 : decode cX11_putDown 19 = .ok (.iastore, 1) := by decide +kernel
theorem dX11_putDown_20 : decode cX11_putDown 20 = .ok (.iinc 1 1, 3) := by decide +kernel
theorem dX11_putDown_23 : decode cX11_putDown 23 = .ok (.goto (-21), 3) := by decide +kernel
theorem dX11_putDown_26 : decode cX11_putDown 26 = .ok (.aload_n 0, 1) := by decide +kernel
theorem dX11_putDown_27 : decode cX11_putDown 27 = .ok (.aload_n 0, 1) := by decide +kernel
theorem dX11_putDown_28 : decode cX11_putDown 28 = .ok (.getfield 252, 3) := by decide +kernel
theorem dX11_putDown_31 : decode cX11_putDown 31 = .ok (.putfield 276, 3) := by decide +kernel
theorem dX11_putDown_34 : decode cX11_putDown 34 = .ok (.return_, 1) := by decide +kernel
theorem dX11_cracked_0 : decode cX11_cracked 0 = .ok (.aload_n 0, 1) := by decide +kernel
theorem dX11_cracked_1 : decode cX11_cracked 1 = .ok (.iconst 0, 1) := by decide +kernel
theorem dX11_cracked_2 : decode cX11_cracked 2 = .ok (.putfield 276, 3) := by decide +kernel
theorem dX11_cracked_5 : decode cX11_cracked 5 = .ok (.aload_n 0, 1) := by decide +kernel
theorem dX11_cracked_6 : decode cX11_cracked 6 = .ok (.getfield 252, 3) := by decide +kernel
theorem dX11_cracked_9 : decode cX11_cracked 9 = .ok (.bipush 8, 2) := by decide +kernel
theorem dX11_cracked_11 : decode cX11_cracked 11 = .ok (.if_icmp .le 6, 3) := by decide +kernel
theorem dX11_cracked_14 : decode cX11_cracked 14 = .ok (.bipush (-2), 2) := by decide +kernel
theorem dX11_cracked_16 : decode cX11_cracked 16 = .ok (.ireturn, 1) := by decide +kernel
theorem dX11_cracked_17 : decode cX11_cracked 17 = .ok (.aload_n 0, 1) := by decide +kernel
theorem dX11_cracked_18 : decode cX11_cracked 18 = .ok (.invokevirtual 368, 3) := by decide +kernel
theorem dX11_cracked_21 : decode cX11_cracked 21 = .ok (.iconst (-1), 1) := by decide +kernel
theorem dX11_cracked_22 : decode cX11_cracked 22 = .ok (.istore_n 2, 1) := by decide +kernel
theorem dX11_cracked_23 : decode cX11_cracked 23 = .ok (.iconst 1, 1) := by decide +kernel
theorem dX11_cracked_24 : decode cX11_cracked 24 = .ok (.istore_n 3, 1) := by decide +kernel
theorem dX11_cracked_25 : decode cX11_cracked 25 = .ok (.iload_n 3, 1) := by decide +kernel
theorem dX11_cracked_26 : decode cX11_cracked 26 = .ok (.ifCond .eq 46, 3) := by decide +kernel
theorem dX11_cracked_29 : decode cX11_cracked 29 = .ok (.aload_n 0, 1) := by decide +kernel
theorem dX11_cracked_30 : decode cX11_cracked 30 = .ok (.iload_n 1, 1) := by decide +kernel
theorem dX11_cracked_31 : decode cX11_cracked 31 = .ok (.aload_n 0, 1) := by decide +kernel
theorem dX11_cracked_32 : decode cX11_cracked 32 = .ok (.getfield 273, 3) := by decide +kernel
theorem dX11_cracked_35 : decode cX11_cracked 35 = .ok (.iconst 1, 1) := by decide +kernel
theorem dX11_cracked_36 : decode cX11_cracked 36 = .ok (.isub, 1) := by decide +kernel
theorem dX11_cracked_37 : decode cX11_cracked 37 = .ok (.invokevirtual 371, 3) := by decide +kernel
theorem dX11_cracked_40 : decode cX11_cracked 40 = .ok (.ifCond .eq 24, 3) := by decide +kernel
theorem dX11_cracked_43 : decode cX11_cracked 43 = .ok (.iload_n 2, 1) := by decide +kernel
theorem dX11_cracked_44 : decode cX11_cracked 44 = .ok (.ifCond .lt 11, 3) := by decide +kernel
theorem dX11_cracked_47 : decode cX11_cracked 47 = .ok (.aload_n 0, 1) := by decide +kernel
theorem dX11_cracked_48 : decode cX11_cracked 48 = .ok (.invokevirtual 375, 3) := by decide +kernel
theorem dX11_cracked_51 : decode cX11_cracked 51 = .ok (.iload_n 2, 1) := by decide +kernel
theorem dX11_cracked_52 : decode cX11_cracked 52 = .ok (.if_icmp .ge 12, 3) := by decide +kernel
theorem dX11_cracked_55 : decode cX11_cracked 55 = .ok (.aload_n 0, 1) := by decide +kernel
theorem dX11_cracked_56 : decode cX11_cracked 56 = .ok (.invokevirtual 375, 3) := by decide +kernel
theorem dX11_cracked_59 : decode cX11_cracked 59 = .ok (.istore_n 2, 1) := by decide +kernel
theorem dX11_cracked_60 : decode cX11_cracked 60 = .ok (.aload_n 0, 1) := by decide +kernel
theorem dX11_cracked_61 : decode cX11_cracked 61 = .ok (.invokevirtual 378, 3) := by decide +kernel
theorem dX11_cracked_64 : decode cX11_cracked 64 = .ok (.aload_n 0, 1) := by decide +kernel
theorem dX11_cracked_65 : decode cX11_cracked 65 = .ok (.invokevirtual 381, 3) := by decide +kernel
theorem dX11_cracked_68 : decode cX11_cracked 68 = .ok (.istore_n 3, 1) := by decide +kernel
theorem dX11_cracked_69 : decode cX11_cracked 69 = .ok (.goto (-44), 3) := by decide +kernel
theorem dX11_cracked_72 : decode cX11_cracked 72 = .ok (.iload_n 2, 1) := by decide +kernel
theorem dX11_cracked_73 : decode cX11_cracked 73 = .ok (.ireturn, 1) := by decide +kernel
theorem dX11_canBe_0 : decode cX11_canBe 0 = .ok (.aload_n 0, 1) := by decide +kernel
theorem dX11_canBe_1 : decode cX11_canBe 1 = .ok (.invokevirtual 368, 3) := by decide +kernel
theorem dX11_canBe_4 : decode cX11_canBe 4 = .ok (.iconst 1, 1) := by decide +kernel
theorem dX11_canBe_5 : decode cX11_canBe 5 = .ok (.istore_n 3, 1) := by decide +kernel
theorem dX11_canBe_6 : decode cX11_canBe 6 = .ok (.iload_n 3, 1) := by decide +kernel
theorem dX11_canBe_7 : decode cX11_canBe 7 = .ok (.ifCond .eq 22, 3) := by decide +kernel
theorem dX11_canBe_10 : decode cX11_canBe 10 = .ok (.aload_n 0, 1) := by decide +kernel
theorem dX11_canBe_11 : decode cX11_canBe 11 = .ok (.iload_n 1, 1) := by decide +kernel
theorem dX11_canBe_12 : decode cX11_canBe 12 = .ok (.iload_n 2, 1) := by decide +kernel
theorem dX11_canBe_13 : decode cX11_canBe 13 = .ok (.invokevirtual 371, 3) := by decide +kernel
theorem dX11_canBe_16 : decode cX11_canBe 16 = .ok (.ifCond .eq 5, 3) := by decide +kernel
theorem dX11_canBe_19 : decode cX11_canBe 19 = .ok (.iconst 1, 1) := by decide +kernel
theorem dX11_canBe_20 : decode cX11_canBe 20 = .ok (.ireturn, 1) := by decide +kernel
theorem dX11_canBe_21 : decode cX11_canBe 21 = .ok (.aload_n 0, 1) := by decide +kernel
theorem dX11_canBe_22 : decode cX11_canBe 22 = .ok (.invokevirtual 381, 3) := by decide +kernel
theorem dX11_canBe_25 : decode cX11_canBe 25 = .ok (.istore_n 3, 1) := by decide +kernel
theorem dX11_canBe_26 : decode cX11_canBe 26 = .ok (.goto (-20), 3) := by decide +kernel
theorem dX11_canBe_29 : decode cX11_canBe 29 = .ok (.iconst 0, 1) := by decide +kernel
theorem dX11_canBe_30 : decode cX11_canBe 30 = .ok (.ireturn, 1) := by decide +kernel
theorem dX11_first_0 : decode cX11_first 0 = .ok (.aload_n 0, 1) := by decide +kernel
theorem dX11_first_1 : decode cX11_first 1 = .ok (.getfield 252, 3) := by decide +kernel
theorem dX11_first_4 : decode cX11_first 4 = .ok (.bipush 8, 2) := by decide +kernel
theorem dX11_first_6 : decode cX11_first 6 = .ok (.if_icmp .le 6, 3) := by decide +kernel
theorem dX11_first_9 : decode cX11_first 9 = .ok (.bipush (-2), 2) := by decide +kernel
theorem dX11_first_11 : decode cX11_first 11 = .ok (.ireturn, 1) := by decide +kernel
theorem dX11_first_12 : decode cX11_first 12 = .ok (.iconst 0, 1) := by decide +kernel
theorem dX11_first_13 : decode cX11_first 13 = .ok (.istore_n 2, 1) := by decide +kernel
theorem dX11_first_14 : decode cX11_first 14 = .ok (.iload_n 2, 1) := by decide +kernel
theorem dX11_first_15 : decode cX11_first 15 = .ok (.aload_n 0, 1) := by decide +kernel
theorem dX11_first_16 : decode cX11_first 16 = .ok (.getfield 273, 3) := by decide +kernel
theorem dX11_first_19 : decode cX11_first 19 = .ok (.if_icmp .ge 30, 3) := by decide +kernel
theorem dX11_first_22 : decode cX11_first 22 = .ok (.aload_n 0, 1) := by decide +kernel
theorem dX11_first_23 : decode cX11_first 23 = .ok (.iload_n 2, 1) := by decide +kernel
theorem dX11_first_24 : decode cX11_first 24 = .ok (.iconst 1, 1) := by decide +kernel
theorem dX11_first_25 : decode cX11_first 25 = .ok (.iload_n 1, 1) := by decide +kernel
theorem dX11_first_26 : decode cX11_first 26 = .ok (.invokevirtual 330, 3) := by decide +kernel
theorem dX11_first_29 : decode cX11_first 29 = .ok (.ifCond .eq 14, 3) := by decide +kernel
theorem dX11_first_32 : decode cX11_first 32 = .ok (.aload_n 0, 1) := by decide +kernel
theorem dX11_first_33 : decode cX11_first 33 = .ok (.iload_n 1, 1) := by decide +kernel
theorem dX11_first_34 : decode cX11_first 34 = .ok (.iload_n 2, 1) := by decide +kernel
theorem dX11_first_35 : decode cX11_first 35 = .ok (.invokevirtual 384, 3) := by decide +kernel
theorem dX11_first_38 : decode cX11_first 38 = .ok (.ifCond .ne 5, 3) := by decide +kernel
theorem dX11_first_41 : decode cX11_first 41 = .ok (.iload_n 2, 1) := by decide +kernel
theorem dX11_first_42 : decode cX11_first 42 = .ok (.ireturn, 1) := by decide +kernel
theorem dX11_first_43 : decode cX11_first 43 = .ok (.iinc 2 1, 3) := by decide +kernel
theorem dX11_first_46 : decode cX11_first 46 = .ok (.goto (-32), 3) := by decide +kernel
theorem dX11_first_49 : decode cX11_first 49 = .ok (.iconst (-1), 1) := by decide +kernel
theorem dX11_first_50 : decode cX11_first 50 = .ok (.ireturn, 1) := by decide +kernel
theorem dX11_areAlike_0 : decode cX11_areAlike 0 = .ok (.iconst 0, 1) := by decide +kernel
theorem dX11_areAlike_1 : decode cX11_areAlike 1 = .ok (.istore_n 3, 1) := by decide +kernel
theorem dX11_areAlike_2 : decode cX11_areAlike 2 = .ok (.iload_n 3, 1) := by decide +kernel
theorem dX11_areAlike_3 : decode cX11_areAlike 3 = .ok (.bipush 12, 2) := by decide +kernel
theorem dX11_areAlike_5 : decode cX11_areAlike 5 = .ok (.if_icmp .ge 16, 3) := by decide +kernel
theorem dX11_areAlike_8 : decode cX11_areAlike 8 = .ok (.aload_n 0, 1) := by decide +kernel
theorem dX11_areAlike_9 : decode cX11_areAlike 9 = .ok (.getfield 91, 3) := by decide +kernel
theorem dX11_areAlike_12 : decode cX11_areAlike 12 = .ok (.iload_n 3, 1) := by decide +kernel
theorem dX11_areAlike_13 : decode cX11_areAlike 13 = .ok (.iconst 0, 1) := by decide +kernel
theorem dX11_areAlike_14 : decode cX11_areAlike 14 = .ok (.iastore, 1) := by decide +kernel
theorem dX11_areAlike_15 : decode cX11_areAlike 15 = .ok (.iinc 3 1, 3) := by decide +kernel
theorem dX11_areAlike_18 : decode cX11_areAlike 18 = .ok (.goto (-16), 3) := by decide +kernel
theorem dX11_areAlike_21 : decode cX11_areAlike 21 = .ok (.iconst 0, 1) := by decide +kernel
theorem dX11_areAlike_22 : decode cX11_areAlike 22 = .ok (.istore_n 3, 1) := by decide +kernel
theorem dX11_areAlike_23 : decode cX11_areAlike 23 = .ok (.iload_n 3, 1) := by decide +kernel
theorem dX11_areAlike_24 : decode cX11_areAlike 24 = .ok (.aload_n 0, 1) := by decide +kernel
theorem dX11_areAlike_25 : decode cX11_areAlike 25 = .ok (.getfield 252, 3) := by decide +kernel
theorem dX11_areAlike_28 : decode cX11_areAlike 28 = .ok (.if_icmp .ge 46, 3) := by decide +kernel
theorem dX11_areAlike_31 : decode cX11_areAlike 31 = .ok (.aload_n 0, 1) := by decide +kernel
theorem dX11_areAlike_32 : decode cX11_areAlike 32 = .ok (.getfield 91, 3) := by decide +kernel
theorem dX11_areAlike_35 : decode cX11_areAlike 35 = .ok (.aload_n 0, 1) := by decide +kernel
theorem dX11_areAlike_36 : decode cX11_areAlike 36 = .ok (.getfield 85, 3) := by decide +kernel
theorem dX11_areAlike_39 : decode cX11_areAlike 39 = .ok (.iload_n 3, 1) := by decide +kernel
theorem dX11_areAlike_40 : decode cX11_areAlike 40 = .ok (.iaload, 1) := by decide +kernel
theorem dX11_areAlike_41 : decode cX11_areAlike 41 = .ok (.dup2, 1) := by decide +kernel
theorem dX11_areAlike_42 : decode cX11_areAlike 42 = .ok (.iaload, 1) := by decide +kernel
theorem dX11_areAlike_43 : decode cX11_areAlike 43 = .ok (.iload_n 1, 1) := by decide +kernel
theorem dX11_areAlike_44 : decode cX11_areAlike 44 = .ok (.iload_n 3, 1) := by decide +kernel
theorem dX11_areAlike_45 : decode cX11_areAlike 45 = .ok (.ishr, 1) := by decide +kernel
theorem dX11_areAlike_46 : decode cX11_areAlike 46 = .ok (.iconst 1, 1) := by decide +kernel
theorem dX11_areAlike_47 : decode cX11_areAlike 47 = .ok (.iand, 1) := by decide +kernel
theorem dX11_areAlike_48 : decode cX11_areAlike 48 = .ok (.iload_n 2, 1) := by decide +kernel
theorem dX11_areAlike_49 : decode cX11_areAlike 49 = .ok (.iload_n 3, 1) := by decide +kernel
theorem dX11_areAlike_50 : decode cX11_areAlike 50 = .ok (.ishr, 1) := by decide +kernel
theorem dX11_areAlike_51 : decode cX11_areAlike 51 = .ok (.iconst 1, 1) := by decide +kernel
theorem dX11_areAlike_52 : decode cX11_areAlike 52 = .ok (.iand, 1) := by decide +kernel
theorem dX11_areAlike_53 : decode cX11_areAlike 53 = .ok (.isub, 1) := by decide +kernel
theorem dX11_areAlike_54 : decode cX11_areAlike 54 = .ok (.aload_n 0, 1) := by decide +kernel
theorem dX11_areAlike_55 : decode cX11_areAlike 55 = .ok (.getfield 39, 3) := by decide +kernel
theorem dX11_areAlike_58 : decode cX11_areAlike 58 = .ok (.aload_n 0, 1) := by decide +kernel
theorem dX11_areAlike_59 : decode cX11_areAlike 59 = .ok (.getfield 51, 3) := by decide +kernel
theorem dX11_areAlike_62 : decode cX11_areAlike 62 = .ok (.iload_n 3, 1) := by decide +kernel
theorem dX11_areAlike_63 : decode cX11_areAlike 63 = .ok (.iaload, 1) := by decide +kernel
theorem dX11_areAlike_64 : decode cX11_areAlike 64 = .ok (.iaload, 1) := by decide +kernel
theorem dX11_areAlike_65 : decode cX11_areAlike 65 = .ok (.imul, 1) := by decide +kernel
theorem dX11_areAlike_66 : decode cX11_areAlike 66 = .ok (.iadd, 1) := by decide +kernel
theorem dX11_areAlike_67 : decode cX11_areAlike 67 = .ok (.iastore, 1) := by decide +kernel
theorem dX11_areAlike_68 : decode cX11_areAlike 68 = .ok (.iinc 3 1, 3) := by decide +kernel
theorem dX11_areAlike_71 : decode cX11_areAlike 71 = .ok (.goto (-48), 3) := by decide +kernel
theorem dX11_areAlike_74 : decode cX11_areAlike 74 = .ok (.iconst 1, 1) := by decide +kernel
theorem dX11_areAlike_75 : decode cX11_areAlike 75 = .ok (.istore_n 3, 1) := by decide +kernel
theorem dX11_areAlike_76 : decode cX11_areAlike 76 = .ok (.iconst 0, 1) := by decide +kernel
theorem dX11_areAlike_77 : decode cX11_areAlike 77 = .ok (.istore 4, 2) := by decide +kernel
theorem dX11_areAlike_79 : decode cX11_areAlike 79 = .ok (.iload 4, 2) := by decide +kernel
theorem dX11_areAlike_81 : decode cX11_areAlike 81 = .ok (.bipush 12, 2) := by decide +kernel
theorem dX11_areAlike_83 : decode cX11_areAlike 83 = .ok (.if_icmp .ge 29, 3) := by decide +kernel
theorem dX11_areAlike_86 : decode cX11_areAlike 86 = .ok (.iload_n 3, 1) := by decide +kernel
theorem dX11_areAlike_87 : decode cX11_areAlike 87 = .ok (.ifCond .eq 17, 3) := by decide +kernel
theorem dX11_areAlike_90 : decode cX11_areAlike 90 = .ok (.aload_n 0, 1) := by decide +kernel
theorem dX11_areAlike_91 : decode cX11_areAlike 91 = .ok (.getfield 91, 3) := by decide +kernel
theorem dX11_areAlike_94 : decode cX11_areAlike 94 = .ok (.iload 4, 2) := by decide +kernel
theorem dX11_areAlike_96 : decode cX11_areAlike 96 = .ok (.iaload, 1) := by decide +kernel
theorem dX11_areAlike_97 : decode cX11_areAlike 97 = .ok (.ifCond .ne 7, 3) := by decide +kernel
theorem dX11_areAlike_100 : decode cX11_areAlike 100 = .ok (.iconst 1, 1) := by decide +kernel
theorem dX11_areAlike_101 : decode cX11_areAlike 101 = .ok (.goto 4, 3) := by decide +kernel
theorem dX11_areAlike_104 : decode cX11_areAlike 104 = .ok (.iconst 0, 1) := by decide +kernel
theorem dX11_areAlike_105 : decode cX11_areAlike 105 = .ok (.istore_n 3, 1) := by decide +kernel
theorem dX11_areAlike_106 : decode cX11_areAlike 106 = .ok (.iinc 4 1, 3) := by decide +kernel
theorem dX11_areAlike_109 : decode cX11_areAlike 109 = .ok (.goto (-30), 3) := by decide +kernel
theorem dX11_areAlike_112 : decode cX11_areAlike 112 = .ok (.iload_n 3, 1) := by decide +kernel
theorem dX11_areAlike_113 : decode cX11_areAlike 113 = .ok (.ireturn, 1) := by decide +kernel
theorem dX11_ones_0 : decode cX11_ones 0 = .ok (.iconst 0, 1) := by decide +kernel
theorem dX11_ones_1 : decode cX11_ones 1 = .ok (.istore_n 1, 1) := by decide +kernel
theorem dX11_ones_2 : decode cX11_ones 2 = .ok (.iconst 0, 1) := by decide +kernel
theorem dX11_ones_3 : decode cX11_ones 3 = .ok (.istore_n 2, 1) := by decide +kernel
theorem dX11_ones_4 : decode cX11_ones 4 = .ok (.iload_n 2, 1) := by decide +kernel
theorem dX11_ones_5 : decode cX11_ones 5 = .ok (.bipush 9, 2) := by decide +kernel
theorem dX11_ones_7 : decode cX11_ones 7 = .ok (.if_icmp .ge 17, 3) := by decide +kernel
theorem dX11_ones_10 : decode cX11_ones 10 = .ok (.iload_n 1, 1) := by decide +kernel
theorem dX11_ones_11 : decode cX11_ones 11 = .ok (.iload_n 0, 1) := by decide +kernel
theorem dX11_ones_12 : decode cX11_ones 12 = .ok (.iload_n 2, 1) := by decide +kernel
theorem dX11_ones_13 : decode cX11_ones 13 = .ok (.ishr, 1) := by decide +kernel
theorem dX11_ones_14 : decode cX11_ones 14 = .ok (.iconst 1, 1) := by decide +kernel
theorem dX11_ones_15 : decode cX11_ones 15 = .ok (.iand, 1) := by decide +kernel
theorem dX11_ones_16 : decode cX11_ones 16 = .ok (.iadd, 1) := by decide +kernel
theorem dX11_ones_17 : decode cX11_ones 17 = .ok (.istore_n 1, 1) := by decide +kernel
theorem dX11_ones_18 : decode cX11_ones 18 = .ok (.iinc 2 1, 3) := by decide +kernel
theorem dX11_ones_21 : decode cX11_ones 21 = .ok (.goto (-17), 3) := by decide +kernel
theorem dX11_ones_24 : decode cX11_ones 24 = .ok (.iload_n 1, 1) := by decide +kernel
theorem dX11_ones_25 : decode cX11_ones 25 = .ok (.ireturn, 1) := by decide +kernel
theorem dX11_layFew_0 : decode cX11_layFew 0 = .ok (.aload_n 0, 1) := by decide +kernel
theorem dX11_layFew_1 : decode cX11_layFew 1 = .ok (.iconst 0, 1) := by decide +kernel
theorem dX11_layFew_2 : decode cX11_layFew 2 = .ok (.putfield 387, 3) := by decide +kernel
theorem dX11_layFew_5 : decode cX11_layFew 5 = .ok (.iconst 0, 1) := by decide +kernel
theorem dX11_layFew_6 : decode cX11_layFew 6 = .ok (.istore_n 2, 1) := by decide +kernel
theorem dX11_layFew_7 : decode cX11_layFew 7 = .ok (.iload_n 2, 1) := by decide +kernel
theorem dX11_layFew_8 : decode cX11_layFew 8 = .ok (.iconst 1, 1) := by decide +kernel
theorem dX11_layFew_9 : decode cX11_layFew 9 = .ok (.aload_n 0, 1) := by decide +kernel
theorem dX11_layFew_10 : decode cX11_layFew 10 = .ok (.getfield 252, 3) := by decide +kernel
theorem dX11_layFew_13 : decode cX11_layFew 13 = .ok (.ishl, 1) := by decide +kernel
theorem dX11_layFew_14 : decode cX11_layFew 14 = .ok (.if_icmp .ge 40, 3) := by decide +kernel
theorem dX11_layFew_17 : decode cX11_layFew 17 = .ok (.iload_n 2, 1) := by decide +kernel
theorem dX11_layFew_18 : decode cX11_layFew 18 = .ok (.invokestatic 390, 3) := by decide +kernel
theorem dX11_layFew_21 : decode cX11_layFew 21 = .ok (.iload_n 1, 1) := by decide +kernel
theorem dX11_layFew_22 : decode cX11_layFew 22 = .ok (.if_icmp .le 6, 3) := by decide +kernel
theorem dX11_layFew_25 : decode cX11_layFew 25 = .ok (.goto 23, 3) := by decide +kernel
theorem dX11_layFew_28 : decode cX11_layFew 28 = .ok (.aload_n 0, 1) := by decide +kernel
theorem dX11_layFew_29 : decode cX11_layFew 29 = .ok (.getfield 94, 3) := by decide +kernel
theorem dX11_layFew_32 : decode cX11_layFew 32 = .ok (.aload_n 0, 1) := by decide +kernel
theorem dX11_layFew_33 : decode cX11_layFew 33 = .ok (.getfield 387, 3) := by decide +kernel
theorem dX11_layFew_36 : decode cX11_layFew 36 = .ok (.iload_n 2, 1) := by decide +kernel
theorem dX11_layFew_37 : decode cX11_layFew 37 = .ok (.iastore, 1) := by decide +kernel
theorem dX11_layFew_38 : decode cX11_layFew 38 = .ok (.aload_n 0, 1) := by decide +kernel
theorem dX11_layFew_39 : decode cX11_layFew 39 = .ok (.dup, 1) := by decide +kernel
theorem dX11_layFew_40 : decode cX11_layFew 40 = .ok (.getfield 387, 3) := by decide +kernel
theorem dX11_layFew_43 : decode cX11_layFew 43 = .ok (.iconst 1, 1) := by decide +kernel
theorem dX11_layFew_44 : decode cX11_layFew 44 = .ok (.iadd, 1) := by decide +kernel
theorem dX11_layFew_45 : decode cX11_layFew 45 = .ok (.putfield 387, 3) := by decide +kernel
theorem dX11_layFew_48 : decode cX11_layFew 48 = .ok (.iinc 2 1, 3) := by decide +kernel
theorem dX11_layFew_51 : decode cX11_layFew 51 = .ok (.goto (-44), 3) := by decide +kernel
theorem dX11_layFew_54 : decode cX11_layFew 54 = .ok (.return_, 1) := by decide +kernel
theorem dX11_areKnown_0 : decode cX11_areKnown 0 = .ok (.iconst 0, 1) := by decide +kernel
theorem dX11_areKnown_1 : decode cX11_areKnown 1 = .ok (.istore_n 1, 1) := by decide +kernel
theorem dX11_areKnown_2 : decode cX11_areKnown 2 = .ok (.iload_n 1, 1) := by decide +kernel
theorem dX11_areKnown_3 : decode cX11_areKnown 3 = .ok (.aload_n 0, 1) := by decide +kernel
theorem dX11_areKnown_4 : decode cX11_areKnown 4 = .ok (.getfield 387, 3) := by decide +kernel
theorem dX11_areKnown_7 : decode cX11_areKnown 7 = .ok (.if_icmp .ge 43, 3) := by decide +kernel
theorem dX11_areKnown_10 : decode cX11_areKnown 10 = .ok (.iconst 0, 1) := by decide +kernel
theorem dX11_areKnown_11 : decode cX11_areKnown 11 = .ok (.istore_n 2, 1) := by decide +kernel
theorem dX11_areKnown_12 : decode cX11_areKnown 12 = .ok (.iload_n 2, 1) := by decide +kernel
theorem dX11_areKnown_13 : decode cX11_areKnown 13 = .ok (.iload_n 1, 1) := by decide +kernel
theorem dX11_areKnown_14 : decode cX11_areKnown 14 = .ok (.if_icmp .ge 30, 3) := by decide +kernel
theorem dX11_areKnown_17 : decode cX11_areKnown 17 = .ok (.aload_n 0, 1) := by decide +kernel
theorem dX11_areKnown_18 : decode cX11_areKnown 18 = .ok (.aload_n 0, 1) := by decide +kernel
theorem dX11_areKnown_19 : decode cX11_areKnown 19 = .ok (.getfield 94, 3) := by decide +kernel
theorem dX11_areKnown_22 : decode cX11_areKnown 22 = .ok (.iload_n 1, 1) := by decide +kernel
theorem dX11_areKnown_23 : decode cX11_areKnown 23 = .ok (.iaload, 1) := by decide +kernel
theorem dX11_areKnown_24 : decode cX11_areKnown 24 = .ok (.aload_n 0, 1) := by decide +kernel
theorem dX11_areKnown_25 : decode cX11_areKnown 25 = .ok (.getfield 94, 3) := by decide +kernel
theorem dX11_areKnown_28 : decode cX11_areKnown 28 = .ok (.iload_n 2, 1) := by decide +kernel
theorem dX11_areKnown_29 : decode cX11_areKnown 29 = .ok (.iaload, 1) := by decide +kernel
theorem dX11_areKnown_30 : decode cX11_areKnown 30 = .ok (.invokevirtual 393, 3) := by decide +kernel
theorem dX11_areKnown_33 : decode cX11_areKnown 33 = .ok (.ifCond .eq 5, 3) := by decide +kernel
theorem dX11_areKnown_36 : decode cX11_areKnown 36 = .ok (.iconst 0, 1) := by decide +kernel
theorem dX11_areKnown_37 : decode cX11_areKnown 37 = .ok (.ireturn, 1) := by decide +kernel
theorem dX11_areKnown_38 : decode cX11_areKnown 38 = .ok (.iinc 2 1, 3) := by decide +kernel
theorem dX11_areKnown_41 : decode cX11_areKnown 41 = .ok (.goto (-29), 3) := by decide +kernel
theorem dX11_areKnown_44 : decode cX11_areKnown 44 = .ok (.iinc 1 1, 3) := by decide +kernel
theorem dX11_areKnown_47 : decode cX11_areKnown 47 = .ok (.goto (-45), 3) := by decide +kernel
theorem dX11_areKnown_50 : decode cX11_areKnown 50 = .ok (.iconst 1, 1) := by decide +kernel
theorem dX11_areKnown_51 : decode cX11_areKnown 51 = .ok (.ireturn, 1) := by decide +kernel
theorem dX11_greatest_0 : decode cX11_greatest 0 = .ok (.iconst (-1), 1) := by decide +kernel
theorem dX11_greatest_1 : decode cX11_greatest 1 = .ok (.istore_n 2, 1) := by decide +kernel
theorem dX11_greatest_2 : decode cX11_greatest 2 = .ok (.iconst 0, 1) := by decide +kernel
theorem dX11_greatest_3 : decode cX11_greatest 3 = .ok (.istore_n 3, 1) := by decide +kernel
theorem dX11_greatest_4 : decode cX11_greatest 4 = .ok (.iload_n 3, 1) := by decide +kernel
theorem dX11_greatest_5 : decode cX11_greatest 5 = .ok (.iload_n 1, 1) := by decide +kernel
theorem dX11_greatest_6 : decode cX11_greatest 6 = .ok (.if_icmp .ge 30, 3) := by decide +kernel
theorem dX11_greatest_9 : decode cX11_greatest 9 = .ok (.aload_n 0, 1) := by decide +kernel
theorem dX11_greatest_10 : decode cX11_greatest 10 = .ok (.getfield 85, 3) := by decide +kernel
theorem dX11_greatest_13 : decode cX11_greatest 13 = .ok (.iload_n 3, 1) := by decide +kernel
theorem dX11_greatest_14 : decode cX11_greatest 14 = .ok (.iaload, 1) := by decide +kernel
theorem dX11_greatest_15 : decode cX11_greatest 15 = .ok (.iload_n 2, 1) := by decide +kernel
theorem dX11_greatest_16 : decode cX11_greatest 16 = .ok (.if_icmp .le 12, 3) := by decide +kernel
theorem dX11_greatest_19 : decode cX11_greatest 19 = .ok (.aload_n 0, 1) := by decide +kernel
theorem dX11_greatest_20 : decode cX11_greatest 20 = .ok (.getfield 85, 3) := by decide +kernel
theorem dX11_greatest_23 : decode cX11_greatest 23 = .ok (.iload_n 3, 1) := by decide +kernel
theorem dX11_greatest_24 : decode cX11_greatest 24 = .ok (.iaload, 1) := by decide +kernel
theorem dX11_greatest_25 : decode cX11_greatest 25 = .ok (.goto 4, 3) := by decide +kernel
theorem dX11_greatest_28 : decode cX11_greatest 28 = .ok (.iload_n 2, 1) := by decide +kernel
theorem dX11_greatest_29 : decode cX11_greatest 29 = .ok (.istore_n 2, 1) := by decide +kernel
theorem dX11_greatest_30 : decode cX11_greatest 30 = .ok (.iinc 3 1, 3) := by decide +kernel
theorem dX11_greatest_33 : decode cX11_greatest 33 = .ok (.goto (-29), 3) := by decide +kernel
theorem dX11_greatest_36 : decode cX11_greatest 36 = .ok (.iload_n 2, 1) := by decide +kernel
theorem dX11_greatest_37 : decode cX11_greatest 37 = .ok (.ireturn, 1) := by decide +kernel
theorem dX11_nextTones_0 : decode cX11_nextTones 0 = .ok (.aload_n 0, 1) := by decide +kernel
theorem dX11_nextTones_1 : decode cX11_nextTones 1 = .ok (.getfield 252, 3) := by decide +kernel
theorem dX11_nextTones_4 : decode cX11_nextTones 4 = .ok (.iconst 1, 1) := by decide +kernel
theorem dX11_nextTones_5 : decode cX11_nextTones 5 = .ok (.isub, 1) := by decide +kernel
theorem dX11_nextTones_6 : decode cX11_nextTones 6 = .ok (.istore_n 1, 1) := by decide +kernel
theorem dX11_nextTones_7 : decode cX11_nextTones 7 = .ok (.iload_n 1, 1) := by decide +kernel
theorem dX11_nextTones_8 : decode cX11_nextTones 8 = .ok (.ifCond .le 42, 3) := by decide +kernel
theorem dX11_nextTones_11 : decode cX11_nextTones 11 = .ok (.aload_n 0, 1) := by decide +kernel
theorem dX11_nextTones_12 : decode cX11_nextTones 12 = .ok (.getfield 85, 3) := by decide +kernel
theorem dX11_nextTones_15 : decode cX11_nextTones 15 = .ok (.iload_n 1, 1) := by decide +kernel
theorem dX11_nextTones_16 : decode cX11_nextTones 16 = .ok (.iaload, 1) := by decide +kernel
theorem dX11_nextTones_17 : decode cX11_nextTones 17 = .ok (.aload_n 0, 1) := by decide +kernel
theorem dX11_nextTones_18 : decode cX11_nextTones 18 = .ok (.iload_n 1, 1) := by decide +kernel
theorem dX11_nextTones_19 : decode cX11_nextTones 19 = .ok (.invokevirtual 396, 3) := by decide +kernel
theorem dX11_nextTones_22 : decode cX11_nextTones 22 = .ok (.if_icmp .gt 15, 3) := by decide +kernel
theorem dX11_nextTones_25 : decode cX11_nextTones 25 = .ok (.aload_n 0, 1) := by decide +kernel
theorem dX11_nextTones_26 : decode cX11_nextTones 26 = .ok (.getfield 85, 3) := by decide +kernel
theorem dX11_nextTones_29 : decode cX11_nextTones 29 = .ok (.iload_n 1, 1) := by decide +kernel
theorem dX11_nextTones_30 : decode cX11_nextTones 30 = .ok (.dup2, 1) := by decide +kernel
theorem dX11_nextTones_31 : decode cX11_nextTones 31 = .ok (.iaload, 1) := by decide +kernel
theorem dX11_nextTones_32 : decode cX11_nextTones 32 = .ok (.iconst 1, 1) := by decide +kernel
theorem dX11_nextTones_33 : decode cX11_nextTones 33 = .ok (.iadd, 1) := by decide +kernel
theorem dX11_nextTones_34 : decode cX11_nextTones 34 = .ok (.iastore, 1) := by decide +kernel
theorem dX11_nextTones_35 : decode cX11_nextTones 35 = .ok (.iconst 1, 1) := by decide +kernel
theorem dX11_nextTones_36 : decode cX11_nextTones 36 = .ok (.ireturn, 1) := by decide +kernel
theorem dX11_nextTones_37 : decode cX11_nextTones 37 = .ok (.aload_n 0, 1) := by decide +kernel
theorem dX11_nextTones_38 : decode cX11_nextTones 38 = .ok (.getfield 85, 3) := by decide +kernel
theorem dX11_nextTones_41 : decode cX11_nextTones 41 = .ok (.iload_n 1, 1) := by decide +kernel
theorem dX11_nextTones_42 : decode cX11_nextTones 42 = .ok (.iconst 0, 1) := by decide +kernel
theorem dX11_nextTones_43 : decode cX11_nextTones 43 = .ok (.iastore, 1) := by decide +kernel
theorem dX11_nextTones_44 : decode cX11_nextTones 44 = .ok (.iinc 1 (-1), 3) := by decide +kernel
theorem dX11_nextTones_47 : decode cX11_nextTones 47 = .ok (.goto (-40), 3) := by decide +kernel
theorem dX11_nextTones_50 : decode cX11_nextTones 50 = .ok (.iconst 0, 1) := by decide +kernel
theorem dX11_nextTones_51 : decode cX11_nextTones 51 = .ok (.ireturn, 1) := by decide +kernel
theorem dX11_dealt_0 : decode cX11_dealt 0 = .ok (.aload_n 0, 1) := by decide +kernel
theorem dX11_dealt_1 : decode cX11_dealt 1 = .ok (.iconst 0, 1) := by decide +kernel
theorem dX11_dealt_2 : decode cX11_dealt 2 = .ok (.putfield 276, 3) := by decide +kernel
theorem dX11_dealt_5 : decode cX11_dealt 5 = .ok (.iload_n 1, 1) := by decide +kernel
theorem dX11_dealt_6 : decode cX11_dealt 6 = .ok (.iconst 1, 1) := by decide +kernel
theorem dX11_dealt_7 : decode cX11_dealt 7 = .ok (.iconst 2, 1) := by decide +kernel
theorem dX11_dealt_8 : decode cX11_dealt 8 = .ok (.invokestatic 283, 3) := by decide +kernel
theorem dX11_dealt_11 : decode cX11_dealt 11 = .ok (.ifCond .ne 5, 3) := by decide +kernel
theorem dX11_dealt_14 : decode cX11_dealt 14 = .ok (.iconst (-1), 1) := by decide +kernel
theorem dX11_dealt_15 : decode cX11_dealt 15 = .ok (.ireturn, 1) := by decide +kernel
theorem dX11_dealt_16 : decode cX11_dealt 16 = .ok (.aload_n 0, 1) := by decide +kernel
theorem dX11_dealt_17 : decode cX11_dealt 17 = .ok (.getfield 252, 3) := by decide +kernel
theorem dX11_dealt_20 : decode cX11_dealt 20 = .ok (.bipush 8, 2) := by decide +kernel
theorem dX11_dealt_22 : decode cX11_dealt 22 = .ok (.if_icmp .le 6, 3) := by decide +kernel
theorem dX11_dealt_25 : decode cX11_dealt 25 = .ok (.bipush (-2), 2) := by decide +kernel
theorem dX11_dealt_27 : decode cX11_dealt 27 = .ok (.ireturn, 1) := by decide +kernel
theorem dX11_dealt_28 : decode cX11_dealt 28 = .ok (.aload_n 0, 1) := by decide +kernel
theorem dX11_dealt_29 : decode cX11_dealt 29 = .ok (.invokevirtual 368, 3) := by decide +kernel
theorem dX11_dealt_32 : decode cX11_dealt 32 = .ok (.aload_n 0, 1) := by decide +kernel
theorem dX11_dealt_33 : decode cX11_dealt 33 = .ok (.iload_n 1, 1) := by decide +kernel
theorem dX11_dealt_34 : decode cX11_dealt 34 = .ok (.invokevirtual 399, 3) := by decide +kernel
theorem dX11_dealt_37 : decode cX11_dealt 37 = .ok (.iconst (-1), 1) := by decide +kernel
theorem dX11_dealt_38 : decode cX11_dealt 38 = .ok (.istore_n 2, 1) := by decide +kernel
theorem dX11_dealt_39 : decode cX11_dealt 39 = .ok (.iconst 1, 1) := by decide +kernel
theorem dX11_dealt_40 : decode cX11_dealt 40 = .ok (.istore_n 3, 1) := by decide +kernel
theorem dX11_dealt_41 : decode cX11_dealt 41 = .ok (.iload_n 3, 1) := by decide +kernel
theorem dX11_dealt_42 : decode cX11_dealt 42 = .ok (.ifCond .eq 47, 3) := by decide +kernel
theorem dX11_dealt_45 : decode cX11_dealt 45 = .ok (.aload_n 0, 1) := by decide +kernel
theorem dX11_dealt_46 : decode cX11_dealt 46 = .ok (.aload_n 0, 1) := by decide +kernel
theorem dX11_dealt_47 : decode cX11_dealt 47 = .ok (.getfield 252, 3) := by decide +kernel
theorem dX11_dealt_50 : decode cX11_dealt 50 = .ok (.invokevirtual 396, 3) := by decide +kernel
theorem dX11_dealt_53 : decode cX11_dealt 53 = .ok (.iconst 1, 1) := by decide +kernel
theorem dX11_dealt_54 : decode cX11_dealt 54 = .ok (.iadd, 1) := by decide +kernel
theorem dX11_dealt_55 : decode cX11_dealt 55 = .ok (.istore 4, 2) := by decide +kernel
theorem dX11_dealt_57 : decode cX11_dealt 57 = .ok (.iload_n 2, 1) := by decide +kernel
theorem dX11_dealt_58 : decode cX11_dealt 58 = .ok (.ifCond .lt 9, 3) := by decide +kernel
theorem dX11_dealt_61 : decode cX11_dealt 61 = .ok (.iload 4, 2) := by decide +kernel
theorem dX11_dealt_63 : decode cX11_dealt 63 = .ok (.iload_n 2, 1) := by decide +kernel
theorem dX11_dealt_64 : decode cX11_dealt 64 = .ok (.if_icmp .ge 17, 3) := by decide +kernel
theorem dX11_dealt_67 : decode cX11_dealt 67 = .ok (.aload_n 0, 1) := by decide +kernel
theorem dX11_dealt_68 : decode cX11_dealt 68 = .ok (.invokevirtual 402, 3) := by decide +kernel
theorem dX11_dealt_71 : decode cX11_dealt 71 = .ok (.ifCond .eq 10, 3) := by decide +kernel
theorem dX11_dealt_74 : decode cX11_dealt 74 = .ok (.iload 4, 2) := by decide +kernel
theorem dX11_dealt_76 : decode cX11_dealt 76 = .ok (.istore_n 2, 1) := by decide +kernel
theorem dX11_dealt_77 : decode cX11_dealt 77 = .ok (.aload_n 0, 1) := by decide +kernel
theorem dX11_dealt_78 : decode cX11_dealt 78 = .ok (.invokevirtual 378, 3) := by decide +kernel
theorem dX11_dealt_81 : decode cX11_dealt 81 = .ok (.aload_n 0, 1) := by decide +kernel
theorem dX11_dealt_82 : decode cX11_dealt 82 = .ok (.invokevirtual 405, 3) := by decide +kernel
theorem dX11_dealt_85 : decode cX11_dealt 85 = .ok (.istore_n 3, 1) := by decide +kernel
theorem dX11_dealt_86 : decode cX11_dealt 86 = .ok (.goto (-45), 3) := by decide +kernel
theorem dX11_dealt_89 : decode cX11_dealt 89 = .ok (.iload_n 2, 1) := by decide +kernel
theorem dX11_dealt_90 : decode cX11_dealt 90 = .ok (.ireturn, 1) := by decide +kernel
theorem dX11_lies_0 : decode cX11_lies 0 = .ok (.iload_n 1, 1) := by decide +kernel
theorem dX11_lies_1 : decode cX11_lies 1 = .ok (.iconst 0, 1) := by decide +kernel
theorem dX11_lies_2 : decode cX11_lies 2 = .ok (.aload_n 0, 1) := by decide +kernel
theorem dX11_lies_3 : decode cX11_lies 3 = .ok (.getfield 276, 3) := by decide +kernel
theorem dX11_lies_6 : decode cX11_lies 6 = .ok (.iconst 1, 1) := by decide +kernel
theorem dX11_lies_7 : decode cX11_lies 7 = .ok (.isub, 1) := by decide +kernel
theorem dX11_lies_8 : decode cX11_lies 8 = .ok (.invokestatic 283, 3) := by decide +kernel
theorem dX11_lies_11 : decode cX11_lies 11 = .ok (.ifCond .eq 12, 3) := by decide +kernel
theorem dX11_lies_14 : decode cX11_lies 14 = .ok (.aload_n 0, 1) := by decide +kernel
theorem dX11_lies_15 : decode cX11_lies 15 = .ok (.getfield 88, 3) := by decide +kernel
theorem dX11_lies_18 : decode cX11_lies 18 = .ok (.iload_n 1, 1) := by decide +kernel
theorem dX11_lies_19 : decode cX11_lies 19 = .ok (.iaload, 1) := by decide +kernel
theorem dX11_lies_20 : decode cX11_lies 20 = .ok (.goto 4, 3) := by decide +kernel
theorem dX11_lies_23 : decode cX11_lies 23 = .ok (.iconst (-1), 1) := by decide +kernel
theorem dX11_lies_24 : decode cX11_lies 24 = .ok (.ireturn, 1) := by decide +kernel
theorem dX11_isKnownNew_0 : decode cX11_isKnownNew 0 = .ok (.iconst 1, 1) := by decide +kernel
theorem dX11_isKnownNew_1 : decode cX11_isKnownNew 1 = .ok (.istore_n 3, 1) := by decide +kernel
theorem dX11_isKnownNew_2 : decode cX11_isKnownNew 2 = .ok (.iconst 0, 1) := by decide +kernel
theorem dX11_isKnownNew_3 : decode cX11_isKnownNew 3 = .ok (.istore 4, 2) := by decide +kernel
theorem dX11_isKnownNew_5 : decode cX11_isKnownNew 5 = .ok (.iload 4, 2) := by decide +kernel
theorem dX11_isKnownNew_7 : decode cX11_isKnownNew 7 = .ok (.aload_n 0, 1) := by decide +kernel
theorem dX11_isKnownNew_8 : decode cX11_isKnownNew 8 = .ok (.getfield 252, 3) := by decide +kernel
theorem dX11_isKnownNew_11 : decode cX11_isKnownNew 11 = .ok (.if_icmp .ge 120, 3) := by decide +kernel
theorem dX11_isKnownNew_14 : decode cX11_isKnownNew 14 = .ok (.aload_n 0, 1) := by decide +kernel
theorem dX11_isKnownNew_15 : decode cX11_isKnownNew 15 = .ok (.getfield 51, 3) := by decide +kernel
theorem dX11_isKnownNew_18 : decode cX11_isKnownNew 18 = .ok (.iload 4, 2) := by decide +kernel
theorem dX11_isKnownNew_20 : decode cX11_isKnownNew 20 = .ok (.iaload, 1) := by decide +kernel
theorem dX11_isKnownNew_21 : decode cX11_isKnownNew 21 = .ok (.istore 5, 2) := by decide +kernel
theorem dX11_isKnownNew_23 : decode cX11_isKnownNew 23 = .ok (.iload_n 3, 1) := by decide +kernel
theorem dX11_isKnownNew_24 : decode cX11_isKnownNew 24 = .ok (.ifCond .eq 29, 3) := by decide +kernel
theorem dX11_isKnownNew_27 : decode cX11_isKnownNew 27 = .ok (.aload_n 0, 1) := by decide +kernel
theorem dX11_isKnownNew_28 : decode cX11_isKnownNew 28 = .ok (.getfield 36, 3) := by decide +kernel
theorem dX11_isKnownNew_31 : decode cX11_isKnownNew 31 = .ok (.iload 5, 2) := by decide +kernel
theorem dX11_isKnownNew_33 : decode cX11_isKnownNew 33 = .ok (.iaload, 1) := by decide +kernel
theorem dX11_isKnownNew_34 : decode cX11_isKnownNew 34 = .ok (.iload_n 2, 1) := by decide +kernel
theorem dX11_isKnownNew_35 : decode cX11_isKnownNew 35 = .ok (.if_icmp .ne 14, 3) := by decide +kernel
theorem dX11_isKnownNew_38 : decode cX11_isKnownNew 38 = .ok (.aload_n 0, 1) := by decide +kernel
theorem dX11_isKnownNew_39 : decode cX11_isKnownNew 39 = .ok (.getfield 39, 3) := by decide +kernel
theorem dX11_isKnownNew_42 : decode cX11_isKnownNew 42 = .ok (.iload 5, 2) := by decide +kernel
theorem dX11_isKnownNew_44 : decode cX11_isKnownNew 44 = .ok (.iaload, 1) := by decide +kernel
theorem dX11_isKnownNew_45 : decode cX11_isKnownNew 45 = .ok (.iload_n 1, 1) := by decide +kernel
theorem dX11_isKnownNew_46 : decode cX11_isKnownNew 46 = .ok (.if_icmp .eq 7, 3) := by decide +kernel
theorem dX11_isKnownNew_49 : decode cX11_isKnownNew 49 = .ok (.iconst 1, 1) := by decide +kernel
theorem dX11_isKnownNew_50 : decode cX11_isKnownNew 50 = .ok (.goto 4, 3) := by decide +kernel
theorem dX11_isKnownNew_53 : decode cX11_isKnownNew 53 = .ok (.iconst 0, 1) := by decide +kernel
theorem dX11_isKnownNew_54 : decode cX11_isKnownNew 54 = .ok (.istore_n 3, 1) := by decide +kernel
theorem dX11_isKnownNew_55 : decode cX11_isKnownNew 55 = .ok (.iconst 0, 1) := by decide +kernel
theorem dX11_isKnownNew_56 : decode cX11_isKnownNew 56 = .ok (.istore 6, 2) := by decide +kernel
theorem dX11_isKnownNew_58 : decode cX11_isKnownNew 58 = .ok (.iload 6, 2) := by decide +kernel
theorem dX11_isKnownNew_60 : decode cX11_isKnownNew 60 = .ok (.iload 4, 2) := by decide +kernel
theorem dX11_isKnownNew_62 : decode cX11_isKnownNew 62 = .ok (.if_icmp .ge 63, 3) := by decide +kernel
theorem dX11_isKnownNew_65 : decode cX11_isKnownNew 65 = .ok (.iload_n 3, 1) := by decide +kernel
theorem dX11_isKnownNew_66 : decode cX11_isKnownNew 66 = .ok (.ifCond .eq 51, 3) := by decide +kernel
theorem dX11_isKnownNew_69 : decode cX11_isKnownNew 69 = .ok (.aload_n 0, 1) := by decide +kernel
theorem dX11_isKnownNew_70 : decode cX11_isKnownNew 70 = .ok (.getfield 36, 3) := by decide +kernel
theorem dX11_isKnownNew_73 : decode cX11_isKnownNew 73 = .ok (.iload 5, 2) := by decide +kernel
theorem dX11_isKnownNew_75 : decode cX11_isKnownNew 75 = .ok (.iaload, 1) := by decide +kernel
theorem dX11_isKnownNew_76 : decode cX11_isKnownNew 76 = .ok (.aload_n 0, 1) := by decide +kernel
theorem dX11_isKnownNew_77 : decode cX11_isKnownNew 77 = .ok (.getfield 36, 3) := by decide +kernel
theorem dX11_isKnownNew_80 : decode cX11_isKnownNew 80 = .ok (.aload_n 0, 1) := by decide +kernel
theorem dX11_isKnownNew_81 : decode cX11_isKnownNew 81 = .ok (.getfield 51, 3) := by decide +kernel
theorem dX11_isKnownNew_84 : decode cX11_isKnownNew 84 = .ok (.iload 6, 2) := by decide +kernel
theorem dX11_isKnownNew_86 : decode cX11_isKnownNew 86 = .ok (.iaload, 1) := by decide +kernel
theorem dX11_isKnownNew_87 : decode cX11_isKnownNew 87 = .ok (.iaload, 1) := by decide +kernel
theorem dX11_isKnownNew_88 : decode cX11_isKnownNew 88 = .ok (.if_icmp .ne 25, 3) := by decide +kernel
theorem dX11_isKnownNew_91 : decode cX11_isKnownNew 91 = .ok (.aload_n 0, 1) := by decide +kernel
theorem dX11_isKnownNew_92 : decode cX11_isKnownNew 92 = .ok (.getfield 39, 3) := by decide +kernel
theorem dX11_isKnownNew_95 : decode cX11_isKnownNew 95 = .ok (.iload 5, 2) := by decide +kernel
theorem dX11_isKnownNew_97 : decode cX11_isKnownNew 97 = .ok (.iaload, 1) := by decide +kernel
theorem dX11_isKnownNew_98 : decode cX11_isKnownNew 98 = .ok (.aload_n 0, 1) := by decide +kernel
theorem dX11_isKnownNew_99 : decode cX11_isKnownNew 99 = .ok (.getfield 39, 3) := by decide +kernel
theorem dX11_isKnownNew_102 : decode cX11_isKnownNew 102 = .ok (.aload_n 0, 1) := by decide +kernel
theorem dX11_isKnownNew_103 : decode cX11_isKnownNew 103 = .ok (.getfield 51, 3) := by decide +kernel
theorem dX11_isKnownNew_106 : decode cX11_isKnownNew 106 = .ok (.iload 6, 2) := by decide +kernel
theorem dX11_isKnownNew_108 : decode cX11_isKnownNew 108 = .ok (.iaload, 1) := by decide +kernel
theorem dX11_isKnownNew_109 : decode cX11_isKnownNew 109 = .ok (.iaload, 1) := by decide +kernel
theorem dX11_isKnownNew_110 : decode cX11_isKnownNew 110 = .ok (.if_icmp .eq 7, 3) := by decide +kernel
theorem dX11_isKnownNew_113 : decode cX11_isKnownNew 113 = .ok (.iconst 1, 1) := by decide +kernel
theorem dX11_isKnownNew_114 : decode cX11_isKnownNew 114 = .ok (.goto 4, 3) := by decide +kernel
theorem dX11_isKnownNew_117 : decode cX11_isKnownNew 117 = .ok (.iconst 0, 1) := by decide +kernel
theorem dX11_isKnownNew_118 : decode cX11_isKnownNew 118 = .ok (.istore_n 3, 1) := by decide +kernel
theorem dX11_isKnownNew_119 : decode cX11_isKnownNew 119 = .ok (.iinc 6 1, 3) := by decide +kernel
theorem dX11_isKnownNew_122 : decode cX11_isKnownNew 122 = .ok (.goto (-64), 3) := by decide +kernel
theorem dX11_isKnownNew_125 : decode cX11_isKnownNew 125 = .ok (.iinc 4 1, 3) := by decide +kernel
theorem dX11_isKnownNew_128 : decode cX11_isKnownNew 128 = .ok (.goto (-123), 3) := by decide +kernel
theorem dX11_isKnownNew_131 : decode cX11_isKnownNew 131 = .ok (.iload_n 3, 1) := by decide +kernel
theorem dX11_isKnownNew_132 : decode cX11_isKnownNew 132 = .ok (.ireturn, 1) := by decide +kernel
theorem dX11_nearest_0 : decode cX11_nearest 0 = .ok (.bipush 12, 2) := by decide +kernel
theorem dX11_nearest_2 : decode cX11_nearest 2 = .ok (.istore_n 3, 1) := by decide +kernel
theorem dX11_nearest_3 : decode cX11_nearest 3 = .ok (.iconst 0, 1) := by decide +kernel
theorem dX11_nearest_4 : decode cX11_nearest 4 = .ok (.istore 4, 2) := by decide +kernel
theorem dX11_nearest_6 : decode cX11_nearest 6 = .ok (.iload 4, 2) := by decide +kernel
theorem dX11_nearest_8 : decode cX11_nearest 8 = .ok (.aload_n 0, 1) := by decide +kernel
theorem dX11_nearest_9 : decode cX11_nearest 9 = .ok (.getfield 243, 3) := by decide +kernel
theorem dX11_nearest_12 : decode cX11_nearest 12 = .ok (.if_icmp .ge 67, 3) := by decide +kernel
theorem dX11_nearest_15 : decode cX11_nearest 15 = .ok (.iload_n 1, 1) := by decide +kernel
theorem dX11_nearest_16 : decode cX11_nearest 16 = .ok (.iload 4, 2) := by decide +kernel
theorem dX11_nearest_18 : decode cX11_nearest 18 = .ok (.ishr, 1) := by decide +kernel
theorem dX11_nearest_19 : decode cX11_nearest 19 = .ok (.iconst 1, 1) := by decide +kernel
theorem dX11_nearest_20 : decode cX11_nearest 20 = .ok (.iand, 1) := by decide +kernel
theorem dX11_nearest_21 : decode cX11_nearest 21 = .ok (.ifCond .ne 6, 3) := by decide +kernel
theorem dX11_nearest_24 : decode cX11_nearest 24 = .ok (.goto 49, 3) := by decide +kernel
theorem dX11_nearest_27 : decode cX11_nearest 27 = .ok (.aload_n 0, 1) := by decide +kernel
theorem dX11_nearest_28 : decode cX11_nearest 28 = .ok (.getfield 36, 3) := by decide +kernel
theorem dX11_nearest_31 : decode cX11_nearest 31 = .ok (.iload 4, 2) := by decide +kernel
theorem dX11_nearest_33 : decode cX11_nearest 33 = .ok (.iaload, 1) := by decide +kernel
theorem dX11_nearest_34 : decode cX11_nearest 34 = .ok (.iload_n 2, 1) := by decide +kernel
theorem dX11_nearest_35 : decode cX11_nearest 35 = .ok (.isub, 1) := by decide +kernel
theorem dX11_nearest_36 : decode cX11_nearest 36 = .ok (.invokestatic 290, 3) := by decide +kernel
theorem dX11_nearest_39 : decode cX11_nearest 39 = .ok (.istore 5, 2) := by decide +kernel
theorem dX11_nearest_41 : decode cX11_nearest 41 = .ok (.iload 5, 2) := by decide +kernel
theorem dX11_nearest_43 : decode cX11_nearest 43 = .ok (.bipush 6, 2) := by decide +kernel
theorem dX11_nearest_45 : decode cX11_nearest 45 = .ok (.if_icmp .le 11, 3) := by decide +kernel
theorem dX11_nearest_48 : decode cX11_nearest 48 = .ok (.bipush 12, 2) := by decide +kernel
theorem dX11_nearest_50 : decode cX11_nearest 50 = .ok (.iload 5, 2) := by decide +kernel
theorem dX11_nearest_52 : decode cX11_nearest 52 = .ok (.isub, 1) := by decide +kernel
theorem dX11_nearest_53 : decode cX11_nearest 53 = .ok (.goto 5, 3) := by decide +kernel
theorem dX11_nearest_56 : decode cX11_nearest 56 = .ok (.iload 5, 2) := by decide +kernel
theorem dX11_nearest_58 : decode cX11_nearest 58 = .ok (.istore 5, 2) := by decide +kernel
theorem dX11_nearest_60 : decode cX11_nearest 60 = .ok (.iload 5, 2) := by decide +kernel
theorem dX11_nearest_62 : decode cX11_nearest 62 = .ok (.iload_n 3, 1) := by decide +kernel
theorem dX11_nearest_63 : decode cX11_nearest 63 = .ok (.if_icmp .ge 8, 3) := by decide +kernel
theorem dX11_nearest_66 : decode cX11_nearest 66 = .ok (.iload 5, 2) := by decide +kernel
theorem dX11_nearest_68 : decode cX11_nearest 68 = .ok (.goto 4, 3) := by decide +kernel
theorem dX11_nearest_71 : decode cX11_nearest 71 = .ok (.iload_n 3, 1) := by decide +kernel
theorem dX11_nearest_72 : decode cX11_nearest 72 = .ok (.istore_n 3, 1) := by decide +kernel
theorem dX11_nearest_73 : decode cX11_nearest 73 = .ok (.iinc 4 1, 3) := by decide +kernel
theorem dX11_nearest_76 : decode cX11_nearest 76 = .ok (.goto (-70), 3) := by decide +kernel
theorem dX11_nearest_79 : decode cX11_nearest 79 = .ok (.iload_n 3, 1) := by decide +kernel
theorem dX11_nearest_80 : decode cX11_nearest 80 = .ok (.ireturn, 1) := by decide +kernel
theorem dX11_fresh_0 : decode cX11_fresh 0 = .ok (.iload_n 1, 1) := by decide +kernel
theorem dX11_fresh_1 : decode cX11_fresh 1 = .ok (.iconst 1, 1) := by decide +kernel
theorem dX11_fresh_2 : decode cX11_fresh 2 = .ok (.bipush 99, 2) := by decide +kernel
theorem dX11_fresh_4 : decode cX11_fresh 4 = .ok (.invokestatic 283, 3) := by decide +kernel
theorem dX11_fresh_7 : decode cX11_fresh 7 = .ok (.ifCond .eq 18, 3) := by decide +kernel
theorem dX11_fresh_10 : decode cX11_fresh 10 = .ok (.iload_n 2, 1) := by decide +kernel
theorem dX11_fresh_11 : decode cX11_fresh 11 = .ok (.ifCond .lt 14, 3) := by decide +kernel
theorem dX11_fresh_14 : decode cX11_fresh 14 = .ok (.iload_n 2, 1) := by decide +kernel
theorem dX11_fresh_15 : decode cX11_fresh 15 = .ok (.aload_n 0, 1) := by decide +kernel
theorem dX11_fresh_16 : decode cX11_fresh 16 = .ok (.invokevirtual 255, 3) := by decide +kernel
theorem dX11_fresh_19 : decode cX11_fresh 19 = .ok (.iconst (-1), 1) := by decide +kernel
theorem dX11_fresh_20 : decode cX11_fresh 20 = .ok (.ixor, 1) := by decide +kernel
theorem dX11_fresh_21 : decode cX11_fresh 21 = .ok (.iand, 1) := by decide +kernel
theorem dX11_fresh_22 : decode cX11_fresh 22 = .ok (.ifCond .eq 6, 3) := by decide +kernel
theorem dX11_fresh_25 : decode cX11_fresh 25 = .ok (.bipush (-2), 2) := by decide +kernel
theorem dX11_fresh_27 : decode cX11_fresh 27 = .ok (.ireturn, 1) := by decide +kernel
theorem dX11_fresh_28 : decode cX11_fresh 28 = .ok (.iload_n 2, 1) := by decide +kernel
theorem dX11_fresh_29 : decode cX11_fresh 29 = .ok (.istore_n 3, 1) := by decide +kernel
theorem dX11_fresh_30 : decode cX11_fresh 30 = .ok (.iconst 0, 1) := by decide +kernel
theorem dX11_fresh_31 : decode cX11_fresh 31 = .ok (.istore 4, 2) := by decide +kernel
theorem dX11_fresh_33 : decode cX11_fresh 33 = .ok (.iload 4, 2) := by decide +kernel
theorem dX11_fresh_35 : decode cX11_fresh 35 = .ok (.aload_n 0, 1) := by decide +kernel
theorem dX11_fresh_36 : decode cX11_fresh 36 = .ok (.getfield 243, 3) := by decide +kernel
theorem dX11_fresh_39 : decode cX11_fresh 39 = .ok (.if_icmp .ge 33, 3) := by decide +kernel
theorem dX11_fresh_42 : decode cX11_fresh 42 = .ok (.iload_n 3, 1) := by decide +kernel
theorem dX11_fresh_43 : decode cX11_fresh 43 = .ok (.iload_n 2, 1) := by decide +kernel
theorem dX11_fresh_44 : decode cX11_fresh 44 = .ok (.iload 4, 2) := by decide +kernel
theorem dX11_fresh_46 : decode cX11_fresh 46 = .ok (.ishr, 1) := by decide +kernel
theorem dX11_fresh_47 : decode cX11_fresh 47 = .ok (.iconst 1, 1) := by decide +kernel
theorem dX11_fresh_48 : decode cX11_fresh 48 = .ok (.iand, 1) := by decide +kernel
theorem dX11_fresh_49 : decode cX11_fresh 49 = .ok (.iconst 1, 1) := by decide +kernel
theorem dX11_fresh_50 : decode cX11_fresh 50 = .ok (.if_icmp .ne 13, 3) := by decide +kernel
theorem dX11_fresh_53 : decode cX11_fresh 53 = .ok (.aload_n 0, 1) := by decide +kernel
theorem dX11_fresh_54 : decode cX11_fresh 54 = .ok (.getfield 48, 3) := by decide +kernel
theorem dX11_fresh_57 : decode cX11_fresh 57 = .ok (.iload 4, 2) := by decide +kernel
theorem dX11_fresh_59 : decode cX11_fresh 59 = .ok (.iaload, 1) := by decide +kernel
theorem dX11_fresh_60 : decode cX11_fresh 60 = .ok (.goto 4, 3) := by decide +kernel
theorem dX11_fresh_63 : decode cX11_fresh 63 = .ok (.iconst 0, 1) := by decide +kernel
theorem dX11_fresh_64 : decode cX11_fresh 64 = .ok (.ior, 1) := by decide +kernel
theorem dX11_fresh_65 : decode cX11_fresh 65 = .ok (.istore_n 3, 1) := by decide +kernel
theorem dX11_fresh_66 : decode cX11_fresh 66 = .ok (.iinc 4 1, 3) := by decide +kernel
theorem dX11_fresh_69 : decode cX11_fresh 69 = .ok (.goto (-36), 3) := by decide +kernel
theorem dX11_fresh_72 : decode cX11_fresh 72 = .ok (.iconst (-1), 1) := by decide +kernel
theorem dX11_fresh_73 : decode cX11_fresh 73 = .ok (.istore 4, 2) := by decide +kernel
theorem dX11_fresh_75 : decode cX11_fresh 75 = .ok (.iconst (-1), 1) := by decide +kernel
theorem dX11_fresh_76 : decode cX11_fresh 76 = .ok (.istore 5, 2) := by decide +kernel
theorem dX11_fresh_78 : decode cX11_fresh 78 = .ok (.iconst 0, 1) := by decide +kernel
theorem dX11_fresh_79 : decode cX11_fresh 79 = .ok (.istore 6, 2) := by decide +kernel
theorem dX11_fresh_81 : decode cX11_fresh 81 = .ok (.iload 6, 2) := by decide +kernel
theorem dX11_fresh_83 : decode cX11_fresh 83 = .ok (.bipush 12, 2) := by decide +kernel
theorem dX11_fresh_85 : decode cX11_fresh 85 = .ok (.if_icmp .ge 47, 3) := by decide +kernel
theorem dX11_fresh_88 : decode cX11_fresh 88 = .ok (.aload_n 0, 1) := by decide +kernel
theorem dX11_fresh_89 : decode cX11_fresh 89 = .ok (.iload_n 1, 1) := by decide +kernel
theorem dX11_fresh_90 : decode cX11_fresh 90 = .ok (.iload 6, 2) := by decide +kernel
theorem dX11_fresh_92 : decode cX11_fresh 92 = .ok (.invokevirtual 408, 3) := by decide +kernel
theorem dX11_fresh_95 : decode cX11_fresh 95 = .ok (.ifCond .eq 31, 3) := by decide +kernel
theorem dX11_fresh_98 : decode cX11_fresh 98 = .ok (.aload_n 0, 1) := by decide +kernel
theorem dX11_fresh_99 : decode cX11_fresh 99 = .ok (.iload_n 3, 1) := by decide +kernel
theorem dX11_fresh_100 : decode cX11_fresh 100 = .ok (.iload 6, 2) := by decide +kernel
theorem dX11_fresh_102 : decode cX11_fresh 102 = .ok (.invokevirtual 411, 3) := by decide +kernel
theorem dX11_fresh_105 : decode cX11_fresh 105 = .ok (.iload 5, 2) := by decide +kernel
theorem dX11_fresh_107 : decode cX11_fresh 107 = .ok (.if_icmp .gt 6, 3) := by decide +kernel
theorem dX11_fresh_110 : decode cX11_fresh 110 = .ok (.goto 16, 3) := by decide +kernel
theorem dX11_fresh_113 : decode cX11_fresh 113 = .ok (.iload 6, 2) := by decide +kernel
theorem dX11_fresh_115 : decode cX11_fresh 115 = .ok (.istore 4, 2) := by decide +kernel
theorem dX11_fresh_117 : decode cX11_fresh 117 = .ok (.aload_n 0, 1) := by decide +kernel
theorem dX11_fresh_118 : decode cX11_fresh 118 = .ok (.iload_n 3, 1) := by decide +kernel
theorem dX11_fresh_119 : decode cX11_fresh 119 = .ok (.iload 6, 2) := by decide +kernel
theorem dX11_fresh_121 : decode cX11_fresh 121 = .ok (.invokevirtual 411, 3) := by decide +kernel
theorem dX11_fresh_124 : decode cX11_fresh 124 = .ok (.istore 5, 2) := by decide +kernel
theorem dX11_fresh_126 : decode cX11_fresh 126 = .ok (.iinc 6 1, 3) := by decide +kernel
theorem dX11_fresh_129 : decode cX11_fresh 129 = .ok (.goto (-48), 3) := by decide +kernel
theorem dX11_fresh_132 : decode cX11_fresh 132 = .ok (.iload 4, 2) := by decide +kernel
theorem dX11_fresh_134 : decode cX11_fresh 134 = .ok (.ireturn, 1) := by decide +kernel
theorem dX11_isBox_0 : decode cX11_isBox 0 = .ok (.iload_n 0, 1) := by decide +kernel
theorem dX11_isBox_1 : decode cX11_isBox 1 = .ok (.ifCond .lt 12, 3) := by decide +kernel
theorem dX11_isBox_4 : decode cX11_isBox 4 = .ok (.iload_n 0, 1) := by decide +kernel
theorem dX11_isBox_5 : decode cX11_isBox 5 = .ok (.iconst 3, 1) := by decide +kernel
theorem dX11_isBox_6 : decode cX11_isBox 6 = .ok (.if_icmp .ge 7, 3) := by decide +kernel
theorem dX11_isBox_9 : decode cX11_isBox 9 = .ok (.iconst 1, 1) := by decide +kernel
theorem dX11_isBox_10 : decode cX11_isBox 10 = .ok (.goto 4, 3) := by decide +kernel
theorem dX11_isBox_13 : decode cX11_isBox 13 = .ok (.iconst 0, 1) := by decide +kernel
theorem dX11_isBox_14 : decode cX11_isBox 14 = .ok (.ireturn, 1) := by decide +kernel
theorem dX11_image_0 : decode cX11_image 0 = .ok (.iload_n 1, 1) := by decide +kernel
theorem dX11_image_1 : decode cX11_image 1 = .ok (.invokestatic 414, 3) := by decide +kernel
theorem dX11_image_4 : decode cX11_image 4 = .ok (.ifCond .ne 5, 3) := by decide +kernel
theorem dX11_image_7 : decode cX11_image 7 = .ok (.iconst (-1), 1) := by decide +kernel
theorem dX11_image_8 : decode cX11_image 8 = .ok (.ireturn, 1) := by decide +kernel
theorem dX11_image_9 : decode cX11_image 9 = .ok (.aload_n 0, 1) := by decide +kernel
theorem dX11_image_10 : decode cX11_image 10 = .ok (.getfield 97, 3) := by decide +kernel
theorem dX11_image_13 : decode cX11_image 13 = .ok (.iload_n 1, 1) := by decide +kernel
theorem dX11_image_14 : decode cX11_image 14 = .ok (.iconst 1, 1) := by decide +kernel
theorem dX11_image_15 : decode cX11_image 15 = .ok (.bastore, 1) := by decide +kernel
theorem dX11_image_16 : decode cX11_image 16 = .ok (.aload_n 0, 1) := by decide +kernel
theorem dX11_image_17 : decode cX11_image 17 = .ok (.getfield 100, 3) := by decide +kernel
theorem dX11_image_20 : decode cX11_image 20 = .ok (.bipush 16, 2) := by decide +kernel
theorem dX11_image_22 : decode cX11_image 22 = .ok (.iload_n 1, 1) := by decide +kernel
theorem dX11_image_23 : decode cX11_image 23 = .ok (.imul, 1) := by decide +kernel
theorem dX11_image_24 : decode cX11_image 24 = .ok (.aload_n 0, 1) := by decide +kernel
theorem dX11_image_25 : decode cX11_image 25 = .ok (.getfield 258, 3) := by decide +kernel
theorem dX11_image_28 : decode cX11_image 28 = .ok (.iastore, 1) := by decide +kernel
theorem dX11_image_29 : decode cX11_image 29 = .ok (.aload_n 0, 1) := by decide +kernel
theorem dX11_image_30 : decode cX11_image 30 = .ok (.getfield 100, 3) := by decide +kernel
theorem dX11_image_33 : decode cX11_image 33 = .ok (.bipush 16, 2) := by decide +kernel
theorem dX11_image_35 : decode cX11_image 35 = .ok (.iload_n 1, 1) := by decide +kernel
theorem dX11_image_36 : decode cX11_image 36 = .ok (.imul, 1) := by decide +kernel
theorem dX11_image_37 : decode cX11_image 37 = .ok (.iconst 1, 1) := by decide +kernel
theorem dX11_image_38 : decode cX11_image 38 = .ok (.iadd, 1) := by decide +kernel
theorem dX11_image_39 : decode cX11_image 39 = .ok (.aload_n 0, 1) := by decide +kernel
theorem dX11_image_40 : decode cX11_image 40 = .ok (.getfield 261, 3) := by decide +kernel
theorem dX11_image_43 : decode cX11_image 43 = .ok (.iastore, 1) := by decide +kernel
theorem dX11_image_44 : decode cX11_image 44 = .ok (.aload_n 0, 1) := by decide +kernel
theorem dX11_image_45 : decode cX11_image 45 = .ok (.getfield 100, 3) := by decide +kernel
theorem dX11_image_48 : decode cX11_image 48 = .ok (.bipush 16, 2) := by decide +kernel
theorem dX11_image_50 : decode cX11_image 50 = .ok (.iload_n 1, 1) := by decide +kernel
theorem dX11_image_51 : decode cX11_image 51 = .ok (.imul, 1) := by decide +kernel
theorem dX11_image_52 : decode cX11_image 52 = .ok (.iconst 2, 1) := by decide +kernel
theorem dX11_image_53 : decode cX11_image 53 = .ok (.iadd, 1) := by decide +kernel
theorem dX11_image_54 : decode cX11_image 54 = .ok (.aload_n 0, 1) := by decide +kernel
theorem dX11_image_55 : decode cX11_image 55 = .ok (.getfield 264, 3) := by decide +kernel
theorem dX11_image_58 : decode cX11_image 58 = .ok (.iastore, 1) := by decide +kernel
theorem dX11_image_59 : decode cX11_image 59 = .ok (.aload_n 0, 1) := by decide +kernel
theorem dX11_image_60 : decode cX11_image 60 = .ok (.getfield 100, 3) := by decide +kernel
theorem dX11_image_63 : decode cX11_image 63 = .ok (.bipush 16, 2) := by decide +kernel
theorem dX11_image_65 : decode cX11_image 65 = .ok (.iload_n 1, 1) := by decide +kernel
theorem dX11_image_66 : decode cX11_image 66 = .ok (.imul, 1) := by decide +kernel
theorem dX11_image_67 : decode cX11_image 67 = .ok (.iconst 3, 1) := by decide +kernel
theorem dX11_image_68 : decode cX11_image 68 = .ok (.iadd, 1) := by decide +kernel
theorem dX11_image_69 : decode cX11_image 69 = .ok (.aload_n 0, 1) := by decide +kernel
theorem dX11_image_70 : decode cX11_image 70 = .ok (.getfield 267, 3) := by decide +kernel
theorem dX11_image_73 : decode cX11_image 73 = .ok (.iastore, 1) := by decide +kernel
theorem dX11_image_74 : decode cX11_image 74 = .ok (.aload_n 0, 1) := by decide +kernel
theorem dX11_image_75 : decode cX11_image 75 = .ok (.getfield 100, 3) := by decide +kernel
theorem dX11_image_78 : decode cX11_image 78 = .ok (.bipush 16, 2) := by decide +kernel
theorem dX11_image_80 : decode cX11_image 80 = .ok (.iload_n 1, 1) := by decide +kernel
theorem dX11_image_81 : decode cX11_image 81 = .ok (.imul, 1) := by decide +kernel
theorem dX11_image_82 : decode cX11_image 82 = .ok (.iconst 4, 1) := by decide +kernel
theorem dX11_image_83 : decode cX11_image 83 = .ok (.iadd, 1) := by decide +kernel
theorem dX11_image_84 : decode cX11_image 84 = .ok (.aload_n 0, 1) := by decide +kernel
theorem dX11_image_85 : decode cX11_image 85 = .ok (.getfield 270, 3) := by decide +kernel
theorem dX11_image_88 : decode cX11_image 88 = .ok (.iastore, 1) := by decide +kernel
theorem dX11_image_89 : decode cX11_image 89 = .ok (.iconst 0, 1) := by decide +kernel
theorem dX11_image_90 : decode cX11_image 90 = .ok (.istore_n 2, 1) := by decide +kernel
theorem dX11_image_91 : decode cX11_image 91 = .ok (.iload_n 2, 1) := by decide +kernel
theorem dX11_image_92 : decode cX11_image 92 = .ok (.bipush 11, 2) := by decide +kernel
theorem dX11_image_94 : decode cX11_image 94 = .ok (.if_icmp .ge 28, 3) := by decide +kernel
theorem dX11_image_97 : decode cX11_image 97 = .ok (.aload_n 0, 1) := by decide +kernel
theorem dX11_image_98 : decode cX11_image 98 = .ok (.getfield 100, 3) := by decide +kernel
theorem dX11_image_101 : decode cX11_image 101 = .ok (.bipush 16, 2) := by decide +kernel
theorem dX11_image_103 : decode cX11_image 103 = .ok (.iload_n 1, 1) := by decide +kernel
theorem dX11_image_104 : decode cX11_image 104 = .ok (.imul, 1) := by decide +kernel
theorem dX11_image_105 : decode cX11_image 105 = .ok (.iconst 5, 1) := by decide +kernel
theorem dX11_image_106 : decode cX11_image 106 = .ok (.iadd, 1) := by decide +kernel
theorem dX11_image_107 : decode cX11_image 107 = .ok (.iload_n 2, 1) := by decide +kernel
theorem dX11_image_108 : decode cX11_image 108 = .ok (.iadd, 1) := by decide +kernel
theorem dX11_image_109 : decode cX11_image 109 = .ok (.aload_n 0, 1) := by decide +kernel
theorem dX11_image_110 : decode cX11_image 110 = .ok (.getfield 54, 3) := by decide +kernel
theorem dX11_image_113 : decode cX11_image 113 = .ok (.iload_n 2, 1) := by decide +kernel
theorem dX11_image_114 : decode cX11_image 114 = .ok (.iaload, 1) := by decide +kernel
theorem dX11_image_115 : decode cX11_image 115 = .ok (.iastore, 1) := by decide +kernel
theorem dX11_image_116 : decode cX11_image 116 = .ok (.iinc 2 1, 3) := by decide +kernel
theorem dX11_image_119 : decode cX11_image 119 = .ok (.goto (-28), 3) := by decide +kernel
theorem dX11_image_122 : decode cX11_image 122 = .ok (.aload_n 0, 1) := by decide +kernel
theorem dX11_image_123 : decode cX11_image 123 = .ok (.getfield 270, 3) := by decide +kernel
theorem dX11_image_126 : decode cX11_image 126 = .ok (.ireturn, 1) := by decide +kernel
theorem dX11_back_0 : decode cX11_back 0 = .ok (.iload_n 1, 1) := by decide +kernel
theorem dX11_back_1 : decode cX11_back 1 = .ok (.invokestatic 414, 3) := by decide +kernel
theorem dX11_back_4 : decode cX11_back 4 = .ok (.ifCond .eq 12, 3) := by decide +kernel
theorem dX11_back_7 : decode cX11_back 7 = .ok (.aload_n 0, 1) := by decide +kernel
theorem dX11_back_8 : decode cX11_back 8 = .ok (.getfield 97, 3) := by decide +kernel
theorem dX11_back_11 : decode cX11_back 11 = .ok (.iload_n 1, 1) := by decide +kernel
theorem dX11_back_12 : decode cX11_back 12 = .ok (.baload, 1) := by decide +kernel
theorem dX11_back_13 : decode cX11_back 13 = .ok (.ifCond .ne 5, 3) := by decide +kernel
theorem dX11_back_16 : decode cX11_back 16 = .ok (.iconst (-1), 1) := by decide +kernel
theorem dX11_back_17 : decode cX11_back 17 = .ok (.ireturn, 1) := by decide +kernel
theorem dX11_back_18 : decode cX11_back 18 = .ok (.aload_n 0, 1) := by decide +kernel
theorem dX11_back_19 : decode cX11_back 19 = .ok (.aload_n 0, 1) := by decide +kernel
theorem dX11_back_20 : decode cX11_back 20 = .ok (.getfield 100, 3) := by decide +kernel
theorem dX11_back_23 : decode cX11_back 23 = .ok (.bipush 16, 2) := by decide +kernel
theorem dX11_back_25 : decode cX11_back 25 = .ok (.iload_n 1, 1) := by decide +kernel
theorem dX11_back_26 : decode cX11_back 26 = .ok (.imul, 1) := by decide +kernel
theorem dX11_back_27 : decode cX11_back 27 = .ok (.iaload, 1) := by decide +kernel
theorem dX11_back_28 : decode cX11_back 28 = .ok (.putfield 258, 3) := by decide +kernel
theorem dX11_back_31 : decode cX11_back 31 = .ok (.aload_n 0, 1) := by decide +kernel
theorem dX11_back_32 : decode cX11_back 32 = .ok (.aload_n 0, 1) := by decide +kernel
theorem dX11_back_33 : decode cX11_back 33 = .ok (.getfield 100, 3) := by decide +kernel
theorem dX11_back_36 : decode cX11_back 36 = .ok (.bipush 16, 2) := by decide +kernel
theorem dX11_back_38 : decode cX11_back 38 = .ok (.iload_n 1, 1) := by decide +kernel
theorem dX11_back_39 : decode cX11_back 39 = .ok (.imul, 1) := by decide +kernel
theorem dX11_back_40 : decode cX11_back 40 = .ok (.iconst 1, 1) := by decide +kernel
theorem dX11_back_41 : decode cX11_back 41 = .ok (.iadd, 1) := by decide +kernel
theorem dX11_back_42 : decode cX11_back 42 = .ok (.iaload, 1) := by decide +kernel
theorem dX11_back_43 : decode cX11_back 43 = .ok (.putfield 261, 3) := by decide +kernel
theorem dX11_back_46 : decode cX11_back 46 = .ok (.aload_n 0, 1) := by decide +kernel
theorem dX11_back_47 : decode cX11_back 47 = .ok (.aload_n 0, 1) := by decide +kernel
theorem dX11_back_48 : decode cX11_back 48 = .ok (.getfield 100, 3) := by decide +kernel
theorem dX11_back_51 : decode cX11_back 51 = .ok (.bipush 16, 2) := by decide +kernel
theorem dX11_back_53 : decode cX11_back 53 = .ok (.iload_n 1, 1) := by decide +kernel
theorem dX11_back_54 : decode cX11_back 54 = .ok (.imul, 1) := by decide +kernel
theorem dX11_back_55 : decode cX11_back 55 = .ok (.iconst 2, 1) := by decide +kernel
theorem dX11_back_56 : decode cX11_back 56 = .ok (.iadd, 1) := by decide +kernel
theorem dX11_back_57 : decode cX11_back 57 = .ok (.iaload, 1) := by decide +kernel
theorem dX11_back_58 : decode cX11_back 58 = .ok (.putfield 264, 3) := by decide +kernel
theorem dX11_back_61 : decode cX11_back 61 = .ok (.aload_n 0, 1) := by decide +kernel
theorem dX11_back_62 : decode cX11_back 62 = .ok (.aload_n 0, 1) := by decide +kernel
theorem dX11_back_63 : decode cX11_back 63 = .ok (.getfield 100, 3) := by decide +kernel
theorem dX11_back_66 : decode cX11_back 66 = .ok (.bipush 16, 2) := by decide +kernel
theorem dX11_back_68 : decode cX11_back 68 = .ok (.iload_n 1, 1) := by decide +kernel
theorem dX11_back_69 : decode cX11_back 69 = .ok (.imul, 1) := by decide +kernel
theorem dX11_back_70 : decode cX11_back 70 = .ok (.iconst 3, 1) := by decide +kernel
theorem dX11_back_71 : decode cX11_back 71 = .ok (.iadd, 1) := by decide +kernel
theorem dX11_back_72 : decode cX11_back 72 = .ok (.iaload, 1) := by decide +kernel
theorem dX11_back_73 : decode cX11_back 73 = .ok (.putfield 267, 3) := by decide +kernel
theorem dX11_back_76 : decode cX11_back 76 = .ok (.aload_n 0, 1) := by decide +kernel
theorem dX11_back_77 : decode cX11_back 77 = .ok (.aload_n 0, 1) := by decide +kernel
theorem dX11_back_78 : decode cX11_back 78 = .ok (.getfield 100, 3) := by decide +kernel
theorem dX11_back_81 : decode cX11_back 81 = .ok (.bipush 16, 2) := by decide +kernel
theorem dX11_back_83 : decode cX11_back 83 = .ok (.iload_n 1, 1) := by decide +kernel
theorem dX11_back_84 : decode cX11_back 84 = .ok (.imul, 1) := by decide +kernel
theorem dX11_back_85 : decode cX11_back 85 = .ok (.iconst 4, 1) := by decide +kernel
theorem dX11_back_86 : decode cX11_back 86 = .ok (.iadd, 1) := by decide +kernel
theorem dX11_back_87 : decode cX11_back 87 = .ok (.iaload, 1) := by decide +kernel
theorem dX11_back_88 : decode cX11_back 88 = .ok (.putfield 270, 3) := by decide +kernel
theorem dX11_back_91 : decode cX11_back 91 = .ok (.iconst 0, 1) := by decide +kernel
theorem dX11_back_92 : decode cX11_back 92 = .ok (.istore_n 2, 1) := by decide +kernel
theorem dX11_back_93 : decode cX11_back 93 = .ok (.iload_n 2, 1) := by decide +kernel
theorem dX11_back_94 : decode cX11_back 94 = .ok (.bipush 11, 2) := by decide +kernel
theorem dX11_back_96 : decode cX11_back 96 = .ok (.if_icmp .ge 28, 3) := by decide +kernel
theorem dX11_back_99 : decode cX11_back 99 = .ok (.aload_n 0, 1) := by decide +kernel
theorem dX11_back_100 : decode cX11_back 100 = .ok (.getfield 54, 3) := by decide +kernel
theorem dX11_back_103 : decode cX11_back 103 = .ok (.iload_n 2, 1) := by decide +kernel
theorem dX11_back_104 : decode cX11_back 104 = .ok (.aload_n 0, 1) := by decide +kernel
theorem dX11_back_105 : decode cX11_back 105 = .ok (.getfield 100, 3) := by decide +kernel
theorem dX11_back_108 : decode cX11_back 108 = .ok (.bipush 16, 2) := by decide +kernel
theorem dX11_back_110 : decode cX11_back 110 = .ok (.iload_n 1, 1) := by decide +kernel
theorem dX11_back_111 : decode cX11_back 111 = .ok (.imul, 1) := by decide +kernel
theorem dX11_back_112 : decode cX11_back 112 = .ok (.iconst 5, 1) := by decide +kernel
theorem dX11_back_113 : decode cX11_back 113 = .ok (.iadd, 1) := by decide +kernel
theorem dX11_back_114 : decode cX11_back 114 = .ok (.iload_n 2, 1) := by decide +kernel
theorem dX11_back_115 : decode cX11_back 115 = .ok (.iadd, 1) := by decide +kernel
theorem dX11_back_116 : decode cX11_back 116 = .ok (.iaload, 1) := by decide +kernel
theorem dX11_back_117 : decode cX11_back 117 = .ok (.iastore, 1) := by decide +kernel
theorem dX11_back_118 : decode cX11_back 118 = .ok (.iinc 2 1, 3) := by decide +kernel
theorem dX11_back_121 : decode cX11_back 121 = .ok (.goto (-28), 3) := by decide +kernel
theorem dX11_back_124 : decode cX11_back 124 = .ok (.aload_n 0, 1) := by decide +kernel
theorem dX11_back_125 : decode cX11_back 125 = .ok (.getfield 270, 3) := by decide +kernel
theorem dX11_back_128 : decode cX11_back 128 = .ok (.ireturn, 1) := by decide +kernel
theorem dX11_about_0 : decode cX11_about 0 = .ok (.iload_n 1, 1) := by decide +kernel
theorem dX11_about_1 : decode cX11_about 1 = .ok (.tableswitch 114 0 10 #[59, 64, 69, 74, 79, 84, 89, 94, 99, 104, 109], 59) := by decide +kernel
theorem dX11_about_60 : decode cX11_about 60 = .ok (.aload_n 0, 1) := by decide +kernel
theorem dX11_about_61 : decode cX11_about 61 = .ok (.getfield 240, 3) := by decide +kernel
theorem dX11_about_64 : decode cX11_about 64 = .ok (.ireturn, 1) := by decide +kernel
theorem dX11_about_65 : decode cX11_about 65 = .ok (.aload_n 0, 1) := by decide +kernel
theorem dX11_about_66 : decode cX11_about 66 = .ok (.getfield 252, 3) := by decide +kernel
theorem dX11_about_69 : decode cX11_about 69 = .ok (.ireturn, 1) := by decide +kernel
theorem dX11_about_70 : decode cX11_about 70 = .ok (.aload_n 0, 1) := by decide +kernel
theorem dX11_about_71 : decode cX11_about 71 = .ok (.getfield 246, 3) := by decide +kernel
theorem dX11_about_74 : decode cX11_about 74 = .ok (.ireturn, 1) := by decide +kernel
theorem dX11_about_75 : decode cX11_about 75 = .ok (.aload_n 0, 1) := by decide +kernel
theorem dX11_about_76 : decode cX11_about 76 = .ok (.getfield 249, 3) := by decide +kernel
theorem dX11_about_79 : decode cX11_about 79 = .ok (.ireturn, 1) := by decide +kernel
theorem dX11_about_80 : decode cX11_about 80 = .ok (.aload_n 0, 1) := by decide +kernel
theorem dX11_about_81 : decode cX11_about 81 = .ok (.getfield 264, 3) := by decide +kernel
theorem dX11_about_84 : decode cX11_about 84 = .ok (.ireturn, 1) := by decide +kernel
theorem dX11_about_85 : decode cX11_about 85 = .ok (.aload_n 0, 1) := by decide +kernel
theorem dX11_about_86 : decode cX11_about 86 = .ok (.getfield 267, 3) := by decide +kernel
theorem dX11_about_89 : decode cX11_about 89 = .ok (.ireturn, 1) := by decide +kernel
theorem dX11_about_90 : decode cX11_about 90 = .ok (.aload_n 0, 1) := by decide +kernel
theorem dX11_about_91 : decode cX11_about 91 = .ok (.getfield 270, 3) := by decide +kernel
theorem dX11_about_94 : decode cX11_about 94 = .ok (.ireturn, 1) := by decide +kernel
theorem dX11_about_95 : decode cX11_about 95 = .ok (.aload_n 0, 1) := by decide +kernel
theorem dX11_about_96 : decode cX11_about 96 = .ok (.getfield 273, 3) := by decide +kernel
theorem dX11_about_99 : decode cX11_about 99 = .ok (.ireturn, 1) := by decide +kernel
theorem dX11_about_100 : decode cX11_about 100 = .ok (.aload_n 0, 1) := by decide +kernel
theorem dX11_about_101 : decode cX11_about 101 = .ok (.getfield 315, 3) := by decide +kernel
theorem dX11_about_104 : decode cX11_about 104 = .ok (.ireturn, 1) := by decide +kernel
theorem dX11_about_105 : decode cX11_about 105 = .ok (.aload_n 0, 1) := by decide +kernel
theorem dX11_about_106 : decode cX11_about 106 = .ok (.getfield 103, 3) := by decide +kernel
theorem dX11_about_109 : decode cX11_about 109 = .ok (.ireturn, 1) := by decide +kernel
theorem dX11_about_110 : decode cX11_about 110 = .ok (.aload_n 0, 1) := by decide +kernel
theorem dX11_about_111 : decode cX11_about 111 = .ok (.getfield 276, 3) := by decide +kernel
theorem dX11_about_114 : decode cX11_about 114 = .ok (.ireturn, 1) := by decide +kernel
theorem dX11_about_115 : decode cX11_about 115 = .ok (.iconst (-1), 1) := by decide +kernel
theorem dX11_about_116 : decode cX11_about 116 = .ok (.ireturn, 1) := by decide +kernel
theorem dJ6_bitCount_0f7a4_0 : decode cJ6_bitCount_0f7a4 0 = .ok (.iload_n 0, 1) := by decide +kernel
theorem dJ6_bitCount_0f7a4_1 : decode cJ6_bitCount_0f7a4 1 = .ok (.iload_n 0, 1) := by decide +kernel
theorem dJ6_bitCount_0f7a4_2 : decode cJ6_bitCount_0f7a4 2 = .ok (.iconst 1, 1) := by decide +kernel
theorem dJ6_bitCount_0f7a4_3 : decode cJ6_bitCount_0f7a4 3 = .ok (.iushr, 1) := by decide +kernel
theorem dJ6_bitCount_0f7a4_4 : decode cJ6_bitCount_0f7a4 4 = .ok (.ldc_w 265, 3) := by decide +kernel
theorem dJ6_bitCount_0f7a4_7 : decode cJ6_bitCount_0f7a4 7 = .ok (.iand, 1) := by decide +kernel
theorem dJ6_bitCount_0f7a4_8 : decode cJ6_bitCount_0f7a4 8 = .ok (.isub, 1) := by decide +kernel
theorem dJ6_bitCount_0f7a4_9 : decode cJ6_bitCount_0f7a4 9 = .ok (.istore_n 0, 1) := by decide +kernel
theorem dJ6_bitCount_0f7a4_10 : decode cJ6_bitCount_0f7a4 10 = .ok (.iload_n 0, 1) := by decide +kernel
theorem dJ6_bitCount_0f7a4_11 : decode cJ6_bitCount_0f7a4 11 = .ok (.ldc_w 266, 3) := by decide +kernel
theorem dJ6_bitCount_0f7a4_14 : decode cJ6_bitCount_0f7a4 14 = .ok (.iand, 1) := by decide +kernel
theorem dJ6_bitCount_0f7a4_15 : decode cJ6_bitCount_0f7a4 15 = .ok (.iload_n 0, 1) := by decide +kernel
theorem dJ6_bitCount_0f7a4_16 : decode cJ6_bitCount_0f7a4 16 = .ok (.iconst 2, 1) := by decide +kernel
theorem dJ6_bitCount_0f7a4_17 : decode cJ6_bitCount_0f7a4 17 = .ok (.iushr, 1) := by decide +kernel
theorem dJ6_bitCount_0f7a4_18 : decode cJ6_bitCount_0f7a4 18 = .ok (.ldc_w 266, 3) := by decide +kernel
theorem dJ6_bitCount_0f7a4_21 : decode cJ6_bitCount_0f7a4 21 = .ok (.iand, 1) := by decide +kernel
theorem dJ6_bitCount_0f7a4_22 : decode cJ6_bitCount_0f7a4 22 = .ok (.iadd, 1) := by decide +kernel
theorem dJ6_bitCount_0f7a4_23 : decode cJ6_bitCount_0f7a4 23 = .ok (.istore_n 0, 1) := by decide +kernel
theorem dJ6_bitCount_0f7a4_24 : decode cJ6_bitCount_0f7a4 24 = .ok (.iload_n 0, 1) := by decide +kernel
theorem dJ6_bitCount_0f7a4_25 : decode cJ6_bitCount_0f7a4 25 = .ok (.iload_n 0, 1) := by decide +kernel
theorem dJ6_bitCount_0f7a4_26 : decode cJ6_bitCount_0f7a4 26 = .ok (.iconst 4, 1) := by decide +kernel
theorem dJ6_bitCount_0f7a4_27 : decode cJ6_bitCount_0f7a4 27 = .ok (.iushr, 1) := by decide +kernel
theorem dJ6_bitCount_0f7a4_28 : decode cJ6_bitCount_0f7a4 28 = .ok (.iadd, 1) := by decide +kernel
theorem dJ6_bitCount_0f7a4_29 : decode cJ6_bitCount_0f7a4 29 = .ok (.ldc_w 267, 3) := by decide +kernel
theorem dJ6_bitCount_0f7a4_32 : decode cJ6_bitCount_0f7a4 32 = .ok (.iand, 1) := by decide +kernel
theorem dJ6_bitCount_0f7a4_33 : decode cJ6_bitCount_0f7a4 33 = .ok (.istore_n 0, 1) := by decide +kernel
theorem dJ6_bitCount_0f7a4_34 : decode cJ6_bitCount_0f7a4 34 = .ok (.iload_n 0, 1) := by decide +kernel
theorem dJ6_bitCount_0f7a4_35 : decode cJ6_bitCount_0f7a4 35 = .ok (.iload_n 0, 1) := by decide +kernel
theorem dJ6_bitCount_0f7a4_36 : decode cJ6_bitCount_0f7a4 36 = .ok (.bipush 8, 2) := by decide +kernel
theorem dJ6_bitCount_0f7a4_38 : decode cJ6_bitCount_0f7a4 38 = .ok (.iushr, 1) := by decide +kernel
theorem dJ6_bitCount_0f7a4_39 : decode cJ6_bitCount_0f7a4 39 = .ok (.iadd, 1) := by decide +kernel
theorem dJ6_bitCount_0f7a4_40 : decode cJ6_bitCount_0f7a4 40 = .ok (.istore_n 0, 1) := by decide +kernel
theorem dJ6_bitCount_0f7a4_41 : decode cJ6_bitCount_0f7a4 41 = .ok (.iload_n 0, 1) := by decide +kernel
theorem dJ6_bitCount_0f7a4_42 : decode cJ6_bitCount_0f7a4 42 = .ok (.iload_n 0, 1) := by decide +kernel
theorem dJ6_bitCount_0f7a4_43 : decode cJ6_bitCount_0f7a4 43 = .ok (.bipush 16, 2) := by decide +kernel
theorem dJ6_bitCount_0f7a4_45 : decode cJ6_bitCount_0f7a4 45 = .ok (.iushr, 1) := by decide +kernel
theorem dJ6_bitCount_0f7a4_46 : decode cJ6_bitCount_0f7a4 46 = .ok (.iadd, 1) := by decide +kernel
theorem dJ6_bitCount_0f7a4_47 : decode cJ6_bitCount_0f7a4 47 = .ok (.istore_n 0, 1) := by decide +kernel
theorem dJ6_bitCount_0f7a4_48 : decode cJ6_bitCount_0f7a4 48 = .ok (.iload_n 0, 1) := by decide +kernel
theorem dJ6_bitCount_0f7a4_49 : decode cJ6_bitCount_0f7a4 49 = .ok (.bipush 63, 2) := by decide +kernel
theorem dJ6_bitCount_0f7a4_51 : decode cJ6_bitCount_0f7a4 51 = .ok (.iand, 1) := by decide +kernel
theorem dJ6_bitCount_0f7a4_52 : decode cJ6_bitCount_0f7a4 52 = .ok (.ireturn, 1) := by decide +kernel
theorem dJ9_floorMod_7cf53_0 : decode cJ9_floorMod_7cf53 0 = .ok (.iload_n 0, 1) := by decide +kernel
theorem dJ9_floorMod_7cf53_1 : decode cJ9_floorMod_7cf53 1 = .ok (.iload_n 1, 1) := by decide +kernel
theorem dJ9_floorMod_7cf53_2 : decode cJ9_floorMod_7cf53 2 = .ok (.irem, 1) := by decide +kernel
theorem dJ9_floorMod_7cf53_3 : decode cJ9_floorMod_7cf53 3 = .ok (.istore_n 2, 1) := by decide +kernel
theorem dJ9_floorMod_7cf53_4 : decode cJ9_floorMod_7cf53 4 = .ok (.iload_n 0, 1) := by decide +kernel
theorem dJ9_floorMod_7cf53_5 : decode cJ9_floorMod_7cf53 5 = .ok (.iload_n 1, 1) := by decide +kernel
theorem dJ9_floorMod_7cf53_6 : decode cJ9_floorMod_7cf53 6 = .ok (.ixor, 1) := by decide +kernel
theorem dJ9_floorMod_7cf53_7 : decode cJ9_floorMod_7cf53 7 = .ok (.ifCond .ge 11, 3) := by decide +kernel
theorem dJ9_floorMod_7cf53_10 : decode cJ9_floorMod_7cf53 10 = .ok (.iload_n 2, 1) := by decide +kernel
theorem dJ9_floorMod_7cf53_11 : decode cJ9_floorMod_7cf53 11 = .ok (.ifCond .eq 7, 3) := by decide +kernel
theorem dJ9_floorMod_7cf53_14 : decode cJ9_floorMod_7cf53 14 = .ok (.iload_n 2, 1) := by decide +kernel
theorem dJ9_floorMod_7cf53_15 : decode cJ9_floorMod_7cf53 15 = .ok (.iload_n 1, 1) := by decide +kernel
theorem dJ9_floorMod_7cf53_16 : decode cJ9_floorMod_7cf53 16 = .ok (.iadd, 1) := by decide +kernel
theorem dJ9_floorMod_7cf53_17 : decode cJ9_floorMod_7cf53 17 = .ok (.ireturn, 1) := by decide +kernel
theorem dJ9_floorMod_7cf53_18 : decode cJ9_floorMod_7cf53 18 = .ok (.iload_n 2, 1) := by decide +kernel
theorem dJ9_floorMod_7cf53_19 : decode cJ9_floorMod_7cf53 19 = .ok (.ireturn, 1) := by decide +kernel
theorem dJ9_abs_0f7a4_0 : decode cJ9_abs_0f7a4 0 = .ok (.iload_n 0, 1) := by decide +kernel
theorem dJ9_abs_0f7a4_1 : decode cJ9_abs_0f7a4 1 = .ok (.ifCond .ge 8, 3) := by decide +kernel
theorem dJ9_abs_0f7a4_4 : decode cJ9_abs_0f7a4 4 = .ok (.iload_n 0, 1) := by decide +kernel
theorem dJ9_abs_0f7a4_5 : decode cJ9_abs_0f7a4 5 = .ok (.ineg, 1) := by decide +kernel
theorem dJ9_abs_0f7a4_6 : decode cJ9_abs_0f7a4 6 = .ok (.goto 4, 3) := by decide +kernel
theorem dJ9_abs_0f7a4_9 : decode cJ9_abs_0f7a4 9 = .ok (.iload_n 0, 1) := by decide +kernel
theorem dJ9_abs_0f7a4_10 : decode cJ9_abs_0f7a4 10 = .ok (.ireturn, 1) := by decide +kernel
theorem dJ9_max_7cf53_0 : decode cJ9_max_7cf53 0 = .ok (.iload_n 0, 1) := by decide +kernel
theorem dJ9_max_7cf53_1 : decode cJ9_max_7cf53 1 = .ok (.iload_n 1, 1) := by decide +kernel
theorem dJ9_max_7cf53_2 : decode cJ9_max_7cf53 2 = .ok (.if_icmp .lt 7, 3) := by decide +kernel
theorem dJ9_max_7cf53_5 : decode cJ9_max_7cf53 5 = .ok (.iload_n 0, 1) := by decide +kernel
theorem dJ9_max_7cf53_6 : decode cJ9_max_7cf53 6 = .ok (.goto 4, 3) := by decide +kernel
theorem dJ9_max_7cf53_9 : decode cJ9_max_7cf53 9 = .ok (.iload_n 1, 1) := by decide +kernel
theorem dJ9_max_7cf53_10 : decode cJ9_max_7cf53 10 = .ok (.ireturn, 1) := by decide +kernel
theorem dJ9_min_7cf53_0 : decode cJ9_min_7cf53 0 = .ok (.iload_n 0, 1) := by decide +kernel
theorem dJ9_min_7cf53_1 : decode cJ9_min_7cf53 1 = .ok (.iload_n 1, 1) := by decide +kernel
theorem dJ9_min_7cf53_2 : decode cJ9_min_7cf53 2 = .ok (.if_icmp .gt 7, 3) := by decide +kernel
theorem dJ9_min_7cf53_5 : decode cJ9_min_7cf53 5 = .ok (.iload_n 0, 1) := by decide +kernel
theorem dJ9_min_7cf53_6 : decode cJ9_min_7cf53 6 = .ok (.goto 4, 3) := by decide +kernel
theorem dJ9_min_7cf53_9 : decode cJ9_min_7cf53 9 = .ok (.iload_n 1, 1) := by decide +kernel
theorem dJ9_min_7cf53_10 : decode cJ9_min_7cf53 10 = .ok (.ireturn, 1) := by decide +kernel
theorem dJ7_fill_53178_0 : decode cJ7_fill_53178 0 = .ok (.iconst 0, 1) := by decide +kernel
theorem dJ7_fill_53178_1 : decode cJ7_fill_53178 1 = .ok (.istore_n 2, 1) := by decide +kernel
theorem dJ7_fill_53178_2 : decode cJ7_fill_53178 2 = .ok (.aload_n 0, 1) := by decide +kernel
theorem dJ7_fill_53178_3 : decode cJ7_fill_53178 3 = .ok (.arraylength, 1) := by decide +kernel
theorem dJ7_fill_53178_4 : decode cJ7_fill_53178 4 = .ok (.istore_n 3, 1) := by decide +kernel
theorem dJ7_fill_53178_5 : decode cJ7_fill_53178 5 = .ok (.iload_n 2, 1) := by decide +kernel
theorem dJ7_fill_53178_6 : decode cJ7_fill_53178 6 = .ok (.iload_n 3, 1) := by decide +kernel
theorem dJ7_fill_53178_7 : decode cJ7_fill_53178 7 = .ok (.if_icmp .ge 13, 3) := by decide +kernel
theorem dJ7_fill_53178_10 : decode cJ7_fill_53178 10 = .ok (.aload_n 0, 1) := by decide +kernel
theorem dJ7_fill_53178_11 : decode cJ7_fill_53178 11 = .ok (.iload_n 2, 1) := by decide +kernel
theorem dJ7_fill_53178_12 : decode cJ7_fill_53178 12 = .ok (.iload_n 1, 1) := by decide +kernel
theorem dJ7_fill_53178_13 : decode cJ7_fill_53178 13 = .ok (.iastore, 1) := by decide +kernel
theorem dJ7_fill_53178_14 : decode cJ7_fill_53178 14 = .ok (.iinc 2 1, 3) := by decide +kernel
theorem dJ7_fill_53178_17 : decode cJ7_fill_53178 17 = .ok (.goto (-12), 3) := by decide +kernel
theorem dJ7_fill_53178_20 : decode cJ7_fill_53178 20 = .ok (.return_, 1) := by decide +kernel
theorem dL_law_0 : decode cL_law 0 = .ok (.new 7, 3) := by decide +kernel
theorem dL_law_3 : decode cL_law 3 = .ok (.dup, 1) := by decide +kernel
theorem dL_law_4 : decode cL_law 4 = .ok (.invokespecial 9, 3) := by decide +kernel
theorem dL_law_7 : decode cL_law 7 = .ok (.astore_n 1, 1) := by decide +kernel
theorem dL_law_8 : decode cL_law 8 = .ok (.new 10, 3) := by decide +kernel
theorem dL_law_11 : decode cL_law 11 = .ok (.dup, 1) := by decide +kernel
theorem dL_law_12 : decode cL_law 12 = .ok (.invokespecial 12, 3) := by decide +kernel
theorem dL_law_15 : decode cL_law 15 = .ok (.astore_n 2, 1) := by decide +kernel
theorem dL_law_16 : decode cL_law 16 = .ok (.iconst 0, 1) := by decide +kernel
theorem dL_law_17 : decode cL_law 17 = .ok (.istore_n 3, 1) := by decide +kernel
theorem dL_law_18 : decode cL_law 18 = .ok (.iload_n 3, 1) := by decide +kernel
theorem dL_law_19 : decode cL_law 19 = .ok (.aload_n 0, 1) := by decide +kernel
theorem dL_law_20 : decode cL_law 20 = .ok (.arraylength, 1) := by decide +kernel
theorem dL_law_21 : decode cL_law 21 = .ok (.bipush 6, 2) := by decide +kernel
theorem dL_law_23 : decode cL_law 23 = .ok (.isub, 1) := by decide +kernel
theorem dL_law_24 : decode cL_law 24 = .ok (.if_icmp .gt 1155, 3) := by decide +kernel
theorem dL_law_27 : decode cL_law 27 = .ok (.aload_n 0, 1) := by decide +kernel
theorem dL_law_28 : decode cL_law 28 = .ok (.iload_n 3, 1) := by decide +kernel
theorem dL_law_29 : decode cL_law 29 = .ok (.iaload, 1) := by decide +kernel
theorem dL_law_30 : decode cL_law 30 = .ok (.bipush 31, 2) := by decide +kernel
theorem dL_law_32 : decode cL_law 32 = .ok (.iand, 1) := by decide +kernel
theorem dL_law_33 : decode cL_law 33 = .ok (.tableswitch 1140 0 28 #[131, 194, 217, 230, 253, 286, 319, 342, 391, 440, 473, 506, 529, 592, 625, 678, 701, 724, 777, 840, 883, 946, 969, 992, 1015, 1038, 1071, 1094, 1117], 131) := by decide +kernel
theorem dL_law_164 : decode cL_law 164 = .ok (.aload_n 1, 1) := by decide +kernel
theorem dL_law_165 : decode cL_law 165 = .ok (.aload_n 0, 1) := by decide +kernel
theorem dL_law_166 : decode cL_law 166 = .ok (.iload_n 3, 1) := by decide +kernel
theorem dL_law_167 : decode cL_law 167 = .ok (.iconst 1, 1) := by decide +kernel
theorem dL_law_168 : decode cL_law 168 = .ok (.iadd, 1) := by decide +kernel
theorem dL_law_169 : decode cL_law 169 = .ok (.iaload, 1) := by decide +kernel
theorem dL_law_170 : decode cL_law 170 = .ok (.aload_n 0, 1) := by decide +kernel
theorem dL_law_171 : decode cL_law 171 = .ok (.iload_n 3, 1) := by decide +kernel
theorem dL_law_172 : decode cL_law 172 = .ok (.iconst 2, 1) := by decide +kernel
theorem dL_law_173 : decode cL_law 173 = .ok (.iadd, 1) := by decide +kernel
theorem dL_law_174 : decode cL_law 174 = .ok (.iaload, 1) := by decide +kernel
theorem dL_law_175 : decode cL_law 175 = .ok (.aload_n 0, 1) := by decide +kernel
theorem dL_law_176 : decode cL_law 176 = .ok (.iload_n 3, 1) := by decide +kernel
theorem dL_law_177 : decode cL_law 177 = .ok (.iconst 3, 1) := by decide +kernel
theorem dL_law_178 : decode cL_law 178 = .ok (.iadd, 1) := by decide +kernel
theorem dL_law_179 : decode cL_law 179 = .ok (.iaload, 1) := by decide +kernel
theorem dL_law_180 : decode cL_law 180 = .ok (.aload_n 0, 1) := by decide +kernel
theorem dL_law_181 : decode cL_law 181 = .ok (.iload_n 3, 1) := by decide +kernel
theorem dL_law_182 : decode cL_law 182 = .ok (.iconst 4, 1) := by decide +kernel
theorem dL_law_183 : decode cL_law 183 = .ok (.iadd, 1) := by decide +kernel
theorem dL_law_184 : decode cL_law 184 = .ok (.iaload, 1) := by decide +kernel
theorem dL_law_185 : decode cL_law 185 = .ok (.aload_n 0, 1) := by decide +kernel
theorem dL_law_186 : decode cL_law 186 = .ok (.iload_n 3, 1) := by decide +kernel
theorem dL_law_187 : decode cL_law 187 = .ok (.iconst 5, 1) := by decide +kernel
theorem dL_law_188 : decode cL_law 188 = .ok (.iadd, 1) := by decide +kernel
theorem dL_law_189 : decode cL_law 189 = .ok (.iaload, 1) := by decide +kernel
theorem dL_law_190 : decode cL_law 190 = .ok (.invokevirtual 13, 3) := by decide +kernel
theorem dL_law_193 : decode cL_law 193 = .ok (.pop, 1) := by decide +kernel
theorem dL_law_194 : decode cL_law 194 = .ok (.aload_n 2, 1) := by decide +kernel
theorem dL_law_195 : decode cL_law 195 = .ok (.aload_n 0, 1) := by decide +kernel
theorem dL_law_196 : decode cL_law 196 = .ok (.iload_n 3, 1) := by decide +kernel
theorem dL_law_197 : decode cL_law 197 = .ok (.iconst 1, 1) := by decide +kernel
theorem dL_law_198 : decode cL_law 198 = .ok (.iadd, 1) := by decide +kernel
theorem dL_law_199 : decode cL_law 199 = .ok (.iaload, 1) := by decide +kernel
theorem dL_law_200 : decode cL_law 200 = .ok (.aload_n 0, 1) := by decide +kernel
theorem dL_law_201 : decode cL_law 201 = .ok (.iload_n 3, 1) := by decide +kernel
theorem dL_law_202 : decode cL_law 202 = .ok (.iconst 2, 1) := by decide +kernel
theorem dL_law_203 : decode cL_law 203 = .ok (.iadd, 1) := by decide +kernel
theorem dL_law_204 : decode cL_law 204 = .ok (.iaload, 1) := by decide +kernel
theorem dL_law_205 : decode cL_law 205 = .ok (.aload_n 0, 1) := by decide +kernel
theorem dL_law_206 : decode cL_law 206 = .ok (.iload_n 3, 1) := by decide +kernel
theorem dL_law_207 : decode cL_law 207 = .ok (.iconst 3, 1) := by decide +kernel
theorem dL_law_208 : decode cL_law 208 = .ok (.iadd, 1) := by decide +kernel
theorem dL_law_209 : decode cL_law 209 = .ok (.iaload, 1) := by decide +kernel
theorem dL_law_210 : decode cL_law 210 = .ok (.aload_n 0, 1) := by decide +kernel
theorem dL_law_211 : decode cL_law 211 = .ok (.iload_n 3, 1) := by decide +kernel
theorem dL_law_212 : decode cL_law 212 = .ok (.iconst 4, 1) := by decide +kernel
theorem dL_law_213 : decode cL_law 213 = .ok (.iadd, 1) := by decide +kernel
theorem dL_law_214 : decode cL_law 214 = .ok (.iaload, 1) := by decide +kernel
theorem dL_law_215 : decode cL_law 215 = .ok (.aload_n 0, 1) := by decide +kernel
theorem dL_law_216 : decode cL_law 216 = .ok (.iload_n 3, 1) := by decide +kernel
theorem dL_law_217 : decode cL_law 217 = .ok (.iconst 5, 1) := by decide +kernel
theorem dL_law_218 : decode cL_law 218 = .ok (.iadd, 1) := by decide +kernel
theorem dL_law_219 : decode cL_law 219 = .ok (.iaload, 1) := by decide +kernel
theorem dL_law_220 : decode cL_law 220 = .ok (.invokevirtual 17, 3) := by decide +kernel
theorem dL_law_223 : decode cL_law 223 = .ok (.pop, 1) := by decide +kernel
theorem dL_law_224 : decode cL_law 224 = .ok (.goto 949, 3) := by decide +kernel
theorem dL_law_227 : decode cL_law 227 = .ok (.aload_n 1, 1) := by decide +kernel
theorem dL_law_228 : decode cL_law 228 = .ok (.aload_n 0, 1) := by decide +kernel
theorem dL_law_229 : decode cL_law 229 = .ok (.iload_n 3, 1) := by decide +kernel
theorem dL_law_230 : decode cL_law 230 = .ok (.iconst 1, 1) := by decide +kernel
theorem dL_law_231 : decode cL_law 231 = .ok (.iadd, 1) := by decide +kernel
theorem dL_law_232 : decode cL_law 232 = .ok (.iaload, 1) := by decide +kernel
theorem dL_law_233 : decode cL_law 233 = .ok (.invokevirtual 18, 3) := by decide +kernel
theorem dL_law_236 : decode cL_law 236 = .ok (.pop, 1) := by decide +kernel
theorem dL_law_237 : decode cL_law 237 = .ok (.aload_n 2, 1) := by decide +kernel
theorem dL_law_238 : decode cL_law 238 = .ok (.aload_n 0, 1) := by decide +kernel
theorem dL_law_239 : decode cL_law 239 = .ok (.iload_n 3, 1) := by decide +kernel
theorem dL_law_240 : decode cL_law 240 = .ok (.iconst 1, 1) := by decide +kernel
theorem dL_law_241 : decode cL_law 241 = .ok (.iadd, 1) := by decide +kernel
theorem dL_law_242 : decode cL_law 242 = .ok (.iaload, 1) := by decide +kernel
theorem dL_law_243 : decode cL_law 243 = .ok (.invokevirtual 22, 3) := by decide +kernel
theorem dL_law_246 : decode cL_law 246 = .ok (.pop, 1) := by decide +kernel
theorem dL_law_247 : decode cL_law 247 = .ok (.goto 926, 3) := by decide +kernel
theorem dL_law_250 : decode cL_law 250 = .ok (.aload_n 1, 1) := by decide +kernel
theorem dL_law_251 : decode cL_law 251 = .ok (.invokevirtual 23, 3) := by decide +kernel
theorem dL_law_254 : decode cL_law 254 = .ok (.pop, 1) := by decide +kernel
theorem dL_law_255 : decode cL_law 255 = .ok (.aload_n 2, 1) := by decide +kernel
theorem dL_law_256 : decode cL_law 256 = .ok (.invokevirtual 27, 3) := by decide +kernel
theorem dL_law_259 : decode cL_law 259 = .ok (.pop, 1) := by decide +kernel
theorem dL_law_260 : decode cL_law 260 = .ok (.goto 913, 3) := by decide +kernel
theorem dL_law_263 : decode cL_law 263 = .ok (.aload_n 1, 1) := by decide +kernel
theorem dL_law_264 : decode cL_law 264 = .ok (.aload_n 0, 1) := by decide +kernel
theorem dL_law_265 : decode cL_law 265 = .ok (.iload_n 3, 1) := by decide +kernel
theorem dL_law_266 : decode cL_law 266 = .ok (.iconst 1, 1) := by decide +kernel
theorem dL_law_267 : decode cL_law 267 = .ok (.iadd, 1) := by decide +kernel
theorem dL_law_268 : decode cL_law 268 = .ok (.iaload, 1) := by decide +kernel
theorem dL_law_269 : decode cL_law 269 = .ok (.invokevirtual 28, 3) := by decide +kernel
theorem dL_law_272 : decode cL_law 272 = .ok (.pop, 1) := by decide +kernel
theorem dL_law_273 : decode cL_law 273 = .ok (.aload_n 2, 1) := by decide +kernel
theorem dL_law_274 : decode cL_law 274 = .ok (.aload_n 0, 1) := by decide +kernel
theorem dL_law_275 : decode cL_law 275 = .ok (.iload_n 3, 1) := by decide +kernel
theorem dL_law_276 : decode cL_law 276 = .ok (.iconst 1, 1) := by decide +kernel
theorem dL_law_277 : decode cL_law 277 = .ok (.iadd, 1) := by decide +kernel
theorem dL_law_278 : decode cL_law 278 = .ok (.iaload, 1) := by decide +kernel
theorem dL_law_279 : decode cL_law 279 = .ok (.invokevirtual 31, 3) := by decide +kernel
theorem dL_law_282 : decode cL_law 282 = .ok (.pop, 1) := by decide +kernel
theorem dL_law_283 : decode cL_law 283 = .ok (.goto 890, 3) := by decide +kernel
theorem dL_law_286 : decode cL_law 286 = .ok (.aload_n 1, 1) := by decide +kernel
theorem dL_law_287 : decode cL_law 287 = .ok (.aload_n 0, 1) := by decide +kernel
theorem dL_law_288 : decode cL_law 288 = .ok (.iload_n 3, 1) := by decide +kernel
theorem dL_law_289 : decode cL_law 289 = .ok (.iconst 1, 1) := by decide +kernel
theorem dL_law_290 : decode cL_law 290 = .ok (.iadd, 1) := by decide +kernel
theorem dL_law_291 : decode cL_law 291 = .ok (.iaload, 1) := by decide +kernel
theorem dL_law_292 : decode cL_law 292 = .ok (.aload_n 0, 1) := by decide +kernel
theorem dL_law_293 : decode cL_law 293 = .ok (.iload_n 3, 1) := by decide +kernel
theorem dL_law_294 : decode cL_law 294 = .ok (.iconst 2, 1) := by decide +kernel
theorem dL_law_295 : decode cL_law 295 = .ok (.iadd, 1) := by decide +kernel
theorem dL_law_296 : decode cL_law 296 = .ok (.iaload, 1) := by decide +kernel
theorem dL_law_297 : decode cL_law 297 = .ok (.invokevirtual 32, 3) := by decide +kernel
theorem dL_law_300 : decode cL_law 300 = .ok (.pop, 1) := by decide +kernel
theorem dL_law_301 : decode cL_law 301 = .ok (.aload_n 2, 1) := by decide +kernel
theorem dL_law_302 : decode cL_law 302 = .ok (.aload_n 0, 1) := by decide +kernel
theorem dL_law_303 : decode cL_law 303 = .ok (.iload_n 3, 1) := by decide +kernel
theorem dL_law_304 : decode cL_law 304 = .ok (.iconst 1, 1) := by decide +kernel
theorem dL_law_305 : decode cL_law 305 = .ok (.iadd, 1) := by decide +kernel
theorem dL_law_306 : decode cL_law 306 = .ok (.iaload, 1) := by decide +kernel
theorem dL_law_307 : decode cL_law 307 = .ok (.aload_n 0, 1) := by decide +kernel
theorem dL_law_308 : decode cL_law 308 = .ok (.iload_n 3, 1) := by decide +kernel
theorem dL_law_309 : decode cL_law 309 = .ok (.iconst 2, 1) := by decide +kernel
theorem dL_law_310 : decode cL_law 310 = .ok (.iadd, 1) := by decide +kernel
theorem dL_law_311 : decode cL_law 311 = .ok (.iaload, 1) := by decide +kernel
theorem dL_law_312 : decode cL_law 312 = .ok (.invokevirtual 36, 3) := by decide +kernel
theorem dL_law_315 : decode cL_law 315 = .ok (.pop, 1) := by decide +kernel
theorem dL_law_316 : decode cL_law 316 = .ok (.goto 857, 3) := by decide +kernel
theorem dL_law_319 : decode cL_law 319 = .ok (.aload_n 1, 1) := by decide +kernel
theorem dL_law_320 : decode cL_law 320 = .ok (.aload_n 0, 1) := by decide +kernel
theorem dL_law_321 : decode cL_law 321 = .ok (.iload_n 3, 1) := by decide +kernel
theorem dL_law_322 : decode cL_law 322 = .ok (.iconst 1, 1) := by decide +kernel
theorem dL_law_323 : decode cL_law 323 = .ok (.iadd, 1) := by decide +kernel
theorem dL_law_324 : decode cL_law 324 = .ok (.iaload, 1) := by decide +kernel
theorem dL_law_325 : decode cL_law 325 = .ok (.aload_n 0, 1) := by decide +kernel
theorem dL_law_326 : decode cL_law 326 = .ok (.iload_n 3, 1) := by decide +kernel
theorem dL_law_327 : decode cL_law 327 = .ok (.iconst 2, 1) := by decide +kernel
theorem dL_law_328 : decode cL_law 328 = .ok (.iadd, 1) := by decide +kernel
theorem dL_law_329 : decode cL_law 329 = .ok (.iaload, 1) := by decide +kernel
theorem dL_law_330 : decode cL_law 330 = .ok (.invokevirtual 37, 3) := by decide +kernel
theorem dL_law_333 : decode cL_law 333 = .ok (.pop, 1) := by decide +kernel
theorem dL_law_334 : decode cL_law 334 = .ok (.aload_n 2, 1) := by decide +kernel
theorem dL_law_335 : decode cL_law 335 = .ok (.aload_n 0, 1) := by decide +kernel
theorem dL_law_336 : decode cL_law 336 = .ok (.iload_n 3, 1) := by decide +kernel
theorem dL_law_337 : decode cL_law 337 = .ok (.iconst 1, 1) := by decide +kernel
theorem dL_law_338 : decode cL_law 338 = .ok (.iadd, 1) := by decide +kernel
theorem dL_law_339 : decode cL_law 339 = .ok (.iaload, 1) := by decide +kernel
theorem dL_law_340 : decode cL_law 340 = .ok (.aload_n 0, 1) := by decide +kernel
theorem dL_law_341 : decode cL_law 341 = .ok (.iload_n 3, 1) := by decide +kernel
theorem dL_law_342 : decode cL_law 342 = .ok (.iconst 2, 1) := by decide +kernel
theorem dL_law_343 : decode cL_law 343 = .ok (.iadd, 1) := by decide +kernel
theorem dL_law_344 : decode cL_law 344 = .ok (.iaload, 1) := by decide +kernel
theorem dL_law_345 : decode cL_law 345 = .ok (.invokevirtual 40, 3) := by decide +kernel
theorem dL_law_348 : decode cL_law 348 = .ok (.pop, 1) := by decide +kernel
theorem dL_law_349 : decode cL_law 349 = .ok (.goto 824, 3) := by decide +kernel
theorem dL_law_352 : decode cL_law 352 = .ok (.aload_n 1, 1) := by decide +kernel
theorem dL_law_353 : decode cL_law 353 = .ok (.aload_n 0, 1) := by decide +kernel
theorem dL_law_354 : decode cL_law 354 = .ok (.iload_n 3, 1) := by decide +kernel
theorem dL_law_355 : decode cL_law 355 = .ok (.iconst 1, 1) := by decide +kernel
theorem dL_law_356 : decode cL_law 356 = .ok (.iadd, 1) := by decide +kernel
theorem dL_law_357 : decode cL_law 357 = .ok (.iaload, 1) := by decide +kernel
theorem dL_law_358 : decode cL_law 358 = .ok (.invokevirtual 41, 3) := by decide +kernel
theorem dL_law_361 : decode cL_law 361 = .ok (.pop, 1) := by decide +kernel
theorem dL_law_362 : decode cL_law 362 = .ok (.aload_n 2, 1) := by decide +kernel
theorem dL_law_363 : decode cL_law 363 = .ok (.aload_n 0, 1) := by decide +kernel
theorem dL_law_364 : decode cL_law 364 = .ok (.iload_n 3, 1) := by decide +kernel
theorem dL_law_365 : decode cL_law 365 = .ok (.iconst 1, 1) := by decide +kernel
theorem dL_law_366 : decode cL_law 366 = .ok (.iadd, 1) := by decide +kernel
theorem dL_law_367 : decode cL_law 367 = .ok (.iaload, 1) := by decide +kernel
theorem dL_law_368 : decode cL_law 368 = .ok (.invokevirtual 44, 3) := by decide +kernel
theorem dL_law_371 : decode cL_law 371 = .ok (.pop, 1) := by decide +kernel
theorem dL_law_372 : decode cL_law 372 = .ok (.goto 801, 3) := by decide +kernel
theorem dL_law_375 : decode cL_law 375 = .ok (.aload_n 1, 1) := by decide +kernel
theorem dL_law_376 : decode cL_law 376 = .ok (.aload_n 0, 1) := by decide +kernel
theorem dL_law_377 : decode cL_law 377 = .ok (.iload_n 3, 1) := by decide +kernel
theorem dL_law_378 : decode cL_law 378 = .ok (.iconst 1, 1) := by decide +kernel
theorem dL_law_379 : decode cL_law 379 = .ok (.iadd, 1) := by decide +kernel
theorem dL_law_380 : decode cL_law 380 = .ok (.iaload, 1) := by decide +kernel
theorem dL_law_381 : decode cL_law 381 = .ok (.aload_n 0, 1) := by decide +kernel
theorem dL_law_382 : decode cL_law 382 = .ok (.iload_n 3, 1) := by decide +kernel
theorem dL_law_383 : decode cL_law 383 = .ok (.iconst 2, 1) := by decide +kernel
theorem dL_law_384 : decode cL_law 384 = .ok (.iadd, 1) := by decide +kernel
theorem dL_law_385 : decode cL_law 385 = .ok (.iaload, 1) := by decide +kernel
theorem dL_law_386 : decode cL_law 386 = .ok (.ifCond .eq 7, 3) := by decide +kernel
theorem dL_law_389 : decode cL_law 389 = .ok (.iconst 1, 1) := by decide +kernel
theorem dL_law_390 : decode cL_law 390 = .ok (.goto 4, 3) := by decide +kernel
theorem dL_law_393 : decode cL_law 393 = .ok (.iconst 0, 1) := by decide +kernel
theorem dL_law_394 : decode cL_law 394 = .ok (.invokevirtual 45, 3) := by decide +kernel
theorem dL_law_397 : decode cL_law 397 = .ok (.pop, 1) := by decide +kernel
theorem dL_law_398 : decode cL_law 398 = .ok (.aload_n 2, 1) := by decide +kernel
theorem dL_law_399 : decode cL_law 399 = .ok (.aload_n 0, 1) := by decide +kernel
theorem dL_law_400 : decode cL_law 400 = .ok (.iload_n 3, 1) := by decide +kernel
theorem dL_law_401 : decode cL_law 401 = .ok (.iconst 1, 1) := by decide +kernel
theorem dL_law_402 : decode cL_law 402 = .ok (.iadd, 1) := by decide +kernel
theorem dL_law_403 : decode cL_law 403 = .ok (.iaload, 1) := by decide +kernel
theorem dL_law_404 : decode cL_law 404 = .ok (.aload_n 0, 1) := by decide +kernel
theorem dL_law_405 : decode cL_law 405 = .ok (.iload_n 3, 1) := by decide +kernel
theorem dL_law_406 : decode cL_law 406 = .ok (.iconst 2, 1) := by decide +kernel
theorem dL_law_407 : decode cL_law 407 = .ok (.iadd, 1) := by decide +kernel
theorem dL_law_408 : decode cL_law 408 = .ok (.iaload, 1) := by decide +kernel
theorem dL_law_409 : decode cL_law 409 = .ok (.ifCond .eq 7, 3) := by decide +kernel
theorem dL_law_412 : decode cL_law 412 = .ok (.iconst 1, 1) := by decide +kernel
theorem dL_law_413 : decode cL_law 413 = .ok (.goto 4, 3) := by decide +kernel
theorem dL_law_416 : decode cL_law 416 = .ok (.iconst 0, 1) := by decide +kernel
theorem dL_law_417 : decode cL_law 417 = .ok (.invokevirtual 49, 3) := by decide +kernel
theorem dL_law_420 : decode cL_law 420 = .ok (.pop, 1) := by decide +kernel
theorem dL_law_421 : decode cL_law 421 = .ok (.goto 752, 3) := by decide +kernel
theorem dL_law_424 : decode cL_law 424 = .ok (.aload_n 1, 1) := by decide +kernel
theorem dL_law_425 : decode cL_law 425 = .ok (.aload_n 0, 1) := by decide +kernel
theorem dL_law_426 : decode cL_law 426 = .ok (.iload_n 3, 1) := by decide +kernel
theorem dL_law_427 : decode cL_law 427 = .ok (.iconst 1, 1) := by decide +kernel
theorem dL_law_428 : decode cL_law 428 = .ok (.iadd, 1) := by decide +kernel
theorem dL_law_429 : decode cL_law 429 = .ok (.iaload, 1) := by decide +kernel
theorem dL_law_430 : decode cL_law 430 = .ok (.aload_n 0, 1) := by decide +kernel
theorem dL_law_431 : decode cL_law 431 = .ok (.iload_n 3, 1) := by decide +kernel
theorem dL_law_432 : decode cL_law 432 = .ok (.iconst 2, 1) := by decide +kernel
theorem dL_law_433 : decode cL_law 433 = .ok (.iadd, 1) := by decide +kernel
theorem dL_law_434 : decode cL_law 434 = .ok (.iaload, 1) := by decide +kernel
theorem dL_law_435 : decode cL_law 435 = .ok (.ifCond .eq 7, 3) := by decide +kernel
theorem dL_law_438 : decode cL_law 438 = .ok (.iconst 1, 1) := by decide +kernel
theorem dL_law_439 : decode cL_law 439 = .ok (.goto 4, 3) := by decide +kernel
theorem dL_law_442 : decode cL_law 442 = .ok (.iconst 0, 1) := by decide +kernel
theorem dL_law_443 : decode cL_law 443 = .ok (.invokevirtual 50, 3) := by decide +kernel
theorem dL_law_446 : decode cL_law 446 = .ok (.pop, 1) := by decide +kernel
theorem dL_law_447 : decode cL_law 447 = .ok (.aload_n 2, 1) := by decide +kernel
theorem dL_law_448 : decode cL_law 448 = .ok (.aload_n 0, 1) := by decide +kernel
theorem dL_law_449 : decode cL_law 449 = .ok (.iload_n 3, 1) := by decide +kernel
theorem dL_law_450 : decode cL_law 450 = .ok (.iconst 1, 1) := by decide +kernel
theorem dL_law_451 : decode cL_law 451 = .ok (.iadd, 1) := by decide +kernel
theorem dL_law_452 : decode cL_law 452 = .ok (.iaload, 1) := by decide +kernel
theorem dL_law_453 : decode cL_law 453 = .ok (.aload_n 0, 1) := by decide +kernel
theorem dL_law_454 : decode cL_law 454 = .ok (.iload_n 3, 1) := by decide +kernel
theorem dL_law_455 : decode cL_law 455 = .ok (.iconst 2, 1) := by decide +kernel
theorem dL_law_456 : decode cL_law 456 = .ok (.iadd, 1) := by decide +kernel
theorem dL_law_457 : decode cL_law 457 = .ok (.iaload, 1) := by decide +kernel
theorem dL_law_458 : decode cL_law 458 = .ok (.ifCond .eq 7, 3) := by decide +kernel
theorem dL_law_461 : decode cL_law 461 = .ok (.iconst 1, 1) := by decide +kernel
theorem dL_law_462 : decode cL_law 462 = .ok (.goto 4, 3) := by decide +kernel
theorem dL_law_465 : decode cL_law 465 = .ok (.iconst 0, 1) := by decide +kernel
theorem dL_law_466 : decode cL_law 466 = .ok (.invokevirtual 53, 3) := by decide +kernel
theorem dL_law_469 : decode cL_law 469 = .ok (.pop, 1) := by decide +kernel
theorem dL_law_470 : decode cL_law 470 = .ok (.goto 703, 3) := by decide +kernel
theorem dL_law_473 : decode cL_law 473 = .ok (.aload_n 1, 1) := by decide +kernel
theorem dL_law_474 : decode cL_law 474 = .ok (.aload_n 0, 1) := by decide +kernel
theorem dL_law_475 : decode cL_law 475 = .ok (.iload_n 3, 1) := by decide +kernel
theorem dL_law_476 : decode cL_law 476 = .ok (.iconst 1, 1) := by decide +kernel
theorem dL_law_477 : decode cL_law 477 = .ok (.iadd, 1) := by decide +kernel
theorem dL_law_478 : decode cL_law 478 = .ok (.iaload, 1) := by decide +kernel
theorem dL_law_479 : decode cL_law 479 = .ok (.aload_n 0, 1) := by decide +kernel
theorem dL_law_480 : decode cL_law 480 = .ok (.iload_n 3, 1) := by decide +kernel
theorem dL_law_481 : decode cL_law 481 = .ok (.iconst 2, 1) := by decide +kernel
theorem dL_law_482 : decode cL_law 482 = .ok (.iadd, 1) := by decide +kernel
theorem dL_law_483 : decode cL_law 483 = .ok (.iaload, 1) := by decide +kernel
theorem dL_law_484 : decode cL_law 484 = .ok (.invokevirtual 54, 3) := by decide +kernel
theorem dL_law_487 : decode cL_law 487 = .ok (.pop, 1) := by decide +kernel
theorem dL_law_488 : decode cL_law 488 = .ok (.aload_n 2, 1) := by decide +kernel
theorem dL_law_489 : decode cL_law 489 = .ok (.aload_n 0, 1) := by decide +kernel
theorem dL_law_490 : decode cL_law 490 = .ok (.iload_n 3, 1) := by decide +kernel
theorem dL_law_491 : decode cL_law 491 = .ok (.iconst 1, 1) := by decide +kernel
theorem dL_law_492 : decode cL_law 492 = .ok (.iadd, 1) := by decide +kernel
theorem dL_law_493 : decode cL_law 493 = .ok (.iaload, 1) := by decide +kernel
theorem dL_law_494 : decode cL_law 494 = .ok (.aload_n 0, 1) := by decide +kernel
theorem dL_law_495 : decode cL_law 495 = .ok (.iload_n 3, 1) := by decide +kernel
theorem dL_law_496 : decode cL_law 496 = .ok (.iconst 2, 1) := by decide +kernel
theorem dL_law_497 : decode cL_law 497 = .ok (.iadd, 1) := by decide +kernel
theorem dL_law_498 : decode cL_law 498 = .ok (.iaload, 1) := by decide +kernel
theorem dL_law_499 : decode cL_law 499 = .ok (.invokevirtual 57, 3) := by decide +kernel
theorem dL_law_502 : decode cL_law 502 = .ok (.pop, 1) := by decide +kernel
theorem dL_law_503 : decode cL_law 503 = .ok (.goto 670, 3) := by decide +kernel
theorem dL_law_506 : decode cL_law 506 = .ok (.aload_n 1, 1) := by decide +kernel
theorem dL_law_507 : decode cL_law 507 = .ok (.aload_n 0, 1) := by decide +kernel
theorem dL_law_508 : decode cL_law 508 = .ok (.iload_n 3, 1) := by decide +kernel
theorem dL_law_509 : decode cL_law 509 = .ok (.iconst 1, 1) := by decide +kernel
theorem dL_law_510 : decode cL_law 510 = .ok (.iadd, 1) := by decide +kernel
theorem dL_law_511 : decode cL_law 511 = .ok (.iaload, 1) := by decide +kernel
theorem dL_law_512 : decode cL_law 512 = .ok (.aload_n 0, 1) := by decide +kernel
theorem dL_law_513 : decode cL_law 513 = .ok (.iload_n 3, 1) := by decide +kernel
theorem dL_law_514 : decode cL_law 514 = .ok (.iconst 2, 1) := by decide +kernel
theorem dL_law_515 : decode cL_law 515 = .ok (.iadd, 1) := by decide +kernel
theorem dL_law_516 : decode cL_law 516 = .ok (.iaload, 1) := by decide +kernel
theorem dL_law_517 : decode cL_law 517 = .ok (.invokevirtual 58, 3) := by decide +kernel
theorem dL_law_520 : decode cL_law 520 = .ok (.pop, 1) := by decide +kernel
theorem dL_law_521 : decode cL_law 521 = .ok (.aload_n 2, 1) := by decide +kernel
theorem dL_law_522 : decode cL_law 522 = .ok (.aload_n 0, 1) := by decide +kernel
theorem dL_law_523 : decode cL_law 523 = .ok (.iload_n 3, 1) := by decide +kernel
theorem dL_law_524 : decode cL_law 524 = .ok (.iconst 1, 1) := by decide +kernel
theorem dL_law_525 : decode cL_law 525 = .ok (.iadd, 1) := by decide +kernel
theorem dL_law_526 : decode cL_law 526 = .ok (.iaload, 1) := by decide +kernel
theorem dL_law_527 : decode cL_law 527 = .ok (.aload_n 0, 1) := by decide +kernel
theorem dL_law_528 : decode cL_law 528 = .ok (.iload_n 3, 1) := by decide +kernel
theorem dL_law_529 : decode cL_law 529 = .ok (.iconst 2, 1) := by decide +kernel
theorem dL_law_530 : decode cL_law 530 = .ok (.iadd, 1) := by decide +kernel
theorem dL_law_531 : decode cL_law 531 = .ok (.iaload, 1) := by decide +kernel
theorem dL_law_532 : decode cL_law 532 = .ok (.invokevirtual 61, 3) := by decide +kernel
theorem dL_law_535 : decode cL_law 535 = .ok (.pop, 1) := by decide +kernel
theorem dL_law_536 : decode cL_law 536 = .ok (.goto 637, 3) := by decide +kernel
theorem dL_law_539 : decode cL_law 539 = .ok (.aload_n 1, 1) := by decide +kernel
theorem dL_law_540 : decode cL_law 540 = .ok (.aload_n 0, 1) := by decide +kernel
theorem dL_law_541 : decode cL_law 541 = .ok (.iload_n 3, 1) := by decide +kernel
theorem dL_law_542 : decode cL_law 542 = .ok (.iconst 1, 1) := by decide +kernel
theorem dL_law_543 : decode cL_law 543 = .ok (.iadd, 1) := by decide +kernel
theorem dL_law_544 : decode cL_law 544 = .ok (.iaload, 1) := by decide +kernel
theorem dL_law_545 : decode cL_law 545 = .ok (.invokevirtual 62, 3) := by decide +kernel
theorem dL_law_548 : decode cL_law 548 = .ok (.pop, 1) := by decide +kernel
theorem dL_law_549 : decode cL_law 549 = .ok (.aload_n 2, 1) := by decide +kernel
theorem dL_law_550 : decode cL_law 550 = .ok (.aload_n 0, 1) := by decide +kernel
theorem dL_law_551 : decode cL_law 551 = .ok (.iload_n 3, 1) := by decide +kernel
theorem dL_law_552 : decode cL_law 552 = .ok (.iconst 1, 1) := by decide +kernel
theorem dL_law_553 : decode cL_law 553 = .ok (.iadd, 1) := by decide +kernel
theorem dL_law_554 : decode cL_law 554 = .ok (.iaload, 1) := by decide +kernel
theorem dL_law_555 : decode cL_law 555 = .ok (.invokevirtual 65, 3) := by decide +kernel
theorem dL_law_558 : decode cL_law 558 = .ok (.pop, 1) := by decide +kernel
theorem dL_law_559 : decode cL_law 559 = .ok (.goto 614, 3) := by decide +kernel
theorem dL_law_562 : decode cL_law 562 = .ok (.aload_n 1, 1) := by decide +kernel
theorem dL_law_563 : decode cL_law 563 = .ok (.aload_n 0, 1) := by decide +kernel
theorem dL_law_564 : decode cL_law 564 = .ok (.iload_n 3, 1) := by decide +kernel
theorem dL_law_565 : decode cL_law 565 = .ok (.iconst 1, 1) := by decide +kernel
theorem dL_law_566 : decode cL_law 566 = .ok (.iadd, 1) := by decide +kernel
theorem dL_law_567 : decode cL_law 567 = .ok (.iaload, 1) := by decide +kernel
theorem dL_law_568 : decode cL_law 568 = .ok (.aload_n 0, 1) := by decide +kernel
theorem dL_law_569 : decode cL_law 569 = .ok (.iload_n 3, 1) := by decide +kernel
theorem dL_law_570 : decode cL_law 570 = .ok (.iconst 2, 1) := by decide +kernel
theorem dL_law_571 : decode cL_law 571 = .ok (.iadd, 1) := by decide +kernel
theorem dL_law_572 : decode cL_law 572 = .ok (.iaload, 1) := by decide +kernel
theorem dL_law_573 : decode cL_law 573 = .ok (.aload_n 0, 1) := by decide +kernel
theorem dL_law_574 : decode cL_law 574 = .ok (.iload_n 3, 1) := by decide +kernel
theorem dL_law_575 : decode cL_law 575 = .ok (.iconst 3, 1) := by decide +kernel
theorem dL_law_576 : decode cL_law 576 = .ok (.iadd, 1) := by decide +kernel
theorem dL_law_577 : decode cL_law 577 = .ok (.iaload, 1) := by decide +kernel
theorem dL_law_578 : decode cL_law 578 = .ok (.aload_n 0, 1) := by decide +kernel
theorem dL_law_579 : decode cL_law 579 = .ok (.iload_n 3, 1) := by decide +kernel
theorem dL_law_580 : decode cL_law 580 = .ok (.iconst 4, 1) := by decide +kernel
theorem dL_law_581 : decode cL_law 581 = .ok (.iadd, 1) := by decide +kernel
theorem dL_law_582 : decode cL_law 582 = .ok (.iaload, 1) := by decide +kernel
theorem dL_law_583 : decode cL_law 583 = .ok (.aload_n 0, 1) := by decide +kernel
theorem dL_law_584 : decode cL_law 584 = .ok (.iload_n 3, 1) := by decide +kernel
theorem dL_law_585 : decode cL_law 585 = .ok (.iconst 5, 1) := by decide +kernel
theorem dL_law_586 : decode cL_law 586 = .ok (.iadd, 1) := by decide +kernel
theorem dL_law_587 : decode cL_law 587 = .ok (.iaload, 1) := by decide +kernel
theorem dL_law_588 : decode cL_law 588 = .ok (.invokevirtual 66, 3) := by decide +kernel
theorem dL_law_591 : decode cL_law 591 = .ok (.pop, 1) := by decide +kernel
theorem dL_law_592 : decode cL_law 592 = .ok (.aload_n 2, 1) := by decide +kernel
theorem dL_law_593 : decode cL_law 593 = .ok (.aload_n 0, 1) := by decide +kernel
theorem dL_law_594 : decode cL_law 594 = .ok (.iload_n 3, 1) := by decide +kernel
theorem dL_law_595 : decode cL_law 595 = .ok (.iconst 1, 1) := by decide +kernel
theorem dL_law_596 : decode cL_law 596 = .ok (.iadd, 1) := by decide +kernel
theorem dL_law_597 : decode cL_law 597 = .ok (.iaload, 1) := by decide +kernel
theorem dL_law_598 : decode cL_law 598 = .ok (.aload_n 0, 1) := by decide +kernel
theorem dL_law_599 : decode cL_law 599 = .ok (.iload_n 3, 1) := by decide +kernel
theorem dL_law_600 : decode cL_law 600 = .ok (.iconst 2, 1) := by decide +kernel
theorem dL_law_601 : decode cL_law 601 = .ok (.iadd, 1) := by decide +kernel
theorem dL_law_602 : decode cL_law 602 = .ok (.iaload, 1) := by decide +kernel
theorem dL_law_603 : decode cL_law 603 = .ok (.aload_n 0, 1) := by decide +kernel
theorem dL_law_604 : decode cL_law 604 = .ok (.iload_n 3, 1) := by decide +kernel
theorem dL_law_605 : decode cL_law 605 = .ok (.iconst 3, 1) := by decide +kernel
theorem dL_law_606 : decode cL_law 606 = .ok (.iadd, 1) := by decide +kernel
theorem dL_law_607 : decode cL_law 607 = .ok (.iaload, 1) := by decide +kernel
theorem dL_law_608 : decode cL_law 608 = .ok (.aload_n 0, 1) := by decide +kernel
theorem dL_law_609 : decode cL_law 609 = .ok (.iload_n 3, 1) := by decide +kernel
theorem dL_law_610 : decode cL_law 610 = .ok (.iconst 4, 1) := by decide +kernel
theorem dL_law_611 : decode cL_law 611 = .ok (.iadd, 1) := by decide +kernel
theorem dL_law_612 : decode cL_law 612 = .ok (.iaload, 1) := by decide +kernel
theorem dL_law_613 : decode cL_law 613 = .ok (.aload_n 0, 1) := by decide +kernel
theorem dL_law_614 : decode cL_law 614 = .ok (.iload_n 3, 1) := by decide +kernel
theorem dL_law_615 : decode cL_law 615 = .ok (.iconst 5, 1) := by decide +kernel
theorem dL_law_616 : decode cL_law 616 = .ok (.iadd, 1) := by decide +kernel
theorem dL_law_617 : decode cL_law 617 = .ok (.iaload, 1) := by decide +kernel
theorem dL_law_618 : decode cL_law 618 = .ok (.invokevirtual 69, 3) := by decide +kernel
theorem dL_law_621 : decode cL_law 621 = .ok (.pop, 1) := by decide +kernel
theorem dL_law_622 : decode cL_law 622 = .ok (.goto 551, 3) := by decide +kernel
theorem dL_law_625 : decode cL_law 625 = .ok (.aload_n 1, 1) := by decide +kernel
theorem dL_law_626 : decode cL_law 626 = .ok (.aload_n 0, 1) := by decide +kernel
theorem dL_law_627 : decode cL_law 627 = .ok (.iload_n 3, 1) := by decide +kernel
theorem dL_law_628 : decode cL_law 628 = .ok (.iconst 1, 1) := by decide +kernel
theorem dL_law_629 : decode cL_law 629 = .ok (.iadd, 1) := by decide +kernel
theorem dL_law_630 : decode cL_law 630 = .ok (.iaload, 1) := by decide +kernel
theorem dL_law_631 : decode cL_law 631 = .ok (.aload_n 0, 1) := by decide +kernel
theorem dL_law_632 : decode cL_law 632 = .ok (.iload_n 3, 1) := by decide +kernel
theorem dL_law_633 : decode cL_law 633 = .ok (.iconst 2, 1) := by decide +kernel
theorem dL_law_634 : decode cL_law 634 = .ok (.iadd, 1) := by decide +kernel
theorem dL_law_635 : decode cL_law 635 = .ok (.iaload, 1) := by decide +kernel
theorem dL_law_636 : decode cL_law 636 = .ok (.invokevirtual 70, 3) := by decide +kernel
theorem dL_law_639 : decode cL_law 639 = .ok (.pop, 1) := by decide +kernel
theorem dL_law_640 : decode cL_law 640 = .ok (.aload_n 2, 1) := by decide +kernel
theorem dL_law_641 : decode cL_law 641 = .ok (.aload_n 0, 1) := by decide +kernel
theorem dL_law_642 : decode cL_law 642 = .ok (.iload_n 3, 1) := by decide +kernel
theorem dL_law_643 : decode cL_law 643 = .ok (.iconst 1, 1) := by decide +kernel
theorem dL_law_644 : decode cL_law 644 = .ok (.iadd, 1) := by decide +kernel
theorem dL_law_645 : decode cL_law 645 = .ok (.iaload, 1) := by decide +kernel
theorem dL_law_646 : decode cL_law 646 = .ok (.aload_n 0, 1) := by decide +kernel
theorem dL_law_647 : decode cL_law 647 = .ok (.iload_n 3, 1) := by decide +kernel
theorem dL_law_648 : decode cL_law 648 = .ok (.iconst 2, 1) := by decide +kernel
theorem dL_law_649 : decode cL_law 649 = .ok (.iadd, 1) := by decide +kernel
theorem dL_law_650 : decode cL_law 650 = .ok (.iaload, 1) := by decide +kernel
theorem dL_law_651 : decode cL_law 651 = .ok (.invokevirtual 73, 3) := by decide +kernel
theorem dL_law_654 : decode cL_law 654 = .ok (.pop, 1) := by decide +kernel
theorem dL_law_655 : decode cL_law 655 = .ok (.goto 518, 3) := by decide +kernel
theorem dL_law_658 : decode cL_law 658 = .ok (.aload_n 1, 1) := by decide +kernel
theorem dL_law_659 : decode cL_law 659 = .ok (.aload_n 0, 1) := by decide +kernel
theorem dL_law_660 : decode cL_law 660 = .ok (.iload_n 3, 1) := by decide +kernel
theorem dL_law_661 : decode cL_law 661 = .ok (.iconst 1, 1) := by decide +kernel
theorem dL_law_662 : decode cL_law 662 = .ok (.iadd, 1) := by decide +kernel
theorem dL_law_663 : decode cL_law 663 = .ok (.iaload, 1) := by decide +kernel
theorem dL_law_664 : decode cL_law 664 = .ok (.aload_n 0, 1) := by decide +kernel
theorem dL_law_665 : decode cL_law 665 = .ok (.iload_n 3, 1) := by decide +kernel
theorem dL_law_666 : decode cL_law 666 = .ok (.iconst 2, 1) := by decide +kernel
theorem dL_law_667 : decode cL_law 667 = .ok (.iadd, 1) := by decide +kernel
theorem dL_law_668 : decode cL_law 668 = .ok (.iaload, 1) := by decide +kernel
theorem dL_law_669 : decode cL_law 669 = .ok (.aload_n 0, 1) := by decide +kernel
theorem dL_law_670 : decode cL_law 670 = .ok (.iload_n 3, 1) := by decide +kernel
theorem dL_law_671 : decode cL_law 671 = .ok (.iconst 3, 1) := by decide +kernel
theorem dL_law_672 : decode cL_law 672 = .ok (.iadd, 1) := by decide +kernel
theorem dL_law_673 : decode cL_law 673 = .ok (.iaload, 1) := by decide +kernel
theorem dL_law_674 : decode cL_law 674 = .ok (.aload_n 0, 1) := by decide +kernel
theorem dL_law_675 : decode cL_law 675 = .ok (.iload_n 3, 1) := by decide +kernel
theorem dL_law_676 : decode cL_law 676 = .ok (.iconst 4, 1) := by decide +kernel
theorem dL_law_677 : decode cL_law 677 = .ok (.iadd, 1) := by decide +kernel
theorem dL_law_678 : decode cL_law 678 = .ok (.iaload, 1) := by decide +kernel
theorem dL_law_679 : decode cL_law 679 = .ok (.invokevirtual 74, 3) := by decide +kernel
theorem dL_law_682 : decode cL_law 682 = .ok (.pop, 1) := by decide +kernel
theorem dL_law_683 : decode cL_law 683 = .ok (.aload_n 2, 1) := by decide +kernel
theorem dL_law_684 : decode cL_law 684 = .ok (.aload_n 0, 1) := by decide +kernel
theorem dL_law_685 : decode cL_law 685 = .ok (.iload_n 3, 1) := by decide +kernel
theorem dL_law_686 : decode cL_law 686 = .ok (.iconst 1, 1) := by decide +kernel
theorem dL_law_687 : decode cL_law 687 = .ok (.iadd, 1) := by decide +kernel
theorem dL_law_688 : decode cL_law 688 = .ok (.iaload, 1) := by decide +kernel
theorem dL_law_689 : decode cL_law 689 = .ok (.aload_n 0, 1) := by decide +kernel
theorem dL_law_690 : decode cL_law 690 = .ok (.iload_n 3, 1) := by decide +kernel
theorem dL_law_691 : decode cL_law 691 = .ok (.iconst 2, 1) := by decide +kernel
theorem dL_law_692 : decode cL_law 692 = .ok (.iadd, 1) := by decide +kernel
theorem dL_law_693 : decode cL_law 693 = .ok (.iaload, 1) := by decide +kernel
theorem dL_law_694 : decode cL_law 694 = .ok (.aload_n 0, 1) := by decide +kernel
theorem dL_law_695 : decode cL_law 695 = .ok (.iload_n 3, 1) := by decide +kernel
theorem dL_law_696 : decode cL_law 696 = .ok (.iconst 3, 1) := by decide +kernel
theorem dL_law_697 : decode cL_law 697 = .ok (.iadd, 1) := by decide +kernel
theorem dL_law_698 : decode cL_law 698 = .ok (.iaload, 1) := by decide +kernel
theorem dL_law_699 : decode cL_law 699 = .ok (.aload_n 0, 1) := by decide +kernel
theorem dL_law_700 : decode cL_law 700 = .ok (.iload_n 3, 1) := by decide +kernel
theorem dL_law_701 : decode cL_law 701 = .ok (.iconst 4, 1) := by decide +kernel
theorem dL_law_702 : decode cL_law 702 = .ok (.iadd, 1) := by decide +kernel
theorem dL_law_703 : decode cL_law 703 = .ok (.iaload, 1) := by decide +kernel
theorem dL_law_704 : decode cL_law 704 = .ok (.invokevirtual 78, 3) := by decide +kernel
theorem dL_law_707 : decode cL_law 707 = .ok (.pop, 1) := by decide +kernel
theorem dL_law_708 : decode cL_law 708 = .ok (.goto 465, 3) := by decide +kernel
theorem dL_law_711 : decode cL_law 711 = .ok (.aload_n 1, 1) := by decide +kernel
theorem dL_law_712 : decode cL_law 712 = .ok (.aload_n 0, 1) := by decide +kernel
theorem dL_law_713 : decode cL_law 713 = .ok (.iload_n 3, 1) := by decide +kernel
theorem dL_law_714 : decode cL_law 714 = .ok (.iconst 1, 1) := by decide +kernel
theorem dL_law_715 : decode cL_law 715 = .ok (.iadd, 1) := by decide +kernel
theorem dL_law_716 : decode cL_law 716 = .ok (.iaload, 1) := by decide +kernel
theorem dL_law_717 : decode cL_law 717 = .ok (.invokevirtual 79, 3) := by decide +kernel
theorem dL_law_720 : decode cL_law 720 = .ok (.pop, 1) := by decide +kernel
theorem dL_law_721 : decode cL_law 721 = .ok (.aload_n 2, 1) := by decide +kernel
theorem dL_law_722 : decode cL_law 722 = .ok (.aload_n 0, 1) := by decide +kernel
theorem dL_law_723 : decode cL_law 723 = .ok (.iload_n 3, 1) := by decide +kernel
theorem dL_law_724 : decode cL_law 724 = .ok (.iconst 1, 1) := by decide +kernel
theorem dL_law_725 : decode cL_law 725 = .ok (.iadd, 1) := by decide +kernel
theorem dL_law_726 : decode cL_law 726 = .ok (.iaload, 1) := by decide +kernel
theorem dL_law_727 : decode cL_law 727 = .ok (.invokevirtual 83, 3) := by decide +kernel
theorem dL_law_730 : decode cL_law 730 = .ok (.pop, 1) := by decide +kernel
theorem dL_law_731 : decode cL_law 731 = .ok (.goto 442, 3) := by decide +kernel
theorem dL_law_734 : decode cL_law 734 = .ok (.aload_n 1, 1) := by decide +kernel
theorem dL_law_735 : decode cL_law 735 = .ok (.aload_n 0, 1) := by decide +kernel
theorem dL_law_736 : decode cL_law 736 = .ok (.iload_n 3, 1) := by decide +kernel
theorem dL_law_737 : decode cL_law 737 = .ok (.iconst 1, 1) := by decide +kernel
theorem dL_law_738 : decode cL_law 738 = .ok (.iadd, 1) := by decide +kernel
theorem dL_law_739 : decode cL_law 739 = .ok (.iaload, 1) := by decide +kernel
theorem dL_law_740 : decode cL_law 740 = .ok (.invokevirtual 84, 3) := by decide +kernel
theorem dL_law_743 : decode cL_law 743 = .ok (.pop, 1) := by decide +kernel
theorem dL_law_744 : decode cL_law 744 = .ok (.aload_n 2, 1) := by decide +kernel
theorem dL_law_745 : decode cL_law 745 = .ok (.aload_n 0, 1) := by decide +kernel
theorem dL_law_746 : decode cL_law 746 = .ok (.iload_n 3, 1) := by decide +kernel
theorem dL_law_747 : decode cL_law 747 = .ok (.iconst 1, 1) := by decide +kernel
theorem dL_law_748 : decode cL_law 748 = .ok (.iadd, 1) := by decide +kernel
theorem dL_law_749 : decode cL_law 749 = .ok (.iaload, 1) := by decide +kernel
theorem dL_law_750 : decode cL_law 750 = .ok (.invokevirtual 87, 3) := by decide +kernel
theorem dL_law_753 : decode cL_law 753 = .ok (.pop, 1) := by decide +kernel
theorem dL_law_754 : decode cL_law 754 = .ok (.goto 419, 3) := by decide +kernel
theorem dL_law_757 : decode cL_law 757 = .ok (.aload_n 1, 1) := by decide +kernel
theorem dL_law_758 : decode cL_law 758 = .ok (.aload_n 0, 1) := by decide +kernel
theorem dL_law_759 : decode cL_law 759 = .ok (.iload_n 3, 1) := by decide +kernel
theorem dL_law_760 : decode cL_law 760 = .ok (.iconst 1, 1) := by decide +kernel
theorem dL_law_761 : decode cL_law 761 = .ok (.iadd, 1) := by decide +kernel
theorem dL_law_762 : decode cL_law 762 = .ok (.iaload, 1) := by decide +kernel
theorem dL_law_763 : decode cL_law 763 = .ok (.aload_n 0, 1) := by decide +kernel
theorem dL_law_764 : decode cL_law 764 = .ok (.iload_n 3, 1) := by decide +kernel
theorem dL_law_765 : decode cL_law 765 = .ok (.iconst 2, 1) := by decide +kernel
theorem dL_law_766 : decode cL_law 766 = .ok (.iadd, 1) := by decide +kernel
theorem dL_law_767 : decode cL_law 767 = .ok (.iaload, 1) := by decide +kernel
theorem dL_law_768 : decode cL_law 768 = .ok (.aload_n 0, 1) := by decide +kernel
theorem dL_law_769 : decode cL_law 769 = .ok (.iload_n 3, 1) := by decide +kernel
theorem dL_law_770 : decode cL_law 770 = .ok (.iconst 3, 1) := by decide +kernel
theorem dL_law_771 : decode cL_law 771 = .ok (.iadd, 1) := by decide +kernel
theorem dL_law_772 : decode cL_law 772 = .ok (.iaload, 1) := by decide +kernel
theorem dL_law_773 : decode cL_law 773 = .ok (.aload_n 0, 1) := by decide +kernel
theorem dL_law_774 : decode cL_law 774 = .ok (.iload_n 3, 1) := by decide +kernel
theorem dL_law_775 : decode cL_law 775 = .ok (.iconst 4, 1) := by decide +kernel
theorem dL_law_776 : decode cL_law 776 = .ok (.iadd, 1) := by decide +kernel
theorem dL_law_777 : decode cL_law 777 = .ok (.iaload, 1) := by decide +kernel
theorem dL_law_778 : decode cL_law 778 = .ok (.invokevirtual 88, 3) := by decide +kernel
theorem dL_law_781 : decode cL_law 781 = .ok (.pop, 1) := by decide +kernel
theorem dL_law_782 : decode cL_law 782 = .ok (.aload_n 2, 1) := by decide +kernel
theorem dL_law_783 : decode cL_law 783 = .ok (.aload_n 0, 1) := by decide +kernel
theorem dL_law_784 : decode cL_law 784 = .ok (.iload_n 3, 1) := by decide +kernel
theorem dL_law_785 : decode cL_law 785 = .ok (.iconst 1, 1) := by decide +kernel
theorem dL_law_786 : decode cL_law 786 = .ok (.iadd, 1) := by decide +kernel
theorem dL_law_787 : decode cL_law 787 = .ok (.iaload, 1) := by decide +kernel
theorem dL_law_788 : decode cL_law 788 = .ok (.aload_n 0, 1) := by decide +kernel
theorem dL_law_789 : decode cL_law 789 = .ok (.iload_n 3, 1) := by decide +kernel
theorem dL_law_790 : decode cL_law 790 = .ok (.iconst 2, 1) := by decide +kernel
theorem dL_law_791 : decode cL_law 791 = .ok (.iadd, 1) := by decide +kernel
theorem dL_law_792 : decode cL_law 792 = .ok (.iaload, 1) := by decide +kernel
theorem dL_law_793 : decode cL_law 793 = .ok (.aload_n 0, 1) := by decide +kernel
theorem dL_law_794 : decode cL_law 794 = .ok (.iload_n 3, 1) := by decide +kernel
theorem dL_law_795 : decode cL_law 795 = .ok (.iconst 3, 1) := by decide +kernel
theorem dL_law_796 : decode cL_law 796 = .ok (.iadd, 1) := by decide +kernel
theorem dL_law_797 : decode cL_law 797 = .ok (.iaload, 1) := by decide +kernel
theorem dL_law_798 : decode cL_law 798 = .ok (.aload_n 0, 1) := by decide +kernel
theorem dL_law_799 : decode cL_law 799 = .ok (.iload_n 3, 1) := by decide +kernel
theorem dL_law_800 : decode cL_law 800 = .ok (.iconst 4, 1) := by decide +kernel
theorem dL_law_801 : decode cL_law 801 = .ok (.iadd, 1) := by decide +kernel
theorem dL_law_802 : decode cL_law 802 = .ok (.iaload, 1) := by decide +kernel
theorem dL_law_803 : decode cL_law 803 = .ok (.invokevirtual 91, 3) := by decide +kernel
theorem dL_law_806 : decode cL_law 806 = .ok (.pop, 1) := by decide +kernel
theorem dL_law_807 : decode cL_law 807 = .ok (.goto 366, 3) := by decide +kernel
theorem dL_law_810 : decode cL_law 810 = .ok (.aload_n 1, 1) := by decide +kernel
theorem dL_law_811 : decode cL_law 811 = .ok (.aload_n 0, 1) := by decide +kernel
theorem dL_law_812 : decode cL_law 812 = .ok (.iload_n 3, 1) := by decide +kernel
theorem dL_law_813 : decode cL_law 813 = .ok (.iconst 1, 1) := by decide +kernel
theorem dL_law_814 : decode cL_law 814 = .ok (.iadd, 1) := by decide +kernel
theorem dL_law_815 : decode cL_law 815 = .ok (.iaload, 1) := by decide +kernel
theorem dL_law_816 : decode cL_law 816 = .ok (.aload_n 0, 1) := by decide +kernel
theorem dL_law_817 : decode cL_law 817 = .ok (.iload_n 3, 1) := by decide +kernel
theorem dL_law_818 : decode cL_law 818 = .ok (.iconst 2, 1) := by decide +kernel
theorem dL_law_819 : decode cL_law 819 = .ok (.iadd, 1) := by decide +kernel
theorem dL_law_820 : decode cL_law 820 = .ok (.iaload, 1) := by decide +kernel
theorem dL_law_821 : decode cL_law 821 = .ok (.aload_n 0, 1) := by decide +kernel
theorem dL_law_822 : decode cL_law 822 = .ok (.iload_n 3, 1) := by decide +kernel
theorem dL_law_823 : decode cL_law 823 = .ok (.iconst 3, 1) := by decide +kernel
theorem dL_law_824 : decode cL_law 824 = .ok (.iadd, 1) := by decide +kernel
theorem dL_law_825 : decode cL_law 825 = .ok (.iaload, 1) := by decide +kernel
theorem dL_law_826 : decode cL_law 826 = .ok (.aload_n 0, 1) := by decide +kernel
theorem dL_law_827 : decode cL_law 827 = .ok (.iload_n 3, 1) := by decide +kernel
theorem dL_law_828 : decode cL_law 828 = .ok (.iconst 4, 1) := by decide +kernel
theorem dL_law_829 : decode cL_law 829 = .ok (.iadd, 1) := by decide +kernel
theorem dL_law_830 : decode cL_law 830 = .ok (.iaload, 1) := by decide +kernel
theorem dL_law_831 : decode cL_law 831 = .ok (.aload_n 0, 1) := by decide +kernel
theorem dL_law_832 : decode cL_law 832 = .ok (.iload_n 3, 1) := by decide +kernel
theorem dL_law_833 : decode cL_law 833 = .ok (.iconst 5, 1) := by decide +kernel
theorem dL_law_834 : decode cL_law 834 = .ok (.iadd, 1) := by decide +kernel
theorem dL_law_835 : decode cL_law 835 = .ok (.iaload, 1) := by decide +kernel
theorem dL_law_836 : decode cL_law 836 = .ok (.invokevirtual 92, 3) := by decide +kernel
theorem dL_law_839 : decode cL_law 839 = .ok (.pop, 1) := by decide +kernel
theorem dL_law_840 : decode cL_law 840 = .ok (.aload_n 2, 1) := by decide +kernel
theorem dL_law_841 : decode cL_law 841 = .ok (.aload_n 0, 1) := by decide +kernel
theorem dL_law_842 : decode cL_law 842 = .ok (.iload_n 3, 1) := by decide +kernel
theorem dL_law_843 : decode cL_law 843 = .ok (.iconst 1, 1) := by decide +kernel
theorem dL_law_844 : decode cL_law 844 = .ok (.iadd, 1) := by decide +kernel
theorem dL_law_845 : decode cL_law 845 = .ok (.iaload, 1) := by decide +kernel
theorem dL_law_846 : decode cL_law 846 = .ok (.aload_n 0, 1) := by decide +kernel
theorem dL_law_847 : decode cL_law 847 = .ok (.iload_n 3, 1) := by decide +kernel
theorem dL_law_848 : decode cL_law 848 = .ok (.iconst 2, 1) := by decide +kernel
theorem dL_law_849 : decode cL_law 849 = .ok (.iadd, 1) := by decide +kernel
theorem dL_law_850 : decode cL_law 850 = .ok (.iaload, 1) := by decide +kernel
theorem dL_law_851 : decode cL_law 851 = .ok (.aload_n 0, 1) := by decide +kernel
theorem dL_law_852 : decode cL_law 852 = .ok (.iload_n 3, 1) := by decide +kernel
theorem dL_law_853 : decode cL_law 853 = .ok (.iconst 3, 1) := by decide +kernel
theorem dL_law_854 : decode cL_law 854 = .ok (.iadd, 1) := by decide +kernel
theorem dL_law_855 : decode cL_law 855 = .ok (.iaload, 1) := by decide +kernel
theorem dL_law_856 : decode cL_law 856 = .ok (.aload_n 0, 1) := by decide +kernel
theorem dL_law_857 : decode cL_law 857 = .ok (.iload_n 3, 1) := by decide +kernel
theorem dL_law_858 : decode cL_law 858 = .ok (.iconst 4, 1) := by decide +kernel
theorem dL_law_859 : decode cL_law 859 = .ok (.iadd, 1) := by decide +kernel
theorem dL_law_860 : decode cL_law 860 = .ok (.iaload, 1) := by decide +kernel
theorem dL_law_861 : decode cL_law 861 = .ok (.aload_n 0, 1) := by decide +kernel
theorem dL_law_862 : decode cL_law 862 = .ok (.iload_n 3, 1) := by decide +kernel
theorem dL_law_863 : decode cL_law 863 = .ok (.iconst 5, 1) := by decide +kernel
theorem dL_law_864 : decode cL_law 864 = .ok (.iadd, 1) := by decide +kernel
theorem dL_law_865 : decode cL_law 865 = .ok (.iaload, 1) := by decide +kernel
theorem dL_law_866 : decode cL_law 866 = .ok (.invokevirtual 96, 3) := by decide +kernel
theorem dL_law_869 : decode cL_law 869 = .ok (.pop, 1) := by decide +kernel
theorem dL_law_870 : decode cL_law 870 = .ok (.goto 303, 3) := by decide +kernel
theorem dL_law_873 : decode cL_law 873 = .ok (.aload_n 1, 1) := by decide +kernel
theorem dL_law_874 : decode cL_law 874 = .ok (.aload_n 0, 1) := by decide +kernel
theorem dL_law_875 : decode cL_law 875 = .ok (.iload_n 3, 1) := by decide +kernel
theorem dL_law_876 : decode cL_law 876 = .ok (.iconst 1, 1) := by decide +kernel
theorem dL_law_877 : decode cL_law 877 = .ok (.iadd, 1) := by decide +kernel
theorem dL_law_878 : decode cL_law 878 = .ok (.iaload, 1) := by decide +kernel
theorem dL_law_879 : decode cL_law 879 = .ok (.aload_n 0, 1) := by decide +kernel
theorem dL_law_880 : decode cL_law 880 = .ok (.iload_n 3, 1) := by decide +kernel
theorem dL_law_881 : decode cL_law 881 = .ok (.iconst 2, 1) := by decide +kernel
theorem dL_law_882 : decode cL_law 882 = .ok (.iadd, 1) := by decide +kernel
theorem dL_law_883 : decode cL_law 883 = .ok (.iaload, 1) := by decide +kernel
theorem dL_law_884 : decode cL_law 884 = .ok (.aload_n 0, 1) := by decide +kernel
theorem dL_law_885 : decode cL_law 885 = .ok (.iload_n 3, 1) := by decide +kernel
theorem dL_law_886 : decode cL_law 886 = .ok (.iconst 3, 1) := by decide +kernel
theorem dL_law_887 : decode cL_law 887 = .ok (.iadd, 1) := by decide +kernel
theorem dL_law_888 : decode cL_law 888 = .ok (.iaload, 1) := by decide +kernel
theorem dL_law_889 : decode cL_law 889 = .ok (.invokevirtual 97, 3) := by decide +kernel
theorem dL_law_892 : decode cL_law 892 = .ok (.pop, 1) := by decide +kernel
theorem dL_law_893 : decode cL_law 893 = .ok (.aload_n 2, 1) := by decide +kernel
theorem dL_law_894 : decode cL_law 894 = .ok (.aload_n 0, 1) := by decide +kernel
theorem dL_law_895 : decode cL_law 895 = .ok (.iload_n 3, 1) := by decide +kernel
theorem dL_law_896 : decode cL_law 896 = .ok (.iconst 1, 1) := by decide +kernel
theorem dL_law_897 : decode cL_law 897 = .ok (.iadd, 1) := by decide +kernel
theorem dL_law_898 : decode cL_law 898 = .ok (.iaload, 1) := by decide +kernel
theorem dL_law_899 : decode cL_law 899 = .ok (.aload_n 0, 1) := by decide +kernel
theorem dL_law_900 : decode cL_law 900 = .ok (.iload_n 3, 1) := by decide +kernel
theorem dL_law_901 : decode cL_law 901 = .ok (.iconst 2, 1) := by decide +kernel
theorem dL_law_902 : decode cL_law 902 = .ok (.iadd, 1) := by decide +kernel
theorem dL_law_903 : decode cL_law 903 = .ok (.iaload, 1) := by decide +kernel
theorem dL_law_904 : decode cL_law 904 = .ok (.aload_n 0, 1) := by decide +kernel
theorem dL_law_905 : decode cL_law 905 = .ok (.iload_n 3, 1) := by decide +kernel
theorem dL_law_906 : decode cL_law 906 = .ok (.iconst 3, 1) := by decide +kernel
theorem dL_law_907 : decode cL_law 907 = .ok (.iadd, 1) := by decide +kernel
theorem dL_law_908 : decode cL_law 908 = .ok (.iaload, 1) := by decide +kernel
theorem dL_law_909 : decode cL_law 909 = .ok (.invokevirtual 101, 3) := by decide +kernel
theorem dL_law_912 : decode cL_law 912 = .ok (.pop, 1) := by decide +kernel
theorem dL_law_913 : decode cL_law 913 = .ok (.goto 260, 3) := by decide +kernel
theorem dL_law_916 : decode cL_law 916 = .ok (.aload_n 1, 1) := by decide +kernel
theorem dL_law_917 : decode cL_law 917 = .ok (.aload_n 0, 1) := by decide +kernel
theorem dL_law_918 : decode cL_law 918 = .ok (.iload_n 3, 1) := by decide +kernel
theorem dL_law_919 : decode cL_law 919 = .ok (.iconst 1, 1) := by decide +kernel
theorem dL_law_920 : decode cL_law 920 = .ok (.iadd, 1) := by decide +kernel
theorem dL_law_921 : decode cL_law 921 = .ok (.iaload, 1) := by decide +kernel
theorem dL_law_922 : decode cL_law 922 = .ok (.aload_n 0, 1) := by decide +kernel
theorem dL_law_923 : decode cL_law 923 = .ok (.iload_n 3, 1) := by decide +kernel
theorem dL_law_924 : decode cL_law 924 = .ok (.iconst 2, 1) := by decide +kernel
theorem dL_law_925 : decode cL_law 925 = .ok (.iadd, 1) := by decide +kernel
theorem dL_law_926 : decode cL_law 926 = .ok (.iaload, 1) := by decide +kernel
theorem dL_law_927 : decode cL_law 927 = .ok (.aload_n 0, 1) := by decide +kernel
theorem dL_law_928 : decode cL_law 928 = .ok (.iload_n 3, 1) := by decide +kernel
theorem dL_law_929 : decode cL_law 929 = .ok (.iconst 3, 1) := by decide +kernel
theorem dL_law_930 : decode cL_law 930 = .ok (.iadd, 1) := by decide +kernel
theorem dL_law_931 : decode cL_law 931 = .ok (.iaload, 1) := by decide +kernel
theorem dL_law_932 : decode cL_law 932 = .ok (.aload_n 0, 1) := by decide +kernel
theorem dL_law_933 : decode cL_law 933 = .ok (.iload_n 3, 1) := by decide +kernel
theorem dL_law_934 : decode cL_law 934 = .ok (.iconst 4, 1) := by decide +kernel
theorem dL_law_935 : decode cL_law 935 = .ok (.iadd, 1) := by decide +kernel
theorem dL_law_936 : decode cL_law 936 = .ok (.iaload, 1) := by decide +kernel
theorem dL_law_937 : decode cL_law 937 = .ok (.aload_n 0, 1) := by decide +kernel
theorem dL_law_938 : decode cL_law 938 = .ok (.iload_n 3, 1) := by decide +kernel
theorem dL_law_939 : decode cL_law 939 = .ok (.iconst 5, 1) := by decide +kernel
theorem dL_law_940 : decode cL_law 940 = .ok (.iadd, 1) := by decide +kernel
theorem dL_law_941 : decode cL_law 941 = .ok (.iaload, 1) := by decide +kernel
theorem dL_law_942 : decode cL_law 942 = .ok (.invokevirtual 102, 3) := by decide +kernel
theorem dL_law_945 : decode cL_law 945 = .ok (.pop, 1) := by decide +kernel
theorem dL_law_946 : decode cL_law 946 = .ok (.aload_n 2, 1) := by decide +kernel
theorem dL_law_947 : decode cL_law 947 = .ok (.aload_n 0, 1) := by decide +kernel
theorem dL_law_948 : decode cL_law 948 = .ok (.iload_n 3, 1) := by decide +kernel
theorem dL_law_949 : decode cL_law 949 = .ok (.iconst 1, 1) := by decide +kernel
theorem dL_law_950 : decode cL_law 950 = .ok (.iadd, 1) := by decide +kernel
theorem dL_law_951 : decode cL_law 951 = .ok (.iaload, 1) := by decide +kernel
theorem dL_law_952 : decode cL_law 952 = .ok (.aload_n 0, 1) := by decide +kernel
theorem dL_law_953 : decode cL_law 953 = .ok (.iload_n 3, 1) := by decide +kernel
theorem dL_law_954 : decode cL_law 954 = .ok (.iconst 2, 1) := by decide +kernel
theorem dL_law_955 : decode cL_law 955 = .ok (.iadd, 1) := by decide +kernel
theorem dL_law_956 : decode cL_law 956 = .ok (.iaload, 1) := by decide +kernel
theorem dL_law_957 : decode cL_law 957 = .ok (.aload_n 0, 1) := by decide +kernel
theorem dL_law_958 : decode cL_law 958 = .ok (.iload_n 3, 1) := by decide +kernel
theorem dL_law_959 : decode cL_law 959 = .ok (.iconst 3, 1) := by decide +kernel
theorem dL_law_960 : decode cL_law 960 = .ok (.iadd, 1) := by decide +kernel
theorem dL_law_961 : decode cL_law 961 = .ok (.iaload, 1) := by decide +kernel
theorem dL_law_962 : decode cL_law 962 = .ok (.aload_n 0, 1) := by decide +kernel
theorem dL_law_963 : decode cL_law 963 = .ok (.iload_n 3, 1) := by decide +kernel
theorem dL_law_964 : decode cL_law 964 = .ok (.iconst 4, 1) := by decide +kernel
theorem dL_law_965 : decode cL_law 965 = .ok (.iadd, 1) := by decide +kernel
theorem dL_law_966 : decode cL_law 966 = .ok (.iaload, 1) := by decide +kernel
theorem dL_law_967 : decode cL_law 967 = .ok (.aload_n 0, 1) := by decide +kernel
theorem dL_law_968 : decode cL_law 968 = .ok (.iload_n 3, 1) := by decide +kernel
theorem dL_law_969 : decode cL_law 969 = .ok (.iconst 5, 1) := by decide +kernel
theorem dL_law_970 : decode cL_law 970 = .ok (.iadd, 1) := by decide +kernel
theorem dL_law_971 : decode cL_law 971 = .ok (.iaload, 1) := by decide +kernel
theorem dL_law_972 : decode cL_law 972 = .ok (.invokevirtual 105, 3) := by decide +kernel
theorem dL_law_975 : decode cL_law 975 = .ok (.pop, 1) := by decide +kernel
theorem dL_law_976 : decode cL_law 976 = .ok (.goto 197, 3) := by decide +kernel
theorem dL_law_979 : decode cL_law 979 = .ok (.aload_n 1, 1) := by decide +kernel
theorem dL_law_980 : decode cL_law 980 = .ok (.aload_n 0, 1) := by decide +kernel
theorem dL_law_981 : decode cL_law 981 = .ok (.iload_n 3, 1) := by decide +kernel
theorem dL_law_982 : decode cL_law 982 = .ok (.iconst 1, 1) := by decide +kernel
theorem dL_law_983 : decode cL_law 983 = .ok (.iadd, 1) := by decide +kernel
theorem dL_law_984 : decode cL_law 984 = .ok (.iaload, 1) := by decide +kernel
theorem dL_law_985 : decode cL_law 985 = .ok (.invokevirtual 106, 3) := by decide +kernel
theorem dL_law_988 : decode cL_law 988 = .ok (.pop, 1) := by decide +kernel
theorem dL_law_989 : decode cL_law 989 = .ok (.aload_n 2, 1) := by decide +kernel
theorem dL_law_990 : decode cL_law 990 = .ok (.aload_n 0, 1) := by decide +kernel
theorem dL_law_991 : decode cL_law 991 = .ok (.iload_n 3, 1) := by decide +kernel
theorem dL_law_992 : decode cL_law 992 = .ok (.iconst 1, 1) := by decide +kernel
theorem dL_law_993 : decode cL_law 993 = .ok (.iadd, 1) := by decide +kernel
theorem dL_law_994 : decode cL_law 994 = .ok (.iaload, 1) := by decide +kernel
theorem dL_law_995 : decode cL_law 995 = .ok (.invokevirtual 109, 3) := by decide +kernel
theorem dL_law_998 : decode cL_law 998 = .ok (.pop, 1) := by decide +kernel
theorem dL_law_999 : decode cL_law 999 = .ok (.goto 174, 3) := by decide +kernel
theorem dL_law_1002 : decode cL_law 1002 = .ok (.aload_n 1, 1) := by decide +kernel
theorem dL_law_1003 : decode cL_law 1003 = .ok (.aload_n 0, 1) := by decide +kernel
theorem dL_law_1004 : decode cL_law 1004 = .ok (.iload_n 3, 1) := by decide +kernel
theorem dL_law_1005 : decode cL_law 1005 = .ok (.iconst 1, 1) := by decide +kernel
theorem dL_law_1006 : decode cL_law 1006 = .ok (.iadd, 1) := by decide +kernel
theorem dL_law_1007 : decode cL_law 1007 = .ok (.iaload, 1) := by decide +kernel
theorem dL_law_1008 : decode cL_law 1008 = .ok (.invokevirtual 110, 3) := by decide +kernel
theorem dL_law_1011 : decode cL_law 1011 = .ok (.pop, 1) := by decide +kernel
theorem dL_law_1012 : decode cL_law 1012 = .ok (.aload_n 2, 1) := by decide +kernel
theorem dL_law_1013 : decode cL_law 1013 = .ok (.aload_n 0, 1) := by decide +kernel
theorem dL_law_1014 : decode cL_law 1014 = .ok (.iload_n 3, 1) := by decide +kernel
theorem dL_law_1015 : decode cL_law 1015 = .ok (.iconst 1, 1) := by decide +kernel
theorem dL_law_1016 : decode cL_law 1016 = .ok (.iadd, 1) := by decide +kernel
theorem dL_law_1017 : decode cL_law 1017 = .ok (.iaload, 1) := by decide +kernel
theorem dL_law_1018 : decode cL_law 1018 = .ok (.invokevirtual 113, 3) := by decide +kernel
theorem dL_law_1021 : decode cL_law 1021 = .ok (.pop, 1) := by decide +kernel
theorem dL_law_1022 : decode cL_law 1022 = .ok (.goto 151, 3) := by decide +kernel
theorem dL_law_1025 : decode cL_law 1025 = .ok (.aload_n 1, 1) := by decide +kernel
theorem dL_law_1026 : decode cL_law 1026 = .ok (.aload_n 0, 1) := by decide +kernel
theorem dL_law_1027 : decode cL_law 1027 = .ok (.iload_n 3, 1) := by decide +kernel
theorem dL_law_1028 : decode cL_law 1028 = .ok (.iconst 1, 1) := by decide +kernel
theorem dL_law_1029 : decode cL_law 1029 = .ok (.iadd, 1) := by decide +kernel
theorem dL_law_1030 : decode cL_law 1030 = .ok (.iaload, 1) := by decide +kernel
theorem dL_law_1031 : decode cL_law 1031 = .ok (.invokevirtual 114, 3) := by decide +kernel
theorem dL_law_1034 : decode cL_law 1034 = .ok (.aload_n 2, 1) := by decide +kernel
theorem dL_law_1035 : decode cL_law 1035 = .ok (.aload_n 0, 1) := by decide +kernel
theorem dL_law_1036 : decode cL_law 1036 = .ok (.iload_n 3, 1) := by decide +kernel
theorem dL_law_1037 : decode cL_law 1037 = .ok (.iconst 1, 1) := by decide +kernel
theorem dL_law_1038 : decode cL_law 1038 = .ok (.iadd, 1) := by decide +kernel
theorem dL_law_1039 : decode cL_law 1039 = .ok (.iaload, 1) := by decide +kernel
theorem dL_law_1040 : decode cL_law 1040 = .ok (.invokevirtual 117, 3) := by decide +kernel
theorem dL_law_1043 : decode cL_law 1043 = .ok (.if_icmp .eq 130, 3) := by decide +kernel
theorem dL_law_1046 : decode cL_law 1046 = .ok (.iconst 0, 1) := by decide +kernel
theorem dL_law_1047 : decode cL_law 1047 = .ok (.ireturn, 1) := by decide +kernel
theorem dL_law_1048 : decode cL_law 1048 = .ok (.aload_n 1, 1) := by decide +kernel
theorem dL_law_1049 : decode cL_law 1049 = .ok (.aload_n 0, 1) := by decide +kernel
theorem dL_law_1050 : decode cL_law 1050 = .ok (.iload_n 3, 1) := by decide +kernel
theorem dL_law_1051 : decode cL_law 1051 = .ok (.iconst 1, 1) := by decide +kernel
theorem dL_law_1052 : decode cL_law 1052 = .ok (.iadd, 1) := by decide +kernel
theorem dL_law_1053 : decode cL_law 1053 = .ok (.iaload, 1) := by decide +kernel
theorem dL_law_1054 : decode cL_law 1054 = .ok (.invokevirtual 118, 3) := by decide +kernel
theorem dL_law_1057 : decode cL_law 1057 = .ok (.pop, 1) := by decide +kernel
theorem dL_law_1058 : decode cL_law 1058 = .ok (.aload_n 2, 1) := by decide +kernel
theorem dL_law_1059 : decode cL_law 1059 = .ok (.aload_n 0, 1) := by decide +kernel
theorem dL_law_1060 : decode cL_law 1060 = .ok (.iload_n 3, 1) := by decide +kernel
theorem dL_law_1061 : decode cL_law 1061 = .ok (.iconst 1, 1) := by decide +kernel
theorem dL_law_1062 : decode cL_law 1062 = .ok (.iadd, 1) := by decide +kernel
theorem dL_law_1063 : decode cL_law 1063 = .ok (.iaload, 1) := by decide +kernel
theorem dL_law_1064 : decode cL_law 1064 = .ok (.invokevirtual 121, 3) := by decide +kernel
theorem dL_law_1067 : decode cL_law 1067 = .ok (.pop, 1) := by decide +kernel
theorem dL_law_1068 : decode cL_law 1068 = .ok (.goto 105, 3) := by decide +kernel
theorem dL_law_1071 : decode cL_law 1071 = .ok (.aload_n 1, 1) := by decide +kernel
theorem dL_law_1072 : decode cL_law 1072 = .ok (.aload_n 0, 1) := by decide +kernel
theorem dL_law_1073 : decode cL_law 1073 = .ok (.iload_n 3, 1) := by decide +kernel
theorem dL_law_1074 : decode cL_law 1074 = .ok (.iconst 1, 1) := by decide +kernel
theorem dL_law_1075 : decode cL_law 1075 = .ok (.iadd, 1) := by decide +kernel
theorem dL_law_1076 : decode cL_law 1076 = .ok (.iaload, 1) := by decide +kernel
theorem dL_law_1077 : decode cL_law 1077 = .ok (.aload_n 0, 1) := by decide +kernel
theorem dL_law_1078 : decode cL_law 1078 = .ok (.iload_n 3, 1) := by decide +kernel
theorem dL_law_1079 : decode cL_law 1079 = .ok (.iconst 2, 1) := by decide +kernel
theorem dL_law_1080 : decode cL_law 1080 = .ok (.iadd, 1) := by decide +kernel
theorem dL_law_1081 : decode cL_law 1081 = .ok (.iaload, 1) := by decide +kernel
theorem dL_law_1082 : decode cL_law 1082 = .ok (.invokevirtual 122, 3) := by decide +kernel
theorem dL_law_1085 : decode cL_law 1085 = .ok (.pop, 1) := by decide +kernel
theorem dL_law_1086 : decode cL_law 1086 = .ok (.aload_n 2, 1) := by decide +kernel
theorem dL_law_1087 : decode cL_law 1087 = .ok (.aload_n 0, 1) := by decide +kernel
theorem dL_law_1088 : decode cL_law 1088 = .ok (.iload_n 3, 1) := by decide +kernel
theorem dL_law_1089 : decode cL_law 1089 = .ok (.iconst 1, 1) := by decide +kernel
theorem dL_law_1090 : decode cL_law 1090 = .ok (.iadd, 1) := by decide +kernel
theorem dL_law_1091 : decode cL_law 1091 = .ok (.iaload, 1) := by decide +kernel
theorem dL_law_1092 : decode cL_law 1092 = .ok (.aload_n 0, 1) := by decide +kernel
theorem dL_law_1093 : decode cL_law 1093 = .ok (.iload_n 3, 1) := by decide +kernel
theorem dL_law_1094 : decode cL_law 1094 = .ok (.iconst 2, 1) := by decide +kernel
theorem dL_law_1095 : decode cL_law 1095 = .ok (.iadd, 1) := by decide +kernel
theorem dL_law_1096 : decode cL_law 1096 = .ok (.iaload, 1) := by decide +kernel
theorem dL_law_1097 : decode cL_law 1097 = .ok (.invokevirtual 125, 3) := by decide +kernel
theorem dL_law_1100 : decode cL_law 1100 = .ok (.pop, 1) := by decide +kernel
theorem dL_law_1101 : decode cL_law 1101 = .ok (.goto 72, 3) := by decide +kernel
theorem dL_law_1104 : decode cL_law 1104 = .ok (.aload_n 1, 1) := by decide +kernel
theorem dL_law_1105 : decode cL_law 1105 = .ok (.aload_n 0, 1) := by decide +kernel
theorem dL_law_1106 : decode cL_law 1106 = .ok (.iload_n 3, 1) := by decide +kernel
theorem dL_law_1107 : decode cL_law 1107 = .ok (.iconst 1, 1) := by decide +kernel
theorem dL_law_1108 : decode cL_law 1108 = .ok (.iadd, 1) := by decide +kernel
theorem dL_law_1109 : decode cL_law 1109 = .ok (.iaload, 1) := by decide +kernel
theorem dL_law_1110 : decode cL_law 1110 = .ok (.invokevirtual 126, 3) := by decide +kernel
theorem dL_law_1113 : decode cL_law 1113 = .ok (.pop, 1) := by decide +kernel
theorem dL_law_1114 : decode cL_law 1114 = .ok (.aload_n 2, 1) := by decide +kernel
theorem dL_law_1115 : decode cL_law 1115 = .ok (.aload_n 0, 1) := by decide +kernel
theorem dL_law_1116 : decode cL_law 1116 = .ok (.iload_n 3, 1) := by decide +kernel
theorem dL_law_1117 : decode cL_law 1117 = .ok (.iconst 1, 1) := by decide +kernel
theorem dL_law_1118 : decode cL_law 1118 = .ok (.iadd, 1) := by decide +kernel
theorem dL_law_1119 : decode cL_law 1119 = .ok (.iaload, 1) := by decide +kernel
theorem dL_law_1120 : decode cL_law 1120 = .ok (.invokevirtual 129, 3) := by decide +kernel
theorem dL_law_1123 : decode cL_law 1123 = .ok (.pop, 1) := by decide +kernel
theorem dL_law_1124 : decode cL_law 1124 = .ok (.goto 49, 3) := by decide +kernel
theorem dL_law_1127 : decode cL_law 1127 = .ok (.aload_n 1, 1) := by decide +kernel
theorem dL_law_1128 : decode cL_law 1128 = .ok (.aload_n 0, 1) := by decide +kernel
theorem dL_law_1129 : decode cL_law 1129 = .ok (.iload_n 3, 1) := by decide +kernel
theorem dL_law_1130 : decode cL_law 1130 = .ok (.iconst 1, 1) := by decide +kernel
theorem dL_law_1131 : decode cL_law 1131 = .ok (.iadd, 1) := by decide +kernel
theorem dL_law_1132 : decode cL_law 1132 = .ok (.iaload, 1) := by decide +kernel
theorem dL_law_1133 : decode cL_law 1133 = .ok (.invokevirtual 130, 3) := by decide +kernel
theorem dL_law_1136 : decode cL_law 1136 = .ok (.pop, 1) := by decide +kernel
theorem dL_law_1137 : decode cL_law 1137 = .ok (.aload_n 2, 1) := by decide +kernel
theorem dL_law_1138 : decode cL_law 1138 = .ok (.aload_n 0, 1) := by decide +kernel
theorem dL_law_1139 : decode cL_law 1139 = .ok (.iload_n 3, 1) := by decide +kernel
theorem dL_law_1140 : decode cL_law 1140 = .ok (.iconst 1, 1) := by decide +kernel
theorem dL_law_1141 : decode cL_law 1141 = .ok (.iadd, 1) := by decide +kernel
theorem dL_law_1142 : decode cL_law 1142 = .ok (.iaload, 1) := by decide +kernel
theorem dL_law_1143 : decode cL_law 1143 = .ok (.invokevirtual 133, 3) := by decide +kernel
theorem dL_law_1146 : decode cL_law 1146 = .ok (.pop, 1) := by decide +kernel
theorem dL_law_1147 : decode cL_law 1147 = .ok (.goto 26, 3) := by decide +kernel
theorem dL_law_1150 : decode cL_law 1150 = .ok (.aload_n 1, 1) := by decide +kernel
theorem dL_law_1151 : decode cL_law 1151 = .ok (.aload_n 0, 1) := by decide +kernel
theorem dL_law_1152 : decode cL_law 1152 = .ok (.iload_n 3, 1) := by decide +kernel
theorem dL_law_1153 : decode cL_law 1153 = .ok (.iconst 1, 1) := by decide +kernel
theorem dL_law_1154 : decode cL_law 1154 = .ok (.iadd, 1) := by decide +kernel
theorem dL_law_1155 : decode cL_law 1155 = .ok (.iaload, 1) := by decide +kernel
theorem dL_law_1156 : decode cL_law 1156 = .ok (.invokevirtual 134, 3) := by decide +kernel
theorem dL_law_1159 : decode cL_law 1159 = .ok (.pop, 1) := by decide +kernel
theorem dL_law_1160 : decode cL_law 1160 = .ok (.aload_n 2, 1) := by decide +kernel
theorem dL_law_1161 : decode cL_law 1161 = .ok (.aload_n 0, 1) := by decide +kernel
theorem dL_law_1162 : decode cL_law 1162 = .ok (.iload_n 3, 1) := by decide +kernel
theorem dL_law_1163 : decode cL_law 1163 = .ok (.iconst 1, 1) := by decide +kernel
theorem dL_law_1164 : decode cL_law 1164 = .ok (.iadd, 1) := by decide +kernel
theorem dL_law_1165 : decode cL_law 1165 = .ok (.iaload, 1) := by decide +kernel
theorem dL_law_1166 : decode cL_law 1166 = .ok (.invokevirtual 137, 3) := by decide +kernel
theorem dL_law_1169 : decode cL_law 1169 = .ok (.pop, 1) := by decide +kernel
theorem dL_law_1170 : decode cL_law 1170 = .ok (.goto 3, 3) := by decide +kernel
theorem dL_law_1173 : decode cL_law 1173 = .ok (.iinc 3 6, 3) := by decide +kernel
theorem dL_law_1176 : decode cL_law 1176 = .ok (.goto (-1158), 3) := by decide +kernel
theorem dL_law_1179 : decode cL_law 1179 = .ok (.iconst 1, 1) := by decide +kernel
theorem dL_law_1180 : decode cL_law 1180 = .ok (.ireturn, 1) := by decide +kernel
