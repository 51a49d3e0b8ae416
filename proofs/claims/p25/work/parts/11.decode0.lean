theorem dX0_init_0 : decode cX0_init 0 = .ok (.aload_n 0, 1) := by decide +kernel
theorem dX0_init_1 : decode cX0_init 1 = .ok (.invokespecial 3, 3) := by decide +kernel
theorem dX0_init_4 : decode cX0_init 4 = .ok (.aload_n 0, 1) := by decide +kernel
theorem dX0_init_5 : decode cX0_init 5 = .ok (.iconst 4, 1) := by decide +kernel
theorem dX0_init_6 : decode cX0_init 6 = .ok (.newarray .int, 2) := by decide +kernel
theorem dX0_init_8 : decode cX0_init 8 = .ok (.putfield 9, 3) := by decide +kernel
theorem dX0_init_11 : decode cX0_init 11 = .ok (.aload_n 0, 1) := by decide +kernel
theorem dX0_init_12 : decode cX0_init 12 = .ok (.iconst 4, 1) := by decide +kernel
theorem dX0_init_13 : decode cX0_init 13 = .ok (.newarray .int, 2) := by decide +kernel
theorem dX0_init_15 : decode cX0_init 15 = .ok (.putfield 15, 3) := by decide +kernel
theorem dX0_init_18 : decode cX0_init 18 = .ok (.aload_n 0, 1) := by decide +kernel
theorem dX0_init_19 : decode cX0_init 19 = .ok (.bipush 48, 2) := by decide +kernel
theorem dX0_init_21 : decode cX0_init 21 = .ok (.newarray .int, 2) := by decide +kernel
theorem dX0_init_23 : decode cX0_init 23 = .ok (.putfield 18, 3) := by decide +kernel
theorem dX0_init_26 : decode cX0_init 26 = .ok (.aload_n 0, 1) := by decide +kernel
theorem dX0_init_27 : decode cX0_init 27 = .ok (.bipush 48, 2) := by decide +kernel
theorem dX0_init_29 : decode cX0_init 29 = .ok (.newarray .int, 2) := by decide +kernel
theorem dX0_init_31 : decode cX0_init 31 = .ok (.putfield 21, 3) := by decide +kernel
theorem dX0_init_34 : decode cX0_init 34 = .ok (.return_, 1) := by decide +kernel
theorem dX0_gather_0 : decode cX0_gather 0 = .ok (.aload_n 0, 1) := by decide +kernel
theorem dX0_gather_1 : decode cX0_gather 1 = .ok (.iconst 0, 1) := by decide +kernel
theorem dX0_gather_2 : decode cX0_gather 2 = .ok (.putfield 24, 3) := by decide +kernel
theorem dX0_gather_5 : decode cX0_gather 5 = .ok (.aload_n 0, 1) := by decide +kernel
theorem dX0_gather_6 : decode cX0_gather 6 = .ok (.iconst 0, 1) := by decide +kernel
theorem dX0_gather_7 : decode cX0_gather 7 = .ok (.putfield 28, 3) := by decide +kernel
theorem dX0_gather_10 : decode cX0_gather 10 = .ok (.aload_n 0, 1) := by decide +kernel
theorem dX0_gather_11 : decode cX0_gather 11 = .ok (.getfield 9, 3) := by decide +kernel
theorem dX0_gather_14 : decode cX0_gather 14 = .ok (.iconst 0, 1) := by decide +kernel
theorem dX0_gather_15 : decode cX0_gather 15 = .ok (.invokestatic 31, 3) := by decide +kernel
theorem dX0_gather_18 : decode cX0_gather 18 = .ok (.iconst 0, 1) := by decide +kernel
theorem dX0_gather_19 : decode cX0_gather 19 = .ok (.istore 4, 2) := by decide +kernel
theorem dX0_gather_21 : decode cX0_gather 21 = .ok (.iload 4, 2) := by decide +kernel
theorem dX0_gather_23 : decode cX0_gather 23 = .ok (.aload_n 1, 1) := by decide +kernel
theorem dX0_gather_24 : decode cX0_gather 24 = .ok (.getfield 37, 3) := by decide +kernel
theorem dX0_gather_27 : decode cX0_gather 27 = .ok (.if_icmp .ge 46, 3) := by decide +kernel
theorem dX0_gather_30 : decode cX0_gather 30 = .ok (.aload_n 1, 1) := by decide +kernel
theorem dX0_gather_31 : decode cX0_gather 31 = .ok (.iload 4, 2) := by decide +kernel
theorem dX0_gather_33 : decode cX0_gather 33 = .ok (.invokevirtual 42, 3) := by decide +kernel
theorem dX0_gather_36 : decode cX0_gather 36 = .ok (.ifCond .eq 31, 3) := by decide +kernel
theorem dX0_gather_39 : decode cX0_gather 39 = .ok (.aload_n 1, 1) := by decide +kernel
theorem dX0_gather_40 : decode cX0_gather 40 = .ok (.getfield 46, 3) := by decide +kernel
theorem dX0_gather_43 : decode cX0_gather 43 = .ok (.iload 4, 2) := by decide +kernel
theorem dX0_gather_45 : decode cX0_gather 45 = .ok (.iaload, 1) := by decide +kernel
theorem dX0_gather_46 : decode cX0_gather 46 = .ok (.iload_n 2, 1) := by decide +kernel
theorem dX0_gather_47 : decode cX0_gather 47 = .ok (.if_icmp .ne 20, 3) := by decide +kernel
theorem dX0_gather_50 : decode cX0_gather 50 = .ok (.aload_n 1, 1) := by decide +kernel
theorem dX0_gather_51 : decode cX0_gather 51 = .ok (.iload 4, 2) := by decide +kernel
theorem dX0_gather_53 : decode cX0_gather 53 = .ok (.iload_n 3, 1) := by decide +kernel
theorem dX0_gather_54 : decode cX0_gather 54 = .ok (.invokevirtual 49, 3) := by decide +kernel
theorem dX0_gather_57 : decode cX0_gather 57 = .ok (.ifCond .eq 10, 3) := by decide +kernel
theorem dX0_gather_60 : decode cX0_gather 60 = .ok (.aload_n 0, 1) := by decide +kernel
theorem dX0_gather_61 : decode cX0_gather 61 = .ok (.aload_n 1, 1) := by decide +kernel
theorem dX0_gather_62 : decode cX0_gather 62 = .ok (.iload 4, 2) := by decide +kernel
theorem dX0_gather_64 : decode cX0_gather 64 = .ok (.invokevirtual 53, 3) := by decide +kernel
theorem dX0_gather_67 : decode cX0_gather 67 = .ok (.iinc 4 1, 3) := by decide +kernel
theorem dX0_gather_70 : decode cX0_gather 70 = .ok (.goto (-49), 3) := by decide +kernel
theorem dX0_gather_73 : decode cX0_gather 73 = .ok (.return_, 1) := by decide +kernel
theorem dX0_narrow_0 : decode cX0_narrow 0 = .ok (.aload_n 1, 1) := by decide +kernel
theorem dX0_narrow_1 : decode cX0_narrow 1 = .ok (.getfield 57, 3) := by decide +kernel
theorem dX0_narrow_4 : decode cX0_narrow 4 = .ok (.iload_n 2, 1) := by decide +kernel
theorem dX0_narrow_5 : decode cX0_narrow 5 = .ok (.iaload, 1) := by decide +kernel
theorem dX0_narrow_6 : decode cX0_narrow 6 = .ok (.istore_n 3, 1) := by decide +kernel
theorem dX0_narrow_7 : decode cX0_narrow 7 = .ok (.aload_n 1, 1) := by decide +kernel
theorem dX0_narrow_8 : decode cX0_narrow 8 = .ok (.getfield 60, 3) := by decide +kernel
theorem dX0_narrow_11 : decode cX0_narrow 11 = .ok (.iload_n 2, 1) := by decide +kernel
theorem dX0_narrow_12 : decode cX0_narrow 12 = .ok (.iaload, 1) := by decide +kernel
theorem dX0_narrow_13 : decode cX0_narrow 13 = .ok (.istore 4, 2) := by decide +kernel
theorem dX0_narrow_15 : decode cX0_narrow 15 = .ok (.iload_n 3, 1) := by decide +kernel
theorem dX0_narrow_16 : decode cX0_narrow 16 = .ok (.bipush 12, 2) := by decide +kernel
theorem dX0_narrow_18 : decode cX0_narrow 18 = .ok (.imul, 1) := by decide +kernel
theorem dX0_narrow_19 : decode cX0_narrow 19 = .ok (.iload 4, 2) := by decide +kernel
theorem dX0_narrow_21 : decode cX0_narrow 21 = .ok (.iadd, 1) := by decide +kernel
theorem dX0_narrow_22 : decode cX0_narrow 22 = .ok (.istore 5, 2) := by decide +kernel
theorem dX0_narrow_24 : decode cX0_narrow 24 = .ok (.aload_n 0, 1) := by decide +kernel
theorem dX0_narrow_25 : decode cX0_narrow 25 = .ok (.getfield 9, 3) := by decide +kernel
theorem dX0_narrow_28 : decode cX0_narrow 28 = .ok (.iload_n 3, 1) := by decide +kernel
theorem dX0_narrow_29 : decode cX0_narrow 29 = .ok (.iaload, 1) := by decide +kernel
theorem dX0_narrow_30 : decode cX0_narrow 30 = .ok (.ifCond .ne 31, 3) := by decide +kernel
theorem dX0_narrow_33 : decode cX0_narrow 33 = .ok (.aload_n 0, 1) := by decide +kernel
theorem dX0_narrow_34 : decode cX0_narrow 34 = .ok (.getfield 28, 3) := by decide +kernel
theorem dX0_narrow_37 : decode cX0_narrow 37 = .ok (.iconst 4, 1) := by decide +kernel
theorem dX0_narrow_38 : decode cX0_narrow 38 = .ok (.if_icmp .ge 23, 3) := by decide +kernel
theorem dX0_narrow_41 : decode cX0_narrow 41 = .ok (.aload_n 0, 1) := by decide +kernel
theorem dX0_narrow_42 : decode cX0_narrow 42 = .ok (.getfield 15, 3) := by decide +kernel
theorem dX0_narrow_45 : decode cX0_narrow 45 = .ok (.aload_n 0, 1) := by decide +kernel
theorem dX0_narrow_46 : decode cX0_narrow 46 = .ok (.getfield 28, 3) := by decide +kernel
theorem dX0_narrow_49 : decode cX0_narrow 49 = .ok (.iload_n 3, 1) := by decide +kernel
theorem dX0_narrow_50 : decode cX0_narrow 50 = .ok (.iastore, 1) := by decide +kernel
theorem dX0_narrow_51 : decode cX0_narrow 51 = .ok (.aload_n 0, 1) := by decide +kernel
theorem dX0_narrow_52 : decode cX0_narrow 52 = .ok (.dup, 1) := by decide +kernel
theorem dX0_narrow_53 : decode cX0_narrow 53 = .ok (.getfield 28, 3) := by decide +kernel
theorem dX0_narrow_56 : decode cX0_narrow 56 = .ok (.iconst 1, 1) := by decide +kernel
theorem dX0_narrow_57 : decode cX0_narrow 57 = .ok (.iadd, 1) := by decide +kernel
theorem dX0_narrow_58 : decode cX0_narrow 58 = .ok (.putfield 28, 3) := by decide +kernel
theorem dX0_narrow_61 : decode cX0_narrow 61 = .ok (.aload_n 0, 1) := by decide +kernel
theorem dX0_narrow_62 : decode cX0_narrow 62 = .ok (.iload_n 3, 1) := by decide +kernel
theorem dX0_narrow_63 : decode cX0_narrow 63 = .ok (.iload 4, 2) := by decide +kernel
theorem dX0_narrow_65 : decode cX0_narrow 65 = .ok (.invokevirtual 62, 3) := by decide +kernel
theorem dX0_narrow_68 : decode cX0_narrow 68 = .ok (.ifCond .ne 21, 3) := by decide +kernel
theorem dX0_narrow_71 : decode cX0_narrow 71 = .ok (.aload_n 0, 1) := by decide +kernel
theorem dX0_narrow_72 : decode cX0_narrow 72 = .ok (.getfield 18, 3) := by decide +kernel
theorem dX0_narrow_75 : decode cX0_narrow 75 = .ok (.iload 5, 2) := by decide +kernel
theorem dX0_narrow_77 : decode cX0_narrow 77 = .ok (.iconst 0, 1) := by decide +kernel
theorem dX0_narrow_78 : decode cX0_narrow 78 = .ok (.iastore, 1) := by decide +kernel
theorem dX0_narrow_79 : decode cX0_narrow 79 = .ok (.aload_n 0, 1) := by decide +kernel
theorem dX0_narrow_80 : decode cX0_narrow 80 = .ok (.getfield 21, 3) := by decide +kernel
theorem dX0_narrow_83 : decode cX0_narrow 83 = .ok (.iload 5, 2) := by decide +kernel
theorem dX0_narrow_85 : decode cX0_narrow 85 = .ok (.sipush 999, 3) := by decide +kernel
theorem dX0_narrow_88 : decode cX0_narrow 88 = .ok (.iastore, 1) := by decide +kernel
theorem dX0_narrow_89 : decode cX0_narrow 89 = .ok (.aload_n 0, 1) := by decide +kernel
theorem dX0_narrow_90 : decode cX0_narrow 90 = .ok (.getfield 18, 3) := by decide +kernel
theorem dX0_narrow_93 : decode cX0_narrow 93 = .ok (.iload 5, 2) := by decide +kernel
theorem dX0_narrow_95 : decode cX0_narrow 95 = .ok (.aload_n 0, 1) := by decide +kernel
theorem dX0_narrow_96 : decode cX0_narrow 96 = .ok (.getfield 18, 3) := by decide +kernel
theorem dX0_narrow_99 : decode cX0_narrow 99 = .ok (.iload 5, 2) := by decide +kernel
theorem dX0_narrow_101 : decode cX0_narrow 101 = .ok (.iaload, 1) := by decide +kernel
theorem dX0_narrow_102 : decode cX0_narrow 102 = .ok (.aload_n 1, 1) := by decide +kernel
theorem dX0_narrow_103 : decode cX0_narrow 103 = .ok (.getfield 65, 3) := by decide +kernel
theorem dX0_narrow_106 : decode cX0_narrow 106 = .ok (.iload_n 2, 1) := by decide +kernel
theorem dX0_narrow_107 : decode cX0_narrow 107 = .ok (.iaload, 1) := by decide +kernel
theorem dX0_narrow_108 : decode cX0_narrow 108 = .ok (.invokestatic 66, 3) := by decide +kernel
theorem dX0_narrow_111 : decode cX0_narrow 111 = .ok (.iastore, 1) := by decide +kernel
theorem dX0_narrow_112 : decode cX0_narrow 112 = .ok (.aload_n 0, 1) := by decide +kernel
theorem dX0_narrow_113 : decode cX0_narrow 113 = .ok (.getfield 21, 3) := by decide +kernel
theorem dX0_narrow_116 : decode cX0_narrow 116 = .ok (.iload 5, 2) := by decide +kernel
theorem dX0_narrow_118 : decode cX0_narrow 118 = .ok (.aload_n 0, 1) := by decide +kernel
theorem dX0_narrow_119 : decode cX0_narrow 119 = .ok (.getfield 21, 3) := by decide +kernel
theorem dX0_narrow_122 : decode cX0_narrow 122 = .ok (.iload 5, 2) := by decide +kernel
theorem dX0_narrow_124 : decode cX0_narrow 124 = .ok (.iaload, 1) := by decide +kernel
theorem dX0_narrow_125 : decode cX0_narrow 125 = .ok (.aload_n 1, 1) := by decide +kernel
theorem dX0_narrow_126 : decode cX0_narrow 126 = .ok (.getfield 72, 3) := by decide +kernel
theorem dX0_narrow_129 : decode cX0_narrow 129 = .ok (.iload_n 2, 1) := by decide +kernel
theorem dX0_narrow_130 : decode cX0_narrow 130 = .ok (.iaload, 1) := by decide +kernel
theorem dX0_narrow_131 : decode cX0_narrow 131 = .ok (.invokestatic 73, 3) := by decide +kernel
theorem dX0_narrow_134 : decode cX0_narrow 134 = .ok (.iastore, 1) := by decide +kernel
theorem dX0_narrow_135 : decode cX0_narrow 135 = .ok (.aload_n 0, 1) := by decide +kernel
theorem dX0_narrow_136 : decode cX0_narrow 136 = .ok (.getfield 9, 3) := by decide +kernel
theorem dX0_narrow_139 : decode cX0_narrow 139 = .ok (.iload_n 3, 1) := by decide +kernel
theorem dX0_narrow_140 : decode cX0_narrow 140 = .ok (.dup2, 1) := by decide +kernel
theorem dX0_narrow_141 : decode cX0_narrow 141 = .ok (.iaload, 1) := by decide +kernel
theorem dX0_narrow_142 : decode cX0_narrow 142 = .ok (.iconst 1, 1) := by decide +kernel
theorem dX0_narrow_143 : decode cX0_narrow 143 = .ok (.iload 4, 2) := by decide +kernel
theorem dX0_narrow_145 : decode cX0_narrow 145 = .ok (.ishl, 1) := by decide +kernel
theorem dX0_narrow_146 : decode cX0_narrow 146 = .ok (.ior, 1) := by decide +kernel
theorem dX0_narrow_147 : decode cX0_narrow 147 = .ok (.iastore, 1) := by decide +kernel
theorem dX0_narrow_148 : decode cX0_narrow 148 = .ok (.aload_n 0, 1) := by decide +kernel
theorem dX0_narrow_149 : decode cX0_narrow 149 = .ok (.dup, 1) := by decide +kernel
theorem dX0_narrow_150 : decode cX0_narrow 150 = .ok (.getfield 24, 3) := by decide +kernel
theorem dX0_narrow_153 : decode cX0_narrow 153 = .ok (.iconst 1, 1) := by decide +kernel
theorem dX0_narrow_154 : decode cX0_narrow 154 = .ok (.iload 4, 2) := by decide +kernel
theorem dX0_narrow_156 : decode cX0_narrow 156 = .ok (.ishl, 1) := by decide +kernel
theorem dX0_narrow_157 : decode cX0_narrow 157 = .ok (.ior, 1) := by decide +kernel
theorem dX0_narrow_158 : decode cX0_narrow 158 = .ok (.putfield 24, 3) := by decide +kernel
theorem dX0_narrow_161 : decode cX0_narrow 161 = .ok (.return_, 1) := by decide +kernel
theorem dX0_has_0 : decode cX0_has 0 = .ok (.aload_n 0, 1) := by decide +kernel
theorem dX0_has_1 : decode cX0_has 1 = .ok (.getfield 9, 3) := by decide +kernel
theorem dX0_has_4 : decode cX0_has 4 = .ok (.iload_n 1, 1) := by decide +kernel
theorem dX0_has_5 : decode cX0_has 5 = .ok (.iaload, 1) := by decide +kernel
theorem dX0_has_6 : decode cX0_has 6 = .ok (.iload_n 2, 1) := by decide +kernel
theorem dX0_has_7 : decode cX0_has 7 = .ok (.ishr, 1) := by decide +kernel
theorem dX0_has_8 : decode cX0_has 8 = .ok (.iconst 1, 1) := by decide +kernel
theorem dX0_has_9 : decode cX0_has 9 = .ok (.iand, 1) := by decide +kernel
theorem dX0_has_10 : decode cX0_has 10 = .ok (.iconst 1, 1) := by decide +kernel
theorem dX0_has_11 : decode cX0_has 11 = .ok (.if_icmp .ne 7, 3) := by decide +kernel
theorem dX0_has_14 : decode cX0_has 14 = .ok (.iconst 1, 1) := by decide +kernel
theorem dX0_has_15 : decode cX0_has 15 = .ok (.goto 4, 3) := by decide +kernel
theorem dX0_has_18 : decode cX0_has 18 = .ok (.iconst 0, 1) := by decide +kernel
theorem dX0_has_19 : decode cX0_has 19 = .ok (.ireturn, 1) := by decide +kernel
theorem dX0_canBe_0 : decode cX0_canBe 0 = .ok (.iconst 0, 1) := by decide +kernel
theorem dX0_canBe_1 : decode cX0_canBe 1 = .ok (.istore 4, 2) := by decide +kernel
theorem dX0_canBe_3 : decode cX0_canBe 3 = .ok (.iload 4, 2) := by decide +kernel
theorem dX0_canBe_5 : decode cX0_canBe 5 = .ok (.aload_n 0, 1) := by decide +kernel
theorem dX0_canBe_6 : decode cX0_canBe 6 = .ok (.getfield 28, 3) := by decide +kernel
theorem dX0_canBe_9 : decode cX0_canBe 9 = .ok (.if_icmp .ge 73, 3) := by decide +kernel
theorem dX0_canBe_12 : decode cX0_canBe 12 = .ok (.aload_n 0, 1) := by decide +kernel
theorem dX0_canBe_13 : decode cX0_canBe 13 = .ok (.getfield 15, 3) := by decide +kernel
theorem dX0_canBe_16 : decode cX0_canBe 16 = .ok (.iload 4, 2) := by decide +kernel
theorem dX0_canBe_18 : decode cX0_canBe 18 = .ok (.iaload, 1) := by decide +kernel
theorem dX0_canBe_19 : decode cX0_canBe 19 = .ok (.bipush 12, 2) := by decide +kernel
theorem dX0_canBe_21 : decode cX0_canBe 21 = .ok (.imul, 1) := by decide +kernel
theorem dX0_canBe_22 : decode cX0_canBe 22 = .ok (.iload_n 1, 1) := by decide +kernel
theorem dX0_canBe_23 : decode cX0_canBe 23 = .ok (.iadd, 1) := by decide +kernel
theorem dX0_canBe_24 : decode cX0_canBe 24 = .ok (.istore 5, 2) := by decide +kernel
theorem dX0_canBe_26 : decode cX0_canBe 26 = .ok (.aload_n 0, 1) := by decide +kernel
theorem dX0_canBe_27 : decode cX0_canBe 27 = .ok (.aload_n 0, 1) := by decide +kernel
theorem dX0_canBe_28 : decode cX0_canBe 28 = .ok (.getfield 15, 3) := by decide +kernel
theorem dX0_canBe_31 : decode cX0_canBe 31 = .ok (.iload 4, 2) := by decide +kernel
theorem dX0_canBe_33 : decode cX0_canBe 33 = .ok (.iaload, 1) := by decide +kernel
theorem dX0_canBe_34 : decode cX0_canBe 34 = .ok (.iload_n 1, 1) := by decide +kernel
theorem dX0_canBe_35 : decode cX0_canBe 35 = .ok (.invokevirtual 62, 3) := by decide +kernel
theorem dX0_canBe_38 : decode cX0_canBe 38 = .ok (.ifCond .eq 38, 3) := by decide +kernel
theorem dX0_canBe_41 : decode cX0_canBe 41 = .ok (.aload_n 2, 1) := by decide +kernel
theorem dX0_canBe_42 : decode cX0_canBe 42 = .ok (.iload 5, 2) := by decide +kernel
theorem dX0_canBe_44 : decode cX0_canBe 44 = .ok (.iaload, 1) := by decide +kernel
theorem dX0_canBe_45 : decode cX0_canBe 45 = .ok (.aload_n 0, 1) := by decide +kernel
theorem dX0_canBe_46 : decode cX0_canBe 46 = .ok (.getfield 21, 3) := by decide +kernel
theorem dX0_canBe_49 : decode cX0_canBe 49 = .ok (.iload 5, 2) := by decide +kernel
theorem dX0_canBe_51 : decode cX0_canBe 51 = .ok (.iaload, 1) := by decide +kernel
theorem dX0_canBe_52 : decode cX0_canBe 52 = .ok (.if_icmp .gt 22, 3) := by decide +kernel
theorem dX0_canBe_55 : decode cX0_canBe 55 = .ok (.aload_n 2, 1) := by decide +kernel
theorem dX0_canBe_56 : decode cX0_canBe 56 = .ok (.iload 5, 2) := by decide +kernel
theorem dX0_canBe_58 : decode cX0_canBe 58 = .ok (.iaload, 1) := by decide +kernel
theorem dX0_canBe_59 : decode cX0_canBe 59 = .ok (.aload_n 3, 1) := by decide +kernel
theorem dX0_canBe_60 : decode cX0_canBe 60 = .ok (.iload 5, 2) := by decide +kernel
theorem dX0_canBe_62 : decode cX0_canBe 62 = .ok (.iaload, 1) := by decide +kernel
theorem dX0_canBe_63 : decode cX0_canBe 63 = .ok (.iadd, 1) := by decide +kernel
theorem dX0_canBe_64 : decode cX0_canBe 64 = .ok (.aload_n 0, 1) := by decide +kernel
theorem dX0_canBe_65 : decode cX0_canBe 65 = .ok (.getfield 18, 3) := by decide +kernel
theorem dX0_canBe_68 : decode cX0_canBe 68 = .ok (.iload 5, 2) := by decide +kernel
theorem dX0_canBe_70 : decode cX0_canBe 70 = .ok (.iaload, 1) := by decide +kernel
theorem dX0_canBe_71 : decode cX0_canBe 71 = .ok (.if_icmp .ge 5, 3) := by decide +kernel
theorem dX0_canBe_74 : decode cX0_canBe 74 = .ok (.iconst 0, 1) := by decide +kernel
theorem dX0_canBe_75 : decode cX0_canBe 75 = .ok (.ireturn, 1) := by decide +kernel
theorem dX0_canBe_76 : decode cX0_canBe 76 = .ok (.iinc 4 1, 3) := by decide +kernel
theorem dX0_canBe_79 : decode cX0_canBe 79 = .ok (.goto (-76), 3) := by decide +kernel
theorem dX0_canBe_82 : decode cX0_canBe 82 = .ok (.iconst 1, 1) := by decide +kernel
theorem dX0_canBe_83 : decode cX0_canBe 83 = .ok (.ireturn, 1) := by decide +kernel
theorem dX0_allow_0 : decode cX0_allow 0 = .ok (.iload_n 1, 1) := by decide +kernel
theorem dX0_allow_1 : decode cX0_allow 1 = .ok (.bipush 12, 2) := by decide +kernel
theorem dX0_allow_3 : decode cX0_allow 3 = .ok (.imul, 1) := by decide +kernel
theorem dX0_allow_4 : decode cX0_allow 4 = .ok (.iload_n 2, 1) := by decide +kernel
theorem dX0_allow_5 : decode cX0_allow 5 = .ok (.iadd, 1) := by decide +kernel
theorem dX0_allow_6 : decode cX0_allow 6 = .ok (.istore 4, 2) := by decide +kernel
theorem dX0_allow_8 : decode cX0_allow 8 = .ok (.iload_n 3, 1) := by decide +kernel
theorem dX0_allow_9 : decode cX0_allow 9 = .ok (.aload_n 0, 1) := by decide +kernel
theorem dX0_allow_10 : decode cX0_allow 10 = .ok (.getfield 18, 3) := by decide +kernel
theorem dX0_allow_13 : decode cX0_allow 13 = .ok (.iload 4, 2) := by decide +kernel
theorem dX0_allow_15 : decode cX0_allow 15 = .ok (.iaload, 1) := by decide +kernel
theorem dX0_allow_16 : decode cX0_allow 16 = .ok (.aload_n 0, 1) := by decide +kernel
theorem dX0_allow_17 : decode cX0_allow 17 = .ok (.getfield 21, 3) := by decide +kernel
theorem dX0_allow_20 : decode cX0_allow 20 = .ok (.iload 4, 2) := by decide +kernel
theorem dX0_allow_22 : decode cX0_allow 22 = .ok (.iaload, 1) := by decide +kernel
theorem dX0_allow_23 : decode cX0_allow 23 = .ok (.invokestatic 76, 3) := by decide +kernel
theorem dX0_allow_26 : decode cX0_allow 26 = .ok (.ireturn, 1) := by decide +kernel
theorem dX1_init_0 : decode cX1_init 0 = .ok (.aload_n 0, 1) := by decide +kernel
theorem dX1_init_1 : decode cX1_init 1 = .ok (.invokespecial 3, 3) := by decide +kernel
theorem dX1_init_4 : decode cX1_init 4 = .ok (.aload_n 0, 1) := by decide +kernel
theorem dX1_init_5 : decode cX1_init 5 = .ok (.bipush 8, 2) := by decide +kernel
theorem dX1_init_7 : decode cX1_init 7 = .ok (.newarray .int, 2) := by decide +kernel
theorem dX1_init_9 : decode cX1_init 9 = .ok (.putfield 9, 3) := by decide +kernel
theorem dX1_init_12 : decode cX1_init 12 = .ok (.aload_n 0, 1) := by decide +kernel
theorem dX1_init_13 : decode cX1_init 13 = .ok (.bipush 40, 2) := by decide +kernel
theorem dX1_init_15 : decode cX1_init 15 = .ok (.newarray .int, 2) := by decide +kernel
theorem dX1_init_17 : decode cX1_init 17 = .ok (.putfield 15, 3) := by decide +kernel
theorem dX1_init_20 : decode cX1_init 20 = .ok (.aload_n 0, 1) := by decide +kernel
theorem dX1_init_21 : decode cX1_init 21 = .ok (.bipush 40, 2) := by decide +kernel
theorem dX1_init_23 : decode cX1_init 23 = .ok (.newarray .int, 2) := by decide +kernel
theorem dX1_init_25 : decode cX1_init 25 = .ok (.putfield 18, 3) := by decide +kernel
theorem dX1_init_28 : decode cX1_init 28 = .ok (.aload_n 0, 1) := by decide +kernel
theorem dX1_init_29 : decode cX1_init 29 = .ok (.bipush 40, 2) := by decide +kernel
theorem dX1_init_31 : decode cX1_init 31 = .ok (.newarray .int, 2) := by decide +kernel
theorem dX1_init_33 : decode cX1_init 33 = .ok (.putfield 21, 3) := by decide +kernel
theorem dX1_init_36 : decode cX1_init 36 = .ok (.aload_n 0, 1) := by decide +kernel
theorem dX1_init_37 : decode cX1_init 37 = .ok (.bipush 8, 2) := by decide +kernel
theorem dX1_init_39 : decode cX1_init 39 = .ok (.newarray .int, 2) := by decide +kernel
theorem dX1_init_41 : decode cX1_init 41 = .ok (.putfield 24, 3) := by decide +kernel
theorem dX1_init_44 : decode cX1_init 44 = .ok (.aload_n 0, 1) := by decide +kernel
theorem dX1_init_45 : decode cX1_init 45 = .ok (.sipush 360, 3) := by decide +kernel
theorem dX1_init_48 : decode cX1_init 48 = .ok (.newarray .int, 2) := by decide +kernel
theorem dX1_init_50 : decode cX1_init 50 = .ok (.putfield 27, 3) := by decide +kernel
theorem dX1_init_53 : decode cX1_init 53 = .ok (.return_, 1) := by decide +kernel
theorem dX1_gather_0 : decode cX1_gather 0 = .ok (.aload_n 0, 1) := by decide +kernel
theorem dX1_gather_1 : decode cX1_gather 1 = .ok (.iconst 0, 1) := by decide +kernel
theorem dX1_gather_2 : decode cX1_gather 2 = .ok (.putfield 30, 3) := by decide +kernel
theorem dX1_gather_5 : decode cX1_gather 5 = .ok (.iconst 0, 1) := by decide +kernel
theorem dX1_gather_6 : decode cX1_gather 6 = .ok (.istore 4, 2) := by decide +kernel
theorem dX1_gather_8 : decode cX1_gather 8 = .ok (.iload 4, 2) := by decide +kernel
theorem dX1_gather_10 : decode cX1_gather 10 = .ok (.aload_n 1, 1) := by decide +kernel
theorem dX1_gather_11 : decode cX1_gather 11 = .ok (.getfield 34, 3) := by decide +kernel
theorem dX1_gather_14 : decode cX1_gather 14 = .ok (.if_icmp .ge 53, 3) := by decide +kernel
theorem dX1_gather_17 : decode cX1_gather 17 = .ok (.aload_n 0, 1) := by decide +kernel
theorem dX1_gather_18 : decode cX1_gather 18 = .ok (.getfield 30, 3) := by decide +kernel
theorem dX1_gather_21 : decode cX1_gather 21 = .ok (.bipush 8, 2) := by decide +kernel
theorem dX1_gather_23 : decode cX1_gather 23 = .ok (.if_icmp .ge 44, 3) := by decide +kernel
theorem dX1_gather_26 : decode cX1_gather 26 = .ok (.aload_n 1, 1) := by decide +kernel
theorem dX1_gather_27 : decode cX1_gather 27 = .ok (.iload 4, 2) := by decide +kernel
theorem dX1_gather_29 : decode cX1_gather 29 = .ok (.invokevirtual 39, 3) := by decide +kernel
theorem dX1_gather_32 : decode cX1_gather 32 = .ok (.ifCond .eq 29, 3) := by decide +kernel
theorem dX1_gather_35 : decode cX1_gather 35 = .ok (.aload_n 0, 1) := by decide +kernel
theorem dX1_gather_36 : decode cX1_gather 36 = .ok (.getfield 9, 3) := by decide +kernel
theorem dX1_gather_39 : decode cX1_gather 39 = .ok (.aload_n 0, 1) := by decide +kernel
theorem dX1_gather_40 : decode cX1_gather 40 = .ok (.getfield 30, 3) := by decide +kernel
theorem dX1_gather_43 : decode cX1_gather 43 = .ok (.aload_n 1, 1) := by decide +kernel
theorem dX1_gather_44 : decode cX1_gather 44 = .ok (.getfield 43, 3) := by decide +kernel
theorem dX1_gather_47 : decode cX1_gather 47 = .ok (.iload 4, 2) := by decide +kernel
theorem dX1_gather_49 : decode cX1_gather 49 = .ok (.iaload, 1) := by decide +kernel
theorem dX1_gather_50 : decode cX1_gather 50 = .ok (.iastore, 1) := by decide +kernel
theorem dX1_gather_51 : decode cX1_gather 51 = .ok (.aload_n 0, 1) := by decide +kernel
theorem dX1_gather_52 : decode cX1_gather 52 = .ok (.dup, 1) := by decide +kernel
theorem dX1_gather_53 : decode cX1_gather 53 = .ok (.getfield 30, 3) := by decide +kernel
theorem dX1_gather_56 : decode cX1_gather 56 = .ok (.iconst 1, 1) := by decide +kernel
theorem dX1_gather_57 : decode cX1_gather 57 = .ok (.iadd, 1) := by decide +kernel
theorem dX1_gather_58 : decode cX1_gather 58 = .ok (.putfield 30, 3) := by decide +kernel
theorem dX1_gather_61 : decode cX1_gather 61 = .ok (.iinc 4 1, 3) := by decide +kernel
theorem dX1_gather_64 : decode cX1_gather 64 = .ok (.goto (-56), 3) := by decide +kernel
theorem dX1_gather_67 : decode cX1_gather 67 = .ok (.aload_n 0, 1) := by decide +kernel
theorem dX1_gather_68 : decode cX1_gather 68 = .ok (.iconst 0, 1) := by decide +kernel
theorem dX1_gather_69 : decode cX1_gather 69 = .ok (.putfield 44, 3) := by decide +kernel
theorem dX1_gather_72 : decode cX1_gather 72 = .ok (.iconst 0, 1) := by decide +kernel
theorem dX1_gather_73 : decode cX1_gather 73 = .ok (.istore 4, 2) := by decide +kernel
theorem dX1_gather_75 : decode cX1_gather 75 = .ok (.iload 4, 2) := by decide +kernel
theorem dX1_gather_77 : decode cX1_gather 77 = .ok (.aload_n 2, 1) := by decide +kernel
theorem dX1_gather_78 : decode cX1_gather 78 = .ok (.getfield 47, 3) := by decide +kernel
theorem dX1_gather_81 : decode cX1_gather 81 = .ok (.if_icmp .ge 91, 3) := by decide +kernel
theorem dX1_gather_84 : decode cX1_gather 84 = .ok (.aload_n 2, 1) := by decide +kernel
theorem dX1_gather_85 : decode cX1_gather 85 = .ok (.iload 4, 2) := by decide +kernel
theorem dX1_gather_87 : decode cX1_gather 87 = .ok (.invokevirtual 52, 3) := by decide +kernel
theorem dX1_gather_90 : decode cX1_gather 90 = .ok (.ifCond .ne 76, 3) := by decide +kernel
theorem dX1_gather_93 : decode cX1_gather 93 = .ok (.aload_n 2, 1) := by decide +kernel
theorem dX1_gather_94 : decode cX1_gather 94 = .ok (.iload 4, 2) := by decide +kernel
theorem dX1_gather_96 : decode cX1_gather 96 = .ok (.iload_n 3, 1) := by decide +kernel
theorem dX1_gather_97 : decode cX1_gather 97 = .ok (.invokevirtual 55, 3) := by decide +kernel
theorem dX1_gather_100 : decode cX1_gather 100 = .ok (.ifCond .eq 66, 3) := by decide +kernel
theorem dX1_gather_103 : decode cX1_gather 103 = .ok (.aload_n 0, 1) := by decide +kernel
theorem dX1_gather_104 : decode cX1_gather 104 = .ok (.getfield 15, 3) := by decide +kernel
theorem dX1_gather_107 : decode cX1_gather 107 = .ok (.aload_n 0, 1) := by decide +kernel
theorem dX1_gather_108 : decode cX1_gather 108 = .ok (.getfield 44, 3) := by decide +kernel
theorem dX1_gather_111 : decode cX1_gather 111 = .ok (.iload 4, 2) := by decide +kernel
theorem dX1_gather_113 : decode cX1_gather 113 = .ok (.iastore, 1) := by decide +kernel
theorem dX1_gather_114 : decode cX1_gather 114 = .ok (.aload_n 0, 1) := by decide +kernel
theorem dX1_gather_115 : decode cX1_gather 115 = .ok (.getfield 18, 3) := by decide +kernel
theorem dX1_gather_118 : decode cX1_gather 118 = .ok (.aload_n 0, 1) := by decide +kernel
theorem dX1_gather_119 : decode cX1_gather 119 = .ok (.getfield 44, 3) := by decide +kernel
theorem dX1_gather_122 : decode cX1_gather 122 = .ok (.aload_n 2, 1) := by decide +kernel
theorem dX1_gather_123 : decode cX1_gather 123 = .ok (.getfield 59, 3) := by decide +kernel
theorem dX1_gather_126 : decode cX1_gather 126 = .ok (.iload 4, 2) := by decide +kernel
theorem dX1_gather_128 : decode cX1_gather 128 = .ok (.iaload, 1) := by decide +kernel
theorem dX1_gather_129 : decode cX1_gather 129 = .ok (.iastore, 1) := by decide +kernel
theorem dX1_gather_130 : decode cX1_gather 130 = .ok (.aload_n 0, 1) := by decide +kernel
theorem dX1_gather_131 : decode cX1_gather 131 = .ok (.getfield 21, 3) := by decide +kernel
theorem dX1_gather_134 : decode cX1_gather 134 = .ok (.aload_n 0, 1) := by decide +kernel
theorem dX1_gather_135 : decode cX1_gather 135 = .ok (.getfield 44, 3) := by decide +kernel
theorem dX1_gather_138 : decode cX1_gather 138 = .ok (.aload_n 2, 1) := by decide +kernel
theorem dX1_gather_139 : decode cX1_gather 139 = .ok (.getfield 62, 3) := by decide +kernel
theorem dX1_gather_142 : decode cX1_gather 142 = .ok (.iload 4, 2) := by decide +kernel
theorem dX1_gather_144 : decode cX1_gather 144 = .ok (.iaload, 1) := by decide +kernel
theorem dX1_gather_145 : decode cX1_gather 145 = .ok (.iastore, 1) := by decide +kernel
theorem dX1_gather_146 : decode cX1_gather 146 = .ok (.aload_n 0, 1) := by decide +kernel
theorem dX1_gather_147 : decode cX1_gather 147 = .ok (.getfield 27, 3) := by decide +kernel
theorem dX1_gather_150 : decode cX1_gather 150 = .ok (.aload_n 0, 1) := by decide +kernel
theorem dX1_gather_151 : decode cX1_gather 151 = .ok (.getfield 44, 3) := by decide +kernel
theorem dX1_gather_154 : decode cX1_gather 154 = .ok (.iconst 0, 1) := by decide +kernel
theorem dX1_gather_155 : decode cX1_gather 155 = .ok (.iastore, 1) := by decide +kernel
theorem dX1_gather_156 : decode cX1_gather 156 = .ok (.aload_n 0, 1) := by decide +kernel
theorem dX1_gather_157 : decode cX1_gather 157 = .ok (.dup, 1) := by decide +kernel
theorem dX1_gather_158 : decode cX1_gather 158 = .ok (.getfield 44, 3) := by decide +kernel
theorem dX1_gather_161 : decode cX1_gather 161 = .ok (.iconst 1, 1) := by decide +kernel
theorem dX1_gather_162 : decode cX1_gather 162 = .ok (.iadd, 1) := by decide +kernel
theorem dX1_gather_163 : decode cX1_gather 163 = .ok (.putfield 44, 3) := by decide +kernel
theorem dX1_gather_166 : decode cX1_gather 166 = .ok (.iinc 4 1, 3) := by decide +kernel
theorem dX1_gather_169 : decode cX1_gather 169 = .ok (.goto (-94), 3) := by decide +kernel
theorem dX1_gather_172 : decode cX1_gather 172 = .ok (.return_, 1) := by decide +kernel
theorem dX1_leastTogether_0 : decode cX1_leastTogether 0 = .ok (.aload_n 0, 1) := by decide +kernel
theorem dX1_leastTogether_1 : decode cX1_leastTogether 1 = .ok (.bipush 17, 2) := by decide +kernel
theorem dX1_leastTogether_3 : decode cX1_leastTogether 3 = .ok (.putfield 63, 3) := by decide +kernel
theorem dX1_leastTogether_6 : decode cX1_leastTogether 6 = .ok (.aload_n 0, 1) := by decide +kernel
theorem dX1_leastTogether_7 : decode cX1_leastTogether 7 = .ok (.invokevirtual 66, 3) := by decide +kernel
theorem dX1_leastTogether_10 : decode cX1_leastTogether 10 = .ok (.aload_n 0, 1) := by decide +kernel
theorem dX1_leastTogether_11 : decode cX1_leastTogether 11 = .ok (.getfield 44, 3) := by decide +kernel
theorem dX1_leastTogether_14 : decode cX1_leastTogether 14 = .ok (.if_icmp .ne 10, 3) := by decide +kernel
theorem dX1_leastTogether_17 : decode cX1_leastTogether 17 = .ok (.aload_n 0, 1) := by decide +kernel
theorem dX1_leastTogether_18 : decode cX1_leastTogether 18 = .ok (.iconst 0, 1) := by decide +kernel
theorem dX1_leastTogether_19 : decode cX1_leastTogether 19 = .ok (.iconst 0, 1) := by decide +kernel
theorem dX1_leastTogether_20 : decode cX1_leastTogether 20 = .ok (.aload_n 1, 1) := by decide +kernel
theorem dX1_leastTogether_21 : decode cX1_leastTogether 21 = .ok (.invokevirtual 70, 3) := by decide +kernel
theorem dX1_leastTogether_24 : decode cX1_leastTogether 24 = .ok (.aload_n 0, 1) := by decide +kernel
theorem dX1_leastTogether_25 : decode cX1_leastTogether 25 = .ok (.getfield 63, 3) := by decide +kernel
theorem dX1_leastTogether_28 : decode cX1_leastTogether 28 = .ok (.bipush 16, 2) := by decide +kernel
theorem dX1_leastTogether_30 : decode cX1_leastTogether 30 = .ok (.if_icmp .le 7, 3) := by decide +kernel
theorem dX1_leastTogether_33 : decode cX1_leastTogether 33 = .ok (.iconst (-1), 1) := by decide +kernel
theorem dX1_leastTogether_34 : decode cX1_leastTogether 34 = .ok (.goto 7, 3) := by decide +kernel
theorem dX1_leastTogether_37 : decode cX1_leastTogether 37 = .ok (.aload_n 0, 1) := by decide +kernel
theorem dX1_leastTogether_38 : decode cX1_leastTogether 38 = .ok (.getfield 63, 3) := by decide +kernel
theorem dX1_leastTogether_41 : decode cX1_leastTogether 41 = .ok (.ireturn, 1) := by decide +kernel
theorem dX1_seekLeast_0 : decode cX1_seekLeast 0 = .ok (.iload_n 2, 1) := by decide +kernel
theorem dX1_seekLeast_1 : decode cX1_seekLeast 1 = .ok (.aload_n 0, 1) := by decide +kernel
theorem dX1_seekLeast_2 : decode cX1_seekLeast 2 = .ok (.getfield 63, 3) := by decide +kernel
theorem dX1_seekLeast_5 : decode cX1_seekLeast 5 = .ok (.if_icmp .lt 4, 3) := by decide +kernel
theorem dX1_seekLeast_8 : decode cX1_seekLeast 8 = .ok (.return_, 1) := by decide +kernel
theorem dX1_seekLeast_9 : decode cX1_seekLeast 9 = .ok (.iload_n 1, 1) := by decide +kernel
theorem dX1_seekLeast_10 : decode cX1_seekLeast 10 = .ok (.aload_n 0, 1) := by decide +kernel
theorem dX1_seekLeast_11 : decode cX1_seekLeast 11 = .ok (.getfield 30, 3) := by decide +kernel
theorem dX1_seekLeast_14 : decode cX1_seekLeast 14 = .ok (.if_icmp .lt 23, 3) := by decide +kernel
theorem dX1_seekLeast_17 : decode cX1_seekLeast 17 = .ok (.aload_n 0, 1) := by decide +kernel
theorem dX1_seekLeast_18 : decode cX1_seekLeast 18 = .ok (.iload_n 2, 1) := by decide +kernel
theorem dX1_seekLeast_19 : decode cX1_seekLeast 19 = .ok (.putfield 63, 3) := by decide +kernel
theorem dX1_seekLeast_22 : decode cX1_seekLeast 22 = .ok (.aload_n 0, 1) := by decide +kernel
theorem dX1_seekLeast_23 : decode cX1_seekLeast 23 = .ok (.getfield 24, 3) := by decide +kernel
theorem dX1_seekLeast_26 : decode cX1_seekLeast 26 = .ok (.iconst 0, 1) := by decide +kernel
theorem dX1_seekLeast_27 : decode cX1_seekLeast 27 = .ok (.aload_n 3, 1) := by decide +kernel
theorem dX1_seekLeast_28 : decode cX1_seekLeast 28 = .ok (.iconst 0, 1) := by decide +kernel
theorem dX1_seekLeast_29 : decode cX1_seekLeast 29 = .ok (.aload_n 0, 1) := by decide +kernel
theorem dX1_seekLeast_30 : decode cX1_seekLeast 30 = .ok (.getfield 30, 3) := by decide +kernel
theorem dX1_seekLeast_33 : decode cX1_seekLeast 33 = .ok (.invokestatic 74, 3) := by decide +kernel
theorem dX1_seekLeast_36 : decode cX1_seekLeast 36 = .ok (.return_, 1) := by decide +kernel
theorem dX1_seekLeast_37 : decode cX1_seekLeast 37 = .ok (.iconst 0, 1) := by decide +kernel
theorem dX1_seekLeast_38 : decode cX1_seekLeast 38 = .ok (.istore 4, 2) := by decide +kernel
theorem dX1_seekLeast_40 : decode cX1_seekLeast 40 = .ok (.iload 4, 2) := by decide +kernel
theorem dX1_seekLeast_42 : decode cX1_seekLeast 42 = .ok (.iconst 2, 1) := by decide +kernel
theorem dX1_seekLeast_43 : decode cX1_seekLeast 43 = .ok (.if_icmp .gt 47, 3) := by decide +kernel
theorem dX1_seekLeast_46 : decode cX1_seekLeast 46 = .ok (.aload_n 0, 1) := by decide +kernel
theorem dX1_seekLeast_47 : decode cX1_seekLeast 47 = .ok (.getfield 24, 3) := by decide +kernel
theorem dX1_seekLeast_50 : decode cX1_seekLeast 50 = .ok (.iload_n 1, 1) := by decide +kernel
theorem dX1_seekLeast_51 : decode cX1_seekLeast 51 = .ok (.iload 4, 2) := by decide +kernel
theorem dX1_seekLeast_53 : decode cX1_seekLeast 53 = .ok (.iastore, 1) := by decide +kernel
theorem dX1_seekLeast_54 : decode cX1_seekLeast 54 = .ok (.aload_n 0, 1) := by decide +kernel
theorem dX1_seekLeast_55 : decode cX1_seekLeast 55 = .ok (.iload_n 1, 1) := by decide +kernel
theorem dX1_seekLeast_56 : decode cX1_seekLeast 56 = .ok (.iload 4, 2) := by decide +kernel
theorem dX1_seekLeast_58 : decode cX1_seekLeast 58 = .ok (.aload_n 0, 1) := by decide +kernel
theorem dX1_seekLeast_59 : decode cX1_seekLeast 59 = .ok (.getfield 44, 3) := by decide +kernel
theorem dX1_seekLeast_62 : decode cX1_seekLeast 62 = .ok (.invokevirtual 80, 3) := by decide +kernel
theorem dX1_seekLeast_65 : decode cX1_seekLeast 65 = .ok (.aload_n 0, 1) := by decide +kernel
theorem dX1_seekLeast_66 : decode cX1_seekLeast 66 = .ok (.getfield 44, 3) := by decide +kernel
theorem dX1_seekLeast_69 : decode cX1_seekLeast 69 = .ok (.if_icmp .ne 15, 3) := by decide +kernel
theorem dX1_seekLeast_72 : decode cX1_seekLeast 72 = .ok (.aload_n 0, 1) := by decide +kernel
theorem dX1_seekLeast_73 : decode cX1_seekLeast 73 = .ok (.iload_n 1, 1) := by decide +kernel
theorem dX1_seekLeast_74 : decode cX1_seekLeast 74 = .ok (.iconst 1, 1) := by decide +kernel
theorem dX1_seekLeast_75 : decode cX1_seekLeast 75 = .ok (.iadd, 1) := by decide +kernel
theorem dX1_seekLeast_76 : decode cX1_seekLeast 76 = .ok (.iload_n 2, 1) := by decide +kernel
theorem dX1_seekLeast_77 : decode cX1_seekLeast 77 = .ok (.iload 4, 2) := by decide +kernel
theorem dX1_seekLeast_79 : decode cX1_seekLeast 79 = .ok (.iadd, 1) := by decide +kernel
theorem dX1_seekLeast_80 : decode cX1_seekLeast 80 = .ok (.aload_n 3, 1) := by decide +kernel
theorem dX1_seekLeast_81 : decode cX1_seekLeast 81 = .ok (.invokevirtual 70, 3) := by decide +kernel
theorem dX1_seekLeast_84 : decode cX1_seekLeast 84 = .ok (.iinc 4 1, 3) := by decide +kernel
theorem dX1_seekLeast_87 : decode cX1_seekLeast 87 = .ok (.goto (-47), 3) := by decide +kernel
theorem dX1_seekLeast_90 : decode cX1_seekLeast 90 = .ok (.return_, 1) := by decide +kernel
theorem dX1_firstThatCant_0 : decode cX1_firstThatCant 0 = .ok (.aload_n 0, 1) := by decide +kernel
theorem dX1_firstThatCant_1 : decode cX1_firstThatCant 1 = .ok (.iconst (-1), 1) := by decide +kernel
theorem dX1_firstThatCant_2 : decode cX1_firstThatCant 2 = .ok (.putfield 84, 3) := by decide +kernel
theorem dX1_firstThatCant_5 : decode cX1_firstThatCant 5 = .ok (.aload_n 0, 1) := by decide +kernel
theorem dX1_firstThatCant_6 : decode cX1_firstThatCant 6 = .ok (.iconst 0, 1) := by decide +kernel
theorem dX1_firstThatCant_7 : decode cX1_firstThatCant 7 = .ok (.aload_n 0, 1) := by decide +kernel
theorem dX1_firstThatCant_8 : decode cX1_firstThatCant 8 = .ok (.invokevirtual 66, 3) := by decide +kernel
theorem dX1_firstThatCant_11 : decode cX1_firstThatCant 11 = .ok (.invokevirtual 87, 3) := by decide +kernel
theorem dX1_firstThatCant_14 : decode cX1_firstThatCant 14 = .ok (.aload_n 0, 1) := by decide +kernel
theorem dX1_firstThatCant_15 : decode cX1_firstThatCant 15 = .ok (.getfield 84, 3) := by decide +kernel
theorem dX1_firstThatCant_18 : decode cX1_firstThatCant 18 = .ok (.iconst 0, 1) := by decide +kernel
theorem dX1_firstThatCant_19 : decode cX1_firstThatCant 19 = .ok (.aload_n 0, 1) := by decide +kernel
theorem dX1_firstThatCant_20 : decode cX1_firstThatCant 20 = .ok (.getfield 44, 3) := by decide +kernel
theorem dX1_firstThatCant_23 : decode cX1_firstThatCant 23 = .ok (.iconst 1, 1) := by decide +kernel
theorem dX1_firstThatCant_24 : decode cX1_firstThatCant 24 = .ok (.isub, 1) := by decide +kernel
theorem dX1_firstThatCant_25 : decode cX1_firstThatCant 25 = .ok (.invokestatic 91, 3) := by decide +kernel
theorem dX1_firstThatCant_28 : decode cX1_firstThatCant 28 = .ok (.ifCond .eq 15, 3) := by decide +kernel
theorem dX1_firstThatCant_31 : decode cX1_firstThatCant 31 = .ok (.aload_n 0, 1) := by decide +kernel
theorem dX1_firstThatCant_32 : decode cX1_firstThatCant 32 = .ok (.getfield 15, 3) := by decide +kernel
theorem dX1_firstThatCant_35 : decode cX1_firstThatCant 35 = .ok (.aload_n 0, 1) := by decide +kernel
theorem dX1_firstThatCant_36 : decode cX1_firstThatCant 36 = .ok (.getfield 84, 3) := by decide +kernel
theorem dX1_firstThatCant_39 : decode cX1_firstThatCant 39 = .ok (.iaload, 1) := by decide +kernel
theorem dX1_firstThatCant_40 : decode cX1_firstThatCant 40 = .ok (.goto 4, 3) := by decide +kernel
theorem dX1_firstThatCant_43 : decode cX1_firstThatCant 43 = .ok (.iconst (-1), 1) := by decide +kernel
theorem dX1_firstThatCant_44 : decode cX1_firstThatCant 44 = .ok (.ireturn, 1) := by decide +kernel
theorem dX1_seekFarthest_0 : decode cX1_seekFarthest 0 = .ok (.iload_n 2, 1) := by decide +kernel
theorem dX1_seekFarthest_1 : decode cX1_seekFarthest 1 = .ok (.aload_n 0, 1) := by decide +kernel
theorem dX1_seekFarthest_2 : decode cX1_seekFarthest 2 = .ok (.getfield 84, 3) := by decide +kernel
theorem dX1_seekFarthest_5 : decode cX1_seekFarthest 5 = .ok (.if_icmp .gt 4, 3) := by decide +kernel
theorem dX1_seekFarthest_8 : decode cX1_seekFarthest 8 = .ok (.return_, 1) := by decide +kernel
theorem dX1_seekFarthest_9 : decode cX1_seekFarthest 9 = .ok (.iload_n 1, 1) := by decide +kernel
theorem dX1_seekFarthest_10 : decode cX1_seekFarthest 10 = .ok (.aload_n 0, 1) := by decide +kernel
theorem dX1_seekFarthest_11 : decode cX1_seekFarthest 11 = .ok (.getfield 30, 3) := by decide +kernel
theorem dX1_seekFarthest_14 : decode cX1_seekFarthest 14 = .ok (.if_icmp .lt 9, 3) := by decide +kernel
theorem dX1_seekFarthest_17 : decode cX1_seekFarthest 17 = .ok (.aload_n 0, 1) := by decide +kernel
theorem dX1_seekFarthest_18 : decode cX1_seekFarthest 18 = .ok (.iload_n 2, 1) := by decide +kernel
theorem dX1_seekFarthest_19 : decode cX1_seekFarthest 19 = .ok (.putfield 84, 3) := by decide +kernel
theorem dX1_seekFarthest_22 : decode cX1_seekFarthest 22 = .ok (.return_, 1) := by decide +kernel
theorem dX1_seekFarthest_23 : decode cX1_seekFarthest 23 = .ok (.iconst 0, 1) := by decide +kernel
theorem dX1_seekFarthest_24 : decode cX1_seekFarthest 24 = .ok (.istore_n 3, 1) := by decide +kernel
theorem dX1_seekFarthest_25 : decode cX1_seekFarthest 25 = .ok (.iload_n 3, 1) := by decide +kernel
theorem dX1_seekFarthest_26 : decode cX1_seekFarthest 26 = .ok (.iconst 2, 1) := by decide +kernel
theorem dX1_seekFarthest_27 : decode cX1_seekFarthest 27 = .ok (.if_icmp .gt 23, 3) := by decide +kernel
theorem dX1_seekFarthest_30 : decode cX1_seekFarthest 30 = .ok (.aload_n 0, 1) := by decide +kernel
theorem dX1_seekFarthest_31 : decode cX1_seekFarthest 31 = .ok (.iload_n 1, 1) := by decide +kernel
theorem dX1_seekFarthest_32 : decode cX1_seekFarthest 32 = .ok (.iconst 1, 1) := by decide +kernel
theorem dX1_seekFarthest_33 : decode cX1_seekFarthest 33 = .ok (.iadd, 1) := by decide +kernel
theorem dX1_seekFarthest_34 : decode cX1_seekFarthest 34 = .ok (.aload_n 0, 1) := by decide +kernel
theorem dX1_seekFarthest_35 : decode cX1_seekFarthest 35 = .ok (.iload_n 1, 1) := by decide +kernel
theorem dX1_seekFarthest_36 : decode cX1_seekFarthest 36 = .ok (.iload_n 3, 1) := by decide +kernel
theorem dX1_seekFarthest_37 : decode cX1_seekFarthest 37 = .ok (.iload_n 2, 1) := by decide +kernel
theorem dX1_seekFarthest_38 : decode cX1_seekFarthest 38 = .ok (.invokevirtual 80, 3) := by decide +kernel
theorem dX1_seekFarthest_41 : decode cX1_seekFarthest 41 = .ok (.invokevirtual 87, 3) := by decide +kernel
theorem dX1_seekFarthest_44 : decode cX1_seekFarthest 44 = .ok (.iinc 3 1, 3) := by decide +kernel
theorem dX1_seekFarthest_47 : decode cX1_seekFarthest 47 = .ok (.goto (-22), 3) := by decide +kernel
theorem dX1_seekFarthest_50 : decode cX1_seekFarthest 50 = .ok (.return_, 1) := by decide +kernel
theorem dX1_ring_0 : decode cX1_ring 0 = .ok (.iload_n 1, 1) := by decide +kernel
theorem dX1_ring_1 : decode cX1_ring 1 = .ok (.bipush 40, 2) := by decide +kernel
theorem dX1_ring_3 : decode cX1_ring 3 = .ok (.imul, 1) := by decide +kernel
theorem dX1_ring_4 : decode cX1_ring 4 = .ok (.istore 4, 2) := by decide +kernel
theorem dX1_ring_6 : decode cX1_ring 6 = .ok (.iload 4, 2) := by decide +kernel
theorem dX1_ring_8 : decode cX1_ring 8 = .ok (.bipush 40, 2) := by decide +kernel
theorem dX1_ring_10 : decode cX1_ring 10 = .ok (.iadd, 1) := by decide +kernel
theorem dX1_ring_11 : decode cX1_ring 11 = .ok (.istore 5, 2) := by decide +kernel
theorem dX1_ring_13 : decode cX1_ring 13 = .ok (.aload_n 0, 1) := by decide +kernel
theorem dX1_ring_14 : decode cX1_ring 14 = .ok (.getfield 30, 3) := by decide +kernel
theorem dX1_ring_17 : decode cX1_ring 17 = .ok (.iload_n 1, 1) := by decide +kernel
theorem dX1_ring_18 : decode cX1_ring 18 = .ok (.isub, 1) := by decide +kernel
theorem dX1_ring_19 : decode cX1_ring 19 = .ok (.iconst 1, 1) := by decide +kernel
theorem dX1_ring_20 : decode cX1_ring 20 = .ok (.isub, 1) := by decide +kernel
theorem dX1_ring_21 : decode cX1_ring 21 = .ok (.istore 6, 2) := by decide +kernel
theorem dX1_ring_23 : decode cX1_ring 23 = .ok (.iconst 0, 1) := by decide +kernel
theorem dX1_ring_24 : decode cX1_ring 24 = .ok (.istore 7, 2) := by decide +kernel
theorem dX1_ring_26 : decode cX1_ring 26 = .ok (.iload 7, 2) := by decide +kernel
theorem dX1_ring_28 : decode cX1_ring 28 = .ok (.iload_n 3, 1) := by decide +kernel
theorem dX1_ring_29 : decode cX1_ring 29 = .ok (.if_icmp .ge 97, 3) := by decide +kernel
theorem dX1_ring_32 : decode cX1_ring 32 = .ok (.iconst 1, 1) := by decide +kernel
theorem dX1_ring_33 : decode cX1_ring 33 = .ok (.aload_n 0, 1) := by decide +kernel
theorem dX1_ring_34 : decode cX1_ring 34 = .ok (.getfield 9, 3) := by decide +kernel
theorem dX1_ring_37 : decode cX1_ring 37 = .ok (.iload_n 1, 1) := by decide +kernel
theorem dX1_ring_38 : decode cX1_ring 38 = .ok (.iaload, 1) := by decide +kernel
theorem dX1_ring_39 : decode cX1_ring 39 = .ok (.iload_n 2, 1) := by decide +kernel
theorem dX1_ring_40 : decode cX1_ring 40 = .ok (.aload_n 0, 1) := by decide +kernel
theorem dX1_ring_41 : decode cX1_ring 41 = .ok (.getfield 18, 3) := by decide +kernel
theorem dX1_ring_44 : decode cX1_ring 44 = .ok (.iload 7, 2) := by decide +kernel
theorem dX1_ring_46 : decode cX1_ring 46 = .ok (.iaload, 1) := by decide +kernel
theorem dX1_ring_47 : decode cX1_ring 47 = .ok (.imul, 1) := by decide +kernel
theorem dX1_ring_48 : decode cX1_ring 48 = .ok (.isub, 1) := by decide +kernel
theorem dX1_ring_49 : decode cX1_ring 49 = .ok (.bipush 12, 2) := by decide +kernel
theorem dX1_ring_51 : decode cX1_ring 51 = .ok (.invokestatic 95, 3) := by decide +kernel
theorem dX1_ring_54 : decode cX1_ring 54 = .ok (.ishl, 1) := by decide +kernel
theorem dX1_ring_55 : decode cX1_ring 55 = .ok (.istore 8, 2) := by decide +kernel
theorem dX1_ring_57 : decode cX1_ring 57 = .ok (.aload_n 0, 1) := by decide +kernel
theorem dX1_ring_58 : decode cX1_ring 58 = .ok (.getfield 27, 3) := by decide +kernel
theorem dX1_ring_61 : decode cX1_ring 61 = .ok (.iload 4, 2) := by decide +kernel
theorem dX1_ring_63 : decode cX1_ring 63 = .ok (.iload 7, 2) := by decide +kernel
theorem dX1_ring_65 : decode cX1_ring 65 = .ok (.iadd, 1) := by decide +kernel
theorem dX1_ring_66 : decode cX1_ring 66 = .ok (.iaload, 1) := by decide +kernel
theorem dX1_ring_67 : decode cX1_ring 67 = .ok (.iload 8, 2) := by decide +kernel
theorem dX1_ring_69 : decode cX1_ring 69 = .ok (.ior, 1) := by decide +kernel
theorem dX1_ring_70 : decode cX1_ring 70 = .ok (.istore 9, 2) := by decide +kernel
theorem dX1_ring_72 : decode cX1_ring 72 = .ok (.aload_n 0, 1) := by decide +kernel
theorem dX1_ring_73 : decode cX1_ring 73 = .ok (.getfield 21, 3) := by decide +kernel
theorem dX1_ring_76 : decode cX1_ring 76 = .ok (.iload 7, 2) := by decide +kernel
theorem dX1_ring_78 : decode cX1_ring 78 = .ok (.iaload, 1) := by decide +kernel
theorem dX1_ring_79 : decode cX1_ring 79 = .ok (.iload 8, 2) := by decide +kernel
theorem dX1_ring_81 : decode cX1_ring 81 = .ok (.iand, 1) := by decide +kernel
theorem dX1_ring_82 : decode cX1_ring 82 = .ok (.ifCond .eq 23, 3) := by decide +kernel
theorem dX1_ring_85 : decode cX1_ring 85 = .ok (.aload_n 0, 1) := by decide +kernel
theorem dX1_ring_86 : decode cX1_ring 86 = .ok (.getfield 21, 3) := by decide +kernel
theorem dX1_ring_89 : decode cX1_ring 89 = .ok (.iload 7, 2) := by decide +kernel
theorem dX1_ring_91 : decode cX1_ring 91 = .ok (.iaload, 1) := by decide +kernel
theorem dX1_ring_92 : decode cX1_ring 92 = .ok (.iload 9, 2) := by decide +kernel
theorem dX1_ring_94 : decode cX1_ring 94 = .ok (.iconst (-1), 1) := by decide +kernel
theorem dX1_ring_95 : decode cX1_ring 95 = .ok (.ixor, 1) := by decide +kernel
theorem dX1_ring_96 : decode cX1_ring 96 = .ok (.iand, 1) := by decide +kernel
theorem dX1_ring_97 : decode cX1_ring 97 = .ok (.invokestatic 101, 3) := by decide +kernel
theorem dX1_ring_100 : decode cX1_ring 100 = .ok (.iload 6, 2) := by decide +kernel
theorem dX1_ring_102 : decode cX1_ring 102 = .ok (.if_icmp .le 6, 3) := by decide +kernel
theorem dX1_ring_105 : decode cX1_ring 105 = .ok (.iload 7, 2) := by decide +kernel
theorem dX1_ring_107 : decode cX1_ring 107 = .ok (.ireturn, 1) := by decide +kernel
theorem dX1_ring_108 : decode cX1_ring 108 = .ok (.aload_n 0, 1) := by decide +kernel
theorem dX1_ring_109 : decode cX1_ring 109 = .ok (.getfield 27, 3) := by decide +kernel
theorem dX1_ring_112 : decode cX1_ring 112 = .ok (.iload 5, 2) := by decide +kernel
theorem dX1_ring_114 : decode cX1_ring 114 = .ok (.iload 7, 2) := by decide +kernel
theorem dX1_ring_116 : decode cX1_ring 116 = .ok (.iadd, 1) := by decide +kernel
theorem dX1_ring_117 : decode cX1_ring 117 = .ok (.iload 9, 2) := by decide +kernel
theorem dX1_ring_119 : decode cX1_ring 119 = .ok (.iastore, 1) := by decide +kernel
theorem dX1_ring_120 : decode cX1_ring 120 = .ok (.iinc 7 1, 3) := by decide +kernel
theorem dX1_ring_123 : decode cX1_ring 123 = .ok (.goto (-97), 3) := by decide +kernel
theorem dX1_ring_126 : decode cX1_ring 126 = .ok (.iload_n 3, 1) := by decide +kernel
theorem dX1_ring_127 : decode cX1_ring 127 = .ok (.ireturn, 1) := by decide +kernel
theorem dX1_countNotTooMany_0 : decode cX1_countNotTooMany 0 = .ok (.iconst 0, 1) := by decide +kernel
theorem dX1_countNotTooMany_1 : decode cX1_countNotTooMany 1 = .ok (.istore_n 1, 1) := by decide +kernel
theorem dX1_countNotTooMany_2 : decode cX1_countNotTooMany 2 = .ok (.iload_n 1, 1) := by decide +kernel
theorem dX1_countNotTooMany_3 : decode cX1_countNotTooMany 3 = .ok (.aload_n 0, 1) := by decide +kernel
theorem dX1_countNotTooMany_4 : decode cX1_countNotTooMany 4 = .ok (.getfield 44, 3) := by decide +kernel
theorem dX1_countNotTooMany_7 : decode cX1_countNotTooMany 7 = .ok (.if_icmp .ge 25, 3) := by decide +kernel
theorem dX1_countNotTooMany_10 : decode cX1_countNotTooMany 10 = .ok (.aload_n 0, 1) := by decide +kernel
theorem dX1_countNotTooMany_11 : decode cX1_countNotTooMany 11 = .ok (.getfield 21, 3) := by decide +kernel
theorem dX1_countNotTooMany_14 : decode cX1_countNotTooMany 14 = .ok (.iload_n 1, 1) := by decide +kernel
theorem dX1_countNotTooMany_15 : decode cX1_countNotTooMany 15 = .ok (.iaload, 1) := by decide +kernel
theorem dX1_countNotTooMany_16 : decode cX1_countNotTooMany 16 = .ok (.invokestatic 101, 3) := by decide +kernel
theorem dX1_countNotTooMany_19 : decode cX1_countNotTooMany 19 = .ok (.aload_n 0, 1) := by decide +kernel
theorem dX1_countNotTooMany_20 : decode cX1_countNotTooMany 20 = .ok (.getfield 30, 3) := by decide +kernel
theorem dX1_countNotTooMany_23 : decode cX1_countNotTooMany 23 = .ok (.if_icmp .gt 9, 3) := by decide +kernel
theorem dX1_countNotTooMany_26 : decode cX1_countNotTooMany 26 = .ok (.iinc 1 1, 3) := by decide +kernel
theorem dX1_countNotTooMany_29 : decode cX1_countNotTooMany 29 = .ok (.goto (-27), 3) := by decide +kernel
theorem dX1_countNotTooMany_32 : decode cX1_countNotTooMany 32 = .ok (.iload_n 1, 1) := by decide +kernel
theorem dX1_countNotTooMany_33 : decode cX1_countNotTooMany 33 = .ok (.ireturn, 1) := by decide +kernel
theorem dX2_init_0 : decode cX2_init 0 = .ok (.aload_n 0, 1) := by decide +kernel
theorem dX2_init_1 : decode cX2_init 1 = .ok (.invokespecial 3, 3) := by decide +kernel
theorem dX2_init_4 : decode cX2_init 4 = .ok (.aload_n 0, 1) := by decide +kernel
theorem dX2_init_5 : decode cX2_init 5 = .ok (.bipush 8, 2) := by decide +kernel
theorem dX2_init_7 : decode cX2_init 7 = .ok (.newarray .int, 2) := by decide +kernel
theorem dX2_init_9 : decode cX2_init 9 = .ok (.putfield 9, 3) := by decide +kernel
theorem dX2_init_12 : decode cX2_init 12 = .ok (.return_, 1) := by decide +kernel
theorem dX2_deal_0 : decode cX2_deal 0 = .ok (.aload_n 0, 1) := by decide +kernel
theorem dX2_deal_1 : decode cX2_deal 1 = .ok (.iload_n 2, 1) := by decide +kernel
theorem dX2_deal_2 : decode cX2_deal 2 = .ok (.putfield 15, 3) := by decide +kernel
theorem dX2_deal_5 : decode cX2_deal 5 = .ok (.aload_n 0, 1) := by decide +kernel
theorem dX2_deal_6 : decode cX2_deal 6 = .ok (.iconst 0, 1) := by decide +kernel
theorem dX2_deal_7 : decode cX2_deal 7 = .ok (.putfield 19, 3) := by decide +kernel
theorem dX2_deal_10 : decode cX2_deal 10 = .ok (.iconst 0, 1) := by decide +kernel
theorem dX2_deal_11 : decode cX2_deal 11 = .ok (.istore 4, 2) := by decide +kernel
theorem dX2_deal_13 : decode cX2_deal 13 = .ok (.iload 4, 2) := by decide +kernel
theorem dX2_deal_15 : decode cX2_deal 15 = .ok (.aload_n 1, 1) := by decide +kernel
theorem dX2_deal_16 : decode cX2_deal 16 = .ok (.getfield 22, 3) := by decide +kernel
theorem dX2_deal_19 : decode cX2_deal 19 = .ok (.if_icmp .ge 53, 3) := by decide +kernel
theorem dX2_deal_22 : decode cX2_deal 22 = .ok (.aload_n 0, 1) := by decide +kernel
theorem dX2_deal_23 : decode cX2_deal 23 = .ok (.getfield 19, 3) := by decide +kernel
theorem dX2_deal_26 : decode cX2_deal 26 = .ok (.bipush 8, 2) := by decide +kernel
theorem dX2_deal_28 : decode cX2_deal 28 = .ok (.if_icmp .ge 44, 3) := by decide +kernel
theorem dX2_deal_31 : decode cX2_deal 31 = .ok (.aload_n 1, 1) := by decide +kernel
theorem dX2_deal_32 : decode cX2_deal 32 = .ok (.iload 4, 2) := by decide +kernel
theorem dX2_deal_34 : decode cX2_deal 34 = .ok (.invokevirtual 27, 3) := by decide +kernel
theorem dX2_deal_37 : decode cX2_deal 37 = .ok (.ifCond .eq 29, 3) := by decide +kernel
theorem dX2_deal_40 : decode cX2_deal 40 = .ok (.aload_n 0, 1) := by decide +kernel
theorem dX2_deal_41 : decode cX2_deal 41 = .ok (.getfield 9, 3) := by decide +kernel
theorem dX2_deal_44 : decode cX2_deal 44 = .ok (.aload_n 0, 1) := by decide +kernel
theorem dX2_deal_45 : decode cX2_deal 45 = .ok (.getfield 19, 3) := by decide +kernel
theorem dX2_deal_48 : decode cX2_deal 48 = .ok (.aload_n 1, 1) := by decide +kernel
theorem dX2_deal_49 : decode cX2_deal 49 = .ok (.getfield 31, 3) := by decide +kernel
theorem dX2_deal_52 : decode cX2_deal 52 = .ok (.iload 4, 2) := by decide +kernel
theorem dX2_deal_54 : decode cX2_deal 54 = .ok (.iaload, 1) := by decide +kernel
theorem dX2_deal_55 : decode cX2_deal 55 = .ok (.iastore, 1) := by decide +kernel
theorem dX2_deal_56 : decode cX2_deal 56 = .ok (.aload_n 0, 1) := by decide +kernel
theorem dX2_deal_57 : decode cX2_deal 57 = .ok (.dup, 1) := by decide +kernel
theorem dX2_deal_58 : decode cX2_deal 58 = .ok (.getfield 19, 3) := by decide +kernel
theorem dX2_deal_61 : decode cX2_deal 61 = .ok (.iconst 1, 1) := by decide +kernel
theorem dX2_deal_62 : decode cX2_deal 62 = .ok (.iadd, 1) := by decide +kernel
theorem dX2_deal_63 : decode cX2_deal 63 = .ok (.putfield 19, 3) := by decide +kernel
theorem dX2_deal_66 : decode cX2_deal 66 = .ok (.iinc 4 1, 3) := by decide +kernel
theorem dX2_deal_69 : decode cX2_deal 69 = .ok (.goto (-56), 3) := by decide +kernel
theorem dX2_deal_72 : decode cX2_deal 72 = .ok (.iconst 0, 1) := by decide +kernel
theorem dX2_deal_73 : decode cX2_deal 73 = .ok (.istore 4, 2) := by decide +kernel
theorem dX2_deal_75 : decode cX2_deal 75 = .ok (.iload 4, 2) := by decide +kernel
theorem dX2_deal_77 : decode cX2_deal 77 = .ok (.aload_n 0, 1) := by decide +kernel
theorem dX2_deal_78 : decode cX2_deal 78 = .ok (.getfield 19, 3) := by decide +kernel
theorem dX2_deal_81 : decode cX2_deal 81 = .ok (.if_icmp .ge 24, 3) := by decide +kernel
theorem dX2_deal_84 : decode cX2_deal 84 = .ok (.aload_n 0, 1) := by decide +kernel
theorem dX2_deal_85 : decode cX2_deal 85 = .ok (.iconst 0, 1) := by decide +kernel
theorem dX2_deal_86 : decode cX2_deal 86 = .ok (.iconst 0, 1) := by decide +kernel
theorem dX2_deal_87 : decode cX2_deal 87 = .ok (.iload 4, 2) := by decide +kernel
theorem dX2_deal_89 : decode cX2_deal 89 = .ok (.aload_n 3, 1) := by decide +kernel
theorem dX2_deal_90 : decode cX2_deal 90 = .ok (.invokevirtual 32, 3) := by decide +kernel
theorem dX2_deal_93 : decode cX2_deal 93 = .ok (.ifCond .eq 6, 3) := by decide +kernel
theorem dX2_deal_96 : decode cX2_deal 96 = .ok (.iload 4, 2) := by decide +kernel
theorem dX2_deal_98 : decode cX2_deal 98 = .ok (.ireturn, 1) := by decide +kernel
theorem dX2_deal_99 : decode cX2_deal 99 = .ok (.iinc 4 1, 3) := by decide +kernel
theorem dX2_deal_102 : decode cX2_deal 102 = .ok (.goto (-27), 3) := by decide +kernel
theorem dX2_deal_105 : decode cX2_deal 105 = .ok (.aload_n 0, 1) := by decide +kernel
theorem dX2_deal_106 : decode cX2_deal 106 = .ok (.iconst 0, 1) := by decide +kernel
theorem dX2_deal_107 : decode cX2_deal 107 = .ok (.iconst 0, 1) := by decide +kernel
theorem dX2_deal_108 : decode cX2_deal 108 = .ok (.aload_n 0, 1) := by decide +kernel
theorem dX2_deal_109 : decode cX2_deal 109 = .ok (.getfield 19, 3) := by decide +kernel
theorem dX2_deal_112 : decode cX2_deal 112 = .ok (.aload_n 3, 1) := by decide +kernel
theorem dX2_deal_113 : decode cX2_deal 113 = .ok (.invokevirtual 32, 3) := by decide +kernel
theorem dX2_deal_116 : decode cX2_deal 116 = .ok (.pop, 1) := by decide +kernel
theorem dX2_deal_117 : decode cX2_deal 117 = .ok (.aload_n 0, 1) := by decide +kernel
theorem dX2_deal_118 : decode cX2_deal 118 = .ok (.getfield 19, 3) := by decide +kernel
theorem dX2_deal_121 : decode cX2_deal 121 = .ok (.ireturn, 1) := by decide +kernel
theorem dX2_dealFrom_0 : decode cX2_dealFrom 0 = .ok (.iload_n 1, 1) := by decide +kernel
theorem dX2_dealFrom_1 : decode cX2_dealFrom 1 = .ok (.aload_n 0, 1) := by decide +kernel
theorem dX2_dealFrom_2 : decode cX2_dealFrom 2 = .ok (.getfield 19, 3) := by decide +kernel
theorem dX2_dealFrom_5 : decode cX2_dealFrom 5 = .ok (.if_icmp .lt 5, 3) := by decide +kernel
theorem dX2_dealFrom_8 : decode cX2_dealFrom 8 = .ok (.iconst 1, 1) := by decide +kernel
theorem dX2_dealFrom_9 : decode cX2_dealFrom 9 = .ok (.ireturn, 1) := by decide +kernel
theorem dX2_dealFrom_10 : decode cX2_dealFrom 10 = .ok (.iconst 0, 1) := by decide +kernel
theorem dX2_dealFrom_11 : decode cX2_dealFrom 11 = .ok (.istore 5, 2) := by decide +kernel
theorem dX2_dealFrom_13 : decode cX2_dealFrom 13 = .ok (.iload 5, 2) := by decide +kernel
theorem dX2_dealFrom_15 : decode cX2_dealFrom 15 = .ok (.iload_n 2, 1) := by decide +kernel
theorem dX2_dealFrom_16 : decode cX2_dealFrom 16 = .ok (.if_icmp .gt 56, 3) := by decide +kernel
theorem dX2_dealFrom_19 : decode cX2_dealFrom 19 = .ok (.iload 5, 2) := by decide +kernel
theorem dX2_dealFrom_21 : decode cX2_dealFrom 21 = .ok (.iload_n 3, 1) := by decide +kernel
theorem dX2_dealFrom_22 : decode cX2_dealFrom 22 = .ok (.if_icmp .ge 50, 3) := by decide +kernel
theorem dX2_dealFrom_25 : decode cX2_dealFrom 25 = .ok (.aload_n 0, 1) := by decide +kernel
theorem dX2_dealFrom_26 : decode cX2_dealFrom 26 = .ok (.iload_n 1, 1) := by decide +kernel
theorem dX2_dealFrom_27 : decode cX2_dealFrom 27 = .ok (.iload 5, 2) := by decide +kernel
theorem dX2_dealFrom_29 : decode cX2_dealFrom 29 = .ok (.aload 4, 2) := by decide +kernel
theorem dX2_dealFrom_31 : decode cX2_dealFrom 31 = .ok (.invokevirtual 36, 3) := by decide +kernel
theorem dX2_dealFrom_34 : decode cX2_dealFrom 34 = .ok (.ifCond .eq 32, 3) := by decide +kernel
theorem dX2_dealFrom_37 : decode cX2_dealFrom 37 = .ok (.aload 4, 2) := by decide +kernel
theorem dX2_dealFrom_39 : decode cX2_dealFrom 39 = .ok (.iload_n 1, 1) := by decide +kernel
theorem dX2_dealFrom_40 : decode cX2_dealFrom 40 = .ok (.iload 5, 2) := by decide +kernel
theorem dX2_dealFrom_42 : decode cX2_dealFrom 42 = .ok (.iastore, 1) := by decide +kernel
theorem dX2_dealFrom_43 : decode cX2_dealFrom 43 = .ok (.aload_n 0, 1) := by decide +kernel
theorem dX2_dealFrom_44 : decode cX2_dealFrom 44 = .ok (.iload_n 1, 1) := by decide +kernel
theorem dX2_dealFrom_45 : decode cX2_dealFrom 45 = .ok (.iconst 1, 1) := by decide +kernel
theorem dX2_dealFrom_46 : decode cX2_dealFrom 46 = .ok (.iadd, 1) := by decide +kernel
theorem dX2_dealFrom_47 : decode cX2_dealFrom 47 = .ok (.iload_n 2, 1) := by decide +kernel
theorem dX2_dealFrom_48 : decode cX2_dealFrom 48 = .ok (.iload 5, 2) := by decide +kernel
theorem dX2_dealFrom_50 : decode cX2_dealFrom 50 = .ok (.iconst 1, 1) := by decide +kernel
theorem dX2_dealFrom_51 : decode cX2_dealFrom 51 = .ok (.iadd, 1) := by decide +kernel
theorem dX2_dealFrom_52 : decode cX2_dealFrom 52 = .ok (.invokestatic 40, 3) := by decide +kernel
theorem dX2_dealFrom_55 : decode cX2_dealFrom 55 = .ok (.iload_n 3, 1) := by decide +kernel
theorem dX2_dealFrom_56 : decode cX2_dealFrom 56 = .ok (.aload 4, 2) := by decide +kernel
theorem dX2_dealFrom_58 : decode cX2_dealFrom 58 = .ok (.invokevirtual 32, 3) := by decide +kernel
theorem dX2_dealFrom_61 : decode cX2_dealFrom 61 = .ok (.ifCond .eq 5, 3) := by decide +kernel
theorem dX2_dealFrom_64 : decode cX2_dealFrom 64 = .ok (.iconst 1, 1) := by decide +kernel
theorem dX2_dealFrom_65 : decode cX2_dealFrom 65 = .ok (.ireturn, 1) := by decide +kernel
theorem dX2_dealFrom_66 : decode cX2_dealFrom 66 = .ok (.iinc 5 1, 3) := by decide +kernel
theorem dX2_dealFrom_69 : decode cX2_dealFrom 69 = .ok (.goto (-56), 3) := by decide +kernel
theorem dX2_dealFrom_72 : decode cX2_dealFrom 72 = .ok (.iconst 0, 1) := by decide +kernel
theorem dX2_dealFrom_73 : decode cX2_dealFrom 73 = .ok (.ireturn, 1) := by decide +kernel
theorem dX2_isKnown_0 : decode cX2_isKnown 0 = .ok (.iconst 0, 1) := by decide +kernel
theorem dX2_isKnown_1 : decode cX2_isKnown 1 = .ok (.istore 4, 2) := by decide +kernel
theorem dX2_isKnown_3 : decode cX2_isKnown 3 = .ok (.iload 4, 2) := by decide +kernel
theorem dX2_isKnown_5 : decode cX2_isKnown 5 = .ok (.iload_n 1, 1) := by decide +kernel
theorem dX2_isKnown_6 : decode cX2_isKnown 6 = .ok (.if_icmp .ge 35, 3) := by decide +kernel
theorem dX2_isKnown_9 : decode cX2_isKnown 9 = .ok (.aload_n 3, 1) := by decide +kernel
theorem dX2_isKnown_10 : decode cX2_isKnown 10 = .ok (.iload 4, 2) := by decide +kernel
theorem dX2_isKnown_12 : decode cX2_isKnown 12 = .ok (.iaload, 1) := by decide +kernel
theorem dX2_isKnown_13 : decode cX2_isKnown 13 = .ok (.iload_n 2, 1) := by decide +kernel
theorem dX2_isKnown_14 : decode cX2_isKnown 14 = .ok (.if_icmp .ne 21, 3) := by decide +kernel
theorem dX2_isKnown_17 : decode cX2_isKnown 17 = .ok (.aload_n 0, 1) := by decide +kernel
theorem dX2_isKnown_18 : decode cX2_isKnown 18 = .ok (.getfield 9, 3) := by decide +kernel
theorem dX2_isKnown_21 : decode cX2_isKnown 21 = .ok (.iload 4, 2) := by decide +kernel
theorem dX2_isKnown_23 : decode cX2_isKnown 23 = .ok (.iaload, 1) := by decide +kernel
theorem dX2_isKnown_24 : decode cX2_isKnown 24 = .ok (.aload_n 0, 1) := by decide +kernel
theorem dX2_isKnown_25 : decode cX2_isKnown 25 = .ok (.getfield 9, 3) := by decide +kernel
theorem dX2_isKnown_28 : decode cX2_isKnown 28 = .ok (.iload_n 1, 1) := by decide +kernel
theorem dX2_isKnown_29 : decode cX2_isKnown 29 = .ok (.iaload, 1) := by decide +kernel
theorem dX2_isKnown_30 : decode cX2_isKnown 30 = .ok (.if_icmp .ne 5, 3) := by decide +kernel
theorem dX2_isKnown_33 : decode cX2_isKnown 33 = .ok (.iconst 0, 1) := by decide +kernel
theorem dX2_isKnown_34 : decode cX2_isKnown 34 = .ok (.ireturn, 1) := by decide +kernel
theorem dX2_isKnown_35 : decode cX2_isKnown 35 = .ok (.iinc 4 1, 3) := by decide +kernel
theorem dX2_isKnown_38 : decode cX2_isKnown 38 = .ok (.goto (-35), 3) := by decide +kernel
theorem dX2_isKnown_41 : decode cX2_isKnown 41 = .ok (.aload_n 0, 1) := by decide +kernel
theorem dX2_isKnown_42 : decode cX2_isKnown 42 = .ok (.getfield 15, 3) := by decide +kernel
theorem dX2_isKnown_45 : decode cX2_isKnown 45 = .ok (.iconst 1, 1) := by decide +kernel
theorem dX2_isKnown_46 : decode cX2_isKnown 46 = .ok (.if_icmp .eq 13, 3) := by decide +kernel
theorem dX2_isKnown_49 : decode cX2_isKnown 49 = .ok (.aload_n 0, 1) := by decide +kernel
theorem dX2_isKnown_50 : decode cX2_isKnown 50 = .ok (.iload_n 1, 1) := by decide +kernel
theorem dX2_isKnown_51 : decode cX2_isKnown 51 = .ok (.iload_n 2, 1) := by decide +kernel
theorem dX2_isKnown_52 : decode cX2_isKnown 52 = .ok (.aload_n 3, 1) := by decide +kernel
theorem dX2_isKnown_53 : decode cX2_isKnown 53 = .ok (.invokevirtual 46, 3) := by decide +kernel
theorem dX2_isKnown_56 : decode cX2_isKnown 56 = .ok (.ifCond .eq 7, 3) := by decide +kernel
theorem dX2_isKnown_59 : decode cX2_isKnown 59 = .ok (.iconst 1, 1) := by decide +kernel
theorem dX2_isKnown_60 : decode cX2_isKnown 60 = .ok (.goto 4, 3) := by decide +kernel
theorem dX2_isKnown_63 : decode cX2_isKnown 63 = .ok (.iconst 0, 1) := by decide +kernel
theorem dX2_isKnown_64 : decode cX2_isKnown 64 = .ok (.ireturn, 1) := by decide +kernel
theorem dX2_twoAreKnown_0 : decode cX2_twoAreKnown 0 = .ok (.aload_n 0, 1) := by decide +kernel
theorem dX2_twoAreKnown_1 : decode cX2_twoAreKnown 1 = .ok (.getfield 9, 3) := by decide +kernel
theorem dX2_twoAreKnown_4 : decode cX2_twoAreKnown 4 = .ok (.iload_n 1, 1) := by decide +kernel
theorem dX2_twoAreKnown_5 : decode cX2_twoAreKnown 5 = .ok (.iaload, 1) := by decide +kernel
theorem dX2_twoAreKnown_6 : decode cX2_twoAreKnown 6 = .ok (.istore 4, 2) := by decide +kernel
theorem dX2_twoAreKnown_8 : decode cX2_twoAreKnown 8 = .ok (.iconst 0, 1) := by decide +kernel
theorem dX2_twoAreKnown_9 : decode cX2_twoAreKnown 9 = .ok (.istore 5, 2) := by decide +kernel
theorem dX2_twoAreKnown_11 : decode cX2_twoAreKnown 11 = .ok (.iload 5, 2) := by decide +kernel
theorem dX2_twoAreKnown_13 : decode cX2_twoAreKnown 13 = .ok (.iload_n 1, 1) := by decide +kernel
theorem dX2_twoAreKnown_14 : decode cX2_twoAreKnown 14 = .ok (.if_icmp .ge 107, 3) := by decide +kernel
theorem dX2_twoAreKnown_17 : decode cX2_twoAreKnown 17 = .ok (.iconst 0, 1) := by decide +kernel
theorem dX2_twoAreKnown_18 : decode cX2_twoAreKnown 18 = .ok (.istore 6, 2) := by decide +kernel
theorem dX2_twoAreKnown_20 : decode cX2_twoAreKnown 20 = .ok (.iload 6, 2) := by decide +kernel
theorem dX2_twoAreKnown_22 : decode cX2_twoAreKnown 22 = .ok (.iload 5, 2) := by decide +kernel
theorem dX2_twoAreKnown_24 : decode cX2_twoAreKnown 24 = .ok (.if_icmp .ge 91, 3) := by decide +kernel
theorem dX2_twoAreKnown_27 : decode cX2_twoAreKnown 27 = .ok (.aload_n 3, 1) := by decide +kernel
theorem dX2_twoAreKnown_28 : decode cX2_twoAreKnown 28 = .ok (.iload 5, 2) := by decide +kernel
theorem dX2_twoAreKnown_30 : decode cX2_twoAreKnown 30 = .ok (.iaload, 1) := by decide +kernel
theorem dX2_twoAreKnown_31 : decode cX2_twoAreKnown 31 = .ok (.iload_n 2, 1) := by decide +kernel
theorem dX2_twoAreKnown_32 : decode cX2_twoAreKnown 32 = .ok (.if_icmp .ne 77, 3) := by decide +kernel
theorem dX2_twoAreKnown_35 : decode cX2_twoAreKnown 35 = .ok (.aload_n 3, 1) := by decide +kernel
theorem dX2_twoAreKnown_36 : decode cX2_twoAreKnown 36 = .ok (.iload 6, 2) := by decide +kernel
theorem dX2_twoAreKnown_38 : decode cX2_twoAreKnown 38 = .ok (.iaload, 1) := by decide +kernel
theorem dX2_twoAreKnown_39 : decode cX2_twoAreKnown 39 = .ok (.iload_n 2, 1) := by decide +kernel
theorem dX2_twoAreKnown_40 : decode cX2_twoAreKnown 40 = .ok (.if_icmp .ne 69, 3) := by decide +kernel
theorem dX2_twoAreKnown_43 : decode cX2_twoAreKnown 43 = .ok (.aload_n 0, 1) := by decide +kernel
theorem dX2_twoAreKnown_44 : decode cX2_twoAreKnown 44 = .ok (.getfield 9, 3) := by decide +kernel
theorem dX2_twoAreKnown_47 : decode cX2_twoAreKnown 47 = .ok (.iload 5, 2) := by decide +kernel
theorem dX2_twoAreKnown_49 : decode cX2_twoAreKnown 49 = .ok (.iaload, 1) := by decide +kernel
theorem dX2_twoAreKnown_50 : decode cX2_twoAreKnown 50 = .ok (.aload_n 0, 1) := by decide +kernel
theorem dX2_twoAreKnown_51 : decode cX2_twoAreKnown 51 = .ok (.getfield 9, 3) := by decide +kernel
theorem dX2_twoAreKnown_54 : decode cX2_twoAreKnown 54 = .ok (.iload 6, 2) := by decide +kernel
theorem dX2_twoAreKnown_56 : decode cX2_twoAreKnown 56 = .ok (.iaload, 1) := by decide +kernel
theorem dX2_twoAreKnown_57 : decode cX2_twoAreKnown 57 = .ok (.iadd, 1) := by decide +kernel
theorem dX2_twoAreKnown_58 : decode cX2_twoAreKnown 58 = .ok (.istore 7, 2) := by decide +kernel
theorem dX2_twoAreKnown_60 : decode cX2_twoAreKnown 60 = .ok (.iload 7, 2) := by decide +kernel
theorem dX2_twoAreKnown_62 : decode cX2_twoAreKnown 62 = .ok (.iload 4, 2) := by decide +kernel
theorem dX2_twoAreKnown_64 : decode cX2_twoAreKnown 64 = .ok (.if_icmp .eq 26, 3) := by decide +kernel
theorem dX2_twoAreKnown_67 : decode cX2_twoAreKnown 67 = .ok (.aload_n 0, 1) := by decide +kernel
theorem dX2_twoAreKnown_68 : decode cX2_twoAreKnown 68 = .ok (.getfield 9, 3) := by decide +kernel
theorem dX2_twoAreKnown_71 : decode cX2_twoAreKnown 71 = .ok (.iload 5, 2) := by decide +kernel
theorem dX2_twoAreKnown_73 : decode cX2_twoAreKnown 73 = .ok (.iaload, 1) := by decide +kernel
theorem dX2_twoAreKnown_74 : decode cX2_twoAreKnown 74 = .ok (.aload_n 0, 1) := by decide +kernel
theorem dX2_twoAreKnown_75 : decode cX2_twoAreKnown 75 = .ok (.getfield 9, 3) := by decide +kernel
theorem dX2_twoAreKnown_78 : decode cX2_twoAreKnown 78 = .ok (.iload 6, 2) := by decide +kernel
theorem dX2_twoAreKnown_80 : decode cX2_twoAreKnown 80 = .ok (.iaload, 1) := by decide +kernel
theorem dX2_twoAreKnown_81 : decode cX2_twoAreKnown 81 = .ok (.isub, 1) := by decide +kernel
theorem dX2_twoAreKnown_82 : decode cX2_twoAreKnown 82 = .ok (.invokestatic 49, 3) := by decide +kernel
theorem dX2_twoAreKnown_85 : decode cX2_twoAreKnown 85 = .ok (.iload 4, 2) := by decide +kernel
theorem dX2_twoAreKnown_87 : decode cX2_twoAreKnown 87 = .ok (.if_icmp .ne 5, 3) := by decide +kernel
theorem dX2_twoAreKnown_90 : decode cX2_twoAreKnown 90 = .ok (.iconst 0, 1) := by decide +kernel
theorem dX2_twoAreKnown_91 : decode cX2_twoAreKnown 91 = .ok (.ireturn, 1) := by decide +kernel
theorem dX2_twoAreKnown_92 : decode cX2_twoAreKnown 92 = .ok (.aload_n 0, 1) := by decide +kernel
theorem dX2_twoAreKnown_93 : decode cX2_twoAreKnown 93 = .ok (.iload 7, 2) := by decide +kernel
theorem dX2_twoAreKnown_95 : decode cX2_twoAreKnown 95 = .ok (.iload 4, 2) := by decide +kernel
theorem dX2_twoAreKnown_97 : decode cX2_twoAreKnown 97 = .ok (.isub, 1) := by decide +kernel
theorem dX2_twoAreKnown_98 : decode cX2_twoAreKnown 98 = .ok (.iload_n 1, 1) := by decide +kernel
theorem dX2_twoAreKnown_99 : decode cX2_twoAreKnown 99 = .ok (.iload_n 2, 1) := by decide +kernel
theorem dX2_twoAreKnown_100 : decode cX2_twoAreKnown 100 = .ok (.aload_n 3, 1) := by decide +kernel
theorem dX2_twoAreKnown_101 : decode cX2_twoAreKnown 101 = .ok (.invokevirtual 53, 3) := by decide +kernel
theorem dX2_twoAreKnown_104 : decode cX2_twoAreKnown 104 = .ok (.ifCond .eq 5, 3) := by decide +kernel
theorem dX2_twoAreKnown_107 : decode cX2_twoAreKnown 107 = .ok (.iconst 0, 1) := by decide +kernel
theorem dX2_twoAreKnown_108 : decode cX2_twoAreKnown 108 = .ok (.ireturn, 1) := by decide +kernel
theorem dX2_twoAreKnown_109 : decode cX2_twoAreKnown 109 = .ok (.iinc 6 1, 3) := by decide +kernel
theorem dX2_twoAreKnown_112 : decode cX2_twoAreKnown 112 = .ok (.goto (-92), 3) := by decide +kernel
theorem dX2_twoAreKnown_115 : decode cX2_twoAreKnown 115 = .ok (.iinc 5 1, 3) := by decide +kernel
theorem dX2_twoAreKnown_118 : decode cX2_twoAreKnown 118 = .ok (.goto (-107), 3) := by decide +kernel
theorem dX2_twoAreKnown_121 : decode cX2_twoAreKnown 121 = .ok (.iconst 1, 1) := by decide +kernel
theorem dX2_twoAreKnown_122 : decode cX2_twoAreKnown 122 = .ok (.ireturn, 1) := by decide +kernel
theorem dX2_hasLoud_0 : decode cX2_hasLoud 0 = .ok (.iconst 0, 1) := by decide +kernel
theorem dX2_hasLoud_1 : decode cX2_hasLoud 1 = .ok (.istore 5, 2) := by decide +kernel
theorem dX2_hasLoud_3 : decode cX2_hasLoud 3 = .ok (.iload 5, 2) := by decide +kernel
theorem dX2_hasLoud_5 : decode cX2_hasLoud 5 = .ok (.iload_n 2, 1) := by decide +kernel
theorem dX2_hasLoud_6 : decode cX2_hasLoud 6 = .ok (.if_icmp .ge 31, 3) := by decide +kernel
theorem dX2_hasLoud_9 : decode cX2_hasLoud 9 = .ok (.aload 4, 2) := by decide +kernel
theorem dX2_hasLoud_11 : decode cX2_hasLoud 11 = .ok (.iload 5, 2) := by decide +kernel
theorem dX2_hasLoud_13 : decode cX2_hasLoud 13 = .ok (.iaload, 1) := by decide +kernel
theorem dX2_hasLoud_14 : decode cX2_hasLoud 14 = .ok (.iload_n 3, 1) := by decide +kernel
theorem dX2_hasLoud_15 : decode cX2_hasLoud 15 = .ok (.if_icmp .ne 16, 3) := by decide +kernel
theorem dX2_hasLoud_18 : decode cX2_hasLoud 18 = .ok (.aload_n 0, 1) := by decide +kernel
theorem dX2_hasLoud_19 : decode cX2_hasLoud 19 = .ok (.getfield 9, 3) := by decide +kernel
theorem dX2_hasLoud_22 : decode cX2_hasLoud 22 = .ok (.iload 5, 2) := by decide +kernel
theorem dX2_hasLoud_24 : decode cX2_hasLoud 24 = .ok (.iaload, 1) := by decide +kernel
theorem dX2_hasLoud_25 : decode cX2_hasLoud 25 = .ok (.iload_n 1, 1) := by decide +kernel
theorem dX2_hasLoud_26 : decode cX2_hasLoud 26 = .ok (.if_icmp .ne 5, 3) := by decide +kernel
theorem dX2_hasLoud_29 : decode cX2_hasLoud 29 = .ok (.iconst 1, 1) := by decide +kernel
theorem dX2_hasLoud_30 : decode cX2_hasLoud 30 = .ok (.ireturn, 1) := by decide +kernel
theorem dX2_hasLoud_31 : decode cX2_hasLoud 31 = .ok (.iinc 5 1, 3) := by decide +kernel
theorem dX2_hasLoud_34 : decode cX2_hasLoud 34 = .ok (.goto (-31), 3) := by decide +kernel
theorem dX2_hasLoud_37 : decode cX2_hasLoud 37 = .ok (.iconst 0, 1) := by decide +kernel
theorem dX2_hasLoud_38 : decode cX2_hasLoud 38 = .ok (.ireturn, 1) := by decide +kernel
theorem dX3_init_0 : decode cX3_init 0 = .ok (.aload_n 0, 1) := by decide +kernel
theorem dX3_init_1 : decode cX3_init 1 = .ok (.invokespecial 3, 3) := by decide +kernel
theorem dX3_init_4 : decode cX3_init 4 = .ok (.aload_n 0, 1) := by decide +kernel
theorem dX3_init_5 : decode cX3_init 5 = .ok (.bipush 11, 2) := by decide +kernel
theorem dX3_init_7 : decode cX3_init 7 = .ok (.newarray .int, 2) := by decide +kernel
theorem dX3_init_9 : decode cX3_init 9 = .ok (.putfield 9, 3) := by decide +kernel
theorem dX3_init_12 : decode cX3_init 12 = .ok (.return_, 1) := by decide +kernel
theorem dX3_begin_0 : decode cX3_begin 0 = .ok (.aload_n 0, 1) := by decide +kernel
theorem dX3_begin_1 : decode cX3_begin 1 = .ok (.aload_n 1, 1) := by decide +kernel
theorem dX3_begin_2 : decode cX3_begin 2 = .ok (.getfield 15, 3) := by decide +kernel
theorem dX3_begin_5 : decode cX3_begin 5 = .ok (.putfield 21, 3) := by decide +kernel
theorem dX3_begin_8 : decode cX3_begin 8 = .ok (.aload_n 0, 1) := by decide +kernel
theorem dX3_begin_9 : decode cX3_begin 9 = .ok (.iconst 0, 1) := by decide +kernel
theorem dX3_begin_10 : decode cX3_begin 10 = .ok (.putfield 24, 3) := by decide +kernel
theorem dX3_begin_13 : decode cX3_begin 13 = .ok (.aload_n 0, 1) := by decide +kernel
theorem dX3_begin_14 : decode cX3_begin 14 = .ok (.iconst 0, 1) := by decide +kernel
theorem dX3_begin_15 : decode cX3_begin 15 = .ok (.putfield 27, 3) := by decide +kernel
theorem dX3_begin_18 : decode cX3_begin 18 = .ok (.aload_n 0, 1) := by decide +kernel
theorem dX3_begin_19 : decode cX3_begin 19 = .ok (.iconst 0, 1) := by decide +kernel
theorem dX3_begin_20 : decode cX3_begin 20 = .ok (.putfield 30, 3) := by decide +kernel
theorem dX3_begin_23 : decode cX3_begin 23 = .ok (.aload_n 0, 1) := by decide +kernel
theorem dX3_begin_24 : decode cX3_begin 24 = .ok (.iconst 0, 1) := by decide +kernel
theorem dX3_begin_25 : decode cX3_begin 25 = .ok (.putfield 33, 3) := by decide +kernel
theorem dX3_begin_28 : decode cX3_begin 28 = .ok (.aload_n 0, 1) := by decide +kernel
theorem dX3_begin_29 : decode cX3_begin 29 = .ok (.getfield 9, 3) := by decide +kernel
theorem dX3_begin_32 : decode cX3_begin 32 = .ok (.iconst 0, 1) := by decide +kernel
theorem dX3_begin_33 : decode cX3_begin 33 = .ok (.invokestatic 36, 3) := by decide +kernel
theorem dX3_begin_36 : decode cX3_begin 36 = .ok (.return_, 1) := by decide +kernel
theorem dX3_copy_0 : decode cX3_copy 0 = .ok (.aload_n 0, 1) := by decide +kernel
theorem dX3_copy_1 : decode cX3_copy 1 = .ok (.aload_n 1, 1) := by decide +kernel
theorem dX3_copy_2 : decode cX3_copy 2 = .ok (.getfield 21, 3) := by decide +kernel
theorem dX3_copy_5 : decode cX3_copy 5 = .ok (.putfield 21, 3) := by decide +kernel
theorem dX3_copy_8 : decode cX3_copy 8 = .ok (.aload_n 0, 1) := by decide +kernel
theorem dX3_copy_9 : decode cX3_copy 9 = .ok (.aload_n 1, 1) := by decide +kernel
theorem dX3_copy_10 : decode cX3_copy 10 = .ok (.getfield 24, 3) := by decide +kernel
theorem dX3_copy_13 : decode cX3_copy 13 = .ok (.putfield 24, 3) := by decide +kernel
theorem dX3_copy_16 : decode cX3_copy 16 = .ok (.aload_n 0, 1) := by decide +kernel
theorem dX3_copy_17 : decode cX3_copy 17 = .ok (.aload_n 1, 1) := by decide +kernel
theorem dX3_copy_18 : decode cX3_copy 18 = .ok (.getfield 27, 3) := by decide +kernel
theorem dX3_copy_21 : decode cX3_copy 21 = .ok (.putfield 27, 3) := by decide +kernel
theorem dX3_copy_24 : decode cX3_copy 24 = .ok (.aload_n 0, 1) := by decide +kernel
theorem dX3_copy_25 : decode cX3_copy 25 = .ok (.aload_n 1, 1) := by decide +kernel
theorem dX3_copy_26 : decode cX3_copy 26 = .ok (.getfield 30, 3) := by decide +kernel
theorem dX3_copy_29 : decode cX3_copy 29 = .ok (.putfield 30, 3) := by decide +kernel
theorem dX3_copy_32 : decode cX3_copy 32 = .ok (.aload_n 0, 1) := by decide +kernel
theorem dX3_copy_33 : decode cX3_copy 33 = .ok (.aload_n 1, 1) := by decide +kernel
theorem dX3_copy_34 : decode cX3_copy 34 = .ok (.getfield 33, 3) := by decide +kernel
theorem dX3_copy_37 : decode cX3_copy 37 = .ok (.putfield 33, 3) := by decide +kernel
theorem dX3_copy_40 : decode cX3_copy 40 = .ok (.aload_n 1, 1) := by decide +kernel
theorem dX3_copy_41 : decode cX3_copy 41 = .ok (.getfield 9, 3) := by decide +kernel
theorem dX3_copy_44 : decode cX3_copy 44 = .ok (.iconst 0, 1) := by decide +kernel
theorem dX3_copy_45 : decode cX3_copy 45 = .ok (.aload_n 0, 1) := by decide +kernel
theorem dX3_copy_46 : decode cX3_copy 46 = .ok (.getfield 9, 3) := by decide +kernel
theorem dX3_copy_49 : decode cX3_copy 49 = .ok (.iconst 0, 1) := by decide +kernel
theorem dX3_copy_50 : decode cX3_copy 50 = .ok (.bipush 11, 2) := by decide +kernel
theorem dX3_copy_52 : decode cX3_copy 52 = .ok (.invokestatic 42, 3) := by decide +kernel
theorem dX3_copy_55 : decode cX3_copy 55 = .ok (.return_, 1) := by decide +kernel
theorem dX3_isThere_0 : decode cX3_isThere 0 = .ok (.aload_n 0, 1) := by decide +kernel
theorem dX3_isThere_1 : decode cX3_isThere 1 = .ok (.getfield 21, 3) := by decide +kernel
theorem dX3_isThere_4 : decode cX3_isThere 4 = .ok (.iload_n 1, 1) := by decide +kernel
theorem dX3_isThere_5 : decode cX3_isThere 5 = .ok (.ishr, 1) := by decide +kernel
theorem dX3_isThere_6 : decode cX3_isThere 6 = .ok (.iconst 1, 1) := by decide +kernel
theorem dX3_isThere_7 : decode cX3_isThere 7 = .ok (.iand, 1) := by decide +kernel
theorem dX3_isThere_8 : decode cX3_isThere 8 = .ok (.iconst 1, 1) := by decide +kernel
theorem dX3_isThere_9 : decode cX3_isThere 9 = .ok (.if_icmp .ne 7, 3) := by decide +kernel
theorem dX3_isThere_12 : decode cX3_isThere 12 = .ok (.iconst 1, 1) := by decide +kernel
theorem dX3_isThere_13 : decode cX3_isThere 13 = .ok (.goto 4, 3) := by decide +kernel
theorem dX3_isThere_16 : decode cX3_isThere 16 = .ok (.iconst 0, 1) := by decide +kernel
theorem dX3_isThere_17 : decode cX3_isThere 17 = .ok (.ireturn, 1) := by decide +kernel
theorem dX3_isStanding_0 : decode cX3_isStanding 0 = .ok (.aload_n 0, 1) := by decide +kernel
theorem dX3_isStanding_1 : decode cX3_isStanding 1 = .ok (.getfield 24, 3) := by decide +kernel
theorem dX3_isStanding_4 : decode cX3_isStanding 4 = .ok (.iload_n 1, 1) := by decide +kernel
theorem dX3_isStanding_5 : decode cX3_isStanding 5 = .ok (.ishr, 1) := by decide +kernel
theorem dX3_isStanding_6 : decode cX3_isStanding 6 = .ok (.iconst 1, 1) := by decide +kernel
theorem dX3_isStanding_7 : decode cX3_isStanding 7 = .ok (.iand, 1) := by decide +kernel
theorem dX3_isStanding_8 : decode cX3_isStanding 8 = .ok (.iconst 1, 1) := by decide +kernel
theorem dX3_isStanding_9 : decode cX3_isStanding 9 = .ok (.if_icmp .ne 7, 3) := by decide +kernel
theorem dX3_isStanding_12 : decode cX3_isStanding 12 = .ok (.iconst 1, 1) := by decide +kernel
theorem dX3_isStanding_13 : decode cX3_isStanding 13 = .ok (.goto 4, 3) := by decide +kernel
theorem dX3_isStanding_16 : decode cX3_isStanding 16 = .ok (.iconst 0, 1) := by decide +kernel
theorem dX3_isStanding_17 : decode cX3_isStanding 17 = .ok (.ireturn, 1) := by decide +kernel
theorem dX3_toneOf_0 : decode cX3_toneOf 0 = .ok (.aload_n 1, 1) := by decide +kernel
theorem dX3_toneOf_1 : decode cX3_toneOf 1 = .ok (.getfield 48, 3) := by decide +kernel
theorem dX3_toneOf_4 : decode cX3_toneOf 4 = .ok (.iload_n 2, 1) := by decide +kernel
theorem dX3_toneOf_5 : decode cX3_toneOf 5 = .ok (.iaload, 1) := by decide +kernel
theorem dX3_toneOf_6 : decode cX3_toneOf 6 = .ok (.aload_n 0, 1) := by decide +kernel
theorem dX3_toneOf_7 : decode cX3_toneOf 7 = .ok (.getfield 9, 3) := by decide +kernel
theorem dX3_toneOf_10 : decode cX3_toneOf 10 = .ok (.iload_n 2, 1) := by decide +kernel
theorem dX3_toneOf_11 : decode cX3_toneOf 11 = .ok (.iaload, 1) := by decide +kernel
theorem dX3_toneOf_12 : decode cX3_toneOf 12 = .ok (.aload_n 0, 1) := by decide +kernel
theorem dX3_toneOf_13 : decode cX3_toneOf 13 = .ok (.getfield 33, 3) := by decide +kernel
theorem dX3_toneOf_16 : decode cX3_toneOf 16 = .ok (.imul, 1) := by decide +kernel
theorem dX3_toneOf_17 : decode cX3_toneOf 17 = .ok (.isub, 1) := by decide +kernel
theorem dX3_toneOf_18 : decode cX3_toneOf 18 = .ok (.bipush 12, 2) := by decide +kernel
theorem dX3_toneOf_20 : decode cX3_toneOf 20 = .ok (.invokestatic 51, 3) := by decide +kernel
theorem dX3_toneOf_23 : decode cX3_toneOf 23 = .ok (.ireturn, 1) := by decide +kernel
theorem dX3_loudness_0 : decode cX3_loudness 0 = .ok (.iconst 0, 1) := by decide +kernel
theorem dX3_loudness_1 : decode cX3_loudness 1 = .ok (.istore 4, 2) := by decide +kernel
theorem dX3_loudness_3 : decode cX3_loudness 3 = .ok (.iconst 0, 1) := by decide +kernel
theorem dX3_loudness_4 : decode cX3_loudness 4 = .ok (.istore 5, 2) := by decide +kernel
theorem dX3_loudness_6 : decode cX3_loudness 6 = .ok (.iload 5, 2) := by decide +kernel
theorem dX3_loudness_8 : decode cX3_loudness 8 = .ok (.aload_n 1, 1) := by decide +kernel
theorem dX3_loudness_9 : decode cX3_loudness 9 = .ok (.getfield 57, 3) := by decide +kernel
theorem dX3_loudness_12 : decode cX3_loudness 12 = .ok (.if_icmp .ge 58, 3) := by decide +kernel
theorem dX3_loudness_15 : decode cX3_loudness 15 = .ok (.aload_n 0, 1) := by decide +kernel
theorem dX3_loudness_16 : decode cX3_loudness 16 = .ok (.iload 5, 2) := by decide +kernel
theorem dX3_loudness_18 : decode cX3_loudness 18 = .ok (.invokevirtual 60, 3) := by decide +kernel
theorem dX3_loudness_21 : decode cX3_loudness 21 = .ok (.ifCond .eq 43, 3) := by decide +kernel
theorem dX3_loudness_24 : decode cX3_loudness 24 = .ok (.aload_n 0, 1) := by decide +kernel
theorem dX3_loudness_25 : decode cX3_loudness 25 = .ok (.iload 5, 2) := by decide +kernel
theorem dX3_loudness_27 : decode cX3_loudness 27 = .ok (.invokevirtual 64, 3) := by decide +kernel
theorem dX3_loudness_30 : decode cX3_loudness 30 = .ok (.ifCond .ne 34, 3) := by decide +kernel
theorem dX3_loudness_33 : decode cX3_loudness 33 = .ok (.aload_n 0, 1) := by decide +kernel
theorem dX3_loudness_34 : decode cX3_loudness 34 = .ok (.aload_n 1, 1) := by decide +kernel
theorem dX3_loudness_35 : decode cX3_loudness 35 = .ok (.iload 5, 2) := by decide +kernel
theorem dX3_loudness_37 : decode cX3_loudness 37 = .ok (.invokevirtual 67, 3) := by decide +kernel
theorem dX3_loudness_40 : decode cX3_loudness 40 = .ok (.iload_n 3, 1) := by decide +kernel
theorem dX3_loudness_41 : decode cX3_loudness 41 = .ok (.if_icmp .ne 23, 3) := by decide +kernel
theorem dX3_loudness_44 : decode cX3_loudness 44 = .ok (.iload 4, 2) := by decide +kernel
theorem dX3_loudness_46 : decode cX3_loudness 46 = .ok (.aload_n 1, 1) := by decide +kernel
theorem dX3_loudness_47 : decode cX3_loudness 47 = .ok (.iload 5, 2) := by decide +kernel
theorem dX3_loudness_49 : decode cX3_loudness 49 = .ok (.iload_n 2, 1) := by decide +kernel
theorem dX3_loudness_50 : decode cX3_loudness 50 = .ok (.aload_n 0, 1) := by decide +kernel
theorem dX3_loudness_51 : decode cX3_loudness 51 = .ok (.getfield 27, 3) := by decide +kernel
theorem dX3_loudness_54 : decode cX3_loudness 54 = .ok (.aload_n 0, 1) := by decide +kernel
theorem dX3_loudness_55 : decode cX3_loudness 55 = .ok (.getfield 30, 3) := by decide +kernel
theorem dX3_loudness_58 : decode cX3_loudness 58 = .ok (.invokevirtual 71, 3) := by decide +kernel
theorem dX3_loudness_61 : decode cX3_loudness 61 = .ok (.iadd, 1) := by decide +kernel
theorem dX3_loudness_62 : decode cX3_loudness 62 = .ok (.istore 4, 2) := by decide +kernel
theorem dX3_loudness_64 : decode cX3_loudness 64 = .ok (.iinc 5 1, 3) := by decide +kernel
theorem dX3_loudness_67 : decode cX3_loudness 67 = .ok (.goto (-61), 3) := by decide +kernel
theorem dX3_loudness_70 : decode cX3_loudness 70 = .ok (.iload 4, 2) := by decide +kernel
theorem dX3_loudness_72 : decode cX3_loudness 72 = .ok (.ireturn, 1) := by decide +kernel
theorem dX4_init_0 : decode cX4_init 0 = .ok (.aload_n 0, 1) := by decide +kernel
theorem dX4_init_1 : decode cX4_init 1 = .ok (.invokespecial 3, 3) := by decide +kernel
theorem dX4_init_4 : decode cX4_init 4 = .ok (.aload_n 0, 1) := by decide +kernel
theorem dX4_init_5 : decode cX4_init 5 = .ok (.bipush 40, 2) := by decide +kernel
theorem dX4_init_7 : decode cX4_init 7 = .ok (.newarray .int, 2) := by decide +kernel
theorem dX4_init_9 : decode cX4_init 9 = .ok (.putfield 9, 3) := by decide +kernel
theorem dX4_init_12 : decode cX4_init 12 = .ok (.aload_n 0, 1) := by decide +kernel
theorem dX4_init_13 : decode cX4_init 13 = .ok (.bipush 40, 2) := by decide +kernel
theorem dX4_init_15 : decode cX4_init 15 = .ok (.newarray .int, 2) := by decide +kernel
theorem dX4_init_17 : decode cX4_init 17 = .ok (.putfield 15, 3) := by decide +kernel
theorem dX4_init_20 : decode cX4_init 20 = .ok (.aload_n 0, 1) := by decide +kernel
theorem dX4_init_21 : decode cX4_init 21 = .ok (.bipush 40, 2) := by decide +kernel
theorem dX4_init_23 : decode cX4_init 23 = .ok (.newarray .int, 2) := by decide +kernel
theorem dX4_init_25 : decode cX4_init 25 = .ok (.putfield 18, 3) := by decide +kernel
theorem dX4_init_28 : decode cX4_init 28 = .ok (.aload_n 0, 1) := by decide +kernel
theorem dX4_init_29 : decode cX4_init 29 = .ok (.bipush 40, 2) := by decide +kernel
theorem dX4_init_31 : decode cX4_init 31 = .ok (.newarray .int, 2) := by decide +kernel
theorem dX4_init_33 : decode cX4_init 33 = .ok (.putfield 21, 3) := by decide +kernel
theorem dX4_init_36 : decode cX4_init 36 = .ok (.aload_n 0, 1) := by decide +kernel
theorem dX4_init_37 : decode cX4_init 37 = .ok (.bipush 40, 2) := by decide +kernel
theorem dX4_init_39 : decode cX4_init 39 = .ok (.newarray .int, 2) := by decide +kernel
theorem dX4_init_41 : decode cX4_init 41 = .ok (.putfield 24, 3) := by decide +kernel
theorem dX4_init_44 : decode cX4_init 44 = .ok (.aload_n 0, 1) := by decide +kernel
theorem dX4_init_45 : decode cX4_init 45 = .ok (.bipush 40, 2) := by decide +kernel
theorem dX4_init_47 : decode cX4_init 47 = .ok (.newarray .int, 2) := by decide +kernel
theorem dX4_init_49 : decode cX4_init 49 = .ok (.putfield 27, 3) := by decide +kernel
theorem dX4_init_52 : decode cX4_init 52 = .ok (.aload_n 0, 1) := by decide +kernel
theorem dX4_init_53 : decode cX4_init 53 = .ok (.bipush 40, 2) := by decide +kernel
theorem dX4_init_55 : decode cX4_init 55 = .ok (.newarray .int, 2) := by decide +kernel
theorem dX4_init_57 : decode cX4_init 57 = .ok (.putfield 30, 3) := by decide +kernel
theorem dX4_init_60 : decode cX4_init 60 = .ok (.return_, 1) := by decide +kernel
theorem dX4_add_0 : decode cX4_add 0 = .ok (.aload_n 0, 1) := by decide +kernel
theorem dX4_add_1 : decode cX4_add 1 = .ok (.getfield 33, 3) := by decide +kernel
theorem dX4_add_4 : decode cX4_add 4 = .ok (.bipush 40, 2) := by decide +kernel
theorem dX4_add_6 : decode cX4_add 6 = .ok (.if_icmp .lt 5, 3) := by decide +kernel
theorem dX4_add_9 : decode cX4_add 9 = .ok (.iconst (-1), 1) := by decide +kernel
theorem dX4_add_10 : decode cX4_add 10 = .ok (.ireturn, 1) := by decide +kernel
theorem dX4_add_11 : decode cX4_add 11 = .ok (.aload_n 0, 1) := by decide +kernel
theorem dX4_add_12 : decode cX4_add 12 = .ok (.getfield 9, 3) := by decide +kernel
theorem dX4_add_15 : decode cX4_add 15 = .ok (.aload_n 0, 1) := by decide +kernel
theorem dX4_add_16 : decode cX4_add 16 = .ok (.getfield 33, 3) := by decide +kernel
theorem dX4_add_19 : decode cX4_add 19 = .ok (.iload_n 1, 1) := by decide +kernel
theorem dX4_add_20 : decode cX4_add 20 = .ok (.iastore, 1) := by decide +kernel
theorem dX4_add_21 : decode cX4_add 21 = .ok (.aload_n 0, 1) := by decide +kernel
theorem dX4_add_22 : decode cX4_add 22 = .ok (.getfield 15, 3) := by decide +kernel
theorem dX4_add_25 : decode cX4_add 25 = .ok (.aload_n 0, 1) := by decide +kernel
theorem dX4_add_26 : decode cX4_add 26 = .ok (.getfield 33, 3) := by decide +kernel
theorem dX4_add_29 : decode cX4_add 29 = .ok (.iload_n 2, 1) := by decide +kernel
theorem dX4_add_30 : decode cX4_add 30 = .ok (.iastore, 1) := by decide +kernel
theorem dX4_add_31 : decode cX4_add 31 = .ok (.aload_n 0, 1) := by decide +kernel
theorem dX4_add_32 : decode cX4_add 32 = .ok (.getfield 18, 3) := by decide +kernel
theorem dX4_add_35 : decode cX4_add 35 = .ok (.aload_n 0, 1) := by decide +kernel
theorem dX4_add_36 : decode cX4_add 36 = .ok (.getfield 33, 3) := by decide +kernel
theorem dX4_add_39 : decode cX4_add 39 = .ok (.iload_n 3, 1) := by decide +kernel
theorem dX4_add_40 : decode cX4_add 40 = .ok (.iastore, 1) := by decide +kernel
theorem dX4_add_41 : decode cX4_add 41 = .ok (.aload_n 0, 1) := by decide +kernel
theorem dX4_add_42 : decode cX4_add 42 = .ok (.getfield 21, 3) := by decide +kernel
theorem dX4_add_45 : decode cX4_add 45 = .ok (.aload_n 0, 1) := by decide +kernel
theorem dX4_add_46 : decode cX4_add 46 = .ok (.getfield 33, 3) := by decide +kernel
theorem dX4_add_49 : decode cX4_add 49 = .ok (.iload 4, 2) := by decide +kernel
theorem dX4_add_51 : decode cX4_add 51 = .ok (.iastore, 1) := by decide +kernel
theorem dX4_add_52 : decode cX4_add 52 = .ok (.aload_n 0, 1) := by decide +kernel
theorem dX4_add_53 : decode cX4_add 53 = .ok (.getfield 24, 3) := by decide +kernel
theorem dX4_add_56 : decode cX4_add 56 = .ok (.aload_n 0, 1) := by decide +kernel
theorem dX4_add_57 : decode cX4_add 57 = .ok (.getfield 33, 3) := by decide +kernel
theorem dX4_add_60 : decode cX4_add 60 = .ok (.iload 5, 2) := by decide +kernel
theorem dX4_add_62 : decode cX4_add 62 = .ok (.iastore, 1) := by decide +kernel
theorem dX4_add_63 : decode cX4_add 63 = .ok (.aload_n 0, 1) := by decide +kernel
theorem dX4_add_64 : decode cX4_add 64 = .ok (.getfield 27, 3) := by decide +kernel
theorem dX4_add_67 : decode cX4_add 67 = .ok (.aload_n 0, 1) := by decide +kernel
theorem dX4_add_68 : decode cX4_add 68 = .ok (.getfield 33, 3) := by decide +kernel
theorem dX4_add_71 : decode cX4_add 71 = .ok (.iload 6, 2) := by decide +kernel
theorem dX4_add_73 : decode cX4_add 73 = .ok (.iastore, 1) := by decide +kernel
theorem dX4_add_74 : decode cX4_add 74 = .ok (.aload_n 0, 1) := by decide +kernel
theorem dX4_add_75 : decode cX4_add 75 = .ok (.getfield 30, 3) := by decide +kernel
theorem dX4_add_78 : decode cX4_add 78 = .ok (.aload_n 0, 1) := by decide +kernel
theorem dX4_add_79 : decode cX4_add 79 = .ok (.getfield 33, 3) := by decide +kernel
theorem dX4_add_82 : decode cX4_add 82 = .ok (.iconst (-1), 1) := by decide +kernel
theorem dX4_add_83 : decode cX4_add 83 = .ok (.iastore, 1) := by decide +kernel
theorem dX4_add_84 : decode cX4_add 84 = .ok (.aload_n 0, 1) := by decide +kernel
theorem dX4_add_85 : decode cX4_add 85 = .ok (.dup, 1) := by decide +kernel
theorem dX4_add_86 : decode cX4_add 86 = .ok (.getfield 33, 3) := by decide +kernel
theorem dX4_add_89 : decode cX4_add 89 = .ok (.iconst 1, 1) := by decide +kernel
theorem dX4_add_90 : decode cX4_add 90 = .ok (.iadd, 1) := by decide +kernel
theorem dX4_add_91 : decode cX4_add 91 = .ok (.putfield 33, 3) := by decide +kernel
theorem dX4_add_94 : decode cX4_add 94 = .ok (.aload_n 0, 1) := by decide +kernel
theorem dX4_add_95 : decode cX4_add 95 = .ok (.getfield 33, 3) := by decide +kernel
theorem dX4_add_98 : decode cX4_add 98 = .ok (.iconst 1, 1) := by decide +kernel
theorem dX4_add_99 : decode cX4_add 99 = .ok (.isub, 1) := by decide +kernel
theorem dX4_add_100 : decode cX4_add 100 = .ok (.ireturn, 1) := by decide +kernel
theorem dX4_isSound_0 : decode cX4_isSound 0 = .ok (.aload_n 0, 1) := by decide +kernel
theorem dX4_isSound_1 : decode cX4_isSound 1 = .ok (.getfield 15, 3) := by decide +kernel
theorem dX4_isSound_4 : decode cX4_isSound 4 = .ok (.iload_n 1, 1) := by decide +kernel
theorem dX4_isSound_5 : decode cX4_isSound 5 = .ok (.iaload, 1) := by decide +kernel
theorem dX4_isSound_6 : decode cX4_isSound 6 = .ok (.iconst (-1), 1) := by decide +kernel
theorem dX4_isSound_7 : decode cX4_isSound 7 = .ok (.if_icmp .eq 7, 3) := by decide +kernel
theorem dX4_isSound_10 : decode cX4_isSound 10 = .ok (.iconst 1, 1) := by decide +kernel
theorem dX4_isSound_11 : decode cX4_isSound 11 = .ok (.goto 4, 3) := by decide +kernel
theorem dX4_isSound_14 : decode cX4_isSound 14 = .ok (.iconst 0, 1) := by decide +kernel
theorem dX4_isSound_15 : decode cX4_isSound 15 = .ok (.ireturn, 1) := by decide +kernel
theorem dX4_counts_0 : decode cX4_counts 0 = .ok (.aload_n 0, 1) := by decide +kernel
theorem dX4_counts_1 : decode cX4_counts 1 = .ok (.getfield 27, 3) := by decide +kernel
theorem dX4_counts_4 : decode cX4_counts 4 = .ok (.iload_n 1, 1) := by decide +kernel
theorem dX4_counts_5 : decode cX4_counts 5 = .ok (.iaload, 1) := by decide +kernel
theorem dX4_counts_6 : decode cX4_counts 6 = .ok (.iload_n 2, 1) := by decide +kernel
theorem dX4_counts_7 : decode cX4_counts 7 = .ok (.if_icmp .gt 27, 3) := by decide +kernel
theorem dX4_counts_10 : decode cX4_counts 10 = .ok (.aload_n 0, 1) := by decide +kernel
theorem dX4_counts_11 : decode cX4_counts 11 = .ok (.getfield 30, 3) := by decide +kernel
theorem dX4_counts_14 : decode cX4_counts 14 = .ok (.iload_n 1, 1) := by decide +kernel
theorem dX4_counts_15 : decode cX4_counts 15 = .ok (.iaload, 1) := by decide +kernel
theorem dX4_counts_16 : decode cX4_counts 16 = .ok (.iconst (-1), 1) := by decide +kernel
theorem dX4_counts_17 : decode cX4_counts 17 = .ok (.if_icmp .eq 13, 3) := by decide +kernel
theorem dX4_counts_20 : decode cX4_counts 20 = .ok (.aload_n 0, 1) := by decide +kernel
theorem dX4_counts_21 : decode cX4_counts 21 = .ok (.getfield 30, 3) := by decide +kernel
theorem dX4_counts_24 : decode cX4_counts 24 = .ok (.iload_n 1, 1) := by decide +kernel
theorem dX4_counts_25 : decode cX4_counts 25 = .ok (.iaload, 1) := by decide +kernel
theorem dX4_counts_26 : decode cX4_counts 26 = .ok (.iload_n 2, 1) := by decide +kernel
theorem dX4_counts_27 : decode cX4_counts 27 = .ok (.if_icmp .le 7, 3) := by decide +kernel
theorem dX4_counts_30 : decode cX4_counts 30 = .ok (.iconst 1, 1) := by decide +kernel
theorem dX4_counts_31 : decode cX4_counts 31 = .ok (.goto 4, 3) := by decide +kernel
theorem dX4_counts_34 : decode cX4_counts 34 = .ok (.iconst 0, 1) := by decide +kernel
theorem dX4_counts_35 : decode cX4_counts 35 = .ok (.ireturn, 1) := by decide +kernel
theorem dX5_init_0 : decode cX5_init 0 = .ok (.aload_n 0, 1) := by decide +kernel
theorem dX5_init_1 : decode cX5_init 1 = .ok (.invokespecial 3, 3) := by decide +kernel
theorem dX5_init_4 : decode cX5_init 4 = .ok (.return_, 1) := by decide +kernel
theorem dX5_seek_0 : decode cX5_seek 0 = .ok (.aload_n 0, 1) := by decide +kernel
theorem dX5_seek_1 : decode cX5_seek 1 = .ok (.iconst 0, 1) := by decide +kernel
theorem dX5_seek_2 : decode cX5_seek 2 = .ok (.putfield 9, 3) := by decide +kernel
theorem dX5_seek_5 : decode cX5_seek 5 = .ok (.aload_n 0, 1) := by decide +kernel
theorem dX5_seek_6 : decode cX5_seek 6 = .ok (.aload_n 1, 1) := by decide +kernel
theorem dX5_seek_7 : decode cX5_seek 7 = .ok (.getfield 15, 3) := by decide +kernel
theorem dX5_seek_10 : decode cX5_seek 10 = .ok (.putfield 20, 3) := by decide +kernel
theorem dX5_seek_13 : decode cX5_seek 13 = .ok (.aload_n 0, 1) := by decide +kernel
theorem dX5_seek_14 : decode cX5_seek 14 = .ok (.aload_n 1, 1) := by decide +kernel
theorem dX5_seek_15 : decode cX5_seek 15 = .ok (.getfield 15, 3) := by decide +kernel
theorem dX5_seek_18 : decode cX5_seek 18 = .ok (.putfield 23, 3) := by decide +kernel
theorem dX5_seek_21 : decode cX5_seek 21 = .ok (.aload_n 0, 1) := by decide +kernel
theorem dX5_seek_22 : decode cX5_seek 22 = .ok (.iconst (-1), 1) := by decide +kernel
theorem dX5_seek_23 : decode cX5_seek 23 = .ok (.putfield 26, 3) := by decide +kernel
theorem dX5_seek_26 : decode cX5_seek 26 = .ok (.aload_n 0, 1) := by decide +kernel
theorem dX5_seek_27 : decode cX5_seek 27 = .ok (.iconst (-1), 1) := by decide +kernel
theorem dX5_seek_28 : decode cX5_seek 28 = .ok (.putfield 29, 3) := by decide +kernel
theorem dX5_seek_31 : decode cX5_seek 31 = .ok (.iconst 0, 1) := by decide +kernel
theorem dX5_seek_32 : decode cX5_seek 32 = .ok (.istore 4, 2) := by decide +kernel
theorem dX5_seek_34 : decode cX5_seek 34 = .ok (.iload 4, 2) := by decide +kernel
theorem dX5_seek_36 : decode cX5_seek 36 = .ok (.aload_n 1, 1) := by decide +kernel
theorem dX5_seek_37 : decode cX5_seek 37 = .ok (.getfield 15, 3) := by decide +kernel
theorem dX5_seek_40 : decode cX5_seek 40 = .ok (.if_icmp .gt 40, 3) := by decide +kernel
theorem dX5_seek_43 : decode cX5_seek 43 = .ok (.iload 4, 2) := by decide +kernel
theorem dX5_seek_45 : decode cX5_seek 45 = .ok (.aload_n 1, 1) := by decide +kernel
theorem dX5_seek_46 : decode cX5_seek 46 = .ok (.getfield 15, 3) := by decide +kernel
theorem dX5_seek_49 : decode cX5_seek 49 = .ok (.iconst (-1), 1) := by decide +kernel
theorem dX5_seek_50 : decode cX5_seek 50 = .ok (.ixor, 1) := by decide +kernel
theorem dX5_seek_51 : decode cX5_seek 51 = .ok (.iand, 1) := by decide +kernel
theorem dX5_seek_52 : decode cX5_seek 52 = .ok (.ifCond .ne 22, 3) := by decide +kernel
theorem dX5_seek_55 : decode cX5_seek 55 = .ok (.aload_n 0, 1) := by decide +kernel
theorem dX5_seek_56 : decode cX5_seek 56 = .ok (.iload 4, 2) := by decide +kernel
theorem dX5_seek_58 : decode cX5_seek 58 = .ok (.aload_n 1, 1) := by decide +kernel
theorem dX5_seek_59 : decode cX5_seek 59 = .ok (.aload_n 2, 1) := by decide +kernel
theorem dX5_seek_60 : decode cX5_seek 60 = .ok (.iload_n 3, 1) := by decide +kernel
theorem dX5_seek_61 : decode cX5_seek 61 = .ok (.invokevirtual 32, 3) := by decide +kernel
theorem dX5_seek_64 : decode cX5_seek 64 = .ok (.ifCond .eq 10, 3) := by decide +kernel
theorem dX5_seek_67 : decode cX5_seek 67 = .ok (.aload_n 0, 1) := by decide +kernel
theorem dX5_seek_68 : decode cX5_seek 68 = .ok (.iload 4, 2) := by decide +kernel
theorem dX5_seek_70 : decode cX5_seek 70 = .ok (.aload_n 1, 1) := by decide +kernel
theorem dX5_seek_71 : decode cX5_seek 71 = .ok (.invokevirtual 36, 3) := by decide +kernel
theorem dX5_seek_74 : decode cX5_seek 74 = .ok (.iinc 4 1, 3) := by decide +kernel
theorem dX5_seek_77 : decode cX5_seek 77 = .ok (.goto (-43), 3) := by decide +kernel
theorem dX5_seek_80 : decode cX5_seek 80 = .ok (.aload_n 0, 1) := by decide +kernel
theorem dX5_seek_81 : decode cX5_seek 81 = .ok (.getfield 9, 3) := by decide +kernel
theorem dX5_seek_84 : decode cX5_seek 84 = .ok (.ifCond .ne 13, 3) := by decide +kernel
theorem dX5_seek_87 : decode cX5_seek 87 = .ok (.aload_n 0, 1) := by decide +kernel
theorem dX5_seek_88 : decode cX5_seek 88 = .ok (.iconst 0, 1) := by decide +kernel
theorem dX5_seek_89 : decode cX5_seek 89 = .ok (.putfield 20, 3) := by decide +kernel
theorem dX5_seek_92 : decode cX5_seek 92 = .ok (.aload_n 0, 1) := by decide +kernel
theorem dX5_seek_93 : decode cX5_seek 93 = .ok (.iconst 0, 1) := by decide +kernel
theorem dX5_seek_94 : decode cX5_seek 94 = .ok (.putfield 23, 3) := by decide +kernel
theorem dX5_seek_97 : decode cX5_seek 97 = .ok (.return_, 1) := by decide +kernel
theorem dX5_gather_0 : decode cX5_gather 0 = .ok (.aload_n 0, 1) := by decide +kernel
theorem dX5_gather_1 : decode cX5_gather 1 = .ok (.dup, 1) := by decide +kernel
theorem dX5_gather_2 : decode cX5_gather 2 = .ok (.getfield 9, 3) := by decide +kernel
theorem dX5_gather_5 : decode cX5_gather 5 = .ok (.iconst 1, 1) := by decide +kernel
theorem dX5_gather_6 : decode cX5_gather 6 = .ok (.iadd, 1) := by decide +kernel
theorem dX5_gather_7 : decode cX5_gather 7 = .ok (.putfield 9, 3) := by decide +kernel
theorem dX5_gather_10 : decode cX5_gather 10 = .ok (.aload_n 0, 1) := by decide +kernel
theorem dX5_gather_11 : decode cX5_gather 11 = .ok (.dup, 1) := by decide +kernel
theorem dX5_gather_12 : decode cX5_gather 12 = .ok (.getfield 20, 3) := by decide +kernel
theorem dX5_gather_15 : decode cX5_gather 15 = .ok (.iload_n 1, 1) := by decide +kernel
theorem dX5_gather_16 : decode cX5_gather 16 = .ok (.iand, 1) := by decide +kernel
theorem dX5_gather_17 : decode cX5_gather 17 = .ok (.putfield 20, 3) := by decide +kernel
theorem dX5_gather_20 : decode cX5_gather 20 = .ok (.aload_n 0, 1) := by decide +kernel
theorem dX5_gather_21 : decode cX5_gather 21 = .ok (.dup, 1) := by decide +kernel
theorem dX5_gather_22 : decode cX5_gather 22 = .ok (.getfield 23, 3) := by decide +kernel
theorem dX5_gather_25 : decode cX5_gather 25 = .ok (.iload_n 1, 1) := by decide +kernel
theorem dX5_gather_26 : decode cX5_gather 26 = .ok (.iconst (-1), 1) := by decide +kernel
theorem dX5_gather_27 : decode cX5_gather 27 = .ok (.ixor, 1) := by decide +kernel
theorem dX5_gather_28 : decode cX5_gather 28 = .ok (.iand, 1) := by decide +kernel
theorem dX5_gather_29 : decode cX5_gather 29 = .ok (.putfield 23, 3) := by decide +kernel
theorem dX5_gather_32 : decode cX5_gather 32 = .ok (.aload_n 0, 1) := by decide +kernel
theorem dX5_gather_33 : decode cX5_gather 33 = .ok (.iload_n 1, 1) := by decide +kernel
theorem dX5_gather_34 : decode cX5_gather 34 = .ok (.aload_n 2, 1) := by decide +kernel
theorem dX5_gather_35 : decode cX5_gather 35 = .ok (.invokevirtual 40, 3) := by decide +kernel
theorem dX5_gather_38 : decode cX5_gather 38 = .ok (.istore_n 3, 1) := by decide +kernel
theorem dX5_gather_39 : decode cX5_gather 39 = .ok (.aload_n 0, 1) := by decide +kernel
theorem dX5_gather_40 : decode cX5_gather 40 = .ok (.getfield 26, 3) := by decide +kernel
theorem dX5_gather_43 : decode cX5_gather 43 = .ok (.iconst (-1), 1) := by decide +kernel
theorem dX5_gather_44 : decode cX5_gather 44 = .ok (.if_icmp .eq 11, 3) := by decide +kernel
theorem dX5_gather_47 : decode cX5_gather 47 = .ok (.iload_n 3, 1) := by decide +kernel
theorem dX5_gather_48 : decode cX5_gather 48 = .ok (.aload_n 0, 1) := by decide +kernel
theorem dX5_gather_49 : decode cX5_gather 49 = .ok (.getfield 26, 3) := by decide +kernel
theorem dX5_gather_52 : decode cX5_gather 52 = .ok (.if_icmp .ge 13, 3) := by decide +kernel
theorem dX5_gather_55 : decode cX5_gather 55 = .ok (.aload_n 0, 1) := by decide +kernel
theorem dX5_gather_56 : decode cX5_gather 56 = .ok (.iload_n 3, 1) := by decide +kernel
theorem dX5_gather_57 : decode cX5_gather 57 = .ok (.putfield 26, 3) := by decide +kernel
theorem dX5_gather_60 : decode cX5_gather 60 = .ok (.aload_n 0, 1) := by decide +kernel
theorem dX5_gather_61 : decode cX5_gather 61 = .ok (.iload_n 1, 1) := by decide +kernel
theorem dX5_gather_62 : decode cX5_gather 62 = .ok (.putfield 29, 3) := by decide +kernel
theorem dX5_gather_65 : decode cX5_gather 65 = .ok (.return_, 1) := by decide +kernel
theorem dX5_isSo_0 : decode cX5_isSo 0 = .ok (.aload_n 2, 1) := by decide +kernel
theorem dX5_isSo_1 : decode cX5_isSo 1 = .ok (.getfield 15, 3) := by decide +kernel
theorem dX5_isSo_4 : decode cX5_isSo 4 = .ok (.iload_n 1, 1) := by decide +kernel
theorem dX5_isSo_5 : decode cX5_isSo 5 = .ok (.iconst (-1), 1) := by decide +kernel
theorem dX5_isSo_6 : decode cX5_isSo 6 = .ok (.ixor, 1) := by decide +kernel
theorem dX5_isSo_7 : decode cX5_isSo 7 = .ok (.iand, 1) := by decide +kernel
theorem dX5_isSo_8 : decode cX5_isSo 8 = .ok (.istore 5, 2) := by decide +kernel
theorem dX5_isSo_10 : decode cX5_isSo 10 = .ok (.iconst 0, 1) := by decide +kernel
theorem dX5_isSo_11 : decode cX5_isSo 11 = .ok (.istore 6, 2) := by decide +kernel
theorem dX5_isSo_13 : decode cX5_isSo 13 = .ok (.iload 6, 2) := by decide +kernel
theorem dX5_isSo_15 : decode cX5_isSo 15 = .ok (.bipush 12, 2) := by decide +kernel
theorem dX5_isSo_17 : decode cX5_isSo 17 = .ok (.if_icmp .ge 100, 3) := by decide +kernel
theorem dX5_isSo_20 : decode cX5_isSo 20 = .ok (.aload_n 3, 1) := by decide +kernel
theorem dX5_isSo_21 : decode cX5_isSo 21 = .ok (.aload_n 0, 1) := by decide +kernel
theorem dX5_isSo_22 : decode cX5_isSo 22 = .ok (.getfield 44, 3) := by decide +kernel
theorem dX5_isSo_25 : decode cX5_isSo 25 = .ok (.iload 6, 2) := by decide +kernel
theorem dX5_isSo_27 : decode cX5_isSo 27 = .ok (.invokevirtual 47, 3) := by decide +kernel
theorem dX5_isSo_30 : decode cX5_isSo 30 = .ok (.ifCond .eq 35, 3) := by decide +kernel
theorem dX5_isSo_33 : decode cX5_isSo 33 = .ok (.aload_n 3, 1) := by decide +kernel
theorem dX5_isSo_34 : decode cX5_isSo 34 = .ok (.aload_n 0, 1) := by decide +kernel
theorem dX5_isSo_35 : decode cX5_isSo 35 = .ok (.getfield 44, 3) := by decide +kernel
theorem dX5_isSo_38 : decode cX5_isSo 38 = .ok (.iload 6, 2) := by decide +kernel
theorem dX5_isSo_40 : decode cX5_isSo 40 = .ok (.aload_n 2, 1) := by decide +kernel
theorem dX5_isSo_41 : decode cX5_isSo 41 = .ok (.iload_n 1, 1) := by decide +kernel
theorem dX5_isSo_42 : decode cX5_isSo 42 = .ok (.iload 6, 2) := by decide +kernel
theorem dX5_isSo_44 : decode cX5_isSo 44 = .ok (.aload_n 0, 1) := by decide +kernel
theorem dX5_isSo_45 : decode cX5_isSo 45 = .ok (.getfield 44, 3) := by decide +kernel
theorem dX5_isSo_48 : decode cX5_isSo 48 = .ok (.aload_n 0, 1) := by decide +kernel
theorem dX5_isSo_49 : decode cX5_isSo 49 = .ok (.getfield 53, 3) := by decide +kernel
theorem dX5_isSo_52 : decode cX5_isSo 52 = .ok (.iload 4, 2) := by decide +kernel
theorem dX5_isSo_54 : decode cX5_isSo 54 = .ok (.invokevirtual 56, 3) := by decide +kernel
theorem dX5_isSo_57 : decode cX5_isSo 57 = .ok (.invokevirtual 60, 3) := by decide +kernel
theorem dX5_isSo_60 : decode cX5_isSo 60 = .ok (.ifCond .ne 5, 3) := by decide +kernel
theorem dX5_isSo_63 : decode cX5_isSo 63 = .ok (.iconst 0, 1) := by decide +kernel
theorem dX5_isSo_64 : decode cX5_isSo 64 = .ok (.ireturn, 1) := by decide +kernel
theorem dX5_isSo_65 : decode cX5_isSo 65 = .ok (.aload_n 3, 1) := by decide +kernel
theorem dX5_isSo_66 : decode cX5_isSo 66 = .ok (.aload_n 0, 1) := by decide +kernel
theorem dX5_isSo_67 : decode cX5_isSo 67 = .ok (.getfield 64, 3) := by decide +kernel
theorem dX5_isSo_70 : decode cX5_isSo 70 = .ok (.iload 6, 2) := by decide +kernel
theorem dX5_isSo_72 : decode cX5_isSo 72 = .ok (.invokevirtual 47, 3) := by decide +kernel
theorem dX5_isSo_75 : decode cX5_isSo 75 = .ok (.ifCond .eq 36, 3) := by decide +kernel
theorem dX5_isSo_78 : decode cX5_isSo 78 = .ok (.aload_n 3, 1) := by decide +kernel
theorem dX5_isSo_79 : decode cX5_isSo 79 = .ok (.aload_n 0, 1) := by decide +kernel
theorem dX5_isSo_80 : decode cX5_isSo 80 = .ok (.getfield 64, 3) := by decide +kernel
theorem dX5_isSo_83 : decode cX5_isSo 83 = .ok (.iload 6, 2) := by decide +kernel
theorem dX5_isSo_85 : decode cX5_isSo 85 = .ok (.aload_n 2, 1) := by decide +kernel
theorem dX5_isSo_86 : decode cX5_isSo 86 = .ok (.iload 5, 2) := by decide +kernel
theorem dX5_isSo_88 : decode cX5_isSo 88 = .ok (.iload 6, 2) := by decide +kernel
theorem dX5_isSo_90 : decode cX5_isSo 90 = .ok (.aload_n 0, 1) := by decide +kernel
theorem dX5_isSo_91 : decode cX5_isSo 91 = .ok (.getfield 64, 3) := by decide +kernel
theorem dX5_isSo_94 : decode cX5_isSo 94 = .ok (.aload_n 0, 1) := by decide +kernel
theorem dX5_isSo_95 : decode cX5_isSo 95 = .ok (.getfield 67, 3) := by decide +kernel
theorem dX5_isSo_98 : decode cX5_isSo 98 = .ok (.iload 4, 2) := by decide +kernel
theorem dX5_isSo_100 : decode cX5_isSo 100 = .ok (.invokevirtual 56, 3) := by decide +kernel
theorem dX5_isSo_103 : decode cX5_isSo 103 = .ok (.invokevirtual 60, 3) := by decide +kernel
theorem dX5_isSo_106 : decode cX5_isSo 106 = .ok (.ifCond .ne 5, 3) := by decide +kernel
theorem dX5_isSo_109 : decode cX5_isSo 109 = .ok (.iconst 0, 1) := by decide +kernel
theorem dX5_isSo_110 : decode cX5_isSo 110 = .ok (.ireturn, 1) := by decide +kernel
theorem dX5_isSo_111 : decode cX5_isSo 111 = .ok (.iinc 6 1, 3) := by decide +kernel
theorem dX5_isSo_114 : decode cX5_isSo 114 = .ok (.goto (-101), 3) := by decide +kernel
theorem dX5_isSo_117 : decode cX5_isSo 117 = .ok (.iconst 1, 1) := by decide +kernel
theorem dX5_isSo_118 : decode cX5_isSo 118 = .ok (.ireturn, 1) := by decide +kernel
theorem dX5_countStrayed_0 : decode cX5_countStrayed 0 = .ok (.iconst 0, 1) := by decide +kernel
theorem dX5_countStrayed_1 : decode cX5_countStrayed 1 = .ok (.istore_n 3, 1) := by decide +kernel
theorem dX5_countStrayed_2 : decode cX5_countStrayed 2 = .ok (.iconst 0, 1) := by decide +kernel
theorem dX5_countStrayed_3 : decode cX5_countStrayed 3 = .ok (.istore 4, 2) := by decide +kernel
theorem dX5_countStrayed_5 : decode cX5_countStrayed 5 = .ok (.iload 4, 2) := by decide +kernel
theorem dX5_countStrayed_7 : decode cX5_countStrayed 7 = .ok (.aload_n 2, 1) := by decide +kernel
theorem dX5_countStrayed_8 : decode cX5_countStrayed 8 = .ok (.getfield 70, 3) := by decide +kernel
theorem dX5_countStrayed_11 : decode cX5_countStrayed 11 = .ok (.if_icmp .ge 49, 3) := by decide +kernel
theorem dX5_countStrayed_14 : decode cX5_countStrayed 14 = .ok (.aload_n 2, 1) := by decide +kernel
theorem dX5_countStrayed_15 : decode cX5_countStrayed 15 = .ok (.getfield 73, 3) := by decide +kernel
theorem dX5_countStrayed_18 : decode cX5_countStrayed 18 = .ok (.iload 4, 2) := by decide +kernel
theorem dX5_countStrayed_20 : decode cX5_countStrayed 20 = .ok (.iaload, 1) := by decide +kernel
theorem dX5_countStrayed_21 : decode cX5_countStrayed 21 = .ok (.iload_n 1, 1) := by decide +kernel
theorem dX5_countStrayed_22 : decode cX5_countStrayed 22 = .ok (.iand, 1) := by decide +kernel
theorem dX5_countStrayed_23 : decode cX5_countStrayed 23 = .ok (.invokestatic 77, 3) := by decide +kernel
theorem dX5_countStrayed_26 : decode cX5_countStrayed 26 = .ok (.istore 5, 2) := by decide +kernel
theorem dX5_countStrayed_28 : decode cX5_countStrayed 28 = .ok (.aload_n 2, 1) := by decide +kernel
theorem dX5_countStrayed_29 : decode cX5_countStrayed 29 = .ok (.getfield 73, 3) := by decide +kernel
theorem dX5_countStrayed_32 : decode cX5_countStrayed 32 = .ok (.iload 4, 2) := by decide +kernel
theorem dX5_countStrayed_34 : decode cX5_countStrayed 34 = .ok (.iaload, 1) := by decide +kernel
theorem dX5_countStrayed_35 : decode cX5_countStrayed 35 = .ok (.iload_n 1, 1) := by decide +kernel
theorem dX5_countStrayed_36 : decode cX5_countStrayed 36 = .ok (.iconst (-1), 1) := by decide +kernel
theorem dX5_countStrayed_37 : decode cX5_countStrayed 37 = .ok (.ixor, 1) := by decide +kernel
theorem dX5_countStrayed_38 : decode cX5_countStrayed 38 = .ok (.iand, 1) := by decide +kernel
theorem dX5_countStrayed_39 : decode cX5_countStrayed 39 = .ok (.invokestatic 77, 3) := by decide +kernel
theorem dX5_countStrayed_42 : decode cX5_countStrayed 42 = .ok (.istore 6, 2) := by decide +kernel
theorem dX5_countStrayed_44 : decode cX5_countStrayed 44 = .ok (.iload_n 3, 1) := by decide +kernel
theorem dX5_countStrayed_45 : decode cX5_countStrayed 45 = .ok (.iload 5, 2) := by decide +kernel
theorem dX5_countStrayed_47 : decode cX5_countStrayed 47 = .ok (.iload 6, 2) := by decide +kernel
theorem dX5_countStrayed_49 : decode cX5_countStrayed 49 = .ok (.invokestatic 83, 3) := by decide +kernel
theorem dX5_countStrayed_52 : decode cX5_countStrayed 52 = .ok (.iadd, 1) := by decide +kernel
theorem dX5_countStrayed_53 : decode cX5_countStrayed 53 = .ok (.istore_n 3, 1) := by decide +kernel
theorem dX5_countStrayed_54 : decode cX5_countStrayed 54 = .ok (.iinc 4 1, 3) := by decide +kernel
theorem dX5_countStrayed_57 : decode cX5_countStrayed 57 = .ok (.goto (-52), 3) := by decide +kernel
theorem dX5_countStrayed_60 : decode cX5_countStrayed 60 = .ok (.iload_n 3, 1) := by decide +kernel
theorem dX5_countStrayed_61 : decode cX5_countStrayed 61 = .ok (.ireturn, 1) := by decide +kernel
theorem dX6_init_0 : decode cX6_init 0 = .ok (.aload_n 0, 1) := by decide +kernel
theorem dX6_init_1 : decode cX6_init 1 = .ok (.invokespecial 3, 3) := by decide +kernel
theorem dX6_init_4 : decode cX6_init 4 = .ok (.aload_n 0, 1) := by decide +kernel
theorem dX6_init_5 : decode cX6_init 5 = .ok (.sipush 205, 3) := by decide +kernel
theorem dX6_init_8 : decode cX6_init 8 = .ok (.newarray .int, 2) := by decide +kernel
theorem dX6_init_10 : decode cX6_init 10 = .ok (.putfield 11, 3) := by decide +kernel
theorem dX6_init_13 : decode cX6_init 13 = .ok (.aload_n 0, 1) := by decide +kernel
theorem dX6_init_14 : decode cX6_init 14 = .ok (.sipush 205, 3) := by decide +kernel
theorem dX6_init_17 : decode cX6_init 17 = .ok (.newarray .int, 2) := by decide +kernel
theorem dX6_init_19 : decode cX6_init 19 = .ok (.putfield 15, 3) := by decide +kernel
theorem dX6_init_22 : decode cX6_init 22 = .ok (.aload_n 0, 1) := by decide +kernel
theorem dX6_init_23 : decode cX6_init 23 = .ok (.sipush 205, 3) := by decide +kernel
theorem dX6_init_26 : decode cX6_init 26 = .ok (.newarray .long, 2) := by decide +kernel
theorem dX6_init_28 : decode cX6_init 28 = .ok (.putfield 18, 3) := by decide +kernel
theorem dX6_init_31 : decode cX6_init 31 = .ok (.aload_n 0, 1) := by decide +kernel
theorem dX6_init_32 : decode cX6_init 32 = .ok (.aload_n 1, 1) := by decide +kernel
theorem dX6_init_33 : decode cX6_init 33 = .ok (.putfield 22, 3) := by decide +kernel
theorem dX6_init_36 : decode cX6_init 36 = .ok (.return_, 1) := by decide +kernel
theorem dX6_read_0 : decode cX6_read 0 = .ok (.aload_n 0, 1) := by decide +kernel
theorem dX6_read_1 : decode cX6_read 1 = .ok (.iload_n 1, 1) := by decide +kernel
theorem dX6_read_2 : decode cX6_read 2 = .ok (.aload_n 0, 1) := by decide +kernel
theorem dX6_read_3 : decode cX6_read 3 = .ok (.getfield 22, 3) := by decide +kernel
theorem dX6_read_6 : decode cX6_read 6 = .ok (.arraylength, 1) := by decide +kernel
theorem dX6_read_7 : decode cX6_read 7 = .ok (.invokestatic 26, 3) := by decide +kernel
theorem dX6_read_10 : decode cX6_read 10 = .ok (.putfield 32, 3) := by decide +kernel
theorem dX6_read_13 : decode cX6_read 13 = .ok (.aload_n 0, 1) := by decide +kernel
theorem dX6_read_14 : decode cX6_read 14 = .ok (.iconst 0, 1) := by decide +kernel
theorem dX6_read_15 : decode cX6_read 15 = .ok (.putfield 36, 3) := by decide +kernel
theorem dX6_read_18 : decode cX6_read 18 = .ok (.aload_n 0, 1) := by decide +kernel
theorem dX6_read_19 : decode cX6_read 19 = .ok (.iconst 0, 1) := by decide +kernel
theorem dX6_read_20 : decode cX6_read 20 = .ok (.putfield 39, 3) := by decide +kernel
theorem dX6_read_23 : decode cX6_read 23 = .ok (.iconst 2, 1) := by decide +kernel
theorem dX6_read_24 : decode cX6_read 24 = .ok (.istore_n 2, 1) := by decide +kernel
theorem dX6_read_25 : decode cX6_read 25 = .ok (.iload_n 2, 1) := by decide +kernel
theorem dX6_read_26 : decode cX6_read 26 = .ok (.ifCond .eq 63, 3) := by decide +kernel
theorem dX6_read_29 : decode cX6_read 29 = .ok (.iload_n 2, 1) := by decide +kernel
theorem dX6_read_30 : decode cX6_read 30 = .ok (.iconst 1, 1) := by decide +kernel
theorem dX6_read_31 : decode cX6_read 31 = .ok (.if_icmp .eq 58, 3) := by decide +kernel
theorem dX6_read_34 : decode cX6_read 34 = .ok (.aload_n 0, 1) := by decide +kernel
theorem dX6_read_35 : decode cX6_read 35 = .ok (.getfield 39, 3) := by decide +kernel
theorem dX6_read_38 : decode cX6_read 38 = .ok (.sipush 205, 3) := by decide +kernel
theorem dX6_read_41 : decode cX6_read 41 = .ok (.if_icmp .ge 48, 3) := by decide +kernel
theorem dX6_read_44 : decode cX6_read 44 = .ok (.aload_n 0, 1) := by decide +kernel
theorem dX6_read_45 : decode cX6_read 45 = .ok (.invokevirtual 42, 3) := by decide +kernel
theorem dX6_read_48 : decode cX6_read 48 = .ok (.aload_n 0, 1) := by decide +kernel
theorem dX6_read_49 : decode cX6_read 49 = .ok (.getfield 15, 3) := by decide +kernel
theorem dX6_read_52 : decode cX6_read 52 = .ok (.aload_n 0, 1) := by decide +kernel
theorem dX6_read_53 : decode cX6_read 53 = .ok (.getfield 39, 3) := by decide +kernel
theorem dX6_read_56 : decode cX6_read 56 = .ok (.aload_n 0, 1) := by decide +kernel
theorem dX6_read_57 : decode cX6_read 57 = .ok (.getfield 36, 3) := by decide +kernel
theorem dX6_read_60 : decode cX6_read 60 = .ok (.iastore, 1) := by decide +kernel
theorem dX6_read_61 : decode cX6_read 61 = .ok (.aload_n 0, 1) := by decide +kernel
theorem dX6_read_62 : decode cX6_read 62 = .ok (.invokevirtual 45, 3) := by decide +kernel
theorem dX6_read_65 : decode cX6_read 65 = .ok (.istore_n 2, 1) := by decide +kernel
theorem dX6_read_66 : decode cX6_read 66 = .ok (.aload_n 0, 1) := by decide +kernel
theorem dX6_read_67 : decode cX6_read 67 = .ok (.getfield 11, 3) := by decide +kernel
theorem dX6_read_70 : decode cX6_read 70 = .ok (.aload_n 0, 1) := by decide +kernel
theorem dX6_read_71 : decode cX6_read 71 = .ok (.getfield 39, 3) := by decide +kernel
theorem dX6_read_74 : decode cX6_read 74 = .ok (.iload_n 2, 1) := by decide +kernel
theorem dX6_read_75 : decode cX6_read 75 = .ok (.iastore, 1) := by decide +kernel
theorem dX6_read_76 : decode cX6_read 76 = .ok (.aload_n 0, 1) := by decide +kernel
theorem dX6_read_77 : decode cX6_read 77 = .ok (.dup, 1) := by decide +kernel
theorem dX6_read_78 : decode cX6_read 78 = .ok (.getfield 39, 3) := by decide +kernel
theorem dX6_read_81 : decode cX6_read 81 = .ok (.iconst 1, 1) := by decide +kernel
theorem dX6_read_82 : decode cX6_read 82 = .ok (.iadd, 1) := by decide +kernel
theorem dX6_read_83 : decode cX6_read 83 = .ok (.putfield 39, 3) := by decide +kernel
theorem dX6_read_86 : decode cX6_read 86 = .ok (.goto (-61), 3) := by decide +kernel
theorem dX6_read_89 : decode cX6_read 89 = .ok (.return_, 1) := by decide +kernel
theorem dX6_skipBlanks_0 : decode cX6_skipBlanks 0 = .ok (.aload_n 0, 1) := by decide +kernel
theorem dX6_skipBlanks_1 : decode cX6_skipBlanks 1 = .ok (.getfield 36, 3) := by decide +kernel
theorem dX6_skipBlanks_4 : decode cX6_skipBlanks 4 = .ok (.aload_n 0, 1) := by decide +kernel
theorem dX6_skipBlanks_5 : decode cX6_skipBlanks 5 = .ok (.getfield 32, 3) := by decide +kernel
theorem dX6_skipBlanks_8 : decode cX6_skipBlanks 8 = .ok (.if_icmp .ge 44, 3) := by decide +kernel
theorem dX6_skipBlanks_11 : decode cX6_skipBlanks 11 = .ok (.aload_n 0, 1) := by decide +kernel
theorem dX6_skipBlanks_12 : decode cX6_skipBlanks 12 = .ok (.getfield 22, 3) := by decide +kernel
theorem dX6_skipBlanks_15 : decode cX6_skipBlanks 15 = .ok (.aload_n 0, 1) := by decide +kernel
theorem dX6_skipBlanks_16 : decode cX6_skipBlanks 16 = .ok (.getfield 36, 3) := by decide +kernel
theorem dX6_skipBlanks_19 : decode cX6_skipBlanks 19 = .ok (.baload, 1) := by decide +kernel
theorem dX6_skipBlanks_20 : decode cX6_skipBlanks 20 = .ok (.bipush 32, 2) := by decide +kernel
theorem dX6_skipBlanks_22 : decode cX6_skipBlanks 22 = .ok (.if_icmp .eq 17, 3) := by decide +kernel
theorem dX6_skipBlanks_25 : decode cX6_skipBlanks 25 = .ok (.aload_n 0, 1) := by decide +kernel
theorem dX6_skipBlanks_26 : decode cX6_skipBlanks 26 = .ok (.getfield 22, 3) := by decide +kernel
theorem dX6_skipBlanks_29 : decode cX6_skipBlanks 29 = .ok (.aload_n 0, 1) := by decide +kernel
theorem dX6_skipBlanks_30 : decode cX6_skipBlanks 30 = .ok (.getfield 36, 3) := by decide +kernel
theorem dX6_skipBlanks_33 : decode cX6_skipBlanks 33 = .ok (.baload, 1) := by decide +kernel
theorem dX6_skipBlanks_34 : decode cX6_skipBlanks 34 = .ok (.bipush 10, 2) := by decide +kernel
theorem dX6_skipBlanks_36 : decode cX6_skipBlanks 36 = .ok (.if_icmp .ne 16, 3) := by decide +kernel
theorem dX6_skipBlanks_39 : decode cX6_skipBlanks 39 = .ok (.aload_n 0, 1) := by decide +kernel
theorem dX6_skipBlanks_40 : decode cX6_skipBlanks 40 = .ok (.dup, 1) := by decide +kernel
theorem dX6_skipBlanks_41 : decode cX6_skipBlanks 41 = .ok (.getfield 36, 3) := by decide +kernel
theorem dX6_skipBlanks_44 : decode cX6_skipBlanks 44 = .ok (.iconst 1, 1) := by decide +kernel
theorem dX6_skipBlanks_45 : decode cX6_skipBlanks 45 = .ok (.iadd, 1) := by decide +kernel
theorem dX6_skipBlanks_46 : decode cX6_skipBlanks 46 = .ok (.putfield 36, 3) := by decide +kernel
theorem dX6_skipBlanks_49 : decode cX6_skipBlanks 49 = .ok (.goto (-49), 3) := by decide +kernel
theorem dX6_skipBlanks_52 : decode cX6_skipBlanks 52 = .ok (.return_, 1) := by decide +kernel
theorem dX6_readToken_0 : decode cX6_readToken 0 = .ok (.aload_n 0, 1) := by decide +kernel
theorem dX6_readToken_1 : decode cX6_readToken 1 = .ok (.getfield 36, 3) := by decide +kernel
theorem dX6_readToken_4 : decode cX6_readToken 4 = .ok (.aload_n 0, 1) := by decide +kernel
theorem dX6_readToken_5 : decode cX6_readToken 5 = .ok (.getfield 32, 3) := by decide +kernel
theorem dX6_readToken_8 : decode cX6_readToken 8 = .ok (.if_icmp .lt 5, 3) := by decide +kernel
theorem dX6_readToken_11 : decode cX6_readToken 11 = .ok (.iconst 0, 1) := by decide +kernel
theorem dX6_readToken_12 : decode cX6_readToken 12 = .ok (.ireturn, 1) := by decide +kernel
theorem dX6_readToken_13 : decode cX6_readToken 13 = .ok (.aload_n 0, 1) := by decide +kernel
theorem dX6_readToken_14 : decode cX6_readToken 14 = .ok (.getfield 22, 3) := by decide +kernel
theorem dX6_readToken_17 : decode cX6_readToken 17 = .ok (.aload_n 0, 1) := by decide +kernel
theorem dX6_readToken_18 : decode cX6_readToken 18 = .ok (.getfield 36, 3) := by decide +kernel
theorem dX6_readToken_21 : decode cX6_readToken 21 = .ok (.baload, 1) := by decide +kernel
theorem dX6_readToken_22 : decode cX6_readToken 22 = .ok (.invokestatic 49, 3) := by decide +kernel
theorem dX6_readToken_25 : decode cX6_readToken 25 = .ok (.ifCond .eq 8, 3) := by decide +kernel
theorem dX6_readToken_28 : decode cX6_readToken 28 = .ok (.aload_n 0, 1) := by decide +kernel
theorem dX6_readToken_29 : decode cX6_readToken 29 = .ok (.invokevirtual 53, 3) := by decide +kernel
theorem dX6_readToken_32 : decode cX6_readToken 32 = .ok (.ireturn, 1) := by decide +kernel
theorem dX6_readToken_33 : decode cX6_readToken 33 = .ok (.aload_n 0, 1) := by decide +kernel
theorem dX6_readToken_34 : decode cX6_readToken 34 = .ok (.getfield 22, 3) := by decide +kernel
theorem dX6_readToken_37 : decode cX6_readToken 37 = .ok (.aload_n 0, 1) := by decide +kernel
theorem dX6_readToken_38 : decode cX6_readToken 38 = .ok (.getfield 36, 3) := by decide +kernel
theorem dX6_readToken_41 : decode cX6_readToken 41 = .ok (.baload, 1) := by decide +kernel
theorem dX6_readToken_42 : decode cX6_readToken 42 = .ok (.invokestatic 56, 3) := by decide +kernel
theorem dX6_readToken_45 : decode cX6_readToken 45 = .ok (.ifCond .eq 8, 3) := by decide +kernel
theorem dX6_readToken_48 : decode cX6_readToken 48 = .ok (.aload_n 0, 1) := by decide +kernel
theorem dX6_readToken_49 : decode cX6_readToken 49 = .ok (.invokevirtual 59, 3) := by decide +kernel
theorem dX6_readToken_52 : decode cX6_readToken 52 = .ok (.ireturn, 1) := by decide +kernel
theorem dX6_readToken_53 : decode cX6_readToken 53 = .ok (.aload_n 0, 1) := by decide +kernel
theorem dX6_readToken_54 : decode cX6_readToken 54 = .ok (.getfield 22, 3) := by decide +kernel
theorem dX6_readToken_57 : decode cX6_readToken 57 = .ok (.aload_n 0, 1) := by decide +kernel
theorem dX6_readToken_58 : decode cX6_readToken 58 = .ok (.getfield 36, 3) := by decide +kernel
theorem dX6_readToken_61 : decode cX6_readToken 61 = .ok (.baload, 1) := by decide +kernel
theorem dX6_readToken_62 : decode cX6_readToken 62 = .ok (.bipush 59, 2) := by decide +kernel
theorem dX6_readToken_64 : decode cX6_readToken 64 = .ok (.if_icmp .ne 7, 3) := by decide +kernel
theorem dX6_readToken_67 : decode cX6_readToken 67 = .ok (.iconst 1, 1) := by decide +kernel
theorem dX6_readToken_68 : decode cX6_readToken 68 = .ok (.goto 4, 3) := by decide +kernel
theorem dX6_readToken_71 : decode cX6_readToken 71 = .ok (.iconst 0, 1) := by decide +kernel
theorem dX6_readToken_72 : decode cX6_readToken 72 = .ok (.istore_n 1, 1) := by decide +kernel
theorem dX6_readToken_73 : decode cX6_readToken 73 = .ok (.aload_n 0, 1) := by decide +kernel
theorem dX6_readToken_74 : decode cX6_readToken 74 = .ok (.dup, 1) := by decide +kernel
theorem dX6_readToken_75 : decode cX6_readToken 75 = .ok (.getfield 36, 3) := by decide +kernel
theorem dX6_readToken_78 : decode cX6_readToken 78 = .ok (.iconst 1, 1) := by decide +kernel
theorem dX6_readToken_79 : decode cX6_readToken 79 = .ok (.iadd, 1) := by decide +kernel
theorem dX6_readToken_80 : decode cX6_readToken 80 = .ok (.putfield 36, 3) := by decide +kernel
theorem dX6_readToken_83 : decode cX6_readToken 83 = .ok (.iload_n 1, 1) := by decide +kernel
theorem dX6_readToken_84 : decode cX6_readToken 84 = .ok (.ifCond .eq 7, 3) := by decide +kernel
theorem dX6_readToken_87 : decode cX6_readToken 87 = .ok (.iconst 4, 1) := by decide +kernel
theorem dX6_readToken_88 : decode cX6_readToken 88 = .ok (.goto 4, 3) := by decide +kernel
theorem dX6_readToken_91 : decode cX6_readToken 91 = .ok (.iconst 1, 1) := by decide +kernel
theorem dX6_readToken_92 : decode cX6_readToken 92 = .ok (.ireturn, 1) := by decide +kernel
theorem dX6_readWord_0 : decode cX6_readWord 0 = .ok (.aload_n 0, 1) := by decide +kernel
theorem dX6_readWord_1 : decode cX6_readWord 1 = .ok (.getfield 36, 3) := by decide +kernel
theorem dX6_readWord_4 : decode cX6_readWord 4 = .ok (.istore_n 1, 1) := by decide +kernel
theorem dX6_readWord_5 : decode cX6_readWord 5 = .ok (.lconst 0, 1) := by decide +kernel
theorem dX6_readWord_6 : decode cX6_readWord 6 = .ok (.lstore_n 2, 1) := by decide +kernel
theorem dX6_readWord_7 : decode cX6_readWord 7 = .ok (.aload_n 0, 1) := by decide +kernel
theorem dX6_readWord_8 : decode cX6_readWord 8 = .ok (.getfield 36, 3) := by decide +kernel
theorem dX6_readWord_11 : decode cX6_readWord 11 = .ok (.aload_n 0, 1) := by decide +kernel
theorem dX6_readWord_12 : decode cX6_readWord 12 = .ok (.getfield 32, 3) := by decide +kernel
theorem dX6_readWord_15 : decode cX6_readWord 15 = .ok (.if_icmp .ge 47, 3) := by decide +kernel
theorem dX6_readWord_18 : decode cX6_readWord 18 = .ok (.aload_n 0, 1) := by decide +kernel
theorem dX6_readWord_19 : decode cX6_readWord 19 = .ok (.getfield 22, 3) := by decide +kernel
theorem dX6_readWord_22 : decode cX6_readWord 22 = .ok (.aload_n 0, 1) := by decide +kernel
theorem dX6_readWord_23 : decode cX6_readWord 23 = .ok (.getfield 36, 3) := by decide +kernel
theorem dX6_readWord_26 : decode cX6_readWord 26 = .ok (.baload, 1) := by decide +kernel
theorem dX6_readWord_27 : decode cX6_readWord 27 = .ok (.invokestatic 49, 3) := by decide +kernel
theorem dX6_readWord_30 : decode cX6_readWord 30 = .ok (.ifCond .eq 32, 3) := by decide +kernel
theorem dX6_readWord_33 : decode cX6_readWord 33 = .ok (.lload_n 2, 1) := by decide +kernel
theorem dX6_readWord_34 : decode cX6_readWord 34 = .ok (.bipush 8, 2) := by decide +kernel
theorem dX6_readWord_36 : decode cX6_readWord 36 = .ok (.lshl, 1) := by decide +kernel
theorem dX6_readWord_37 : decode cX6_readWord 37 = .ok (.aload_n 0, 1) := by decide +kernel
theorem dX6_readWord_38 : decode cX6_readWord 38 = .ok (.getfield 22, 3) := by decide +kernel
theorem dX6_readWord_41 : decode cX6_readWord 41 = .ok (.aload_n 0, 1) := by decide +kernel
theorem dX6_readWord_42 : decode cX6_readWord 42 = .ok (.getfield 36, 3) := by decide +kernel
theorem dX6_readWord_45 : decode cX6_readWord 45 = .ok (.baload, 1) := by decide +kernel
theorem dX6_readWord_46 : decode cX6_readWord 46 = .ok (.i2l, 1) := by decide +kernel
theorem dX6_readWord_47 : decode cX6_readWord 47 = .ok (.lor, 1) := by decide +kernel
theorem dX6_readWord_48 : decode cX6_readWord 48 = .ok (.lstore_n 2, 1) := by decide +kernel
theorem dX6_readWord_49 : decode cX6_readWord 49 = .ok (.aload_n 0, 1) := by decide +kernel
theorem dX6_readWord_50 : decode cX6_readWord 50 = .ok (.dup, 1) := by decide +kernel
theorem dX6_readWord_51 : decode cX6_readWord 51 = .ok (.getfield 36, 3) := by decide +kernel
theorem dX6_readWord_54 : decode cX6_readWord 54 = .ok (.iconst 1, 1) := by decide +kernel
theorem dX6_readWord_55 : decode cX6_readWord 55 = .ok (.iadd, 1) := by decide +kernel
theorem dX6_readWord_56 : decode cX6_readWord 56 = .ok (.putfield 36, 3) := by decide +kernel
theorem dX6_readWord_59 : decode cX6_readWord 59 = .ok (.goto (-52), 3) := by decide +kernel
theorem dX6_readWord_62 : decode cX6_readWord 62 = .ok (.aload_n 0, 1) := by decide +kernel
theorem dX6_readWord_63 : decode cX6_readWord 63 = .ok (.getfield 18, 3) := by decide +kernel
theorem dX6_readWord_66 : decode cX6_readWord 66 = .ok (.aload_n 0, 1) := by decide +kernel
theorem dX6_readWord_67 : decode cX6_readWord 67 = .ok (.getfield 39, 3) := by decide +kernel
theorem dX6_readWord_70 : decode cX6_readWord 70 = .ok (.lload_n 2, 1) := by decide +kernel
theorem dX6_readWord_71 : decode cX6_readWord 71 = .ok (.lastore, 1) := by decide +kernel
theorem dX6_readWord_72 : decode cX6_readWord 72 = .ok (.aload_n 0, 1) := by decide +kernel
theorem dX6_readWord_73 : decode cX6_readWord 73 = .ok (.getfield 36, 3) := by decide +kernel
theorem dX6_readWord_76 : decode cX6_readWord 76 = .ok (.iload_n 1, 1) := by decide +kernel
theorem dX6_readWord_77 : decode cX6_readWord 77 = .ok (.isub, 1) := by decide +kernel
theorem dX6_readWord_78 : decode cX6_readWord 78 = .ok (.bipush 8, 2) := by decide +kernel
theorem dX6_readWord_80 : decode cX6_readWord 80 = .ok (.if_icmp .gt 7, 3) := by decide +kernel
theorem dX6_readWord_83 : decode cX6_readWord 83 = .ok (.iconst 2, 1) := by decide +kernel
theorem dX6_readWord_84 : decode cX6_readWord 84 = .ok (.goto 4, 3) := by decide +kernel
theorem dX6_readWord_87 : decode cX6_readWord 87 = .ok (.iconst 1, 1) := by decide +kernel
theorem dX6_readWord_88 : decode cX6_readWord 88 = .ok (.ireturn, 1) := by decide +kernel
theorem dX6_readNumber_0 : decode cX6_readNumber 0 = .ok (.aload_n 0, 1) := by decide +kernel
theorem dX6_readNumber_1 : decode cX6_readNumber 1 = .ok (.getfield 36, 3) := by decide +kernel
theorem dX6_readNumber_4 : decode cX6_readNumber 4 = .ok (.istore_n 1, 1) := by decide +kernel
theorem dX6_readNumber_5 : decode cX6_readNumber 5 = .ok (.lconst 0, 1) := by decide +kernel
theorem dX6_readNumber_6 : decode cX6_readNumber 6 = .ok (.lstore_n 2, 1) := by decide +kernel
theorem dX6_readNumber_7 : decode cX6_readNumber 7 = .ok (.aload_n 0, 1) := by decide +kernel
theorem dX6_readNumber_8 : decode cX6_readNumber 8 = .ok (.getfield 36, 3) := by decide +kernel
theorem dX6_readNumber_11 : decode cX6_readNumber 11 = .ok (.aload_n 0, 1) := by decide +kernel
theorem dX6_readNumber_12 : decode cX6_readNumber 12 = .ok (.getfield 32, 3) := by decide +kernel
theorem dX6_readNumber_15 : decode cX6_readNumber 15 = .ok (.if_icmp .ge 52, 3) := by decide +kernel
theorem dX6_readNumber_18 : decode cX6_readNumber 18 = .ok (.aload_n 0, 1) := by decide +kernel
theorem dX6_readNumber_19 : decode cX6_readNumber 19 = .ok (.getfield 22, 3) := by decide +kernel
theorem dX6_readNumber_22 : decode cX6_readNumber 22 = .ok (.aload_n 0, 1) := by decide +kernel
theorem dX6_readNumber_23 : decode cX6_readNumber 23 = .ok (.getfield 36, 3) := by decide +kernel
theorem dX6_readNumber_26 : decode cX6_readNumber 26 = .ok (.baload, 1) := by decide +kernel
theorem dX6_readNumber_27 : decode cX6_readNumber 27 = .ok (.invokestatic 56, 3) := by decide +kernel
theorem dX6_readNumber_30 : decode cX6_readNumber 30 = .ok (.ifCond .eq 37, 3) := by decide +kernel
theorem dX6_readNumber_33 : decode cX6_readNumber 33 = .ok (.lload_n 2, 1) := by decide +kernel
theorem dX6_readNumber_34 : decode cX6_readNumber 34 = .ok (.ldc2_w 62, 3) := by decide +kernel
theorem dX6_readNumber_37 : decode cX6_readNumber 37 = .ok (.lmul, 1) := by decide +kernel
theorem dX6_readNumber_38 : decode cX6_readNumber 38 = .ok (.aload_n 0, 1) := by decide +kernel
theorem dX6_readNumber_39 : decode cX6_readNumber 39 = .ok (.getfield 22, 3) := by decide +kernel
theorem dX6_readNumber_42 : decode cX6_readNumber 42 = .ok (.aload_n 0, 1) := by decide +kernel
theorem dX6_readNumber_43 : decode cX6_readNumber 43 = .ok (.getfield 36, 3) := by decide +kernel
theorem dX6_readNumber_46 : decode cX6_readNumber 46 = .ok (.baload, 1) := by decide +kernel
theorem dX6_readNumber_47 : decode cX6_readNumber 47 = .ok (.i2l, 1) := by decide +kernel
theorem dX6_readNumber_48 : decode cX6_readNumber 48 = .ok (.ladd, 1) := by decide +kernel
theorem dX6_readNumber_49 : decode cX6_readNumber 49 = .ok (.ldc2_w 64, 3) := by decide +kernel
theorem dX6_readNumber_52 : decode cX6_readNumber 52 = .ok (.lsub, 1) := by decide +kernel
theorem dX6_readNumber_53 : decode cX6_readNumber 53 = .ok (.lstore_n 2, 1) := by decide +kernel
theorem dX6_readNumber_54 : decode cX6_readNumber 54 = .ok (.aload_n 0, 1) := by decide +kernel
theorem dX6_readNumber_55 : decode cX6_readNumber 55 = .ok (.dup, 1) := by decide +kernel
theorem dX6_readNumber_56 : decode cX6_readNumber 56 = .ok (.getfield 36, 3) := by decide +kernel
theorem dX6_readNumber_59 : decode cX6_readNumber 59 = .ok (.iconst 1, 1) := by decide +kernel
theorem dX6_readNumber_60 : decode cX6_readNumber 60 = .ok (.iadd, 1) := by decide +kernel
theorem dX6_readNumber_61 : decode cX6_readNumber 61 = .ok (.putfield 36, 3) := by decide +kernel
theorem dX6_readNumber_64 : decode cX6_readNumber 64 = .ok (.goto (-57), 3) := by decide +kernel
theorem dX6_readNumber_67 : decode cX6_readNumber 67 = .ok (.aload_n 0, 1) := by decide +kernel
theorem dX6_readNumber_68 : decode cX6_readNumber 68 = .ok (.getfield 18, 3) := by decide +kernel
theorem dX6_readNumber_71 : decode cX6_readNumber 71 = .ok (.aload_n 0, 1) := by decide +kernel
theorem dX6_readNumber_72 : decode cX6_readNumber 72 = .ok (.getfield 39, 3) := by decide +kernel
theorem dX6_readNumber_75 : decode cX6_readNumber 75 = .ok (.lload_n 2, 1) := by decide +kernel
theorem dX6_readNumber_76 : decode cX6_readNumber 76 = .ok (.lastore, 1) := by decide +kernel
theorem dX6_readNumber_77 : decode cX6_readNumber 77 = .ok (.aload_n 0, 1) := by decide +kernel
theorem dX6_readNumber_78 : decode cX6_readNumber 78 = .ok (.getfield 36, 3) := by decide +kernel
theorem dX6_readNumber_81 : decode cX6_readNumber 81 = .ok (.aload_n 0, 1) := by decide +kernel
theorem dX6_readNumber_82 : decode cX6_readNumber 82 = .ok (.getfield 32, 3) := by decide +kernel
theorem dX6_readNumber_85 : decode cX6_readNumber 85 = .ok (.if_icmp .ge 22, 3) := by decide +kernel
theorem dX6_readNumber_88 : decode cX6_readNumber 88 = .ok (.aload_n 0, 1) := by decide +kernel
theorem dX6_readNumber_89 : decode cX6_readNumber 89 = .ok (.getfield 22, 3) := by decide +kernel
theorem dX6_readNumber_92 : decode cX6_readNumber 92 = .ok (.aload_n 0, 1) := by decide +kernel
theorem dX6_readNumber_93 : decode cX6_readNumber 93 = .ok (.getfield 36, 3) := by decide +kernel
theorem dX6_readNumber_96 : decode cX6_readNumber 96 = .ok (.baload, 1) := by decide +kernel
theorem dX6_readNumber_97 : decode cX6_readNumber 97 = .ok (.invokestatic 49, 3) := by decide +kernel
theorem dX6_readNumber_100 : decode cX6_readNumber 100 = .ok (.ifCond .eq 7, 3) := by decide +kernel
theorem dX6_readNumber_103 : decode cX6_readNumber 103 = .ok (.iconst 1, 1) := by decide +kernel
theorem dX6_readNumber_104 : decode cX6_readNumber 104 = .ok (.goto 4, 3) := by decide +kernel
theorem dX6_readNumber_107 : decode cX6_readNumber 107 = .ok (.iconst 0, 1) := by decide +kernel
theorem dX6_readNumber_108 : decode cX6_readNumber 108 = .ok (.istore 4, 2) := by decide +kernel
theorem dX6_readNumber_110 : decode cX6_readNumber 110 = .ok (.aload_n 0, 1) := by decide +kernel
theorem dX6_readNumber_111 : decode cX6_readNumber 111 = .ok (.getfield 36, 3) := by decide +kernel
theorem dX6_readNumber_114 : decode cX6_readNumber 114 = .ok (.iload_n 1, 1) := by decide +kernel
theorem dX6_readNumber_115 : decode cX6_readNumber 115 = .ok (.isub, 1) := by decide +kernel
theorem dX6_readNumber_116 : decode cX6_readNumber 116 = .ok (.iconst 4, 1) := by decide +kernel
theorem dX6_readNumber_117 : decode cX6_readNumber 117 = .ok (.if_icmp .gt 12, 3) := by decide +kernel
theorem dX6_readNumber_120 : decode cX6_readNumber 120 = .ok (.iload 4, 2) := by decide +kernel
theorem dX6_readNumber_122 : decode cX6_readNumber 122 = .ok (.ifCond .ne 7, 3) := by decide +kernel
theorem dX6_readNumber_125 : decode cX6_readNumber 125 = .ok (.iconst 3, 1) := by decide +kernel
theorem dX6_readNumber_126 : decode cX6_readNumber 126 = .ok (.goto 4, 3) := by decide +kernel
theorem dX6_readNumber_129 : decode cX6_readNumber 129 = .ok (.iconst 1, 1) := by decide +kernel
theorem dX6_readNumber_130 : decode cX6_readNumber 130 = .ok (.ireturn, 1) := by decide +kernel
theorem dX6_isLetter_0 : decode cX6_isLetter 0 = .ok (.iload_n 0, 1) := by decide +kernel
theorem dX6_isLetter_1 : decode cX6_isLetter 1 = .ok (.bipush 97, 2) := by decide +kernel
theorem dX6_isLetter_3 : decode cX6_isLetter 3 = .ok (.bipush 122, 2) := by decide +kernel
theorem dX6_isLetter_5 : decode cX6_isLetter 5 = .ok (.invokestatic 66, 3) := by decide +kernel
theorem dX6_isLetter_8 : decode cX6_isLetter 8 = .ok (.ireturn, 1) := by decide +kernel
theorem dX6_isDigit_0 : decode cX6_isDigit 0 = .ok (.iload_n 0, 1) := by decide +kernel
theorem dX6_isDigit_1 : decode cX6_isDigit 1 = .ok (.bipush 48, 2) := by decide +kernel
theorem dX6_isDigit_3 : decode cX6_isDigit 3 = .ok (.bipush 57, 2) := by decide +kernel
theorem dX6_isDigit_5 : decode cX6_isDigit 5 = .ok (.invokestatic 66, 3) := by decide +kernel
theorem dX6_isDigit_8 : decode cX6_isDigit 8 = .ok (.ireturn, 1) := by decide +kernel
theorem dX7_init_0 : decode cX7_init 0 = .ok (.aload_n 0, 1) := by decide +kernel
theorem dX7_init_1 : decode cX7_init 1 = .ok (.invokespecial 3, 3) := by decide +kernel
theorem dX7_init_4 : decode cX7_init 4 = .ok (.aload_n 0, 1) := by decide +kernel
theorem dX7_init_5 : decode cX7_init 5 = .ok (.bipush 11, 2) := by decide +kernel
theorem dX7_init_7 : decode cX7_init 7 = .ok (.newarray .int, 2) := by decide +kernel
theorem dX7_init_9 : decode cX7_init 9 = .ok (.putfield 9, 3) := by decide +kernel
theorem dX7_init_12 : decode cX7_init 12 = .ok (.aload_n 0, 1) := by decide +kernel
theorem dX7_init_13 : decode cX7_init 13 = .ok (.bipush 11, 2) := by decide +kernel
theorem dX7_init_15 : decode cX7_init 15 = .ok (.newarray .int, 2) := by decide +kernel
theorem dX7_init_17 : decode cX7_init 17 = .ok (.putfield 15, 3) := by decide +kernel
theorem dX7_init_20 : decode cX7_init 20 = .ok (.aload_n 0, 1) := by decide +kernel
theorem dX7_init_21 : decode cX7_init 21 = .ok (.bipush 44, 2) := by decide +kernel
theorem dX7_init_23 : decode cX7_init 23 = .ok (.newarray .int, 2) := by decide +kernel
theorem dX7_init_25 : decode cX7_init 25 = .ok (.putfield 18, 3) := by decide +kernel
theorem dX7_init_28 : decode cX7_init 28 = .ok (.aload_n 0, 1) := by decide +kernel
theorem dX7_init_29 : decode cX7_init 29 = .ok (.bipush 48, 2) := by decide +kernel
theorem dX7_init_31 : decode cX7_init 31 = .ok (.newarray .int, 2) := by decide +kernel
theorem dX7_init_33 : decode cX7_init 33 = .ok (.putfield 21, 3) := by decide +kernel
theorem dX7_init_36 : decode cX7_init 36 = .ok (.aload_n 0, 1) := by decide +kernel
theorem dX7_init_37 : decode cX7_init 37 = .ok (.bipush 48, 2) := by decide +kernel
theorem dX7_init_39 : decode cX7_init 39 = .ok (.newarray .int, 2) := by decide +kernel
theorem dX7_init_41 : decode cX7_init 41 = .ok (.putfield 24, 3) := by decide +kernel
theorem dX7_init_44 : decode cX7_init 44 = .ok (.aload_n 0, 1) := by decide +kernel
theorem dX7_init_45 : decode cX7_init 45 = .ok (.bipush 64, 2) := by decide +kernel
theorem dX7_init_47 : decode cX7_init 47 = .ok (.newarray .int, 2) := by decide +kernel
theorem dX7_init_49 : decode cX7_init 49 = .ok (.putfield 27, 3) := by decide +kernel
theorem dX7_init_52 : decode cX7_init 52 = .ok (.return_, 1) := by decide +kernel
theorem dX7_seek_0 : decode cX7_seek 0 = .ok (.aload_n 0, 1) := by decide +kernel
theorem dX7_seek_1 : decode cX7_seek 1 = .ok (.aload_n 1, 1) := by decide +kernel
theorem dX7_seek_2 : decode cX7_seek 2 = .ok (.aload_n 2, 1) := by decide +kernel
theorem dX7_seek_3 : decode cX7_seek 3 = .ok (.invokevirtual 30, 3) := by decide +kernel
theorem dX7_seek_6 : decode cX7_seek 6 = .ok (.iconst 0, 1) := by decide +kernel
theorem dX7_seek_7 : decode cX7_seek 7 = .ok (.istore 4, 2) := by decide +kernel
theorem dX7_seek_9 : decode cX7_seek 9 = .ok (.iload 4, 2) := by decide +kernel
theorem dX7_seek_11 : decode cX7_seek 11 = .ok (.bipush 99, 2) := by decide +kernel
theorem dX7_seek_13 : decode cX7_seek 13 = .ok (.if_icmp .gt 82, 3) := by decide +kernel
theorem dX7_seek_16 : decode cX7_seek 16 = .ok (.aload_n 0, 1) := by decide +kernel
theorem dX7_seek_17 : decode cX7_seek 17 = .ok (.aload_n 1, 1) := by decide +kernel
theorem dX7_seek_18 : decode cX7_seek 18 = .ok (.aload_n 2, 1) := by decide +kernel
theorem dX7_seek_19 : decode cX7_seek 19 = .ok (.iload 4, 2) := by decide +kernel
theorem dX7_seek_21 : decode cX7_seek 21 = .ok (.iload_n 3, 1) := by decide +kernel
theorem dX7_seek_22 : decode cX7_seek 22 = .ok (.invokevirtual 34, 3) := by decide +kernel
theorem dX7_seek_25 : decode cX7_seek 25 = .ok (.aload_n 0, 1) := by decide +kernel
theorem dX7_seek_26 : decode cX7_seek 26 = .ok (.iconst 0, 1) := by decide +kernel
theorem dX7_seek_27 : decode cX7_seek 27 = .ok (.putfield 38, 3) := by decide +kernel
theorem dX7_seek_30 : decode cX7_seek 30 = .ok (.aload_n 0, 1) := by decide +kernel
theorem dX7_seek_31 : decode cX7_seek 31 = .ok (.aload_n 2, 1) := by decide +kernel
theorem dX7_seek_32 : decode cX7_seek 32 = .ok (.invokevirtual 42, 3) := by decide +kernel
theorem dX7_seek_35 : decode cX7_seek 35 = .ok (.ifCond .eq 10, 3) := by decide +kernel
theorem dX7_seek_38 : decode cX7_seek 38 = .ok (.aload_n 0, 1) := by decide +kernel
theorem dX7_seek_39 : decode cX7_seek 39 = .ok (.iconst 0, 1) := by decide +kernel
theorem dX7_seek_40 : decode cX7_seek 40 = .ok (.iconst 0, 1) := by decide +kernel
theorem dX7_seek_41 : decode cX7_seek 41 = .ok (.aload_n 2, 1) := by decide +kernel
theorem dX7_seek_42 : decode cX7_seek 42 = .ok (.invokevirtual 46, 3) := by decide +kernel
theorem dX7_seek_45 : decode cX7_seek 45 = .ok (.aload_n 0, 1) := by decide +kernel
theorem dX7_seek_46 : decode cX7_seek 46 = .ok (.getfield 38, 3) := by decide +kernel
theorem dX7_seek_49 : decode cX7_seek 49 = .ok (.ifCond .eq 40, 3) := by decide +kernel
theorem dX7_seek_52 : decode cX7_seek 52 = .ok (.aload_n 0, 1) := by decide +kernel
theorem dX7_seek_53 : decode cX7_seek 53 = .ok (.dup, 1) := by decide +kernel
theorem dX7_seek_54 : decode cX7_seek 54 = .ok (.getfield 50, 3) := by decide +kernel
theorem dX7_seek_57 : decode cX7_seek 57 = .ok (.iconst 1, 1) := by decide +kernel
theorem dX7_seek_58 : decode cX7_seek 58 = .ok (.iadd, 1) := by decide +kernel
theorem dX7_seek_59 : decode cX7_seek 59 = .ok (.putfield 50, 3) := by decide +kernel
theorem dX7_seek_62 : decode cX7_seek 62 = .ok (.aload_n 0, 1) := by decide +kernel
theorem dX7_seek_63 : decode cX7_seek 63 = .ok (.aload_n 0, 1) := by decide +kernel
theorem dX7_seek_64 : decode cX7_seek 64 = .ok (.getfield 54, 3) := by decide +kernel
theorem dX7_seek_67 : decode cX7_seek 67 = .ok (.iconst (-1), 1) := by decide +kernel
theorem dX7_seek_68 : decode cX7_seek 68 = .ok (.if_icmp .ne 8, 3) := by decide +kernel
theorem dX7_seek_71 : decode cX7_seek 71 = .ok (.iload 4, 2) := by decide +kernel
theorem dX7_seek_73 : decode cX7_seek 73 = .ok (.goto 7, 3) := by decide +kernel
theorem dX7_seek_76 : decode cX7_seek 76 = .ok (.aload_n 0, 1) := by decide +kernel
theorem dX7_seek_77 : decode cX7_seek 77 = .ok (.getfield 54, 3) := by decide +kernel
theorem dX7_seek_80 : decode cX7_seek 80 = .ok (.putfield 54, 3) := by decide +kernel
theorem dX7_seek_83 : decode cX7_seek 83 = .ok (.aload_n 0, 1) := by decide +kernel
theorem dX7_seek_84 : decode cX7_seek 84 = .ok (.iload 4, 2) := by decide +kernel
theorem dX7_seek_86 : decode cX7_seek 86 = .ok (.putfield 57, 3) := by decide +kernel
theorem dX7_seek_89 : decode cX7_seek 89 = .ok (.iinc 4 1, 3) := by decide +kernel
theorem dX7_seek_92 : decode cX7_seek 92 = .ok (.goto (-83), 3) := by decide +kernel
theorem dX7_seek_95 : decode cX7_seek 95 = .ok (.aload_n 0, 1) := by decide +kernel
theorem dX7_seek_96 : decode cX7_seek 96 = .ok (.aload_n 0, 1) := by decide +kernel
theorem dX7_seek_97 : decode cX7_seek 97 = .ok (.getfield 60, 3) := by decide +kernel
theorem dX7_seek_100 : decode cX7_seek 100 = .ok (.ifCond .ne 7, 3) := by decide +kernel
theorem dX7_seek_103 : decode cX7_seek 103 = .ok (.iconst 0, 1) := by decide +kernel
theorem dX7_seek_104 : decode cX7_seek 104 = .ok (.goto 11, 3) := by decide +kernel
theorem dX7_seek_107 : decode cX7_seek 107 = .ok (.aload_n 0, 1) := by decide +kernel
theorem dX7_seek_108 : decode cX7_seek 108 = .ok (.aload_n 0, 1) := by decide +kernel
theorem dX7_seek_109 : decode cX7_seek 109 = .ok (.getfield 63, 3) := by decide +kernel
theorem dX7_seek_112 : decode cX7_seek 112 = .ok (.invokevirtual 66, 3) := by decide +kernel
theorem dX7_seek_115 : decode cX7_seek 115 = .ok (.putfield 63, 3) := by decide +kernel
theorem dX7_seek_118 : decode cX7_seek 118 = .ok (.aload_n 0, 1) := by decide +kernel
theorem dX7_seek_119 : decode cX7_seek 119 = .ok (.aload_n 0, 1) := by decide +kernel
theorem dX7_seek_120 : decode cX7_seek 120 = .ok (.getfield 60, 3) := by decide +kernel
theorem dX7_seek_123 : decode cX7_seek 123 = .ok (.ifCond .ne 7, 3) := by decide +kernel
theorem dX7_seek_126 : decode cX7_seek 126 = .ok (.iconst 0, 1) := by decide +kernel
theorem dX7_seek_127 : decode cX7_seek 127 = .ok (.goto 11, 3) := by decide +kernel
theorem dX7_seek_130 : decode cX7_seek 130 = .ok (.aload_n 0, 1) := by decide +kernel
theorem dX7_seek_131 : decode cX7_seek 131 = .ok (.aload_n 0, 1) := by decide +kernel
theorem dX7_seek_132 : decode cX7_seek 132 = .ok (.getfield 70, 3) := by decide +kernel
theorem dX7_seek_135 : decode cX7_seek 135 = .ok (.invokevirtual 66, 3) := by decide +kernel
theorem dX7_seek_138 : decode cX7_seek 138 = .ok (.putfield 70, 3) := by decide +kernel
theorem dX7_seek_141 : decode cX7_seek 141 = .ok (.aload_n 0, 1) := by decide +kernel
theorem dX7_seek_142 : decode cX7_seek 142 = .ok (.dup, 1) := by decide +kernel
theorem dX7_seek_143 : decode cX7_seek 143 = .ok (.getfield 60, 3) := by decide +kernel
theorem dX7_seek_146 : decode cX7_seek 146 = .ok (.aload_n 1, 1) := by decide +kernel
theorem dX7_seek_147 : decode cX7_seek 147 = .ok (.getfield 73, 3) := by decide +kernel
theorem dX7_seek_150 : decode cX7_seek 150 = .ok (.aload_n 0, 1) := by decide +kernel
theorem dX7_seek_151 : decode cX7_seek 151 = .ok (.getfield 77, 3) := by decide +kernel
theorem dX7_seek_154 : decode cX7_seek 154 = .ok (.isub, 1) := by decide +kernel
theorem dX7_seek_155 : decode cX7_seek 155 = .ok (.ishl, 1) := by decide +kernel
theorem dX7_seek_156 : decode cX7_seek 156 = .ok (.putfield 60, 3) := by decide +kernel
theorem dX7_seek_159 : decode cX7_seek 159 = .ok (.return_, 1) := by decide +kernel
theorem dX7_begin_0 : decode cX7_begin 0 = .ok (.aload_n 0, 1) := by decide +kernel
theorem dX7_begin_1 : decode cX7_begin 1 = .ok (.iconst 0, 1) := by decide +kernel
theorem dX7_begin_2 : decode cX7_begin 2 = .ok (.putfield 77, 3) := by decide +kernel
theorem dX7_begin_5 : decode cX7_begin 5 = .ok (.iconst 0, 1) := by decide +kernel
theorem dX7_begin_6 : decode cX7_begin 6 = .ok (.istore_n 3, 1) := by decide +kernel
theorem dX7_begin_7 : decode cX7_begin 7 = .ok (.iload_n 3, 1) := by decide +kernel
theorem dX7_begin_8 : decode cX7_begin 8 = .ok (.aload_n 1, 1) := by decide +kernel
theorem dX7_begin_9 : decode cX7_begin 9 = .ok (.getfield 73, 3) := by decide +kernel
theorem dX7_begin_12 : decode cX7_begin 12 = .ok (.if_icmp .ge 61, 3) := by decide +kernel
theorem dX7_begin_15 : decode cX7_begin 15 = .ok (.aload_n 2, 1) := by decide +kernel
theorem dX7_begin_16 : decode cX7_begin 16 = .ok (.getfield 80, 3) := by decide +kernel
theorem dX7_begin_19 : decode cX7_begin 19 = .ok (.aload_n 1, 1) := by decide +kernel
theorem dX7_begin_20 : decode cX7_begin 20 = .ok (.getfield 84, 3) := by decide +kernel
theorem dX7_begin_23 : decode cX7_begin 23 = .ok (.iload_n 3, 1) := by decide +kernel
theorem dX7_begin_24 : decode cX7_begin 24 = .ok (.iaload, 1) := by decide +kernel
theorem dX7_begin_25 : decode cX7_begin 25 = .ok (.ishr, 1) := by decide +kernel
theorem dX7_begin_26 : decode cX7_begin 26 = .ok (.iconst 1, 1) := by decide +kernel
theorem dX7_begin_27 : decode cX7_begin 27 = .ok (.iand, 1) := by decide +kernel
theorem dX7_begin_28 : decode cX7_begin 28 = .ok (.iconst 1, 1) := by decide +kernel
theorem dX7_begin_29 : decode cX7_begin 29 = .ok (.if_icmp .ne 38, 3) := by decide +kernel
theorem dX7_begin_32 : decode cX7_begin 32 = .ok (.aload_n 0, 1) := by decide +kernel
theorem dX7_begin_33 : decode cX7_begin 33 = .ok (.getfield 9, 3) := by decide +kernel
theorem dX7_begin_36 : decode cX7_begin 36 = .ok (.aload_n 0, 1) := by decide +kernel
theorem dX7_begin_37 : decode cX7_begin 37 = .ok (.getfield 77, 3) := by decide +kernel
theorem dX7_begin_40 : decode cX7_begin 40 = .ok (.iload_n 3, 1) := by decide +kernel
theorem dX7_begin_41 : decode cX7_begin 41 = .ok (.iastore, 1) := by decide +kernel
theorem dX7_begin_42 : decode cX7_begin 42 = .ok (.aload_n 0, 1) := by decide +kernel
theorem dX7_begin_43 : decode cX7_begin 43 = .ok (.getfield 15, 3) := by decide +kernel
theorem dX7_begin_46 : decode cX7_begin 46 = .ok (.aload_n 0, 1) := by decide +kernel
theorem dX7_begin_47 : decode cX7_begin 47 = .ok (.getfield 77, 3) := by decide +kernel
theorem dX7_begin_50 : decode cX7_begin 50 = .ok (.aload_n 1, 1) := by decide +kernel
theorem dX7_begin_51 : decode cX7_begin 51 = .ok (.getfield 84, 3) := by decide +kernel
theorem dX7_begin_54 : decode cX7_begin 54 = .ok (.iload_n 3, 1) := by decide +kernel
theorem dX7_begin_55 : decode cX7_begin 55 = .ok (.iaload, 1) := by decide +kernel
theorem dX7_begin_56 : decode cX7_begin 56 = .ok (.iastore, 1) := by decide +kernel
theorem dX7_begin_57 : decode cX7_begin 57 = .ok (.aload_n 0, 1) := by decide +kernel
theorem dX7_begin_58 : decode cX7_begin 58 = .ok (.dup, 1) := by decide +kernel
theorem dX7_begin_59 : decode cX7_begin 59 = .ok (.getfield 77, 3) := by decide +kernel
theorem dX7_begin_62 : decode cX7_begin 62 = .ok (.iconst 1, 1) := by decide +kernel
theorem dX7_begin_63 : decode cX7_begin 63 = .ok (.iadd, 1) := by decide +kernel
theorem dX7_begin_64 : decode cX7_begin 64 = .ok (.putfield 77, 3) := by decide +kernel
theorem dX7_begin_67 : decode cX7_begin 67 = .ok (.iinc 3 1, 3) := by decide +kernel
theorem dX7_begin_70 : decode cX7_begin 70 = .ok (.goto (-63), 3) := by decide +kernel
theorem dX7_begin_73 : decode cX7_begin 73 = .ok (.aload_n 0, 1) := by decide +kernel
theorem dX7_begin_74 : decode cX7_begin 74 = .ok (.iconst 0, 1) := by decide +kernel
theorem dX7_begin_75 : decode cX7_begin 75 = .ok (.putfield 60, 3) := by decide +kernel
theorem dX7_begin_78 : decode cX7_begin 78 = .ok (.aload_n 0, 1) := by decide +kernel
theorem dX7_begin_79 : decode cX7_begin 79 = .ok (.iconst (-1), 1) := by decide +kernel
theorem dX7_begin_80 : decode cX7_begin 80 = .ok (.putfield 63, 3) := by decide +kernel
theorem dX7_begin_83 : decode cX7_begin 83 = .ok (.aload_n 0, 1) := by decide +kernel
theorem dX7_begin_84 : decode cX7_begin 84 = .ok (.iconst (-1), 1) := by decide +kernel
theorem dX7_begin_85 : decode cX7_begin 85 = .ok (.putfield 70, 3) := by decide +kernel
theorem dX7_begin_88 : decode cX7_begin 88 = .ok (.aload_n 0, 1) := by decide +kernel
theorem dX7_begin_89 : decode cX7_begin 89 = .ok (.iconst 0, 1) := by decide +kernel
theorem dX7_begin_90 : decode cX7_begin 90 = .ok (.putfield 50, 3) := by decide +kernel
theorem dX7_begin_93 : decode cX7_begin 93 = .ok (.aload_n 0, 1) := by decide +kernel
theorem dX7_begin_94 : decode cX7_begin 94 = .ok (.iconst (-1), 1) := by decide +kernel
theorem dX7_begin_95 : decode cX7_begin 95 = .ok (.putfield 54, 3) := by decide +kernel
theorem dX7_begin_98 : decode cX7_begin 98 = .ok (.aload_n 0, 1) := by decide +kernel
theorem dX7_begin_99 : decode cX7_begin 99 = .ok (.iconst (-1), 1) := by decide +kernel
theorem dX7_begin_100 : decode cX7_begin 100 = .ok (.putfield 57, 3) := by decide +kernel
theorem dX7_begin_103 : decode cX7_begin 103 = .ok (.aload_n 0, 1) := by decide +kernel
theorem dX7_begin_104 : decode cX7_begin 104 = .ok (.getfield 21, 3) := by decide +kernel
theorem dX7_begin_107 : decode cX7_begin 107 = .ok (.iconst 0, 1) := by decide +kernel
theorem dX7_begin_108 : decode cX7_begin 108 = .ok (.invokestatic 85, 3) := by decide +kernel
theorem dX7_begin_111 : decode cX7_begin 111 = .ok (.aload_n 0, 1) := by decide +kernel
theorem dX7_begin_112 : decode cX7_begin 112 = .ok (.getfield 27, 3) := by decide +kernel
theorem dX7_begin_115 : decode cX7_begin 115 = .ok (.iconst 0, 1) := by decide +kernel
theorem dX7_begin_116 : decode cX7_begin 116 = .ok (.invokestatic 85, 3) := by decide +kernel
theorem dX7_begin_119 : decode cX7_begin 119 = .ok (.return_, 1) := by decide +kernel
theorem dX7_weigh_0 : decode cX7_weigh 0 = .ok (.aload_n 0, 1) := by decide +kernel
theorem dX7_weigh_1 : decode cX7_weigh 1 = .ok (.getfield 24, 3) := by decide +kernel
theorem dX7_weigh_4 : decode cX7_weigh 4 = .ok (.iconst 0, 1) := by decide +kernel
theorem dX7_weigh_5 : decode cX7_weigh 5 = .ok (.invokestatic 85, 3) := by decide +kernel
theorem dX7_weigh_8 : decode cX7_weigh 8 = .ok (.iconst 0, 1) := by decide +kernel
theorem dX7_weigh_9 : decode cX7_weigh 9 = .ok (.istore 5, 2) := by decide +kernel
theorem dX7_weigh_11 : decode cX7_weigh 11 = .ok (.iload 5, 2) := by decide +kernel
theorem dX7_weigh_13 : decode cX7_weigh 13 = .ok (.aload_n 0, 1) := by decide +kernel
theorem dX7_weigh_14 : decode cX7_weigh 14 = .ok (.getfield 77, 3) := by decide +kernel
theorem dX7_weigh_17 : decode cX7_weigh 17 = .ok (.if_icmp .ge 76, 3) := by decide +kernel
theorem dX7_weigh_20 : decode cX7_weigh 20 = .ok (.iconst 0, 1) := by decide +kernel
theorem dX7_weigh_21 : decode cX7_weigh 21 = .ok (.istore 6, 2) := by decide +kernel
theorem dX7_weigh_23 : decode cX7_weigh 23 = .ok (.iload 6, 2) := by decide +kernel
theorem dX7_weigh_25 : decode cX7_weigh 25 = .ok (.aload_n 2, 1) := by decide +kernel
theorem dX7_weigh_26 : decode cX7_weigh 26 = .ok (.getfield 91, 3) := by decide +kernel
theorem dX7_weigh_29 : decode cX7_weigh 29 = .ok (.if_icmp .ge 46, 3) := by decide +kernel
theorem dX7_weigh_32 : decode cX7_weigh 32 = .ok (.aload_n 2, 1) := by decide +kernel
theorem dX7_weigh_33 : decode cX7_weigh 33 = .ok (.getfield 94, 3) := by decide +kernel
theorem dX7_weigh_36 : decode cX7_weigh 36 = .ok (.iload 6, 2) := by decide +kernel
theorem dX7_weigh_38 : decode cX7_weigh 38 = .ok (.iaload, 1) := by decide +kernel
theorem dX7_weigh_39 : decode cX7_weigh 39 = .ok (.istore 7, 2) := by decide +kernel
theorem dX7_weigh_41 : decode cX7_weigh 41 = .ok (.aload_n 0, 1) := by decide +kernel
theorem dX7_weigh_42 : decode cX7_weigh 42 = .ok (.getfield 18, 3) := by decide +kernel
theorem dX7_weigh_45 : decode cX7_weigh 45 = .ok (.iload 5, 2) := by decide +kernel
theorem dX7_weigh_47 : decode cX7_weigh 47 = .ok (.iconst 4, 1) := by decide +kernel
theorem dX7_weigh_48 : decode cX7_weigh 48 = .ok (.imul, 1) := by decide +kernel
theorem dX7_weigh_49 : decode cX7_weigh 49 = .ok (.iload 7, 2) := by decide +kernel
theorem dX7_weigh_51 : decode cX7_weigh 51 = .ok (.iadd, 1) := by decide +kernel
theorem dX7_weigh_52 : decode cX7_weigh 52 = .ok (.aload_n 1, 1) := by decide +kernel
theorem dX7_weigh_53 : decode cX7_weigh 53 = .ok (.aload_n 0, 1) := by decide +kernel
theorem dX7_weigh_54 : decode cX7_weigh 54 = .ok (.getfield 9, 3) := by decide +kernel
theorem dX7_weigh_57 : decode cX7_weigh 57 = .ok (.iload 5, 2) := by decide +kernel
theorem dX7_weigh_59 : decode cX7_weigh 59 = .ok (.iaload, 1) := by decide +kernel
theorem dX7_weigh_60 : decode cX7_weigh 60 = .ok (.iload 7, 2) := by decide +kernel
theorem dX7_weigh_62 : decode cX7_weigh 62 = .ok (.iload_n 3, 1) := by decide +kernel
theorem dX7_weigh_63 : decode cX7_weigh 63 = .ok (.iload 4, 2) := by decide +kernel
theorem dX7_weigh_65 : decode cX7_weigh 65 = .ok (.invokevirtual 97, 3) := by decide +kernel
theorem dX7_weigh_68 : decode cX7_weigh 68 = .ok (.iastore, 1) := by decide +kernel
theorem dX7_weigh_69 : decode cX7_weigh 69 = .ok (.iinc 6 1, 3) := by decide +kernel
theorem dX7_weigh_72 : decode cX7_weigh 72 = .ok (.goto (-49), 3) := by decide +kernel
theorem dX7_weigh_75 : decode cX7_weigh 75 = .ok (.aload_n 0, 1) := by decide +kernel
theorem dX7_weigh_76 : decode cX7_weigh 76 = .ok (.iload 5, 2) := by decide +kernel
theorem dX7_weigh_78 : decode cX7_weigh 78 = .ok (.iconst 1, 1) := by decide +kernel
theorem dX7_weigh_79 : decode cX7_weigh 79 = .ok (.aload_n 0, 1) := by decide +kernel
theorem dX7_weigh_80 : decode cX7_weigh 80 = .ok (.getfield 24, 3) := by decide +kernel
theorem dX7_weigh_83 : decode cX7_weigh 83 = .ok (.aload_n 2, 1) := by decide +kernel
theorem dX7_weigh_84 : decode cX7_weigh 84 = .ok (.invokevirtual 101, 3) := by decide +kernel
theorem dX7_weigh_87 : decode cX7_weigh 87 = .ok (.iinc 5 1, 3) := by decide +kernel
theorem dX7_weigh_90 : decode cX7_weigh 90 = .ok (.goto (-79), 3) := by decide +kernel
theorem dX7_weigh_93 : decode cX7_weigh 93 = .ok (.return_, 1) := by decide +kernel
theorem dX7_anyCanBe_0 : decode cX7_anyCanBe 0 = .ok (.iconst 0, 1) := by decide +kernel
theorem dX7_anyCanBe_1 : decode cX7_anyCanBe 1 = .ok (.istore_n 2, 1) := by decide +kernel
theorem dX7_anyCanBe_2 : decode cX7_anyCanBe 2 = .ok (.iload_n 2, 1) := by decide +kernel
theorem dX7_anyCanBe_3 : decode cX7_anyCanBe 3 = .ok (.bipush 12, 2) := by decide +kernel
theorem dX7_anyCanBe_5 : decode cX7_anyCanBe 5 = .ok (.if_icmp .ge 27, 3) := by decide +kernel
theorem dX7_anyCanBe_8 : decode cX7_anyCanBe 8 = .ok (.aload_n 1, 1) := by decide +kernel
theorem dX7_anyCanBe_9 : decode cX7_anyCanBe 9 = .ok (.iload_n 2, 1) := by decide +kernel
theorem dX7_anyCanBe_10 : decode cX7_anyCanBe 10 = .ok (.aload_n 0, 1) := by decide +kernel
theorem dX7_anyCanBe_11 : decode cX7_anyCanBe 11 = .ok (.getfield 21, 3) := by decide +kernel
theorem dX7_anyCanBe_14 : decode cX7_anyCanBe 14 = .ok (.aload_n 0, 1) := by decide +kernel
theorem dX7_anyCanBe_15 : decode cX7_anyCanBe 15 = .ok (.getfield 24, 3) := by decide +kernel
theorem dX7_anyCanBe_18 : decode cX7_anyCanBe 18 = .ok (.invokevirtual 105, 3) := by decide +kernel
theorem dX7_anyCanBe_21 : decode cX7_anyCanBe 21 = .ok (.ifCond .ne 5, 3) := by decide +kernel
theorem dX7_anyCanBe_24 : decode cX7_anyCanBe 24 = .ok (.iconst 0, 1) := by decide +kernel
theorem dX7_anyCanBe_25 : decode cX7_anyCanBe 25 = .ok (.ireturn, 1) := by decide +kernel
theorem dX7_anyCanBe_26 : decode cX7_anyCanBe 26 = .ok (.iinc 2 1, 3) := by decide +kernel
theorem dX7_anyCanBe_29 : decode cX7_anyCanBe 29 = .ok (.goto (-27), 3) := by decide +kernel
theorem dX7_anyCanBe_32 : decode cX7_anyCanBe 32 = .ok (.iconst 1, 1) := by decide +kernel
theorem dX7_anyCanBe_33 : decode cX7_anyCanBe 33 = .ok (.ireturn, 1) := by decide +kernel
theorem dX7_choose_0 : decode cX7_choose 0 = .ok (.aload_n 0, 1) := by decide +kernel
theorem dX7_choose_1 : decode cX7_choose 1 = .ok (.getfield 38, 3) := by decide +kernel
theorem dX7_choose_4 : decode cX7_choose 4 = .ok (.ifCond .eq 13, 3) := by decide +kernel
theorem dX7_choose_7 : decode cX7_choose 7 = .ok (.aload_n 0, 1) := by decide +kernel
theorem dX7_choose_8 : decode cX7_choose 8 = .ok (.iload_n 1, 1) := by decide +kernel
theorem dX7_choose_9 : decode cX7_choose 9 = .ok (.iload_n 2, 1) := by decide +kernel
theorem dX7_choose_10 : decode cX7_choose 10 = .ok (.invokevirtual 109, 3) := by decide +kernel
theorem dX7_choose_13 : decode cX7_choose 13 = .ok (.ifCond .eq 4, 3) := by decide +kernel
theorem dX7_choose_16 : decode cX7_choose 16 = .ok (.return_, 1) := by decide +kernel
theorem dX7_choose_17 : decode cX7_choose 17 = .ok (.iload_n 1, 1) := by decide +kernel
theorem dX7_choose_18 : decode cX7_choose 18 = .ok (.aload_n 0, 1) := by decide +kernel
theorem dX7_choose_19 : decode cX7_choose 19 = .ok (.getfield 77, 3) := by decide +kernel
theorem dX7_choose_22 : decode cX7_choose 22 = .ok (.if_icmp .lt 9, 3) := by decide +kernel
theorem dX7_choose_25 : decode cX7_choose 25 = .ok (.aload_n 0, 1) := by decide +kernel
theorem dX7_choose_26 : decode cX7_choose 26 = .ok (.iload_n 2, 1) := by decide +kernel
theorem dX7_choose_27 : decode cX7_choose 27 = .ok (.invokevirtual 113, 3) := by decide +kernel
theorem dX7_choose_30 : decode cX7_choose 30 = .ok (.return_, 1) := by decide +kernel
theorem dX7_choose_31 : decode cX7_choose 31 = .ok (.aload_n 0, 1) := by decide +kernel
theorem dX7_choose_32 : decode cX7_choose 32 = .ok (.iload_n 1, 1) := by decide +kernel
theorem dX7_choose_33 : decode cX7_choose 33 = .ok (.iconst (-1), 1) := by decide +kernel
theorem dX7_choose_34 : decode cX7_choose 34 = .ok (.aload_n 0, 1) := by decide +kernel
theorem dX7_choose_35 : decode cX7_choose 35 = .ok (.getfield 24, 3) := by decide +kernel
theorem dX7_choose_38 : decode cX7_choose 38 = .ok (.aload_n 3, 1) := by decide +kernel
theorem dX7_choose_39 : decode cX7_choose 39 = .ok (.invokevirtual 101, 3) := by decide +kernel
theorem dX7_choose_42 : decode cX7_choose 42 = .ok (.aload_n 3, 1) := by decide +kernel
theorem dX7_choose_43 : decode cX7_choose 43 = .ok (.aload_n 0, 1) := by decide +kernel
theorem dX7_choose_44 : decode cX7_choose 44 = .ok (.getfield 15, 3) := by decide +kernel
theorem dX7_choose_47 : decode cX7_choose 47 = .ok (.iload_n 1, 1) := by decide +kernel
theorem dX7_choose_48 : decode cX7_choose 48 = .ok (.iaload, 1) := by decide +kernel
theorem dX7_choose_49 : decode cX7_choose 49 = .ok (.aload_n 0, 1) := by decide +kernel
theorem dX7_choose_50 : decode cX7_choose 50 = .ok (.getfield 21, 3) := by decide +kernel
theorem dX7_choose_53 : decode cX7_choose 53 = .ok (.aload_n 0, 1) := by decide +kernel
theorem dX7_choose_54 : decode cX7_choose 54 = .ok (.getfield 24, 3) := by decide +kernel
theorem dX7_choose_57 : decode cX7_choose 57 = .ok (.invokevirtual 105, 3) := by decide +kernel
theorem dX7_choose_60 : decode cX7_choose 60 = .ok (.ifCond .eq 14, 3) := by decide +kernel
theorem dX7_choose_63 : decode cX7_choose 63 = .ok (.aload_n 0, 1) := by decide +kernel
theorem dX7_choose_64 : decode cX7_choose 64 = .ok (.iload_n 1, 1) := by decide +kernel
theorem dX7_choose_65 : decode cX7_choose 65 = .ok (.iconst 1, 1) := by decide +kernel
theorem dX7_choose_66 : decode cX7_choose 66 = .ok (.iadd, 1) := by decide +kernel
theorem dX7_choose_67 : decode cX7_choose 67 = .ok (.iload_n 2, 1) := by decide +kernel
theorem dX7_choose_68 : decode cX7_choose 68 = .ok (.iconst 1, 1) := by decide +kernel
theorem dX7_choose_69 : decode cX7_choose 69 = .ok (.ishl, 1) := by decide +kernel
theorem dX7_choose_70 : decode cX7_choose 70 = .ok (.aload_n 3, 1) := by decide +kernel
theorem dX7_choose_71 : decode cX7_choose 71 = .ok (.invokevirtual 46, 3) := by decide +kernel
theorem dX7_choose_74 : decode cX7_choose 74 = .ok (.aload_n 0, 1) := by decide +kernel
theorem dX7_choose_75 : decode cX7_choose 75 = .ok (.iload_n 1, 1) := by decide +kernel
theorem dX7_choose_76 : decode cX7_choose 76 = .ok (.iconst 1, 1) := by decide +kernel
theorem dX7_choose_77 : decode cX7_choose 77 = .ok (.aload_n 0, 1) := by decide +kernel
theorem dX7_choose_78 : decode cX7_choose 78 = .ok (.getfield 21, 3) := by decide +kernel
theorem dX7_choose_81 : decode cX7_choose 81 = .ok (.aload_n 3, 1) := by decide +kernel
theorem dX7_choose_82 : decode cX7_choose 82 = .ok (.invokevirtual 101, 3) := by decide +kernel
theorem dX7_choose_85 : decode cX7_choose 85 = .ok (.aload_n 3, 1) := by decide +kernel
theorem dX7_choose_86 : decode cX7_choose 86 = .ok (.aload_n 0, 1) := by decide +kernel
theorem dX7_choose_87 : decode cX7_choose 87 = .ok (.getfield 15, 3) := by decide +kernel
theorem dX7_choose_90 : decode cX7_choose 90 = .ok (.iload_n 1, 1) := by decide +kernel
theorem dX7_choose_91 : decode cX7_choose 91 = .ok (.iaload, 1) := by decide +kernel
theorem dX7_choose_92 : decode cX7_choose 92 = .ok (.aload_n 0, 1) := by decide +kernel
theorem dX7_choose_93 : decode cX7_choose 93 = .ok (.getfield 21, 3) := by decide +kernel
theorem dX7_choose_96 : decode cX7_choose 96 = .ok (.aload_n 0, 1) := by decide +kernel
theorem dX7_choose_97 : decode cX7_choose 97 = .ok (.getfield 24, 3) := by decide +kernel
theorem dX7_choose_100 : decode cX7_choose 100 = .ok (.invokevirtual 105, 3) := by decide +kernel
theorem dX7_choose_103 : decode cX7_choose 103 = .ok (.ifCond .eq 16, 3) := by decide +kernel
theorem dX7_choose_106 : decode cX7_choose 106 = .ok (.aload_n 0, 1) := by decide +kernel
theorem dX7_choose_107 : decode cX7_choose 107 = .ok (.iload_n 1, 1) := by decide +kernel
theorem dX7_choose_108 : decode cX7_choose 108 = .ok (.iconst 1, 1) := by decide +kernel
theorem dX7_choose_109 : decode cX7_choose 109 = .ok (.iadd, 1) := by decide +kernel
theorem dX7_choose_110 : decode cX7_choose 110 = .ok (.iload_n 2, 1) := by decide +kernel
theorem dX7_choose_111 : decode cX7_choose 111 = .ok (.iconst 1, 1) := by decide +kernel
theorem dX7_choose_112 : decode cX7_choose 112 = .ok (.ishl, 1) := by decide +kernel
theorem dX7_choose_113 : decode cX7_choose 113 = .ok (.iconst 1, 1) := by decide +kernel
theorem dX7_choose_114 : decode cX7_choose 114 = .ok (.ior, 1) := by decide +kernel
theorem dX7_choose_115 : decode cX7_choose 115 = .ok (.aload_n 3, 1) := by decide +kernel
theorem dX7_choose_116 : decode cX7_choose 116 = .ok (.invokevirtual 46, 3) := by decide +kernel
theorem dX7_choose_119 : decode cX7_choose 119 = .ok (.aload_n 0, 1) := by decide +kernel
theorem dX7_choose_120 : decode cX7_choose 120 = .ok (.iload_n 1, 1) := by decide +kernel
theorem dX7_choose_121 : decode cX7_choose 121 = .ok (.iconst (-1), 1) := by decide +kernel
theorem dX7_choose_122 : decode cX7_choose 122 = .ok (.aload_n 0, 1) := by decide +kernel
theorem dX7_choose_123 : decode cX7_choose 123 = .ok (.getfield 21, 3) := by decide +kernel
theorem dX7_choose_126 : decode cX7_choose 126 = .ok (.aload_n 3, 1) := by decide +kernel
theorem dX7_choose_127 : decode cX7_choose 127 = .ok (.invokevirtual 101, 3) := by decide +kernel
theorem dX7_choose_130 : decode cX7_choose 130 = .ok (.aload_n 0, 1) := by decide +kernel
theorem dX7_choose_131 : decode cX7_choose 131 = .ok (.iload_n 1, 1) := by decide +kernel
theorem dX7_choose_132 : decode cX7_choose 132 = .ok (.iconst 1, 1) := by decide +kernel
theorem dX7_choose_133 : decode cX7_choose 133 = .ok (.aload_n 0, 1) := by decide +kernel
theorem dX7_choose_134 : decode cX7_choose 134 = .ok (.getfield 24, 3) := by decide +kernel
theorem dX7_choose_137 : decode cX7_choose 137 = .ok (.aload_n 3, 1) := by decide +kernel
theorem dX7_choose_138 : decode cX7_choose 138 = .ok (.invokevirtual 101, 3) := by decide +kernel
theorem dX7_choose_141 : decode cX7_choose 141 = .ok (.return_, 1) := by decide +kernel
theorem dX7_add_0 : decode cX7_add 0 = .ok (.iconst 0, 1) := by decide +kernel
theorem dX7_add_1 : decode cX7_add 1 = .ok (.istore 5, 2) := by decide +kernel
theorem dX7_add_3 : decode cX7_add 3 = .ok (.iload 5, 2) := by decide +kernel
theorem dX7_add_5 : decode cX7_add 5 = .ok (.aload 4, 2) := by decide +kernel
theorem dX7_add_7 : decode cX7_add 7 = .ok (.getfield 91, 3) := by decide +kernel
theorem dX7_add_10 : decode cX7_add 10 = .ok (.if_icmp .ge 49, 3) := by decide +kernel
theorem dX7_add_13 : decode cX7_add 13 = .ok (.aload 4, 2) := by decide +kernel
theorem dX7_add_15 : decode cX7_add 15 = .ok (.getfield 94, 3) := by decide +kernel
theorem dX7_add_18 : decode cX7_add 18 = .ok (.iload 5, 2) := by decide +kernel
theorem dX7_add_20 : decode cX7_add 20 = .ok (.iaload, 1) := by decide +kernel
theorem dX7_add_21 : decode cX7_add 21 = .ok (.istore 6, 2) := by decide +kernel
theorem dX7_add_23 : decode cX7_add 23 = .ok (.aload_n 3, 1) := by decide +kernel
theorem dX7_add_24 : decode cX7_add 24 = .ok (.iload 6, 2) := by decide +kernel
theorem dX7_add_26 : decode cX7_add 26 = .ok (.bipush 12, 2) := by decide +kernel
theorem dX7_add_28 : decode cX7_add 28 = .ok (.imul, 1) := by decide +kernel
theorem dX7_add_29 : decode cX7_add 29 = .ok (.aload_n 0, 1) := by decide +kernel
theorem dX7_add_30 : decode cX7_add 30 = .ok (.getfield 15, 3) := by decide +kernel
theorem dX7_add_33 : decode cX7_add 33 = .ok (.iload_n 1, 1) := by decide +kernel
theorem dX7_add_34 : decode cX7_add 34 = .ok (.iaload, 1) := by decide +kernel
theorem dX7_add_35 : decode cX7_add 35 = .ok (.iadd, 1) := by decide +kernel
theorem dX7_add_36 : decode cX7_add 36 = .ok (.dup2, 1) := by decide +kernel
theorem dX7_add_37 : decode cX7_add 37 = .ok (.iaload, 1) := by decide +kernel
theorem dX7_add_38 : decode cX7_add 38 = .ok (.iload_n 2, 1) := by decide +kernel
theorem dX7_add_39 : decode cX7_add 39 = .ok (.aload_n 0, 1) := by decide +kernel
theorem dX7_add_40 : decode cX7_add 40 = .ok (.getfield 18, 3) := by decide +kernel
theorem dX7_add_43 : decode cX7_add 43 = .ok (.iload_n 1, 1) := by decide +kernel
theorem dX7_add_44 : decode cX7_add 44 = .ok (.iconst 4, 1) := by decide +kernel
theorem dX7_add_45 : decode cX7_add 45 = .ok (.imul, 1) := by decide +kernel
theorem dX7_add_46 : decode cX7_add 46 = .ok (.iload 6, 2) := by decide +kernel
theorem dX7_add_48 : decode cX7_add 48 = .ok (.iadd, 1) := by decide +kernel
theorem dX7_add_49 : decode cX7_add 49 = .ok (.iaload, 1) := by decide +kernel
theorem dX7_add_50 : decode cX7_add 50 = .ok (.imul, 1) := by decide +kernel
theorem dX7_add_51 : decode cX7_add 51 = .ok (.iadd, 1) := by decide +kernel
theorem dX7_add_52 : decode cX7_add 52 = .ok (.iastore, 1) := by decide +kernel
theorem dX7_add_53 : decode cX7_add 53 = .ok (.iinc 5 1, 3) := by decide +kernel
theorem dX7_add_56 : decode cX7_add 56 = .ok (.goto (-53), 3) := by decide +kernel
theorem dX7_add_59 : decode cX7_add 59 = .ok (.return_, 1) := by decide +kernel
theorem dX7_allSeen_0 : decode cX7_allSeen 0 = .ok (.aload_n 0, 1) := by decide +kernel
theorem dX7_allSeen_1 : decode cX7_allSeen 1 = .ok (.getfield 77, 3) := by decide +kernel
theorem dX7_allSeen_4 : decode cX7_allSeen 4 = .ok (.iload_n 1, 1) := by decide +kernel
theorem dX7_allSeen_5 : decode cX7_allSeen 5 = .ok (.isub, 1) := by decide +kernel
theorem dX7_allSeen_6 : decode cX7_allSeen 6 = .ok (.istore_n 3, 1) := by decide +kernel
theorem dX7_allSeen_7 : decode cX7_allSeen 7 = .ok (.iconst 1, 1) := by decide +kernel
theorem dX7_allSeen_8 : decode cX7_allSeen 8 = .ok (.iload_n 3, 1) := by decide +kernel
theorem dX7_allSeen_9 : decode cX7_allSeen 9 = .ok (.ishl, 1) := by decide +kernel
theorem dX7_allSeen_10 : decode cX7_allSeen 10 = .ok (.bipush 32, 2) := by decide +kernel
theorem dX7_allSeen_12 : decode cX7_allSeen 12 = .ok (.if_icmp .le 22, 3) := by decide +kernel
theorem dX7_allSeen_15 : decode cX7_allSeen 15 = .ok (.aload_n 0, 1) := by decide +kernel
theorem dX7_allSeen_16 : decode cX7_allSeen 16 = .ok (.getfield 60, 3) := by decide +kernel
theorem dX7_allSeen_19 : decode cX7_allSeen 19 = .ok (.iconst 1, 1) := by decide +kernel
theorem dX7_allSeen_20 : decode cX7_allSeen 20 = .ok (.aload_n 0, 1) := by decide +kernel
theorem dX7_allSeen_21 : decode cX7_allSeen 21 = .ok (.getfield 77, 3) := by decide +kernel
theorem dX7_allSeen_24 : decode cX7_allSeen 24 = .ok (.ishl, 1) := by decide +kernel
theorem dX7_allSeen_25 : decode cX7_allSeen 25 = .ok (.if_icmp .ne 7, 3) := by decide +kernel
theorem dX7_allSeen_28 : decode cX7_allSeen 28 = .ok (.iconst 1, 1) := by decide +kernel
theorem dX7_allSeen_29 : decode cX7_allSeen 29 = .ok (.goto 4, 3) := by decide +kernel
theorem dX7_allSeen_32 : decode cX7_allSeen 32 = .ok (.iconst 0, 1) := by decide +kernel
theorem dX7_allSeen_33 : decode cX7_allSeen 33 = .ok (.ireturn, 1) := by decide +kernel
theorem dX7_allSeen_34 : decode cX7_allSeen 34 = .ok (.iload_n 2, 1) := by decide +kernel
theorem dX7_allSeen_35 : decode cX7_allSeen 35 = .ok (.iload_n 3, 1) := by decide +kernel
theorem dX7_allSeen_36 : decode cX7_allSeen 36 = .ok (.ishl, 1) := by decide +kernel
theorem dX7_allSeen_37 : decode cX7_allSeen 37 = .ok (.istore 4, 2) := by decide +kernel
theorem dX7_allSeen_39 : decode cX7_allSeen 39 = .ok (.iconst (-1), 1) := by decide +kernel
theorem dX7_allSeen_40 : decode cX7_allSeen 40 = .ok (.bipush 32, 2) := by decide +kernel
theorem dX7_allSeen_42 : decode cX7_allSeen 42 = .ok (.iconst 1, 1) := by decide +kernel
theorem dX7_allSeen_43 : decode cX7_allSeen 43 = .ok (.iload_n 3, 1) := by decide +kernel
theorem dX7_allSeen_44 : decode cX7_allSeen 44 = .ok (.ishl, 1) := by decide +kernel
theorem dX7_allSeen_45 : decode cX7_allSeen 45 = .ok (.isub, 1) := by decide +kernel
theorem dX7_allSeen_46 : decode cX7_allSeen 46 = .ok (.iushr, 1) := by decide +kernel
theorem dX7_allSeen_47 : decode cX7_allSeen 47 = .ok (.iload 4, 2) := by decide +kernel
theorem dX7_allSeen_49 : decode cX7_allSeen 49 = .ok (.bipush 32, 2) := by decide +kernel
theorem dX7_allSeen_51 : decode cX7_allSeen 51 = .ok (.irem, 1) := by decide +kernel
theorem dX7_allSeen_52 : decode cX7_allSeen 52 = .ok (.ishl, 1) := by decide +kernel
theorem dX7_allSeen_53 : decode cX7_allSeen 53 = .ok (.istore 5, 2) := by decide +kernel
theorem dX7_allSeen_55 : decode cX7_allSeen 55 = .ok (.aload_n 0, 1) := by decide +kernel
theorem dX7_allSeen_56 : decode cX7_allSeen 56 = .ok (.getfield 27, 3) := by decide +kernel
theorem dX7_allSeen_59 : decode cX7_allSeen 59 = .ok (.iload 4, 2) := by decide +kernel
theorem dX7_allSeen_61 : decode cX7_allSeen 61 = .ok (.bipush 32, 2) := by decide +kernel
theorem dX7_allSeen_63 : decode cX7_allSeen 63 = .ok (.idiv, 1) := by decide +kernel
theorem dX7_allSeen_64 : decode cX7_allSeen 64 = .ok (.iaload, 1) := by decide +kernel
theorem dX7_allSeen_65 : decode cX7_allSeen 65 = .ok (.iload 5, 2) := by decide +kernel
theorem dX7_allSeen_67 : decode cX7_allSeen 67 = .ok (.iand, 1) := by decide +kernel
theorem dX7_allSeen_68 : decode cX7_allSeen 68 = .ok (.iload 5, 2) := by decide +kernel
theorem dX7_allSeen_70 : decode cX7_allSeen 70 = .ok (.if_icmp .ne 7, 3) := by decide +kernel
theorem dX7_allSeen_73 : decode cX7_allSeen 73 = .ok (.iconst 1, 1) := by decide +kernel
theorem dX7_allSeen_74 : decode cX7_allSeen 74 = .ok (.goto 4, 3) := by decide +kernel
theorem dX7_allSeen_77 : decode cX7_allSeen 77 = .ok (.iconst 0, 1) := by decide +kernel
theorem dX7_allSeen_78 : decode cX7_allSeen 78 = .ok (.ireturn, 1) := by decide +kernel
theorem dX7_keep_0 : decode cX7_keep 0 = .ok (.aload_n 0, 1) := by decide +kernel
theorem dX7_keep_1 : decode cX7_keep 1 = .ok (.iconst 1, 1) := by decide +kernel
theorem dX7_keep_2 : decode cX7_keep 2 = .ok (.putfield 38, 3) := by decide +kernel
theorem dX7_keep_5 : decode cX7_keep 5 = .ok (.iconst 1, 1) := by decide +kernel
theorem dX7_keep_6 : decode cX7_keep 6 = .ok (.iload_n 1, 1) := by decide +kernel
theorem dX7_keep_7 : decode cX7_keep 7 = .ok (.bipush 32, 2) := by decide +kernel
theorem dX7_keep_9 : decode cX7_keep 9 = .ok (.irem, 1) := by decide +kernel
theorem dX7_keep_10 : decode cX7_keep 10 = .ok (.ishl, 1) := by decide +kernel
theorem dX7_keep_11 : decode cX7_keep 11 = .ok (.istore_n 2, 1) := by decide +kernel
theorem dX7_keep_12 : decode cX7_keep 12 = .ok (.aload_n 0, 1) := by decide +kernel
theorem dX7_keep_13 : decode cX7_keep 13 = .ok (.getfield 27, 3) := by decide +kernel
theorem dX7_keep_16 : decode cX7_keep 16 = .ok (.iload_n 1, 1) := by decide +kernel
theorem dX7_keep_17 : decode cX7_keep 17 = .ok (.bipush 32, 2) := by decide +kernel
theorem dX7_keep_19 : decode cX7_keep 19 = .ok (.idiv, 1) := by decide +kernel
theorem dX7_keep_20 : decode cX7_keep 20 = .ok (.iaload, 1) := by decide +kernel
theorem dX7_keep_21 : decode cX7_keep 21 = .ok (.iload_n 2, 1) := by decide +kernel
theorem dX7_keep_22 : decode cX7_keep 22 = .ok (.iand, 1) := by decide +kernel
theorem dX7_keep_23 : decode cX7_keep 23 = .ok (.ifCond .ne 48, 3) := by decide +kernel
theorem dX7_keep_26 : decode cX7_keep 26 = .ok (.aload_n 0, 1) := by decide +kernel
theorem dX7_keep_27 : decode cX7_keep 27 = .ok (.getfield 27, 3) := by decide +kernel
theorem dX7_keep_30 : decode cX7_keep 30 = .ok (.iload_n 1, 1) := by decide +kernel
theorem dX7_keep_31 : decode cX7_keep 31 = .ok (.bipush 32, 2) := by decide +kernel
theorem dX7_keep_33 : decode cX7_keep 33 = .ok (.idiv, 1) := by decide +kernel
theorem dX7_keep_34 : decode cX7_keep 34 = .ok (.dup2, 1) := by decide +kernel
theorem dX7_keep_35 : decode cX7_keep 35 = .ok (.iaload, 1) := by decide +kernel
theorem dX7_keep_36 : decode cX7_keep 36 = .ok (.iload_n 2, 1) := by decide +kernel
theorem dX7_keep_37 : decode cX7_keep 37 = .ok (.ior, 1) := by decide +kernel
theorem dX7_keep_38 : decode cX7_keep 38 = .ok (.iastore, 1) := by decide +kernel
theorem dX7_keep_39 : decode cX7_keep 39 = .ok (.aload_n 0, 1) := by decide +kernel
theorem dX7_keep_40 : decode cX7_keep 40 = .ok (.dup, 1) := by decide +kernel
theorem dX7_keep_41 : decode cX7_keep 41 = .ok (.getfield 60, 3) := by decide +kernel
theorem dX7_keep_44 : decode cX7_keep 44 = .ok (.iconst 1, 1) := by decide +kernel
theorem dX7_keep_45 : decode cX7_keep 45 = .ok (.iadd, 1) := by decide +kernel
theorem dX7_keep_46 : decode cX7_keep 46 = .ok (.putfield 60, 3) := by decide +kernel
theorem dX7_keep_49 : decode cX7_keep 49 = .ok (.aload_n 0, 1) := by decide +kernel
theorem dX7_keep_50 : decode cX7_keep 50 = .ok (.dup, 1) := by decide +kernel
theorem dX7_keep_51 : decode cX7_keep 51 = .ok (.getfield 63, 3) := by decide +kernel
theorem dX7_keep_54 : decode cX7_keep 54 = .ok (.iload_n 1, 1) := by decide +kernel
theorem dX7_keep_55 : decode cX7_keep 55 = .ok (.iand, 1) := by decide +kernel
theorem dX7_keep_56 : decode cX7_keep 56 = .ok (.putfield 63, 3) := by decide +kernel
theorem dX7_keep_59 : decode cX7_keep 59 = .ok (.aload_n 0, 1) := by decide +kernel
theorem dX7_keep_60 : decode cX7_keep 60 = .ok (.dup, 1) := by decide +kernel
theorem dX7_keep_61 : decode cX7_keep 61 = .ok (.getfield 70, 3) := by decide +kernel
theorem dX7_keep_64 : decode cX7_keep 64 = .ok (.iload_n 1, 1) := by decide +kernel
theorem dX7_keep_65 : decode cX7_keep 65 = .ok (.iconst (-1), 1) := by decide +kernel
theorem dX7_keep_66 : decode cX7_keep 66 = .ok (.ixor, 1) := by decide +kernel
theorem dX7_keep_67 : decode cX7_keep 67 = .ok (.iand, 1) := by decide +kernel
theorem dX7_keep_68 : decode cX7_keep 68 = .ok (.putfield 70, 3) := by decide +kernel
theorem dX7_keep_71 : decode cX7_keep 71 = .ok (.return_, 1) := by decide +kernel
theorem dX7_spread_0 : decode cX7_spread 0 = .ok (.iconst 0, 1) := by decide +kernel
theorem dX7_spread_1 : decode cX7_spread 1 = .ok (.istore_n 2, 1) := by decide +kernel
theorem dX7_spread_2 : decode cX7_spread 2 = .ok (.iconst 0, 1) := by decide +kernel
theorem dX7_spread_3 : decode cX7_spread 3 = .ok (.istore_n 3, 1) := by decide +kernel
theorem dX7_spread_4 : decode cX7_spread 4 = .ok (.iload_n 3, 1) := by decide +kernel
theorem dX7_spread_5 : decode cX7_spread 5 = .ok (.aload_n 0, 1) := by decide +kernel
theorem dX7_spread_6 : decode cX7_spread 6 = .ok (.getfield 77, 3) := by decide +kernel
theorem dX7_spread_9 : decode cX7_spread 9 = .ok (.if_icmp .ge 31, 3) := by decide +kernel
theorem dX7_spread_12 : decode cX7_spread 12 = .ok (.iload_n 2, 1) := by decide +kernel
theorem dX7_spread_13 : decode cX7_spread 13 = .ok (.iload_n 1, 1) := by decide +kernel
theorem dX7_spread_14 : decode cX7_spread 14 = .ok (.aload_n 0, 1) := by decide +kernel
theorem dX7_spread_15 : decode cX7_spread 15 = .ok (.getfield 77, 3) := by decide +kernel
theorem dX7_spread_18 : decode cX7_spread 18 = .ok (.iconst 1, 1) := by decide +kernel
theorem dX7_spread_19 : decode cX7_spread 19 = .ok (.isub, 1) := by decide +kernel
theorem dX7_spread_20 : decode cX7_spread 20 = .ok (.iload_n 3, 1) := by decide +kernel
theorem dX7_spread_21 : decode cX7_spread 21 = .ok (.isub, 1) := by decide +kernel
theorem dX7_spread_22 : decode cX7_spread 22 = .ok (.ishr, 1) := by decide +kernel
theorem dX7_spread_23 : decode cX7_spread 23 = .ok (.iconst 1, 1) := by decide +kernel
theorem dX7_spread_24 : decode cX7_spread 24 = .ok (.iand, 1) := by decide +kernel
theorem dX7_spread_25 : decode cX7_spread 25 = .ok (.aload_n 0, 1) := by decide +kernel
theorem dX7_spread_26 : decode cX7_spread 26 = .ok (.getfield 9, 3) := by decide +kernel
theorem dX7_spread_29 : decode cX7_spread 29 = .ok (.iload_n 3, 1) := by decide +kernel
theorem dX7_spread_30 : decode cX7_spread 30 = .ok (.iaload, 1) := by decide +kernel
theorem dX7_spread_31 : decode cX7_spread 31 = .ok (.ishl, 1) := by decide +kernel
theorem dX7_spread_32 : decode cX7_spread 32 = .ok (.ior, 1) := by decide +kernel
theorem dX7_spread_33 : decode cX7_spread 33 = .ok (.istore_n 2, 1) := by decide +kernel
theorem dX7_spread_34 : decode cX7_spread 34 = .ok (.iinc 3 1, 3) := by decide +kernel
theorem dX7_spread_37 : decode cX7_spread 37 = .ok (.goto (-33), 3) := by decide +kernel
theorem dX7_spread_40 : decode cX7_spread 40 = .ok (.iload_n 2, 1) := by decide +kernel
theorem dX7_spread_41 : decode cX7_spread 41 = .ok (.ireturn, 1) := by decide +kernel
theorem dX8_init_0 : decode cX8_init 0 = .ok (.aload_n 0, 1) := by decide +kernel
theorem dX8_init_1 : decode cX8_init 1 = .ok (.invokespecial 3, 3) := by decide +kernel
theorem dX8_init_4 : decode cX8_init 4 = .ok (.aload_n 0, 1) := by decide +kernel
theorem dX8_init_5 : decode cX8_init 5 = .ok (.iconst (-1), 1) := by decide +kernel
theorem dX8_init_6 : decode cX8_init 6 = .ok (.putfield 9, 3) := by decide +kernel
theorem dX8_init_9 : decode cX8_init 9 = .ok (.aload_n 0, 1) := by decide +kernel
theorem dX8_init_10 : decode cX8_init 10 = .ok (.new 15, 3) := by decide +kernel
theorem dX8_init_13 : decode cX8_init 13 = .ok (.dup, 1) := by decide +kernel
theorem dX8_init_14 : decode cX8_init 14 = .ok (.aload_n 1, 1) := by decide +kernel
theorem dX8_init_15 : decode cX8_init 15 = .ok (.invokespecial 17, 3) := by decide +kernel
theorem dX8_init_18 : decode cX8_init 18 = .ok (.putfield 20, 3) := by decide +kernel
theorem dX8_init_21 : decode cX8_init 21 = .ok (.return_, 1) := by decide +kernel
theorem dX8_tell_0 : decode cX8_tell 0 = .ok (.aload_n 0, 1) := by decide +kernel
theorem dX8_tell_1 : decode cX8_tell 1 = .ok (.iconst 0, 1) := by decide +kernel
theorem dX8_tell_2 : decode cX8_tell 2 = .ok (.putfield 24, 3) := by decide +kernel
theorem dX8_tell_5 : decode cX8_tell 5 = .ok (.aload_n 0, 1) := by decide +kernel
theorem dX8_tell_6 : decode cX8_tell 6 = .ok (.iconst (-1), 1) := by decide +kernel
theorem dX8_tell_7 : decode cX8_tell 7 = .ok (.putfield 9, 3) := by decide +kernel
theorem dX8_tell_10 : decode cX8_tell 10 = .ok (.aload_n 0, 1) := by decide +kernel
theorem dX8_tell_11 : decode cX8_tell 11 = .ok (.iconst 0, 1) := by decide +kernel
theorem dX8_tell_12 : decode cX8_tell 12 = .ok (.putfield 27, 3) := by decide +kernel
theorem dX8_tell_15 : decode cX8_tell 15 = .ok (.aload_n 2, 1) := by decide +kernel
theorem dX8_tell_16 : decode cX8_tell 16 = .ok (.invokevirtual 30, 3) := by decide +kernel
theorem dX8_tell_19 : decode cX8_tell 19 = .ok (.aload_n 0, 1) := by decide +kernel
theorem dX8_tell_20 : decode cX8_tell 20 = .ok (.getfield 20, 3) := by decide +kernel
theorem dX8_tell_23 : decode cX8_tell 23 = .ok (.iload_n 1, 1) := by decide +kernel
theorem dX8_tell_24 : decode cX8_tell 24 = .ok (.invokevirtual 35, 3) := by decide +kernel
theorem dX8_tell_27 : decode cX8_tell 27 = .ok (.iconst 0, 1) := by decide +kernel
theorem dX8_tell_28 : decode cX8_tell 28 = .ok (.istore_n 3, 1) := by decide +kernel
theorem dX8_tell_29 : decode cX8_tell 29 = .ok (.iload_n 3, 1) := by decide +kernel
theorem dX8_tell_30 : decode cX8_tell 30 = .ok (.aload_n 0, 1) := by decide +kernel
theorem dX8_tell_31 : decode cX8_tell 31 = .ok (.getfield 20, 3) := by decide +kernel
theorem dX8_tell_34 : decode cX8_tell 34 = .ok (.getfield 39, 3) := by decide +kernel
theorem dX8_tell_37 : decode cX8_tell 37 = .ok (.if_icmp .ge 26, 3) := by decide +kernel
theorem dX8_tell_40 : decode cX8_tell 40 = .ok (.aload_n 0, 1) := by decide +kernel
theorem dX8_tell_41 : decode cX8_tell 41 = .ok (.invokevirtual 42, 3) := by decide +kernel
theorem dX8_tell_44 : decode cX8_tell 44 = .ok (.ifCond .ne 19, 3) := by decide +kernel
theorem dX8_tell_47 : decode cX8_tell 47 = .ok (.aload_n 0, 1) := by decide +kernel
theorem dX8_tell_48 : decode cX8_tell 48 = .ok (.aload_n 2, 1) := by decide +kernel
theorem dX8_tell_49 : decode cX8_tell 49 = .ok (.invokevirtual 46, 3) := by decide +kernel
theorem dX8_tell_52 : decode cX8_tell 52 = .ok (.ifCond .ne 5, 3) := by decide +kernel
theorem dX8_tell_55 : decode cX8_tell 55 = .ok (.iconst 0, 1) := by decide +kernel
theorem dX8_tell_56 : decode cX8_tell 56 = .ok (.ireturn, 1) := by decide +kernel
theorem dX8_tell_57 : decode cX8_tell 57 = .ok (.iinc 3 1, 3) := by decide +kernel
theorem dX8_tell_60 : decode cX8_tell 60 = .ok (.goto (-31), 3) := by decide +kernel
theorem dX8_tell_63 : decode cX8_tell 63 = .ok (.iconst 1, 1) := by decide +kernel
theorem dX8_tell_64 : decode cX8_tell 64 = .ok (.ireturn, 1) := by decide +kernel
theorem dX8_isAtEnd_0 : decode cX8_isAtEnd 0 = .ok (.aload_n 0, 1) := by decide +kernel
theorem dX8_isAtEnd_1 : decode cX8_isAtEnd 1 = .ok (.getfield 27, 3) := by decide +kernel
theorem dX8_isAtEnd_4 : decode cX8_isAtEnd 4 = .ok (.aload_n 0, 1) := by decide +kernel
