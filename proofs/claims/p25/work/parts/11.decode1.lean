theorem dX8_isAtEnd_5 : decode cX8_isAtEnd 5 = .ok (.getfield 20, 3) := by decide +kernel
theorem dX8_isAtEnd_8 : decode cX8_isAtEnd 8 = .ok (.getfield 39, 3) := by decide +kernel
theorem dX8_isAtEnd_11 : decode cX8_isAtEnd 11 = .ok (.if_icmp .ge 22, 3) := by decide +kernel
theorem dX8_isAtEnd_14 : decode cX8_isAtEnd 14 = .ok (.aload_n 0, 1) := by decide +kernel
theorem dX8_isAtEnd_15 : decode cX8_isAtEnd 15 = .ok (.getfield 20, 3) := by decide +kernel
theorem dX8_isAtEnd_18 : decode cX8_isAtEnd 18 = .ok (.getfield 50, 3) := by decide +kernel
theorem dX8_isAtEnd_21 : decode cX8_isAtEnd 21 = .ok (.aload_n 0, 1) := by decide +kernel
theorem dX8_isAtEnd_22 : decode cX8_isAtEnd 22 = .ok (.getfield 27, 3) := by decide +kernel
theorem dX8_isAtEnd_25 : decode cX8_isAtEnd 25 = .ok (.iaload, 1) := by decide +kernel
theorem dX8_isAtEnd_26 : decode cX8_isAtEnd 26 = .ok (.ifCond .ne 7, 3) := by decide +kernel
theorem dX8_isAtEnd_29 : decode cX8_isAtEnd 29 = .ok (.iconst 1, 1) := by decide +kernel
theorem dX8_isAtEnd_30 : decode cX8_isAtEnd 30 = .ok (.goto 4, 3) := by decide +kernel
theorem dX8_isAtEnd_33 : decode cX8_isAtEnd 33 = .ok (.iconst 0, 1) := by decide +kernel
theorem dX8_isAtEnd_34 : decode cX8_isAtEnd 34 = .ok (.ireturn, 1) := by decide +kernel
theorem dX8_tellLine_0 : decode cX8_tellLine 0 = .ok (.aload_n 0, 1) := by decide +kernel
theorem dX8_tellLine_1 : decode cX8_tellLine 1 = .ok (.iconst 2, 1) := by decide +kernel
theorem dX8_tellLine_2 : decode cX8_tellLine 2 = .ok (.invokevirtual 54, 3) := by decide +kernel
theorem dX8_tellLine_5 : decode cX8_tellLine 5 = .ok (.ifCond .ne 5, 3) := by decide +kernel
theorem dX8_tellLine_8 : decode cX8_tellLine 8 = .ok (.iconst 0, 1) := by decide +kernel
theorem dX8_tellLine_9 : decode cX8_tellLine 9 = .ok (.ireturn, 1) := by decide +kernel
theorem dX8_tellLine_10 : decode cX8_tellLine 10 = .ok (.aload_n 0, 1) := by decide +kernel
theorem dX8_tellLine_11 : decode cX8_tellLine 11 = .ok (.getfield 58, 3) := by decide +kernel
theorem dX8_tellLine_14 : decode cX8_tellLine 14 = .ok (.ldc2_w 62, 3) := by decide +kernel
theorem dX8_tellLine_17 : decode cX8_tellLine 17 = .ok (.lcmp, 1) := by decide +kernel
theorem dX8_tellLine_18 : decode cX8_tellLine 18 = .ok (.ifCond .ne 9, 3) := by decide +kernel
theorem dX8_tellLine_21 : decode cX8_tellLine 21 = .ok (.aload_n 0, 1) := by decide +kernel
theorem dX8_tellLine_22 : decode cX8_tellLine 22 = .ok (.aload_n 1, 1) := by decide +kernel
theorem dX8_tellLine_23 : decode cX8_tellLine 23 = .ok (.invokevirtual 64, 3) := by decide +kernel
theorem dX8_tellLine_26 : decode cX8_tellLine 26 = .ok (.ireturn, 1) := by decide +kernel
theorem dX8_tellLine_27 : decode cX8_tellLine 27 = .ok (.aload_n 0, 1) := by decide +kernel
theorem dX8_tellLine_28 : decode cX8_tellLine 28 = .ok (.getfield 58, 3) := by decide +kernel
theorem dX8_tellLine_31 : decode cX8_tellLine 31 = .ok (.ldc2_w 67, 3) := by decide +kernel
theorem dX8_tellLine_34 : decode cX8_tellLine 34 = .ok (.lcmp, 1) := by decide +kernel
theorem dX8_tellLine_35 : decode cX8_tellLine 35 = .ok (.ifCond .ne 9, 3) := by decide +kernel
theorem dX8_tellLine_38 : decode cX8_tellLine 38 = .ok (.aload_n 0, 1) := by decide +kernel
theorem dX8_tellLine_39 : decode cX8_tellLine 39 = .ok (.aload_n 1, 1) := by decide +kernel
theorem dX8_tellLine_40 : decode cX8_tellLine 40 = .ok (.invokevirtual 69, 3) := by decide +kernel
theorem dX8_tellLine_43 : decode cX8_tellLine 43 = .ok (.ireturn, 1) := by decide +kernel
theorem dX8_tellLine_44 : decode cX8_tellLine 44 = .ok (.aload_n 0, 1) := by decide +kernel
theorem dX8_tellLine_45 : decode cX8_tellLine 45 = .ok (.getfield 58, 3) := by decide +kernel
theorem dX8_tellLine_48 : decode cX8_tellLine 48 = .ok (.ldc2_w 72, 3) := by decide +kernel
theorem dX8_tellLine_51 : decode cX8_tellLine 51 = .ok (.lcmp, 1) := by decide +kernel
theorem dX8_tellLine_52 : decode cX8_tellLine 52 = .ok (.ifCond .ne 9, 3) := by decide +kernel
theorem dX8_tellLine_55 : decode cX8_tellLine 55 = .ok (.aload_n 0, 1) := by decide +kernel
theorem dX8_tellLine_56 : decode cX8_tellLine 56 = .ok (.aload_n 1, 1) := by decide +kernel
theorem dX8_tellLine_57 : decode cX8_tellLine 57 = .ok (.invokevirtual 74, 3) := by decide +kernel
theorem dX8_tellLine_60 : decode cX8_tellLine 60 = .ok (.ireturn, 1) := by decide +kernel
theorem dX8_tellLine_61 : decode cX8_tellLine 61 = .ok (.aload_n 0, 1) := by decide +kernel
theorem dX8_tellLine_62 : decode cX8_tellLine 62 = .ok (.getfield 58, 3) := by decide +kernel
theorem dX8_tellLine_65 : decode cX8_tellLine 65 = .ok (.ldc2_w 77, 3) := by decide +kernel
theorem dX8_tellLine_68 : decode cX8_tellLine 68 = .ok (.lcmp, 1) := by decide +kernel
theorem dX8_tellLine_69 : decode cX8_tellLine 69 = .ok (.ifCond .ne 9, 3) := by decide +kernel
theorem dX8_tellLine_72 : decode cX8_tellLine 72 = .ok (.aload_n 0, 1) := by decide +kernel
theorem dX8_tellLine_73 : decode cX8_tellLine 73 = .ok (.aload_n 1, 1) := by decide +kernel
theorem dX8_tellLine_74 : decode cX8_tellLine 74 = .ok (.invokevirtual 79, 3) := by decide +kernel
theorem dX8_tellLine_77 : decode cX8_tellLine 77 = .ok (.ireturn, 1) := by decide +kernel
theorem dX8_tellLine_78 : decode cX8_tellLine 78 = .ok (.aload_n 0, 1) := by decide +kernel
theorem dX8_tellLine_79 : decode cX8_tellLine 79 = .ok (.getfield 58, 3) := by decide +kernel
theorem dX8_tellLine_82 : decode cX8_tellLine 82 = .ok (.ldc2_w 82, 3) := by decide +kernel
theorem dX8_tellLine_85 : decode cX8_tellLine 85 = .ok (.lcmp, 1) := by decide +kernel
theorem dX8_tellLine_86 : decode cX8_tellLine 86 = .ok (.ifCond .ne 9, 3) := by decide +kernel
theorem dX8_tellLine_89 : decode cX8_tellLine 89 = .ok (.aload_n 0, 1) := by decide +kernel
theorem dX8_tellLine_90 : decode cX8_tellLine 90 = .ok (.aload_n 1, 1) := by decide +kernel
theorem dX8_tellLine_91 : decode cX8_tellLine 91 = .ok (.invokevirtual 84, 3) := by decide +kernel
theorem dX8_tellLine_94 : decode cX8_tellLine 94 = .ok (.ireturn, 1) := by decide +kernel
theorem dX8_tellLine_95 : decode cX8_tellLine 95 = .ok (.aload_n 0, 1) := by decide +kernel
theorem dX8_tellLine_96 : decode cX8_tellLine 96 = .ok (.iconst 2, 1) := by decide +kernel
theorem dX8_tellLine_97 : decode cX8_tellLine 97 = .ok (.invokevirtual 87, 3) := by decide +kernel
theorem dX8_tellLine_100 : decode cX8_tellLine 100 = .ok (.ireturn, 1) := by decide +kernel
theorem dX8_tellHerd_0 : decode cX8_tellHerd 0 = .ok (.aload_n 1, 1) := by decide +kernel
theorem dX8_tellHerd_1 : decode cX8_tellHerd 1 = .ok (.getfield 90, 3) := by decide +kernel
theorem dX8_tellHerd_4 : decode cX8_tellHerd 4 = .ok (.iconst 3, 1) := by decide +kernel
theorem dX8_tellHerd_5 : decode cX8_tellHerd 5 = .ok (.if_icmp .lt 9, 3) := by decide +kernel
theorem dX8_tellHerd_8 : decode cX8_tellHerd 8 = .ok (.aload_n 0, 1) := by decide +kernel
theorem dX8_tellHerd_9 : decode cX8_tellHerd 9 = .ok (.iconst 2, 1) := by decide +kernel
theorem dX8_tellHerd_10 : decode cX8_tellHerd 10 = .ok (.invokevirtual 87, 3) := by decide +kernel
theorem dX8_tellHerd_13 : decode cX8_tellHerd 13 = .ok (.ireturn, 1) := by decide +kernel
theorem dX8_tellHerd_14 : decode cX8_tellHerd 14 = .ok (.aload_n 0, 1) := by decide +kernel
theorem dX8_tellHerd_15 : decode cX8_tellHerd 15 = .ok (.aload_n 1, 1) := by decide +kernel
theorem dX8_tellHerd_16 : decode cX8_tellHerd 16 = .ok (.getfield 93, 3) := by decide +kernel
theorem dX8_tellHerd_19 : decode cX8_tellHerd 19 = .ok (.aload_n 1, 1) := by decide +kernel
theorem dX8_tellHerd_20 : decode cX8_tellHerd 20 = .ok (.getfield 90, 3) := by decide +kernel
theorem dX8_tellHerd_23 : decode cX8_tellHerd 23 = .ok (.invokevirtual 97, 3) := by decide +kernel
theorem dX8_tellHerd_26 : decode cX8_tellHerd 26 = .ok (.ifCond .ne 5, 3) := by decide +kernel
theorem dX8_tellHerd_29 : decode cX8_tellHerd 29 = .ok (.iconst 0, 1) := by decide +kernel
theorem dX8_tellHerd_30 : decode cX8_tellHerd 30 = .ok (.ireturn, 1) := by decide +kernel
theorem dX8_tellHerd_31 : decode cX8_tellHerd 31 = .ok (.aload_n 0, 1) := by decide +kernel
theorem dX8_tellHerd_32 : decode cX8_tellHerd 32 = .ok (.getfield 58, 3) := by decide +kernel
theorem dX8_tellHerd_35 : decode cX8_tellHerd 35 = .ok (.lstore_n 2, 1) := by decide +kernel
theorem dX8_tellHerd_36 : decode cX8_tellHerd 36 = .ok (.aload_n 0, 1) := by decide +kernel
theorem dX8_tellHerd_37 : decode cX8_tellHerd 37 = .ok (.iconst 4, 1) := by decide +kernel
theorem dX8_tellHerd_38 : decode cX8_tellHerd 38 = .ok (.invokevirtual 54, 3) := by decide +kernel
theorem dX8_tellHerd_41 : decode cX8_tellHerd 41 = .ok (.ifCond .ne 5, 3) := by decide +kernel
theorem dX8_tellHerd_44 : decode cX8_tellHerd 44 = .ok (.iconst 0, 1) := by decide +kernel
theorem dX8_tellHerd_45 : decode cX8_tellHerd 45 = .ok (.ireturn, 1) := by decide +kernel
theorem dX8_tellHerd_46 : decode cX8_tellHerd 46 = .ok (.aload_n 1, 1) := by decide +kernel
theorem dX8_tellHerd_47 : decode cX8_tellHerd 47 = .ok (.lload_n 2, 1) := by decide +kernel
theorem dX8_tellHerd_48 : decode cX8_tellHerd 48 = .ok (.invokevirtual 101, 3) := by decide +kernel
theorem dX8_tellHerd_51 : decode cX8_tellHerd 51 = .ok (.iconst 1, 1) := by decide +kernel
theorem dX8_tellHerd_52 : decode cX8_tellHerd 52 = .ok (.ireturn, 1) := by decide +kernel
theorem dX8_tellBeast_0 : decode cX8_tellBeast 0 = .ok (.aload_n 1, 1) := by decide +kernel
theorem dX8_tellBeast_1 : decode cX8_tellBeast 1 = .ok (.getfield 105, 3) := by decide +kernel
theorem dX8_tellBeast_4 : decode cX8_tellBeast 4 = .ok (.bipush 9, 2) := by decide +kernel
theorem dX8_tellBeast_6 : decode cX8_tellBeast 6 = .ok (.if_icmp .lt 9, 3) := by decide +kernel
theorem dX8_tellBeast_9 : decode cX8_tellBeast 9 = .ok (.aload_n 0, 1) := by decide +kernel
theorem dX8_tellBeast_10 : decode cX8_tellBeast 10 = .ok (.iconst 2, 1) := by decide +kernel
theorem dX8_tellBeast_11 : decode cX8_tellBeast 11 = .ok (.invokevirtual 87, 3) := by decide +kernel
theorem dX8_tellBeast_14 : decode cX8_tellBeast 14 = .ok (.ireturn, 1) := by decide +kernel
theorem dX8_tellBeast_15 : decode cX8_tellBeast 15 = .ok (.aload_n 0, 1) := by decide +kernel
theorem dX8_tellBeast_16 : decode cX8_tellBeast 16 = .ok (.aload_n 1, 1) := by decide +kernel
theorem dX8_tellBeast_17 : decode cX8_tellBeast 17 = .ok (.getfield 108, 3) := by decide +kernel
theorem dX8_tellBeast_20 : decode cX8_tellBeast 20 = .ok (.aload_n 1, 1) := by decide +kernel
theorem dX8_tellBeast_21 : decode cX8_tellBeast 21 = .ok (.getfield 111, 3) := by decide +kernel
theorem dX8_tellBeast_24 : decode cX8_tellBeast 24 = .ok (.invokevirtual 97, 3) := by decide +kernel
theorem dX8_tellBeast_27 : decode cX8_tellBeast 27 = .ok (.ifCond .ne 5, 3) := by decide +kernel
theorem dX8_tellBeast_30 : decode cX8_tellBeast 30 = .ok (.iconst 0, 1) := by decide +kernel
theorem dX8_tellBeast_31 : decode cX8_tellBeast 31 = .ok (.ireturn, 1) := by decide +kernel
theorem dX8_tellBeast_32 : decode cX8_tellBeast 32 = .ok (.aload_n 0, 1) := by decide +kernel
theorem dX8_tellBeast_33 : decode cX8_tellBeast 33 = .ok (.getfield 58, 3) := by decide +kernel
theorem dX8_tellBeast_36 : decode cX8_tellBeast 36 = .ok (.lstore_n 2, 1) := by decide +kernel
theorem dX8_tellBeast_37 : decode cX8_tellBeast 37 = .ok (.aload_n 0, 1) := by decide +kernel
theorem dX8_tellBeast_38 : decode cX8_tellBeast 38 = .ok (.ldc2_w 114, 3) := by decide +kernel
theorem dX8_tellBeast_41 : decode cX8_tellBeast 41 = .ok (.invokevirtual 116, 3) := by decide +kernel
theorem dX8_tellBeast_44 : decode cX8_tellBeast 44 = .ok (.ifCond .eq 10, 3) := by decide +kernel
theorem dX8_tellBeast_47 : decode cX8_tellBeast 47 = .ok (.aload_n 0, 1) := by decide +kernel
theorem dX8_tellBeast_48 : decode cX8_tellBeast 48 = .ok (.invokevirtual 120, 3) := by decide +kernel
theorem dX8_tellBeast_51 : decode cX8_tellBeast 51 = .ok (.ifCond .ne 5, 3) := by decide +kernel
theorem dX8_tellBeast_54 : decode cX8_tellBeast 54 = .ok (.iconst 0, 1) := by decide +kernel
theorem dX8_tellBeast_55 : decode cX8_tellBeast 55 = .ok (.ireturn, 1) := by decide +kernel
theorem dX8_tellBeast_56 : decode cX8_tellBeast 56 = .ok (.aload_n 0, 1) := by decide +kernel
theorem dX8_tellBeast_57 : decode cX8_tellBeast 57 = .ok (.getfield 58, 3) := by decide +kernel
theorem dX8_tellBeast_60 : decode cX8_tellBeast 60 = .ok (.aload_n 1, 1) := by decide +kernel
theorem dX8_tellBeast_61 : decode cX8_tellBeast 61 = .ok (.getfield 93, 3) := by decide +kernel
theorem dX8_tellBeast_64 : decode cX8_tellBeast 64 = .ok (.aload_n 1, 1) := by decide +kernel
theorem dX8_tellBeast_65 : decode cX8_tellBeast 65 = .ok (.getfield 90, 3) := by decide +kernel
theorem dX8_tellBeast_68 : decode cX8_tellBeast 68 = .ok (.invokestatic 123, 3) := by decide +kernel
theorem dX8_tellBeast_71 : decode cX8_tellBeast 71 = .ok (.istore 4, 2) := by decide +kernel
theorem dX8_tellBeast_73 : decode cX8_tellBeast 73 = .ok (.iload 4, 2) := by decide +kernel
theorem dX8_tellBeast_75 : decode cX8_tellBeast 75 = .ok (.iconst (-1), 1) := by decide +kernel
theorem dX8_tellBeast_76 : decode cX8_tellBeast 76 = .ok (.if_icmp .ne 9, 3) := by decide +kernel
theorem dX8_tellBeast_79 : decode cX8_tellBeast 79 = .ok (.aload_n 0, 1) := by decide +kernel
theorem dX8_tellBeast_80 : decode cX8_tellBeast 80 = .ok (.iconst 5, 1) := by decide +kernel
theorem dX8_tellBeast_81 : decode cX8_tellBeast 81 = .ok (.invokevirtual 87, 3) := by decide +kernel
theorem dX8_tellBeast_84 : decode cX8_tellBeast 84 = .ok (.ireturn, 1) := by decide +kernel
theorem dX8_tellBeast_85 : decode cX8_tellBeast 85 = .ok (.aload_n 0, 1) := by decide +kernel
theorem dX8_tellBeast_86 : decode cX8_tellBeast 86 = .ok (.aload_n 1, 1) := by decide +kernel
theorem dX8_tellBeast_87 : decode cX8_tellBeast 87 = .ok (.lload_n 2, 1) := by decide +kernel
theorem dX8_tellBeast_88 : decode cX8_tellBeast 88 = .ok (.iload 4, 2) := by decide +kernel
theorem dX8_tellBeast_90 : decode cX8_tellBeast 90 = .ok (.invokevirtual 127, 3) := by decide +kernel
theorem dX8_tellBeast_93 : decode cX8_tellBeast 93 = .ok (.ireturn, 1) := by decide +kernel
theorem dX8_tellStranger_0 : decode cX8_tellStranger 0 = .ok (.aload_n 1, 1) := by decide +kernel
theorem dX8_tellStranger_1 : decode cX8_tellStranger 1 = .ok (.getfield 111, 3) := by decide +kernel
theorem dX8_tellStranger_4 : decode cX8_tellStranger 4 = .ok (.aload_n 1, 1) := by decide +kernel
theorem dX8_tellStranger_5 : decode cX8_tellStranger 5 = .ok (.getfield 105, 3) := by decide +kernel
theorem dX8_tellStranger_8 : decode cX8_tellStranger 8 = .ok (.isub, 1) := by decide +kernel
theorem dX8_tellStranger_9 : decode cX8_tellStranger 9 = .ok (.iconst 2, 1) := by decide +kernel
theorem dX8_tellStranger_10 : decode cX8_tellStranger 10 = .ok (.if_icmp .lt 9, 3) := by decide +kernel
theorem dX8_tellStranger_13 : decode cX8_tellStranger 13 = .ok (.aload_n 0, 1) := by decide +kernel
theorem dX8_tellStranger_14 : decode cX8_tellStranger 14 = .ok (.iconst 2, 1) := by decide +kernel
theorem dX8_tellStranger_15 : decode cX8_tellStranger 15 = .ok (.invokevirtual 87, 3) := by decide +kernel
theorem dX8_tellStranger_18 : decode cX8_tellStranger 18 = .ok (.ireturn, 1) := by decide +kernel
theorem dX8_tellStranger_19 : decode cX8_tellStranger 19 = .ok (.aload_n 0, 1) := by decide +kernel
theorem dX8_tellStranger_20 : decode cX8_tellStranger 20 = .ok (.aload_n 1, 1) := by decide +kernel
theorem dX8_tellStranger_21 : decode cX8_tellStranger 21 = .ok (.getfield 108, 3) := by decide +kernel
theorem dX8_tellStranger_24 : decode cX8_tellStranger 24 = .ok (.aload_n 1, 1) := by decide +kernel
theorem dX8_tellStranger_25 : decode cX8_tellStranger 25 = .ok (.getfield 111, 3) := by decide +kernel
theorem dX8_tellStranger_28 : decode cX8_tellStranger 28 = .ok (.invokevirtual 97, 3) := by decide +kernel
theorem dX8_tellStranger_31 : decode cX8_tellStranger 31 = .ok (.ifCond .ne 5, 3) := by decide +kernel
theorem dX8_tellStranger_34 : decode cX8_tellStranger 34 = .ok (.iconst 0, 1) := by decide +kernel
theorem dX8_tellStranger_35 : decode cX8_tellStranger 35 = .ok (.ireturn, 1) := by decide +kernel
theorem dX8_tellStranger_36 : decode cX8_tellStranger 36 = .ok (.aload_n 0, 1) := by decide +kernel
theorem dX8_tellStranger_37 : decode cX8_tellStranger 37 = .ok (.aload_n 1, 1) := by decide +kernel
theorem dX8_tellStranger_38 : decode cX8_tellStranger 38 = .ok (.aload_n 0, 1) := by decide +kernel
theorem dX8_tellStranger_39 : decode cX8_tellStranger 39 = .ok (.getfield 58, 3) := by decide +kernel
theorem dX8_tellStranger_42 : decode cX8_tellStranger 42 = .ok (.iconst (-1), 1) := by decide +kernel
theorem dX8_tellStranger_43 : decode cX8_tellStranger 43 = .ok (.invokevirtual 127, 3) := by decide +kernel
theorem dX8_tellStranger_46 : decode cX8_tellStranger 46 = .ok (.ireturn, 1) := by decide +kernel
theorem dX8_tellBell_0 : decode cX8_tellBell 0 = .ok (.aload_n 0, 1) := by decide +kernel
theorem dX8_tellBell_1 : decode cX8_tellBell 1 = .ok (.ldc2_w 131, 3) := by decide +kernel
theorem dX8_tellBell_4 : decode cX8_tellBell 4 = .ok (.invokevirtual 116, 3) := by decide +kernel
theorem dX8_tellBell_7 : decode cX8_tellBell 7 = .ok (.ifCond .eq 13, 3) := by decide +kernel
theorem dX8_tellBell_10 : decode cX8_tellBell 10 = .ok (.aload_n 0, 1) := by decide +kernel
theorem dX8_tellBell_11 : decode cX8_tellBell 11 = .ok (.iconst 0, 1) := by decide +kernel
theorem dX8_tellBell_12 : decode cX8_tellBell 12 = .ok (.bipush 11, 2) := by decide +kernel
theorem dX8_tellBell_14 : decode cX8_tellBell 14 = .ok (.invokevirtual 133, 3) := by decide +kernel
theorem dX8_tellBell_17 : decode cX8_tellBell 17 = .ok (.ifCond .ne 5, 3) := by decide +kernel
theorem dX8_tellBell_20 : decode cX8_tellBell 20 = .ok (.iconst 0, 1) := by decide +kernel
theorem dX8_tellBell_21 : decode cX8_tellBell 21 = .ok (.ireturn, 1) := by decide +kernel
theorem dX8_tellBell_22 : decode cX8_tellBell 22 = .ok (.aload_n 0, 1) := by decide +kernel
theorem dX8_tellBell_23 : decode cX8_tellBell 23 = .ok (.getfield 58, 3) := by decide +kernel
theorem dX8_tellBell_26 : decode cX8_tellBell 26 = .ok (.l2i, 1) := by decide +kernel
theorem dX8_tellBell_27 : decode cX8_tellBell 27 = .ok (.istore 5, 2) := by decide +kernel
theorem dX8_tellBell_29 : decode cX8_tellBell 29 = .ok (.aload_n 0, 1) := by decide +kernel
theorem dX8_tellBell_30 : decode cX8_tellBell 30 = .ok (.ldc2_w 137, 3) := by decide +kernel
theorem dX8_tellBell_33 : decode cX8_tellBell 33 = .ok (.invokevirtual 116, 3) := by decide +kernel
theorem dX8_tellBell_36 : decode cX8_tellBell 36 = .ok (.ifCond .eq 13, 3) := by decide +kernel
theorem dX8_tellBell_39 : decode cX8_tellBell 39 = .ok (.aload_n 0, 1) := by decide +kernel
theorem dX8_tellBell_40 : decode cX8_tellBell 40 = .ok (.iconst 1, 1) := by decide +kernel
theorem dX8_tellBell_41 : decode cX8_tellBell 41 = .ok (.bipush 99, 2) := by decide +kernel
theorem dX8_tellBell_43 : decode cX8_tellBell 43 = .ok (.invokevirtual 133, 3) := by decide +kernel
theorem dX8_tellBell_46 : decode cX8_tellBell 46 = .ok (.ifCond .ne 5, 3) := by decide +kernel
theorem dX8_tellBell_49 : decode cX8_tellBell 49 = .ok (.iconst 0, 1) := by decide +kernel
theorem dX8_tellBell_50 : decode cX8_tellBell 50 = .ok (.ireturn, 1) := by decide +kernel
theorem dX8_tellBell_51 : decode cX8_tellBell 51 = .ok (.aload_n 0, 1) := by decide +kernel
theorem dX8_tellBell_52 : decode cX8_tellBell 52 = .ok (.getfield 58, 3) := by decide +kernel
theorem dX8_tellBell_55 : decode cX8_tellBell 55 = .ok (.l2i, 1) := by decide +kernel
theorem dX8_tellBell_56 : decode cX8_tellBell 56 = .ok (.istore 6, 2) := by decide +kernel
theorem dX8_tellBell_58 : decode cX8_tellBell 58 = .ok (.aload_n 0, 1) := by decide +kernel
theorem dX8_tellBell_59 : decode cX8_tellBell 59 = .ok (.iconst 4, 1) := by decide +kernel
theorem dX8_tellBell_60 : decode cX8_tellBell 60 = .ok (.invokevirtual 54, 3) := by decide +kernel
theorem dX8_tellBell_63 : decode cX8_tellBell 63 = .ok (.ifCond .ne 5, 3) := by decide +kernel
theorem dX8_tellBell_66 : decode cX8_tellBell 66 = .ok (.iconst 0, 1) := by decide +kernel
theorem dX8_tellBell_67 : decode cX8_tellBell 67 = .ok (.ireturn, 1) := by decide +kernel
theorem dX8_tellBell_68 : decode cX8_tellBell 68 = .ok (.aload_n 1, 1) := by decide +kernel
theorem dX8_tellBell_69 : decode cX8_tellBell 69 = .ok (.lload_n 2, 1) := by decide +kernel
theorem dX8_tellBell_70 : decode cX8_tellBell 70 = .ok (.iload 4, 2) := by decide +kernel
theorem dX8_tellBell_72 : decode cX8_tellBell 72 = .ok (.iload 5, 2) := by decide +kernel
theorem dX8_tellBell_74 : decode cX8_tellBell 74 = .ok (.iload 6, 2) := by decide +kernel
theorem dX8_tellBell_76 : decode cX8_tellBell 76 = .ok (.invokevirtual 139, 3) := by decide +kernel
theorem dX8_tellBell_79 : decode cX8_tellBell 79 = .ok (.iconst 1, 1) := by decide +kernel
theorem dX8_tellBell_80 : decode cX8_tellBell 80 = .ok (.ireturn, 1) := by decide +kernel
theorem dX8_tellEar_0 : decode cX8_tellEar 0 = .ok (.aload_n 1, 1) := by decide +kernel
theorem dX8_tellEar_1 : decode cX8_tellEar 1 = .ok (.getfield 143, 3) := by decide +kernel
theorem dX8_tellEar_4 : decode cX8_tellEar 4 = .ok (.iconst 4, 1) := by decide +kernel
theorem dX8_tellEar_5 : decode cX8_tellEar 5 = .ok (.if_icmp .lt 9, 3) := by decide +kernel
theorem dX8_tellEar_8 : decode cX8_tellEar 8 = .ok (.aload_n 0, 1) := by decide +kernel
theorem dX8_tellEar_9 : decode cX8_tellEar 9 = .ok (.iconst 2, 1) := by decide +kernel
theorem dX8_tellEar_10 : decode cX8_tellEar 10 = .ok (.invokevirtual 87, 3) := by decide +kernel
theorem dX8_tellEar_13 : decode cX8_tellEar 13 = .ok (.ireturn, 1) := by decide +kernel
theorem dX8_tellEar_14 : decode cX8_tellEar 14 = .ok (.aload_n 0, 1) := by decide +kernel
theorem dX8_tellEar_15 : decode cX8_tellEar 15 = .ok (.aload_n 1, 1) := by decide +kernel
theorem dX8_tellEar_16 : decode cX8_tellEar 16 = .ok (.getfield 146, 3) := by decide +kernel
theorem dX8_tellEar_19 : decode cX8_tellEar 19 = .ok (.aload_n 1, 1) := by decide +kernel
theorem dX8_tellEar_20 : decode cX8_tellEar 20 = .ok (.getfield 143, 3) := by decide +kernel
theorem dX8_tellEar_23 : decode cX8_tellEar 23 = .ok (.invokevirtual 97, 3) := by decide +kernel
theorem dX8_tellEar_26 : decode cX8_tellEar 26 = .ok (.ifCond .ne 5, 3) := by decide +kernel
theorem dX8_tellEar_29 : decode cX8_tellEar 29 = .ok (.iconst 0, 1) := by decide +kernel
theorem dX8_tellEar_30 : decode cX8_tellEar 30 = .ok (.ireturn, 1) := by decide +kernel
theorem dX8_tellEar_31 : decode cX8_tellEar 31 = .ok (.aload_n 0, 1) := by decide +kernel
theorem dX8_tellEar_32 : decode cX8_tellEar 32 = .ok (.getfield 58, 3) := by decide +kernel
theorem dX8_tellEar_35 : decode cX8_tellEar 35 = .ok (.lstore_n 2, 1) := by decide +kernel
theorem dX8_tellEar_36 : decode cX8_tellEar 36 = .ok (.aload_n 0, 1) := by decide +kernel
theorem dX8_tellEar_37 : decode cX8_tellEar 37 = .ok (.ldc2_w 149, 3) := by decide +kernel
theorem dX8_tellEar_40 : decode cX8_tellEar 40 = .ok (.invokevirtual 116, 3) := by decide +kernel
theorem dX8_tellEar_43 : decode cX8_tellEar 43 = .ok (.ifCond .eq 13, 3) := by decide +kernel
theorem dX8_tellEar_46 : decode cX8_tellEar 46 = .ok (.aload_n 0, 1) := by decide +kernel
theorem dX8_tellEar_47 : decode cX8_tellEar 47 = .ok (.iconst 0, 1) := by decide +kernel
theorem dX8_tellEar_48 : decode cX8_tellEar 48 = .ok (.bipush 99, 2) := by decide +kernel
theorem dX8_tellEar_50 : decode cX8_tellEar 50 = .ok (.invokevirtual 133, 3) := by decide +kernel
theorem dX8_tellEar_53 : decode cX8_tellEar 53 = .ok (.ifCond .ne 5, 3) := by decide +kernel
theorem dX8_tellEar_56 : decode cX8_tellEar 56 = .ok (.iconst 0, 1) := by decide +kernel
theorem dX8_tellEar_57 : decode cX8_tellEar 57 = .ok (.ireturn, 1) := by decide +kernel
theorem dX8_tellEar_58 : decode cX8_tellEar 58 = .ok (.aload_n 0, 1) := by decide +kernel
theorem dX8_tellEar_59 : decode cX8_tellEar 59 = .ok (.getfield 58, 3) := by decide +kernel
theorem dX8_tellEar_62 : decode cX8_tellEar 62 = .ok (.l2i, 1) := by decide +kernel
theorem dX8_tellEar_63 : decode cX8_tellEar 63 = .ok (.istore 4, 2) := by decide +kernel
theorem dX8_tellEar_65 : decode cX8_tellEar 65 = .ok (.aload_n 0, 1) := by decide +kernel
theorem dX8_tellEar_66 : decode cX8_tellEar 66 = .ok (.iconst 4, 1) := by decide +kernel
theorem dX8_tellEar_67 : decode cX8_tellEar 67 = .ok (.invokevirtual 54, 3) := by decide +kernel
theorem dX8_tellEar_70 : decode cX8_tellEar 70 = .ok (.ifCond .ne 5, 3) := by decide +kernel
theorem dX8_tellEar_73 : decode cX8_tellEar 73 = .ok (.iconst 0, 1) := by decide +kernel
theorem dX8_tellEar_74 : decode cX8_tellEar 74 = .ok (.ireturn, 1) := by decide +kernel
theorem dX8_tellEar_75 : decode cX8_tellEar 75 = .ok (.aload_n 1, 1) := by decide +kernel
theorem dX8_tellEar_76 : decode cX8_tellEar 76 = .ok (.lload_n 2, 1) := by decide +kernel
theorem dX8_tellEar_77 : decode cX8_tellEar 77 = .ok (.iload 4, 2) := by decide +kernel
theorem dX8_tellEar_79 : decode cX8_tellEar 79 = .ok (.invokevirtual 151, 3) := by decide +kernel
theorem dX8_tellEar_82 : decode cX8_tellEar 82 = .ok (.iconst 1, 1) := by decide +kernel
theorem dX8_tellEar_83 : decode cX8_tellEar 83 = .ok (.ireturn, 1) := by decide +kernel
theorem dX8_tellBeside_0 : decode cX8_tellBeside 0 = .ok (.aload_n 1, 1) := by decide +kernel
theorem dX8_tellBeside_1 : decode cX8_tellBeside 1 = .ok (.getfield 155, 3) := by decide +kernel
theorem dX8_tellBeside_4 : decode cX8_tellBeside 4 = .ok (.bipush 20, 2) := by decide +kernel
theorem dX8_tellBeside_6 : decode cX8_tellBeside 6 = .ok (.if_icmp .lt 9, 3) := by decide +kernel
theorem dX8_tellBeside_9 : decode cX8_tellBeside 9 = .ok (.aload_n 0, 1) := by decide +kernel
theorem dX8_tellBeside_10 : decode cX8_tellBeside 10 = .ok (.iconst 2, 1) := by decide +kernel
theorem dX8_tellBeside_11 : decode cX8_tellBeside 11 = .ok (.invokevirtual 87, 3) := by decide +kernel
theorem dX8_tellBeside_14 : decode cX8_tellBeside 14 = .ok (.ireturn, 1) := by decide +kernel
theorem dX8_tellBeside_15 : decode cX8_tellBeside 15 = .ok (.aload_n 0, 1) := by decide +kernel
theorem dX8_tellBeside_16 : decode cX8_tellBeside 16 = .ok (.aload_n 1, 1) := by decide +kernel
theorem dX8_tellBeside_17 : decode cX8_tellBeside 17 = .ok (.invokevirtual 158, 3) := by decide +kernel
theorem dX8_tellBeside_20 : decode cX8_tellBeside 20 = .ok (.istore_n 2, 1) := by decide +kernel
theorem dX8_tellBeside_21 : decode cX8_tellBeside 21 = .ok (.iload_n 2, 1) := by decide +kernel
theorem dX8_tellBeside_22 : decode cX8_tellBeside 22 = .ok (.iconst (-1), 1) := by decide +kernel
theorem dX8_tellBeside_23 : decode cX8_tellBeside 23 = .ok (.if_icmp .ne 5, 3) := by decide +kernel
theorem dX8_tellBeside_26 : decode cX8_tellBeside 26 = .ok (.iconst 0, 1) := by decide +kernel
theorem dX8_tellBeside_27 : decode cX8_tellBeside 27 = .ok (.ireturn, 1) := by decide +kernel
theorem dX8_tellBeside_28 : decode cX8_tellBeside 28 = .ok (.aload_n 0, 1) := by decide +kernel
theorem dX8_tellBeside_29 : decode cX8_tellBeside 29 = .ok (.aload_n 1, 1) := by decide +kernel
theorem dX8_tellBeside_30 : decode cX8_tellBeside 30 = .ok (.invokevirtual 158, 3) := by decide +kernel
theorem dX8_tellBeside_33 : decode cX8_tellBeside 33 = .ok (.istore_n 3, 1) := by decide +kernel
theorem dX8_tellBeside_34 : decode cX8_tellBeside 34 = .ok (.iload_n 3, 1) := by decide +kernel
theorem dX8_tellBeside_35 : decode cX8_tellBeside 35 = .ok (.iconst (-1), 1) := by decide +kernel
theorem dX8_tellBeside_36 : decode cX8_tellBeside 36 = .ok (.if_icmp .ne 5, 3) := by decide +kernel
theorem dX8_tellBeside_39 : decode cX8_tellBeside 39 = .ok (.iconst 0, 1) := by decide +kernel
theorem dX8_tellBeside_40 : decode cX8_tellBeside 40 = .ok (.ireturn, 1) := by decide +kernel
theorem dX8_tellBeside_41 : decode cX8_tellBeside 41 = .ok (.iload_n 2, 1) := by decide +kernel
theorem dX8_tellBeside_42 : decode cX8_tellBeside 42 = .ok (.iload_n 3, 1) := by decide +kernel
theorem dX8_tellBeside_43 : decode cX8_tellBeside 43 = .ok (.if_icmp .eq 17, 3) := by decide +kernel
theorem dX8_tellBeside_46 : decode cX8_tellBeside 46 = .ok (.aload_n 1, 1) := by decide +kernel
theorem dX8_tellBeside_47 : decode cX8_tellBeside 47 = .ok (.getfield 162, 3) := by decide +kernel
theorem dX8_tellBeside_50 : decode cX8_tellBeside 50 = .ok (.iload_n 2, 1) := by decide +kernel
theorem dX8_tellBeside_51 : decode cX8_tellBeside 51 = .ok (.iaload, 1) := by decide +kernel
theorem dX8_tellBeside_52 : decode cX8_tellBeside 52 = .ok (.iload_n 3, 1) := by decide +kernel
theorem dX8_tellBeside_53 : decode cX8_tellBeside 53 = .ok (.ishr, 1) := by decide +kernel
theorem dX8_tellBeside_54 : decode cX8_tellBeside 54 = .ok (.iconst 1, 1) := by decide +kernel
theorem dX8_tellBeside_55 : decode cX8_tellBeside 55 = .ok (.iand, 1) := by decide +kernel
theorem dX8_tellBeside_56 : decode cX8_tellBeside 56 = .ok (.iconst 1, 1) := by decide +kernel
theorem dX8_tellBeside_57 : decode cX8_tellBeside 57 = .ok (.if_icmp .ne 9, 3) := by decide +kernel
theorem dX8_tellBeside_60 : decode cX8_tellBeside 60 = .ok (.aload_n 0, 1) := by decide +kernel
theorem dX8_tellBeside_61 : decode cX8_tellBeside 61 = .ok (.iconst 3, 1) := by decide +kernel
theorem dX8_tellBeside_62 : decode cX8_tellBeside 62 = .ok (.invokevirtual 87, 3) := by decide +kernel
theorem dX8_tellBeside_65 : decode cX8_tellBeside 65 = .ok (.ireturn, 1) := by decide +kernel
theorem dX8_tellBeside_66 : decode cX8_tellBeside 66 = .ok (.aload_n 0, 1) := by decide +kernel
theorem dX8_tellBeside_67 : decode cX8_tellBeside 67 = .ok (.iconst 4, 1) := by decide +kernel
theorem dX8_tellBeside_68 : decode cX8_tellBeside 68 = .ok (.invokevirtual 54, 3) := by decide +kernel
theorem dX8_tellBeside_71 : decode cX8_tellBeside 71 = .ok (.ifCond .ne 5, 3) := by decide +kernel
theorem dX8_tellBeside_74 : decode cX8_tellBeside 74 = .ok (.iconst 0, 1) := by decide +kernel
theorem dX8_tellBeside_75 : decode cX8_tellBeside 75 = .ok (.ireturn, 1) := by decide +kernel
theorem dX8_tellBeside_76 : decode cX8_tellBeside 76 = .ok (.aload_n 1, 1) := by decide +kernel
theorem dX8_tellBeside_77 : decode cX8_tellBeside 77 = .ok (.iload_n 2, 1) := by decide +kernel
theorem dX8_tellBeside_78 : decode cX8_tellBeside 78 = .ok (.iload_n 3, 1) := by decide +kernel
theorem dX8_tellBeside_79 : decode cX8_tellBeside 79 = .ok (.invokevirtual 165, 3) := by decide +kernel
theorem dX8_tellBeside_82 : decode cX8_tellBeside 82 = .ok (.iconst 1, 1) := by decide +kernel
theorem dX8_tellBeside_83 : decode cX8_tellBeside 83 = .ok (.ireturn, 1) := by decide +kernel
theorem dX8_takeBeast_0 : decode cX8_takeBeast 0 = .ok (.aload_n 0, 1) := by decide +kernel
theorem dX8_takeBeast_1 : decode cX8_takeBeast 1 = .ok (.invokevirtual 120, 3) := by decide +kernel
theorem dX8_takeBeast_4 : decode cX8_takeBeast 4 = .ok (.ifCond .ne 5, 3) := by decide +kernel
theorem dX8_takeBeast_7 : decode cX8_takeBeast 7 = .ok (.iconst (-1), 1) := by decide +kernel
theorem dX8_takeBeast_8 : decode cX8_takeBeast 8 = .ok (.ireturn, 1) := by decide +kernel
theorem dX8_takeBeast_9 : decode cX8_takeBeast 9 = .ok (.aload_n 0, 1) := by decide +kernel
theorem dX8_takeBeast_10 : decode cX8_takeBeast 10 = .ok (.getfield 58, 3) := by decide +kernel
theorem dX8_takeBeast_13 : decode cX8_takeBeast 13 = .ok (.aload_n 1, 1) := by decide +kernel
theorem dX8_takeBeast_14 : decode cX8_takeBeast 14 = .ok (.getfield 108, 3) := by decide +kernel
theorem dX8_takeBeast_17 : decode cX8_takeBeast 17 = .ok (.aload_n 1, 1) := by decide +kernel
theorem dX8_takeBeast_18 : decode cX8_takeBeast 18 = .ok (.getfield 111, 3) := by decide +kernel
theorem dX8_takeBeast_21 : decode cX8_takeBeast 21 = .ok (.invokestatic 123, 3) := by decide +kernel
theorem dX8_takeBeast_24 : decode cX8_takeBeast 24 = .ok (.istore_n 2, 1) := by decide +kernel
theorem dX8_takeBeast_25 : decode cX8_takeBeast 25 = .ok (.iload_n 2, 1) := by decide +kernel
theorem dX8_takeBeast_26 : decode cX8_takeBeast 26 = .ok (.iconst (-1), 1) := by decide +kernel
theorem dX8_takeBeast_27 : decode cX8_takeBeast 27 = .ok (.if_icmp .eq 11, 3) := by decide +kernel
theorem dX8_takeBeast_30 : decode cX8_takeBeast 30 = .ok (.aload_n 1, 1) := by decide +kernel
theorem dX8_takeBeast_31 : decode cX8_takeBeast 31 = .ok (.iload_n 2, 1) := by decide +kernel
theorem dX8_takeBeast_32 : decode cX8_takeBeast 32 = .ok (.invokevirtual 169, 3) := by decide +kernel
theorem dX8_takeBeast_35 : decode cX8_takeBeast 35 = .ok (.ifCond .ne 11, 3) := by decide +kernel
theorem dX8_takeBeast_38 : decode cX8_takeBeast 38 = .ok (.aload_n 0, 1) := by decide +kernel
theorem dX8_takeBeast_39 : decode cX8_takeBeast 39 = .ok (.iconst 5, 1) := by decide +kernel
theorem dX8_takeBeast_40 : decode cX8_takeBeast 40 = .ok (.invokevirtual 87, 3) := by decide +kernel
theorem dX8_takeBeast_43 : decode cX8_takeBeast 43 = .ok (.pop, 1) := by decide +kernel
theorem dX8_takeBeast_44 : decode cX8_takeBeast 44 = .ok (.iconst (-1), 1) := by decide +kernel
theorem dX8_takeBeast_45 : decode cX8_takeBeast 45 = .ok (.ireturn, 1) := by decide +kernel
theorem dX8_takeBeast_46 : decode cX8_takeBeast 46 = .ok (.iload_n 2, 1) := by decide +kernel
theorem dX8_takeBeast_47 : decode cX8_takeBeast 47 = .ok (.ireturn, 1) := by decide +kernel
theorem dX8_takeNewName_0 : decode cX8_takeNewName 0 = .ok (.aload_n 0, 1) := by decide +kernel
theorem dX8_takeNewName_1 : decode cX8_takeNewName 1 = .ok (.invokevirtual 120, 3) := by decide +kernel
theorem dX8_takeNewName_4 : decode cX8_takeNewName 4 = .ok (.ifCond .eq 28, 3) := by decide +kernel
theorem dX8_takeNewName_7 : decode cX8_takeNewName 7 = .ok (.aload_n 0, 1) := by decide +kernel
theorem dX8_takeNewName_8 : decode cX8_takeNewName 8 = .ok (.getfield 58, 3) := by decide +kernel
theorem dX8_takeNewName_11 : decode cX8_takeNewName 11 = .ok (.aload_n 1, 1) := by decide +kernel
theorem dX8_takeNewName_12 : decode cX8_takeNewName 12 = .ok (.iload_n 2, 1) := by decide +kernel
theorem dX8_takeNewName_13 : decode cX8_takeNewName 13 = .ok (.invokestatic 123, 3) := by decide +kernel
theorem dX8_takeNewName_16 : decode cX8_takeNewName 16 = .ok (.iconst (-1), 1) := by decide +kernel
theorem dX8_takeNewName_17 : decode cX8_takeNewName 17 = .ok (.if_icmp .eq 11, 3) := by decide +kernel
theorem dX8_takeNewName_20 : decode cX8_takeNewName 20 = .ok (.aload_n 0, 1) := by decide +kernel
theorem dX8_takeNewName_21 : decode cX8_takeNewName 21 = .ok (.iconst 3, 1) := by decide +kernel
theorem dX8_takeNewName_22 : decode cX8_takeNewName 22 = .ok (.invokevirtual 87, 3) := by decide +kernel
theorem dX8_takeNewName_25 : decode cX8_takeNewName 25 = .ok (.ifCond .eq 7, 3) := by decide +kernel
theorem dX8_takeNewName_28 : decode cX8_takeNewName 28 = .ok (.iconst 1, 1) := by decide +kernel
theorem dX8_takeNewName_29 : decode cX8_takeNewName 29 = .ok (.goto 4, 3) := by decide +kernel
theorem dX8_takeNewName_32 : decode cX8_takeNewName 32 = .ok (.iconst 0, 1) := by decide +kernel
theorem dX8_takeNewName_33 : decode cX8_takeNewName 33 = .ok (.ireturn, 1) := by decide +kernel
theorem dX8_takeName_0 : decode cX8_takeName 0 = .ok (.aload_n 0, 1) := by decide +kernel
theorem dX8_takeName_1 : decode cX8_takeName 1 = .ok (.iconst 2, 1) := by decide +kernel
theorem dX8_takeName_2 : decode cX8_takeName 2 = .ok (.invokevirtual 54, 3) := by decide +kernel
theorem dX8_takeName_5 : decode cX8_takeName 5 = .ok (.ifCond .eq 25, 3) := by decide +kernel
theorem dX8_takeName_8 : decode cX8_takeName 8 = .ok (.aload_n 0, 1) := by decide +kernel
theorem dX8_takeName_9 : decode cX8_takeName 9 = .ok (.getfield 58, 3) := by decide +kernel
theorem dX8_takeName_12 : decode cX8_takeName 12 = .ok (.invokestatic 172, 3) := by decide +kernel
theorem dX8_takeName_15 : decode cX8_takeName 15 = .ok (.ifCond .eq 11, 3) := by decide +kernel
theorem dX8_takeName_18 : decode cX8_takeName 18 = .ok (.aload_n 0, 1) := by decide +kernel
theorem dX8_takeName_19 : decode cX8_takeName 19 = .ok (.iconst 2, 1) := by decide +kernel
theorem dX8_takeName_20 : decode cX8_takeName 20 = .ok (.invokevirtual 87, 3) := by decide +kernel
theorem dX8_takeName_23 : decode cX8_takeName 23 = .ok (.ifCond .eq 7, 3) := by decide +kernel
theorem dX8_takeName_26 : decode cX8_takeName 26 = .ok (.iconst 1, 1) := by decide +kernel
theorem dX8_takeName_27 : decode cX8_takeName 27 = .ok (.goto 4, 3) := by decide +kernel
theorem dX8_takeName_30 : decode cX8_takeName 30 = .ok (.iconst 0, 1) := by decide +kernel
theorem dX8_takeName_31 : decode cX8_takeName 31 = .ok (.ireturn, 1) := by decide +kernel
theorem dX8_takeWord_0 : decode cX8_takeWord 0 = .ok (.aload_n 0, 1) := by decide +kernel
theorem dX8_takeWord_1 : decode cX8_takeWord 1 = .ok (.iconst 2, 1) := by decide +kernel
theorem dX8_takeWord_2 : decode cX8_takeWord 2 = .ok (.invokevirtual 54, 3) := by decide +kernel
theorem dX8_takeWord_5 : decode cX8_takeWord 5 = .ok (.ifCond .eq 24, 3) := by decide +kernel
theorem dX8_takeWord_8 : decode cX8_takeWord 8 = .ok (.aload_n 0, 1) := by decide +kernel
theorem dX8_takeWord_9 : decode cX8_takeWord 9 = .ok (.getfield 58, 3) := by decide +kernel
theorem dX8_takeWord_12 : decode cX8_takeWord 12 = .ok (.lload_n 1, 1) := by decide +kernel
theorem dX8_takeWord_13 : decode cX8_takeWord 13 = .ok (.lcmp, 1) := by decide +kernel
theorem dX8_takeWord_14 : decode cX8_takeWord 14 = .ok (.ifCond .eq 11, 3) := by decide +kernel
theorem dX8_takeWord_17 : decode cX8_takeWord 17 = .ok (.aload_n 0, 1) := by decide +kernel
theorem dX8_takeWord_18 : decode cX8_takeWord 18 = .ok (.iconst 2, 1) := by decide +kernel
theorem dX8_takeWord_19 : decode cX8_takeWord 19 = .ok (.invokevirtual 87, 3) := by decide +kernel
theorem dX8_takeWord_22 : decode cX8_takeWord 22 = .ok (.ifCond .eq 7, 3) := by decide +kernel
theorem dX8_takeWord_25 : decode cX8_takeWord 25 = .ok (.iconst 1, 1) := by decide +kernel
theorem dX8_takeWord_26 : decode cX8_takeWord 26 = .ok (.goto 4, 3) := by decide +kernel
theorem dX8_takeWord_29 : decode cX8_takeWord 29 = .ok (.iconst 0, 1) := by decide +kernel
theorem dX8_takeWord_30 : decode cX8_takeWord 30 = .ok (.ireturn, 1) := by decide +kernel
theorem dX8_takeNumber_0 : decode cX8_takeNumber 0 = .ok (.aload_n 0, 1) := by decide +kernel
theorem dX8_takeNumber_1 : decode cX8_takeNumber 1 = .ok (.iconst 3, 1) := by decide +kernel
theorem dX8_takeNumber_2 : decode cX8_takeNumber 2 = .ok (.invokevirtual 54, 3) := by decide +kernel
theorem dX8_takeNumber_5 : decode cX8_takeNumber 5 = .ok (.ifCond .eq 35, 3) := by decide +kernel
theorem dX8_takeNumber_8 : decode cX8_takeNumber 8 = .ok (.aload_n 0, 1) := by decide +kernel
theorem dX8_takeNumber_9 : decode cX8_takeNumber 9 = .ok (.getfield 58, 3) := by decide +kernel
theorem dX8_takeNumber_12 : decode cX8_takeNumber 12 = .ok (.iload_n 1, 1) := by decide +kernel
theorem dX8_takeNumber_13 : decode cX8_takeNumber 13 = .ok (.i2l, 1) := by decide +kernel
theorem dX8_takeNumber_14 : decode cX8_takeNumber 14 = .ok (.lcmp, 1) := by decide +kernel
theorem dX8_takeNumber_15 : decode cX8_takeNumber 15 = .ok (.ifCond .lt 13, 3) := by decide +kernel
theorem dX8_takeNumber_18 : decode cX8_takeNumber 18 = .ok (.aload_n 0, 1) := by decide +kernel
theorem dX8_takeNumber_19 : decode cX8_takeNumber 19 = .ok (.getfield 58, 3) := by decide +kernel
theorem dX8_takeNumber_22 : decode cX8_takeNumber 22 = .ok (.iload_n 2, 1) := by decide +kernel
theorem dX8_takeNumber_23 : decode cX8_takeNumber 23 = .ok (.i2l, 1) := by decide +kernel
theorem dX8_takeNumber_24 : decode cX8_takeNumber 24 = .ok (.lcmp, 1) := by decide +kernel
theorem dX8_takeNumber_25 : decode cX8_takeNumber 25 = .ok (.ifCond .le 11, 3) := by decide +kernel
theorem dX8_takeNumber_28 : decode cX8_takeNumber 28 = .ok (.aload_n 0, 1) := by decide +kernel
theorem dX8_takeNumber_29 : decode cX8_takeNumber 29 = .ok (.iconst 4, 1) := by decide +kernel
theorem dX8_takeNumber_30 : decode cX8_takeNumber 30 = .ok (.invokevirtual 87, 3) := by decide +kernel
theorem dX8_takeNumber_33 : decode cX8_takeNumber 33 = .ok (.ifCond .eq 7, 3) := by decide +kernel
theorem dX8_takeNumber_36 : decode cX8_takeNumber 36 = .ok (.iconst 1, 1) := by decide +kernel
theorem dX8_takeNumber_37 : decode cX8_takeNumber 37 = .ok (.goto 4, 3) := by decide +kernel
theorem dX8_takeNumber_40 : decode cX8_takeNumber 40 = .ok (.iconst 0, 1) := by decide +kernel
theorem dX8_takeNumber_41 : decode cX8_takeNumber 41 = .ok (.ireturn, 1) := by decide +kernel
theorem dX8_take_0 : decode cX8_take 0 = .ok (.aload_n 0, 1) := by decide +kernel
theorem dX8_take_1 : decode cX8_take 1 = .ok (.getfield 27, 3) := by decide +kernel
theorem dX8_take_4 : decode cX8_take 4 = .ok (.aload_n 0, 1) := by decide +kernel
theorem dX8_take_5 : decode cX8_take 5 = .ok (.getfield 20, 3) := by decide +kernel
theorem dX8_take_8 : decode cX8_take 8 = .ok (.getfield 39, 3) := by decide +kernel
theorem dX8_take_11 : decode cX8_take 11 = .ok (.if_icmp .lt 9, 3) := by decide +kernel
theorem dX8_take_14 : decode cX8_take 14 = .ok (.aload_n 0, 1) := by decide +kernel
theorem dX8_take_15 : decode cX8_take 15 = .ok (.iconst 2, 1) := by decide +kernel
theorem dX8_take_16 : decode cX8_take 16 = .ok (.invokevirtual 87, 3) := by decide +kernel
theorem dX8_take_19 : decode cX8_take 19 = .ok (.ireturn, 1) := by decide +kernel
theorem dX8_take_20 : decode cX8_take 20 = .ok (.aload_n 0, 1) := by decide +kernel
theorem dX8_take_21 : decode cX8_take 21 = .ok (.getfield 20, 3) := by decide +kernel
theorem dX8_take_24 : decode cX8_take 24 = .ok (.getfield 50, 3) := by decide +kernel
theorem dX8_take_27 : decode cX8_take 27 = .ok (.aload_n 0, 1) := by decide +kernel
theorem dX8_take_28 : decode cX8_take 28 = .ok (.getfield 27, 3) := by decide +kernel
theorem dX8_take_31 : decode cX8_take 31 = .ok (.iaload, 1) := by decide +kernel
theorem dX8_take_32 : decode cX8_take 32 = .ok (.istore_n 2, 1) := by decide +kernel
theorem dX8_take_33 : decode cX8_take 33 = .ok (.aload_n 0, 1) := by decide +kernel
theorem dX8_take_34 : decode cX8_take 34 = .ok (.aload_n 0, 1) := by decide +kernel
theorem dX8_take_35 : decode cX8_take 35 = .ok (.getfield 20, 3) := by decide +kernel
theorem dX8_take_38 : decode cX8_take 38 = .ok (.getfield 175, 3) := by decide +kernel
theorem dX8_take_41 : decode cX8_take 41 = .ok (.aload_n 0, 1) := by decide +kernel
theorem dX8_take_42 : decode cX8_take 42 = .ok (.getfield 27, 3) := by decide +kernel
theorem dX8_take_45 : decode cX8_take 45 = .ok (.iaload, 1) := by decide +kernel
theorem dX8_take_46 : decode cX8_take 46 = .ok (.putfield 178, 3) := by decide +kernel
theorem dX8_take_49 : decode cX8_take 49 = .ok (.aload_n 0, 1) := by decide +kernel
theorem dX8_take_50 : decode cX8_take 50 = .ok (.aload_n 0, 1) := by decide +kernel
theorem dX8_take_51 : decode cX8_take 51 = .ok (.getfield 20, 3) := by decide +kernel
theorem dX8_take_54 : decode cX8_take 54 = .ok (.getfield 181, 3) := by decide +kernel
theorem dX8_take_57 : decode cX8_take 57 = .ok (.aload_n 0, 1) := by decide +kernel
theorem dX8_take_58 : decode cX8_take 58 = .ok (.getfield 27, 3) := by decide +kernel
theorem dX8_take_61 : decode cX8_take 61 = .ok (.laload, 1) := by decide +kernel
theorem dX8_take_62 : decode cX8_take 62 = .ok (.putfield 58, 3) := by decide +kernel
theorem dX8_take_65 : decode cX8_take 65 = .ok (.aload_n 0, 1) := by decide +kernel
theorem dX8_take_66 : decode cX8_take 66 = .ok (.dup, 1) := by decide +kernel
theorem dX8_take_67 : decode cX8_take 67 = .ok (.getfield 27, 3) := by decide +kernel
theorem dX8_take_70 : decode cX8_take 70 = .ok (.iconst 1, 1) := by decide +kernel
theorem dX8_take_71 : decode cX8_take 71 = .ok (.iadd, 1) := by decide +kernel
theorem dX8_take_72 : decode cX8_take 72 = .ok (.putfield 27, 3) := by decide +kernel
theorem dX8_take_75 : decode cX8_take 75 = .ok (.iload_n 2, 1) := by decide +kernel
theorem dX8_take_76 : decode cX8_take 76 = .ok (.iconst 1, 1) := by decide +kernel
theorem dX8_take_77 : decode cX8_take 77 = .ok (.if_icmp .ne 9, 3) := by decide +kernel
theorem dX8_take_80 : decode cX8_take 80 = .ok (.aload_n 0, 1) := by decide +kernel
theorem dX8_take_81 : decode cX8_take 81 = .ok (.iconst 1, 1) := by decide +kernel
theorem dX8_take_82 : decode cX8_take 82 = .ok (.invokevirtual 87, 3) := by decide +kernel
theorem dX8_take_85 : decode cX8_take 85 = .ok (.ireturn, 1) := by decide +kernel
theorem dX8_take_86 : decode cX8_take 86 = .ok (.iload_n 2, 1) := by decide +kernel
theorem dX8_take_87 : decode cX8_take 87 = .ok (.iload_n 1, 1) := by decide +kernel
theorem dX8_take_88 : decode cX8_take 88 = .ok (.if_icmp .eq 11, 3) := by decide +kernel
theorem dX8_take_91 : decode cX8_take 91 = .ok (.aload_n 0, 1) := by decide +kernel
theorem dX8_take_92 : decode cX8_take 92 = .ok (.iconst 2, 1) := by decide +kernel
theorem dX8_take_93 : decode cX8_take 93 = .ok (.invokevirtual 87, 3) := by decide +kernel
theorem dX8_take_96 : decode cX8_take 96 = .ok (.ifCond .eq 7, 3) := by decide +kernel
theorem dX8_take_99 : decode cX8_take 99 = .ok (.iconst 1, 1) := by decide +kernel
theorem dX8_take_100 : decode cX8_take 100 = .ok (.goto 4, 3) := by decide +kernel
theorem dX8_take_103 : decode cX8_take 103 = .ok (.iconst 0, 1) := by decide +kernel
theorem dX8_take_104 : decode cX8_take 104 = .ok (.ireturn, 1) := by decide +kernel
theorem dX8_refuse_0 : decode cX8_refuse 0 = .ok (.aload_n 0, 1) := by decide +kernel
theorem dX8_refuse_1 : decode cX8_refuse 1 = .ok (.iload_n 1, 1) := by decide +kernel
theorem dX8_refuse_2 : decode cX8_refuse 2 = .ok (.putfield 24, 3) := by decide +kernel
theorem dX8_refuse_5 : decode cX8_refuse 5 = .ok (.aload_n 0, 1) := by decide +kernel
theorem dX8_refuse_6 : decode cX8_refuse 6 = .ok (.aload_n 0, 1) := by decide +kernel
theorem dX8_refuse_7 : decode cX8_refuse 7 = .ok (.getfield 178, 3) := by decide +kernel
theorem dX8_refuse_10 : decode cX8_refuse 10 = .ok (.putfield 9, 3) := by decide +kernel
theorem dX8_refuse_13 : decode cX8_refuse 13 = .ok (.iconst 0, 1) := by decide +kernel
theorem dX8_refuse_14 : decode cX8_refuse 14 = .ok (.ireturn, 1) := by decide +kernel
theorem dX8_standsForItself_0 : decode cX8_standsForItself 0 = .ok (.lload_n 0, 1) := by decide +kernel
theorem dX8_standsForItself_1 : decode cX8_standsForItself 1 = .ok (.ldc2_w 62, 3) := by decide +kernel
theorem dX8_standsForItself_4 : decode cX8_standsForItself 4 = .ok (.lcmp, 1) := by decide +kernel
theorem dX8_standsForItself_5 : decode cX8_standsForItself 5 = .ok (.ifCond .eq 67, 3) := by decide +kernel
theorem dX8_standsForItself_8 : decode cX8_standsForItself 8 = .ok (.lload_n 0, 1) := by decide +kernel
theorem dX8_standsForItself_9 : decode cX8_standsForItself 9 = .ok (.ldc2_w 67, 3) := by decide +kernel
theorem dX8_standsForItself_12 : decode cX8_standsForItself 12 = .ok (.lcmp, 1) := by decide +kernel
theorem dX8_standsForItself_13 : decode cX8_standsForItself 13 = .ok (.ifCond .eq 59, 3) := by decide +kernel
theorem dX8_standsForItself_16 : decode cX8_standsForItself 16 = .ok (.lload_n 0, 1) := by decide +kernel
theorem dX8_standsForItself_17 : decode cX8_standsForItself 17 = .ok (.ldc2_w 114, 3) := by decide +kernel
theorem dX8_standsForItself_20 : decode cX8_standsForItself 20 = .ok (.lcmp, 1) := by decide +kernel
theorem dX8_standsForItself_21 : decode cX8_standsForItself 21 = .ok (.ifCond .eq 51, 3) := by decide +kernel
theorem dX8_standsForItself_24 : decode cX8_standsForItself 24 = .ok (.lload_n 0, 1) := by decide +kernel
theorem dX8_standsForItself_25 : decode cX8_standsForItself 25 = .ok (.ldc2_w 131, 3) := by decide +kernel
theorem dX8_standsForItself_28 : decode cX8_standsForItself 28 = .ok (.lcmp, 1) := by decide +kernel
theorem dX8_standsForItself_29 : decode cX8_standsForItself 29 = .ok (.ifCond .eq 43, 3) := by decide +kernel
theorem dX8_standsForItself_32 : decode cX8_standsForItself 32 = .ok (.lload_n 0, 1) := by decide +kernel
theorem dX8_standsForItself_33 : decode cX8_standsForItself 33 = .ok (.ldc2_w 137, 3) := by decide +kernel
theorem dX8_standsForItself_36 : decode cX8_standsForItself 36 = .ok (.lcmp, 1) := by decide +kernel
theorem dX8_standsForItself_37 : decode cX8_standsForItself 37 = .ok (.ifCond .eq 35, 3) := by decide +kernel
theorem dX8_standsForItself_40 : decode cX8_standsForItself 40 = .ok (.lload_n 0, 1) := by decide +kernel
theorem dX8_standsForItself_41 : decode cX8_standsForItself 41 = .ok (.ldc2_w 72, 3) := by decide +kernel
theorem dX8_standsForItself_44 : decode cX8_standsForItself 44 = .ok (.lcmp, 1) := by decide +kernel
theorem dX8_standsForItself_45 : decode cX8_standsForItself 45 = .ok (.ifCond .eq 27, 3) := by decide +kernel
theorem dX8_standsForItself_48 : decode cX8_standsForItself 48 = .ok (.lload_n 0, 1) := by decide +kernel
theorem dX8_standsForItself_49 : decode cX8_standsForItself 49 = .ok (.ldc2_w 77, 3) := by decide +kernel
theorem dX8_standsForItself_52 : decode cX8_standsForItself 52 = .ok (.lcmp, 1) := by decide +kernel
theorem dX8_standsForItself_53 : decode cX8_standsForItself 53 = .ok (.ifCond .eq 19, 3) := by decide +kernel
theorem dX8_standsForItself_56 : decode cX8_standsForItself 56 = .ok (.lload_n 0, 1) := by decide +kernel
theorem dX8_standsForItself_57 : decode cX8_standsForItself 57 = .ok (.ldc2_w 149, 3) := by decide +kernel
theorem dX8_standsForItself_60 : decode cX8_standsForItself 60 = .ok (.lcmp, 1) := by decide +kernel
theorem dX8_standsForItself_61 : decode cX8_standsForItself 61 = .ok (.ifCond .eq 11, 3) := by decide +kernel
theorem dX8_standsForItself_64 : decode cX8_standsForItself 64 = .ok (.lload_n 0, 1) := by decide +kernel
theorem dX8_standsForItself_65 : decode cX8_standsForItself 65 = .ok (.ldc2_w 82, 3) := by decide +kernel
theorem dX8_standsForItself_68 : decode cX8_standsForItself 68 = .ok (.lcmp, 1) := by decide +kernel
theorem dX8_standsForItself_69 : decode cX8_standsForItself 69 = .ok (.ifCond .ne 7, 3) := by decide +kernel
theorem dX8_standsForItself_72 : decode cX8_standsForItself 72 = .ok (.iconst 1, 1) := by decide +kernel
theorem dX8_standsForItself_73 : decode cX8_standsForItself 73 = .ok (.goto 4, 3) := by decide +kernel
theorem dX8_standsForItself_76 : decode cX8_standsForItself 76 = .ok (.iconst 0, 1) := by decide +kernel
theorem dX8_standsForItself_77 : decode cX8_standsForItself 77 = .ok (.ireturn, 1) := by decide +kernel
theorem dX8_find_0 : decode cX8_find 0 = .ok (.iconst 0, 1) := by decide +kernel
theorem dX8_find_1 : decode cX8_find 1 = .ok (.istore 4, 2) := by decide +kernel
theorem dX8_find_3 : decode cX8_find 3 = .ok (.iload 4, 2) := by decide +kernel
theorem dX8_find_5 : decode cX8_find 5 = .ok (.iload_n 3, 1) := by decide +kernel
theorem dX8_find_6 : decode cX8_find 6 = .ok (.if_icmp .ge 28, 3) := by decide +kernel
theorem dX8_find_9 : decode cX8_find 9 = .ok (.iload 4, 2) := by decide +kernel
theorem dX8_find_11 : decode cX8_find 11 = .ok (.aload_n 2, 1) := by decide +kernel
theorem dX8_find_12 : decode cX8_find 12 = .ok (.arraylength, 1) := by decide +kernel
theorem dX8_find_13 : decode cX8_find 13 = .ok (.if_icmp .ge 21, 3) := by decide +kernel
theorem dX8_find_16 : decode cX8_find 16 = .ok (.aload_n 2, 1) := by decide +kernel
theorem dX8_find_17 : decode cX8_find 17 = .ok (.iload 4, 2) := by decide +kernel
theorem dX8_find_19 : decode cX8_find 19 = .ok (.laload, 1) := by decide +kernel
theorem dX8_find_20 : decode cX8_find 20 = .ok (.lload_n 0, 1) := by decide +kernel
theorem dX8_find_21 : decode cX8_find 21 = .ok (.lcmp, 1) := by decide +kernel
theorem dX8_find_22 : decode cX8_find 22 = .ok (.ifCond .ne 6, 3) := by decide +kernel
theorem dX8_find_25 : decode cX8_find 25 = .ok (.iload 4, 2) := by decide +kernel
theorem dX8_find_27 : decode cX8_find 27 = .ok (.ireturn, 1) := by decide +kernel
theorem dX8_find_28 : decode cX8_find 28 = .ok (.iinc 4 1, 3) := by decide +kernel
theorem dX8_find_31 : decode cX8_find 31 = .ok (.goto (-28), 3) := by decide +kernel
theorem dX8_find_34 : decode cX8_find 34 = .ok (.iconst (-1), 1) := by decide +kernel
theorem dX8_find_35 : decode cX8_find 35 = .ok (.ireturn, 1) := by decide +kernel
theorem dX9_init_0 : decode cX9_init 0 = .ok (.aload_n 0, 1) := by decide +kernel
theorem dX9_init_1 : decode cX9_init 1 = .ok (.invokespecial 3, 3) := by decide +kernel
theorem dX9_init_4 : decode cX9_init 4 = .ok (.aload_n 0, 1) := by decide +kernel
theorem dX9_init_5 : decode cX9_init 5 = .ok (.iconst 3, 1) := by decide +kernel
theorem dX9_init_6 : decode cX9_init 6 = .ok (.newarray .long, 2) := by decide +kernel
theorem dX9_init_8 : decode cX9_init 8 = .ok (.putfield 9, 3) := by decide +kernel
theorem dX9_init_11 : decode cX9_init 11 = .ok (.aload_n 0, 1) := by decide +kernel
theorem dX9_init_12 : decode cX9_init 12 = .ok (.iconst 3, 1) := by decide +kernel
theorem dX9_init_13 : decode cX9_init 13 = .ok (.newarray .int, 2) := by decide +kernel
theorem dX9_init_15 : decode cX9_init 15 = .ok (.putfield 15, 3) := by decide +kernel
theorem dX9_init_18 : decode cX9_init 18 = .ok (.aload_n 0, 1) := by decide +kernel
theorem dX9_init_19 : decode cX9_init 19 = .ok (.bipush 11, 2) := by decide +kernel
theorem dX9_init_21 : decode cX9_init 21 = .ok (.newarray .long, 2) := by decide +kernel
theorem dX9_init_23 : decode cX9_init 23 = .ok (.putfield 19, 3) := by decide +kernel
theorem dX9_init_26 : decode cX9_init 26 = .ok (.aload_n 0, 1) := by decide +kernel
theorem dX9_init_27 : decode cX9_init 27 = .ok (.bipush 11, 2) := by decide +kernel
theorem dX9_init_29 : decode cX9_init 29 = .ok (.newarray .int, 2) := by decide +kernel
theorem dX9_init_31 : decode cX9_init 31 = .ok (.putfield 22, 3) := by decide +kernel
theorem dX9_init_34 : decode cX9_init 34 = .ok (.aload_n 0, 1) := by decide +kernel
theorem dX9_init_35 : decode cX9_init 35 = .ok (.bipush 11, 2) := by decide +kernel
theorem dX9_init_37 : decode cX9_init 37 = .ok (.newarray .int, 2) := by decide +kernel
theorem dX9_init_39 : decode cX9_init 39 = .ok (.putfield 25, 3) := by decide +kernel
theorem dX9_init_42 : decode cX9_init 42 = .ok (.aload_n 0, 1) := by decide +kernel
theorem dX9_init_43 : decode cX9_init 43 = .ok (.bipush 11, 2) := by decide +kernel
theorem dX9_init_45 : decode cX9_init 45 = .ok (.newarray .int, 2) := by decide +kernel
theorem dX9_init_47 : decode cX9_init 47 = .ok (.putfield 28, 3) := by decide +kernel
theorem dX9_init_50 : decode cX9_init 50 = .ok (.aload_n 0, 1) := by decide +kernel
theorem dX9_init_51 : decode cX9_init 51 = .ok (.bipush 11, 2) := by decide +kernel
theorem dX9_init_53 : decode cX9_init 53 = .ok (.newarray .int, 2) := by decide +kernel
theorem dX9_init_55 : decode cX9_init 55 = .ok (.putfield 31, 3) := by decide +kernel
theorem dX9_init_58 : decode cX9_init 58 = .ok (.aload_n 0, 1) := by decide +kernel
theorem dX9_init_59 : decode cX9_init 59 = .ok (.iconst 4, 1) := by decide +kernel
theorem dX9_init_60 : decode cX9_init 60 = .ok (.newarray .long, 2) := by decide +kernel
theorem dX9_init_62 : decode cX9_init 62 = .ok (.putfield 34, 3) := by decide +kernel
theorem dX9_init_65 : decode cX9_init 65 = .ok (.aload_n 0, 1) := by decide +kernel
theorem dX9_init_66 : decode cX9_init 66 = .ok (.iconst 4, 1) := by decide +kernel
theorem dX9_init_67 : decode cX9_init 67 = .ok (.newarray .int, 2) := by decide +kernel
theorem dX9_init_69 : decode cX9_init 69 = .ok (.putfield 37, 3) := by decide +kernel
theorem dX9_init_72 : decode cX9_init 72 = .ok (.return_, 1) := by decide +kernel
theorem dX9_clear_0 : decode cX9_clear 0 = .ok (.aload_n 0, 1) := by decide +kernel
theorem dX9_clear_1 : decode cX9_clear 1 = .ok (.iconst 0, 1) := by decide +kernel
theorem dX9_clear_2 : decode cX9_clear 2 = .ok (.putfield 40, 3) := by decide +kernel
theorem dX9_clear_5 : decode cX9_clear 5 = .ok (.aload_n 0, 1) := by decide +kernel
theorem dX9_clear_6 : decode cX9_clear 6 = .ok (.iconst 0, 1) := by decide +kernel
theorem dX9_clear_7 : decode cX9_clear 7 = .ok (.putfield 44, 3) := by decide +kernel
theorem dX9_clear_10 : decode cX9_clear 10 = .ok (.aload_n 0, 1) := by decide +kernel
theorem dX9_clear_11 : decode cX9_clear 11 = .ok (.iconst 0, 1) := by decide +kernel
theorem dX9_clear_12 : decode cX9_clear 12 = .ok (.putfield 47, 3) := by decide +kernel
theorem dX9_clear_15 : decode cX9_clear 15 = .ok (.aload_n 0, 1) := by decide +kernel
theorem dX9_clear_16 : decode cX9_clear 16 = .ok (.iconst 0, 1) := by decide +kernel
theorem dX9_clear_17 : decode cX9_clear 17 = .ok (.putfield 50, 3) := by decide +kernel
theorem dX9_clear_20 : decode cX9_clear 20 = .ok (.aload_n 0, 1) := by decide +kernel
theorem dX9_clear_21 : decode cX9_clear 21 = .ok (.iconst 0, 1) := by decide +kernel
theorem dX9_clear_22 : decode cX9_clear 22 = .ok (.putfield 53, 3) := by decide +kernel
theorem dX9_clear_25 : decode cX9_clear 25 = .ok (.aload_n 0, 1) := by decide +kernel
theorem dX9_clear_26 : decode cX9_clear 26 = .ok (.iconst 0, 1) := by decide +kernel
theorem dX9_clear_27 : decode cX9_clear 27 = .ok (.putfield 56, 3) := by decide +kernel
theorem dX9_clear_30 : decode cX9_clear 30 = .ok (.return_, 1) := by decide +kernel
theorem dX9_addHerd_0 : decode cX9_addHerd 0 = .ok (.aload_n 0, 1) := by decide +kernel
theorem dX9_addHerd_1 : decode cX9_addHerd 1 = .ok (.getfield 9, 3) := by decide +kernel
theorem dX9_addHerd_4 : decode cX9_addHerd 4 = .ok (.aload_n 0, 1) := by decide +kernel
theorem dX9_addHerd_5 : decode cX9_addHerd 5 = .ok (.getfield 40, 3) := by decide +kernel
theorem dX9_addHerd_8 : decode cX9_addHerd 8 = .ok (.lload_n 1, 1) := by decide +kernel
theorem dX9_addHerd_9 : decode cX9_addHerd 9 = .ok (.lastore, 1) := by decide +kernel
theorem dX9_addHerd_10 : decode cX9_addHerd 10 = .ok (.aload_n 0, 1) := by decide +kernel
theorem dX9_addHerd_11 : decode cX9_addHerd 11 = .ok (.getfield 15, 3) := by decide +kernel
theorem dX9_addHerd_14 : decode cX9_addHerd 14 = .ok (.aload_n 0, 1) := by decide +kernel
theorem dX9_addHerd_15 : decode cX9_addHerd 15 = .ok (.getfield 40, 3) := by decide +kernel
theorem dX9_addHerd_18 : decode cX9_addHerd 18 = .ok (.iconst 0, 1) := by decide +kernel
theorem dX9_addHerd_19 : decode cX9_addHerd 19 = .ok (.iastore, 1) := by decide +kernel
theorem dX9_addHerd_20 : decode cX9_addHerd 20 = .ok (.aload_n 0, 1) := by decide +kernel
theorem dX9_addHerd_21 : decode cX9_addHerd 21 = .ok (.dup, 1) := by decide +kernel
theorem dX9_addHerd_22 : decode cX9_addHerd 22 = .ok (.getfield 40, 3) := by decide +kernel
theorem dX9_addHerd_25 : decode cX9_addHerd 25 = .ok (.iconst 1, 1) := by decide +kernel
theorem dX9_addHerd_26 : decode cX9_addHerd 26 = .ok (.iadd, 1) := by decide +kernel
theorem dX9_addHerd_27 : decode cX9_addHerd 27 = .ok (.putfield 40, 3) := by decide +kernel
theorem dX9_addHerd_30 : decode cX9_addHerd 30 = .ok (.return_, 1) := by decide +kernel
theorem dX9_addBell_0 : decode cX9_addBell 0 = .ok (.aload_n 0, 1) := by decide +kernel
theorem dX9_addBell_1 : decode cX9_addBell 1 = .ok (.getfield 19, 3) := by decide +kernel
theorem dX9_addBell_4 : decode cX9_addBell 4 = .ok (.aload_n 0, 1) := by decide +kernel
theorem dX9_addBell_5 : decode cX9_addBell 5 = .ok (.getfield 44, 3) := by decide +kernel
theorem dX9_addBell_8 : decode cX9_addBell 8 = .ok (.lload_n 1, 1) := by decide +kernel
theorem dX9_addBell_9 : decode cX9_addBell 9 = .ok (.lastore, 1) := by decide +kernel
theorem dX9_addBell_10 : decode cX9_addBell 10 = .ok (.aload_n 0, 1) := by decide +kernel
theorem dX9_addBell_11 : decode cX9_addBell 11 = .ok (.getfield 28, 3) := by decide +kernel
theorem dX9_addBell_14 : decode cX9_addBell 14 = .ok (.aload_n 0, 1) := by decide +kernel
theorem dX9_addBell_15 : decode cX9_addBell 15 = .ok (.getfield 44, 3) := by decide +kernel
theorem dX9_addBell_18 : decode cX9_addBell 18 = .ok (.iload_n 3, 1) := by decide +kernel
theorem dX9_addBell_19 : decode cX9_addBell 19 = .ok (.iastore, 1) := by decide +kernel
theorem dX9_addBell_20 : decode cX9_addBell 20 = .ok (.aload_n 0, 1) := by decide +kernel
theorem dX9_addBell_21 : decode cX9_addBell 21 = .ok (.getfield 22, 3) := by decide +kernel
theorem dX9_addBell_24 : decode cX9_addBell 24 = .ok (.aload_n 0, 1) := by decide +kernel
theorem dX9_addBell_25 : decode cX9_addBell 25 = .ok (.getfield 44, 3) := by decide +kernel
theorem dX9_addBell_28 : decode cX9_addBell 28 = .ok (.iload 4, 2) := by decide +kernel
theorem dX9_addBell_30 : decode cX9_addBell 30 = .ok (.iastore, 1) := by decide +kernel
theorem dX9_addBell_31 : decode cX9_addBell 31 = .ok (.aload_n 0, 1) := by decide +kernel
theorem dX9_addBell_32 : decode cX9_addBell 32 = .ok (.getfield 25, 3) := by decide +kernel
theorem dX9_addBell_35 : decode cX9_addBell 35 = .ok (.aload_n 0, 1) := by decide +kernel
theorem dX9_addBell_36 : decode cX9_addBell 36 = .ok (.getfield 44, 3) := by decide +kernel
theorem dX9_addBell_39 : decode cX9_addBell 39 = .ok (.iload 5, 2) := by decide +kernel
theorem dX9_addBell_41 : decode cX9_addBell 41 = .ok (.iastore, 1) := by decide +kernel
theorem dX9_addBell_42 : decode cX9_addBell 42 = .ok (.aload_n 0, 1) := by decide +kernel
theorem dX9_addBell_43 : decode cX9_addBell 43 = .ok (.getfield 31, 3) := by decide +kernel
theorem dX9_addBell_46 : decode cX9_addBell 46 = .ok (.aload_n 0, 1) := by decide +kernel
theorem dX9_addBell_47 : decode cX9_addBell 47 = .ok (.getfield 44, 3) := by decide +kernel
theorem dX9_addBell_50 : decode cX9_addBell 50 = .ok (.iconst 0, 1) := by decide +kernel
theorem dX9_addBell_51 : decode cX9_addBell 51 = .ok (.iastore, 1) := by decide +kernel
theorem dX9_addBell_52 : decode cX9_addBell 52 = .ok (.iload_n 3, 1) := by decide +kernel
theorem dX9_addBell_53 : decode cX9_addBell 53 = .ok (.iconst (-1), 1) := by decide +kernel
theorem dX9_addBell_54 : decode cX9_addBell 54 = .ok (.if_icmp .eq 43, 3) := by decide +kernel
theorem dX9_addBell_57 : decode cX9_addBell 57 = .ok (.aload_n 0, 1) := by decide +kernel
theorem dX9_addBell_58 : decode cX9_addBell 58 = .ok (.dup, 1) := by decide +kernel
theorem dX9_addBell_59 : decode cX9_addBell 59 = .ok (.getfield 47, 3) := by decide +kernel
theorem dX9_addBell_62 : decode cX9_addBell 62 = .ok (.iconst 1, 1) := by decide +kernel
theorem dX9_addBell_63 : decode cX9_addBell 63 = .ok (.aload_n 0, 1) := by decide +kernel
theorem dX9_addBell_64 : decode cX9_addBell 64 = .ok (.getfield 44, 3) := by decide +kernel
theorem dX9_addBell_67 : decode cX9_addBell 67 = .ok (.ishl, 1) := by decide +kernel
theorem dX9_addBell_68 : decode cX9_addBell 68 = .ok (.ior, 1) := by decide +kernel
theorem dX9_addBell_69 : decode cX9_addBell 69 = .ok (.putfield 47, 3) := by decide +kernel
theorem dX9_addBell_72 : decode cX9_addBell 72 = .ok (.aload_n 0, 1) := by decide +kernel
theorem dX9_addBell_73 : decode cX9_addBell 73 = .ok (.getfield 15, 3) := by decide +kernel
theorem dX9_addBell_76 : decode cX9_addBell 76 = .ok (.iload_n 3, 1) := by decide +kernel
theorem dX9_addBell_77 : decode cX9_addBell 77 = .ok (.dup2, 1) := by decide +kernel
theorem dX9_addBell_78 : decode cX9_addBell 78 = .ok (.iaload, 1) := by decide +kernel
theorem dX9_addBell_79 : decode cX9_addBell 79 = .ok (.iconst 1, 1) := by decide +kernel
theorem dX9_addBell_80 : decode cX9_addBell 80 = .ok (.aload_n 0, 1) := by decide +kernel
theorem dX9_addBell_81 : decode cX9_addBell 81 = .ok (.getfield 44, 3) := by decide +kernel
theorem dX9_addBell_84 : decode cX9_addBell 84 = .ok (.ishl, 1) := by decide +kernel
theorem dX9_addBell_85 : decode cX9_addBell 85 = .ok (.ior, 1) := by decide +kernel
theorem dX9_addBell_86 : decode cX9_addBell 86 = .ok (.iastore, 1) := by decide +kernel
theorem dX9_addBell_87 : decode cX9_addBell 87 = .ok (.aload_n 0, 1) := by decide +kernel
theorem dX9_addBell_88 : decode cX9_addBell 88 = .ok (.dup, 1) := by decide +kernel
theorem dX9_addBell_89 : decode cX9_addBell 89 = .ok (.getfield 50, 3) := by decide +kernel
theorem dX9_addBell_92 : decode cX9_addBell 92 = .ok (.iconst 1, 1) := by decide +kernel
theorem dX9_addBell_93 : decode cX9_addBell 93 = .ok (.iadd, 1) := by decide +kernel
theorem dX9_addBell_94 : decode cX9_addBell 94 = .ok (.putfield 50, 3) := by decide +kernel
theorem dX9_addBell_97 : decode cX9_addBell 97 = .ok (.aload_n 0, 1) := by decide +kernel
theorem dX9_addBell_98 : decode cX9_addBell 98 = .ok (.dup, 1) := by decide +kernel
theorem dX9_addBell_99 : decode cX9_addBell 99 = .ok (.getfield 44, 3) := by decide +kernel
theorem dX9_addBell_102 : decode cX9_addBell 102 = .ok (.iconst 1, 1) := by decide +kernel
theorem dX9_addBell_103 : decode cX9_addBell 103 = .ok (.iadd, 1) := by decide +kernel
theorem dX9_addBell_104 : decode cX9_addBell 104 = .ok (.putfield 44, 3) := by decide +kernel
theorem dX9_addBell_107 : decode cX9_addBell 107 = .ok (.return_, 1) := by decide +kernel
theorem dX9_addEar_0 : decode cX9_addEar 0 = .ok (.aload_n 0, 1) := by decide +kernel
theorem dX9_addEar_1 : decode cX9_addEar 1 = .ok (.getfield 34, 3) := by decide +kernel
theorem dX9_addEar_4 : decode cX9_addEar 4 = .ok (.aload_n 0, 1) := by decide +kernel
theorem dX9_addEar_5 : decode cX9_addEar 5 = .ok (.getfield 56, 3) := by decide +kernel
theorem dX9_addEar_8 : decode cX9_addEar 8 = .ok (.lload_n 1, 1) := by decide +kernel
theorem dX9_addEar_9 : decode cX9_addEar 9 = .ok (.lastore, 1) := by decide +kernel
theorem dX9_addEar_10 : decode cX9_addEar 10 = .ok (.aload_n 0, 1) := by decide +kernel
theorem dX9_addEar_11 : decode cX9_addEar 11 = .ok (.getfield 37, 3) := by decide +kernel
theorem dX9_addEar_14 : decode cX9_addEar 14 = .ok (.aload_n 0, 1) := by decide +kernel
theorem dX9_addEar_15 : decode cX9_addEar 15 = .ok (.getfield 56, 3) := by decide +kernel
theorem dX9_addEar_18 : decode cX9_addEar 18 = .ok (.iload_n 3, 1) := by decide +kernel
theorem dX9_addEar_19 : decode cX9_addEar 19 = .ok (.iastore, 1) := by decide +kernel
theorem dX9_addEar_20 : decode cX9_addEar 20 = .ok (.aload_n 0, 1) := by decide +kernel
theorem dX9_addEar_21 : decode cX9_addEar 21 = .ok (.dup, 1) := by decide +kernel
theorem dX9_addEar_22 : decode cX9_addEar 22 = .ok (.getfield 56, 3) := by decide +kernel
theorem dX9_addEar_25 : decode cX9_addEar 25 = .ok (.iconst 1, 1) := by decide +kernel
theorem dX9_addEar_26 : decode cX9_addEar 26 = .ok (.iadd, 1) := by decide +kernel
theorem dX9_addEar_27 : decode cX9_addEar 27 = .ok (.putfield 56, 3) := by decide +kernel
theorem dX9_addEar_30 : decode cX9_addEar 30 = .ok (.return_, 1) := by decide +kernel
theorem dX9_addBeside_0 : decode cX9_addBeside 0 = .ok (.aload_n 0, 1) := by decide +kernel
theorem dX9_addBeside_1 : decode cX9_addBeside 1 = .ok (.getfield 31, 3) := by decide +kernel
theorem dX9_addBeside_4 : decode cX9_addBeside 4 = .ok (.iload_n 1, 1) := by decide +kernel
theorem dX9_addBeside_5 : decode cX9_addBeside 5 = .ok (.dup2, 1) := by decide +kernel
theorem dX9_addBeside_6 : decode cX9_addBeside 6 = .ok (.iaload, 1) := by decide +kernel
theorem dX9_addBeside_7 : decode cX9_addBeside 7 = .ok (.iconst 1, 1) := by decide +kernel
theorem dX9_addBeside_8 : decode cX9_addBeside 8 = .ok (.iload_n 2, 1) := by decide +kernel
theorem dX9_addBeside_9 : decode cX9_addBeside 9 = .ok (.ishl, 1) := by decide +kernel
theorem dX9_addBeside_10 : decode cX9_addBeside 10 = .ok (.ior, 1) := by decide +kernel
theorem dX9_addBeside_11 : decode cX9_addBeside 11 = .ok (.iastore, 1) := by decide +kernel
theorem dX9_addBeside_12 : decode cX9_addBeside 12 = .ok (.aload_n 0, 1) := by decide +kernel
theorem dX9_addBeside_13 : decode cX9_addBeside 13 = .ok (.getfield 31, 3) := by decide +kernel
theorem dX9_addBeside_16 : decode cX9_addBeside 16 = .ok (.iload_n 2, 1) := by decide +kernel
theorem dX9_addBeside_17 : decode cX9_addBeside 17 = .ok (.dup2, 1) := by decide +kernel
theorem dX9_addBeside_18 : decode cX9_addBeside 18 = .ok (.iaload, 1) := by decide +kernel
theorem dX9_addBeside_19 : decode cX9_addBeside 19 = .ok (.iconst 1, 1) := by decide +kernel
theorem dX9_addBeside_20 : decode cX9_addBeside 20 = .ok (.iload_n 1, 1) := by decide +kernel
theorem dX9_addBeside_21 : decode cX9_addBeside 21 = .ok (.ishl, 1) := by decide +kernel
theorem dX9_addBeside_22 : decode cX9_addBeside 22 = .ok (.ior, 1) := by decide +kernel
theorem dX9_addBeside_23 : decode cX9_addBeside 23 = .ok (.iastore, 1) := by decide +kernel
theorem dX9_addBeside_24 : decode cX9_addBeside 24 = .ok (.aload_n 0, 1) := by decide +kernel
theorem dX9_addBeside_25 : decode cX9_addBeside 25 = .ok (.dup, 1) := by decide +kernel
theorem dX9_addBeside_26 : decode cX9_addBeside 26 = .ok (.getfield 53, 3) := by decide +kernel
theorem dX9_addBeside_29 : decode cX9_addBeside 29 = .ok (.iconst 1, 1) := by decide +kernel
theorem dX9_addBeside_30 : decode cX9_addBeside 30 = .ok (.iadd, 1) := by decide +kernel
theorem dX9_addBeside_31 : decode cX9_addBeside 31 = .ok (.putfield 53, 3) := by decide +kernel
theorem dX9_addBeside_34 : decode cX9_addBeside 34 = .ok (.return_, 1) := by decide +kernel
theorem dX9_hasBell_0 : decode cX9_hasBell 0 = .ok (.iload_n 1, 1) := by decide +kernel
theorem dX9_hasBell_1 : decode cX9_hasBell 1 = .ok (.iconst 0, 1) := by decide +kernel
theorem dX9_hasBell_2 : decode cX9_hasBell 2 = .ok (.aload_n 0, 1) := by decide +kernel
theorem dX9_hasBell_3 : decode cX9_hasBell 3 = .ok (.getfield 44, 3) := by decide +kernel
theorem dX9_hasBell_6 : decode cX9_hasBell 6 = .ok (.iconst 1, 1) := by decide +kernel
theorem dX9_hasBell_7 : decode cX9_hasBell 7 = .ok (.isub, 1) := by decide +kernel
theorem dX9_hasBell_8 : decode cX9_hasBell 8 = .ok (.invokestatic 59, 3) := by decide +kernel
theorem dX9_hasBell_11 : decode cX9_hasBell 11 = .ok (.ireturn, 1) := by decide +kernel
theorem dX9_hasEar_0 : decode cX9_hasEar 0 = .ok (.iload_n 1, 1) := by decide +kernel
theorem dX9_hasEar_1 : decode cX9_hasEar 1 = .ok (.iconst 0, 1) := by decide +kernel
theorem dX9_hasEar_2 : decode cX9_hasEar 2 = .ok (.aload_n 0, 1) := by decide +kernel
theorem dX9_hasEar_3 : decode cX9_hasEar 3 = .ok (.getfield 56, 3) := by decide +kernel
theorem dX9_hasEar_6 : decode cX9_hasEar 6 = .ok (.iconst 1, 1) := by decide +kernel
theorem dX9_hasEar_7 : decode cX9_hasEar 7 = .ok (.isub, 1) := by decide +kernel
theorem dX9_hasEar_8 : decode cX9_hasEar 8 = .ok (.invokestatic 59, 3) := by decide +kernel
theorem dX9_hasEar_11 : decode cX9_hasEar 11 = .ok (.ireturn, 1) := by decide +kernel
theorem dX9_isBeast_0 : decode cX9_isBeast 0 = .ok (.aload_n 0, 1) := by decide +kernel
theorem dX9_isBeast_1 : decode cX9_isBeast 1 = .ok (.getfield 47, 3) := by decide +kernel
theorem dX9_isBeast_4 : decode cX9_isBeast 4 = .ok (.iload_n 1, 1) := by decide +kernel
theorem dX9_isBeast_5 : decode cX9_isBeast 5 = .ok (.ishr, 1) := by decide +kernel
theorem dX9_isBeast_6 : decode cX9_isBeast 6 = .ok (.iconst 1, 1) := by decide +kernel
theorem dX9_isBeast_7 : decode cX9_isBeast 7 = .ok (.iand, 1) := by decide +kernel
theorem dX9_isBeast_8 : decode cX9_isBeast 8 = .ok (.iconst 1, 1) := by decide +kernel
theorem dX9_isBeast_9 : decode cX9_isBeast 9 = .ok (.if_icmp .ne 7, 3) := by decide +kernel
theorem dX9_isBeast_12 : decode cX9_isBeast 12 = .ok (.iconst 1, 1) := by decide +kernel
theorem dX9_isBeast_13 : decode cX9_isBeast 13 = .ok (.goto 4, 3) := by decide +kernel
theorem dX9_isBeast_16 : decode cX9_isBeast 16 = .ok (.iconst 0, 1) := by decide +kernel
theorem dX9_isBeast_17 : decode cX9_isBeast 17 = .ok (.ireturn, 1) := by decide +kernel
theorem dX9_loudAt_0 : decode cX9_loudAt 0 = .ok (.iload_n 3, 1) := by decide +kernel
theorem dX9_loudAt_1 : decode cX9_loudAt 1 = .ok (.aload_n 0, 1) := by decide +kernel
theorem dX9_loudAt_2 : decode cX9_loudAt 2 = .ok (.getfield 37, 3) := by decide +kernel
theorem dX9_loudAt_5 : decode cX9_loudAt 5 = .ok (.iload_n 2, 1) := by decide +kernel
theorem dX9_loudAt_6 : decode cX9_loudAt 6 = .ok (.iaload, 1) := by decide +kernel
theorem dX9_loudAt_7 : decode cX9_loudAt 7 = .ok (.isub, 1) := by decide +kernel
theorem dX9_loudAt_8 : decode cX9_loudAt 8 = .ok (.invokestatic 63, 3) := by decide +kernel
theorem dX9_loudAt_11 : decode cX9_loudAt 11 = .ok (.istore 5, 2) := by decide +kernel
theorem dX9_loudAt_13 : decode cX9_loudAt 13 = .ok (.iconst 0, 1) := by decide +kernel
theorem dX9_loudAt_14 : decode cX9_loudAt 14 = .ok (.aload_n 0, 1) := by decide +kernel
theorem dX9_loudAt_15 : decode cX9_loudAt 15 = .ok (.getfield 25, 3) := by decide +kernel
theorem dX9_loudAt_18 : decode cX9_loudAt 18 = .ok (.iload_n 1, 1) := by decide +kernel
theorem dX9_loudAt_19 : decode cX9_loudAt 19 = .ok (.iaload, 1) := by decide +kernel
theorem dX9_loudAt_20 : decode cX9_loudAt 20 = .ok (.iload 5, 2) := by decide +kernel
theorem dX9_loudAt_22 : decode cX9_loudAt 22 = .ok (.isub, 1) := by decide +kernel
theorem dX9_loudAt_23 : decode cX9_loudAt 23 = .ok (.iload 4, 2) := by decide +kernel
theorem dX9_loudAt_25 : decode cX9_loudAt 25 = .ok (.isub, 1) := by decide +kernel
theorem dX9_loudAt_26 : decode cX9_loudAt 26 = .ok (.invokestatic 69, 3) := by decide +kernel
theorem dX9_loudAt_29 : decode cX9_loudAt 29 = .ok (.ireturn, 1) := by decide +kernel
theorem dX9_loudness_0 : decode cX9_loudness 0 = .ok (.iconst 0, 1) := by decide +kernel
theorem dX9_loudness_1 : decode cX9_loudness 1 = .ok (.istore 6, 2) := by decide +kernel
theorem dX9_loudness_3 : decode cX9_loudness 3 = .ok (.iconst 0, 1) := by decide +kernel
theorem dX9_loudness_4 : decode cX9_loudness 4 = .ok (.istore 7, 2) := by decide +kernel
theorem dX9_loudness_6 : decode cX9_loudness 6 = .ok (.iload 7, 2) := by decide +kernel
theorem dX9_loudness_8 : decode cX9_loudness 8 = .ok (.aload_n 0, 1) := by decide +kernel
theorem dX9_loudness_9 : decode cX9_loudness 9 = .ok (.getfield 44, 3) := by decide +kernel
theorem dX9_loudness_12 : decode cX9_loudness 12 = .ok (.if_icmp .ge 46, 3) := by decide +kernel
theorem dX9_loudness_15 : decode cX9_loudness 15 = .ok (.iload_n 1, 1) := by decide +kernel
theorem dX9_loudness_16 : decode cX9_loudness 16 = .ok (.iload 7, 2) := by decide +kernel
theorem dX9_loudness_18 : decode cX9_loudness 18 = .ok (.ishr, 1) := by decide +kernel
theorem dX9_loudness_19 : decode cX9_loudness 19 = .ok (.iconst 1, 1) := by decide +kernel
theorem dX9_loudness_20 : decode cX9_loudness 20 = .ok (.iand, 1) := by decide +kernel
theorem dX9_loudness_21 : decode cX9_loudness 21 = .ok (.iconst 1, 1) := by decide +kernel
theorem dX9_loudness_22 : decode cX9_loudness 22 = .ok (.if_icmp .ne 30, 3) := by decide +kernel
theorem dX9_loudness_25 : decode cX9_loudness 25 = .ok (.aload_n 0, 1) := by decide +kernel
theorem dX9_loudness_26 : decode cX9_loudness 26 = .ok (.getfield 22, 3) := by decide +kernel
theorem dX9_loudness_29 : decode cX9_loudness 29 = .ok (.iload 7, 2) := by decide +kernel
theorem dX9_loudness_31 : decode cX9_loudness 31 = .ok (.iaload, 1) := by decide +kernel
theorem dX9_loudness_32 : decode cX9_loudness 32 = .ok (.iload_n 2, 1) := by decide +kernel
theorem dX9_loudness_33 : decode cX9_loudness 33 = .ok (.if_icmp .ne 19, 3) := by decide +kernel
theorem dX9_loudness_36 : decode cX9_loudness 36 = .ok (.iload 6, 2) := by decide +kernel
theorem dX9_loudness_38 : decode cX9_loudness 38 = .ok (.aload_n 0, 1) := by decide +kernel
theorem dX9_loudness_39 : decode cX9_loudness 39 = .ok (.iload 7, 2) := by decide +kernel
theorem dX9_loudness_41 : decode cX9_loudness 41 = .ok (.iload_n 3, 1) := by decide +kernel
theorem dX9_loudness_42 : decode cX9_loudness 42 = .ok (.iload 4, 2) := by decide +kernel
theorem dX9_loudness_44 : decode cX9_loudness 44 = .ok (.iload 5, 2) := by decide +kernel
theorem dX9_loudness_46 : decode cX9_loudness 46 = .ok (.invokevirtual 73, 3) := by decide +kernel
theorem dX9_loudness_49 : decode cX9_loudness 49 = .ok (.iadd, 1) := by decide +kernel
theorem dX9_loudness_50 : decode cX9_loudness 50 = .ok (.istore 6, 2) := by decide +kernel
theorem dX9_loudness_52 : decode cX9_loudness 52 = .ok (.iinc 7 1, 3) := by decide +kernel
theorem dX9_loudness_55 : decode cX9_loudness 55 = .ok (.goto (-49), 3) := by decide +kernel
theorem dX9_loudness_58 : decode cX9_loudness 58 = .ok (.iload 6, 2) := by decide +kernel
theorem dX9_loudness_60 : decode cX9_loudness 60 = .ok (.ireturn, 1) := by decide +kernel
theorem dX9_hasBeast_0 : decode cX9_hasBeast 0 = .ok (.iconst 0, 1) := by decide +kernel
theorem dX9_hasBeast_1 : decode cX9_hasBeast 1 = .ok (.istore_n 3, 1) := by decide +kernel
theorem dX9_hasBeast_2 : decode cX9_hasBeast 2 = .ok (.iload_n 3, 1) := by decide +kernel
theorem dX9_hasBeast_3 : decode cX9_hasBeast 3 = .ok (.aload_n 0, 1) := by decide +kernel
theorem dX9_hasBeast_4 : decode cX9_hasBeast 4 = .ok (.getfield 44, 3) := by decide +kernel
theorem dX9_hasBeast_7 : decode cX9_hasBeast 7 = .ok (.if_icmp .ge 39, 3) := by decide +kernel
theorem dX9_hasBeast_10 : decode cX9_hasBeast 10 = .ok (.aload_n 0, 1) := by decide +kernel
theorem dX9_hasBeast_11 : decode cX9_hasBeast 11 = .ok (.iload_n 3, 1) := by decide +kernel
theorem dX9_hasBeast_12 : decode cX9_hasBeast 12 = .ok (.invokevirtual 77, 3) := by decide +kernel
theorem dX9_hasBeast_15 : decode cX9_hasBeast 15 = .ok (.ifCond .eq 25, 3) := by decide +kernel
theorem dX9_hasBeast_18 : decode cX9_hasBeast 18 = .ok (.aload_n 0, 1) := by decide +kernel
theorem dX9_hasBeast_19 : decode cX9_hasBeast 19 = .ok (.getfield 22, 3) := by decide +kernel
theorem dX9_hasBeast_22 : decode cX9_hasBeast 22 = .ok (.iload_n 3, 1) := by decide +kernel
theorem dX9_hasBeast_23 : decode cX9_hasBeast 23 = .ok (.iaload, 1) := by decide +kernel
theorem dX9_hasBeast_24 : decode cX9_hasBeast 24 = .ok (.iload_n 1, 1) := by decide +kernel
theorem dX9_hasBeast_25 : decode cX9_hasBeast 25 = .ok (.if_icmp .ne 15, 3) := by decide +kernel
theorem dX9_hasBeast_28 : decode cX9_hasBeast 28 = .ok (.aload_n 0, 1) := by decide +kernel
theorem dX9_hasBeast_29 : decode cX9_hasBeast 29 = .ok (.getfield 25, 3) := by decide +kernel
theorem dX9_hasBeast_32 : decode cX9_hasBeast 32 = .ok (.iload_n 3, 1) := by decide +kernel
theorem dX9_hasBeast_33 : decode cX9_hasBeast 33 = .ok (.iaload, 1) := by decide +kernel
theorem dX9_hasBeast_34 : decode cX9_hasBeast 34 = .ok (.iload_n 2, 1) := by decide +kernel
theorem dX9_hasBeast_35 : decode cX9_hasBeast 35 = .ok (.if_icmp .ne 5, 3) := by decide +kernel
theorem dX9_hasBeast_38 : decode cX9_hasBeast 38 = .ok (.iconst 1, 1) := by decide +kernel
theorem dX9_hasBeast_39 : decode cX9_hasBeast 39 = .ok (.ireturn, 1) := by decide +kernel
theorem dX9_hasBeast_40 : decode cX9_hasBeast 40 = .ok (.iinc 3 1, 3) := by decide +kernel
theorem dX9_hasBeast_43 : decode cX9_hasBeast 43 = .ok (.goto (-41), 3) := by decide +kernel
theorem dX9_hasBeast_46 : decode cX9_hasBeast 46 = .ok (.iconst 0, 1) := by decide +kernel
theorem dX9_hasBeast_47 : decode cX9_hasBeast 47 = .ok (.ireturn, 1) := by decide +kernel
theorem dX9_eachIsKnown_0 : decode cX9_eachIsKnown 0 = .ok (.iconst 0, 1) := by decide +kernel
theorem dX9_eachIsKnown_1 : decode cX9_eachIsKnown 1 = .ok (.istore_n 1, 1) := by decide +kernel
theorem dX9_eachIsKnown_2 : decode cX9_eachIsKnown 2 = .ok (.iload_n 1, 1) := by decide +kernel
theorem dX9_eachIsKnown_3 : decode cX9_eachIsKnown 3 = .ok (.aload_n 0, 1) := by decide +kernel
theorem dX9_eachIsKnown_4 : decode cX9_eachIsKnown 4 = .ok (.getfield 44, 3) := by decide +kernel
theorem dX9_eachIsKnown_7 : decode cX9_eachIsKnown 7 = .ok (.if_icmp .ge 80, 3) := by decide +kernel
theorem dX9_eachIsKnown_10 : decode cX9_eachIsKnown 10 = .ok (.iconst 0, 1) := by decide +kernel
theorem dX9_eachIsKnown_11 : decode cX9_eachIsKnown 11 = .ok (.istore_n 2, 1) := by decide +kernel
theorem dX9_eachIsKnown_12 : decode cX9_eachIsKnown 12 = .ok (.iload_n 2, 1) := by decide +kernel
theorem dX9_eachIsKnown_13 : decode cX9_eachIsKnown 13 = .ok (.iload_n 1, 1) := by decide +kernel
theorem dX9_eachIsKnown_14 : decode cX9_eachIsKnown 14 = .ok (.if_icmp .ge 67, 3) := by decide +kernel
theorem dX9_eachIsKnown_17 : decode cX9_eachIsKnown 17 = .ok (.aload_n 0, 1) := by decide +kernel
theorem dX9_eachIsKnown_18 : decode cX9_eachIsKnown 18 = .ok (.iload_n 1, 1) := by decide +kernel
theorem dX9_eachIsKnown_19 : decode cX9_eachIsKnown 19 = .ok (.invokevirtual 77, 3) := by decide +kernel
theorem dX9_eachIsKnown_22 : decode cX9_eachIsKnown 22 = .ok (.ifCond .eq 15, 3) := by decide +kernel
theorem dX9_eachIsKnown_25 : decode cX9_eachIsKnown 25 = .ok (.aload_n 0, 1) := by decide +kernel
theorem dX9_eachIsKnown_26 : decode cX9_eachIsKnown 26 = .ok (.iload_n 2, 1) := by decide +kernel
theorem dX9_eachIsKnown_27 : decode cX9_eachIsKnown 27 = .ok (.invokevirtual 77, 3) := by decide +kernel
theorem dX9_eachIsKnown_30 : decode cX9_eachIsKnown 30 = .ok (.ifCond .eq 7, 3) := by decide +kernel
theorem dX9_eachIsKnown_33 : decode cX9_eachIsKnown 33 = .ok (.iconst 1, 1) := by decide +kernel
theorem dX9_eachIsKnown_34 : decode cX9_eachIsKnown 34 = .ok (.goto 4, 3) := by decide +kernel
theorem dX9_eachIsKnown_37 : decode cX9_eachIsKnown 37 = .ok (.iconst 0, 1) := by decide +kernel
theorem dX9_eachIsKnown_38 : decode cX9_eachIsKnown 38 = .ok (.istore_n 3, 1) := by decide +kernel
theorem dX9_eachIsKnown_39 : decode cX9_eachIsKnown 39 = .ok (.iload_n 3, 1) := by decide +kernel
theorem dX9_eachIsKnown_40 : decode cX9_eachIsKnown 40 = .ok (.ifCond .eq 35, 3) := by decide +kernel
theorem dX9_eachIsKnown_43 : decode cX9_eachIsKnown 43 = .ok (.aload_n 0, 1) := by decide +kernel
theorem dX9_eachIsKnown_44 : decode cX9_eachIsKnown 44 = .ok (.getfield 22, 3) := by decide +kernel
theorem dX9_eachIsKnown_47 : decode cX9_eachIsKnown 47 = .ok (.iload_n 1, 1) := by decide +kernel
theorem dX9_eachIsKnown_48 : decode cX9_eachIsKnown 48 = .ok (.iaload, 1) := by decide +kernel
theorem dX9_eachIsKnown_49 : decode cX9_eachIsKnown 49 = .ok (.aload_n 0, 1) := by decide +kernel
theorem dX9_eachIsKnown_50 : decode cX9_eachIsKnown 50 = .ok (.getfield 22, 3) := by decide +kernel
theorem dX9_eachIsKnown_53 : decode cX9_eachIsKnown 53 = .ok (.iload_n 2, 1) := by decide +kernel
theorem dX9_eachIsKnown_54 : decode cX9_eachIsKnown 54 = .ok (.iaload, 1) := by decide +kernel
theorem dX9_eachIsKnown_55 : decode cX9_eachIsKnown 55 = .ok (.if_icmp .ne 20, 3) := by decide +kernel
theorem dX9_eachIsKnown_58 : decode cX9_eachIsKnown 58 = .ok (.aload_n 0, 1) := by decide +kernel
theorem dX9_eachIsKnown_59 : decode cX9_eachIsKnown 59 = .ok (.getfield 25, 3) := by decide +kernel
theorem dX9_eachIsKnown_62 : decode cX9_eachIsKnown 62 = .ok (.iload_n 1, 1) := by decide +kernel
theorem dX9_eachIsKnown_63 : decode cX9_eachIsKnown 63 = .ok (.iaload, 1) := by decide +kernel
theorem dX9_eachIsKnown_64 : decode cX9_eachIsKnown 64 = .ok (.aload_n 0, 1) := by decide +kernel
theorem dX9_eachIsKnown_65 : decode cX9_eachIsKnown 65 = .ok (.getfield 25, 3) := by decide +kernel
theorem dX9_eachIsKnown_68 : decode cX9_eachIsKnown 68 = .ok (.iload_n 2, 1) := by decide +kernel
theorem dX9_eachIsKnown_69 : decode cX9_eachIsKnown 69 = .ok (.iaload, 1) := by decide +kernel
theorem dX9_eachIsKnown_70 : decode cX9_eachIsKnown 70 = .ok (.if_icmp .ne 5, 3) := by decide +kernel
theorem dX9_eachIsKnown_73 : decode cX9_eachIsKnown 73 = .ok (.iconst 0, 1) := by decide +kernel
theorem dX9_eachIsKnown_74 : decode cX9_eachIsKnown 74 = .ok (.ireturn, 1) := by decide +kernel
theorem dX9_eachIsKnown_75 : decode cX9_eachIsKnown 75 = .ok (.iinc 2 1, 3) := by decide +kernel
theorem dX9_eachIsKnown_78 : decode cX9_eachIsKnown 78 = .ok (.goto (-66), 3) := by decide +kernel
theorem dX9_eachIsKnown_81 : decode cX9_eachIsKnown 81 = .ok (.iinc 1 1, 3) := by decide +kernel
theorem dX9_eachIsKnown_84 : decode cX9_eachIsKnown 84 = .ok (.goto (-82), 3) := by decide +kernel
theorem dX9_eachIsKnown_87 : decode cX9_eachIsKnown 87 = .ok (.iconst 1, 1) := by decide +kernel
theorem dX9_eachIsKnown_88 : decode cX9_eachIsKnown 88 = .ok (.ireturn, 1) := by decide +kernel
theorem dX9_withThoseBeside_0 : decode cX9_withThoseBeside 0 = .ok (.iload_n 1, 1) := by decide +kernel
theorem dX9_withThoseBeside_1 : decode cX9_withThoseBeside 1 = .ok (.istore_n 2, 1) := by decide +kernel
theorem dX9_withThoseBeside_2 : decode cX9_withThoseBeside 2 = .ok (.iconst 0, 1) := by decide +kernel
theorem dX9_withThoseBeside_3 : decode cX9_withThoseBeside 3 = .ok (.istore_n 3, 1) := by decide +kernel
theorem dX9_withThoseBeside_4 : decode cX9_withThoseBeside 4 = .ok (.iload_n 3, 1) := by decide +kernel
theorem dX9_withThoseBeside_5 : decode cX9_withThoseBeside 5 = .ok (.aload_n 0, 1) := by decide +kernel
theorem dX9_withThoseBeside_6 : decode cX9_withThoseBeside 6 = .ok (.getfield 44, 3) := by decide +kernel
theorem dX9_withThoseBeside_9 : decode cX9_withThoseBeside 9 = .ok (.if_icmp .ge 27, 3) := by decide +kernel
theorem dX9_withThoseBeside_12 : decode cX9_withThoseBeside 12 = .ok (.iload_n 1, 1) := by decide +kernel
theorem dX9_withThoseBeside_13 : decode cX9_withThoseBeside 13 = .ok (.iload_n 3, 1) := by decide +kernel
theorem dX9_withThoseBeside_14 : decode cX9_withThoseBeside 14 = .ok (.ishr, 1) := by decide +kernel
theorem dX9_withThoseBeside_15 : decode cX9_withThoseBeside 15 = .ok (.iconst 1, 1) := by decide +kernel
theorem dX9_withThoseBeside_16 : decode cX9_withThoseBeside 16 = .ok (.iand, 1) := by decide +kernel
theorem dX9_withThoseBeside_17 : decode cX9_withThoseBeside 17 = .ok (.iconst 1, 1) := by decide +kernel
theorem dX9_withThoseBeside_18 : decode cX9_withThoseBeside 18 = .ok (.if_icmp .ne 12, 3) := by decide +kernel
theorem dX9_withThoseBeside_21 : decode cX9_withThoseBeside 21 = .ok (.iload_n 2, 1) := by decide +kernel
theorem dX9_withThoseBeside_22 : decode cX9_withThoseBeside 22 = .ok (.aload_n 0, 1) := by decide +kernel
theorem dX9_withThoseBeside_23 : decode cX9_withThoseBeside 23 = .ok (.getfield 31, 3) := by decide +kernel
theorem dX9_withThoseBeside_26 : decode cX9_withThoseBeside 26 = .ok (.iload_n 3, 1) := by decide +kernel
theorem dX9_withThoseBeside_27 : decode cX9_withThoseBeside 27 = .ok (.iaload, 1) := by decide +kernel
theorem dX9_withThoseBeside_28 : decode cX9_withThoseBeside 28 = .ok (.ior, 1) := by decide +kernel
theorem dX9_withThoseBeside_29 : decode cX9_withThoseBeside 29 = .ok (.istore_n 2, 1) := by decide +kernel
theorem dX9_withThoseBeside_30 : decode cX9_withThoseBeside 30 = .ok (.iinc 3 1, 3) := by decide +kernel
theorem dX9_withThoseBeside_33 : decode cX9_withThoseBeside 33 = .ok (.goto (-29), 3) := by decide +kernel
theorem dX9_withThoseBeside_36 : decode cX9_withThoseBeside 36 = .ok (.iload_n 2, 1) := by decide +kernel
theorem dX9_withThoseBeside_37 : decode cX9_withThoseBeside 37 = .ok (.ireturn, 1) := by decide +kernel
theorem dX9_farFrom_0 : decode cX9_farFrom 0 = .ok (.bipush 12, 2) := by decide +kernel
theorem dX9_farFrom_2 : decode cX9_farFrom 2 = .ok (.istore_n 3, 1) := by decide +kernel
theorem dX9_farFrom_3 : decode cX9_farFrom 3 = .ok (.iconst 0, 1) := by decide +kernel
theorem dX9_farFrom_4 : decode cX9_farFrom 4 = .ok (.istore 4, 2) := by decide +kernel
theorem dX9_farFrom_6 : decode cX9_farFrom 6 = .ok (.iload 4, 2) := by decide +kernel
theorem dX9_farFrom_8 : decode cX9_farFrom 8 = .ok (.aload_n 0, 1) := by decide +kernel
theorem dX9_farFrom_9 : decode cX9_farFrom 9 = .ok (.getfield 44, 3) := by decide +kernel
theorem dX9_farFrom_12 : decode cX9_farFrom 12 = .ok (.if_icmp .ge 48, 3) := by decide +kernel
theorem dX9_farFrom_15 : decode cX9_farFrom 15 = .ok (.iload_n 2, 1) := by decide +kernel
theorem dX9_farFrom_16 : decode cX9_farFrom 16 = .ok (.iload 4, 2) := by decide +kernel
theorem dX9_farFrom_18 : decode cX9_farFrom 18 = .ok (.ishr, 1) := by decide +kernel
theorem dX9_farFrom_19 : decode cX9_farFrom 19 = .ok (.iconst 1, 1) := by decide +kernel
theorem dX9_farFrom_20 : decode cX9_farFrom 20 = .ok (.iand, 1) := by decide +kernel
theorem dX9_farFrom_21 : decode cX9_farFrom 21 = .ok (.iconst 1, 1) := by decide +kernel
theorem dX9_farFrom_22 : decode cX9_farFrom 22 = .ok (.if_icmp .ne 32, 3) := by decide +kernel
theorem dX9_farFrom_25 : decode cX9_farFrom 25 = .ok (.iload_n 1, 1) := by decide +kernel
theorem dX9_farFrom_26 : decode cX9_farFrom 26 = .ok (.aload_n 0, 1) := by decide +kernel
theorem dX9_farFrom_27 : decode cX9_farFrom 27 = .ok (.getfield 22, 3) := by decide +kernel
theorem dX9_farFrom_30 : decode cX9_farFrom 30 = .ok (.iload 4, 2) := by decide +kernel
theorem dX9_farFrom_32 : decode cX9_farFrom 32 = .ok (.iaload, 1) := by decide +kernel
theorem dX9_farFrom_33 : decode cX9_farFrom 33 = .ok (.isub, 1) := by decide +kernel
theorem dX9_farFrom_34 : decode cX9_farFrom 34 = .ok (.invokestatic 63, 3) := by decide +kernel
theorem dX9_farFrom_37 : decode cX9_farFrom 37 = .ok (.istore 5, 2) := by decide +kernel
theorem dX9_farFrom_39 : decode cX9_farFrom 39 = .ok (.iload_n 3, 1) := by decide +kernel
theorem dX9_farFrom_40 : decode cX9_farFrom 40 = .ok (.iload 5, 2) := by decide +kernel
theorem dX9_farFrom_42 : decode cX9_farFrom 42 = .ok (.bipush 12, 2) := by decide +kernel
theorem dX9_farFrom_44 : decode cX9_farFrom 44 = .ok (.iload 5, 2) := by decide +kernel
theorem dX9_farFrom_46 : decode cX9_farFrom 46 = .ok (.isub, 1) := by decide +kernel
theorem dX9_farFrom_47 : decode cX9_farFrom 47 = .ok (.invokestatic 81, 3) := by decide +kernel
theorem dX9_farFrom_50 : decode cX9_farFrom 50 = .ok (.invokestatic 81, 3) := by decide +kernel
theorem dX9_farFrom_53 : decode cX9_farFrom 53 = .ok (.istore_n 3, 1) := by decide +kernel
theorem dX9_farFrom_54 : decode cX9_farFrom 54 = .ok (.iinc 4 1, 3) := by decide +kernel
theorem dX9_farFrom_57 : decode cX9_farFrom 57 = .ok (.goto (-51), 3) := by decide +kernel
theorem dX9_farFrom_60 : decode cX9_farFrom 60 = .ok (.iload_n 3, 1) := by decide +kernel
theorem dX9_farFrom_61 : decode cX9_farFrom 61 = .ok (.ireturn, 1) := by decide +kernel
theorem dX10_init_0 : decode cX10_init 0 = .ok (.aload_n 0, 1) := by decide +kernel
theorem dX10_init_1 : decode cX10_init 1 = .ok (.invokespecial 3, 3) := by decide +kernel
theorem dX10_init_4 : decode cX10_init 4 = .ok (.aload_n 0, 1) := by decide +kernel
theorem dX10_init_5 : decode cX10_init 5 = .ok (.sipush 1500, 3) := by decide +kernel
theorem dX10_init_8 : decode cX10_init 8 = .ok (.newarray .byte, 2) := by decide +kernel
theorem dX10_init_10 : decode cX10_init 10 = .ok (.putfield 9, 3) := by decide +kernel
theorem dX10_init_13 : decode cX10_init 13 = .ok (.aload_n 0, 1) := by decide +kernel
theorem dX10_init_14 : decode cX10_init 14 = .ok (.new 13, 3) := by decide +kernel
theorem dX10_init_17 : decode cX10_init 17 = .ok (.dup, 1) := by decide +kernel
theorem dX10_init_18 : decode cX10_init 18 = .ok (.aload_n 0, 1) := by decide +kernel
theorem dX10_init_19 : decode cX10_init 19 = .ok (.getfield 9, 3) := by decide +kernel
theorem dX10_init_22 : decode cX10_init 22 = .ok (.invokespecial 15, 3) := by decide +kernel
theorem dX10_init_25 : decode cX10_init 25 = .ok (.putfield 18, 3) := by decide +kernel
theorem dX10_init_28 : decode cX10_init 28 = .ok (.aload_n 0, 1) := by decide +kernel
theorem dX10_init_29 : decode cX10_init 29 = .ok (.new 22, 3) := by decide +kernel
theorem dX10_init_32 : decode cX10_init 32 = .ok (.dup, 1) := by decide +kernel
theorem dX10_init_33 : decode cX10_init 33 = .ok (.invokespecial 24, 3) := by decide +kernel
theorem dX10_init_36 : decode cX10_init 36 = .ok (.putfield 25, 3) := by decide +kernel
theorem dX10_init_39 : decode cX10_init 39 = .ok (.aload_n 0, 1) := by decide +kernel
theorem dX10_init_40 : decode cX10_init 40 = .ok (.new 22, 3) := by decide +kernel
theorem dX10_init_43 : decode cX10_init 43 = .ok (.dup, 1) := by decide +kernel
theorem dX10_init_44 : decode cX10_init 44 = .ok (.invokespecial 24, 3) := by decide +kernel
theorem dX10_init_47 : decode cX10_init 47 = .ok (.putfield 29, 3) := by decide +kernel
theorem dX10_init_50 : decode cX10_init 50 = .ok (.aload_n 0, 1) := by decide +kernel
theorem dX10_init_51 : decode cX10_init 51 = .ok (.new 32, 3) := by decide +kernel
theorem dX10_init_54 : decode cX10_init 54 = .ok (.dup, 1) := by decide +kernel
theorem dX10_init_55 : decode cX10_init 55 = .ok (.invokespecial 34, 3) := by decide +kernel
theorem dX10_init_58 : decode cX10_init 58 = .ok (.putfield 35, 3) := by decide +kernel
theorem dX10_init_61 : decode cX10_init 61 = .ok (.aload_n 0, 1) := by decide +kernel
theorem dX10_init_62 : decode cX10_init 62 = .ok (.iconst 3, 1) := by decide +kernel
theorem dX10_init_63 : decode cX10_init 63 = .ok (.anewarray 32, 3) := by decide +kernel
theorem dX10_init_66 : decode cX10_init 66 = .ok (.putfield 39, 3) := by decide +kernel
theorem dX10_init_69 : decode cX10_init 69 = .ok (.aload_n 0, 1) := by decide +kernel
theorem dX10_init_70 : decode cX10_init 70 = .ok (.new 43, 3) := by decide +kernel
theorem dX10_init_73 : decode cX10_init 73 = .ok (.dup, 1) := by decide +kernel
theorem dX10_init_74 : decode cX10_init 74 = .ok (.invokespecial 45, 3) := by decide +kernel
theorem dX10_init_77 : decode cX10_init 77 = .ok (.putfield 46, 3) := by decide +kernel
theorem dX10_init_80 : decode cX10_init 80 = .ok (.aload_n 0, 1) := by decide +kernel
theorem dX10_init_81 : decode cX10_init 81 = .ok (.bipush 8, 2) := by decide +kernel
theorem dX10_init_83 : decode cX10_init 83 = .ok (.newarray .int, 2) := by decide +kernel
theorem dX10_init_85 : decode cX10_init 85 = .ok (.putfield 50, 3) := by decide +kernel
theorem dX10_init_88 : decode cX10_init 88 = .ok (.aload_n 0, 1) := by decide +kernel
theorem dX10_init_89 : decode cX10_init 89 = .ok (.new 54, 3) := by decide +kernel
theorem dX10_init_92 : decode cX10_init 92 = .ok (.dup, 1) := by decide +kernel
theorem dX10_init_93 : decode cX10_init 93 = .ok (.invokespecial 56, 3) := by decide +kernel
theorem dX10_init_96 : decode cX10_init 96 = .ok (.putfield 57, 3) := by decide +kernel
theorem dX10_init_99 : decode cX10_init 99 = .ok (.aload_n 0, 1) := by decide +kernel
theorem dX10_init_100 : decode cX10_init 100 = .ok (.new 61, 3) := by decide +kernel
theorem dX10_init_103 : decode cX10_init 103 = .ok (.dup, 1) := by decide +kernel
theorem dX10_init_104 : decode cX10_init 104 = .ok (.invokespecial 63, 3) := by decide +kernel
theorem dX10_init_107 : decode cX10_init 107 = .ok (.putfield 64, 3) := by decide +kernel
theorem dX10_init_110 : decode cX10_init 110 = .ok (.aload_n 0, 1) := by decide +kernel
theorem dX10_init_111 : decode cX10_init 111 = .ok (.new 68, 3) := by decide +kernel
theorem dX10_init_114 : decode cX10_init 114 = .ok (.dup, 1) := by decide +kernel
theorem dX10_init_115 : decode cX10_init 115 = .ok (.invokespecial 70, 3) := by decide +kernel
theorem dX10_init_118 : decode cX10_init 118 = .ok (.putfield 71, 3) := by decide +kernel
theorem dX10_init_121 : decode cX10_init 121 = .ok (.aload_n 0, 1) := by decide +kernel
theorem dX10_init_122 : decode cX10_init 122 = .ok (.new 75, 3) := by decide +kernel
theorem dX10_init_125 : decode cX10_init 125 = .ok (.dup, 1) := by decide +kernel
theorem dX10_init_126 : decode cX10_init 126 = .ok (.invokespecial 77, 3) := by decide +kernel
theorem dX10_init_129 : decode cX10_init 129 = .ok (.putfield 78, 3) := by decide +kernel
theorem dX10_init_132 : decode cX10_init 132 = .ok (.aload_n 0, 1) := by decide +kernel
theorem dX10_init_133 : decode cX10_init 133 = .ok (.new 82, 3) := by decide +kernel
theorem dX10_init_136 : decode cX10_init 136 = .ok (.dup, 1) := by decide +kernel
theorem dX10_init_137 : decode cX10_init 137 = .ok (.invokespecial 84, 3) := by decide +kernel
theorem dX10_init_140 : decode cX10_init 140 = .ok (.putfield 85, 3) := by decide +kernel
theorem dX10_init_143 : decode cX10_init 143 = .ok (.iconst 0, 1) := by decide +kernel
theorem dX10_init_144 : decode cX10_init 144 = .ok (.istore_n 1, 1) := by decide +kernel
theorem dX10_init_145 : decode cX10_init 145 = .ok (.iload_n 1, 1) := by decide +kernel
theorem dX10_init_146 : decode cX10_init 146 = .ok (.iconst 3, 1) := by decide +kernel
theorem dX10_init_147 : decode cX10_init 147 = .ok (.if_icmp .ge 22, 3) := by decide +kernel
theorem dX10_init_150 : decode cX10_init 150 = .ok (.aload_n 0, 1) := by decide +kernel
theorem dX10_init_151 : decode cX10_init 151 = .ok (.getfield 39, 3) := by decide +kernel
theorem dX10_init_154 : decode cX10_init 154 = .ok (.iload_n 1, 1) := by decide +kernel
theorem dX10_init_155 : decode cX10_init 155 = .ok (.new 32, 3) := by decide +kernel
theorem dX10_init_158 : decode cX10_init 158 = .ok (.dup, 1) := by decide +kernel
theorem dX10_init_159 : decode cX10_init 159 = .ok (.invokespecial 34, 3) := by decide +kernel
theorem dX10_init_162 : decode cX10_init 162 = .ok (.aastore, 1) := by decide +kernel
theorem dX10_init_163 : decode cX10_init 163 = .ok (.iinc 1 1, 3) := by decide +kernel
theorem dX10_init_166 : decode cX10_init 166 = .ok (.goto (-21), 3) := by decide +kernel
theorem dX10_init_169 : decode cX10_init 169 = .ok (.return_, 1) := by decide +kernel
theorem dX10_feed_0 : decode cX10_feed 0 = .ok (.aload_n 0, 1) := by decide +kernel
theorem dX10_feed_1 : decode cX10_feed 1 = .ok (.getfield 89, 3) := by decide +kernel
theorem dX10_feed_4 : decode cX10_feed 4 = .ok (.sipush 1480, 3) := by decide +kernel
theorem dX10_feed_7 : decode cX10_feed 7 = .ok (.if_icmp .le 5, 3) := by decide +kernel
theorem dX10_feed_10 : decode cX10_feed 10 = .ok (.iconst (-1), 1) := by decide +kernel
theorem dX10_feed_11 : decode cX10_feed 11 = .ok (.ireturn, 1) := by decide +kernel
theorem dX10_feed_12 : decode cX10_feed 12 = .ok (.aload_n 0, 1) := by decide +kernel
theorem dX10_feed_13 : decode cX10_feed 13 = .ok (.iload_n 1, 1) := by decide +kernel
theorem dX10_feed_14 : decode cX10_feed 14 = .ok (.invokevirtual 93, 3) := by decide +kernel
theorem dX10_feed_17 : decode cX10_feed 17 = .ok (.aload_n 0, 1) := by decide +kernel
theorem dX10_feed_18 : decode cX10_feed 18 = .ok (.iload_n 2, 1) := by decide +kernel
theorem dX10_feed_19 : decode cX10_feed 19 = .ok (.invokevirtual 93, 3) := by decide +kernel
theorem dX10_feed_22 : decode cX10_feed 22 = .ok (.aload_n 0, 1) := by decide +kernel
theorem dX10_feed_23 : decode cX10_feed 23 = .ok (.iload_n 3, 1) := by decide +kernel
theorem dX10_feed_24 : decode cX10_feed 24 = .ok (.invokevirtual 93, 3) := by decide +kernel
theorem dX10_feed_27 : decode cX10_feed 27 = .ok (.aload_n 0, 1) := by decide +kernel
theorem dX10_feed_28 : decode cX10_feed 28 = .ok (.iload 4, 2) := by decide +kernel
theorem dX10_feed_30 : decode cX10_feed 30 = .ok (.invokevirtual 93, 3) := by decide +kernel
theorem dX10_feed_33 : decode cX10_feed 33 = .ok (.aload_n 0, 1) := by decide +kernel
theorem dX10_feed_34 : decode cX10_feed 34 = .ok (.iload 5, 2) := by decide +kernel
theorem dX10_feed_36 : decode cX10_feed 36 = .ok (.invokevirtual 93, 3) := by decide +kernel
theorem dX10_feed_39 : decode cX10_feed 39 = .ok (.aload_n 0, 1) := by decide +kernel
theorem dX10_feed_40 : decode cX10_feed 40 = .ok (.getfield 89, 3) := by decide +kernel
theorem dX10_feed_43 : decode cX10_feed 43 = .ok (.ireturn, 1) := by decide +kernel
theorem dX10_tapeFour_0 : decode cX10_tapeFour 0 = .ok (.bipush 24, 2) := by decide +kernel
theorem dX10_tapeFour_2 : decode cX10_tapeFour 2 = .ok (.istore_n 2, 1) := by decide +kernel
theorem dX10_tapeFour_3 : decode cX10_tapeFour 3 = .ok (.iload_n 2, 1) := by decide +kernel
theorem dX10_tapeFour_4 : decode cX10_tapeFour 4 = .ok (.ifCond .lt 42, 3) := by decide +kernel
theorem dX10_tapeFour_7 : decode cX10_tapeFour 7 = .ok (.aload_n 0, 1) := by decide +kernel
theorem dX10_tapeFour_8 : decode cX10_tapeFour 8 = .ok (.getfield 89, 3) := by decide +kernel
theorem dX10_tapeFour_11 : decode cX10_tapeFour 11 = .ok (.sipush 1500, 3) := by decide +kernel
theorem dX10_tapeFour_14 : decode cX10_tapeFour 14 = .ok (.if_icmp .ge 32, 3) := by decide +kernel
theorem dX10_tapeFour_17 : decode cX10_tapeFour 17 = .ok (.aload_n 0, 1) := by decide +kernel
theorem dX10_tapeFour_18 : decode cX10_tapeFour 18 = .ok (.getfield 9, 3) := by decide +kernel
theorem dX10_tapeFour_21 : decode cX10_tapeFour 21 = .ok (.aload_n 0, 1) := by decide +kernel
theorem dX10_tapeFour_22 : decode cX10_tapeFour 22 = .ok (.getfield 89, 3) := by decide +kernel
theorem dX10_tapeFour_25 : decode cX10_tapeFour 25 = .ok (.iload_n 1, 1) := by decide +kernel
theorem dX10_tapeFour_26 : decode cX10_tapeFour 26 = .ok (.iload_n 2, 1) := by decide +kernel
theorem dX10_tapeFour_27 : decode cX10_tapeFour 27 = .ok (.ishr, 1) := by decide +kernel
theorem dX10_tapeFour_28 : decode cX10_tapeFour 28 = .ok (.i2b, 1) := by decide +kernel
theorem dX10_tapeFour_29 : decode cX10_tapeFour 29 = .ok (.bastore, 1) := by decide +kernel
theorem dX10_tapeFour_30 : decode cX10_tapeFour 30 = .ok (.aload_n 0, 1) := by decide +kernel
theorem dX10_tapeFour_31 : decode cX10_tapeFour 31 = .ok (.dup, 1) := by decide +kernel
theorem dX10_tapeFour_32 : decode cX10_tapeFour 32 = .ok (.getfield 89, 3) := by decide +kernel
theorem dX10_tapeFour_35 : decode cX10_tapeFour 35 = .ok (.iconst 1, 1) := by decide +kernel
theorem dX10_tapeFour_36 : decode cX10_tapeFour 36 = .ok (.iadd, 1) := by decide +kernel
theorem dX10_tapeFour_37 : decode cX10_tapeFour 37 = .ok (.putfield 89, 3) := by decide +kernel
theorem dX10_tapeFour_40 : decode cX10_tapeFour 40 = .ok (.iinc 2 (-8), 3) := by decide +kernel
theorem dX10_tapeFour_43 : decode cX10_tapeFour 43 = .ok (.goto (-40), 3) := by decide +kernel
theorem dX10_tapeFour_46 : decode cX10_tapeFour 46 = .ok (.return_, 1) := by decide +kernel
theorem dX10_end_0 : decode cX10_end 0 = .ok (.iload_n 1, 1) := by decide +kernel
theorem dX10_end_1 : decode cX10_end 1 = .ok (.iconst 0, 1) := by decide +kernel
theorem dX10_end_2 : decode cX10_end 2 = .ok (.aload_n 0, 1) := by decide +kernel
theorem dX10_end_3 : decode cX10_end 3 = .ok (.getfield 89, 3) := by decide +kernel
theorem dX10_end_6 : decode cX10_end 6 = .ok (.invokestatic 97, 3) := by decide +kernel
theorem dX10_end_9 : decode cX10_end 9 = .ok (.ifCond .ne 5, 3) := by decide +kernel
theorem dX10_end_12 : decode cX10_end 12 = .ok (.iconst (-1), 1) := by decide +kernel
theorem dX10_end_13 : decode cX10_end 13 = .ok (.ireturn, 1) := by decide +kernel
theorem dX10_end_14 : decode cX10_end 14 = .ok (.aload_n 0, 1) := by decide +kernel
theorem dX10_end_15 : decode cX10_end 15 = .ok (.iload_n 1, 1) := by decide +kernel
theorem dX10_end_16 : decode cX10_end 16 = .ok (.putfield 89, 3) := by decide +kernel
theorem dX10_end_19 : decode cX10_end 19 = .ok (.iload_n 1, 1) := by decide +kernel
theorem dX10_end_20 : decode cX10_end 20 = .ok (.ireturn, 1) := by decide +kernel
theorem dX10_valley_0 : decode cX10_valley 0 = .ok (.aload_n 0, 1) := by decide +kernel
theorem dX10_valley_1 : decode cX10_valley 1 = .ok (.getfield 18, 3) := by decide +kernel
theorem dX10_valley_4 : decode cX10_valley 4 = .ok (.aload_n 0, 1) := by decide +kernel
theorem dX10_valley_5 : decode cX10_valley 5 = .ok (.getfield 89, 3) := by decide +kernel
theorem dX10_valley_8 : decode cX10_valley 8 = .ok (.aload_n 0, 1) := by decide +kernel
theorem dX10_valley_9 : decode cX10_valley 9 = .ok (.getfield 29, 3) := by decide +kernel
theorem dX10_valley_12 : decode cX10_valley 12 = .ok (.invokevirtual 101, 3) := by decide +kernel
theorem dX10_valley_15 : decode cX10_valley 15 = .ok (.istore_n 1, 1) := by decide +kernel
theorem dX10_valley_16 : decode cX10_valley 16 = .ok (.aload_n 0, 1) := by decide +kernel
theorem dX10_valley_17 : decode cX10_valley 17 = .ok (.iconst 0, 1) := by decide +kernel
theorem dX10_valley_18 : decode cX10_valley 18 = .ok (.putfield 89, 3) := by decide +kernel
theorem dX10_valley_21 : decode cX10_valley 21 = .ok (.iload_n 1, 1) := by decide +kernel
theorem dX10_valley_22 : decode cX10_valley 22 = .ok (.ifCond .ne 5, 3) := by decide +kernel
theorem dX10_valley_25 : decode cX10_valley 25 = .ok (.iconst (-1), 1) := by decide +kernel
theorem dX10_valley_26 : decode cX10_valley 26 = .ok (.ireturn, 1) := by decide +kernel
theorem dX10_valley_27 : decode cX10_valley 27 = .ok (.aload_n 0, 1) := by decide +kernel
theorem dX10_valley_28 : decode cX10_valley 28 = .ok (.getfield 25, 3) := by decide +kernel
theorem dX10_valley_31 : decode cX10_valley 31 = .ok (.astore_n 2, 1) := by decide +kernel
theorem dX10_valley_32 : decode cX10_valley 32 = .ok (.aload_n 0, 1) := by decide +kernel
theorem dX10_valley_33 : decode cX10_valley 33 = .ok (.aload_n 0, 1) := by decide +kernel
theorem dX10_valley_34 : decode cX10_valley 34 = .ok (.getfield 29, 3) := by decide +kernel
theorem dX10_valley_37 : decode cX10_valley 37 = .ok (.putfield 25, 3) := by decide +kernel
theorem dX10_valley_40 : decode cX10_valley 40 = .ok (.aload_n 0, 1) := by decide +kernel
theorem dX10_valley_41 : decode cX10_valley 41 = .ok (.aload_n 2, 1) := by decide +kernel
theorem dX10_valley_42 : decode cX10_valley 42 = .ok (.putfield 29, 3) := by decide +kernel
theorem dX10_valley_45 : decode cX10_valley 45 = .ok (.aload_n 0, 1) := by decide +kernel
theorem dX10_valley_46 : decode cX10_valley 46 = .ok (.getfield 35, 3) := by decide +kernel
theorem dX10_valley_49 : decode cX10_valley 49 = .ok (.aload_n 0, 1) := by decide +kernel
theorem dX10_valley_50 : decode cX10_valley 50 = .ok (.getfield 25, 3) := by decide +kernel
theorem dX10_valley_53 : decode cX10_valley 53 = .ok (.invokevirtual 105, 3) := by decide +kernel
theorem dX10_valley_56 : decode cX10_valley 56 = .ok (.aload_n 0, 1) := by decide +kernel
theorem dX10_valley_57 : decode cX10_valley 57 = .ok (.getfield 46, 3) := by decide +kernel
theorem dX10_valley_60 : decode cX10_valley 60 = .ok (.iconst 0, 1) := by decide +kernel
theorem dX10_valley_61 : decode cX10_valley 61 = .ok (.putfield 109, 3) := by decide +kernel
theorem dX10_valley_64 : decode cX10_valley 64 = .ok (.aload_n 0, 1) := by decide +kernel
theorem dX10_valley_65 : decode cX10_valley 65 = .ok (.iconst 0, 1) := by decide +kernel
theorem dX10_valley_66 : decode cX10_valley 66 = .ok (.putfield 112, 3) := by decide +kernel
theorem dX10_valley_69 : decode cX10_valley 69 = .ok (.aload_n 0, 1) := by decide +kernel
theorem dX10_valley_70 : decode cX10_valley 70 = .ok (.iconst 0, 1) := by decide +kernel
theorem dX10_valley_71 : decode cX10_valley 71 = .ok (.putfield 115, 3) := by decide +kernel
theorem dX10_valley_74 : decode cX10_valley 74 = .ok (.aload_n 0, 1) := by decide +kernel
theorem dX10_valley_75 : decode cX10_valley 75 = .ok (.getfield 71, 3) := by decide +kernel
theorem dX10_valley_78 : decode cX10_valley 78 = .ok (.iconst 0, 1) := by decide +kernel
theorem dX10_valley_79 : decode cX10_valley 79 = .ok (.putfield 118, 3) := by decide +kernel
theorem dX10_valley_82 : decode cX10_valley 82 = .ok (.aload_n 0, 1) := by decide +kernel
theorem dX10_valley_83 : decode cX10_valley 83 = .ok (.getfield 25, 3) := by decide +kernel
theorem dX10_valley_86 : decode cX10_valley 86 = .ok (.getfield 122, 3) := by decide +kernel
theorem dX10_valley_89 : decode cX10_valley 89 = .ok (.ireturn, 1) := by decide +kernel
theorem dX10_fault_0 : decode cX10_fault 0 = .ok (.iload_n 1, 1) := by decide +kernel
theorem dX10_fault_1 : decode cX10_fault 1 = .ok (.lookupswitch 43 #[(0, 27), (1, 35)], 27) := by decide +kernel
theorem dX10_fault_28 : decode cX10_fault 28 = .ok (.aload_n 0, 1) := by decide +kernel
theorem dX10_fault_29 : decode cX10_fault 29 = .ok (.getfield 18, 3) := by decide +kernel
theorem dX10_fault_32 : decode cX10_fault 32 = .ok (.getfield 125, 3) := by decide +kernel
theorem dX10_fault_35 : decode cX10_fault 35 = .ok (.ireturn, 1) := by decide +kernel
theorem dX10_fault_36 : decode cX10_fault 36 = .ok (.aload_n 0, 1) := by decide +kernel
theorem dX10_fault_37 : decode cX10_fault 37 = .ok (.getfield 18, 3) := by decide +kernel
theorem dX10_fault_40 : decode cX10_fault 40 = .ok (.getfield 128, 3) := by decide +kernel
theorem dX10_fault_43 : decode cX10_fault 43 = .ok (.ireturn, 1) := by decide +kernel
theorem dX10_fault_44 : decode cX10_fault 44 = .ok (.iconst (-1), 1) := by decide +kernel
theorem dX10_fault_45 : decode cX10_fault 45 = .ok (.ireturn, 1) := by decide +kernel
theorem dX10_bell_0 : decode cX10_bell 0 = .ok (.aload_n 0, 1) := by decide +kernel
theorem dX10_bell_1 : decode cX10_bell 1 = .ok (.getfield 25, 3) := by decide +kernel
theorem dX10_bell_4 : decode cX10_bell 4 = .ok (.iload_n 1, 1) := by decide +kernel
theorem dX10_bell_5 : decode cX10_bell 5 = .ok (.invokevirtual 131, 3) := by decide +kernel
theorem dX10_bell_8 : decode cX10_bell 8 = .ok (.ifCond .ne 6, 3) := by decide +kernel
theorem dX10_bell_11 : decode cX10_bell 11 = .ok (.bipush (-2), 2) := by decide +kernel
theorem dX10_bell_13 : decode cX10_bell 13 = .ok (.ireturn, 1) := by decide +kernel
theorem dX10_bell_14 : decode cX10_bell 14 = .ok (.iload_n 2, 1) := by decide +kernel
theorem dX10_bell_15 : decode cX10_bell 15 = .ok (.tableswitch 104 0 5 #[37, 50, 60, 70, 80, 92], 37) := by decide +kernel
theorem dX10_bell_52 : decode cX10_bell 52 = .ok (.aload_n 0, 1) := by decide +kernel
theorem dX10_bell_53 : decode cX10_bell 53 = .ok (.getfield 35, 3) := by decide +kernel
theorem dX10_bell_56 : decode cX10_bell 56 = .ok (.aload_n 0, 1) := by decide +kernel
theorem dX10_bell_57 : decode cX10_bell 57 = .ok (.getfield 25, 3) := by decide +kernel
theorem dX10_bell_60 : decode cX10_bell 60 = .ok (.iload_n 1, 1) := by decide +kernel
theorem dX10_bell_61 : decode cX10_bell 61 = .ok (.invokevirtual 135, 3) := by decide +kernel
theorem dX10_bell_64 : decode cX10_bell 64 = .ok (.ireturn, 1) := by decide +kernel
theorem dX10_bell_65 : decode cX10_bell 65 = .ok (.aload_n 0, 1) := by decide +kernel
theorem dX10_bell_66 : decode cX10_bell 66 = .ok (.getfield 25, 3) := by decide +kernel
theorem dX10_bell_69 : decode cX10_bell 69 = .ok (.getfield 139, 3) := by decide +kernel
theorem dX10_bell_72 : decode cX10_bell 72 = .ok (.iload_n 1, 1) := by decide +kernel
theorem dX10_bell_73 : decode cX10_bell 73 = .ok (.iaload, 1) := by decide +kernel
theorem dX10_bell_74 : decode cX10_bell 74 = .ok (.ireturn, 1) := by decide +kernel
theorem dX10_bell_75 : decode cX10_bell 75 = .ok (.aload_n 0, 1) := by decide +kernel
theorem dX10_bell_76 : decode cX10_bell 76 = .ok (.getfield 25, 3) := by decide +kernel
theorem dX10_bell_79 : decode cX10_bell 79 = .ok (.getfield 142, 3) := by decide +kernel
theorem dX10_bell_82 : decode cX10_bell 82 = .ok (.iload_n 1, 1) := by decide +kernel
theorem dX10_bell_83 : decode cX10_bell 83 = .ok (.iaload, 1) := by decide +kernel
theorem dX10_bell_84 : decode cX10_bell 84 = .ok (.ireturn, 1) := by decide +kernel
theorem dX10_bell_85 : decode cX10_bell 85 = .ok (.aload_n 0, 1) := by decide +kernel
theorem dX10_bell_86 : decode cX10_bell 86 = .ok (.getfield 35, 3) := by decide +kernel
theorem dX10_bell_89 : decode cX10_bell 89 = .ok (.getfield 145, 3) := by decide +kernel
theorem dX10_bell_92 : decode cX10_bell 92 = .ok (.iload_n 1, 1) := by decide +kernel
theorem dX10_bell_93 : decode cX10_bell 93 = .ok (.iaload, 1) := by decide +kernel
theorem dX10_bell_94 : decode cX10_bell 94 = .ok (.ireturn, 1) := by decide +kernel
theorem dX10_bell_95 : decode cX10_bell 95 = .ok (.aload_n 0, 1) := by decide +kernel
theorem dX10_bell_96 : decode cX10_bell 96 = .ok (.getfield 35, 3) := by decide +kernel
theorem dX10_bell_99 : decode cX10_bell 99 = .ok (.getfield 147, 3) := by decide +kernel
theorem dX10_bell_102 : decode cX10_bell 102 = .ok (.iload_n 1, 1) := by decide +kernel
theorem dX10_bell_103 : decode cX10_bell 103 = .ok (.ishr, 1) := by decide +kernel
theorem dX10_bell_104 : decode cX10_bell 104 = .ok (.iconst 1, 1) := by decide +kernel
theorem dX10_bell_105 : decode cX10_bell 105 = .ok (.iand, 1) := by decide +kernel
theorem dX10_bell_106 : decode cX10_bell 106 = .ok (.ireturn, 1) := by decide +kernel
theorem dX10_bell_107 : decode cX10_bell 107 = .ok (.aload_n 0, 1) := by decide +kernel
theorem dX10_bell_108 : decode cX10_bell 108 = .ok (.getfield 35, 3) := by decide +kernel
theorem dX10_bell_111 : decode cX10_bell 111 = .ok (.getfield 150, 3) := by decide +kernel
theorem dX10_bell_114 : decode cX10_bell 114 = .ok (.iload_n 1, 1) := by decide +kernel
theorem dX10_bell_115 : decode cX10_bell 115 = .ok (.ishr, 1) := by decide +kernel
theorem dX10_bell_116 : decode cX10_bell 116 = .ok (.iconst 1, 1) := by decide +kernel
theorem dX10_bell_117 : decode cX10_bell 117 = .ok (.iand, 1) := by decide +kernel
theorem dX10_bell_118 : decode cX10_bell 118 = .ok (.ireturn, 1) := by decide +kernel
theorem dX10_bell_119 : decode cX10_bell 119 = .ok (.bipush (-2), 2) := by decide +kernel
theorem dX10_bell_121 : decode cX10_bell 121 = .ok (.ireturn, 1) := by decide +kernel
theorem dX10_hear_0 : decode cX10_hear 0 = .ok (.aload_n 0, 1) := by decide +kernel
theorem dX10_hear_1 : decode cX10_hear 1 = .ok (.getfield 25, 3) := by decide +kernel
theorem dX10_hear_4 : decode cX10_hear 4 = .ok (.iload_n 1, 1) := by decide +kernel
theorem dX10_hear_5 : decode cX10_hear 5 = .ok (.invokevirtual 153, 3) := by decide +kernel
theorem dX10_hear_8 : decode cX10_hear 8 = .ok (.ifCond .eq 13, 3) := by decide +kernel
theorem dX10_hear_11 : decode cX10_hear 11 = .ok (.iload_n 2, 1) := by decide +kernel
theorem dX10_hear_12 : decode cX10_hear 12 = .ok (.iconst 0, 1) := by decide +kernel
theorem dX10_hear_13 : decode cX10_hear 13 = .ok (.bipush 11, 2) := by decide +kernel
theorem dX10_hear_15 : decode cX10_hear 15 = .ok (.invokestatic 97, 3) := by decide +kernel
theorem dX10_hear_18 : decode cX10_hear 18 = .ok (.ifCond .ne 5, 3) := by decide +kernel
theorem dX10_hear_21 : decode cX10_hear 21 = .ok (.iconst (-1), 1) := by decide +kernel
theorem dX10_hear_22 : decode cX10_hear 22 = .ok (.ireturn, 1) := by decide +kernel
theorem dX10_hear_23 : decode cX10_hear 23 = .ok (.aload_n 0, 1) := by decide +kernel
theorem dX10_hear_24 : decode cX10_hear 24 = .ok (.getfield 35, 3) := by decide +kernel
theorem dX10_hear_27 : decode cX10_hear 27 = .ok (.aload_n 0, 1) := by decide +kernel
theorem dX10_hear_28 : decode cX10_hear 28 = .ok (.getfield 25, 3) := by decide +kernel
theorem dX10_hear_31 : decode cX10_hear 31 = .ok (.iload_n 1, 1) := by decide +kernel
theorem dX10_hear_32 : decode cX10_hear 32 = .ok (.iload_n 2, 1) := by decide +kernel
theorem dX10_hear_33 : decode cX10_hear 33 = .ok (.invokevirtual 156, 3) := by decide +kernel
theorem dX10_hear_36 : decode cX10_hear 36 = .ok (.ireturn, 1) := by decide +kernel
theorem dX10_chord_0 : decode cX10_chord 0 = .ok (.aload_n 0, 1) := by decide +kernel
theorem dX10_chord_1 : decode cX10_chord 1 = .ok (.getfield 25, 3) := by decide +kernel
theorem dX10_chord_4 : decode cX10_chord 4 = .ok (.iload_n 1, 1) := by decide +kernel
theorem dX10_chord_5 : decode cX10_chord 5 = .ok (.invokevirtual 153, 3) := by decide +kernel
theorem dX10_chord_8 : decode cX10_chord 8 = .ok (.ifCond .ne 5, 3) := by decide +kernel
theorem dX10_chord_11 : decode cX10_chord 11 = .ok (.iconst (-1), 1) := by decide +kernel
theorem dX10_chord_12 : decode cX10_chord 12 = .ok (.ireturn, 1) := by decide +kernel
theorem dX10_chord_13 : decode cX10_chord 13 = .ok (.iconst 0, 1) := by decide +kernel
theorem dX10_chord_14 : decode cX10_chord 14 = .ok (.istore_n 2, 1) := by decide +kernel
theorem dX10_chord_15 : decode cX10_chord 15 = .ok (.iconst 0, 1) := by decide +kernel
theorem dX10_chord_16 : decode cX10_chord 16 = .ok (.istore_n 3, 1) := by decide +kernel
theorem dX10_chord_17 : decode cX10_chord 17 = .ok (.iload_n 3, 1) := by decide +kernel
theorem dX10_chord_18 : decode cX10_chord 18 = .ok (.bipush 12, 2) := by decide +kernel
theorem dX10_chord_20 : decode cX10_chord 20 = .ok (.if_icmp .ge 31, 3) := by decide +kernel
theorem dX10_chord_23 : decode cX10_chord 23 = .ok (.aload_n 0, 1) := by decide +kernel
theorem dX10_chord_24 : decode cX10_chord 24 = .ok (.getfield 35, 3) := by decide +kernel
theorem dX10_chord_27 : decode cX10_chord 27 = .ok (.aload_n 0, 1) := by decide +kernel
theorem dX10_chord_28 : decode cX10_chord 28 = .ok (.getfield 25, 3) := by decide +kernel
theorem dX10_chord_31 : decode cX10_chord 31 = .ok (.iload_n 1, 1) := by decide +kernel
theorem dX10_chord_32 : decode cX10_chord 32 = .ok (.iload_n 3, 1) := by decide +kernel
theorem dX10_chord_33 : decode cX10_chord 33 = .ok (.invokevirtual 156, 3) := by decide +kernel
theorem dX10_chord_36 : decode cX10_chord 36 = .ok (.ifCond .le 9, 3) := by decide +kernel
theorem dX10_chord_39 : decode cX10_chord 39 = .ok (.iload_n 2, 1) := by decide +kernel
theorem dX10_chord_40 : decode cX10_chord 40 = .ok (.iconst 1, 1) := by decide +kernel
theorem dX10_chord_41 : decode cX10_chord 41 = .ok (.iload_n 3, 1) := by decide +kernel
theorem dX10_chord_42 : decode cX10_chord 42 = .ok (.ishl, 1) := by decide +kernel
theorem dX10_chord_43 : decode cX10_chord 43 = .ok (.ior, 1) := by decide +kernel
theorem dX10_chord_44 : decode cX10_chord 44 = .ok (.istore_n 2, 1) := by decide +kernel
theorem dX10_chord_45 : decode cX10_chord 45 = .ok (.iinc 3 1, 3) := by decide +kernel
theorem dX10_chord_48 : decode cX10_chord 48 = .ok (.goto (-31), 3) := by decide +kernel
theorem dX10_chord_51 : decode cX10_chord 51 = .ok (.iload_n 2, 1) := by decide +kernel
theorem dX10_chord_52 : decode cX10_chord 52 = .ok (.ireturn, 1) := by decide +kernel
theorem dX10_comes_0 : decode cX10_comes 0 = .ok (.aload_n 0, 1) := by decide +kernel
theorem dX10_comes_1 : decode cX10_comes 1 = .ok (.getfield 25, 3) := by decide +kernel
theorem dX10_comes_4 : decode cX10_comes 4 = .ok (.iload_n 1, 1) := by decide +kernel
theorem dX10_comes_5 : decode cX10_comes 5 = .ok (.invokevirtual 131, 3) := by decide +kernel
theorem dX10_comes_8 : decode cX10_comes 8 = .ok (.ifCond .eq 15, 3) := by decide +kernel
theorem dX10_comes_11 : decode cX10_comes 11 = .ok (.aload_n 0, 1) := by decide +kernel
theorem dX10_comes_12 : decode cX10_comes 12 = .ok (.getfield 35, 3) := by decide +kernel
theorem dX10_comes_15 : decode cX10_comes 15 = .ok (.iload_n 1, 1) := by decide +kernel
theorem dX10_comes_16 : decode cX10_comes 16 = .ok (.invokevirtual 160, 3) := by decide +kernel
theorem dX10_comes_19 : decode cX10_comes 19 = .ok (.iload_n 2, 1) := by decide +kernel
theorem dX10_comes_20 : decode cX10_comes 20 = .ok (.if_icmp .ne 5, 3) := by decide +kernel
theorem dX10_comes_23 : decode cX10_comes 23 = .ok (.iconst 0, 1) := by decide +kernel
theorem dX10_comes_24 : decode cX10_comes 24 = .ok (.ireturn, 1) := by decide +kernel
theorem dX10_comes_25 : decode cX10_comes 25 = .ok (.aload_n 0, 1) := by decide +kernel
theorem dX10_comes_26 : decode cX10_comes 26 = .ok (.getfield 35, 3) := by decide +kernel
theorem dX10_comes_29 : decode cX10_comes 29 = .ok (.dup, 1) := by decide +kernel
theorem dX10_comes_30 : decode cX10_comes 30 = .ok (.getfield 147, 3) := by decide +kernel
theorem dX10_comes_33 : decode cX10_comes 33 = .ok (.iconst 1, 1) := by decide +kernel
theorem dX10_comes_34 : decode cX10_comes 34 = .ok (.iload_n 1, 1) := by decide +kernel
theorem dX10_comes_35 : decode cX10_comes 35 = .ok (.ishl, 1) := by decide +kernel
theorem dX10_comes_36 : decode cX10_comes 36 = .ok (.ixor, 1) := by decide +kernel
theorem dX10_comes_37 : decode cX10_comes 37 = .ok (.putfield 147, 3) := by decide +kernel
theorem dX10_comes_40 : decode cX10_comes 40 = .ok (.aload_n 0, 1) := by decide +kernel
theorem dX10_comes_41 : decode cX10_comes 41 = .ok (.getfield 35, 3) := by decide +kernel
theorem dX10_comes_44 : decode cX10_comes 44 = .ok (.dup, 1) := by decide +kernel
theorem dX10_comes_45 : decode cX10_comes 45 = .ok (.getfield 150, 3) := by decide +kernel
theorem dX10_comes_48 : decode cX10_comes 48 = .ok (.aload_n 0, 1) := by decide +kernel
theorem dX10_comes_49 : decode cX10_comes 49 = .ok (.getfield 35, 3) := by decide +kernel
theorem dX10_comes_52 : decode cX10_comes 52 = .ok (.getfield 147, 3) := by decide +kernel
theorem dX10_comes_55 : decode cX10_comes 55 = .ok (.iand, 1) := by decide +kernel
theorem dX10_comes_56 : decode cX10_comes 56 = .ok (.putfield 150, 3) := by decide +kernel
theorem dX10_comes_59 : decode cX10_comes 59 = .ok (.iconst 1, 1) := by decide +kernel
theorem dX10_comes_60 : decode cX10_comes 60 = .ok (.ireturn, 1) := by decide +kernel
theorem dX10_stand_0 : decode cX10_stand 0 = .ok (.aload_n 0, 1) := by decide +kernel
theorem dX10_stand_1 : decode cX10_stand 1 = .ok (.getfield 25, 3) := by decide +kernel
theorem dX10_stand_4 : decode cX10_stand 4 = .ok (.iload_n 1, 1) := by decide +kernel
theorem dX10_stand_5 : decode cX10_stand 5 = .ok (.invokevirtual 131, 3) := by decide +kernel
theorem dX10_stand_8 : decode cX10_stand 8 = .ok (.ifCond .eq 26, 3) := by decide +kernel
theorem dX10_stand_11 : decode cX10_stand 11 = .ok (.aload_n 0, 1) := by decide +kernel
theorem dX10_stand_12 : decode cX10_stand 12 = .ok (.getfield 35, 3) := by decide +kernel
theorem dX10_stand_15 : decode cX10_stand 15 = .ok (.iload_n 1, 1) := by decide +kernel
theorem dX10_stand_16 : decode cX10_stand 16 = .ok (.invokevirtual 160, 3) := by decide +kernel
theorem dX10_stand_19 : decode cX10_stand 19 = .ok (.ifCond .eq 15, 3) := by decide +kernel
theorem dX10_stand_22 : decode cX10_stand 22 = .ok (.aload_n 0, 1) := by decide +kernel
theorem dX10_stand_23 : decode cX10_stand 23 = .ok (.getfield 35, 3) := by decide +kernel
theorem dX10_stand_26 : decode cX10_stand 26 = .ok (.iload_n 1, 1) := by decide +kernel
theorem dX10_stand_27 : decode cX10_stand 27 = .ok (.invokevirtual 163, 3) := by decide +kernel
theorem dX10_stand_30 : decode cX10_stand 30 = .ok (.iload_n 2, 1) := by decide +kernel
theorem dX10_stand_31 : decode cX10_stand 31 = .ok (.if_icmp .ne 5, 3) := by decide +kernel
theorem dX10_stand_34 : decode cX10_stand 34 = .ok (.iconst 0, 1) := by decide +kernel
theorem dX10_stand_35 : decode cX10_stand 35 = .ok (.ireturn, 1) := by decide +kernel
theorem dX10_stand_36 : decode cX10_stand 36 = .ok (.aload_n 0, 1) := by decide +kernel
theorem dX10_stand_37 : decode cX10_stand 37 = .ok (.getfield 35, 3) := by decide +kernel
theorem dX10_stand_40 : decode cX10_stand 40 = .ok (.dup, 1) := by decide +kernel
theorem dX10_stand_41 : decode cX10_stand 41 = .ok (.getfield 150, 3) := by decide +kernel
theorem dX10_stand_44 : decode cX10_stand 44 = .ok (.iconst 1, 1) := by decide +kernel
theorem dX10_stand_45 : decode cX10_stand 45 = .ok (.iload_n 1, 1) := by decide +kernel
theorem dX10_stand_46 : decode cX10_stand 46 = .ok (.ishl, 1) := by decide +kernel
theorem dX10_stand_47 : decode cX10_stand 47 = .ok (.ixor, 1) := by decide +kernel
theorem dX10_stand_48 : decode cX10_stand 48 = .ok (.putfield 150, 3) := by decide +kernel
theorem dX10_stand_51 : decode cX10_stand 51 = .ok (.iconst 1, 1) := by decide +kernel
theorem dX10_stand_52 : decode cX10_stand 52 = .ok (.ireturn, 1) := by decide +kernel
theorem dX10_walk_0 : decode cX10_walk 0 = .ok (.iload_n 1, 1) := by decide +kernel
theorem dX10_walk_1 : decode cX10_walk 1 = .ok (.invokestatic 166, 3) := by decide +kernel
theorem dX10_walk_4 : decode cX10_walk 4 = .ok (.ifCond .eq 10, 3) := by decide +kernel
theorem dX10_walk_7 : decode cX10_walk 7 = .ok (.iload_n 2, 1) := by decide +kernel
theorem dX10_walk_8 : decode cX10_walk 8 = .ok (.invokestatic 169, 3) := by decide +kernel
theorem dX10_walk_11 : decode cX10_walk 11 = .ok (.ifCond .ne 5, 3) := by decide +kernel
theorem dX10_walk_14 : decode cX10_walk 14 = .ok (.iconst (-1), 1) := by decide +kernel
theorem dX10_walk_15 : decode cX10_walk 15 = .ok (.ireturn, 1) := by decide +kernel
theorem dX10_walk_16 : decode cX10_walk 16 = .ok (.aload_n 0, 1) := by decide +kernel
theorem dX10_walk_17 : decode cX10_walk 17 = .ok (.getfield 35, 3) := by decide +kernel
theorem dX10_walk_20 : decode cX10_walk 20 = .ok (.getfield 172, 3) := by decide +kernel
theorem dX10_walk_23 : decode cX10_walk 23 = .ok (.istore_n 3, 1) := by decide +kernel
theorem dX10_walk_24 : decode cX10_walk 24 = .ok (.aload_n 0, 1) := by decide +kernel
theorem dX10_walk_25 : decode cX10_walk 25 = .ok (.getfield 35, 3) := by decide +kernel
theorem dX10_walk_28 : decode cX10_walk 28 = .ok (.iload_n 1, 1) := by decide +kernel
theorem dX10_walk_29 : decode cX10_walk 29 = .ok (.putfield 172, 3) := by decide +kernel
theorem dX10_walk_32 : decode cX10_walk 32 = .ok (.aload_n 0, 1) := by decide +kernel
theorem dX10_walk_33 : decode cX10_walk 33 = .ok (.getfield 35, 3) := by decide +kernel
theorem dX10_walk_36 : decode cX10_walk 36 = .ok (.iload_n 2, 1) := by decide +kernel
theorem dX10_walk_37 : decode cX10_walk 37 = .ok (.putfield 175, 3) := by decide +kernel
theorem dX10_walk_40 : decode cX10_walk 40 = .ok (.iload_n 3, 1) := by decide +kernel
theorem dX10_walk_41 : decode cX10_walk 41 = .ok (.ireturn, 1) := by decide +kernel
theorem dX10_crack_0 : decode cX10_crack 0 = .ok (.aload_n 0, 1) := by decide +kernel
theorem dX10_crack_1 : decode cX10_crack 1 = .ok (.getfield 25, 3) := by decide +kernel
theorem dX10_crack_4 : decode cX10_crack 4 = .ok (.iload_n 1, 1) := by decide +kernel
theorem dX10_crack_5 : decode cX10_crack 5 = .ok (.invokevirtual 131, 3) := by decide +kernel
theorem dX10_crack_8 : decode cX10_crack 8 = .ok (.ifCond .eq 12, 3) := by decide +kernel
theorem dX10_crack_11 : decode cX10_crack 11 = .ok (.iload_n 2, 1) := by decide +kernel
theorem dX10_crack_12 : decode cX10_crack 12 = .ok (.iconst 0, 1) := by decide +kernel
theorem dX10_crack_13 : decode cX10_crack 13 = .ok (.iconst 2, 1) := by decide +kernel
theorem dX10_crack_14 : decode cX10_crack 14 = .ok (.invokestatic 97, 3) := by decide +kernel
theorem dX10_crack_17 : decode cX10_crack 17 = .ok (.ifCond .ne 5, 3) := by decide +kernel
theorem dX10_crack_20 : decode cX10_crack 20 = .ok (.iconst (-1), 1) := by decide +kernel
theorem dX10_crack_21 : decode cX10_crack 21 = .ok (.ireturn, 1) := by decide +kernel
theorem dX10_crack_22 : decode cX10_crack 22 = .ok (.aload_n 0, 1) := by decide +kernel
theorem dX10_crack_23 : decode cX10_crack 23 = .ok (.getfield 35, 3) := by decide +kernel
theorem dX10_crack_26 : decode cX10_crack 26 = .ok (.getfield 145, 3) := by decide +kernel
theorem dX10_crack_29 : decode cX10_crack 29 = .ok (.iload_n 1, 1) := by decide +kernel
theorem dX10_crack_30 : decode cX10_crack 30 = .ok (.iaload, 1) := by decide +kernel
theorem dX10_crack_31 : decode cX10_crack 31 = .ok (.istore_n 3, 1) := by decide +kernel
theorem dX10_crack_32 : decode cX10_crack 32 = .ok (.aload_n 0, 1) := by decide +kernel
theorem dX10_crack_33 : decode cX10_crack 33 = .ok (.getfield 35, 3) := by decide +kernel
theorem dX10_crack_36 : decode cX10_crack 36 = .ok (.getfield 145, 3) := by decide +kernel
theorem dX10_crack_39 : decode cX10_crack 39 = .ok (.iload_n 1, 1) := by decide +kernel
theorem dX10_crack_40 : decode cX10_crack 40 = .ok (.iload_n 2, 1) := by decide +kernel
theorem dX10_crack_41 : decode cX10_crack 41 = .ok (.iastore, 1) := by decide +kernel
theorem dX10_crack_42 : decode cX10_crack 42 = .ok (.iload_n 3, 1) := by decide +kernel
theorem dX10_crack_43 : decode cX10_crack 43 = .ok (.ireturn, 1) := by decide +kernel
theorem dX10_years_0 : decode cX10_years 0 = .ok (.iload_n 1, 1) := by decide +kernel
theorem dX10_years_1 : decode cX10_years 1 = .ok (.iconst 0, 1) := by decide +kernel
theorem dX10_years_2 : decode cX10_years 2 = .ok (.bipush 20, 2) := by decide +kernel
theorem dX10_years_4 : decode cX10_years 4 = .ok (.invokestatic 97, 3) := by decide +kernel
theorem dX10_years_7 : decode cX10_years 7 = .ok (.ifCond .eq 18, 3) := by decide +kernel
theorem dX10_years_10 : decode cX10_years 10 = .ok (.aload_n 0, 1) := by decide +kernel
theorem dX10_years_11 : decode cX10_years 11 = .ok (.getfield 35, 3) := by decide +kernel
theorem dX10_years_14 : decode cX10_years 14 = .ok (.getfield 178, 3) := by decide +kernel
theorem dX10_years_17 : decode cX10_years 17 = .ok (.iload_n 1, 1) := by decide +kernel
theorem dX10_years_18 : decode cX10_years 18 = .ok (.iadd, 1) := by decide +kernel
theorem dX10_years_19 : decode cX10_years 19 = .ok (.sipush 200, 3) := by decide +kernel
theorem dX10_years_22 : decode cX10_years 22 = .ok (.if_icmp .le 5, 3) := by decide +kernel
theorem dX10_years_25 : decode cX10_years 25 = .ok (.iconst (-1), 1) := by decide +kernel
theorem dX10_years_26 : decode cX10_years 26 = .ok (.ireturn, 1) := by decide +kernel
theorem dX10_years_27 : decode cX10_years 27 = .ok (.aload_n 0, 1) := by decide +kernel
theorem dX10_years_28 : decode cX10_years 28 = .ok (.getfield 35, 3) := by decide +kernel
theorem dX10_years_31 : decode cX10_years 31 = .ok (.dup, 1) := by decide +kernel
theorem dX10_years_32 : decode cX10_years 32 = .ok (.getfield 178, 3) := by decide +kernel
theorem dX10_years_35 : decode cX10_years 35 = .ok (.iload_n 1, 1) := by decide +kernel
theorem dX10_years_36 : decode cX10_years 36 = .ok (.iadd, 1) := by decide +kernel
theorem dX10_years_37 : decode cX10_years 37 = .ok (.putfield 178, 3) := by decide +kernel
theorem dX10_years_40 : decode cX10_years 40 = .ok (.aload_n 0, 1) := by decide +kernel
theorem dX10_years_41 : decode cX10_years 41 = .ok (.getfield 35, 3) := by decide +kernel
theorem dX10_years_44 : decode cX10_years 44 = .ok (.getfield 178, 3) := by decide +kernel
theorem dX10_years_47 : decode cX10_years 47 = .ok (.ireturn, 1) := by decide +kernel
theorem dX10_sound_0 : decode cX10_sound 0 = .ok (.iload_n 1, 1) := by decide +kernel
theorem dX10_sound_1 : decode cX10_sound 1 = .ok (.invokestatic 181, 3) := by decide +kernel
theorem dX10_sound_4 : decode cX10_sound 4 = .ok (.ifCond .eq 24, 3) := by decide +kernel
theorem dX10_sound_7 : decode cX10_sound 7 = .ok (.aload_n 0, 1) := by decide +kernel
theorem dX10_sound_8 : decode cX10_sound 8 = .ok (.getfield 25, 3) := by decide +kernel
theorem dX10_sound_11 : decode cX10_sound 11 = .ok (.iload_n 2, 1) := by decide +kernel
theorem dX10_sound_12 : decode cX10_sound 12 = .ok (.invokevirtual 153, 3) := by decide +kernel
theorem dX10_sound_15 : decode cX10_sound 15 = .ok (.ifCond .eq 13, 3) := by decide +kernel
theorem dX10_sound_18 : decode cX10_sound 18 = .ok (.iload_n 3, 1) := by decide +kernel
theorem dX10_sound_19 : decode cX10_sound 19 = .ok (.iconst 0, 1) := by decide +kernel
theorem dX10_sound_20 : decode cX10_sound 20 = .ok (.bipush 11, 2) := by decide +kernel
theorem dX10_sound_22 : decode cX10_sound 22 = .ok (.invokestatic 97, 3) := by decide +kernel
theorem dX10_sound_25 : decode cX10_sound 25 = .ok (.ifCond .ne 5, 3) := by decide +kernel
theorem dX10_sound_28 : decode cX10_sound 28 = .ok (.iconst (-1), 1) := by decide +kernel
theorem dX10_sound_29 : decode cX10_sound 29 = .ok (.ireturn, 1) := by decide +kernel
theorem dX10_sound_30 : decode cX10_sound 30 = .ok (.iload 4, 2) := by decide +kernel
theorem dX10_sound_32 : decode cX10_sound 32 = .ok (.iconst 0, 1) := by decide +kernel
theorem dX10_sound_33 : decode cX10_sound 33 = .ok (.sipush 999, 3) := by decide +kernel
theorem dX10_sound_36 : decode cX10_sound 36 = .ok (.invokestatic 97, 3) := by decide +kernel
theorem dX10_sound_39 : decode cX10_sound 39 = .ok (.ifCond .eq 16, 3) := by decide +kernel
theorem dX10_sound_42 : decode cX10_sound 42 = .ok (.iload 5, 2) := by decide +kernel
theorem dX10_sound_44 : decode cX10_sound 44 = .ok (.iload 4, 2) := by decide +kernel
theorem dX10_sound_46 : decode cX10_sound 46 = .ok (.sipush 999, 3) := by decide +kernel
theorem dX10_sound_49 : decode cX10_sound 49 = .ok (.invokestatic 97, 3) := by decide +kernel
theorem dX10_sound_52 : decode cX10_sound 52 = .ok (.ifCond .ne 5, 3) := by decide +kernel
theorem dX10_sound_55 : decode cX10_sound 55 = .ok (.iconst (-1), 1) := by decide +kernel
theorem dX10_sound_56 : decode cX10_sound 56 = .ok (.ireturn, 1) := by decide +kernel
theorem dX10_sound_57 : decode cX10_sound 57 = .ok (.aload_n 0, 1) := by decide +kernel
theorem dX10_sound_58 : decode cX10_sound 58 = .ok (.getfield 46, 3) := by decide +kernel
theorem dX10_sound_61 : decode cX10_sound 61 = .ok (.iload_n 1, 1) := by decide +kernel
theorem dX10_sound_62 : decode cX10_sound 62 = .ok (.iload_n 2, 1) := by decide +kernel
theorem dX10_sound_63 : decode cX10_sound 63 = .ok (.iload_n 3, 1) := by decide +kernel
theorem dX10_sound_64 : decode cX10_sound 64 = .ok (.iload 4, 2) := by decide +kernel
theorem dX10_sound_66 : decode cX10_sound 66 = .ok (.iload 5, 2) := by decide +kernel
theorem dX10_sound_68 : decode cX10_sound 68 = .ok (.aload_n 0, 1) := by decide +kernel
theorem dX10_sound_69 : decode cX10_sound 69 = .ok (.getfield 184, 3) := by decide +kernel
theorem dX10_sound_72 : decode cX10_sound 72 = .ok (.invokevirtual 187, 3) := by decide +kernel
theorem dX10_sound_75 : decode cX10_sound 75 = .ok (.ireturn, 1) := by decide +kernel
theorem dX10_evening_0 : decode cX10_evening 0 = .ok (.iload_n 1, 1) := by decide +kernel
theorem dX10_evening_1 : decode cX10_evening 1 = .ok (.iconst 0, 1) := by decide +kernel
theorem dX10_evening_2 : decode cX10_evening 2 = .ok (.bipush 20, 2) := by decide +kernel
theorem dX10_evening_4 : decode cX10_evening 4 = .ok (.invokestatic 97, 3) := by decide +kernel
theorem dX10_evening_7 : decode cX10_evening 7 = .ok (.ifCond .eq 14, 3) := by decide +kernel
theorem dX10_evening_10 : decode cX10_evening 10 = .ok (.iload_n 2, 1) := by decide +kernel
theorem dX10_evening_11 : decode cX10_evening 11 = .ok (.iconst 0, 1) := by decide +kernel
theorem dX10_evening_12 : decode cX10_evening 12 = .ok (.sipush 4095, 3) := by decide +kernel
theorem dX10_evening_15 : decode cX10_evening 15 = .ok (.invokestatic 97, 3) := by decide +kernel
theorem dX10_evening_18 : decode cX10_evening 18 = .ok (.ifCond .ne 5, 3) := by decide +kernel
theorem dX10_evening_21 : decode cX10_evening 21 = .ok (.iconst (-1), 1) := by decide +kernel
theorem dX10_evening_22 : decode cX10_evening 22 = .ok (.ireturn, 1) := by decide +kernel
theorem dX10_evening_23 : decode cX10_evening 23 = .ok (.aload_n 0, 1) := by decide +kernel
theorem dX10_evening_24 : decode cX10_evening 24 = .ok (.getfield 46, 3) := by decide +kernel
theorem dX10_evening_27 : decode cX10_evening 27 = .ok (.iload_n 1, 1) := by decide +kernel
theorem dX10_evening_28 : decode cX10_evening 28 = .ok (.iconst (-1), 1) := by decide +kernel
theorem dX10_evening_29 : decode cX10_evening 29 = .ok (.iload_n 2, 1) := by decide +kernel
theorem dX10_evening_30 : decode cX10_evening 30 = .ok (.iconst 0, 1) := by decide +kernel
theorem dX10_evening_31 : decode cX10_evening 31 = .ok (.iconst 0, 1) := by decide +kernel
theorem dX10_evening_32 : decode cX10_evening 32 = .ok (.aload_n 0, 1) := by decide +kernel
theorem dX10_evening_33 : decode cX10_evening 33 = .ok (.getfield 184, 3) := by decide +kernel
theorem dX10_evening_36 : decode cX10_evening 36 = .ok (.invokevirtual 187, 3) := by decide +kernel
theorem dX10_evening_39 : decode cX10_evening 39 = .ok (.ireturn, 1) := by decide +kernel
theorem dX10_note_0 : decode cX10_note 0 = .ok (.aload_n 0, 1) := by decide +kernel
theorem dX10_note_1 : decode cX10_note 1 = .ok (.iload_n 2, 1) := by decide +kernel
theorem dX10_note_2 : decode cX10_note 2 = .ok (.iload_n 3, 1) := by decide +kernel
theorem dX10_note_3 : decode cX10_note 3 = .ok (.invokevirtual 191, 3) := by decide +kernel
theorem dX10_note_6 : decode cX10_note 6 = .ok (.istore 5, 2) := by decide +kernel
theorem dX10_note_8 : decode cX10_note 8 = .ok (.iload 5, 2) := by decide +kernel
theorem dX10_note_10 : decode cX10_note 10 = .ok (.iconst (-1), 1) := by decide +kernel
theorem dX10_note_11 : decode cX10_note 11 = .ok (.if_icmp .eq 14, 3) := by decide +kernel
theorem dX10_note_14 : decode cX10_note 14 = .ok (.iload 4, 2) := by decide +kernel
theorem dX10_note_16 : decode cX10_note 16 = .ok (.iconst 0, 1) := by decide +kernel
theorem dX10_note_17 : decode cX10_note 17 = .ok (.bipush 99, 2) := by decide +kernel
theorem dX10_note_19 : decode cX10_note 19 = .ok (.invokestatic 97, 3) := by decide +kernel
theorem dX10_note_22 : decode cX10_note 22 = .ok (.ifCond .ne 5, 3) := by decide +kernel
theorem dX10_note_25 : decode cX10_note 25 = .ok (.iconst (-1), 1) := by decide +kernel
theorem dX10_note_26 : decode cX10_note 26 = .ok (.ireturn, 1) := by decide +kernel
theorem dX10_note_27 : decode cX10_note 27 = .ok (.aload_n 0, 1) := by decide +kernel
theorem dX10_note_28 : decode cX10_note 28 = .ok (.iload_n 1, 1) := by decide +kernel
theorem dX10_note_29 : decode cX10_note 29 = .ok (.iload_n 2, 1) := by decide +kernel
theorem dX10_note_30 : decode cX10_note 30 = .ok (.iload_n 3, 1) := by decide +kernel
theorem dX10_note_31 : decode cX10_note 31 = .ok (.iconst 0, 1) := by decide +kernel
theorem dX10_note_32 : decode cX10_note 32 = .ok (.iload 5, 2) := by decide +kernel
theorem dX10_note_34 : decode cX10_note 34 = .ok (.iload 4, 2) := by decide +kernel
theorem dX10_note_36 : decode cX10_note 36 = .ok (.isub, 1) := by decide +kernel
theorem dX10_note_37 : decode cX10_note 37 = .ok (.invokestatic 195, 3) := by decide +kernel
theorem dX10_note_40 : decode cX10_note 40 = .ok (.iload 5, 2) := by decide +kernel
theorem dX10_note_42 : decode cX10_note 42 = .ok (.iload 4, 2) := by decide +kernel
theorem dX10_note_44 : decode cX10_note 44 = .ok (.iadd, 1) := by decide +kernel
theorem dX10_note_45 : decode cX10_note 45 = .ok (.invokevirtual 200, 3) := by decide +kernel
theorem dX10_note_48 : decode cX10_note 48 = .ok (.ireturn, 1) := by decide +kernel
theorem dX10_untell_0 : decode cX10_untell 0 = .ok (.iload_n 1, 1) := by decide +kernel
theorem dX10_untell_1 : decode cX10_untell 1 = .ok (.iconst 0, 1) := by decide +kernel
theorem dX10_untell_2 : decode cX10_untell 2 = .ok (.aload_n 0, 1) := by decide +kernel
theorem dX10_untell_3 : decode cX10_untell 3 = .ok (.getfield 46, 3) := by decide +kernel
theorem dX10_untell_6 : decode cX10_untell 6 = .ok (.getfield 109, 3) := by decide +kernel
theorem dX10_untell_9 : decode cX10_untell 9 = .ok (.iconst 1, 1) := by decide +kernel
theorem dX10_untell_10 : decode cX10_untell 10 = .ok (.isub, 1) := by decide +kernel
theorem dX10_untell_11 : decode cX10_untell 11 = .ok (.invokestatic 97, 3) := by decide +kernel
theorem dX10_untell_14 : decode cX10_untell 14 = .ok (.ifCond .eq 16, 3) := by decide +kernel
theorem dX10_untell_17 : decode cX10_untell 17 = .ok (.aload_n 0, 1) := by decide +kernel
theorem dX10_untell_18 : decode cX10_untell 18 = .ok (.getfield 46, 3) := by decide +kernel
theorem dX10_untell_21 : decode cX10_untell 21 = .ok (.getfield 204, 3) := by decide +kernel
theorem dX10_untell_24 : decode cX10_untell 24 = .ok (.iload_n 1, 1) := by decide +kernel
theorem dX10_untell_25 : decode cX10_untell 25 = .ok (.iaload, 1) := by decide +kernel
theorem dX10_untell_26 : decode cX10_untell 26 = .ok (.iconst (-1), 1) := by decide +kernel
theorem dX10_untell_27 : decode cX10_untell 27 = .ok (.if_icmp .eq 5, 3) := by decide +kernel
theorem dX10_untell_30 : decode cX10_untell 30 = .ok (.iconst 0, 1) := by decide +kernel
theorem dX10_untell_31 : decode cX10_untell 31 = .ok (.ireturn, 1) := by decide +kernel
theorem dX10_untell_32 : decode cX10_untell 32 = .ok (.aload_n 0, 1) := by decide +kernel
theorem dX10_untell_33 : decode cX10_untell 33 = .ok (.getfield 46, 3) := by decide +kernel
theorem dX10_untell_36 : decode cX10_untell 36 = .ok (.getfield 204, 3) := by decide +kernel
theorem dX10_untell_39 : decode cX10_untell 39 = .ok (.iload_n 1, 1) := by decide +kernel
theorem dX10_untell_40 : decode cX10_untell 40 = .ok (.aload_n 0, 1) := by decide +kernel
theorem dX10_untell_41 : decode cX10_untell 41 = .ok (.getfield 184, 3) := by decide +kernel
theorem dX10_untell_44 : decode cX10_untell 44 = .ok (.iastore, 1) := by decide +kernel
theorem dX10_untell_45 : decode cX10_untell 45 = .ok (.iconst 1, 1) := by decide +kernel
theorem dX10_untell_46 : decode cX10_untell 46 = .ok (.ireturn, 1) := by decide +kernel
theorem dX10_later_0 : decode cX10_later 0 = .ok (.iload_n 1, 1) := by decide +kernel
theorem dX10_later_1 : decode cX10_later 1 = .ok (.iconst 0, 1) := by decide +kernel
theorem dX10_later_2 : decode cX10_later 2 = .ok (.sipush 1000, 3) := by decide +kernel
theorem dX10_later_5 : decode cX10_later 5 = .ok (.invokestatic 97, 3) := by decide +kernel
theorem dX10_later_8 : decode cX10_later 8 = .ok (.ifCond .eq 14, 3) := by decide +kernel
theorem dX10_later_11 : decode cX10_later 11 = .ok (.aload_n 0, 1) := by decide +kernel
theorem dX10_later_12 : decode cX10_later 12 = .ok (.getfield 184, 3) := by decide +kernel
theorem dX10_later_15 : decode cX10_later 15 = .ok (.iload_n 1, 1) := by decide +kernel
theorem dX10_later_16 : decode cX10_later 16 = .ok (.iadd, 1) := by decide +kernel
theorem dX10_later_17 : decode cX10_later 17 = .ok (.ldc 207, 2) := by decide +kernel
theorem dX10_later_19 : decode cX10_later 19 = .ok (.if_icmp .le 5, 3) := by decide +kernel
theorem dX10_later_22 : decode cX10_later 22 = .ok (.iconst (-1), 1) := by decide +kernel
theorem dX10_later_23 : decode cX10_later 23 = .ok (.ireturn, 1) := by decide +kernel
theorem dX10_later_24 : decode cX10_later 24 = .ok (.aload_n 0, 1) := by decide +kernel
theorem dX10_later_25 : decode cX10_later 25 = .ok (.dup, 1) := by decide +kernel
theorem dX10_later_26 : decode cX10_later 26 = .ok (.getfield 184, 3) := by decide +kernel
theorem dX10_later_29 : decode cX10_later 29 = .ok (.iload_n 1, 1) := by decide +kernel
theorem dX10_later_30 : decode cX10_later 30 = .ok (.iadd, 1) := by decide +kernel
theorem dX10_later_31 : decode cX10_later 31 = .ok (.putfield 184, 3) := by decide +kernel
theorem dX10_later_34 : decode cX10_later 34 = .ok (.aload_n 0, 1) := by decide +kernel
theorem dX10_later_35 : decode cX10_later 35 = .ok (.getfield 184, 3) := by decide +kernel
theorem dX10_later_38 : decode cX10_later 38 = .ok (.ireturn, 1) := by decide +kernel
theorem dX10_sets_0 : decode cX10_sets 0 = .ok (.iload_n 1, 1) := by decide +kernel
theorem dX10_sets_1 : decode cX10_sets 1 = .ok (.invokestatic 181, 3) := by decide +kernel
theorem dX10_sets_4 : decode cX10_sets 4 = .ok (.ifCond .eq 19, 3) := by decide +kernel
theorem dX10_sets_7 : decode cX10_sets 7 = .ok (.iload_n 2, 1) := by decide +kernel
theorem dX10_sets_8 : decode cX10_sets 8 = .ok (.invokestatic 169, 3) := by decide +kernel
theorem dX10_sets_11 : decode cX10_sets 11 = .ok (.ifCond .eq 12, 3) := by decide +kernel
theorem dX10_sets_14 : decode cX10_sets 14 = .ok (.iload_n 3, 1) := by decide +kernel
theorem dX10_sets_15 : decode cX10_sets 15 = .ok (.iconst 0, 1) := by decide +kernel
theorem dX10_sets_16 : decode cX10_sets 16 = .ok (.iconst 5, 1) := by decide +kernel
theorem dX10_sets_17 : decode cX10_sets 17 = .ok (.invokestatic 97, 3) := by decide +kernel
theorem dX10_sets_20 : decode cX10_sets 20 = .ok (.ifCond .ne 6, 3) := by decide +kernel
theorem dX10_sets_23 : decode cX10_sets 23 = .ok (.bipush (-2), 2) := by decide +kernel
theorem dX10_sets_25 : decode cX10_sets 25 = .ok (.ireturn, 1) := by decide +kernel
theorem dX10_sets_26 : decode cX10_sets 26 = .ok (.aload_n 0, 1) := by decide +kernel
theorem dX10_sets_27 : decode cX10_sets 27 = .ok (.getfield 57, 3) := by decide +kernel
theorem dX10_sets_30 : decode cX10_sets 30 = .ok (.aload_n 0, 1) := by decide +kernel
theorem dX10_sets_31 : decode cX10_sets 31 = .ok (.getfield 46, 3) := by decide +kernel
theorem dX10_sets_34 : decode cX10_sets 34 = .ok (.iload_n 1, 1) := by decide +kernel
theorem dX10_sets_35 : decode cX10_sets 35 = .ok (.iload 4, 2) := by decide +kernel
theorem dX10_sets_37 : decode cX10_sets 37 = .ok (.invokevirtual 208, 3) := by decide +kernel
theorem dX10_sets_40 : decode cX10_sets 40 = .ok (.aload_n 0, 1) := by decide +kernel
theorem dX10_sets_41 : decode cX10_sets 41 = .ok (.getfield 64, 3) := by decide +kernel
theorem dX10_sets_44 : decode cX10_sets 44 = .ok (.aload_n 0, 1) := by decide +kernel
theorem dX10_sets_45 : decode cX10_sets 45 = .ok (.getfield 25, 3) := by decide +kernel
theorem dX10_sets_48 : decode cX10_sets 48 = .ok (.aload_n 0, 1) := by decide +kernel
theorem dX10_sets_49 : decode cX10_sets 49 = .ok (.getfield 57, 3) := by decide +kernel
theorem dX10_sets_52 : decode cX10_sets 52 = .ok (.iload_n 2, 1) := by decide +kernel
theorem dX10_sets_53 : decode cX10_sets 53 = .ok (.invokevirtual 212, 3) := by decide +kernel
theorem dX10_sets_56 : decode cX10_sets 56 = .ok (.iload_n 3, 1) := by decide +kernel
theorem dX10_sets_57 : decode cX10_sets 57 = .ok (.tableswitch 75 0 4 #[35, 43, 51, 59, 67], 35) := by decide +kernel
theorem dX10_sets_92 : decode cX10_sets 92 = .ok (.aload_n 0, 1) := by decide +kernel
theorem dX10_sets_93 : decode cX10_sets 93 = .ok (.getfield 64, 3) := by decide +kernel
theorem dX10_sets_96 : decode cX10_sets 96 = .ok (.getfield 216, 3) := by decide +kernel
theorem dX10_sets_99 : decode cX10_sets 99 = .ok (.ireturn, 1) := by decide +kernel
theorem dX10_sets_100 : decode cX10_sets 100 = .ok (.aload_n 0, 1) := by decide +kernel
theorem dX10_sets_101 : decode cX10_sets 101 = .ok (.getfield 64, 3) := by decide +kernel
theorem dX10_sets_104 : decode cX10_sets 104 = .ok (.getfield 217, 3) := by decide +kernel
theorem dX10_sets_107 : decode cX10_sets 107 = .ok (.ireturn, 1) := by decide +kernel
theorem dX10_sets_108 : decode cX10_sets 108 = .ok (.aload_n 0, 1) := by decide +kernel
theorem dX10_sets_109 : decode cX10_sets 109 = .ok (.getfield 64, 3) := by decide +kernel
theorem dX10_sets_112 : decode cX10_sets 112 = .ok (.getfield 220, 3) := by decide +kernel
theorem dX10_sets_115 : decode cX10_sets 115 = .ok (.ireturn, 1) := by decide +kernel
theorem dX10_sets_116 : decode cX10_sets 116 = .ok (.aload_n 0, 1) := by decide +kernel
theorem dX10_sets_117 : decode cX10_sets 117 = .ok (.getfield 64, 3) := by decide +kernel
theorem dX10_sets_120 : decode cX10_sets 120 = .ok (.getfield 223, 3) := by decide +kernel
theorem dX10_sets_123 : decode cX10_sets 123 = .ok (.ireturn, 1) := by decide +kernel
theorem dX10_sets_124 : decode cX10_sets 124 = .ok (.aload_n 0, 1) := by decide +kernel
theorem dX10_sets_125 : decode cX10_sets 125 = .ok (.getfield 64, 3) := by decide +kernel
theorem dX10_sets_128 : decode cX10_sets 128 = .ok (.getfield 226, 3) := by decide +kernel
theorem dX10_sets_131 : decode cX10_sets 131 = .ok (.ireturn, 1) := by decide +kernel
theorem dX10_sets_132 : decode cX10_sets 132 = .ok (.aload_n 0, 1) := by decide +kernel
theorem dX10_sets_133 : decode cX10_sets 133 = .ok (.getfield 64, 3) := by decide +kernel
theorem dX10_sets_136 : decode cX10_sets 136 = .ok (.getfield 229, 3) := by decide +kernel
theorem dX10_sets_139 : decode cX10_sets 139 = .ok (.ireturn, 1) := by decide +kernel
theorem dX10_spring_0 : decode cX10_spring 0 = .ok (.aload_n 0, 1) := by decide +kernel
theorem dX10_spring_1 : decode cX10_spring 1 = .ok (.getfield 25, 3) := by decide +kernel
theorem dX10_spring_4 : decode cX10_spring 4 = .ok (.iload_n 1, 1) := by decide +kernel
theorem dX10_spring_5 : decode cX10_spring 5 = .ok (.invokevirtual 153, 3) := by decide +kernel
theorem dX10_spring_8 : decode cX10_spring 8 = .ok (.ifCond .eq 19, 3) := by decide +kernel
theorem dX10_spring_11 : decode cX10_spring 11 = .ok (.aload_n 0, 1) := by decide +kernel
theorem dX10_spring_12 : decode cX10_spring 12 = .ok (.getfield 25, 3) := by decide +kernel
theorem dX10_spring_15 : decode cX10_spring 15 = .ok (.iload_n 3, 1) := by decide +kernel
theorem dX10_spring_16 : decode cX10_spring 16 = .ok (.invokevirtual 153, 3) := by decide +kernel
theorem dX10_spring_19 : decode cX10_spring 19 = .ok (.ifCond .eq 8, 3) := by decide +kernel
theorem dX10_spring_22 : decode cX10_spring 22 = .ok (.iload_n 1, 1) := by decide +kernel
theorem dX10_spring_23 : decode cX10_spring 23 = .ok (.iload_n 3, 1) := by decide +kernel
theorem dX10_spring_24 : decode cX10_spring 24 = .ok (.if_icmp .ne 5, 3) := by decide +kernel
theorem dX10_spring_27 : decode cX10_spring 27 = .ok (.iconst 0, 1) := by decide +kernel
theorem dX10_spring_28 : decode cX10_spring 28 = .ok (.ireturn, 1) := by decide +kernel
theorem dX10_spring_29 : decode cX10_spring 29 = .ok (.iload_n 2, 1) := by decide +kernel
theorem dX10_spring_30 : decode cX10_spring 30 = .ok (.invokestatic 166, 3) := by decide +kernel
theorem dX10_spring_33 : decode cX10_spring 33 = .ok (.ifCond .eq 19, 3) := by decide +kernel
theorem dX10_spring_36 : decode cX10_spring 36 = .ok (.iload 4, 2) := by decide +kernel
theorem dX10_spring_38 : decode cX10_spring 38 = .ok (.invokestatic 166, 3) := by decide +kernel
theorem dX10_spring_41 : decode cX10_spring 41 = .ok (.ifCond .eq 11, 3) := by decide +kernel
theorem dX10_spring_44 : decode cX10_spring 44 = .ok (.iload 5, 2) := by decide +kernel
theorem dX10_spring_46 : decode cX10_spring 46 = .ok (.invokestatic 181, 3) := by decide +kernel
theorem dX10_spring_49 : decode cX10_spring 49 = .ok (.ifCond .ne 5, 3) := by decide +kernel
theorem dX10_spring_52 : decode cX10_spring 52 = .ok (.iconst 0, 1) := by decide +kernel
theorem dX10_spring_53 : decode cX10_spring 53 = .ok (.ireturn, 1) := by decide +kernel
theorem dX10_spring_54 : decode cX10_spring 54 = .ok (.aload_n 0, 1) := by decide +kernel
theorem dX10_spring_55 : decode cX10_spring 55 = .ok (.getfield 71, 3) := by decide +kernel
theorem dX10_spring_58 : decode cX10_spring 58 = .ok (.iconst 1, 1) := by decide +kernel
theorem dX10_spring_59 : decode cX10_spring 59 = .ok (.putfield 118, 3) := by decide +kernel
theorem dX10_spring_62 : decode cX10_spring 62 = .ok (.aload_n 0, 1) := by decide +kernel
theorem dX10_spring_63 : decode cX10_spring 63 = .ok (.getfield 71, 3) := by decide +kernel
theorem dX10_spring_66 : decode cX10_spring 66 = .ok (.iload_n 1, 1) := by decide +kernel
theorem dX10_spring_67 : decode cX10_spring 67 = .ok (.putfield 232, 3) := by decide +kernel
theorem dX10_spring_70 : decode cX10_spring 70 = .ok (.aload_n 0, 1) := by decide +kernel
theorem dX10_spring_71 : decode cX10_spring 71 = .ok (.getfield 71, 3) := by decide +kernel
theorem dX10_spring_74 : decode cX10_spring 74 = .ok (.iload_n 2, 1) := by decide +kernel
theorem dX10_spring_75 : decode cX10_spring 75 = .ok (.putfield 235, 3) := by decide +kernel
theorem dX10_spring_78 : decode cX10_spring 78 = .ok (.aload_n 0, 1) := by decide +kernel
theorem dX10_spring_79 : decode cX10_spring 79 = .ok (.getfield 71, 3) := by decide +kernel
theorem dX10_spring_82 : decode cX10_spring 82 = .ok (.iload_n 3, 1) := by decide +kernel
theorem dX10_spring_83 : decode cX10_spring 83 = .ok (.putfield 238, 3) := by decide +kernel
theorem dX10_spring_86 : decode cX10_spring 86 = .ok (.aload_n 0, 1) := by decide +kernel
theorem dX10_spring_87 : decode cX10_spring 87 = .ok (.getfield 71, 3) := by decide +kernel
theorem dX10_spring_90 : decode cX10_spring 90 = .ok (.iload 4, 2) := by decide +kernel
theorem dX10_spring_92 : decode cX10_spring 92 = .ok (.putfield 241, 3) := by decide +kernel
theorem dX10_spring_95 : decode cX10_spring 95 = .ok (.aload_n 0, 1) := by decide +kernel
theorem dX10_spring_96 : decode cX10_spring 96 = .ok (.getfield 71, 3) := by decide +kernel
theorem dX10_spring_99 : decode cX10_spring 99 = .ok (.iload 5, 2) := by decide +kernel
theorem dX10_spring_101 : decode cX10_spring 101 = .ok (.putfield 244, 3) := by decide +kernel
theorem dX10_spring_104 : decode cX10_spring 104 = .ok (.iconst 1, 1) := by decide +kernel
theorem dX10_spring_105 : decode cX10_spring 105 = .ok (.ireturn, 1) := by decide +kernel
theorem dX10_parted_0 : decode cX10_parted 0 = .ok (.aload_n 0, 1) := by decide +kernel
theorem dX10_parted_1 : decode cX10_parted 1 = .ok (.getfield 71, 3) := by decide +kernel
theorem dX10_parted_4 : decode cX10_parted 4 = .ok (.getfield 118, 3) := by decide +kernel
theorem dX10_parted_7 : decode cX10_parted 7 = .ok (.ifCond .eq 19, 3) := by decide +kernel
theorem dX10_parted_10 : decode cX10_parted 10 = .ok (.iload_n 1, 1) := by decide +kernel
theorem dX10_parted_11 : decode cX10_parted 11 = .ok (.invokestatic 169, 3) := by decide +kernel
theorem dX10_parted_14 : decode cX10_parted 14 = .ok (.ifCond .eq 12, 3) := by decide +kernel
theorem dX10_parted_17 : decode cX10_parted 17 = .ok (.iload_n 2, 1) := by decide +kernel
theorem dX10_parted_18 : decode cX10_parted 18 = .ok (.iconst 0, 1) := by decide +kernel
theorem dX10_parted_19 : decode cX10_parted 19 = .ok (.iconst 4, 1) := by decide +kernel
theorem dX10_parted_20 : decode cX10_parted 20 = .ok (.invokestatic 97, 3) := by decide +kernel
theorem dX10_parted_23 : decode cX10_parted 23 = .ok (.ifCond .ne 6, 3) := by decide +kernel
theorem dX10_parted_26 : decode cX10_parted 26 = .ok (.bipush (-2), 2) := by decide +kernel
theorem dX10_parted_28 : decode cX10_parted 28 = .ok (.ireturn, 1) := by decide +kernel
theorem dX10_parted_29 : decode cX10_parted 29 = .ok (.aload_n 0, 1) := by decide +kernel
theorem dX10_parted_30 : decode cX10_parted 30 = .ok (.getfield 57, 3) := by decide +kernel
theorem dX10_parted_33 : decode cX10_parted 33 = .ok (.aload_n 0, 1) := by decide +kernel
theorem dX10_parted_34 : decode cX10_parted 34 = .ok (.getfield 46, 3) := by decide +kernel
theorem dX10_parted_37 : decode cX10_parted 37 = .ok (.aload_n 0, 1) := by decide +kernel
theorem dX10_parted_38 : decode cX10_parted 38 = .ok (.getfield 71, 3) := by decide +kernel
theorem dX10_parted_41 : decode cX10_parted 41 = .ok (.getfield 244, 3) := by decide +kernel
theorem dX10_parted_44 : decode cX10_parted 44 = .ok (.iload_n 3, 1) := by decide +kernel
theorem dX10_parted_45 : decode cX10_parted 45 = .ok (.invokevirtual 208, 3) := by decide +kernel
theorem dX10_parted_48 : decode cX10_parted 48 = .ok (.aload_n 0, 1) := by decide +kernel
theorem dX10_parted_49 : decode cX10_parted 49 = .ok (.getfield 71, 3) := by decide +kernel
theorem dX10_parted_52 : decode cX10_parted 52 = .ok (.aload_n 0, 1) := by decide +kernel
theorem dX10_parted_53 : decode cX10_parted 53 = .ok (.getfield 25, 3) := by decide +kernel
theorem dX10_parted_56 : decode cX10_parted 56 = .ok (.aload_n 0, 1) := by decide +kernel
theorem dX10_parted_57 : decode cX10_parted 57 = .ok (.getfield 57, 3) := by decide +kernel
theorem dX10_parted_60 : decode cX10_parted 60 = .ok (.iload_n 1, 1) := by decide +kernel
theorem dX10_parted_61 : decode cX10_parted 61 = .ok (.invokevirtual 247, 3) := by decide +kernel
theorem dX10_parted_64 : decode cX10_parted 64 = .ok (.iload_n 2, 1) := by decide +kernel
theorem dX10_parted_65 : decode cX10_parted 65 = .ok (.tableswitch 63 0 3 #[31, 39, 47, 55], 31) := by decide +kernel
theorem dX10_parted_96 : decode cX10_parted 96 = .ok (.aload_n 0, 1) := by decide +kernel
theorem dX10_parted_97 : decode cX10_parted 97 = .ok (.getfield 71, 3) := by decide +kernel
theorem dX10_parted_100 : decode cX10_parted 100 = .ok (.getfield 248, 3) := by decide +kernel
theorem dX10_parted_103 : decode cX10_parted 103 = .ok (.ireturn, 1) := by decide +kernel
theorem dX10_parted_104 : decode cX10_parted 104 = .ok (.aload_n 0, 1) := by decide +kernel
theorem dX10_parted_105 : decode cX10_parted 105 = .ok (.getfield 71, 3) := by decide +kernel
theorem dX10_parted_108 : decode cX10_parted 108 = .ok (.getfield 249, 3) := by decide +kernel
theorem dX10_parted_111 : decode cX10_parted 111 = .ok (.ireturn, 1) := by decide +kernel
theorem dX10_parted_112 : decode cX10_parted 112 = .ok (.aload_n 0, 1) := by decide +kernel
theorem dX10_parted_113 : decode cX10_parted 113 = .ok (.getfield 71, 3) := by decide +kernel
theorem dX10_parted_116 : decode cX10_parted 116 = .ok (.getfield 252, 3) := by decide +kernel
theorem dX10_parted_119 : decode cX10_parted 119 = .ok (.ireturn, 1) := by decide +kernel
theorem dX10_parted_120 : decode cX10_parted 120 = .ok (.aload_n 0, 1) := by decide +kernel
theorem dX10_parted_121 : decode cX10_parted 121 = .ok (.getfield 71, 3) := by decide +kernel
theorem dX10_parted_124 : decode cX10_parted 124 = .ok (.getfield 255, 3) := by decide +kernel
theorem dX10_parted_127 : decode cX10_parted 127 = .ok (.ireturn, 1) := by decide +kernel
theorem dX10_parted_128 : decode cX10_parted 128 = .ok (.aload_n 0, 1) := by decide +kernel
theorem dX10_parted_129 : decode cX10_parted 129 = .ok (.getfield 71, 3) := by decide +kernel
theorem dX10_parted_132 : decode cX10_parted 132 = .ok (.getfield 258, 3) := by decide +kernel
theorem dX10_parted_135 : decode cX10_parted 135 = .ok (.ireturn, 1) := by decide +kernel
theorem dX10_came_0 : decode cX10_came 0 = .ok (.aload_n 0, 1) := by decide +kernel
theorem dX10_came_1 : decode cX10_came 1 = .ok (.getfield 25, 3) := by decide +kernel
theorem dX10_came_4 : decode cX10_came 4 = .ok (.iload_n 1, 1) := by decide +kernel
theorem dX10_came_5 : decode cX10_came 5 = .ok (.invokevirtual 131, 3) := by decide +kernel
theorem dX10_came_8 : decode cX10_came 8 = .ok (.ifCond .eq 16, 3) := by decide +kernel
theorem dX10_came_11 : decode cX10_came 11 = .ok (.aload_n 0, 1) := by decide +kernel
theorem dX10_came_12 : decode cX10_came 12 = .ok (.getfield 25, 3) := by decide +kernel
theorem dX10_came_15 : decode cX10_came 15 = .ok (.getfield 142, 3) := by decide +kernel
theorem dX10_came_18 : decode cX10_came 18 = .ok (.iload_n 1, 1) := by decide +kernel
theorem dX10_came_19 : decode cX10_came 19 = .ok (.iaload, 1) := by decide +kernel
theorem dX10_came_20 : decode cX10_came 20 = .ok (.iconst (-1), 1) := by decide +kernel
theorem dX10_came_21 : decode cX10_came 21 = .ok (.if_icmp .eq 6, 3) := by decide +kernel
theorem dX10_came_24 : decode cX10_came 24 = .ok (.bipush (-2), 2) := by decide +kernel
theorem dX10_came_26 : decode cX10_came 26 = .ok (.ireturn, 1) := by decide +kernel
theorem dX10_came_27 : decode cX10_came 27 = .ok (.iload_n 2, 1) := by decide +kernel
theorem dX10_came_28 : decode cX10_came 28 = .ok (.invokestatic 166, 3) := by decide +kernel
theorem dX10_came_31 : decode cX10_came 31 = .ok (.ifCond .eq 20, 3) := by decide +kernel
theorem dX10_came_34 : decode cX10_came 34 = .ok (.iload_n 3, 1) := by decide +kernel
theorem dX10_came_35 : decode cX10_came 35 = .ok (.invokestatic 169, 3) := by decide +kernel
theorem dX10_came_38 : decode cX10_came 38 = .ok (.ifCond .eq 13, 3) := by decide +kernel
theorem dX10_came_41 : decode cX10_came 41 = .ok (.iload 4, 2) := by decide +kernel
theorem dX10_came_43 : decode cX10_came 43 = .ok (.iconst 0, 1) := by decide +kernel
theorem dX10_came_44 : decode cX10_came 44 = .ok (.iconst 2, 1) := by decide +kernel
theorem dX10_came_45 : decode cX10_came 45 = .ok (.invokestatic 97, 3) := by decide +kernel
theorem dX10_came_48 : decode cX10_came 48 = .ok (.ifCond .ne 6, 3) := by decide +kernel
theorem dX10_came_51 : decode cX10_came 51 = .ok (.bipush (-2), 2) := by decide +kernel
theorem dX10_came_53 : decode cX10_came 53 = .ok (.ireturn, 1) := by decide +kernel
theorem dX10_came_54 : decode cX10_came 54 = .ok (.iconst 0, 1) := by decide +kernel
theorem dX10_came_55 : decode cX10_came 55 = .ok (.istore 6, 2) := by decide +kernel
theorem dX10_came_57 : decode cX10_came 57 = .ok (.bipush 96, 2) := by decide +kernel
theorem dX10_came_59 : decode cX10_came 59 = .ok (.istore 7, 2) := by decide +kernel
theorem dX10_came_61 : decode cX10_came 61 = .ok (.iconst 0, 1) := by decide +kernel
theorem dX10_came_62 : decode cX10_came 62 = .ok (.istore 8, 2) := by decide +kernel
theorem dX10_came_64 : decode cX10_came 64 = .ok (.iload 8, 2) := by decide +kernel
theorem dX10_came_66 : decode cX10_came 66 = .ok (.aload_n 0, 1) := by decide +kernel
theorem dX10_came_67 : decode cX10_came 67 = .ok (.getfield 46, 3) := by decide +kernel
theorem dX10_came_70 : decode cX10_came 70 = .ok (.getfield 109, 3) := by decide +kernel
theorem dX10_came_73 : decode cX10_came 73 = .ok (.if_icmp .ge 111, 3) := by decide +kernel
theorem dX10_came_76 : decode cX10_came 76 = .ok (.aload_n 0, 1) := by decide +kernel
theorem dX10_came_77 : decode cX10_came 77 = .ok (.getfield 46, 3) := by decide +kernel
theorem dX10_came_80 : decode cX10_came 80 = .ok (.iload 8, 2) := by decide +kernel
theorem dX10_came_82 : decode cX10_came 82 = .ok (.invokevirtual 261, 3) := by decide +kernel
theorem dX10_came_85 : decode cX10_came 85 = .ok (.ifCond .eq 93, 3) := by decide +kernel
theorem dX10_came_88 : decode cX10_came 88 = .ok (.aload_n 0, 1) := by decide +kernel
theorem dX10_came_89 : decode cX10_came 89 = .ok (.getfield 46, 3) := by decide +kernel
theorem dX10_came_92 : decode cX10_came 92 = .ok (.iload 8, 2) := by decide +kernel
theorem dX10_came_94 : decode cX10_came 94 = .ok (.iload 5, 2) := by decide +kernel
theorem dX10_came_96 : decode cX10_came 96 = .ok (.invokevirtual 264, 3) := by decide +kernel
theorem dX10_came_99 : decode cX10_came 99 = .ok (.ifCond .eq 79, 3) := by decide +kernel
theorem dX10_came_102 : decode cX10_came 102 = .ok (.aload_n 0, 1) := by decide +kernel
theorem dX10_came_103 : decode cX10_came 103 = .ok (.aload_n 0, 1) := by decide +kernel
theorem dX10_came_104 : decode cX10_came 104 = .ok (.getfield 25, 3) := by decide +kernel
theorem dX10_came_107 : decode cX10_came 107 = .ok (.getfield 268, 3) := by decide +kernel
theorem dX10_came_110 : decode cX10_came 110 = .ok (.iconst 1, 1) := by decide +kernel
theorem dX10_came_111 : decode cX10_came 111 = .ok (.iload_n 1, 1) := by decide +kernel
theorem dX10_came_112 : decode cX10_came 112 = .ok (.ishl, 1) := by decide +kernel
theorem dX10_came_113 : decode cX10_came 113 = .ok (.ior, 1) := by decide +kernel
theorem dX10_came_114 : decode cX10_came 114 = .ok (.iload 8, 2) := by decide +kernel
theorem dX10_came_116 : decode cX10_came 116 = .ok (.iload_n 2, 1) := by decide +kernel
theorem dX10_came_117 : decode cX10_came 117 = .ok (.iload_n 3, 1) := by decide +kernel
theorem dX10_came_118 : decode cX10_came 118 = .ok (.invokevirtual 271, 3) := by decide +kernel
theorem dX10_came_121 : decode cX10_came 121 = .ok (.ifCond .ne 22, 3) := by decide +kernel
theorem dX10_came_124 : decode cX10_came 124 = .ok (.iload 6, 2) := by decide +kernel
theorem dX10_came_126 : decode cX10_came 126 = .ok (.aload_n 0, 1) := by decide +kernel
theorem dX10_came_127 : decode cX10_came 127 = .ok (.getfield 46, 3) := by decide +kernel
theorem dX10_came_130 : decode cX10_came 130 = .ok (.getfield 275, 3) := by decide +kernel
theorem dX10_came_133 : decode cX10_came 133 = .ok (.iload 8, 2) := by decide +kernel
theorem dX10_came_135 : decode cX10_came 135 = .ok (.iaload, 1) := by decide +kernel
theorem dX10_came_136 : decode cX10_came 136 = .ok (.iconst 1, 1) := by decide +kernel
theorem dX10_came_137 : decode cX10_came 137 = .ok (.iadd, 1) := by decide +kernel
theorem dX10_came_138 : decode cX10_came 138 = .ok (.invokestatic 195, 3) := by decide +kernel
theorem dX10_came_141 : decode cX10_came 141 = .ok (.istore 6, 2) := by decide +kernel
theorem dX10_came_143 : decode cX10_came 143 = .ok (.aload_n 0, 1) := by decide +kernel
theorem dX10_came_144 : decode cX10_came 144 = .ok (.aload_n 0, 1) := by decide +kernel
theorem dX10_came_145 : decode cX10_came 145 = .ok (.getfield 25, 3) := by decide +kernel
theorem dX10_came_148 : decode cX10_came 148 = .ok (.getfield 268, 3) := by decide +kernel
theorem dX10_came_151 : decode cX10_came 151 = .ok (.iload 8, 2) := by decide +kernel
theorem dX10_came_153 : decode cX10_came 153 = .ok (.iload_n 2, 1) := by decide +kernel
theorem dX10_came_154 : decode cX10_came 154 = .ok (.iload_n 3, 1) := by decide +kernel
theorem dX10_came_155 : decode cX10_came 155 = .ok (.invokevirtual 271, 3) := by decide +kernel
theorem dX10_came_158 : decode cX10_came 158 = .ok (.ifCond .ne 20, 3) := by decide +kernel
theorem dX10_came_161 : decode cX10_came 161 = .ok (.iload 7, 2) := by decide +kernel
theorem dX10_came_163 : decode cX10_came 163 = .ok (.aload_n 0, 1) := by decide +kernel
theorem dX10_came_164 : decode cX10_came 164 = .ok (.getfield 46, 3) := by decide +kernel
theorem dX10_came_167 : decode cX10_came 167 = .ok (.getfield 275, 3) := by decide +kernel
theorem dX10_came_170 : decode cX10_came 170 = .ok (.iload 8, 2) := by decide +kernel
theorem dX10_came_172 : decode cX10_came 172 = .ok (.iaload, 1) := by decide +kernel
theorem dX10_came_173 : decode cX10_came 173 = .ok (.invokestatic 278, 3) := by decide +kernel
theorem dX10_came_176 : decode cX10_came 176 = .ok (.istore 7, 2) := by decide +kernel
theorem dX10_came_178 : decode cX10_came 178 = .ok (.iinc 8 1, 3) := by decide +kernel
theorem dX10_came_181 : decode cX10_came 181 = .ok (.goto (-117), 3) := by decide +kernel
theorem dX10_came_184 : decode cX10_came 184 = .ok (.iload 6, 2) := by decide +kernel
theorem dX10_came_186 : decode cX10_came 186 = .ok (.iload 7, 2) := by decide +kernel
theorem dX10_came_188 : decode cX10_came 188 = .ok (.if_icmp .le 14, 3) := by decide +kernel
theorem dX10_came_191 : decode cX10_came 191 = .ok (.iload 4, 2) := by decide +kernel
theorem dX10_came_193 : decode cX10_came 193 = .ok (.ifCond .ne 7, 3) := by decide +kernel
theorem dX10_came_196 : decode cX10_came 196 = .ok (.iconst 0, 1) := by decide +kernel
theorem dX10_came_197 : decode cX10_came 197 = .ok (.goto 4, 3) := by decide +kernel
theorem dX10_came_200 : decode cX10_came 200 = .ok (.iconst (-1), 1) := by decide +kernel
theorem dX10_came_201 : decode cX10_came 201 = .ok (.ireturn, 1) := by decide +kernel
theorem dX10_came_202 : decode cX10_came 202 = .ok (.iload 4, 2) := by decide +kernel
theorem dX10_came_204 : decode cX10_came 204 = .ok (.lookupswitch 39 #[(0, 28), (1, 36)], 28) := by decide +kernel
theorem dX10_came_232 : decode cX10_came 232 = .ok (.iload 7, 2) := by decide +kernel
theorem dX10_came_234 : decode cX10_came 234 = .ok (.iload 6, 2) := by decide +kernel
theorem dX10_came_236 : decode cX10_came 236 = .ok (.isub, 1) := by decide +kernel
theorem dX10_came_237 : decode cX10_came 237 = .ok (.iconst 1, 1) := by decide +kernel
theorem dX10_came_238 : decode cX10_came 238 = .ok (.iadd, 1) := by decide +kernel
theorem dX10_came_239 : decode cX10_came 239 = .ok (.ireturn, 1) := by decide +kernel
theorem dX10_came_240 : decode cX10_came 240 = .ok (.iload 6, 2) := by decide +kernel
theorem dX10_came_242 : decode cX10_came 242 = .ok (.ireturn, 1) := by decide +kernel
theorem dX10_came_243 : decode cX10_came 243 = .ok (.iload 7, 2) := by decide +kernel
theorem dX10_came_245 : decode cX10_came 245 = .ok (.ireturn, 1) := by decide +kernel
theorem dX10_isSoWith_0 : decode cX10_isSoWith 0 = .ok (.aload_n 0, 1) := by decide +kernel
theorem dX10_isSoWith_1 : decode cX10_isSoWith 1 = .ok (.getfield 25, 3) := by decide +kernel
theorem dX10_isSoWith_4 : decode cX10_isSoWith 4 = .ok (.iload_n 1, 1) := by decide +kernel
theorem dX10_isSoWith_5 : decode cX10_isSoWith 5 = .ok (.aload_n 0, 1) := by decide +kernel
theorem dX10_isSoWith_6 : decode cX10_isSoWith 6 = .ok (.getfield 46, 3) := by decide +kernel
theorem dX10_isSoWith_9 : decode cX10_isSoWith 9 = .ok (.getfield 281, 3) := by decide +kernel
theorem dX10_isSoWith_12 : decode cX10_isSoWith 12 = .ok (.iload_n 2, 1) := by decide +kernel
theorem dX10_isSoWith_13 : decode cX10_isSoWith 13 = .ok (.iaload, 1) := by decide +kernel
theorem dX10_isSoWith_14 : decode cX10_isSoWith 14 = .ok (.aload_n 0, 1) := by decide +kernel
theorem dX10_isSoWith_15 : decode cX10_isSoWith 15 = .ok (.getfield 46, 3) := by decide +kernel
theorem dX10_isSoWith_18 : decode cX10_isSoWith 18 = .ok (.getfield 284, 3) := by decide +kernel
theorem dX10_isSoWith_21 : decode cX10_isSoWith 21 = .ok (.iload_n 2, 1) := by decide +kernel
theorem dX10_isSoWith_22 : decode cX10_isSoWith 22 = .ok (.iaload, 1) := by decide +kernel
theorem dX10_isSoWith_23 : decode cX10_isSoWith 23 = .ok (.iload_n 3, 1) := by decide +kernel
theorem dX10_isSoWith_24 : decode cX10_isSoWith 24 = .ok (.iload 4, 2) := by decide +kernel
theorem dX10_isSoWith_26 : decode cX10_isSoWith 26 = .ok (.invokevirtual 287, 3) := by decide +kernel
theorem dX10_isSoWith_29 : decode cX10_isSoWith 29 = .ok (.istore 5, 2) := by decide +kernel
theorem dX10_isSoWith_31 : decode cX10_isSoWith 31 = .ok (.iload 5, 2) := by decide +kernel
theorem dX10_isSoWith_33 : decode cX10_isSoWith 33 = .ok (.aload_n 0, 1) := by decide +kernel
theorem dX10_isSoWith_34 : decode cX10_isSoWith 34 = .ok (.getfield 46, 3) := by decide +kernel
theorem dX10_isSoWith_37 : decode cX10_isSoWith 37 = .ok (.getfield 289, 3) := by decide +kernel
theorem dX10_isSoWith_40 : decode cX10_isSoWith 40 = .ok (.iload_n 2, 1) := by decide +kernel
theorem dX10_isSoWith_41 : decode cX10_isSoWith 41 = .ok (.iaload, 1) := by decide +kernel
theorem dX10_isSoWith_42 : decode cX10_isSoWith 42 = .ok (.aload_n 0, 1) := by decide +kernel
theorem dX10_isSoWith_43 : decode cX10_isSoWith 43 = .ok (.getfield 46, 3) := by decide +kernel
theorem dX10_isSoWith_46 : decode cX10_isSoWith 46 = .ok (.getfield 292, 3) := by decide +kernel
theorem dX10_isSoWith_49 : decode cX10_isSoWith 49 = .ok (.iload_n 2, 1) := by decide +kernel
theorem dX10_isSoWith_50 : decode cX10_isSoWith 50 = .ok (.iaload, 1) := by decide +kernel
theorem dX10_isSoWith_51 : decode cX10_isSoWith 51 = .ok (.invokestatic 97, 3) := by decide +kernel
theorem dX10_isSoWith_54 : decode cX10_isSoWith 54 = .ok (.ireturn, 1) := by decide +kernel
theorem dX10_cracked_0 : decode cX10_cracked 0 = .ok (.aload_n 0, 1) := by decide +kernel
theorem dX10_cracked_1 : decode cX10_cracked 1 = .ok (.iconst 0, 1) := by decide +kernel
theorem dX10_cracked_2 : decode cX10_cracked 2 = .ok (.putfield 112, 3) := by decide +kernel
theorem dX10_cracked_5 : decode cX10_cracked 5 = .ok (.aload_n 0, 1) := by decide +kernel
theorem dX10_cracked_6 : decode cX10_cracked 6 = .ok (.getfield 25, 3) := by decide +kernel
theorem dX10_cracked_9 : decode cX10_cracked 9 = .ok (.getfield 295, 3) := by decide +kernel
theorem dX10_cracked_12 : decode cX10_cracked 12 = .ok (.bipush 8, 2) := by decide +kernel
theorem dX10_cracked_14 : decode cX10_cracked 14 = .ok (.if_icmp .le 6, 3) := by decide +kernel
theorem dX10_cracked_17 : decode cX10_cracked 17 = .ok (.bipush (-2), 2) := by decide +kernel
theorem dX10_cracked_19 : decode cX10_cracked 19 = .ok (.ireturn, 1) := by decide +kernel
theorem dX10_cracked_20 : decode cX10_cracked 20 = .ok (.aload_n 0, 1) := by decide +kernel
theorem dX10_cracked_21 : decode cX10_cracked 21 = .ok (.getfield 78, 3) := by decide +kernel
theorem dX10_cracked_24 : decode cX10_cracked 24 = .ok (.aload_n 0, 1) := by decide +kernel
theorem dX10_cracked_25 : decode cX10_cracked 25 = .ok (.getfield 25, 3) := by decide +kernel
theorem dX10_cracked_28 : decode cX10_cracked 28 = .ok (.aload_n 0, 1) := by decide +kernel
theorem dX10_cracked_29 : decode cX10_cracked 29 = .ok (.getfield 46, 3) := by decide +kernel
theorem dX10_cracked_32 : decode cX10_cracked 32 = .ok (.iload_n 1, 1) := by decide +kernel
theorem dX10_cracked_33 : decode cX10_cracked 33 = .ok (.invokevirtual 298, 3) := by decide +kernel
theorem dX10_cracked_36 : decode cX10_cracked 36 = .ok (.aload_n 0, 1) := by decide +kernel
theorem dX10_cracked_37 : decode cX10_cracked 37 = .ok (.getfield 78, 3) := by decide +kernel
theorem dX10_cracked_40 : decode cX10_cracked 40 = .ok (.aload_n 0, 1) := by decide +kernel
theorem dX10_cracked_41 : decode cX10_cracked 41 = .ok (.getfield 50, 3) := by decide +kernel
theorem dX10_cracked_44 : decode cX10_cracked 44 = .ok (.invokevirtual 301, 3) := by decide +kernel
theorem dX10_cracked_47 : decode cX10_cracked 47 = .ok (.istore_n 2, 1) := by decide +kernel
theorem dX10_cracked_48 : decode cX10_cracked 48 = .ok (.aload_n 0, 1) := by decide +kernel
theorem dX10_cracked_49 : decode cX10_cracked 49 = .ok (.iload_n 2, 1) := by decide +kernel
theorem dX10_cracked_50 : decode cX10_cracked 50 = .ok (.iconst (-1), 1) := by decide +kernel
theorem dX10_cracked_51 : decode cX10_cracked 51 = .ok (.if_icmp .ne 7, 3) := by decide +kernel
theorem dX10_cracked_54 : decode cX10_cracked 54 = .ok (.iconst 0, 1) := by decide +kernel
theorem dX10_cracked_55 : decode cX10_cracked 55 = .ok (.goto 10, 3) := by decide +kernel
theorem dX10_cracked_58 : decode cX10_cracked 58 = .ok (.aload_n 0, 1) := by decide +kernel
theorem dX10_cracked_59 : decode cX10_cracked 59 = .ok (.getfield 25, 3) := by decide +kernel
theorem dX10_cracked_62 : decode cX10_cracked 62 = .ok (.getfield 295, 3) := by decide +kernel
theorem dX10_cracked_65 : decode cX10_cracked 65 = .ok (.putfield 112, 3) := by decide +kernel
theorem dX10_cracked_68 : decode cX10_cracked 68 = .ok (.iload_n 2, 1) := by decide +kernel
theorem dX10_cracked_69 : decode cX10_cracked 69 = .ok (.ireturn, 1) := by decide +kernel
theorem dX10_first_0 : decode cX10_first 0 = .ok (.aload_n 0, 1) := by decide +kernel
theorem dX10_first_1 : decode cX10_first 1 = .ok (.getfield 25, 3) := by decide +kernel
theorem dX10_first_4 : decode cX10_first 4 = .ok (.getfield 295, 3) := by decide +kernel
theorem dX10_first_7 : decode cX10_first 7 = .ok (.bipush 8, 2) := by decide +kernel
theorem dX10_first_9 : decode cX10_first 9 = .ok (.if_icmp .le 6, 3) := by decide +kernel
theorem dX10_first_12 : decode cX10_first 12 = .ok (.bipush (-2), 2) := by decide +kernel
theorem dX10_first_14 : decode cX10_first 14 = .ok (.ireturn, 1) := by decide +kernel
theorem dX10_first_15 : decode cX10_first 15 = .ok (.aload_n 0, 1) := by decide +kernel
theorem dX10_first_16 : decode cX10_first 16 = .ok (.getfield 78, 3) := by decide +kernel
theorem dX10_first_19 : decode cX10_first 19 = .ok (.aload_n 0, 1) := by decide +kernel
theorem dX10_first_20 : decode cX10_first 20 = .ok (.getfield 25, 3) := by decide +kernel
theorem dX10_first_23 : decode cX10_first 23 = .ok (.aload_n 0, 1) := by decide +kernel
theorem dX10_first_24 : decode cX10_first 24 = .ok (.getfield 46, 3) := by decide +kernel
theorem dX10_first_27 : decode cX10_first 27 = .ok (.iload_n 1, 1) := by decide +kernel
theorem dX10_first_28 : decode cX10_first 28 = .ok (.invokevirtual 298, 3) := by decide +kernel
theorem dX10_first_31 : decode cX10_first 31 = .ok (.aload_n 0, 1) := by decide +kernel
theorem dX10_first_32 : decode cX10_first 32 = .ok (.getfield 78, 3) := by decide +kernel
theorem dX10_first_35 : decode cX10_first 35 = .ok (.invokevirtual 305, 3) := by decide +kernel
theorem dX10_first_38 : decode cX10_first 38 = .ok (.ireturn, 1) := by decide +kernel
theorem dX10_dealt_0 : decode cX10_dealt 0 = .ok (.aload_n 0, 1) := by decide +kernel
theorem dX10_dealt_1 : decode cX10_dealt 1 = .ok (.iconst 0, 1) := by decide +kernel
theorem dX10_dealt_2 : decode cX10_dealt 2 = .ok (.putfield 112, 3) := by decide +kernel
theorem dX10_dealt_5 : decode cX10_dealt 5 = .ok (.iload_n 1, 1) := by decide +kernel
theorem dX10_dealt_6 : decode cX10_dealt 6 = .ok (.iconst 1, 1) := by decide +kernel
theorem dX10_dealt_7 : decode cX10_dealt 7 = .ok (.iconst 2, 1) := by decide +kernel
theorem dX10_dealt_8 : decode cX10_dealt 8 = .ok (.invokestatic 97, 3) := by decide +kernel
theorem dX10_dealt_11 : decode cX10_dealt 11 = .ok (.ifCond .ne 5, 3) := by decide +kernel
theorem dX10_dealt_14 : decode cX10_dealt 14 = .ok (.iconst (-1), 1) := by decide +kernel
theorem dX10_dealt_15 : decode cX10_dealt 15 = .ok (.ireturn, 1) := by decide +kernel
theorem dX10_dealt_16 : decode cX10_dealt 16 = .ok (.aload_n 0, 1) := by decide +kernel
theorem dX10_dealt_17 : decode cX10_dealt 17 = .ok (.getfield 25, 3) := by decide +kernel
theorem dX10_dealt_20 : decode cX10_dealt 20 = .ok (.getfield 295, 3) := by decide +kernel
theorem dX10_dealt_23 : decode cX10_dealt 23 = .ok (.bipush 8, 2) := by decide +kernel
theorem dX10_dealt_25 : decode cX10_dealt 25 = .ok (.if_icmp .le 6, 3) := by decide +kernel
theorem dX10_dealt_28 : decode cX10_dealt 28 = .ok (.bipush (-2), 2) := by decide +kernel
theorem dX10_dealt_30 : decode cX10_dealt 30 = .ok (.ireturn, 1) := by decide +kernel
theorem dX10_dealt_31 : decode cX10_dealt 31 = .ok (.aload_n 0, 1) := by decide +kernel
theorem dX10_dealt_32 : decode cX10_dealt 32 = .ok (.aload_n 0, 1) := by decide +kernel
theorem dX10_dealt_33 : decode cX10_dealt 33 = .ok (.getfield 25, 3) := by decide +kernel
theorem dX10_dealt_36 : decode cX10_dealt 36 = .ok (.getfield 295, 3) := by decide +kernel
theorem dX10_dealt_39 : decode cX10_dealt 39 = .ok (.putfield 112, 3) := by decide +kernel
theorem dX10_dealt_42 : decode cX10_dealt 42 = .ok (.aload_n 0, 1) := by decide +kernel
theorem dX10_dealt_43 : decode cX10_dealt 43 = .ok (.getfield 85, 3) := by decide +kernel
theorem dX10_dealt_46 : decode cX10_dealt 46 = .ok (.aload_n 0, 1) := by decide +kernel
theorem dX10_dealt_47 : decode cX10_dealt 47 = .ok (.getfield 25, 3) := by decide +kernel
theorem dX10_dealt_50 : decode cX10_dealt 50 = .ok (.iload_n 1, 1) := by decide +kernel
theorem dX10_dealt_51 : decode cX10_dealt 51 = .ok (.aload_n 0, 1) := by decide +kernel
theorem dX10_dealt_52 : decode cX10_dealt 52 = .ok (.getfield 50, 3) := by decide +kernel
theorem dX10_dealt_55 : decode cX10_dealt 55 = .ok (.invokevirtual 309, 3) := by decide +kernel
theorem dX10_dealt_58 : decode cX10_dealt 58 = .ok (.ireturn, 1) := by decide +kernel
theorem dX10_lies_0 : decode cX10_lies 0 = .ok (.iload_n 1, 1) := by decide +kernel
theorem dX10_lies_1 : decode cX10_lies 1 = .ok (.iconst 0, 1) := by decide +kernel
theorem dX10_lies_2 : decode cX10_lies 2 = .ok (.aload_n 0, 1) := by decide +kernel
theorem dX10_lies_3 : decode cX10_lies 3 = .ok (.getfield 112, 3) := by decide +kernel
theorem dX10_lies_6 : decode cX10_lies 6 = .ok (.iconst 1, 1) := by decide +kernel
theorem dX10_lies_7 : decode cX10_lies 7 = .ok (.isub, 1) := by decide +kernel
theorem dX10_lies_8 : decode cX10_lies 8 = .ok (.invokestatic 97, 3) := by decide +kernel
theorem dX10_lies_11 : decode cX10_lies 11 = .ok (.ifCond .eq 12, 3) := by decide +kernel
theorem dX10_lies_14 : decode cX10_lies 14 = .ok (.aload_n 0, 1) := by decide +kernel
theorem dX10_lies_15 : decode cX10_lies 15 = .ok (.getfield 50, 3) := by decide +kernel
theorem dX10_lies_18 : decode cX10_lies 18 = .ok (.iload_n 1, 1) := by decide +kernel
theorem dX10_lies_19 : decode cX10_lies 19 = .ok (.iaload, 1) := by decide +kernel
theorem dX10_lies_20 : decode cX10_lies 20 = .ok (.goto 4, 3) := by decide +kernel
theorem dX10_lies_23 : decode cX10_lies 23 = .ok (.iconst (-1), 1) := by decide +kernel
theorem dX10_lies_24 : decode cX10_lies 24 = .ok (.ireturn, 1) := by decide +kernel
theorem dX10_fresh_0 : decode cX10_fresh 0 = .ok (.iload_n 1, 1) := by decide +kernel
theorem dX10_fresh_1 : decode cX10_fresh 1 = .ok (.iconst 1, 1) := by decide +kernel
theorem dX10_fresh_2 : decode cX10_fresh 2 = .ok (.bipush 99, 2) := by decide +kernel
theorem dX10_fresh_4 : decode cX10_fresh 4 = .ok (.invokestatic 97, 3) := by decide +kernel
theorem dX10_fresh_7 : decode cX10_fresh 7 = .ok (.ifCond .eq 17, 3) := by decide +kernel
theorem dX10_fresh_10 : decode cX10_fresh 10 = .ok (.iload_n 2, 1) := by decide +kernel
theorem dX10_fresh_11 : decode cX10_fresh 11 = .ok (.aload_n 0, 1) := by decide +kernel
theorem dX10_fresh_12 : decode cX10_fresh 12 = .ok (.getfield 25, 3) := by decide +kernel
theorem dX10_fresh_15 : decode cX10_fresh 15 = .ok (.getfield 268, 3) := by decide +kernel
theorem dX10_fresh_18 : decode cX10_fresh 18 = .ok (.iconst (-1), 1) := by decide +kernel
theorem dX10_fresh_19 : decode cX10_fresh 19 = .ok (.ixor, 1) := by decide +kernel
theorem dX10_fresh_20 : decode cX10_fresh 20 = .ok (.iand, 1) := by decide +kernel
theorem dX10_fresh_21 : decode cX10_fresh 21 = .ok (.ifCond .eq 6, 3) := by decide +kernel
theorem dX10_fresh_24 : decode cX10_fresh 24 = .ok (.bipush (-2), 2) := by decide +kernel
theorem dX10_fresh_26 : decode cX10_fresh 26 = .ok (.ireturn, 1) := by decide +kernel
theorem dX10_fresh_27 : decode cX10_fresh 27 = .ok (.aload_n 0, 1) := by decide +kernel
theorem dX10_fresh_28 : decode cX10_fresh 28 = .ok (.getfield 25, 3) := by decide +kernel
theorem dX10_fresh_31 : decode cX10_fresh 31 = .ok (.invokevirtual 313, 3) := by decide +kernel
theorem dX10_fresh_34 : decode cX10_fresh 34 = .ok (.ifCond .ne 5, 3) := by decide +kernel
theorem dX10_fresh_37 : decode cX10_fresh 37 = .ok (.iconst (-1), 1) := by decide +kernel
theorem dX10_fresh_38 : decode cX10_fresh 38 = .ok (.ireturn, 1) := by decide +kernel
theorem dX10_fresh_39 : decode cX10_fresh 39 = .ok (.aload_n 0, 1) := by decide +kernel
theorem dX10_fresh_40 : decode cX10_fresh 40 = .ok (.getfield 25, 3) := by decide +kernel
theorem dX10_fresh_43 : decode cX10_fresh 43 = .ok (.iload_n 2, 1) := by decide +kernel
theorem dX10_fresh_44 : decode cX10_fresh 44 = .ok (.invokevirtual 317, 3) := by decide +kernel
theorem dX10_fresh_47 : decode cX10_fresh 47 = .ok (.istore_n 3, 1) := by decide +kernel
theorem dX10_fresh_48 : decode cX10_fresh 48 = .ok (.iconst (-1), 1) := by decide +kernel
theorem dX10_fresh_49 : decode cX10_fresh 49 = .ok (.istore 4, 2) := by decide +kernel
theorem dX10_fresh_51 : decode cX10_fresh 51 = .ok (.iconst (-1), 1) := by decide +kernel
theorem dX10_fresh_52 : decode cX10_fresh 52 = .ok (.istore 5, 2) := by decide +kernel
theorem dX10_fresh_54 : decode cX10_fresh 54 = .ok (.iconst 0, 1) := by decide +kernel
theorem dX10_fresh_55 : decode cX10_fresh 55 = .ok (.istore 6, 2) := by decide +kernel
theorem dX10_fresh_57 : decode cX10_fresh 57 = .ok (.iload 6, 2) := by decide +kernel
theorem dX10_fresh_59 : decode cX10_fresh 59 = .ok (.bipush 12, 2) := by decide +kernel
theorem dX10_fresh_61 : decode cX10_fresh 61 = .ok (.if_icmp .ge 49, 3) := by decide +kernel
theorem dX10_fresh_64 : decode cX10_fresh 64 = .ok (.aload_n 0, 1) := by decide +kernel
theorem dX10_fresh_65 : decode cX10_fresh 65 = .ok (.getfield 25, 3) := by decide +kernel
theorem dX10_fresh_68 : decode cX10_fresh 68 = .ok (.iload 6, 2) := by decide +kernel
theorem dX10_fresh_70 : decode cX10_fresh 70 = .ok (.iload_n 3, 1) := by decide +kernel
theorem dX10_fresh_71 : decode cX10_fresh 71 = .ok (.invokevirtual 321, 3) := by decide +kernel
theorem dX10_fresh_74 : decode cX10_fresh 74 = .ok (.istore 7, 2) := by decide +kernel
theorem dX10_fresh_76 : decode cX10_fresh 76 = .ok (.iload 7, 2) := by decide +kernel
theorem dX10_fresh_78 : decode cX10_fresh 78 = .ok (.iload 5, 2) := by decide +kernel
theorem dX10_fresh_80 : decode cX10_fresh 80 = .ok (.if_icmp .le 24, 3) := by decide +kernel
theorem dX10_fresh_83 : decode cX10_fresh 83 = .ok (.aload_n 0, 1) := by decide +kernel
theorem dX10_fresh_84 : decode cX10_fresh 84 = .ok (.getfield 25, 3) := by decide +kernel
theorem dX10_fresh_87 : decode cX10_fresh 87 = .ok (.iload 6, 2) := by decide +kernel
theorem dX10_fresh_89 : decode cX10_fresh 89 = .ok (.iload_n 1, 1) := by decide +kernel
theorem dX10_fresh_90 : decode cX10_fresh 90 = .ok (.invokevirtual 324, 3) := by decide +kernel
theorem dX10_fresh_93 : decode cX10_fresh 93 = .ok (.ifCond .ne 11, 3) := by decide +kernel
theorem dX10_fresh_96 : decode cX10_fresh 96 = .ok (.iload 6, 2) := by decide +kernel
theorem dX10_fresh_98 : decode cX10_fresh 98 = .ok (.istore 4, 2) := by decide +kernel
theorem dX10_fresh_100 : decode cX10_fresh 100 = .ok (.iload 7, 2) := by decide +kernel
theorem dX10_fresh_102 : decode cX10_fresh 102 = .ok (.istore 5, 2) := by decide +kernel
theorem dX10_fresh_104 : decode cX10_fresh 104 = .ok (.iinc 6 1, 3) := by decide +kernel
theorem dX10_fresh_107 : decode cX10_fresh 107 = .ok (.goto (-50), 3) := by decide +kernel
theorem dX10_fresh_110 : decode cX10_fresh 110 = .ok (.iload 4, 2) := by decide +kernel
theorem dX10_fresh_112 : decode cX10_fresh 112 = .ok (.ireturn, 1) := by decide +kernel
theorem dX10_image_0 : decode cX10_image 0 = .ok (.iload_n 1, 1) := by decide +kernel
theorem dX10_image_1 : decode cX10_image 1 = .ok (.iconst 0, 1) := by decide +kernel
theorem dX10_image_2 : decode cX10_image 2 = .ok (.iconst 2, 1) := by decide +kernel
theorem dX10_image_3 : decode cX10_image 3 = .ok (.invokestatic 97, 3) := by decide +kernel
theorem dX10_image_6 : decode cX10_image 6 = .ok (.ifCond .ne 5, 3) := by decide +kernel
theorem dX10_image_9 : decode cX10_image 9 = .ok (.iconst (-1), 1) := by decide +kernel
theorem dX10_image_10 : decode cX10_image 10 = .ok (.ireturn, 1) := by decide +kernel
theorem dX10_image_11 : decode cX10_image 11 = .ok (.aload_n 0, 1) := by decide +kernel
theorem dX10_image_12 : decode cX10_image 12 = .ok (.getfield 39, 3) := by decide +kernel
theorem dX10_image_15 : decode cX10_image 15 = .ok (.iload_n 1, 1) := by decide +kernel
theorem dX10_image_16 : decode cX10_image 16 = .ok (.aaload, 1) := by decide +kernel
theorem dX10_image_17 : decode cX10_image 17 = .ok (.aload_n 0, 1) := by decide +kernel
theorem dX10_image_18 : decode cX10_image 18 = .ok (.getfield 35, 3) := by decide +kernel
theorem dX10_image_21 : decode cX10_image 21 = .ok (.invokevirtual 327, 3) := by decide +kernel
theorem dX10_image_24 : decode cX10_image 24 = .ok (.aload_n 0, 1) := by decide +kernel
theorem dX10_image_25 : decode cX10_image 25 = .ok (.dup, 1) := by decide +kernel
theorem dX10_image_26 : decode cX10_image 26 = .ok (.getfield 115, 3) := by decide +kernel
theorem dX10_image_29 : decode cX10_image 29 = .ok (.iconst 1, 1) := by decide +kernel
theorem dX10_image_30 : decode cX10_image 30 = .ok (.iload_n 1, 1) := by decide +kernel
theorem dX10_image_31 : decode cX10_image 31 = .ok (.ishl, 1) := by decide +kernel
theorem dX10_image_32 : decode cX10_image 32 = .ok (.ior, 1) := by decide +kernel
theorem dX10_image_33 : decode cX10_image 33 = .ok (.putfield 115, 3) := by decide +kernel
theorem dX10_image_36 : decode cX10_image 36 = .ok (.aload_n 0, 1) := by decide +kernel
theorem dX10_image_37 : decode cX10_image 37 = .ok (.getfield 35, 3) := by decide +kernel
theorem dX10_image_40 : decode cX10_image 40 = .ok (.getfield 178, 3) := by decide +kernel
theorem dX10_image_43 : decode cX10_image 43 = .ok (.ireturn, 1) := by decide +kernel
theorem dX10_back_0 : decode cX10_back 0 = .ok (.iload_n 1, 1) := by decide +kernel
theorem dX10_back_1 : decode cX10_back 1 = .ok (.iconst 0, 1) := by decide +kernel
theorem dX10_back_2 : decode cX10_back 2 = .ok (.iconst 2, 1) := by decide +kernel
theorem dX10_back_3 : decode cX10_back 3 = .ok (.invokestatic 97, 3) := by decide +kernel
theorem dX10_back_6 : decode cX10_back 6 = .ok (.ifCond .eq 14, 3) := by decide +kernel
theorem dX10_back_9 : decode cX10_back 9 = .ok (.aload_n 0, 1) := by decide +kernel
theorem dX10_back_10 : decode cX10_back 10 = .ok (.getfield 115, 3) := by decide +kernel
theorem dX10_back_13 : decode cX10_back 13 = .ok (.iload_n 1, 1) := by decide +kernel
theorem dX10_back_14 : decode cX10_back 14 = .ok (.ishr, 1) := by decide +kernel
theorem dX10_back_15 : decode cX10_back 15 = .ok (.iconst 1, 1) := by decide +kernel
theorem dX10_back_16 : decode cX10_back 16 = .ok (.iand, 1) := by decide +kernel
theorem dX10_back_17 : decode cX10_back 17 = .ok (.ifCond .ne 5, 3) := by decide +kernel
theorem dX10_back_20 : decode cX10_back 20 = .ok (.iconst (-1), 1) := by decide +kernel
theorem dX10_back_21 : decode cX10_back 21 = .ok (.ireturn, 1) := by decide +kernel
theorem dX10_back_22 : decode cX10_back 22 = .ok (.aload_n 0, 1) := by decide +kernel
theorem dX10_back_23 : decode cX10_back 23 = .ok (.getfield 35, 3) := by decide +kernel
theorem dX10_back_26 : decode cX10_back 26 = .ok (.aload_n 0, 1) := by decide +kernel
theorem dX10_back_27 : decode cX10_back 27 = .ok (.getfield 39, 3) := by decide +kernel
theorem dX10_back_30 : decode cX10_back 30 = .ok (.iload_n 1, 1) := by decide +kernel
theorem dX10_back_31 : decode cX10_back 31 = .ok (.aaload, 1) := by decide +kernel
theorem dX10_back_32 : decode cX10_back 32 = .ok (.invokevirtual 327, 3) := by decide +kernel
theorem dX10_back_35 : decode cX10_back 35 = .ok (.aload_n 0, 1) := by decide +kernel
theorem dX10_back_36 : decode cX10_back 36 = .ok (.getfield 35, 3) := by decide +kernel
theorem dX10_back_39 : decode cX10_back 39 = .ok (.getfield 178, 3) := by decide +kernel
theorem dX10_back_42 : decode cX10_back 42 = .ok (.ireturn, 1) := by decide +kernel
theorem dX10_about_0 : decode cX10_about 0 = .ok (.iload_n 1, 1) := by decide +kernel
theorem dX10_about_1 : decode cX10_about 1 = .ok (.tableswitch 146 0 10 #[59, 67, 75, 91, 99, 107, 115, 123, 131, 136, 141], 59) := by decide +kernel
theorem dX10_about_60 : decode cX10_about 60 = .ok (.aload_n 0, 1) := by decide +kernel
theorem dX10_about_61 : decode cX10_about 61 = .ok (.getfield 25, 3) := by decide +kernel
theorem dX10_about_64 : decode cX10_about 64 = .ok (.getfield 331, 3) := by decide +kernel
theorem dX10_about_67 : decode cX10_about 67 = .ok (.ireturn, 1) := by decide +kernel
theorem dX10_about_68 : decode cX10_about 68 = .ok (.aload_n 0, 1) := by decide +kernel
theorem dX10_about_69 : decode cX10_about 69 = .ok (.getfield 25, 3) := by decide +kernel
theorem dX10_about_72 : decode cX10_about 72 = .ok (.getfield 295, 3) := by decide +kernel
theorem dX10_about_75 : decode cX10_about 75 = .ok (.ireturn, 1) := by decide +kernel
theorem dX10_about_76 : decode cX10_about 76 = .ok (.aload_n 0, 1) := by decide +kernel
theorem dX10_about_77 : decode cX10_about 77 = .ok (.getfield 25, 3) := by decide +kernel
theorem dX10_about_80 : decode cX10_about 80 = .ok (.getfield 122, 3) := by decide +kernel
theorem dX10_about_83 : decode cX10_about 83 = .ok (.aload_n 0, 1) := by decide +kernel
theorem dX10_about_84 : decode cX10_about 84 = .ok (.getfield 25, 3) := by decide +kernel
theorem dX10_about_87 : decode cX10_about 87 = .ok (.getfield 295, 3) := by decide +kernel
theorem dX10_about_90 : decode cX10_about 90 = .ok (.isub, 1) := by decide +kernel
theorem dX10_about_91 : decode cX10_about 91 = .ok (.ireturn, 1) := by decide +kernel
theorem dX10_about_92 : decode cX10_about 92 = .ok (.aload_n 0, 1) := by decide +kernel
theorem dX10_about_93 : decode cX10_about 93 = .ok (.getfield 25, 3) := by decide +kernel
theorem dX10_about_96 : decode cX10_about 96 = .ok (.getfield 334, 3) := by decide +kernel
theorem dX10_about_99 : decode cX10_about 99 = .ok (.ireturn, 1) := by decide +kernel
theorem dX10_about_100 : decode cX10_about 100 = .ok (.aload_n 0, 1) := by decide +kernel
theorem dX10_about_101 : decode cX10_about 101 = .ok (.getfield 35, 3) := by decide +kernel
theorem dX10_about_104 : decode cX10_about 104 = .ok (.getfield 172, 3) := by decide +kernel
theorem dX10_about_107 : decode cX10_about 107 = .ok (.ireturn, 1) := by decide +kernel
theorem dX10_about_108 : decode cX10_about 108 = .ok (.aload_n 0, 1) := by decide +kernel
theorem dX10_about_109 : decode cX10_about 109 = .ok (.getfield 35, 3) := by decide +kernel
theorem dX10_about_112 : decode cX10_about 112 = .ok (.getfield 175, 3) := by decide +kernel
theorem dX10_about_115 : decode cX10_about 115 = .ok (.ireturn, 1) := by decide +kernel
theorem dX10_about_116 : decode cX10_about 116 = .ok (.aload_n 0, 1) := by decide +kernel
theorem dX10_about_117 : decode cX10_about 117 = .ok (.getfield 35, 3) := by decide +kernel
theorem dX10_about_120 : decode cX10_about 120 = .ok (.getfield 178, 3) := by decide +kernel
theorem dX10_about_123 : decode cX10_about 123 = .ok (.ireturn, 1) := by decide +kernel
theorem dX10_about_124 : decode cX10_about 124 = .ok (.aload_n 0, 1) := by decide +kernel
theorem dX10_about_125 : decode cX10_about 125 = .ok (.getfield 46, 3) := by decide +kernel
theorem dX10_about_128 : decode cX10_about 128 = .ok (.getfield 109, 3) := by decide +kernel
theorem dX10_about_131 : decode cX10_about 131 = .ok (.ireturn, 1) := by decide +kernel
theorem dX10_about_132 : decode cX10_about 132 = .ok (.aload_n 0, 1) := by decide +kernel
theorem dX10_about_133 : decode cX10_about 133 = .ok (.getfield 184, 3) := by decide +kernel
theorem dX10_about_136 : decode cX10_about 136 = .ok (.ireturn, 1) := by decide +kernel
theorem dX10_about_137 : decode cX10_about 137 = .ok (.aload_n 0, 1) := by decide +kernel
theorem dX10_about_138 : decode cX10_about 138 = .ok (.getfield 89, 3) := by decide +kernel
theorem dX10_about_141 : decode cX10_about 141 = .ok (.ireturn, 1) := by decide +kernel
