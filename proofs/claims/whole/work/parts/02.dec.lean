theorem dX0_init_0 : decode cX0_init 0 = .ok (.aload_n 0, 1) := by decide +kernel
theorem dX0_init_1 : decode cX0_init 1 = .ok (.invokespecial 3, 3) := by decide +kernel
theorem dX0_init_4 : decode cX0_init 4 = .ok (.aload_n 0, 1) := by decide +kernel
theorem dX0_init_5 : decode cX0_init 5 = .ok (.bipush 10, 2) := by decide +kernel
theorem dX0_init_7 : decode cX0_init 7 = .ok (.newarray .int, 2) := by decide +kernel
theorem dX0_init_9 : decode cX0_init 9 = .ok (.putfield 9, 3) := by decide +kernel
theorem dX0_init_12 : decode cX0_init 12 = .ok (.aload_n 0, 1) := by decide +kernel
theorem dX0_init_13 : decode cX0_init 13 = .ok (.bipush 9, 2) := by decide +kernel
theorem dX0_init_15 : decode cX0_init 15 = .ok (.newarray .int, 2) := by decide +kernel
theorem dX0_init_17 : decode cX0_init 17 = .ok (.putfield 15, 3) := by decide +kernel
theorem dX0_init_20 : decode cX0_init 20 = .ok (.aload_n 0, 1) := by decide +kernel
theorem dX0_init_21 : decode cX0_init 21 = .ok (.bipush 10, 2) := by decide +kernel
theorem dX0_init_23 : decode cX0_init 23 = .ok (.newarray .int, 2) := by decide +kernel
theorem dX0_init_25 : decode cX0_init 25 = .ok (.putfield 18, 3) := by decide +kernel
theorem dX0_init_28 : decode cX0_init 28 = .ok (.aload_n 0, 1) := by decide +kernel
theorem dX0_init_29 : decode cX0_init 29 = .ok (.bipush 16, 2) := by decide +kernel
theorem dX0_init_31 : decode cX0_init 31 = .ok (.newarray .int, 2) := by decide +kernel
theorem dX0_init_33 : decode cX0_init 33 = .ok (.putfield 21, 3) := by decide +kernel
theorem dX0_init_36 : decode cX0_init 36 = .ok (.aload_n 0, 1) := by decide +kernel
theorem dX0_init_37 : decode cX0_init 37 = .ok (.bipush 9, 2) := by decide +kernel
theorem dX0_init_39 : decode cX0_init 39 = .ok (.newarray .int, 2) := by decide +kernel
theorem dX0_init_41 : decode cX0_init 41 = .ok (.putfield 24, 3) := by decide +kernel
theorem dX0_init_44 : decode cX0_init 44 = .ok (.aload_n 0, 1) := by decide +kernel
theorem dX0_init_45 : decode cX0_init 45 = .ok (.bipush 9, 2) := by decide +kernel
theorem dX0_init_47 : decode cX0_init 47 = .ok (.newarray .int, 2) := by decide +kernel
theorem dX0_init_49 : decode cX0_init 49 = .ok (.putfield 27, 3) := by decide +kernel
theorem dX0_init_52 : decode cX0_init 52 = .ok (.aload_n 0, 1) := by decide +kernel
theorem dX0_init_53 : decode cX0_init 53 = .ok (.iconst 4, 1) := by decide +kernel
theorem dX0_init_54 : decode cX0_init 54 = .ok (.newarray .long, 2) := by decide +kernel
theorem dX0_init_56 : decode cX0_init 56 = .ok (.putfield 30, 3) := by decide +kernel
theorem dX0_init_59 : decode cX0_init 59 = .ok (.aload_n 0, 1) := by decide +kernel
theorem dX0_init_60 : decode cX0_init 60 = .ok (.iconst 4, 1) := by decide +kernel
theorem dX0_init_61 : decode cX0_init 61 = .ok (.newarray .long, 2) := by decide +kernel
theorem dX0_init_63 : decode cX0_init 63 = .ok (.putfield 34, 3) := by decide +kernel
theorem dX0_init_66 : decode cX0_init 66 = .ok (.aload_n 0, 1) := by decide +kernel
theorem dX0_init_67 : decode cX0_init 67 = .ok (.new 37, 3) := by decide +kernel
theorem dX0_init_70 : decode cX0_init 70 = .ok (.dup, 1) := by decide +kernel
theorem dX0_init_71 : decode cX0_init 71 = .ok (.invokespecial 39, 3) := by decide +kernel
theorem dX0_init_74 : decode cX0_init 74 = .ok (.putfield 40, 3) := by decide +kernel
theorem dX0_init_77 : decode cX0_init 77 = .ok (.aload_n 0, 1) := by decide +kernel
theorem dX0_init_78 : decode cX0_init 78 = .ok (.bipush 9, 2) := by decide +kernel
theorem dX0_init_80 : decode cX0_init 80 = .ok (.anewarray 44, 3) := by decide +kernel
theorem dX0_init_83 : decode cX0_init 83 = .ok (.putfield 46, 3) := by decide +kernel
theorem dX0_init_86 : decode cX0_init 86 = .ok (.aload_n 0, 1) := by decide +kernel
theorem dX0_init_87 : decode cX0_init 87 = .ok (.new 44, 3) := by decide +kernel
theorem dX0_init_90 : decode cX0_init 90 = .ok (.dup, 1) := by decide +kernel
theorem dX0_init_91 : decode cX0_init 91 = .ok (.invokespecial 50, 3) := by decide +kernel
theorem dX0_init_94 : decode cX0_init 94 = .ok (.putfield 51, 3) := by decide +kernel
theorem dX0_init_97 : decode cX0_init 97 = .ok (.aload_n 0, 1) := by decide +kernel
theorem dX0_init_98 : decode cX0_init 98 = .ok (.new 44, 3) := by decide +kernel
theorem dX0_init_101 : decode cX0_init 101 = .ok (.dup, 1) := by decide +kernel
theorem dX0_init_102 : decode cX0_init 102 = .ok (.invokespecial 50, 3) := by decide +kernel
theorem dX0_init_105 : decode cX0_init 105 = .ok (.putfield 55, 3) := by decide +kernel
theorem dX0_init_108 : decode cX0_init 108 = .ok (.iconst 0, 1) := by decide +kernel
theorem dX0_init_109 : decode cX0_init 109 = .ok (.istore_n 1, 1) := by decide +kernel
theorem dX0_init_110 : decode cX0_init 110 = .ok (.iload_n 1, 1) := by decide +kernel
theorem dX0_init_111 : decode cX0_init 111 = .ok (.bipush 9, 2) := by decide +kernel
theorem dX0_init_113 : decode cX0_init 113 = .ok (.if_icmp .ge 22, 3) := by decide +kernel
theorem dX0_init_116 : decode cX0_init 116 = .ok (.aload_n 0, 1) := by decide +kernel
theorem dX0_init_117 : decode cX0_init 117 = .ok (.getfield 46, 3) := by decide +kernel
theorem dX0_init_120 : decode cX0_init 120 = .ok (.iload_n 1, 1) := by decide +kernel
theorem dX0_init_121 : decode cX0_init 121 = .ok (.new 44, 3) := by decide +kernel
theorem dX0_init_124 : decode cX0_init 124 = .ok (.dup, 1) := by decide +kernel
theorem dX0_init_125 : decode cX0_init 125 = .ok (.invokespecial 50, 3) := by decide +kernel
theorem dX0_init_128 : decode cX0_init 128 = .ok (.aastore, 1) := by decide +kernel
theorem dX0_init_129 : decode cX0_init 129 = .ok (.iinc 1 1, 3) := by decide +kernel
theorem dX0_init_132 : decode cX0_init 132 = .ok (.goto (-22), 3) := by decide +kernel
theorem dX0_init_135 : decode cX0_init 135 = .ok (.return_, 1) := by decide +kernel
theorem dX0_oddsAt_0 : decode cX0_oddsAt 0 = .ok (.aload_n 0, 1) := by decide +kernel
theorem dX0_oddsAt_1 : decode cX0_oddsAt 1 = .ok (.getfield 18, 3) := by decide +kernel
theorem dX0_oddsAt_4 : decode cX0_oddsAt 4 = .ok (.iload_n 1, 1) := by decide +kernel
theorem dX0_oddsAt_5 : decode cX0_oddsAt 5 = .ok (.iconst 0, 1) := by decide +kernel
theorem dX0_oddsAt_6 : decode cX0_oddsAt 6 = .ok (.bipush 8, 2) := by decide +kernel
theorem dX0_oddsAt_8 : decode cX0_oddsAt 8 = .ok (.invokestatic 58, 3) := by decide +kernel
theorem dX0_oddsAt_11 : decode cX0_oddsAt 11 = .ok (.ifCond .eq 7, 3) := by decide +kernel
theorem dX0_oddsAt_14 : decode cX0_oddsAt 14 = .ok (.iload_n 1, 1) := by decide +kernel
theorem dX0_oddsAt_15 : decode cX0_oddsAt 15 = .ok (.goto 5, 3) := by decide +kernel
theorem dX0_oddsAt_18 : decode cX0_oddsAt 18 = .ok (.bipush 9, 2) := by decide +kernel
theorem dX0_oddsAt_20 : decode cX0_oddsAt 20 = .ok (.iaload, 1) := by decide +kernel
theorem dX0_oddsAt_21 : decode cX0_oddsAt 21 = .ok (.ireturn, 1) := by decide +kernel
theorem dX0_shareOut_0 : decode cX0_shareOut 0 = .ok (.iload_n 2, 1) := by decide +kernel
theorem dX0_shareOut_1 : decode cX0_shareOut 1 = .ok (.istore_n 3, 1) := by decide +kernel
theorem dX0_shareOut_2 : decode cX0_shareOut 2 = .ok (.iconst 0, 1) := by decide +kernel
theorem dX0_shareOut_3 : decode cX0_shareOut 3 = .ok (.istore 4, 2) := by decide +kernel
theorem dX0_shareOut_5 : decode cX0_shareOut 5 = .ok (.iload 4, 2) := by decide +kernel
theorem dX0_shareOut_7 : decode cX0_shareOut 7 = .ok (.bipush 9, 2) := by decide +kernel
theorem dX0_shareOut_9 : decode cX0_shareOut 9 = .ok (.if_icmp .ge 19, 3) := by decide +kernel
theorem dX0_shareOut_12 : decode cX0_shareOut 12 = .ok (.iload_n 3, 1) := by decide +kernel
theorem dX0_shareOut_13 : decode cX0_shareOut 13 = .ok (.aload_n 0, 1) := by decide +kernel
theorem dX0_shareOut_14 : decode cX0_shareOut 14 = .ok (.getfield 15, 3) := by decide +kernel
theorem dX0_shareOut_17 : decode cX0_shareOut 17 = .ok (.iload 4, 2) := by decide +kernel
theorem dX0_shareOut_19 : decode cX0_shareOut 19 = .ok (.iaload, 1) := by decide +kernel
theorem dX0_shareOut_20 : decode cX0_shareOut 20 = .ok (.iadd, 1) := by decide +kernel
theorem dX0_shareOut_21 : decode cX0_shareOut 21 = .ok (.istore_n 3, 1) := by decide +kernel
theorem dX0_shareOut_22 : decode cX0_shareOut 22 = .ok (.iinc 4 1, 3) := by decide +kernel
theorem dX0_shareOut_25 : decode cX0_shareOut 25 = .ok (.goto (-20), 3) := by decide +kernel
theorem dX0_shareOut_28 : decode cX0_shareOut 28 = .ok (.ldc 62, 2) := by decide +kernel
theorem dX0_shareOut_30 : decode cX0_shareOut 30 = .ok (.istore 4, 2) := by decide +kernel
theorem dX0_shareOut_32 : decode cX0_shareOut 32 = .ok (.iconst 0, 1) := by decide +kernel
theorem dX0_shareOut_33 : decode cX0_shareOut 33 = .ok (.istore 5, 2) := by decide +kernel
theorem dX0_shareOut_35 : decode cX0_shareOut 35 = .ok (.iload 5, 2) := by decide +kernel
theorem dX0_shareOut_37 : decode cX0_shareOut 37 = .ok (.bipush 9, 2) := by decide +kernel
theorem dX0_shareOut_39 : decode cX0_shareOut 39 = .ok (.if_icmp .ge 89, 3) := by decide +kernel
theorem dX0_shareOut_42 : decode cX0_shareOut 42 = .ok (.aload_n 0, 1) := by decide +kernel
theorem dX0_shareOut_43 : decode cX0_shareOut 43 = .ok (.getfield 15, 3) := by decide +kernel
theorem dX0_shareOut_46 : decode cX0_shareOut 46 = .ok (.iload 5, 2) := by decide +kernel
theorem dX0_shareOut_48 : decode cX0_shareOut 48 = .ok (.iaload, 1) := by decide +kernel
theorem dX0_shareOut_49 : decode cX0_shareOut 49 = .ok (.i2l, 1) := by decide +kernel
theorem dX0_shareOut_50 : decode cX0_shareOut 50 = .ok (.lstore 6, 2) := by decide +kernel
theorem dX0_shareOut_52 : decode cX0_shareOut 52 = .ok (.iload_n 1, 1) := by decide +kernel
theorem dX0_shareOut_53 : decode cX0_shareOut 53 = .ok (.ifCond .eq 9, 3) := by decide +kernel
theorem dX0_shareOut_56 : decode cX0_shareOut 56 = .ok (.iload 4, 2) := by decide +kernel
theorem dX0_shareOut_58 : decode cX0_shareOut 58 = .ok (.i2l, 1) := by decide +kernel
theorem dX0_shareOut_59 : decode cX0_shareOut 59 = .ok (.goto 6, 3) := by decide +kernel
theorem dX0_shareOut_62 : decode cX0_shareOut 62 = .ok (.ldc2_w 63, 3) := by decide +kernel
theorem dX0_shareOut_65 : decode cX0_shareOut 65 = .ok (.lstore 8, 2) := by decide +kernel
theorem dX0_shareOut_67 : decode cX0_shareOut 67 = .ok (.iload_n 1, 1) := by decide +kernel
theorem dX0_shareOut_68 : decode cX0_shareOut 68 = .ok (.ifCond .eq 11, 3) := by decide +kernel
theorem dX0_shareOut_71 : decode cX0_shareOut 71 = .ok (.lload 6, 2) := by decide +kernel
theorem dX0_shareOut_73 : decode cX0_shareOut 73 = .ok (.iload_n 2, 1) := by decide +kernel
theorem dX0_shareOut_74 : decode cX0_shareOut 74 = .ok (.i2l, 1) := by decide +kernel
theorem dX0_shareOut_75 : decode cX0_shareOut 75 = .ok (.ladd, 1) := by decide +kernel
theorem dX0_shareOut_76 : decode cX0_shareOut 76 = .ok (.goto 5, 3) := by decide +kernel
theorem dX0_shareOut_79 : decode cX0_shareOut 79 = .ok (.iload_n 3, 1) := by decide +kernel
theorem dX0_shareOut_80 : decode cX0_shareOut 80 = .ok (.i2l, 1) := by decide +kernel
theorem dX0_shareOut_81 : decode cX0_shareOut 81 = .ok (.lstore 10, 2) := by decide +kernel
theorem dX0_shareOut_83 : decode cX0_shareOut 83 = .ok (.aload_n 0, 1) := by decide +kernel
theorem dX0_shareOut_84 : decode cX0_shareOut 84 = .ok (.getfield 18, 3) := by decide +kernel
theorem dX0_shareOut_87 : decode cX0_shareOut 87 = .ok (.iload 5, 2) := by decide +kernel
theorem dX0_shareOut_89 : decode cX0_shareOut 89 = .ok (.lload 10, 2) := by decide +kernel
theorem dX0_shareOut_91 : decode cX0_shareOut 91 = .ok (.lconst 0, 1) := by decide +kernel
theorem dX0_shareOut_92 : decode cX0_shareOut 92 = .ok (.lcmp, 1) := by decide +kernel
theorem dX0_shareOut_93 : decode cX0_shareOut 93 = .ok (.ifCond .gt 7, 3) := by decide +kernel
theorem dX0_shareOut_96 : decode cX0_shareOut 96 = .ok (.iconst 0, 1) := by decide +kernel
theorem dX0_shareOut_97 : decode cX0_shareOut 97 = .ok (.goto 12, 3) := by decide +kernel
theorem dX0_shareOut_100 : decode cX0_shareOut 100 = .ok (.lload 8, 2) := by decide +kernel
theorem dX0_shareOut_102 : decode cX0_shareOut 102 = .ok (.lload 6, 2) := by decide +kernel
theorem dX0_shareOut_104 : decode cX0_shareOut 104 = .ok (.lmul, 1) := by decide +kernel
theorem dX0_shareOut_105 : decode cX0_shareOut 105 = .ok (.lload 10, 2) := by decide +kernel
theorem dX0_shareOut_107 : decode cX0_shareOut 107 = .ok (.ldiv, 1) := by decide +kernel
theorem dX0_shareOut_108 : decode cX0_shareOut 108 = .ok (.l2i, 1) := by decide +kernel
theorem dX0_shareOut_109 : decode cX0_shareOut 109 = .ok (.iastore, 1) := by decide +kernel
theorem dX0_shareOut_110 : decode cX0_shareOut 110 = .ok (.iload 4, 2) := by decide +kernel
theorem dX0_shareOut_112 : decode cX0_shareOut 112 = .ok (.aload_n 0, 1) := by decide +kernel
theorem dX0_shareOut_113 : decode cX0_shareOut 113 = .ok (.getfield 18, 3) := by decide +kernel
theorem dX0_shareOut_116 : decode cX0_shareOut 116 = .ok (.iload 5, 2) := by decide +kernel
theorem dX0_shareOut_118 : decode cX0_shareOut 118 = .ok (.iaload, 1) := by decide +kernel
theorem dX0_shareOut_119 : decode cX0_shareOut 119 = .ok (.isub, 1) := by decide +kernel
theorem dX0_shareOut_120 : decode cX0_shareOut 120 = .ok (.istore 4, 2) := by decide +kernel
theorem dX0_shareOut_122 : decode cX0_shareOut 122 = .ok (.iinc 5 1, 3) := by decide +kernel
theorem dX0_shareOut_125 : decode cX0_shareOut 125 = .ok (.goto (-90), 3) := by decide +kernel
theorem dX0_shareOut_128 : decode cX0_shareOut 128 = .ok (.aload_n 0, 1) := by decide +kernel
theorem dX0_shareOut_129 : decode cX0_shareOut 129 = .ok (.getfield 18, 3) := by decide +kernel
theorem dX0_shareOut_132 : decode cX0_shareOut 132 = .ok (.bipush 9, 2) := by decide +kernel
theorem dX0_shareOut_134 : decode cX0_shareOut 134 = .ok (.iload 4, 2) := by decide +kernel
theorem dX0_shareOut_136 : decode cX0_shareOut 136 = .ok (.iastore, 1) := by decide +kernel
theorem dX0_shareOut_137 : decode cX0_shareOut 137 = .ok (.return_, 1) := by decide +kernel
theorem dX0_isBettered_0 : decode cX0_isBettered 0 = .ok (.iconst 0, 1) := by decide +kernel
theorem dX0_isBettered_1 : decode cX0_isBettered 1 = .ok (.istore_n 2, 1) := by decide +kernel
theorem dX0_isBettered_2 : decode cX0_isBettered 2 = .ok (.iload_n 2, 1) := by decide +kernel
theorem dX0_isBettered_3 : decode cX0_isBettered 3 = .ok (.iconst 4, 1) := by decide +kernel
theorem dX0_isBettered_4 : decode cX0_isBettered 4 = .ok (.if_icmp .ge 85, 3) := by decide +kernel
theorem dX0_isBettered_7 : decode cX0_isBettered 7 = .ok (.aload_n 0, 1) := by decide +kernel
theorem dX0_isBettered_8 : decode cX0_isBettered 8 = .ok (.getfield 30, 3) := by decide +kernel
theorem dX0_isBettered_11 : decode cX0_isBettered 11 = .ok (.iload_n 2, 1) := by decide +kernel
theorem dX0_isBettered_12 : decode cX0_isBettered 12 = .ok (.laload, 1) := by decide +kernel
theorem dX0_isBettered_13 : decode cX0_isBettered 13 = .ok (.aload_n 0, 1) := by decide +kernel
theorem dX0_isBettered_14 : decode cX0_isBettered 14 = .ok (.getfield 30, 3) := by decide +kernel
theorem dX0_isBettered_17 : decode cX0_isBettered 17 = .ok (.iload_n 1, 1) := by decide +kernel
theorem dX0_isBettered_18 : decode cX0_isBettered 18 = .ok (.laload, 1) := by decide +kernel
theorem dX0_isBettered_19 : decode cX0_isBettered 19 = .ok (.lcmp, 1) := by decide +kernel
theorem dX0_isBettered_20 : decode cX0_isBettered 20 = .ok (.ifCond .ne 19, 3) := by decide +kernel
theorem dX0_isBettered_23 : decode cX0_isBettered 23 = .ok (.aload_n 0, 1) := by decide +kernel
theorem dX0_isBettered_24 : decode cX0_isBettered 24 = .ok (.getfield 34, 3) := by decide +kernel
theorem dX0_isBettered_27 : decode cX0_isBettered 27 = .ok (.iload_n 2, 1) := by decide +kernel
theorem dX0_isBettered_28 : decode cX0_isBettered 28 = .ok (.laload, 1) := by decide +kernel
theorem dX0_isBettered_29 : decode cX0_isBettered 29 = .ok (.aload_n 0, 1) := by decide +kernel
theorem dX0_isBettered_30 : decode cX0_isBettered 30 = .ok (.getfield 34, 3) := by decide +kernel
theorem dX0_isBettered_33 : decode cX0_isBettered 33 = .ok (.iload_n 1, 1) := by decide +kernel
theorem dX0_isBettered_34 : decode cX0_isBettered 34 = .ok (.laload, 1) := by decide +kernel
theorem dX0_isBettered_35 : decode cX0_isBettered 35 = .ok (.lcmp, 1) := by decide +kernel
theorem dX0_isBettered_36 : decode cX0_isBettered 36 = .ok (.ifCond .eq 7, 3) := by decide +kernel
theorem dX0_isBettered_39 : decode cX0_isBettered 39 = .ok (.iconst 1, 1) := by decide +kernel
theorem dX0_isBettered_40 : decode cX0_isBettered 40 = .ok (.goto 4, 3) := by decide +kernel
theorem dX0_isBettered_43 : decode cX0_isBettered 43 = .ok (.iconst 0, 1) := by decide +kernel
theorem dX0_isBettered_44 : decode cX0_isBettered 44 = .ok (.istore_n 3, 1) := by decide +kernel
theorem dX0_isBettered_45 : decode cX0_isBettered 45 = .ok (.iload_n 3, 1) := by decide +kernel
theorem dX0_isBettered_46 : decode cX0_isBettered 46 = .ok (.ifCond .eq 37, 3) := by decide +kernel
theorem dX0_isBettered_49 : decode cX0_isBettered 49 = .ok (.aload_n 0, 1) := by decide +kernel
theorem dX0_isBettered_50 : decode cX0_isBettered 50 = .ok (.getfield 30, 3) := by decide +kernel
theorem dX0_isBettered_53 : decode cX0_isBettered 53 = .ok (.iload_n 2, 1) := by decide +kernel
theorem dX0_isBettered_54 : decode cX0_isBettered 54 = .ok (.laload, 1) := by decide +kernel
theorem dX0_isBettered_55 : decode cX0_isBettered 55 = .ok (.aload_n 0, 1) := by decide +kernel
theorem dX0_isBettered_56 : decode cX0_isBettered 56 = .ok (.getfield 30, 3) := by decide +kernel
theorem dX0_isBettered_59 : decode cX0_isBettered 59 = .ok (.iload_n 1, 1) := by decide +kernel
theorem dX0_isBettered_60 : decode cX0_isBettered 60 = .ok (.laload, 1) := by decide +kernel
theorem dX0_isBettered_61 : decode cX0_isBettered 61 = .ok (.lcmp, 1) := by decide +kernel
theorem dX0_isBettered_62 : decode cX0_isBettered 62 = .ok (.ifCond .lt 21, 3) := by decide +kernel
theorem dX0_isBettered_65 : decode cX0_isBettered 65 = .ok (.aload_n 0, 1) := by decide +kernel
theorem dX0_isBettered_66 : decode cX0_isBettered 66 = .ok (.getfield 34, 3) := by decide +kernel
theorem dX0_isBettered_69 : decode cX0_isBettered 69 = .ok (.iload_n 2, 1) := by decide +kernel
theorem dX0_isBettered_70 : decode cX0_isBettered 70 = .ok (.laload, 1) := by decide +kernel
theorem dX0_isBettered_71 : decode cX0_isBettered 71 = .ok (.aload_n 0, 1) := by decide +kernel
theorem dX0_isBettered_72 : decode cX0_isBettered 72 = .ok (.getfield 34, 3) := by decide +kernel
theorem dX0_isBettered_75 : decode cX0_isBettered 75 = .ok (.iload_n 1, 1) := by decide +kernel
theorem dX0_isBettered_76 : decode cX0_isBettered 76 = .ok (.laload, 1) := by decide +kernel
theorem dX0_isBettered_77 : decode cX0_isBettered 77 = .ok (.lcmp, 1) := by decide +kernel
theorem dX0_isBettered_78 : decode cX0_isBettered 78 = .ok (.ifCond .gt 5, 3) := by decide +kernel
theorem dX0_isBettered_81 : decode cX0_isBettered 81 = .ok (.iconst 1, 1) := by decide +kernel
theorem dX0_isBettered_82 : decode cX0_isBettered 82 = .ok (.ireturn, 1) := by decide +kernel
theorem dX0_isBettered_83 : decode cX0_isBettered 83 = .ok (.iinc 2 1, 3) := by decide +kernel
theorem dX0_isBettered_86 : decode cX0_isBettered 86 = .ok (.goto (-84), 3) := by decide +kernel
theorem dX0_isBettered_89 : decode cX0_isBettered 89 = .ok (.iconst 0, 1) := by decide +kernel
theorem dX0_isBettered_90 : decode cX0_isBettered 90 = .ok (.ireturn, 1) := by decide +kernel
theorem dX0_mockOddsAmong_0 : decode cX0_mockOddsAmong 0 = .ok (.iconst 1, 1) := by decide +kernel
theorem dX0_mockOddsAmong_1 : decode cX0_mockOddsAmong 1 = .ok (.istore_n 3, 1) := by decide +kernel
theorem dX0_mockOddsAmong_2 : decode cX0_mockOddsAmong 2 = .ok (.iconst 0, 1) := by decide +kernel
theorem dX0_mockOddsAmong_3 : decode cX0_mockOddsAmong 3 = .ok (.istore 4, 2) := by decide +kernel
theorem dX0_mockOddsAmong_5 : decode cX0_mockOddsAmong 5 = .ok (.iload 4, 2) := by decide +kernel
theorem dX0_mockOddsAmong_7 : decode cX0_mockOddsAmong 7 = .ok (.bipush 9, 2) := by decide +kernel
theorem dX0_mockOddsAmong_9 : decode cX0_mockOddsAmong 9 = .ok (.if_icmp .ge 51, 3) := by decide +kernel
theorem dX0_mockOddsAmong_12 : decode cX0_mockOddsAmong 12 = .ok (.iload_n 1, 1) := by decide +kernel
theorem dX0_mockOddsAmong_13 : decode cX0_mockOddsAmong 13 = .ok (.iload 4, 2) := by decide +kernel
theorem dX0_mockOddsAmong_15 : decode cX0_mockOddsAmong 15 = .ok (.ishr, 1) := by decide +kernel
theorem dX0_mockOddsAmong_16 : decode cX0_mockOddsAmong 16 = .ok (.iconst 1, 1) := by decide +kernel
theorem dX0_mockOddsAmong_17 : decode cX0_mockOddsAmong 17 = .ok (.iand, 1) := by decide +kernel
theorem dX0_mockOddsAmong_18 : decode cX0_mockOddsAmong 18 = .ok (.iconst 1, 1) := by decide +kernel
theorem dX0_mockOddsAmong_19 : decode cX0_mockOddsAmong 19 = .ok (.if_icmp .ne 35, 3) := by decide +kernel
theorem dX0_mockOddsAmong_22 : decode cX0_mockOddsAmong 22 = .ok (.aload_n 0, 1) := by decide +kernel
theorem dX0_mockOddsAmong_23 : decode cX0_mockOddsAmong 23 = .ok (.getfield 24, 3) := by decide +kernel
theorem dX0_mockOddsAmong_26 : decode cX0_mockOddsAmong 26 = .ok (.iload 4, 2) := by decide +kernel
theorem dX0_mockOddsAmong_28 : decode cX0_mockOddsAmong 28 = .ok (.iaload, 1) := by decide +kernel
theorem dX0_mockOddsAmong_29 : decode cX0_mockOddsAmong 29 = .ok (.iload_n 2, 1) := by decide +kernel
theorem dX0_mockOddsAmong_30 : decode cX0_mockOddsAmong 30 = .ok (.if_icmp .le 5, 3) := by decide +kernel
theorem dX0_mockOddsAmong_33 : decode cX0_mockOddsAmong 33 = .ok (.iconst 0, 1) := by decide +kernel
theorem dX0_mockOddsAmong_34 : decode cX0_mockOddsAmong 34 = .ok (.ireturn, 1) := by decide +kernel
theorem dX0_mockOddsAmong_35 : decode cX0_mockOddsAmong 35 = .ok (.iload_n 3, 1) := by decide +kernel
theorem dX0_mockOddsAmong_36 : decode cX0_mockOddsAmong 36 = .ok (.aload_n 0, 1) := by decide +kernel
theorem dX0_mockOddsAmong_37 : decode cX0_mockOddsAmong 37 = .ok (.getfield 24, 3) := by decide +kernel
theorem dX0_mockOddsAmong_40 : decode cX0_mockOddsAmong 40 = .ok (.iload 4, 2) := by decide +kernel
theorem dX0_mockOddsAmong_42 : decode cX0_mockOddsAmong 42 = .ok (.iaload, 1) := by decide +kernel
theorem dX0_mockOddsAmong_43 : decode cX0_mockOddsAmong 43 = .ok (.iload_n 2, 1) := by decide +kernel
theorem dX0_mockOddsAmong_44 : decode cX0_mockOddsAmong 44 = .ok (.if_icmp .ne 7, 3) := by decide +kernel
theorem dX0_mockOddsAmong_47 : decode cX0_mockOddsAmong 47 = .ok (.iconst 1, 1) := by decide +kernel
theorem dX0_mockOddsAmong_48 : decode cX0_mockOddsAmong 48 = .ok (.goto 4, 3) := by decide +kernel
theorem dX0_mockOddsAmong_51 : decode cX0_mockOddsAmong 51 = .ok (.iconst 0, 1) := by decide +kernel
theorem dX0_mockOddsAmong_52 : decode cX0_mockOddsAmong 52 = .ok (.iadd, 1) := by decide +kernel
theorem dX0_mockOddsAmong_53 : decode cX0_mockOddsAmong 53 = .ok (.istore_n 3, 1) := by decide +kernel
theorem dX0_mockOddsAmong_54 : decode cX0_mockOddsAmong 54 = .ok (.iinc 4 1, 3) := by decide +kernel
theorem dX0_mockOddsAmong_57 : decode cX0_mockOddsAmong 57 = .ok (.goto (-52), 3) := by decide +kernel
theorem dX0_mockOddsAmong_60 : decode cX0_mockOddsAmong 60 = .ok (.iload_n 3, 1) := by decide +kernel
theorem dX0_mockOddsAmong_61 : decode cX0_mockOddsAmong 61 = .ok (.ifCond .gt 7, 3) := by decide +kernel
theorem dX0_mockOddsAmong_64 : decode cX0_mockOddsAmong 64 = .ok (.iconst 0, 1) := by decide +kernel
theorem dX0_mockOddsAmong_65 : decode cX0_mockOddsAmong 65 = .ok (.goto 7, 3) := by decide +kernel
theorem dX0_mockOddsAmong_68 : decode cX0_mockOddsAmong 68 = .ok (.ldc 62, 2) := by decide +kernel
theorem dX0_mockOddsAmong_70 : decode cX0_mockOddsAmong 70 = .ok (.iload_n 3, 1) := by decide +kernel
theorem dX0_mockOddsAmong_71 : decode cX0_mockOddsAmong 71 = .ok (.idiv, 1) := by decide +kernel
theorem dX0_mockOddsAmong_72 : decode cX0_mockOddsAmong 72 = .ok (.ireturn, 1) := by decide +kernel
theorem dX0_apartOf_0 : decode cX0_apartOf 0 = .ok (.iconst 0, 1) := by decide +kernel
theorem dX0_apartOf_1 : decode cX0_apartOf 1 = .ok (.istore_n 2, 1) := by decide +kernel
theorem dX0_apartOf_2 : decode cX0_apartOf 2 = .ok (.iconst 0, 1) := by decide +kernel
theorem dX0_apartOf_3 : decode cX0_apartOf 3 = .ok (.istore_n 3, 1) := by decide +kernel
theorem dX0_apartOf_4 : decode cX0_apartOf 4 = .ok (.iload_n 3, 1) := by decide +kernel
theorem dX0_apartOf_5 : decode cX0_apartOf 5 = .ok (.bipush 9, 2) := by decide +kernel
theorem dX0_apartOf_7 : decode cX0_apartOf 7 = .ok (.if_icmp .ge 31, 3) := by decide +kernel
theorem dX0_apartOf_10 : decode cX0_apartOf 10 = .ok (.iload_n 2, 1) := by decide +kernel
theorem dX0_apartOf_11 : decode cX0_apartOf 11 = .ok (.iload_n 1, 1) := by decide +kernel
theorem dX0_apartOf_12 : decode cX0_apartOf 12 = .ok (.iload_n 3, 1) := by decide +kernel
theorem dX0_apartOf_13 : decode cX0_apartOf 13 = .ok (.ishr, 1) := by decide +kernel
theorem dX0_apartOf_14 : decode cX0_apartOf 14 = .ok (.iconst 1, 1) := by decide +kernel
theorem dX0_apartOf_15 : decode cX0_apartOf 15 = .ok (.iand, 1) := by decide +kernel
theorem dX0_apartOf_16 : decode cX0_apartOf 16 = .ok (.iconst 1, 1) := by decide +kernel
theorem dX0_apartOf_17 : decode cX0_apartOf 17 = .ok (.if_icmp .ne 12, 3) := by decide +kernel
theorem dX0_apartOf_20 : decode cX0_apartOf 20 = .ok (.aload_n 0, 1) := by decide +kernel
theorem dX0_apartOf_21 : decode cX0_apartOf 21 = .ok (.getfield 27, 3) := by decide +kernel
theorem dX0_apartOf_24 : decode cX0_apartOf 24 = .ok (.iload_n 3, 1) := by decide +kernel
theorem dX0_apartOf_25 : decode cX0_apartOf 25 = .ok (.iaload, 1) := by decide +kernel
theorem dX0_apartOf_26 : decode cX0_apartOf 26 = .ok (.goto 4, 3) := by decide +kernel
theorem dX0_apartOf_29 : decode cX0_apartOf 29 = .ok (.iconst 0, 1) := by decide +kernel
theorem dX0_apartOf_30 : decode cX0_apartOf 30 = .ok (.iadd, 1) := by decide +kernel
theorem dX0_apartOf_31 : decode cX0_apartOf 31 = .ok (.istore_n 2, 1) := by decide +kernel
theorem dX0_apartOf_32 : decode cX0_apartOf 32 = .ok (.iinc 3 1, 3) := by decide +kernel
theorem dX0_apartOf_35 : decode cX0_apartOf 35 = .ok (.goto (-31), 3) := by decide +kernel
theorem dX0_apartOf_38 : decode cX0_apartOf 38 = .ok (.iload_n 2, 1) := by decide +kernel
theorem dX0_apartOf_39 : decode cX0_apartOf 39 = .ok (.ireturn, 1) := by decide +kernel
theorem dX0_breed_0 : decode cX0_breed 0 = .ok (.iload_n 1, 1) := by decide +kernel
theorem dX0_breed_1 : decode cX0_breed 1 = .ok (.iconst 0, 1) := by decide +kernel
theorem dX0_breed_2 : decode cX0_breed 2 = .ok (.bipush 8, 2) := by decide +kernel
theorem dX0_breed_4 : decode cX0_breed 4 = .ok (.invokestatic 58, 3) := by decide +kernel
theorem dX0_breed_7 : decode cX0_breed 7 = .ok (.ifCond .eq 13, 3) := by decide +kernel
theorem dX0_breed_10 : decode cX0_breed 10 = .ok (.iload_n 2, 1) := by decide +kernel
theorem dX0_breed_11 : decode cX0_breed 11 = .ok (.iconst 0, 1) := by decide +kernel
theorem dX0_breed_12 : decode cX0_breed 12 = .ok (.bipush 8, 2) := by decide +kernel
theorem dX0_breed_14 : decode cX0_breed 14 = .ok (.invokestatic 58, 3) := by decide +kernel
theorem dX0_breed_17 : decode cX0_breed 17 = .ok (.ifCond .ne 4, 3) := by decide +kernel
theorem dX0_breed_20 : decode cX0_breed 20 = .ok (.return_, 1) := by decide +kernel
theorem dX0_breed_21 : decode cX0_breed 21 = .ok (.aload_n 0, 1) := by decide +kernel
theorem dX0_breed_22 : decode cX0_breed 22 = .ok (.getfield 51, 3) := by decide +kernel
theorem dX0_breed_25 : decode cX0_breed 25 = .ok (.aload_n 0, 1) := by decide +kernel
theorem dX0_breed_26 : decode cX0_breed 26 = .ok (.getfield 46, 3) := by decide +kernel
theorem dX0_breed_29 : decode cX0_breed 29 = .ok (.iload_n 1, 1) := by decide +kernel
theorem dX0_breed_30 : decode cX0_breed 30 = .ok (.aaload, 1) := by decide +kernel
theorem dX0_breed_31 : decode cX0_breed 31 = .ok (.invokevirtual 65, 3) := by decide +kernel
theorem dX0_breed_34 : decode cX0_breed 34 = .ok (.aload_n 0, 1) := by decide +kernel
theorem dX0_breed_35 : decode cX0_breed 35 = .ok (.getfield 55, 3) := by decide +kernel
theorem dX0_breed_38 : decode cX0_breed 38 = .ok (.aload_n 0, 1) := by decide +kernel
theorem dX0_breed_39 : decode cX0_breed 39 = .ok (.getfield 46, 3) := by decide +kernel
theorem dX0_breed_42 : decode cX0_breed 42 = .ok (.iload_n 2, 1) := by decide +kernel
theorem dX0_breed_43 : decode cX0_breed 43 = .ok (.aaload, 1) := by decide +kernel
theorem dX0_breed_44 : decode cX0_breed 44 = .ok (.invokevirtual 65, 3) := by decide +kernel
theorem dX0_breed_47 : decode cX0_breed 47 = .ok (.iconst 0, 1) := by decide +kernel
theorem dX0_breed_48 : decode cX0_breed 48 = .ok (.istore 4, 2) := by decide +kernel
theorem dX0_breed_50 : decode cX0_breed 50 = .ok (.iload 4, 2) := by decide +kernel
theorem dX0_breed_52 : decode cX0_breed 52 = .ok (.bipush 9, 2) := by decide +kernel
theorem dX0_breed_54 : decode cX0_breed 54 = .ok (.if_icmp .ge 23, 3) := by decide +kernel
theorem dX0_breed_57 : decode cX0_breed 57 = .ok (.aload_n 0, 1) := by decide +kernel
theorem dX0_breed_58 : decode cX0_breed 58 = .ok (.aload_n 0, 1) := by decide +kernel
theorem dX0_breed_59 : decode cX0_breed 59 = .ok (.getfield 46, 3) := by decide +kernel
theorem dX0_breed_62 : decode cX0_breed 62 = .ok (.iload 4, 2) := by decide +kernel
theorem dX0_breed_64 : decode cX0_breed 64 = .ok (.aaload, 1) := by decide +kernel
theorem dX0_breed_65 : decode cX0_breed 65 = .ok (.iload 4, 2) := by decide +kernel
theorem dX0_breed_67 : decode cX0_breed 67 = .ok (.iload_n 3, 1) := by decide +kernel
theorem dX0_breed_68 : decode cX0_breed 68 = .ok (.invokevirtual 69, 3) := by decide +kernel
theorem dX0_breed_71 : decode cX0_breed 71 = .ok (.iinc 4 1, 3) := by decide +kernel
theorem dX0_breed_74 : decode cX0_breed 74 = .ok (.goto (-24), 3) := by decide +kernel
theorem dX0_breed_77 : decode cX0_breed 77 = .ok (.return_, 1) := by decide +kernel
theorem dX0_bear_0 : decode cX0_bear 0 = .ok (.aload_n 1, 1) := by decide +kernel
theorem dX0_bear_1 : decode cX0_bear 1 = .ok (.aload_n 0, 1) := by decide +kernel
theorem dX0_bear_2 : decode cX0_bear 2 = .ok (.getfield 51, 3) := by decide +kernel
theorem dX0_bear_5 : decode cX0_bear 5 = .ok (.invokevirtual 65, 3) := by decide +kernel
theorem dX0_bear_8 : decode cX0_bear 8 = .ok (.iconst 0, 1) := by decide +kernel
theorem dX0_bear_9 : decode cX0_bear 9 = .ok (.istore 4, 2) := by decide +kernel
theorem dX0_bear_11 : decode cX0_bear 11 = .ok (.iload 4, 2) := by decide +kernel
theorem dX0_bear_13 : decode cX0_bear 13 = .ok (.bipush 16, 2) := by decide +kernel
theorem dX0_bear_15 : decode cX0_bear 15 = .ok (.if_icmp .ge 53, 3) := by decide +kernel
theorem dX0_bear_18 : decode cX0_bear 18 = .ok (.iload_n 2, 1) := by decide +kernel
theorem dX0_bear_19 : decode cX0_bear 19 = .ok (.iload_n 2, 1) := by decide +kernel
theorem dX0_bear_20 : decode cX0_bear 20 = .ok (.iload 4, 2) := by decide +kernel
theorem dX0_bear_22 : decode cX0_bear 22 = .ok (.iadd, 1) := by decide +kernel
theorem dX0_bear_23 : decode cX0_bear 23 = .ok (.iconst 3, 1) := by decide +kernel
theorem dX0_bear_24 : decode cX0_bear 24 = .ok (.irem, 1) := by decide +kernel
theorem dX0_bear_25 : decode cX0_bear 25 = .ok (.ishr, 1) := by decide +kernel
theorem dX0_bear_26 : decode cX0_bear 26 = .ok (.iconst 1, 1) := by decide +kernel
theorem dX0_bear_27 : decode cX0_bear 27 = .ok (.iand, 1) := by decide +kernel
theorem dX0_bear_28 : decode cX0_bear 28 = .ok (.iconst 1, 1) := by decide +kernel
theorem dX0_bear_29 : decode cX0_bear 29 = .ok (.if_icmp .ne 33, 3) := by decide +kernel
theorem dX0_bear_32 : decode cX0_bear 32 = .ok (.aload_n 1, 1) := by decide +kernel
theorem dX0_bear_33 : decode cX0_bear 33 = .ok (.getfield 73, 3) := by decide +kernel
theorem dX0_bear_36 : decode cX0_bear 36 = .ok (.iload 4, 2) := by decide +kernel
theorem dX0_bear_38 : decode cX0_bear 38 = .ok (.aload_n 0, 1) := by decide +kernel
theorem dX0_bear_39 : decode cX0_bear 39 = .ok (.getfield 51, 3) := by decide +kernel
theorem dX0_bear_42 : decode cX0_bear 42 = .ok (.getfield 73, 3) := by decide +kernel
theorem dX0_bear_45 : decode cX0_bear 45 = .ok (.iload 4, 2) := by decide +kernel
theorem dX0_bear_47 : decode cX0_bear 47 = .ok (.iaload, 1) := by decide +kernel
theorem dX0_bear_48 : decode cX0_bear 48 = .ok (.aload_n 0, 1) := by decide +kernel
theorem dX0_bear_49 : decode cX0_bear 49 = .ok (.getfield 55, 3) := by decide +kernel
theorem dX0_bear_52 : decode cX0_bear 52 = .ok (.getfield 73, 3) := by decide +kernel
theorem dX0_bear_55 : decode cX0_bear 55 = .ok (.iload 4, 2) := by decide +kernel
theorem dX0_bear_57 : decode cX0_bear 57 = .ok (.iaload, 1) := by decide +kernel
theorem dX0_bear_58 : decode cX0_bear 58 = .ok (.iadd, 1) := by decide +kernel
theorem dX0_bear_59 : decode cX0_bear 59 = .ok (.iconst 2, 1) := by decide +kernel
theorem dX0_bear_60 : decode cX0_bear 60 = .ok (.idiv, 1) := by decide +kernel
theorem dX0_bear_61 : decode cX0_bear 61 = .ok (.iastore, 1) := by decide +kernel
theorem dX0_bear_62 : decode cX0_bear 62 = .ok (.iinc 4 1, 3) := by decide +kernel
theorem dX0_bear_65 : decode cX0_bear 65 = .ok (.goto (-54), 3) := by decide +kernel
theorem dX0_bear_68 : decode cX0_bear 68 = .ok (.iload_n 2, 1) := by decide +kernel
theorem dX0_bear_69 : decode cX0_bear 69 = .ok (.ifCond .le 53, 3) := by decide +kernel
theorem dX0_bear_72 : decode cX0_bear 72 = .ok (.iconst 5, 1) := by decide +kernel
theorem dX0_bear_73 : decode cX0_bear 73 = .ok (.iload_n 2, 1) := by decide +kernel
theorem dX0_bear_74 : decode cX0_bear 74 = .ok (.imul, 1) := by decide +kernel
theorem dX0_bear_75 : decode cX0_bear 75 = .ok (.iload_n 3, 1) := by decide +kernel
theorem dX0_bear_76 : decode cX0_bear 76 = .ok (.iadd, 1) := by decide +kernel
theorem dX0_bear_77 : decode cX0_bear 77 = .ok (.bipush 16, 2) := by decide +kernel
theorem dX0_bear_79 : decode cX0_bear 79 = .ok (.invokestatic 76, 3) := by decide +kernel
theorem dX0_bear_82 : decode cX0_bear 82 = .ok (.istore 4, 2) := by decide +kernel
theorem dX0_bear_84 : decode cX0_bear 84 = .ok (.iload_n 2, 1) := by decide +kernel
theorem dX0_bear_85 : decode cX0_bear 85 = .ok (.iconst 2, 1) := by decide +kernel
theorem dX0_bear_86 : decode cX0_bear 86 = .ok (.irem, 1) := by decide +kernel
theorem dX0_bear_87 : decode cX0_bear 87 = .ok (.iconst 1, 1) := by decide +kernel
theorem dX0_bear_88 : decode cX0_bear 88 = .ok (.if_icmp .ne 7, 3) := by decide +kernel
theorem dX0_bear_91 : decode cX0_bear 91 = .ok (.iconst 2, 1) := by decide +kernel
theorem dX0_bear_92 : decode cX0_bear 92 = .ok (.goto 5, 3) := by decide +kernel
theorem dX0_bear_95 : decode cX0_bear 95 = .ok (.bipush (-2), 2) := by decide +kernel
theorem dX0_bear_97 : decode cX0_bear 97 = .ok (.istore 5, 2) := by decide +kernel
theorem dX0_bear_99 : decode cX0_bear 99 = .ok (.aload_n 1, 1) := by decide +kernel
theorem dX0_bear_100 : decode cX0_bear 100 = .ok (.getfield 73, 3) := by decide +kernel
theorem dX0_bear_103 : decode cX0_bear 103 = .ok (.iload 4, 2) := by decide +kernel
theorem dX0_bear_105 : decode cX0_bear 105 = .ok (.aload_n 1, 1) := by decide +kernel
theorem dX0_bear_106 : decode cX0_bear 106 = .ok (.getfield 73, 3) := by decide +kernel
theorem dX0_bear_109 : decode cX0_bear 109 = .ok (.iload 4, 2) := by decide +kernel
theorem dX0_bear_111 : decode cX0_bear 111 = .ok (.iaload, 1) := by decide +kernel
theorem dX0_bear_112 : decode cX0_bear 112 = .ok (.iload 5, 2) := by decide +kernel
theorem dX0_bear_114 : decode cX0_bear 114 = .ok (.iadd, 1) := by decide +kernel
theorem dX0_bear_115 : decode cX0_bear 115 = .ok (.iconst 0, 1) := by decide +kernel
theorem dX0_bear_116 : decode cX0_bear 116 = .ok (.bipush 31, 2) := by decide +kernel
theorem dX0_bear_118 : decode cX0_bear 118 = .ok (.invokestatic 82, 3) := by decide +kernel
theorem dX0_bear_121 : decode cX0_bear 121 = .ok (.iastore, 1) := by decide +kernel
theorem dX0_bear_122 : decode cX0_bear 122 = .ok (.return_, 1) := by decide +kernel
theorem dX1_init_0 : decode cX1_init 0 = .ok (.aload_n 0, 1) := by decide +kernel
theorem dX1_init_1 : decode cX1_init 1 = .ok (.invokespecial 3, 3) := by decide +kernel
theorem dX1_init_4 : decode cX1_init 4 = .ok (.aload_n 0, 1) := by decide +kernel
theorem dX1_init_5 : decode cX1_init 5 = .ok (.bipush 16, 2) := by decide +kernel
theorem dX1_init_7 : decode cX1_init 7 = .ok (.newarray .int, 2) := by decide +kernel
theorem dX1_init_9 : decode cX1_init 9 = .ok (.putfield 9, 3) := by decide +kernel
theorem dX1_init_12 : decode cX1_init 12 = .ok (.aload_n 0, 1) := by decide +kernel
theorem dX1_init_13 : decode cX1_init 13 = .ok (.iconst (-1), 1) := by decide +kernel
theorem dX1_init_14 : decode cX1_init 14 = .ok (.putfield 15, 3) := by decide +kernel
theorem dX1_init_17 : decode cX1_init 17 = .ok (.return_, 1) := by decide +kernel
theorem dX1_setFour_0 : decode cX1_setFour 0 = .ok (.iconst 0, 1) := by decide +kernel
theorem dX1_setFour_1 : decode cX1_setFour 1 = .ok (.istore_n 3, 1) := by decide +kernel
theorem dX1_setFour_2 : decode cX1_setFour 2 = .ok (.iload_n 3, 1) := by decide +kernel
theorem dX1_setFour_3 : decode cX1_setFour 3 = .ok (.iconst 4, 1) := by decide +kernel
theorem dX1_setFour_4 : decode cX1_setFour 4 = .ok (.if_icmp .ge 29, 3) := by decide +kernel
theorem dX1_setFour_7 : decode cX1_setFour 7 = .ok (.aload_n 0, 1) := by decide +kernel
theorem dX1_setFour_8 : decode cX1_setFour 8 = .ok (.getfield 9, 3) := by decide +kernel
theorem dX1_setFour_11 : decode cX1_setFour 11 = .ok (.iload_n 1, 1) := by decide +kernel
theorem dX1_setFour_12 : decode cX1_setFour 12 = .ok (.iload_n 3, 1) := by decide +kernel
theorem dX1_setFour_13 : decode cX1_setFour 13 = .ok (.iadd, 1) := by decide +kernel
theorem dX1_setFour_14 : decode cX1_setFour 14 = .ok (.iload_n 2, 1) := by decide +kernel
theorem dX1_setFour_15 : decode cX1_setFour 15 = .ok (.bipush 24, 2) := by decide +kernel
theorem dX1_setFour_17 : decode cX1_setFour 17 = .ok (.bipush 8, 2) := by decide +kernel
theorem dX1_setFour_19 : decode cX1_setFour 19 = .ok (.iload_n 3, 1) := by decide +kernel
theorem dX1_setFour_20 : decode cX1_setFour 20 = .ok (.imul, 1) := by decide +kernel
theorem dX1_setFour_21 : decode cX1_setFour 21 = .ok (.isub, 1) := by decide +kernel
theorem dX1_setFour_22 : decode cX1_setFour 22 = .ok (.ishr, 1) := by decide +kernel
theorem dX1_setFour_23 : decode cX1_setFour 23 = .ok (.bipush 31, 2) := by decide +kernel
theorem dX1_setFour_25 : decode cX1_setFour 25 = .ok (.iand, 1) := by decide +kernel
theorem dX1_setFour_26 : decode cX1_setFour 26 = .ok (.iastore, 1) := by decide +kernel
theorem dX1_setFour_27 : decode cX1_setFour 27 = .ok (.iinc 3 1, 3) := by decide +kernel
theorem dX1_setFour_30 : decode cX1_setFour 30 = .ok (.goto (-28), 3) := by decide +kernel
theorem dX1_setFour_33 : decode cX1_setFour 33 = .ok (.return_, 1) := by decide +kernel
theorem dX1_copy_0 : decode cX1_copy 0 = .ok (.aload_n 0, 1) := by decide +kernel
theorem dX1_copy_1 : decode cX1_copy 1 = .ok (.aload_n 1, 1) := by decide +kernel
theorem dX1_copy_2 : decode cX1_copy 2 = .ok (.getfield 19, 3) := by decide +kernel
theorem dX1_copy_5 : decode cX1_copy 5 = .ok (.putfield 19, 3) := by decide +kernel
theorem dX1_copy_8 : decode cX1_copy 8 = .ok (.aload_n 0, 1) := by decide +kernel
theorem dX1_copy_9 : decode cX1_copy 9 = .ok (.aload_n 1, 1) := by decide +kernel
theorem dX1_copy_10 : decode cX1_copy 10 = .ok (.getfield 15, 3) := by decide +kernel
theorem dX1_copy_13 : decode cX1_copy 13 = .ok (.putfield 15, 3) := by decide +kernel
theorem dX1_copy_16 : decode cX1_copy 16 = .ok (.aload_n 1, 1) := by decide +kernel
theorem dX1_copy_17 : decode cX1_copy 17 = .ok (.getfield 9, 3) := by decide +kernel
theorem dX1_copy_20 : decode cX1_copy 20 = .ok (.iconst 0, 1) := by decide +kernel
theorem dX1_copy_21 : decode cX1_copy 21 = .ok (.aload_n 0, 1) := by decide +kernel
theorem dX1_copy_22 : decode cX1_copy 22 = .ok (.getfield 9, 3) := by decide +kernel
theorem dX1_copy_25 : decode cX1_copy 25 = .ok (.iconst 0, 1) := by decide +kernel
theorem dX1_copy_26 : decode cX1_copy 26 = .ok (.bipush 16, 2) := by decide +kernel
theorem dX1_copy_28 : decode cX1_copy 28 = .ok (.invokestatic 22, 3) := by decide +kernel
theorem dX1_copy_31 : decode cX1_copy 31 = .ok (.return_, 1) := by decide +kernel
theorem dX1_differenceFrom_0 : decode cX1_differenceFrom 0 = .ok (.aload_n 0, 1) := by decide +kernel
theorem dX1_differenceFrom_1 : decode cX1_differenceFrom 1 = .ok (.getfield 9, 3) := by decide +kernel
theorem dX1_differenceFrom_4 : decode cX1_differenceFrom 4 = .ok (.aload_n 1, 1) := by decide +kernel
theorem dX1_differenceFrom_5 : decode cX1_differenceFrom 5 = .ok (.iconst 0, 1) := by decide +kernel
theorem dX1_differenceFrom_6 : decode cX1_differenceFrom 6 = .ok (.bipush 16, 2) := by decide +kernel
theorem dX1_differenceFrom_8 : decode cX1_differenceFrom 8 = .ok (.invokestatic 28, 3) := by decide +kernel
theorem dX1_differenceFrom_11 : decode cX1_differenceFrom 11 = .ok (.ireturn, 1) := by decide +kernel
theorem dX2_init_0 : decode cX2_init 0 = .ok (.aload_n 0, 1) := by decide +kernel
theorem dX2_init_1 : decode cX2_init 1 = .ok (.invokespecial 3, 3) := by decide +kernel
theorem dX2_init_4 : decode cX2_init 4 = .ok (.aload_n 0, 1) := by decide +kernel
theorem dX2_init_5 : decode cX2_init 5 = .ok (.sipush 400, 3) := by decide +kernel
theorem dX2_init_8 : decode cX2_init 8 = .ok (.newarray .int, 2) := by decide +kernel
theorem dX2_init_10 : decode cX2_init 10 = .ok (.putfield 9, 3) := by decide +kernel
theorem dX2_init_13 : decode cX2_init 13 = .ok (.aload_n 0, 1) := by decide +kernel
theorem dX2_init_14 : decode cX2_init 14 = .ok (.sipush 400, 3) := by decide +kernel
theorem dX2_init_17 : decode cX2_init 17 = .ok (.newarray .int, 2) := by decide +kernel
theorem dX2_init_19 : decode cX2_init 19 = .ok (.putfield 15, 3) := by decide +kernel
theorem dX2_init_22 : decode cX2_init 22 = .ok (.aload_n 0, 1) := by decide +kernel
theorem dX2_init_23 : decode cX2_init 23 = .ok (.bipush 8, 2) := by decide +kernel
theorem dX2_init_25 : decode cX2_init 25 = .ok (.newarray .int, 2) := by decide +kernel
theorem dX2_init_27 : decode cX2_init 27 = .ok (.putfield 18, 3) := by decide +kernel
theorem dX2_init_30 : decode cX2_init 30 = .ok (.aload_n 0, 1) := by decide +kernel
theorem dX2_init_31 : decode cX2_init 31 = .ok (.bipush 8, 2) := by decide +kernel
theorem dX2_init_33 : decode cX2_init 33 = .ok (.newarray .int, 2) := by decide +kernel
theorem dX2_init_35 : decode cX2_init 35 = .ok (.putfield 21, 3) := by decide +kernel
theorem dX2_init_38 : decode cX2_init 38 = .ok (.aload_n 0, 1) := by decide +kernel
theorem dX2_init_39 : decode cX2_init 39 = .ok (.bipush 24, 2) := by decide +kernel
theorem dX2_init_41 : decode cX2_init 41 = .ok (.newarray .int, 2) := by decide +kernel
theorem dX2_init_43 : decode cX2_init 43 = .ok (.putfield 24, 3) := by decide +kernel
theorem dX2_init_46 : decode cX2_init 46 = .ok (.return_, 1) := by decide +kernel
theorem dX2_empty_0 : decode cX2_empty 0 = .ok (.aload_n 0, 1) := by decide +kernel
theorem dX2_empty_1 : decode cX2_empty 1 = .ok (.iconst 0, 1) := by decide +kernel
theorem dX2_empty_2 : decode cX2_empty 2 = .ok (.putfield 27, 3) := by decide +kernel
theorem dX2_empty_5 : decode cX2_empty 5 = .ok (.aload_n 0, 1) := by decide +kernel
theorem dX2_empty_6 : decode cX2_empty 6 = .ok (.iconst 0, 1) := by decide +kernel
theorem dX2_empty_7 : decode cX2_empty 7 = .ok (.putfield 31, 3) := by decide +kernel
theorem dX2_empty_10 : decode cX2_empty 10 = .ok (.aload_n 0, 1) := by decide +kernel
theorem dX2_empty_11 : decode cX2_empty 11 = .ok (.getfield 18, 3) := by decide +kernel
theorem dX2_empty_14 : decode cX2_empty 14 = .ok (.iconst 0, 1) := by decide +kernel
theorem dX2_empty_15 : decode cX2_empty 15 = .ok (.invokestatic 34, 3) := by decide +kernel
theorem dX2_empty_18 : decode cX2_empty 18 = .ok (.aload_n 0, 1) := by decide +kernel
theorem dX2_empty_19 : decode cX2_empty 19 = .ok (.getfield 21, 3) := by decide +kernel
theorem dX2_empty_22 : decode cX2_empty 22 = .ok (.iconst 0, 1) := by decide +kernel
theorem dX2_empty_23 : decode cX2_empty 23 = .ok (.invokestatic 34, 3) := by decide +kernel
theorem dX2_empty_26 : decode cX2_empty 26 = .ok (.return_, 1) := by decide +kernel
theorem dX2_has_0 : decode cX2_has 0 = .ok (.aload_n 0, 1) := by decide +kernel
theorem dX2_has_1 : decode cX2_has 1 = .ok (.getfield 21, 3) := by decide +kernel
theorem dX2_has_4 : decode cX2_has 4 = .ok (.iload_n 1, 1) := by decide +kernel
theorem dX2_has_5 : decode cX2_has 5 = .ok (.iaload, 1) := by decide +kernel
theorem dX2_has_6 : decode cX2_has 6 = .ok (.aload_n 0, 1) := by decide +kernel
theorem dX2_has_7 : decode cX2_has 7 = .ok (.getfield 18, 3) := by decide +kernel
theorem dX2_has_10 : decode cX2_has 10 = .ok (.iload_n 1, 1) := by decide +kernel
theorem dX2_has_11 : decode cX2_has 11 = .ok (.iaload, 1) := by decide +kernel
theorem dX2_has_12 : decode cX2_has 12 = .ok (.if_icmp .le 7, 3) := by decide +kernel
theorem dX2_has_15 : decode cX2_has 15 = .ok (.iconst 1, 1) := by decide +kernel
theorem dX2_has_16 : decode cX2_has 16 = .ok (.goto 4, 3) := by decide +kernel
theorem dX2_has_19 : decode cX2_has 19 = .ok (.iconst 0, 1) := by decide +kernel
theorem dX2_has_20 : decode cX2_has 20 = .ok (.ireturn, 1) := by decide +kernel
theorem dX2_open_0 : decode cX2_open 0 = .ok (.aload_n 0, 1) := by decide +kernel
theorem dX2_open_1 : decode cX2_open 1 = .ok (.getfield 18, 3) := by decide +kernel
theorem dX2_open_4 : decode cX2_open 4 = .ok (.iload_n 1, 1) := by decide +kernel
theorem dX2_open_5 : decode cX2_open 5 = .ok (.aload_n 0, 1) := by decide +kernel
theorem dX2_open_6 : decode cX2_open 6 = .ok (.getfield 27, 3) := by decide +kernel
theorem dX2_open_9 : decode cX2_open 9 = .ok (.iastore, 1) := by decide +kernel
theorem dX2_open_10 : decode cX2_open 10 = .ok (.return_, 1) := by decide +kernel
theorem dX2_close_0 : decode cX2_close 0 = .ok (.aload_n 0, 1) := by decide +kernel
theorem dX2_close_1 : decode cX2_close 1 = .ok (.getfield 21, 3) := by decide +kernel
theorem dX2_close_4 : decode cX2_close 4 = .ok (.iload_n 1, 1) := by decide +kernel
theorem dX2_close_5 : decode cX2_close 5 = .ok (.aload_n 0, 1) := by decide +kernel
theorem dX2_close_6 : decode cX2_close 6 = .ok (.getfield 27, 3) := by decide +kernel
theorem dX2_close_9 : decode cX2_close 9 = .ok (.iastore, 1) := by decide +kernel
theorem dX2_close_10 : decode cX2_close 10 = .ok (.aload_n 0, 1) := by decide +kernel
theorem dX2_close_11 : decode cX2_close 11 = .ok (.dup, 1) := by decide +kernel
theorem dX2_close_12 : decode cX2_close 12 = .ok (.getfield 31, 3) := by decide +kernel
theorem dX2_close_15 : decode cX2_close 15 = .ok (.iconst 1, 1) := by decide +kernel
theorem dX2_close_16 : decode cX2_close 16 = .ok (.iadd, 1) := by decide +kernel
theorem dX2_close_17 : decode cX2_close 17 = .ok (.putfield 31, 3) := by decide +kernel
theorem dX2_close_20 : decode cX2_close 20 = .ok (.return_, 1) := by decide +kernel
theorem dX2_add_0 : decode cX2_add 0 = .ok (.aload_n 0, 1) := by decide +kernel
theorem dX2_add_1 : decode cX2_add 1 = .ok (.getfield 27, 3) := by decide +kernel
theorem dX2_add_4 : decode cX2_add 4 = .ok (.sipush 400, 3) := by decide +kernel
theorem dX2_add_7 : decode cX2_add 7 = .ok (.if_icmp .ge 33, 3) := by decide +kernel
theorem dX2_add_10 : decode cX2_add 10 = .ok (.aload_n 0, 1) := by decide +kernel
theorem dX2_add_11 : decode cX2_add 11 = .ok (.getfield 9, 3) := by decide +kernel
theorem dX2_add_14 : decode cX2_add 14 = .ok (.aload_n 0, 1) := by decide +kernel
theorem dX2_add_15 : decode cX2_add 15 = .ok (.getfield 27, 3) := by decide +kernel
theorem dX2_add_18 : decode cX2_add 18 = .ok (.iload_n 1, 1) := by decide +kernel
theorem dX2_add_19 : decode cX2_add 19 = .ok (.iastore, 1) := by decide +kernel
theorem dX2_add_20 : decode cX2_add 20 = .ok (.aload_n 0, 1) := by decide +kernel
theorem dX2_add_21 : decode cX2_add 21 = .ok (.getfield 15, 3) := by decide +kernel
theorem dX2_add_24 : decode cX2_add 24 = .ok (.aload_n 0, 1) := by decide +kernel
theorem dX2_add_25 : decode cX2_add 25 = .ok (.getfield 27, 3) := by decide +kernel
theorem dX2_add_28 : decode cX2_add 28 = .ok (.iload_n 2, 1) := by decide +kernel
theorem dX2_add_29 : decode cX2_add 29 = .ok (.iastore, 1) := by decide +kernel
theorem dX2_add_30 : decode cX2_add 30 = .ok (.aload_n 0, 1) := by decide +kernel
theorem dX2_add_31 : decode cX2_add 31 = .ok (.dup, 1) := by decide +kernel
theorem dX2_add_32 : decode cX2_add 32 = .ok (.getfield 27, 3) := by decide +kernel
theorem dX2_add_35 : decode cX2_add 35 = .ok (.iconst 1, 1) := by decide +kernel
theorem dX2_add_36 : decode cX2_add 36 = .ok (.iadd, 1) := by decide +kernel
theorem dX2_add_37 : decode cX2_add 37 = .ok (.putfield 27, 3) := by decide +kernel
theorem dX2_add_40 : decode cX2_add 40 = .ok (.return_, 1) := by decide +kernel
theorem dX2_answer_0 : decode cX2_answer 0 = .ok (.getstatic 40, 3) := by decide +kernel
theorem dX2_answer_3 : decode cX2_answer 3 = .ok (.iload_n 1, 1) := by decide +kernel
theorem dX2_answer_4 : decode cX2_answer 4 = .ok (.iaload, 1) := by decide +kernel
theorem dX2_answer_5 : decode cX2_answer 5 = .ok (.istore_n 3, 1) := by decide +kernel
theorem dX2_answer_6 : decode cX2_answer 6 = .ok (.aload_n 0, 1) := by decide +kernel
theorem dX2_answer_7 : decode cX2_answer 7 = .ok (.iload_n 1, 1) := by decide +kernel
theorem dX2_answer_8 : decode cX2_answer 8 = .ok (.invokevirtual 43, 3) := by decide +kernel
theorem dX2_answer_11 : decode cX2_answer 11 = .ok (.ifCond .eq 13, 3) := by decide +kernel
theorem dX2_answer_14 : decode cX2_answer 14 = .ok (.aload_n 0, 1) := by decide +kernel
theorem dX2_answer_15 : decode cX2_answer 15 = .ok (.iload_n 1, 1) := by decide +kernel
theorem dX2_answer_16 : decode cX2_answer 16 = .ok (.aload_n 2, 1) := by decide +kernel
theorem dX2_answer_17 : decode cX2_answer 17 = .ok (.invokevirtual 47, 3) := by decide +kernel
theorem dX2_answer_20 : decode cX2_answer 20 = .ok (.istore_n 3, 1) := by decide +kernel
theorem dX2_answer_21 : decode cX2_answer 21 = .ok (.goto 17, 3) := by decide +kernel
theorem dX2_answer_24 : decode cX2_answer 24 = .ok (.iload_n 1, 1) := by decide +kernel
theorem dX2_answer_25 : decode cX2_answer 25 = .ok (.ifCond .ne 13, 3) := by decide +kernel
theorem dX2_answer_28 : decode cX2_answer 28 = .ok (.aload_n 2, 1) := by decide +kernel
theorem dX2_answer_29 : decode cX2_answer 29 = .ok (.iconst 0, 1) := by decide +kernel
theorem dX2_answer_30 : decode cX2_answer 30 = .ok (.iaload, 1) := by decide +kernel
theorem dX2_answer_31 : decode cX2_answer 31 = .ok (.iconst 2, 1) := by decide +kernel
theorem dX2_answer_32 : decode cX2_answer 32 = .ok (.aload_n 2, 1) := by decide +kernel
theorem dX2_answer_33 : decode cX2_answer 33 = .ok (.iconst 1, 1) := by decide +kernel
theorem dX2_answer_34 : decode cX2_answer 34 = .ok (.iaload, 1) := by decide +kernel
theorem dX2_answer_35 : decode cX2_answer 35 = .ok (.imul, 1) := by decide +kernel
theorem dX2_answer_36 : decode cX2_answer 36 = .ok (.iadd, 1) := by decide +kernel
theorem dX2_answer_37 : decode cX2_answer 37 = .ok (.istore_n 3, 1) := by decide +kernel
theorem dX2_answer_38 : decode cX2_answer 38 = .ok (.getstatic 51, 3) := by decide +kernel
theorem dX2_answer_41 : decode cX2_answer 41 = .ok (.iload_n 1, 1) := by decide +kernel
theorem dX2_answer_42 : decode cX2_answer 42 = .ok (.iaload, 1) := by decide +kernel
theorem dX2_answer_43 : decode cX2_answer 43 = .ok (.getstatic 54, 3) := by decide +kernel
theorem dX2_answer_46 : decode cX2_answer 46 = .ok (.iload_n 1, 1) := by decide +kernel
theorem dX2_answer_47 : decode cX2_answer 47 = .ok (.iaload, 1) := by decide +kernel
theorem dX2_answer_48 : decode cX2_answer 48 = .ok (.iload_n 3, 1) := by decide +kernel
theorem dX2_answer_49 : decode cX2_answer 49 = .ok (.invokestatic 57, 3) := by decide +kernel
theorem dX2_answer_52 : decode cX2_answer 52 = .ok (.invokestatic 63, 3) := by decide +kernel
theorem dX2_answer_55 : decode cX2_answer 55 = .ok (.ireturn, 1) := by decide +kernel
theorem dX2_run_0 : decode cX2_run 0 = .ok (.iconst 0, 1) := by decide +kernel
theorem dX2_run_1 : decode cX2_run 1 = .ok (.istore_n 3, 1) := by decide +kernel
theorem dX2_run_2 : decode cX2_run 2 = .ok (.aload_n 0, 1) := by decide +kernel
theorem dX2_run_3 : decode cX2_run 3 = .ok (.getfield 18, 3) := by decide +kernel
theorem dX2_run_6 : decode cX2_run 6 = .ok (.iload_n 1, 1) := by decide +kernel
theorem dX2_run_7 : decode cX2_run 7 = .ok (.iaload, 1) := by decide +kernel
theorem dX2_run_8 : decode cX2_run 8 = .ok (.istore 4, 2) := by decide +kernel
theorem dX2_run_10 : decode cX2_run 10 = .ok (.iload 4, 2) := by decide +kernel
theorem dX2_run_12 : decode cX2_run 12 = .ok (.aload_n 0, 1) := by decide +kernel
theorem dX2_run_13 : decode cX2_run 13 = .ok (.getfield 21, 3) := by decide +kernel
theorem dX2_run_16 : decode cX2_run 16 = .ok (.iload_n 1, 1) := by decide +kernel
theorem dX2_run_17 : decode cX2_run 17 = .ok (.iaload, 1) := by decide +kernel
theorem dX2_run_18 : decode cX2_run 18 = .ok (.if_icmp .ge 173, 3) := by decide +kernel
theorem dX2_run_21 : decode cX2_run 21 = .ok (.iload 4, 2) := by decide +kernel
theorem dX2_run_23 : decode cX2_run 23 = .ok (.sipush 400, 3) := by decide +kernel
theorem dX2_run_26 : decode cX2_run 26 = .ok (.if_icmp .ge 165, 3) := by decide +kernel
theorem dX2_run_29 : decode cX2_run 29 = .ok (.aload_n 0, 1) := by decide +kernel
theorem dX2_run_30 : decode cX2_run 30 = .ok (.getfield 9, 3) := by decide +kernel
theorem dX2_run_33 : decode cX2_run 33 = .ok (.iload 4, 2) := by decide +kernel
theorem dX2_run_35 : decode cX2_run 35 = .ok (.iaload, 1) := by decide +kernel
theorem dX2_run_36 : decode cX2_run 36 = .ok (.istore 5, 2) := by decide +kernel
theorem dX2_run_38 : decode cX2_run 38 = .ok (.aload_n 0, 1) := by decide +kernel
theorem dX2_run_39 : decode cX2_run 39 = .ok (.getfield 15, 3) := by decide +kernel
theorem dX2_run_42 : decode cX2_run 42 = .ok (.iload 4, 2) := by decide +kernel
theorem dX2_run_44 : decode cX2_run 44 = .ok (.iaload, 1) := by decide +kernel
theorem dX2_run_45 : decode cX2_run 45 = .ok (.istore 6, 2) := by decide +kernel
theorem dX2_run_47 : decode cX2_run 47 = .ok (.iload 5, 2) := by decide +kernel
theorem dX2_run_49 : decode cX2_run 49 = .ok (.ifCond .eq 9, 3) := by decide +kernel
theorem dX2_run_52 : decode cX2_run 52 = .ok (.iload 5, 2) := by decide +kernel
theorem dX2_run_54 : decode cX2_run 54 = .ok (.iconst 1, 1) := by decide +kernel
theorem dX2_run_55 : decode cX2_run 55 = .ok (.if_icmp .ne 35, 3) := by decide +kernel
theorem dX2_run_58 : decode cX2_run 58 = .ok (.iload_n 3, 1) := by decide +kernel
theorem dX2_run_59 : decode cX2_run 59 = .ok (.bipush 24, 2) := by decide +kernel
theorem dX2_run_61 : decode cX2_run 61 = .ok (.if_icmp .ge 124, 3) := by decide +kernel
theorem dX2_run_64 : decode cX2_run 64 = .ok (.aload_n 0, 1) := by decide +kernel
theorem dX2_run_65 : decode cX2_run 65 = .ok (.getfield 24, 3) := by decide +kernel
theorem dX2_run_68 : decode cX2_run 68 = .ok (.iload_n 3, 1) := by decide +kernel
theorem dX2_run_69 : decode cX2_run 69 = .ok (.iload 5, 2) := by decide +kernel
theorem dX2_run_71 : decode cX2_run 71 = .ok (.ifCond .ne 8, 3) := by decide +kernel
theorem dX2_run_74 : decode cX2_run 74 = .ok (.iload 6, 2) := by decide +kernel
theorem dX2_run_76 : decode cX2_run 76 = .ok (.goto 7, 3) := by decide +kernel
theorem dX2_run_79 : decode cX2_run 79 = .ok (.aload_n 2, 1) := by decide +kernel
theorem dX2_run_80 : decode cX2_run 80 = .ok (.iload 6, 2) := by decide +kernel
theorem dX2_run_82 : decode cX2_run 82 = .ok (.iaload, 1) := by decide +kernel
theorem dX2_run_83 : decode cX2_run 83 = .ok (.iastore, 1) := by decide +kernel
theorem dX2_run_84 : decode cX2_run 84 = .ok (.iinc 3 1, 3) := by decide +kernel
theorem dX2_run_87 : decode cX2_run 87 = .ok (.goto 98, 3) := by decide +kernel
theorem dX2_run_90 : decode cX2_run 90 = .ok (.iload 5, 2) := by decide +kernel
theorem dX2_run_92 : decode cX2_run 92 = .ok (.iconst 5, 1) := by decide +kernel
theorem dX2_run_93 : decode cX2_run 93 = .ok (.if_icmp .ne 29, 3) := by decide +kernel
theorem dX2_run_96 : decode cX2_run 96 = .ok (.iload_n 3, 1) := by decide +kernel
theorem dX2_run_97 : decode cX2_run 97 = .ok (.iconst 1, 1) := by decide +kernel
theorem dX2_run_98 : decode cX2_run 98 = .ok (.if_icmp .lt 87, 3) := by decide +kernel
theorem dX2_run_101 : decode cX2_run 101 = .ok (.iload 6, 2) := by decide +kernel
theorem dX2_run_103 : decode cX2_run 103 = .ok (.ifCond .le 82, 3) := by decide +kernel
theorem dX2_run_106 : decode cX2_run 106 = .ok (.aload_n 0, 1) := by decide +kernel
theorem dX2_run_107 : decode cX2_run 107 = .ok (.getfield 24, 3) := by decide +kernel
theorem dX2_run_110 : decode cX2_run 110 = .ok (.iload_n 3, 1) := by decide +kernel
theorem dX2_run_111 : decode cX2_run 111 = .ok (.iconst 1, 1) := by decide +kernel
theorem dX2_run_112 : decode cX2_run 112 = .ok (.isub, 1) := by decide +kernel
theorem dX2_run_113 : decode cX2_run 113 = .ok (.dup2, 1) := by decide +kernel
theorem dX2_run_114 : decode cX2_run 114 = .ok (.iaload, 1) := by decide +kernel
theorem dX2_run_115 : decode cX2_run 115 = .ok (.iload 6, 2) := by decide +kernel
theorem dX2_run_117 : decode cX2_run 117 = .ok (.idiv, 1) := by decide +kernel
theorem dX2_run_118 : decode cX2_run 118 = .ok (.iastore, 1) := by decide +kernel
theorem dX2_run_119 : decode cX2_run 119 = .ok (.goto 66, 3) := by decide +kernel
theorem dX2_run_122 : decode cX2_run 122 = .ok (.iload_n 3, 1) := by decide +kernel
theorem dX2_run_123 : decode cX2_run 123 = .ok (.iconst 2, 1) := by decide +kernel
theorem dX2_run_124 : decode cX2_run 124 = .ok (.if_icmp .lt 61, 3) := by decide +kernel
theorem dX2_run_127 : decode cX2_run 127 = .ok (.iinc 3 (-1), 3) := by decide +kernel
theorem dX2_run_130 : decode cX2_run 130 = .ok (.aload_n 0, 1) := by decide +kernel
theorem dX2_run_131 : decode cX2_run 131 = .ok (.getfield 24, 3) := by decide +kernel
theorem dX2_run_134 : decode cX2_run 134 = .ok (.iload_n 3, 1) := by decide +kernel
theorem dX2_run_135 : decode cX2_run 135 = .ok (.iaload, 1) := by decide +kernel
theorem dX2_run_136 : decode cX2_run 136 = .ok (.istore 7, 2) := by decide +kernel
theorem dX2_run_138 : decode cX2_run 138 = .ok (.iload 5, 2) := by decide +kernel
theorem dX2_run_140 : decode cX2_run 140 = .ok (.iconst 4, 1) := by decide +kernel
theorem dX2_run_141 : decode cX2_run 141 = .ok (.if_icmp .ne 19, 3) := by decide +kernel
theorem dX2_run_144 : decode cX2_run 144 = .ok (.aload_n 0, 1) := by decide +kernel
theorem dX2_run_145 : decode cX2_run 145 = .ok (.getfield 24, 3) := by decide +kernel
theorem dX2_run_148 : decode cX2_run 148 = .ok (.iload_n 3, 1) := by decide +kernel
theorem dX2_run_149 : decode cX2_run 149 = .ok (.iconst 1, 1) := by decide +kernel
theorem dX2_run_150 : decode cX2_run 150 = .ok (.isub, 1) := by decide +kernel
theorem dX2_run_151 : decode cX2_run 151 = .ok (.dup2, 1) := by decide +kernel
theorem dX2_run_152 : decode cX2_run 152 = .ok (.iaload, 1) := by decide +kernel
theorem dX2_run_153 : decode cX2_run 153 = .ok (.iload 7, 2) := by decide +kernel
theorem dX2_run_155 : decode cX2_run 155 = .ok (.imul, 1) := by decide +kernel
theorem dX2_run_156 : decode cX2_run 156 = .ok (.iastore, 1) := by decide +kernel
theorem dX2_run_157 : decode cX2_run 157 = .ok (.goto 28, 3) := by decide +kernel
theorem dX2_run_160 : decode cX2_run 160 = .ok (.aload_n 0, 1) := by decide +kernel
theorem dX2_run_161 : decode cX2_run 161 = .ok (.getfield 24, 3) := by decide +kernel
theorem dX2_run_164 : decode cX2_run 164 = .ok (.iload_n 3, 1) := by decide +kernel
theorem dX2_run_165 : decode cX2_run 165 = .ok (.iconst 1, 1) := by decide +kernel
theorem dX2_run_166 : decode cX2_run 166 = .ok (.isub, 1) := by decide +kernel
theorem dX2_run_167 : decode cX2_run 167 = .ok (.dup2, 1) := by decide +kernel
theorem dX2_run_168 : decode cX2_run 168 = .ok (.iaload, 1) := by decide +kernel
theorem dX2_run_169 : decode cX2_run 169 = .ok (.iload 5, 2) := by decide +kernel
theorem dX2_run_171 : decode cX2_run 171 = .ok (.iconst 2, 1) := by decide +kernel
theorem dX2_run_172 : decode cX2_run 172 = .ok (.if_icmp .ne 8, 3) := by decide +kernel
theorem dX2_run_175 : decode cX2_run 175 = .ok (.iload 7, 2) := by decide +kernel
theorem dX2_run_177 : decode cX2_run 177 = .ok (.goto 6, 3) := by decide +kernel
theorem dX2_run_180 : decode cX2_run 180 = .ok (.iload 7, 2) := by decide +kernel
theorem dX2_run_182 : decode cX2_run 182 = .ok (.ineg, 1) := by decide +kernel
theorem dX2_run_183 : decode cX2_run 183 = .ok (.iadd, 1) := by decide +kernel
theorem dX2_run_184 : decode cX2_run 184 = .ok (.iastore, 1) := by decide +kernel
theorem dX2_run_185 : decode cX2_run 185 = .ok (.iinc 4 1, 3) := by decide +kernel
theorem dX2_run_188 : decode cX2_run 188 = .ok (.goto (-178), 3) := by decide +kernel
theorem dX2_run_191 : decode cX2_run 191 = .ok (.aload_n 0, 1) := by decide +kernel
theorem dX2_run_192 : decode cX2_run 192 = .ok (.getfield 24, 3) := by decide +kernel
theorem dX2_run_195 : decode cX2_run 195 = .ok (.iconst 0, 1) := by decide +kernel
theorem dX2_run_196 : decode cX2_run 196 = .ok (.iaload, 1) := by decide +kernel
theorem dX2_run_197 : decode cX2_run 197 = .ok (.ireturn, 1) := by decide +kernel
theorem dX3_init_0 : decode cX3_init 0 = .ok (.aload_n 0, 1) := by decide +kernel
theorem dX3_init_1 : decode cX3_init 1 = .ok (.invokespecial 3, 3) := by decide +kernel
theorem dX3_init_4 : decode cX3_init 4 = .ok (.aload_n 0, 1) := by decide +kernel
theorem dX3_init_5 : decode cX3_init 5 = .ok (.bipush 16, 2) := by decide +kernel
theorem dX3_init_7 : decode cX3_init 7 = .ok (.newarray .int, 2) := by decide +kernel
theorem dX3_init_9 : decode cX3_init 9 = .ok (.putfield 9, 3) := by decide +kernel
theorem dX3_init_12 : decode cX3_init 12 = .ok (.aload_n 0, 1) := by decide +kernel
theorem dX3_init_13 : decode cX3_init 13 = .ok (.bipush 16, 2) := by decide +kernel
theorem dX3_init_15 : decode cX3_init 15 = .ok (.newarray .int, 2) := by decide +kernel
theorem dX3_init_17 : decode cX3_init 17 = .ok (.putfield 15, 3) := by decide +kernel
theorem dX3_init_20 : decode cX3_init 20 = .ok (.return_, 1) := by decide +kernel
theorem dX3_setSight_0 : decode cX3_setSight 0 = .ok (.aload_n 0, 1) := by decide +kernel
theorem dX3_setSight_1 : decode cX3_setSight 1 = .ok (.iload_n 1, 1) := by decide +kernel
theorem dX3_setSight_2 : decode cX3_setSight 2 = .ok (.putfield 18, 3) := by decide +kernel
theorem dX3_setSight_5 : decode cX3_setSight 5 = .ok (.aload_n 0, 1) := by decide +kernel
theorem dX3_setSight_6 : decode cX3_setSight 6 = .ok (.iload_n 2, 1) := by decide +kernel
theorem dX3_setSight_7 : decode cX3_setSight 7 = .ok (.putfield 22, 3) := by decide +kernel
theorem dX3_setSight_10 : decode cX3_setSight 10 = .ok (.aload_n 0, 1) := by decide +kernel
theorem dX3_setSight_11 : decode cX3_setSight 11 = .ok (.iload_n 3, 1) := by decide +kernel
theorem dX3_setSight_12 : decode cX3_setSight 12 = .ok (.putfield 25, 3) := by decide +kernel
theorem dX3_setSight_15 : decode cX3_setSight 15 = .ok (.aload_n 0, 1) := by decide +kernel
theorem dX3_setSight_16 : decode cX3_setSight 16 = .ok (.iload 4, 2) := by decide +kernel
theorem dX3_setSight_18 : decode cX3_setSight 18 = .ok (.putfield 28, 3) := by decide +kernel
theorem dX3_setSight_21 : decode cX3_setSight 21 = .ok (.aload_n 0, 1) := by decide +kernel
theorem dX3_setSight_22 : decode cX3_setSight 22 = .ok (.iload 5, 2) := by decide +kernel
theorem dX3_setSight_24 : decode cX3_setSight 24 = .ok (.putfield 31, 3) := by decide +kernel
theorem dX3_setSight_27 : decode cX3_setSight 27 = .ok (.aload_n 0, 1) := by decide +kernel
theorem dX3_setSight_28 : decode cX3_setSight 28 = .ok (.iload 6, 2) := by decide +kernel
theorem dX3_setSight_30 : decode cX3_setSight 30 = .ok (.putfield 34, 3) := by decide +kernel
theorem dX3_setSight_33 : decode cX3_setSight 33 = .ok (.return_, 1) := by decide +kernel
theorem dX3_copySight_0 : decode cX3_copySight 0 = .ok (.aload_n 0, 1) := by decide +kernel
theorem dX3_copySight_1 : decode cX3_copySight 1 = .ok (.aload_n 1, 1) := by decide +kernel
theorem dX3_copySight_2 : decode cX3_copySight 2 = .ok (.getfield 18, 3) := by decide +kernel
theorem dX3_copySight_5 : decode cX3_copySight 5 = .ok (.aload_n 1, 1) := by decide +kernel
theorem dX3_copySight_6 : decode cX3_copySight 6 = .ok (.getfield 22, 3) := by decide +kernel
theorem dX3_copySight_9 : decode cX3_copySight 9 = .ok (.aload_n 1, 1) := by decide +kernel
theorem dX3_copySight_10 : decode cX3_copySight 10 = .ok (.getfield 25, 3) := by decide +kernel
theorem dX3_copySight_13 : decode cX3_copySight 13 = .ok (.aload_n 1, 1) := by decide +kernel
theorem dX3_copySight_14 : decode cX3_copySight 14 = .ok (.getfield 28, 3) := by decide +kernel
theorem dX3_copySight_17 : decode cX3_copySight 17 = .ok (.aload_n 1, 1) := by decide +kernel
theorem dX3_copySight_18 : decode cX3_copySight 18 = .ok (.getfield 31, 3) := by decide +kernel
theorem dX3_copySight_21 : decode cX3_copySight 21 = .ok (.aload_n 1, 1) := by decide +kernel
theorem dX3_copySight_22 : decode cX3_copySight 22 = .ok (.getfield 34, 3) := by decide +kernel
theorem dX3_copySight_25 : decode cX3_copySight 25 = .ok (.invokevirtual 37, 3) := by decide +kernel
theorem dX3_copySight_28 : decode cX3_copySight 28 = .ok (.return_, 1) := by decide +kernel
theorem dX3_pullTo_0 : decode cX3_pullTo 0 = .ok (.iconst 0, 1) := by decide +kernel
theorem dX3_pullTo_1 : decode cX3_pullTo 1 = .ok (.istore_n 3, 1) := by decide +kernel
theorem dX3_pullTo_2 : decode cX3_pullTo 2 = .ok (.iload_n 3, 1) := by decide +kernel
theorem dX3_pullTo_3 : decode cX3_pullTo 3 = .ok (.bipush 16, 2) := by decide +kernel
theorem dX3_pullTo_5 : decode cX3_pullTo 5 = .ok (.if_icmp .ge 37, 3) := by decide +kernel
theorem dX3_pullTo_8 : decode cX3_pullTo 8 = .ok (.iload_n 2, 1) := by decide +kernel
theorem dX3_pullTo_9 : decode cX3_pullTo 9 = .ok (.ifCond .eq 33, 3) := by decide +kernel
theorem dX3_pullTo_12 : decode cX3_pullTo 12 = .ok (.aload_n 0, 1) := by decide +kernel
theorem dX3_pullTo_13 : decode cX3_pullTo 13 = .ok (.getfield 9, 3) := by decide +kernel
theorem dX3_pullTo_16 : decode cX3_pullTo 16 = .ok (.iload_n 3, 1) := by decide +kernel
theorem dX3_pullTo_17 : decode cX3_pullTo 17 = .ok (.dup2, 1) := by decide +kernel
theorem dX3_pullTo_18 : decode cX3_pullTo 18 = .ok (.iaload, 1) := by decide +kernel
theorem dX3_pullTo_19 : decode cX3_pullTo 19 = .ok (.iload_n 2, 1) := by decide +kernel
theorem dX3_pullTo_20 : decode cX3_pullTo 20 = .ok (.aload_n 1, 1) := by decide +kernel
theorem dX3_pullTo_21 : decode cX3_pullTo 21 = .ok (.iload_n 3, 1) := by decide +kernel
theorem dX3_pullTo_22 : decode cX3_pullTo 22 = .ok (.iaload, 1) := by decide +kernel
theorem dX3_pullTo_23 : decode cX3_pullTo 23 = .ok (.aload_n 0, 1) := by decide +kernel
theorem dX3_pullTo_24 : decode cX3_pullTo 24 = .ok (.getfield 9, 3) := by decide +kernel
theorem dX3_pullTo_27 : decode cX3_pullTo 27 = .ok (.iload_n 3, 1) := by decide +kernel
theorem dX3_pullTo_28 : decode cX3_pullTo 28 = .ok (.iaload, 1) := by decide +kernel
theorem dX3_pullTo_29 : decode cX3_pullTo 29 = .ok (.isub, 1) := by decide +kernel
theorem dX3_pullTo_30 : decode cX3_pullTo 30 = .ok (.imul, 1) := by decide +kernel
theorem dX3_pullTo_31 : decode cX3_pullTo 31 = .ok (.bipush 100, 2) := by decide +kernel
theorem dX3_pullTo_33 : decode cX3_pullTo 33 = .ok (.idiv, 1) := by decide +kernel
theorem dX3_pullTo_34 : decode cX3_pullTo 34 = .ok (.iadd, 1) := by decide +kernel
theorem dX3_pullTo_35 : decode cX3_pullTo 35 = .ok (.iastore, 1) := by decide +kernel
theorem dX3_pullTo_36 : decode cX3_pullTo 36 = .ok (.iinc 3 1, 3) := by decide +kernel
theorem dX3_pullTo_39 : decode cX3_pullTo 39 = .ok (.goto (-37), 3) := by decide +kernel
theorem dX3_pullTo_42 : decode cX3_pullTo 42 = .ok (.return_, 1) := by decide +kernel
theorem dX4_init_0 : decode cX4_init 0 = .ok (.aload_n 0, 1) := by decide +kernel
theorem dX4_init_1 : decode cX4_init 1 = .ok (.invokespecial 3, 3) := by decide +kernel
theorem dX4_init_4 : decode cX4_init 4 = .ok (.aload_n 0, 1) := by decide +kernel
theorem dX4_init_5 : decode cX4_init 5 = .ok (.bipush 9, 2) := by decide +kernel
theorem dX4_init_7 : decode cX4_init 7 = .ok (.newarray .int, 2) := by decide +kernel
theorem dX4_init_9 : decode cX4_init 9 = .ok (.putfield 9, 3) := by decide +kernel
theorem dX4_init_12 : decode cX4_init 12 = .ok (.return_, 1) := by decide +kernel
theorem dX4_has_0 : decode cX4_has 0 = .ok (.iload_n 1, 1) := by decide +kernel
theorem dX4_has_1 : decode cX4_has 1 = .ok (.ifCond .lt 15, 3) := by decide +kernel
theorem dX4_has_4 : decode cX4_has 4 = .ok (.iload_n 1, 1) := by decide +kernel
theorem dX4_has_5 : decode cX4_has 5 = .ok (.aload_n 0, 1) := by decide +kernel
theorem dX4_has_6 : decode cX4_has 6 = .ok (.getfield 15, 3) := by decide +kernel
theorem dX4_has_9 : decode cX4_has 9 = .ok (.if_icmp .ge 7, 3) := by decide +kernel
theorem dX4_has_12 : decode cX4_has 12 = .ok (.iconst 1, 1) := by decide +kernel
theorem dX4_has_13 : decode cX4_has 13 = .ok (.goto 4, 3) := by decide +kernel
theorem dX4_has_16 : decode cX4_has 16 = .ok (.iconst 0, 1) := by decide +kernel
theorem dX4_has_17 : decode cX4_has 17 = .ok (.ireturn, 1) := by decide +kernel
theorem dX4_faceAt_0 : decode cX4_faceAt 0 = .ok (.iload_n 1, 1) := by decide +kernel
theorem dX4_faceAt_1 : decode cX4_faceAt 1 = .ok (.ifCond .lt 20, 3) := by decide +kernel
theorem dX4_faceAt_4 : decode cX4_faceAt 4 = .ok (.iload_n 1, 1) := by decide +kernel
theorem dX4_faceAt_5 : decode cX4_faceAt 5 = .ok (.aload_n 0, 1) := by decide +kernel
theorem dX4_faceAt_6 : decode cX4_faceAt 6 = .ok (.getfield 15, 3) := by decide +kernel
theorem dX4_faceAt_9 : decode cX4_faceAt 9 = .ok (.if_icmp .ge 12, 3) := by decide +kernel
theorem dX4_faceAt_12 : decode cX4_faceAt 12 = .ok (.aload_n 0, 1) := by decide +kernel
theorem dX4_faceAt_13 : decode cX4_faceAt 13 = .ok (.getfield 9, 3) := by decide +kernel
theorem dX4_faceAt_16 : decode cX4_faceAt 16 = .ok (.iload_n 1, 1) := by decide +kernel
theorem dX4_faceAt_17 : decode cX4_faceAt 17 = .ok (.iaload, 1) := by decide +kernel
theorem dX4_faceAt_18 : decode cX4_faceAt 18 = .ok (.goto 4, 3) := by decide +kernel
theorem dX4_faceAt_21 : decode cX4_faceAt 21 = .ok (.iconst (-1), 1) := by decide +kernel
theorem dX4_faceAt_22 : decode cX4_faceAt 22 = .ok (.ireturn, 1) := by decide +kernel
theorem dX4_countFaces_0 : decode cX4_countFaces 0 = .ok (.iconst 0, 1) := by decide +kernel
theorem dX4_countFaces_1 : decode cX4_countFaces 1 = .ok (.istore_n 1, 1) := by decide +kernel
theorem dX4_countFaces_2 : decode cX4_countFaces 2 = .ok (.iconst 0, 1) := by decide +kernel
theorem dX4_countFaces_3 : decode cX4_countFaces 3 = .ok (.istore_n 2, 1) := by decide +kernel
theorem dX4_countFaces_4 : decode cX4_countFaces 4 = .ok (.iload_n 2, 1) := by decide +kernel
theorem dX4_countFaces_5 : decode cX4_countFaces 5 = .ok (.aload_n 0, 1) := by decide +kernel
theorem dX4_countFaces_6 : decode cX4_countFaces 6 = .ok (.getfield 15, 3) := by decide +kernel
theorem dX4_countFaces_9 : decode cX4_countFaces 9 = .ok (.if_icmp .ge 27, 3) := by decide +kernel
theorem dX4_countFaces_12 : decode cX4_countFaces 12 = .ok (.iload_n 1, 1) := by decide +kernel
theorem dX4_countFaces_13 : decode cX4_countFaces 13 = .ok (.aload_n 0, 1) := by decide +kernel
theorem dX4_countFaces_14 : decode cX4_countFaces 14 = .ok (.getfield 9, 3) := by decide +kernel
theorem dX4_countFaces_17 : decode cX4_countFaces 17 = .ok (.iload_n 2, 1) := by decide +kernel
theorem dX4_countFaces_18 : decode cX4_countFaces 18 = .ok (.iaload, 1) := by decide +kernel
theorem dX4_countFaces_19 : decode cX4_countFaces 19 = .ok (.iconst (-1), 1) := by decide +kernel
theorem dX4_countFaces_20 : decode cX4_countFaces 20 = .ok (.if_icmp .ne 7, 3) := by decide +kernel
theorem dX4_countFaces_23 : decode cX4_countFaces 23 = .ok (.iconst 0, 1) := by decide +kernel
theorem dX4_countFaces_24 : decode cX4_countFaces 24 = .ok (.goto 4, 3) := by decide +kernel
theorem dX4_countFaces_27 : decode cX4_countFaces 27 = .ok (.iconst 1, 1) := by decide +kernel
theorem dX4_countFaces_28 : decode cX4_countFaces 28 = .ok (.iadd, 1) := by decide +kernel
theorem dX4_countFaces_29 : decode cX4_countFaces 29 = .ok (.istore_n 1, 1) := by decide +kernel
theorem dX4_countFaces_30 : decode cX4_countFaces 30 = .ok (.iinc 2 1, 3) := by decide +kernel
theorem dX4_countFaces_33 : decode cX4_countFaces 33 = .ok (.goto (-29), 3) := by decide +kernel
theorem dX4_countFaces_36 : decode cX4_countFaces 36 = .ok (.iload_n 1, 1) := by decide +kernel
theorem dX4_countFaces_37 : decode cX4_countFaces 37 = .ok (.ireturn, 1) := by decide +kernel
theorem dX4_copy_0 : decode cX4_copy 0 = .ok (.aload_n 0, 1) := by decide +kernel
theorem dX4_copy_1 : decode cX4_copy 1 = .ok (.aload_n 1, 1) := by decide +kernel
theorem dX4_copy_2 : decode cX4_copy 2 = .ok (.getfield 15, 3) := by decide +kernel
theorem dX4_copy_5 : decode cX4_copy 5 = .ok (.putfield 15, 3) := by decide +kernel
theorem dX4_copy_8 : decode cX4_copy 8 = .ok (.aload_n 1, 1) := by decide +kernel
theorem dX4_copy_9 : decode cX4_copy 9 = .ok (.getfield 9, 3) := by decide +kernel
theorem dX4_copy_12 : decode cX4_copy 12 = .ok (.iconst 0, 1) := by decide +kernel
theorem dX4_copy_13 : decode cX4_copy 13 = .ok (.aload_n 0, 1) := by decide +kernel
theorem dX4_copy_14 : decode cX4_copy 14 = .ok (.getfield 9, 3) := by decide +kernel
theorem dX4_copy_17 : decode cX4_copy 17 = .ok (.iconst 0, 1) := by decide +kernel
theorem dX4_copy_18 : decode cX4_copy 18 = .ok (.bipush 9, 2) := by decide +kernel
theorem dX4_copy_20 : decode cX4_copy 20 = .ok (.invokestatic 19, 3) := by decide +kernel
theorem dX4_copy_23 : decode cX4_copy 23 = .ok (.return_, 1) := by decide +kernel
theorem dX5_init_0 : decode cX5_init 0 = .ok (.aload_n 0, 1) := by decide +kernel
theorem dX5_init_1 : decode cX5_init 1 = .ok (.invokespecial 3, 3) := by decide +kernel
theorem dX5_init_4 : decode cX5_init 4 = .ok (.aload_n 0, 1) := by decide +kernel
theorem dX5_init_5 : decode cX5_init 5 = .ok (.bipush 12, 2) := by decide +kernel
theorem dX5_init_7 : decode cX5_init 7 = .ok (.newarray .int, 2) := by decide +kernel
theorem dX5_init_9 : decode cX5_init 9 = .ok (.putfield 11, 3) := by decide +kernel
theorem dX5_init_12 : decode cX5_init 12 = .ok (.aload_n 0, 1) := by decide +kernel
theorem dX5_init_13 : decode cX5_init 13 = .ok (.bipush 12, 2) := by decide +kernel
theorem dX5_init_15 : decode cX5_init 15 = .ok (.newarray .int, 2) := by decide +kernel
theorem dX5_init_17 : decode cX5_init 17 = .ok (.putfield 15, 3) := by decide +kernel
theorem dX5_init_20 : decode cX5_init 20 = .ok (.aload_n 0, 1) := by decide +kernel
theorem dX5_init_21 : decode cX5_init 21 = .ok (.bipush 12, 2) := by decide +kernel
theorem dX5_init_23 : decode cX5_init 23 = .ok (.newarray .int, 2) := by decide +kernel
theorem dX5_init_25 : decode cX5_init 25 = .ok (.putfield 18, 3) := by decide +kernel
theorem dX5_init_28 : decode cX5_init 28 = .ok (.return_, 1) := by decide +kernel
theorem dX5_set_0 : decode cX5_set 0 = .ok (.iload_n 1, 1) := by decide +kernel
theorem dX5_set_1 : decode cX5_set 1 = .ok (.iconst 0, 1) := by decide +kernel
theorem dX5_set_2 : decode cX5_set 2 = .ok (.bipush 11, 2) := by decide +kernel
theorem dX5_set_4 : decode cX5_set 4 = .ok (.invokestatic 21, 3) := by decide +kernel
theorem dX5_set_7 : decode cX5_set 7 = .ok (.ifCond .eq 25, 3) := by decide +kernel
theorem dX5_set_10 : decode cX5_set 10 = .ok (.aload_n 0, 1) := by decide +kernel
theorem dX5_set_11 : decode cX5_set 11 = .ok (.getfield 11, 3) := by decide +kernel
theorem dX5_set_14 : decode cX5_set 14 = .ok (.iload_n 1, 1) := by decide +kernel
theorem dX5_set_15 : decode cX5_set 15 = .ok (.iload_n 2, 1) := by decide +kernel
theorem dX5_set_16 : decode cX5_set 16 = .ok (.iastore, 1) := by decide +kernel
theorem dX5_set_17 : decode cX5_set 17 = .ok (.aload_n 0, 1) := by decide +kernel
theorem dX5_set_18 : decode cX5_set 18 = .ok (.getfield 15, 3) := by decide +kernel
theorem dX5_set_21 : decode cX5_set 21 = .ok (.iload_n 1, 1) := by decide +kernel
theorem dX5_set_22 : decode cX5_set 22 = .ok (.iload_n 3, 1) := by decide +kernel
theorem dX5_set_23 : decode cX5_set 23 = .ok (.iastore, 1) := by decide +kernel
theorem dX5_set_24 : decode cX5_set 24 = .ok (.aload_n 0, 1) := by decide +kernel
theorem dX5_set_25 : decode cX5_set 25 = .ok (.getfield 18, 3) := by decide +kernel
theorem dX5_set_28 : decode cX5_set 28 = .ok (.iload_n 1, 1) := by decide +kernel
theorem dX5_set_29 : decode cX5_set 29 = .ok (.iload 4, 2) := by decide +kernel
theorem dX5_set_31 : decode cX5_set 31 = .ok (.iastore, 1) := by decide +kernel
theorem dX5_set_32 : decode cX5_set 32 = .ok (.return_, 1) := by decide +kernel
theorem dX5_countSo_0 : decode cX5_countSo 0 = .ok (.iconst 0, 1) := by decide +kernel
theorem dX5_countSo_1 : decode cX5_countSo 1 = .ok (.istore_n 2, 1) := by decide +kernel
theorem dX5_countSo_2 : decode cX5_countSo 2 = .ok (.iconst 0, 1) := by decide +kernel
theorem dX5_countSo_3 : decode cX5_countSo 3 = .ok (.istore_n 3, 1) := by decide +kernel
theorem dX5_countSo_4 : decode cX5_countSo 4 = .ok (.iload_n 3, 1) := by decide +kernel
theorem dX5_countSo_5 : decode cX5_countSo 5 = .ok (.aload_n 0, 1) := by decide +kernel
theorem dX5_countSo_6 : decode cX5_countSo 6 = .ok (.getfield 25, 3) := by decide +kernel
theorem dX5_countSo_9 : decode cX5_countSo 9 = .ok (.if_icmp .ge 32, 3) := by decide +kernel
theorem dX5_countSo_12 : decode cX5_countSo 12 = .ok (.iload_n 3, 1) := by decide +kernel
theorem dX5_countSo_13 : decode cX5_countSo 13 = .ok (.bipush 12, 2) := by decide +kernel
theorem dX5_countSo_15 : decode cX5_countSo 15 = .ok (.if_icmp .ge 26, 3) := by decide +kernel
theorem dX5_countSo_18 : decode cX5_countSo 18 = .ok (.iload_n 2, 1) := by decide +kernel
theorem dX5_countSo_19 : decode cX5_countSo 19 = .ok (.aload_n 0, 1) := by decide +kernel
theorem dX5_countSo_20 : decode cX5_countSo 20 = .ok (.iload_n 3, 1) := by decide +kernel
theorem dX5_countSo_21 : decode cX5_countSo 21 = .ok (.aload_n 1, 1) := by decide +kernel
theorem dX5_countSo_22 : decode cX5_countSo 22 = .ok (.invokevirtual 29, 3) := by decide +kernel
theorem dX5_countSo_25 : decode cX5_countSo 25 = .ok (.ifCond .eq 7, 3) := by decide +kernel
theorem dX5_countSo_28 : decode cX5_countSo 28 = .ok (.iconst 1, 1) := by decide +kernel
theorem dX5_countSo_29 : decode cX5_countSo 29 = .ok (.goto 4, 3) := by decide +kernel
theorem dX5_countSo_32 : decode cX5_countSo 32 = .ok (.iconst 0, 1) := by decide +kernel
theorem dX5_countSo_33 : decode cX5_countSo 33 = .ok (.iadd, 1) := by decide +kernel
theorem dX5_countSo_34 : decode cX5_countSo 34 = .ok (.istore_n 2, 1) := by decide +kernel
theorem dX5_countSo_35 : decode cX5_countSo 35 = .ok (.iinc 3 1, 3) := by decide +kernel
theorem dX5_countSo_38 : decode cX5_countSo 38 = .ok (.goto (-34), 3) := by decide +kernel
theorem dX5_countSo_41 : decode cX5_countSo 41 = .ok (.iload_n 2, 1) := by decide +kernel
theorem dX5_countSo_42 : decode cX5_countSo 42 = .ok (.ireturn, 1) := by decide +kernel
theorem dX5_isSo_0 : decode cX5_isSo 0 = .ok (.aload_n 0, 1) := by decide +kernel
theorem dX5_isSo_1 : decode cX5_isSo 1 = .ok (.getfield 11, 3) := by decide +kernel
theorem dX5_isSo_4 : decode cX5_isSo 4 = .ok (.iload_n 1, 1) := by decide +kernel
theorem dX5_isSo_5 : decode cX5_isSo 5 = .ok (.iaload, 1) := by decide +kernel
theorem dX5_isSo_6 : decode cX5_isSo 6 = .ok (.iconst 0, 1) := by decide +kernel
theorem dX5_isSo_7 : decode cX5_isSo 7 = .ok (.bipush 15, 2) := by decide +kernel
theorem dX5_isSo_9 : decode cX5_isSo 9 = .ok (.invokestatic 21, 3) := by decide +kernel
theorem dX5_isSo_12 : decode cX5_isSo 12 = .ok (.ifCond .ne 5, 3) := by decide +kernel
theorem dX5_isSo_15 : decode cX5_isSo 15 = .ok (.iconst 0, 1) := by decide +kernel
theorem dX5_isSo_16 : decode cX5_isSo 16 = .ok (.ireturn, 1) := by decide +kernel
theorem dX5_isSo_17 : decode cX5_isSo 17 = .ok (.aload_n 2, 1) := by decide +kernel
theorem dX5_isSo_18 : decode cX5_isSo 18 = .ok (.aload_n 0, 1) := by decide +kernel
theorem dX5_isSo_19 : decode cX5_isSo 19 = .ok (.getfield 11, 3) := by decide +kernel
theorem dX5_isSo_22 : decode cX5_isSo 22 = .ok (.iload_n 1, 1) := by decide +kernel
theorem dX5_isSo_23 : decode cX5_isSo 23 = .ok (.iaload, 1) := by decide +kernel
theorem dX5_isSo_24 : decode cX5_isSo 24 = .ok (.iaload, 1) := by decide +kernel
theorem dX5_isSo_25 : decode cX5_isSo 25 = .ok (.aload_n 0, 1) := by decide +kernel
theorem dX5_isSo_26 : decode cX5_isSo 26 = .ok (.getfield 18, 3) := by decide +kernel
theorem dX5_isSo_29 : decode cX5_isSo 29 = .ok (.iload_n 1, 1) := by decide +kernel
theorem dX5_isSo_30 : decode cX5_isSo 30 = .ok (.iaload, 1) := by decide +kernel
theorem dX5_isSo_31 : decode cX5_isSo 31 = .ok (.invokestatic 33, 3) := by decide +kernel
theorem dX5_isSo_34 : decode cX5_isSo 34 = .ok (.istore_n 3, 1) := by decide +kernel
theorem dX5_isSo_35 : decode cX5_isSo 35 = .ok (.aload_n 0, 1) := by decide +kernel
theorem dX5_isSo_36 : decode cX5_isSo 36 = .ok (.getfield 15, 3) := by decide +kernel
theorem dX5_isSo_39 : decode cX5_isSo 39 = .ok (.iload_n 1, 1) := by decide +kernel
theorem dX5_isSo_40 : decode cX5_isSo 40 = .ok (.iaload, 1) := by decide +kernel
theorem dX5_isSo_41 : decode cX5_isSo 41 = .ok (.lookupswitch 47 #[(60, 27), (61, 37)], 27) := by decide +kernel
theorem dX5_isSo_68 : decode cX5_isSo 68 = .ok (.iload_n 3, 1) := by decide +kernel
theorem dX5_isSo_69 : decode cX5_isSo 69 = .ok (.ifCond .ge 7, 3) := by decide +kernel
theorem dX5_isSo_72 : decode cX5_isSo 72 = .ok (.iconst 1, 1) := by decide +kernel
theorem dX5_isSo_73 : decode cX5_isSo 73 = .ok (.goto 4, 3) := by decide +kernel
theorem dX5_isSo_76 : decode cX5_isSo 76 = .ok (.iconst 0, 1) := by decide +kernel
theorem dX5_isSo_77 : decode cX5_isSo 77 = .ok (.ireturn, 1) := by decide +kernel
theorem dX5_isSo_78 : decode cX5_isSo 78 = .ok (.iload_n 3, 1) := by decide +kernel
theorem dX5_isSo_79 : decode cX5_isSo 79 = .ok (.ifCond .ne 7, 3) := by decide +kernel
theorem dX5_isSo_82 : decode cX5_isSo 82 = .ok (.iconst 1, 1) := by decide +kernel
theorem dX5_isSo_83 : decode cX5_isSo 83 = .ok (.goto 4, 3) := by decide +kernel
theorem dX5_isSo_86 : decode cX5_isSo 86 = .ok (.iconst 0, 1) := by decide +kernel
theorem dX5_isSo_87 : decode cX5_isSo 87 = .ok (.ireturn, 1) := by decide +kernel
theorem dX5_isSo_88 : decode cX5_isSo 88 = .ok (.iload_n 3, 1) := by decide +kernel
theorem dX5_isSo_89 : decode cX5_isSo 89 = .ok (.ifCond .le 7, 3) := by decide +kernel
theorem dX5_isSo_92 : decode cX5_isSo 92 = .ok (.iconst 1, 1) := by decide +kernel
theorem dX5_isSo_93 : decode cX5_isSo 93 = .ok (.goto 4, 3) := by decide +kernel
theorem dX5_isSo_96 : decode cX5_isSo 96 = .ok (.iconst 0, 1) := by decide +kernel
theorem dX5_isSo_97 : decode cX5_isSo 97 = .ok (.ireturn, 1) := by decide +kernel
theorem dX6_init_0 : decode cX6_init 0 = .ok (.aload_n 0, 1) := by decide +kernel
theorem dX6_init_1 : decode cX6_init 1 = .ok (.invokespecial 1, 3) := by decide +kernel
theorem dX6_init_4 : decode cX6_init 4 = .ok (.aload_n 0, 1) := by decide +kernel
theorem dX6_init_5 : decode cX6_init 5 = .ok (.new 7, 3) := by decide +kernel
theorem dX6_init_8 : decode cX6_init 8 = .ok (.dup, 1) := by decide +kernel
theorem dX6_init_9 : decode cX6_init 9 = .ok (.invokespecial 9, 3) := by decide +kernel
theorem dX6_init_12 : decode cX6_init 12 = .ok (.putfield 10, 3) := by decide +kernel
theorem dX6_init_15 : decode cX6_init 15 = .ok (.return_, 1) := by decide +kernel
theorem dX7_init_0 : decode cX7_init 0 = .ok (.aload_n 0, 1) := by decide +kernel
theorem dX7_init_1 : decode cX7_init 1 = .ok (.invokespecial 3, 3) := by decide +kernel
theorem dX7_init_4 : decode cX7_init 4 = .ok (.aload_n 0, 1) := by decide +kernel
theorem dX7_init_5 : decode cX7_init 5 = .ok (.sipush 400, 3) := by decide +kernel
theorem dX7_init_8 : decode cX7_init 8 = .ok (.newarray .int, 2) := by decide +kernel
theorem dX7_init_10 : decode cX7_init 10 = .ok (.putfield 9, 3) := by decide +kernel
theorem dX7_init_13 : decode cX7_init 13 = .ok (.aload_n 0, 1) := by decide +kernel
theorem dX7_init_14 : decode cX7_init 14 = .ok (.sipush 401, 3) := by decide +kernel
theorem dX7_init_17 : decode cX7_init 17 = .ok (.newarray .int, 2) := by decide +kernel
theorem dX7_init_19 : decode cX7_init 19 = .ok (.putfield 15, 3) := by decide +kernel
theorem dX7_init_22 : decode cX7_init 22 = .ok (.aload_n 0, 1) := by decide +kernel
theorem dX7_init_23 : decode cX7_init 23 = .ok (.sipush 401, 3) := by decide +kernel
theorem dX7_init_26 : decode cX7_init 26 = .ok (.newarray .int, 2) := by decide +kernel
theorem dX7_init_28 : decode cX7_init 28 = .ok (.putfield 18, 3) := by decide +kernel
theorem dX7_init_31 : decode cX7_init 31 = .ok (.aload_n 0, 1) := by decide +kernel
theorem dX7_init_32 : decode cX7_init 32 = .ok (.sipush 401, 3) := by decide +kernel
theorem dX7_init_35 : decode cX7_init 35 = .ok (.newarray .int, 2) := by decide +kernel
theorem dX7_init_37 : decode cX7_init 37 = .ok (.putfield 21, 3) := by decide +kernel
theorem dX7_init_40 : decode cX7_init 40 = .ok (.aload_n 0, 1) := by decide +kernel
theorem dX7_init_41 : decode cX7_init 41 = .ok (.iconst (-1), 1) := by decide +kernel
theorem dX7_init_42 : decode cX7_init 42 = .ok (.putfield 24, 3) := by decide +kernel
theorem dX7_init_45 : decode cX7_init 45 = .ok (.return_, 1) := by decide +kernel
theorem dX7_addFour_0 : decode cX7_addFour 0 = .ok (.iconst 0, 1) := by decide +kernel
theorem dX7_addFour_1 : decode cX7_addFour 1 = .ok (.istore_n 2, 1) := by decide +kernel
theorem dX7_addFour_2 : decode cX7_addFour 2 = .ok (.iload_n 2, 1) := by decide +kernel
theorem dX7_addFour_3 : decode cX7_addFour 3 = .ok (.iconst 4, 1) := by decide +kernel
theorem dX7_addFour_4 : decode cX7_addFour 4 = .ok (.if_icmp .ge 51, 3) := by decide +kernel
theorem dX7_addFour_7 : decode cX7_addFour 7 = .ok (.aload_n 0, 1) := by decide +kernel
theorem dX7_addFour_8 : decode cX7_addFour 8 = .ok (.getfield 28, 3) := by decide +kernel
theorem dX7_addFour_11 : decode cX7_addFour 11 = .ok (.sipush 400, 3) := by decide +kernel
theorem dX7_addFour_14 : decode cX7_addFour 14 = .ok (.if_icmp .ge 41, 3) := by decide +kernel
theorem dX7_addFour_17 : decode cX7_addFour 17 = .ok (.aload_n 0, 1) := by decide +kernel
theorem dX7_addFour_18 : decode cX7_addFour 18 = .ok (.getfield 9, 3) := by decide +kernel
theorem dX7_addFour_21 : decode cX7_addFour 21 = .ok (.aload_n 0, 1) := by decide +kernel
theorem dX7_addFour_22 : decode cX7_addFour 22 = .ok (.getfield 28, 3) := by decide +kernel
theorem dX7_addFour_25 : decode cX7_addFour 25 = .ok (.iload_n 1, 1) := by decide +kernel
theorem dX7_addFour_26 : decode cX7_addFour 26 = .ok (.bipush 24, 2) := by decide +kernel
theorem dX7_addFour_28 : decode cX7_addFour 28 = .ok (.bipush 8, 2) := by decide +kernel
theorem dX7_addFour_30 : decode cX7_addFour 30 = .ok (.iload_n 2, 1) := by decide +kernel
theorem dX7_addFour_31 : decode cX7_addFour 31 = .ok (.imul, 1) := by decide +kernel
theorem dX7_addFour_32 : decode cX7_addFour 32 = .ok (.isub, 1) := by decide +kernel
theorem dX7_addFour_33 : decode cX7_addFour 33 = .ok (.ishr, 1) := by decide +kernel
theorem dX7_addFour_34 : decode cX7_addFour 34 = .ok (.sipush 255, 3) := by decide +kernel
theorem dX7_addFour_37 : decode cX7_addFour 37 = .ok (.iand, 1) := by decide +kernel
theorem dX7_addFour_38 : decode cX7_addFour 38 = .ok (.iastore, 1) := by decide +kernel
theorem dX7_addFour_39 : decode cX7_addFour 39 = .ok (.aload_n 0, 1) := by decide +kernel
theorem dX7_addFour_40 : decode cX7_addFour 40 = .ok (.dup, 1) := by decide +kernel
theorem dX7_addFour_41 : decode cX7_addFour 41 = .ok (.getfield 28, 3) := by decide +kernel
theorem dX7_addFour_44 : decode cX7_addFour 44 = .ok (.iconst 1, 1) := by decide +kernel
theorem dX7_addFour_45 : decode cX7_addFour 45 = .ok (.iadd, 1) := by decide +kernel
theorem dX7_addFour_46 : decode cX7_addFour 46 = .ok (.putfield 28, 3) := by decide +kernel
theorem dX7_addFour_49 : decode cX7_addFour 49 = .ok (.iinc 2 1, 3) := by decide +kernel
theorem dX7_addFour_52 : decode cX7_addFour 52 = .ok (.goto (-50), 3) := by decide +kernel
theorem dX7_addFour_55 : decode cX7_addFour 55 = .ok (.return_, 1) := by decide +kernel
theorem dX7_forgetFault_0 : decode cX7_forgetFault 0 = .ok (.aload_n 0, 1) := by decide +kernel
theorem dX7_forgetFault_1 : decode cX7_forgetFault 1 = .ok (.iconst 0, 1) := by decide +kernel
theorem dX7_forgetFault_2 : decode cX7_forgetFault 2 = .ok (.putfield 31, 3) := by decide +kernel
theorem dX7_forgetFault_5 : decode cX7_forgetFault 5 = .ok (.aload_n 0, 1) := by decide +kernel
theorem dX7_forgetFault_6 : decode cX7_forgetFault 6 = .ok (.iconst (-1), 1) := by decide +kernel
theorem dX7_forgetFault_7 : decode cX7_forgetFault 7 = .ok (.putfield 24, 3) := by decide +kernel
theorem dX7_forgetFault_10 : decode cX7_forgetFault 10 = .ok (.return_, 1) := by decide +kernel
theorem dX7_refuse_0 : decode cX7_refuse 0 = .ok (.aload_n 0, 1) := by decide +kernel
theorem dX7_refuse_1 : decode cX7_refuse 1 = .ok (.iload_n 1, 1) := by decide +kernel
theorem dX7_refuse_2 : decode cX7_refuse 2 = .ok (.putfield 31, 3) := by decide +kernel
theorem dX7_refuse_5 : decode cX7_refuse 5 = .ok (.aload_n 0, 1) := by decide +kernel
theorem dX7_refuse_6 : decode cX7_refuse 6 = .ok (.aload_n 0, 1) := by decide +kernel
theorem dX7_refuse_7 : decode cX7_refuse 7 = .ok (.getfield 34, 3) := by decide +kernel
theorem dX7_refuse_10 : decode cX7_refuse 10 = .ok (.putfield 24, 3) := by decide +kernel
theorem dX7_refuse_13 : decode cX7_refuse 13 = .ok (.iconst 0, 1) := by decide +kernel
theorem dX7_refuse_14 : decode cX7_refuse 14 = .ok (.ireturn, 1) := by decide +kernel
theorem dX7_step_0 : decode cX7_step 0 = .ok (.aload_n 0, 1) := by decide +kernel
theorem dX7_step_1 : decode cX7_step 1 = .ok (.getfield 37, 3) := by decide +kernel
theorem dX7_step_4 : decode cX7_step 4 = .ok (.aload_n 0, 1) := by decide +kernel
theorem dX7_step_5 : decode cX7_step 5 = .ok (.getfield 40, 3) := by decide +kernel
theorem dX7_step_8 : decode cX7_step 8 = .ok (.if_icmp .ge 52, 3) := by decide +kernel
theorem dX7_step_11 : decode cX7_step 11 = .ok (.aload_n 0, 1) := by decide +kernel
theorem dX7_step_12 : decode cX7_step 12 = .ok (.aload_n 0, 1) := by decide +kernel
theorem dX7_step_13 : decode cX7_step 13 = .ok (.getfield 15, 3) := by decide +kernel
theorem dX7_step_16 : decode cX7_step 16 = .ok (.aload_n 0, 1) := by decide +kernel
theorem dX7_step_17 : decode cX7_step 17 = .ok (.getfield 37, 3) := by decide +kernel
theorem dX7_step_20 : decode cX7_step 20 = .ok (.iaload, 1) := by decide +kernel
theorem dX7_step_21 : decode cX7_step 21 = .ok (.putfield 43, 3) := by decide +kernel
theorem dX7_step_24 : decode cX7_step 24 = .ok (.aload_n 0, 1) := by decide +kernel
theorem dX7_step_25 : decode cX7_step 25 = .ok (.aload_n 0, 1) := by decide +kernel
theorem dX7_step_26 : decode cX7_step 26 = .ok (.getfield 18, 3) := by decide +kernel
theorem dX7_step_29 : decode cX7_step 29 = .ok (.aload_n 0, 1) := by decide +kernel
theorem dX7_step_30 : decode cX7_step 30 = .ok (.getfield 37, 3) := by decide +kernel
theorem dX7_step_33 : decode cX7_step 33 = .ok (.iaload, 1) := by decide +kernel
theorem dX7_step_34 : decode cX7_step 34 = .ok (.putfield 34, 3) := by decide +kernel
theorem dX7_step_37 : decode cX7_step 37 = .ok (.aload_n 0, 1) := by decide +kernel
theorem dX7_step_38 : decode cX7_step 38 = .ok (.aload_n 0, 1) := by decide +kernel
theorem dX7_step_39 : decode cX7_step 39 = .ok (.getfield 21, 3) := by decide +kernel
theorem dX7_step_42 : decode cX7_step 42 = .ok (.aload_n 0, 1) := by decide +kernel
theorem dX7_step_43 : decode cX7_step 43 = .ok (.getfield 37, 3) := by decide +kernel
theorem dX7_step_46 : decode cX7_step 46 = .ok (.iaload, 1) := by decide +kernel
theorem dX7_step_47 : decode cX7_step 47 = .ok (.putfield 46, 3) := by decide +kernel
theorem dX7_step_50 : decode cX7_step 50 = .ok (.aload_n 0, 1) := by decide +kernel
theorem dX7_step_51 : decode cX7_step 51 = .ok (.dup, 1) := by decide +kernel
theorem dX7_step_52 : decode cX7_step 52 = .ok (.getfield 37, 3) := by decide +kernel
theorem dX7_step_55 : decode cX7_step 55 = .ok (.iconst 1, 1) := by decide +kernel
theorem dX7_step_56 : decode cX7_step 56 = .ok (.iadd, 1) := by decide +kernel
theorem dX7_step_57 : decode cX7_step 57 = .ok (.putfield 37, 3) := by decide +kernel
theorem dX7_step_60 : decode cX7_step 60 = .ok (.return_, 1) := by decide +kernel
theorem dX7_split_0 : decode cX7_split 0 = .ok (.aload_n 0, 1) := by decide +kernel
theorem dX7_split_1 : decode cX7_split 1 = .ok (.iconst 0, 1) := by decide +kernel
theorem dX7_split_2 : decode cX7_split 2 = .ok (.putfield 49, 3) := by decide +kernel
theorem dX7_split_5 : decode cX7_split 5 = .ok (.aload_n 0, 1) := by decide +kernel
theorem dX7_split_6 : decode cX7_split 6 = .ok (.iconst 0, 1) := by decide +kernel
theorem dX7_split_7 : decode cX7_split 7 = .ok (.putfield 40, 3) := by decide +kernel
theorem dX7_split_10 : decode cX7_split 10 = .ok (.iconst 0, 1) := by decide +kernel
theorem dX7_split_11 : decode cX7_split 11 = .ok (.istore_n 1, 1) := by decide +kernel
theorem dX7_split_12 : decode cX7_split 12 = .ok (.iload_n 1, 1) := by decide +kernel
theorem dX7_split_13 : decode cX7_split 13 = .ok (.sipush 400, 3) := by decide +kernel
theorem dX7_split_16 : decode cX7_split 16 = .ok (.if_icmp .ge 131, 3) := by decide +kernel
theorem dX7_split_19 : decode cX7_split 19 = .ok (.aload_n 0, 1) := by decide +kernel
theorem dX7_split_20 : decode cX7_split 20 = .ok (.getfield 49, 3) := by decide +kernel
theorem dX7_split_23 : decode cX7_split 23 = .ok (.aload_n 0, 1) := by decide +kernel
theorem dX7_split_24 : decode cX7_split 24 = .ok (.getfield 28, 3) := by decide +kernel
theorem dX7_split_27 : decode cX7_split 27 = .ok (.if_icmp .ge 120, 3) := by decide +kernel
theorem dX7_split_30 : decode cX7_split 30 = .ok (.aload_n 0, 1) := by decide +kernel
theorem dX7_split_31 : decode cX7_split 31 = .ok (.getfield 49, 3) := by decide +kernel
theorem dX7_split_34 : decode cX7_split 34 = .ok (.istore_n 2, 1) := by decide +kernel
theorem dX7_split_35 : decode cX7_split 35 = .ok (.aload_n 0, 1) := by decide +kernel
theorem dX7_split_36 : decode cX7_split 36 = .ok (.getfield 9, 3) := by decide +kernel
theorem dX7_split_39 : decode cX7_split 39 = .ok (.iload_n 2, 1) := by decide +kernel
theorem dX7_split_40 : decode cX7_split 40 = .ok (.iaload, 1) := by decide +kernel
theorem dX7_split_41 : decode cX7_split 41 = .ok (.istore_n 3, 1) := by decide +kernel
theorem dX7_split_42 : decode cX7_split 42 = .ok (.iload_n 3, 1) := by decide +kernel
theorem dX7_split_43 : decode cX7_split 43 = .ok (.bipush 32, 2) := by decide +kernel
theorem dX7_split_45 : decode cX7_split 45 = .ok (.if_icmp .eq 9, 3) := by decide +kernel
theorem dX7_split_48 : decode cX7_split 48 = .ok (.iload_n 3, 1) := by decide +kernel
theorem dX7_split_49 : decode cX7_split 49 = .ok (.bipush 10, 2) := by decide +kernel
theorem dX7_split_51 : decode cX7_split 51 = .ok (.if_icmp .ne 16, 3) := by decide +kernel
theorem dX7_split_54 : decode cX7_split 54 = .ok (.aload_n 0, 1) := by decide +kernel
theorem dX7_split_55 : decode cX7_split 55 = .ok (.dup, 1) := by decide +kernel
theorem dX7_split_56 : decode cX7_split 56 = .ok (.getfield 49, 3) := by decide +kernel
theorem dX7_split_59 : decode cX7_split 59 = .ok (.iconst 1, 1) := by decide +kernel
theorem dX7_split_60 : decode cX7_split 60 = .ok (.iadd, 1) := by decide +kernel
theorem dX7_split_61 : decode cX7_split 61 = .ok (.putfield 49, 3) := by decide +kernel
theorem dX7_split_64 : decode cX7_split 64 = .ok (.goto 77, 3) := by decide +kernel
theorem dX7_split_67 : decode cX7_split 67 = .ok (.iload_n 3, 1) := by decide +kernel
theorem dX7_split_68 : decode cX7_split 68 = .ok (.invokestatic 52, 3) := by decide +kernel
theorem dX7_split_71 : decode cX7_split 71 = .ok (.ifCond .eq 17, 3) := by decide +kernel
theorem dX7_split_74 : decode cX7_split 74 = .ok (.aload_n 0, 1) := by decide +kernel
theorem dX7_split_75 : decode cX7_split 75 = .ok (.aload_n 0, 1) := by decide +kernel
theorem dX7_split_76 : decode cX7_split 76 = .ok (.iload_n 2, 1) := by decide +kernel
theorem dX7_split_77 : decode cX7_split 77 = .ok (.invokevirtual 56, 3) := by decide +kernel
theorem dX7_split_80 : decode cX7_split 80 = .ok (.iload_n 2, 1) := by decide +kernel
theorem dX7_split_81 : decode cX7_split 81 = .ok (.iconst 0, 1) := by decide +kernel
theorem dX7_split_82 : decode cX7_split 82 = .ok (.invokevirtual 60, 3) := by decide +kernel
theorem dX7_split_85 : decode cX7_split 85 = .ok (.goto 56, 3) := by decide +kernel
theorem dX7_split_88 : decode cX7_split 88 = .ok (.iload_n 3, 1) := by decide +kernel
theorem dX7_split_89 : decode cX7_split 89 = .ok (.invokestatic 64, 3) := by decide +kernel
theorem dX7_split_92 : decode cX7_split 92 = .ok (.ifCond .eq 20, 3) := by decide +kernel
theorem dX7_split_95 : decode cX7_split 95 = .ok (.aload_n 0, 1) := by decide +kernel
theorem dX7_split_96 : decode cX7_split 96 = .ok (.aload_n 0, 1) := by decide +kernel
theorem dX7_split_97 : decode cX7_split 97 = .ok (.iload_n 2, 1) := by decide +kernel
theorem dX7_split_98 : decode cX7_split 98 = .ok (.invokevirtual 67, 3) := by decide +kernel
theorem dX7_split_101 : decode cX7_split 101 = .ok (.iload_n 2, 1) := by decide +kernel
theorem dX7_split_102 : decode cX7_split 102 = .ok (.aload_n 0, 1) := by decide +kernel
theorem dX7_split_103 : decode cX7_split 103 = .ok (.getfield 46, 3) := by decide +kernel
theorem dX7_split_106 : decode cX7_split 106 = .ok (.invokevirtual 60, 3) := by decide +kernel
theorem dX7_split_109 : decode cX7_split 109 = .ok (.goto 32, 3) := by decide +kernel
theorem dX7_split_112 : decode cX7_split 112 = .ok (.aload_n 0, 1) := by decide +kernel
theorem dX7_split_113 : decode cX7_split 113 = .ok (.dup, 1) := by decide +kernel
theorem dX7_split_114 : decode cX7_split 114 = .ok (.getfield 49, 3) := by decide +kernel
theorem dX7_split_117 : decode cX7_split 117 = .ok (.iconst 1, 1) := by decide +kernel
theorem dX7_split_118 : decode cX7_split 118 = .ok (.iadd, 1) := by decide +kernel
theorem dX7_split_119 : decode cX7_split 119 = .ok (.putfield 49, 3) := by decide +kernel
theorem dX7_split_122 : decode cX7_split 122 = .ok (.aload_n 0, 1) := by decide +kernel
theorem dX7_split_123 : decode cX7_split 123 = .ok (.iload_n 3, 1) := by decide +kernel
theorem dX7_split_124 : decode cX7_split 124 = .ok (.invokestatic 70, 3) := by decide +kernel
theorem dX7_split_127 : decode cX7_split 127 = .ok (.ifCond .eq 7, 3) := by decide +kernel
theorem dX7_split_130 : decode cX7_split 130 = .ok (.iload_n 3, 1) := by decide +kernel
theorem dX7_split_131 : decode cX7_split 131 = .ok (.goto 5, 3) := by decide +kernel
theorem dX7_split_134 : decode cX7_split 134 = .ok (.bipush 25, 2) := by decide +kernel
theorem dX7_split_136 : decode cX7_split 136 = .ok (.iload_n 2, 1) := by decide +kernel
theorem dX7_split_137 : decode cX7_split 137 = .ok (.iconst 0, 1) := by decide +kernel
theorem dX7_split_138 : decode cX7_split 138 = .ok (.invokevirtual 60, 3) := by decide +kernel
theorem dX7_split_141 : decode cX7_split 141 = .ok (.iinc 1 1, 3) := by decide +kernel
theorem dX7_split_144 : decode cX7_split 144 = .ok (.goto (-132), 3) := by decide +kernel
theorem dX7_split_147 : decode cX7_split 147 = .ok (.aload_n 0, 1) := by decide +kernel
theorem dX7_split_148 : decode cX7_split 148 = .ok (.bipush 24, 2) := by decide +kernel
theorem dX7_split_150 : decode cX7_split 150 = .ok (.aload_n 0, 1) := by decide +kernel
theorem dX7_split_151 : decode cX7_split 151 = .ok (.getfield 28, 3) := by decide +kernel
theorem dX7_split_154 : decode cX7_split 154 = .ok (.iconst 0, 1) := by decide +kernel
theorem dX7_split_155 : decode cX7_split 155 = .ok (.invokevirtual 60, 3) := by decide +kernel
theorem dX7_split_158 : decode cX7_split 158 = .ok (.aload_n 0, 1) := by decide +kernel
theorem dX7_split_159 : decode cX7_split 159 = .ok (.iconst 0, 1) := by decide +kernel
theorem dX7_split_160 : decode cX7_split 160 = .ok (.putfield 37, 3) := by decide +kernel
theorem dX7_split_163 : decode cX7_split 163 = .ok (.aload_n 0, 1) := by decide +kernel
theorem dX7_split_164 : decode cX7_split 164 = .ok (.invokevirtual 73, 3) := by decide +kernel
theorem dX7_split_167 : decode cX7_split 167 = .ok (.return_, 1) := by decide +kernel
theorem dX7_keep_0 : decode cX7_keep 0 = .ok (.aload_n 0, 1) := by decide +kernel
theorem dX7_keep_1 : decode cX7_keep 1 = .ok (.getfield 40, 3) := by decide +kernel
theorem dX7_keep_4 : decode cX7_keep 4 = .ok (.sipush 400, 3) := by decide +kernel
theorem dX7_keep_7 : decode cX7_keep 7 = .ok (.if_icmp .gt 43, 3) := by decide +kernel
theorem dX7_keep_10 : decode cX7_keep 10 = .ok (.aload_n 0, 1) := by decide +kernel
theorem dX7_keep_11 : decode cX7_keep 11 = .ok (.getfield 15, 3) := by decide +kernel
theorem dX7_keep_14 : decode cX7_keep 14 = .ok (.aload_n 0, 1) := by decide +kernel
theorem dX7_keep_15 : decode cX7_keep 15 = .ok (.getfield 40, 3) := by decide +kernel
theorem dX7_keep_18 : decode cX7_keep 18 = .ok (.iload_n 1, 1) := by decide +kernel
theorem dX7_keep_19 : decode cX7_keep 19 = .ok (.iastore, 1) := by decide +kernel
theorem dX7_keep_20 : decode cX7_keep 20 = .ok (.aload_n 0, 1) := by decide +kernel
theorem dX7_keep_21 : decode cX7_keep 21 = .ok (.getfield 18, 3) := by decide +kernel
theorem dX7_keep_24 : decode cX7_keep 24 = .ok (.aload_n 0, 1) := by decide +kernel
theorem dX7_keep_25 : decode cX7_keep 25 = .ok (.getfield 40, 3) := by decide +kernel
theorem dX7_keep_28 : decode cX7_keep 28 = .ok (.iload_n 2, 1) := by decide +kernel
theorem dX7_keep_29 : decode cX7_keep 29 = .ok (.iastore, 1) := by decide +kernel
theorem dX7_keep_30 : decode cX7_keep 30 = .ok (.aload_n 0, 1) := by decide +kernel
theorem dX7_keep_31 : decode cX7_keep 31 = .ok (.getfield 21, 3) := by decide +kernel
theorem dX7_keep_34 : decode cX7_keep 34 = .ok (.aload_n 0, 1) := by decide +kernel
theorem dX7_keep_35 : decode cX7_keep 35 = .ok (.getfield 40, 3) := by decide +kernel
theorem dX7_keep_38 : decode cX7_keep 38 = .ok (.iload_n 3, 1) := by decide +kernel
theorem dX7_keep_39 : decode cX7_keep 39 = .ok (.iastore, 1) := by decide +kernel
theorem dX7_keep_40 : decode cX7_keep 40 = .ok (.aload_n 0, 1) := by decide +kernel
theorem dX7_keep_41 : decode cX7_keep 41 = .ok (.dup, 1) := by decide +kernel
theorem dX7_keep_42 : decode cX7_keep 42 = .ok (.getfield 40, 3) := by decide +kernel
theorem dX7_keep_45 : decode cX7_keep 45 = .ok (.iconst 1, 1) := by decide +kernel
theorem dX7_keep_46 : decode cX7_keep 46 = .ok (.iadd, 1) := by decide +kernel
theorem dX7_keep_47 : decode cX7_keep 47 = .ok (.putfield 40, 3) := by decide +kernel
theorem dX7_keep_50 : decode cX7_keep 50 = .ok (.return_, 1) := by decide +kernel
theorem dX7_readNumber_0 : decode cX7_readNumber 0 = .ok (.aload_n 0, 1) := by decide +kernel
theorem dX7_readNumber_1 : decode cX7_readNumber 1 = .ok (.iconst 0, 1) := by decide +kernel
theorem dX7_readNumber_2 : decode cX7_readNumber 2 = .ok (.putfield 46, 3) := by decide +kernel
theorem dX7_readNumber_5 : decode cX7_readNumber 5 = .ok (.aload_n 0, 1) := by decide +kernel
theorem dX7_readNumber_6 : decode cX7_readNumber 6 = .ok (.getfield 49, 3) := by decide +kernel
theorem dX7_readNumber_9 : decode cX7_readNumber 9 = .ok (.aload_n 0, 1) := by decide +kernel
theorem dX7_readNumber_10 : decode cX7_readNumber 10 = .ok (.getfield 28, 3) := by decide +kernel
theorem dX7_readNumber_13 : decode cX7_readNumber 13 = .ok (.if_icmp .ge 72, 3) := by decide +kernel
theorem dX7_readNumber_16 : decode cX7_readNumber 16 = .ok (.aload_n 0, 1) := by decide +kernel
theorem dX7_readNumber_17 : decode cX7_readNumber 17 = .ok (.getfield 9, 3) := by decide +kernel
theorem dX7_readNumber_20 : decode cX7_readNumber 20 = .ok (.aload_n 0, 1) := by decide +kernel
theorem dX7_readNumber_21 : decode cX7_readNumber 21 = .ok (.getfield 49, 3) := by decide +kernel
theorem dX7_readNumber_24 : decode cX7_readNumber 24 = .ok (.iaload, 1) := by decide +kernel
theorem dX7_readNumber_25 : decode cX7_readNumber 25 = .ok (.invokestatic 64, 3) := by decide +kernel
theorem dX7_readNumber_28 : decode cX7_readNumber 28 = .ok (.ifCond .eq 57, 3) := by decide +kernel
theorem dX7_readNumber_31 : decode cX7_readNumber 31 = .ok (.aload_n 0, 1) := by decide +kernel
theorem dX7_readNumber_32 : decode cX7_readNumber 32 = .ok (.aload_n 0, 1) := by decide +kernel
theorem dX7_readNumber_33 : decode cX7_readNumber 33 = .ok (.getfield 49, 3) := by decide +kernel
theorem dX7_readNumber_36 : decode cX7_readNumber 36 = .ok (.iload_n 1, 1) := by decide +kernel
theorem dX7_readNumber_37 : decode cX7_readNumber 37 = .ok (.isub, 1) := by decide +kernel
theorem dX7_readNumber_38 : decode cX7_readNumber 38 = .ok (.iconst 4, 1) := by decide +kernel
theorem dX7_readNumber_39 : decode cX7_readNumber 39 = .ok (.if_icmp .ge 26, 3) := by decide +kernel
theorem dX7_readNumber_42 : decode cX7_readNumber 42 = .ok (.bipush 10, 2) := by decide +kernel
theorem dX7_readNumber_44 : decode cX7_readNumber 44 = .ok (.aload_n 0, 1) := by decide +kernel
theorem dX7_readNumber_45 : decode cX7_readNumber 45 = .ok (.getfield 46, 3) := by decide +kernel
theorem dX7_readNumber_48 : decode cX7_readNumber 48 = .ok (.imul, 1) := by decide +kernel
theorem dX7_readNumber_49 : decode cX7_readNumber 49 = .ok (.aload_n 0, 1) := by decide +kernel
theorem dX7_readNumber_50 : decode cX7_readNumber 50 = .ok (.getfield 9, 3) := by decide +kernel
theorem dX7_readNumber_53 : decode cX7_readNumber 53 = .ok (.aload_n 0, 1) := by decide +kernel
theorem dX7_readNumber_54 : decode cX7_readNumber 54 = .ok (.getfield 49, 3) := by decide +kernel
theorem dX7_readNumber_57 : decode cX7_readNumber 57 = .ok (.iaload, 1) := by decide +kernel
theorem dX7_readNumber_58 : decode cX7_readNumber 58 = .ok (.iadd, 1) := by decide +kernel
theorem dX7_readNumber_59 : decode cX7_readNumber 59 = .ok (.bipush 48, 2) := by decide +kernel
theorem dX7_readNumber_61 : decode cX7_readNumber 61 = .ok (.isub, 1) := by decide +kernel
theorem dX7_readNumber_62 : decode cX7_readNumber 62 = .ok (.goto 7, 3) := by decide +kernel
theorem dX7_readNumber_65 : decode cX7_readNumber 65 = .ok (.aload_n 0, 1) := by decide +kernel
theorem dX7_readNumber_66 : decode cX7_readNumber 66 = .ok (.getfield 46, 3) := by decide +kernel
theorem dX7_readNumber_69 : decode cX7_readNumber 69 = .ok (.putfield 46, 3) := by decide +kernel
theorem dX7_readNumber_72 : decode cX7_readNumber 72 = .ok (.aload_n 0, 1) := by decide +kernel
theorem dX7_readNumber_73 : decode cX7_readNumber 73 = .ok (.dup, 1) := by decide +kernel
theorem dX7_readNumber_74 : decode cX7_readNumber 74 = .ok (.getfield 49, 3) := by decide +kernel
theorem dX7_readNumber_77 : decode cX7_readNumber 77 = .ok (.iconst 1, 1) := by decide +kernel
theorem dX7_readNumber_78 : decode cX7_readNumber 78 = .ok (.iadd, 1) := by decide +kernel
theorem dX7_readNumber_79 : decode cX7_readNumber 79 = .ok (.putfield 49, 3) := by decide +kernel
theorem dX7_readNumber_82 : decode cX7_readNumber 82 = .ok (.goto (-77), 3) := by decide +kernel
theorem dX7_readNumber_85 : decode cX7_readNumber 85 = .ok (.aload_n 0, 1) := by decide +kernel
theorem dX7_readNumber_86 : decode cX7_readNumber 86 = .ok (.getfield 49, 3) := by decide +kernel
theorem dX7_readNumber_89 : decode cX7_readNumber 89 = .ok (.iload_n 1, 1) := by decide +kernel
theorem dX7_readNumber_90 : decode cX7_readNumber 90 = .ok (.isub, 1) := by decide +kernel
theorem dX7_readNumber_91 : decode cX7_readNumber 91 = .ok (.iconst 4, 1) := by decide +kernel
theorem dX7_readNumber_92 : decode cX7_readNumber 92 = .ok (.if_icmp .le 8, 3) := by decide +kernel
theorem dX7_readNumber_95 : decode cX7_readNumber 95 = .ok (.bipush 25, 2) := by decide +kernel
theorem dX7_readNumber_97 : decode cX7_readNumber 97 = .ok (.goto 5, 3) := by decide +kernel
theorem dX7_readNumber_100 : decode cX7_readNumber 100 = .ok (.bipush 23, 2) := by decide +kernel
theorem dX7_readNumber_102 : decode cX7_readNumber 102 = .ok (.ireturn, 1) := by decide +kernel
theorem dX7_readWord_0 : decode cX7_readWord 0 = .ok (.aload_n 0, 1) := by decide +kernel
theorem dX7_readWord_1 : decode cX7_readWord 1 = .ok (.getfield 49, 3) := by decide +kernel
theorem dX7_readWord_4 : decode cX7_readWord 4 = .ok (.aload_n 0, 1) := by decide +kernel
theorem dX7_readWord_5 : decode cX7_readWord 5 = .ok (.getfield 28, 3) := by decide +kernel
theorem dX7_readWord_8 : decode cX7_readWord 8 = .ok (.if_icmp .ge 31, 3) := by decide +kernel
theorem dX7_readWord_11 : decode cX7_readWord 11 = .ok (.aload_n 0, 1) := by decide +kernel
theorem dX7_readWord_12 : decode cX7_readWord 12 = .ok (.getfield 9, 3) := by decide +kernel
theorem dX7_readWord_15 : decode cX7_readWord 15 = .ok (.aload_n 0, 1) := by decide +kernel
theorem dX7_readWord_16 : decode cX7_readWord 16 = .ok (.getfield 49, 3) := by decide +kernel
theorem dX7_readWord_19 : decode cX7_readWord 19 = .ok (.iaload, 1) := by decide +kernel
theorem dX7_readWord_20 : decode cX7_readWord 20 = .ok (.invokestatic 52, 3) := by decide +kernel
theorem dX7_readWord_23 : decode cX7_readWord 23 = .ok (.ifCond .eq 16, 3) := by decide +kernel
theorem dX7_readWord_26 : decode cX7_readWord 26 = .ok (.aload_n 0, 1) := by decide +kernel
theorem dX7_readWord_27 : decode cX7_readWord 27 = .ok (.dup, 1) := by decide +kernel
theorem dX7_readWord_28 : decode cX7_readWord 28 = .ok (.getfield 49, 3) := by decide +kernel
theorem dX7_readWord_31 : decode cX7_readWord 31 = .ok (.iconst 1, 1) := by decide +kernel
theorem dX7_readWord_32 : decode cX7_readWord 32 = .ok (.iadd, 1) := by decide +kernel
theorem dX7_readWord_33 : decode cX7_readWord 33 = .ok (.putfield 49, 3) := by decide +kernel
theorem dX7_readWord_36 : decode cX7_readWord 36 = .ok (.goto (-36), 3) := by decide +kernel
theorem dX7_readWord_39 : decode cX7_readWord 39 = .ok (.iconst 0, 1) := by decide +kernel
theorem dX7_readWord_40 : decode cX7_readWord 40 = .ok (.istore_n 2, 1) := by decide +kernel
theorem dX7_readWord_41 : decode cX7_readWord 41 = .ok (.iload_n 2, 1) := by decide +kernel
theorem dX7_readWord_42 : decode cX7_readWord 42 = .ok (.bipush 23, 2) := by decide +kernel
theorem dX7_readWord_44 : decode cX7_readWord 44 = .ok (.if_icmp .ge 27, 3) := by decide +kernel
theorem dX7_readWord_47 : decode cX7_readWord 47 = .ok (.aload_n 0, 1) := by decide +kernel
theorem dX7_readWord_48 : decode cX7_readWord 48 = .ok (.iload_n 2, 1) := by decide +kernel
theorem dX7_readWord_49 : decode cX7_readWord 49 = .ok (.invokestatic 76, 3) := by decide +kernel
theorem dX7_readWord_52 : decode cX7_readWord 52 = .ok (.iload_n 1, 1) := by decide +kernel
theorem dX7_readWord_53 : decode cX7_readWord 53 = .ok (.aload_n 0, 1) := by decide +kernel
theorem dX7_readWord_54 : decode cX7_readWord 54 = .ok (.getfield 49, 3) := by decide +kernel
theorem dX7_readWord_57 : decode cX7_readWord 57 = .ok (.invokevirtual 80, 3) := by decide +kernel
theorem dX7_readWord_60 : decode cX7_readWord 60 = .ok (.ifCond .eq 5, 3) := by decide +kernel
theorem dX7_readWord_63 : decode cX7_readWord 63 = .ok (.iload_n 2, 1) := by decide +kernel
theorem dX7_readWord_64 : decode cX7_readWord 64 = .ok (.ireturn, 1) := by decide +kernel
theorem dX7_readWord_65 : decode cX7_readWord 65 = .ok (.iinc 2 1, 3) := by decide +kernel
theorem dX7_readWord_68 : decode cX7_readWord 68 = .ok (.goto (-27), 3) := by decide +kernel
theorem dX7_readWord_71 : decode cX7_readWord 71 = .ok (.bipush 25, 2) := by decide +kernel
theorem dX7_readWord_73 : decode cX7_readWord 73 = .ok (.ireturn, 1) := by decide +kernel
theorem dX7_stands_0 : decode cX7_stands 0 = .ok (.aload_n 1, 1) := by decide +kernel
theorem dX7_stands_1 : decode cX7_stands 1 = .ok (.invokevirtual 84, 3) := by decide +kernel
theorem dX7_stands_4 : decode cX7_stands 4 = .ok (.iload_n 3, 1) := by decide +kernel
theorem dX7_stands_5 : decode cX7_stands 5 = .ok (.iload_n 2, 1) := by decide +kernel
theorem dX7_stands_6 : decode cX7_stands 6 = .ok (.isub, 1) := by decide +kernel
theorem dX7_stands_7 : decode cX7_stands 7 = .ok (.if_icmp .eq 5, 3) := by decide +kernel
theorem dX7_stands_10 : decode cX7_stands 10 = .ok (.iconst 0, 1) := by decide +kernel
theorem dX7_stands_11 : decode cX7_stands 11 = .ok (.ireturn, 1) := by decide +kernel
theorem dX7_stands_12 : decode cX7_stands 12 = .ok (.iconst 0, 1) := by decide +kernel
theorem dX7_stands_13 : decode cX7_stands 13 = .ok (.istore 4, 2) := by decide +kernel
theorem dX7_stands_15 : decode cX7_stands 15 = .ok (.iload 4, 2) := by decide +kernel
theorem dX7_stands_17 : decode cX7_stands 17 = .ok (.aload_n 1, 1) := by decide +kernel
theorem dX7_stands_18 : decode cX7_stands 18 = .ok (.invokevirtual 84, 3) := by decide +kernel
theorem dX7_stands_21 : decode cX7_stands 21 = .ok (.if_icmp .ge 29, 3) := by decide +kernel
theorem dX7_stands_24 : decode cX7_stands 24 = .ok (.aload_n 1, 1) := by decide +kernel
theorem dX7_stands_25 : decode cX7_stands 25 = .ok (.iload 4, 2) := by decide +kernel
theorem dX7_stands_27 : decode cX7_stands 27 = .ok (.invokevirtual 90, 3) := by decide +kernel
theorem dX7_stands_30 : decode cX7_stands 30 = .ok (.aload_n 0, 1) := by decide +kernel
theorem dX7_stands_31 : decode cX7_stands 31 = .ok (.getfield 9, 3) := by decide +kernel
theorem dX7_stands_34 : decode cX7_stands 34 = .ok (.iload_n 2, 1) := by decide +kernel
theorem dX7_stands_35 : decode cX7_stands 35 = .ok (.iload 4, 2) := by decide +kernel
theorem dX7_stands_37 : decode cX7_stands 37 = .ok (.iadd, 1) := by decide +kernel
theorem dX7_stands_38 : decode cX7_stands 38 = .ok (.iaload, 1) := by decide +kernel
theorem dX7_stands_39 : decode cX7_stands 39 = .ok (.if_icmp .eq 5, 3) := by decide +kernel
theorem dX7_stands_42 : decode cX7_stands 42 = .ok (.iconst 0, 1) := by decide +kernel
theorem dX7_stands_43 : decode cX7_stands 43 = .ok (.ireturn, 1) := by decide +kernel
theorem dX7_stands_44 : decode cX7_stands 44 = .ok (.iinc 4 1, 3) := by decide +kernel
theorem dX7_stands_47 : decode cX7_stands 47 = .ok (.goto (-32), 3) := by decide +kernel
theorem dX7_stands_50 : decode cX7_stands 50 = .ok (.iconst 1, 1) := by decide +kernel
theorem dX7_stands_51 : decode cX7_stands 51 = .ok (.ireturn, 1) := by decide +kernel
theorem dX7_isLetter_0 : decode cX7_isLetter 0 = .ok (.iload_n 0, 1) := by decide +kernel
theorem dX7_isLetter_1 : decode cX7_isLetter 1 = .ok (.bipush 97, 2) := by decide +kernel
theorem dX7_isLetter_3 : decode cX7_isLetter 3 = .ok (.bipush 122, 2) := by decide +kernel
theorem dX7_isLetter_5 : decode cX7_isLetter 5 = .ok (.invokestatic 94, 3) := by decide +kernel
theorem dX7_isLetter_8 : decode cX7_isLetter 8 = .ok (.ifCond .ne 14, 3) := by decide +kernel
theorem dX7_isLetter_11 : decode cX7_isLetter 11 = .ok (.iload_n 0, 1) := by decide +kernel
theorem dX7_isLetter_12 : decode cX7_isLetter 12 = .ok (.bipush 65, 2) := by decide +kernel
theorem dX7_isLetter_14 : decode cX7_isLetter 14 = .ok (.bipush 90, 2) := by decide +kernel
theorem dX7_isLetter_16 : decode cX7_isLetter 16 = .ok (.invokestatic 94, 3) := by decide +kernel
theorem dX7_isLetter_19 : decode cX7_isLetter 19 = .ok (.ifCond .eq 7, 3) := by decide +kernel
theorem dX7_isLetter_22 : decode cX7_isLetter 22 = .ok (.iconst 1, 1) := by decide +kernel
theorem dX7_isLetter_23 : decode cX7_isLetter 23 = .ok (.goto 4, 3) := by decide +kernel
theorem dX7_isLetter_26 : decode cX7_isLetter 26 = .ok (.iconst 0, 1) := by decide +kernel
theorem dX7_isLetter_27 : decode cX7_isLetter 27 = .ok (.ireturn, 1) := by decide +kernel
theorem dX7_isDigit_0 : decode cX7_isDigit 0 = .ok (.iload_n 0, 1) := by decide +kernel
theorem dX7_isDigit_1 : decode cX7_isDigit 1 = .ok (.bipush 48, 2) := by decide +kernel
theorem dX7_isDigit_3 : decode cX7_isDigit 3 = .ok (.bipush 57, 2) := by decide +kernel
theorem dX7_isDigit_5 : decode cX7_isDigit 5 = .ok (.invokestatic 94, 3) := by decide +kernel
theorem dX7_isDigit_8 : decode cX7_isDigit 8 = .ok (.ireturn, 1) := by decide +kernel
theorem dX7_isSign_0 : decode cX7_isSign 0 = .ok (.iload_n 0, 1) := by decide +kernel
theorem dX7_isSign_1 : decode cX7_isSign 1 = .ok (.tableswitch 109 40 62 #[107, 107, 107, 107, 109, 107, 109, 107, 109, 109, 109, 109, 109, 109, 109, 109, 109, 109, 109, 107, 107, 107, 107], 107) := by decide +kernel
theorem dX7_isSign_108 : decode cX7_isSign 108 = .ok (.iconst 1, 1) := by decide +kernel
theorem dX7_isSign_109 : decode cX7_isSign 109 = .ok (.ireturn, 1) := by decide +kernel
theorem dX7_isSign_110 : decode cX7_isSign 110 = .ok (.iconst 0, 1) := by decide +kernel
theorem dX7_isSign_111 : decode cX7_isSign 111 = .ok (.ireturn, 1) := by decide +kernel
theorem dX7_spelling_0 : decode cX7_spelling 0 = .ok (.iload_n 0, 1) := by decide +kernel
theorem dX7_spelling_1 : decode cX7_spelling 1 = .ok (.tableswitch 176 0 22 #[107, 110, 113, 116, 119, 122, 125, 128, 131, 134, 137, 140, 143, 146, 149, 152, 155, 158, 161, 164, 167, 170, 173], 107) := by decide +kernel
theorem dX7_spelling_108 : decode cX7_spelling 108 = .ok (.ldc 98, 2) := by decide +kernel
theorem dX7_spelling_110 : decode cX7_spelling 110 = .ok (.areturn, 1) := by decide +kernel
theorem dX7_spelling_111 : decode cX7_spelling 111 = .ok (.ldc 100, 2) := by decide +kernel
theorem dX7_spelling_113 : decode cX7_spelling 113 = .ok (.areturn, 1) := by decide +kernel
theorem dX7_spelling_114 : decode cX7_spelling 114 = .ok (.ldc 102, 2) := by decide +kernel
theorem dX7_spelling_116 : decode cX7_spelling 116 = .ok (.areturn, 1) := by decide +kernel
theorem dX7_spelling_117 : decode cX7_spelling 117 = .ok (.ldc 104, 2) := by decide +kernel
theorem dX7_spelling_119 : decode cX7_spelling 119 = .ok (.areturn, 1) := by decide +kernel
theorem dX7_spelling_120 : decode cX7_spelling 120 = .ok (.ldc 106, 2) := by decide +kernel
theorem dX7_spelling_122 : decode cX7_spelling 122 = .ok (.areturn, 1) := by decide +kernel
theorem dX7_spelling_123 : decode cX7_spelling 123 = .ok (.ldc 108, 2) := by decide +kernel
theorem dX7_spelling_125 : decode cX7_spelling 125 = .ok (.areturn, 1) := by decide +kernel
theorem dX7_spelling_126 : decode cX7_spelling 126 = .ok (.ldc 110, 2) := by decide +kernel
theorem dX7_spelling_128 : decode cX7_spelling 128 = .ok (.areturn, 1) := by decide +kernel
theorem dX7_spelling_129 : decode cX7_spelling 129 = .ok (.ldc 112, 2) := by decide +kernel
theorem dX7_spelling_131 : decode cX7_spelling 131 = .ok (.areturn, 1) := by decide +kernel
theorem dX7_spelling_132 : decode cX7_spelling 132 = .ok (.ldc 114, 2) := by decide +kernel
theorem dX7_spelling_134 : decode cX7_spelling 134 = .ok (.areturn, 1) := by decide +kernel
theorem dX7_spelling_135 : decode cX7_spelling 135 = .ok (.ldc 116, 2) := by decide +kernel
theorem dX7_spelling_137 : decode cX7_spelling 137 = .ok (.areturn, 1) := by decide +kernel
theorem dX7_spelling_138 : decode cX7_spelling 138 = .ok (.ldc 118, 2) := by decide +kernel
theorem dX7_spelling_140 : decode cX7_spelling 140 = .ok (.areturn, 1) := by decide +kernel
theorem dX7_spelling_141 : decode cX7_spelling 141 = .ok (.ldc 120, 2) := by decide +kernel
theorem dX7_spelling_143 : decode cX7_spelling 143 = .ok (.areturn, 1) := by decide +kernel
theorem dX7_spelling_144 : decode cX7_spelling 144 = .ok (.ldc 122, 2) := by decide +kernel
theorem dX7_spelling_146 : decode cX7_spelling 146 = .ok (.areturn, 1) := by decide +kernel
theorem dX7_spelling_147 : decode cX7_spelling 147 = .ok (.ldc 124, 2) := by decide +kernel
theorem dX7_spelling_149 : decode cX7_spelling 149 = .ok (.areturn, 1) := by decide +kernel
theorem dX7_spelling_150 : decode cX7_spelling 150 = .ok (.ldc 126, 2) := by decide +kernel
theorem dX7_spelling_152 : decode cX7_spelling 152 = .ok (.areturn, 1) := by decide +kernel
theorem dX7_spelling_153 : decode cX7_spelling 153 = .ok (.ldc 128, 2) := by decide +kernel
theorem dX7_spelling_155 : decode cX7_spelling 155 = .ok (.areturn, 1) := by decide +kernel
theorem dX7_spelling_156 : decode cX7_spelling 156 = .ok (.ldc 130, 2) := by decide +kernel
theorem dX7_spelling_158 : decode cX7_spelling 158 = .ok (.areturn, 1) := by decide +kernel
theorem dX7_spelling_159 : decode cX7_spelling 159 = .ok (.ldc 132, 2) := by decide +kernel
theorem dX7_spelling_161 : decode cX7_spelling 161 = .ok (.areturn, 1) := by decide +kernel
theorem dX7_spelling_162 : decode cX7_spelling 162 = .ok (.ldc 134, 2) := by decide +kernel
theorem dX7_spelling_164 : decode cX7_spelling 164 = .ok (.areturn, 1) := by decide +kernel
theorem dX7_spelling_165 : decode cX7_spelling 165 = .ok (.ldc 136, 2) := by decide +kernel
theorem dX7_spelling_167 : decode cX7_spelling 167 = .ok (.areturn, 1) := by decide +kernel
theorem dX7_spelling_168 : decode cX7_spelling 168 = .ok (.ldc 138, 2) := by decide +kernel
theorem dX7_spelling_170 : decode cX7_spelling 170 = .ok (.areturn, 1) := by decide +kernel
theorem dX7_spelling_171 : decode cX7_spelling 171 = .ok (.ldc 140, 2) := by decide +kernel
theorem dX7_spelling_173 : decode cX7_spelling 173 = .ok (.areturn, 1) := by decide +kernel
theorem dX7_spelling_174 : decode cX7_spelling 174 = .ok (.ldc 142, 2) := by decide +kernel
theorem dX7_spelling_176 : decode cX7_spelling 176 = .ok (.areturn, 1) := by decide +kernel
theorem dX7_spelling_177 : decode cX7_spelling 177 = .ok (.ldc 144, 2) := by decide +kernel
theorem dX7_spelling_179 : decode cX7_spelling 179 = .ok (.areturn, 1) := by decide +kernel
theorem dX8_init_0 : decode cX8_init 0 = .ok (.aload_n 0, 1) := by decide +kernel
theorem dX8_init_1 : decode cX8_init 1 = .ok (.invokespecial 3, 3) := by decide +kernel
theorem dX8_init_4 : decode cX8_init 4 = .ok (.aload_n 0, 1) := by decide +kernel
theorem dX8_init_5 : decode cX8_init 5 = .ok (.new 9, 3) := by decide +kernel
theorem dX8_init_8 : decode cX8_init 8 = .ok (.dup, 1) := by decide +kernel
theorem dX8_init_9 : decode cX8_init 9 = .ok (.invokespecial 11, 3) := by decide +kernel
theorem dX8_init_12 : decode cX8_init 12 = .ok (.putfield 12, 3) := by decide +kernel
theorem dX8_init_15 : decode cX8_init 15 = .ok (.aload_n 0, 1) := by decide +kernel
theorem dX8_init_16 : decode cX8_init 16 = .ok (.iconst 4, 1) := by decide +kernel
theorem dX8_init_17 : decode cX8_init 17 = .ok (.anewarray 18, 3) := by decide +kernel
theorem dX8_init_20 : decode cX8_init 20 = .ok (.putfield 20, 3) := by decide +kernel
theorem dX8_init_23 : decode cX8_init 23 = .ok (.aload_n 0, 1) := by decide +kernel
theorem dX8_init_24 : decode cX8_init 24 = .ok (.iconst 4, 1) := by decide +kernel
theorem dX8_init_25 : decode cX8_init 25 = .ok (.anewarray 24, 3) := by decide +kernel
theorem dX8_init_28 : decode cX8_init 28 = .ok (.putfield 26, 3) := by decide +kernel
theorem dX8_init_31 : decode cX8_init 31 = .ok (.aload_n 0, 1) := by decide +kernel
theorem dX8_init_32 : decode cX8_init 32 = .ok (.new 30, 3) := by decide +kernel
theorem dX8_init_35 : decode cX8_init 35 = .ok (.dup, 1) := by decide +kernel
theorem dX8_init_36 : decode cX8_init 36 = .ok (.invokespecial 32, 3) := by decide +kernel
theorem dX8_init_39 : decode cX8_init 39 = .ok (.putfield 33, 3) := by decide +kernel
theorem dX8_init_42 : decode cX8_init 42 = .ok (.aload_n 0, 1) := by decide +kernel
theorem dX8_init_43 : decode cX8_init 43 = .ok (.new 18, 3) := by decide +kernel
theorem dX8_init_46 : decode cX8_init 46 = .ok (.dup, 1) := by decide +kernel
theorem dX8_init_47 : decode cX8_init 47 = .ok (.invokespecial 37, 3) := by decide +kernel
theorem dX8_init_50 : decode cX8_init 50 = .ok (.putfield 38, 3) := by decide +kernel
theorem dX8_init_53 : decode cX8_init 53 = .ok (.aload_n 0, 1) := by decide +kernel
theorem dX8_init_54 : decode cX8_init 54 = .ok (.new 24, 3) := by decide +kernel
theorem dX8_init_57 : decode cX8_init 57 = .ok (.dup, 1) := by decide +kernel
theorem dX8_init_58 : decode cX8_init 58 = .ok (.invokespecial 42, 3) := by decide +kernel
theorem dX8_init_61 : decode cX8_init 61 = .ok (.putfield 43, 3) := by decide +kernel
theorem dX8_init_64 : decode cX8_init 64 = .ok (.aload_n 0, 1) := by decide +kernel
theorem dX8_init_65 : decode cX8_init 65 = .ok (.new 30, 3) := by decide +kernel
theorem dX8_init_68 : decode cX8_init 68 = .ok (.dup, 1) := by decide +kernel
theorem dX8_init_69 : decode cX8_init 69 = .ok (.invokespecial 32, 3) := by decide +kernel
theorem dX8_init_72 : decode cX8_init 72 = .ok (.putfield 47, 3) := by decide +kernel
theorem dX8_init_75 : decode cX8_init 75 = .ok (.iconst 0, 1) := by decide +kernel
theorem dX8_init_76 : decode cX8_init 76 = .ok (.istore_n 1, 1) := by decide +kernel
theorem dX8_init_77 : decode cX8_init 77 = .ok (.iload_n 1, 1) := by decide +kernel
theorem dX8_init_78 : decode cX8_init 78 = .ok (.iconst 4, 1) := by decide +kernel
theorem dX8_init_79 : decode cX8_init 79 = .ok (.if_icmp .ge 22, 3) := by decide +kernel
theorem dX8_init_82 : decode cX8_init 82 = .ok (.aload_n 0, 1) := by decide +kernel
theorem dX8_init_83 : decode cX8_init 83 = .ok (.getfield 20, 3) := by decide +kernel
theorem dX8_init_86 : decode cX8_init 86 = .ok (.iload_n 1, 1) := by decide +kernel
theorem dX8_init_87 : decode cX8_init 87 = .ok (.new 18, 3) := by decide +kernel
theorem dX8_init_90 : decode cX8_init 90 = .ok (.dup, 1) := by decide +kernel
theorem dX8_init_91 : decode cX8_init 91 = .ok (.invokespecial 37, 3) := by decide +kernel
theorem dX8_init_94 : decode cX8_init 94 = .ok (.aastore, 1) := by decide +kernel
theorem dX8_init_95 : decode cX8_init 95 = .ok (.iinc 1 1, 3) := by decide +kernel
theorem dX8_init_98 : decode cX8_init 98 = .ok (.goto (-21), 3) := by decide +kernel
theorem dX8_init_101 : decode cX8_init 101 = .ok (.iconst 0, 1) := by decide +kernel
theorem dX8_init_102 : decode cX8_init 102 = .ok (.istore_n 1, 1) := by decide +kernel
theorem dX8_init_103 : decode cX8_init 103 = .ok (.iload_n 1, 1) := by decide +kernel
theorem dX8_init_104 : decode cX8_init 104 = .ok (.iconst 4, 1) := by decide +kernel
theorem dX8_init_105 : decode cX8_init 105 = .ok (.if_icmp .ge 22, 3) := by decide +kernel
theorem dX8_init_108 : decode cX8_init 108 = .ok (.aload_n 0, 1) := by decide +kernel
theorem dX8_init_109 : decode cX8_init 109 = .ok (.getfield 26, 3) := by decide +kernel
theorem dX8_init_112 : decode cX8_init 112 = .ok (.iload_n 1, 1) := by decide +kernel
theorem dX8_init_113 : decode cX8_init 113 = .ok (.new 24, 3) := by decide +kernel
theorem dX8_init_116 : decode cX8_init 116 = .ok (.dup, 1) := by decide +kernel
theorem dX8_init_117 : decode cX8_init 117 = .ok (.invokespecial 42, 3) := by decide +kernel
theorem dX8_init_120 : decode cX8_init 120 = .ok (.aastore, 1) := by decide +kernel
theorem dX8_init_121 : decode cX8_init 121 = .ok (.iinc 1 1, 3) := by decide +kernel
theorem dX8_init_124 : decode cX8_init 124 = .ok (.goto (-21), 3) := by decide +kernel
theorem dX8_init_127 : decode cX8_init 127 = .ok (.return_, 1) := by decide +kernel
theorem dX8_take_0 : decode cX8_take 0 = .ok (.iconst (-1), 1) := by decide +kernel
theorem dX8_take_1 : decode cX8_take 1 = .ok (.istore_n 3, 1) := by decide +kernel
theorem dX8_take_2 : decode cX8_take 2 = .ok (.aload_n 0, 1) := by decide +kernel
theorem dX8_take_3 : decode cX8_take 3 = .ok (.getfield 12, 3) := by decide +kernel
theorem dX8_take_6 : decode cX8_take 6 = .ok (.invokevirtual 50, 3) := by decide +kernel
theorem dX8_take_9 : decode cX8_take 9 = .ok (.aload_n 0, 1) := by decide +kernel
theorem dX8_take_10 : decode cX8_take 10 = .ok (.getfield 12, 3) := by decide +kernel
theorem dX8_take_13 : decode cX8_take 13 = .ok (.invokevirtual 53, 3) := by decide +kernel
theorem dX8_take_16 : decode cX8_take 16 = .ok (.iload_n 1, 1) := by decide +kernel
theorem dX8_take_17 : decode cX8_take 17 = .ok (.ifCond .ne 32, 3) := by decide +kernel
theorem dX8_take_20 : decode cX8_take 20 = .ok (.iload_n 2, 1) := by decide +kernel
theorem dX8_take_21 : decode cX8_take 21 = .ok (.iconst 0, 1) := by decide +kernel
theorem dX8_take_22 : decode cX8_take 22 = .ok (.iconst 3, 1) := by decide +kernel
theorem dX8_take_23 : decode cX8_take 23 = .ok (.invokestatic 56, 3) := by decide +kernel
theorem dX8_take_26 : decode cX8_take 26 = .ok (.ifCond .eq 23, 3) := by decide +kernel
theorem dX8_take_29 : decode cX8_take 29 = .ok (.aload_n 0, 1) := by decide +kernel
theorem dX8_take_30 : decode cX8_take 30 = .ok (.invokevirtual 60, 3) := by decide +kernel
theorem dX8_take_33 : decode cX8_take 33 = .ok (.ifCond .eq 11, 3) := by decide +kernel
theorem dX8_take_36 : decode cX8_take 36 = .ok (.aload_n 0, 1) := by decide +kernel
theorem dX8_take_37 : decode cX8_take 37 = .ok (.iload_n 2, 1) := by decide +kernel
theorem dX8_take_38 : decode cX8_take 38 = .ok (.invokevirtual 64, 3) := by decide +kernel
theorem dX8_take_41 : decode cX8_take 41 = .ok (.goto 4, 3) := by decide +kernel
theorem dX8_take_44 : decode cX8_take 44 = .ok (.iconst (-1), 1) := by decide +kernel
theorem dX8_take_45 : decode cX8_take 45 = .ok (.istore_n 3, 1) := by decide +kernel
theorem dX8_take_46 : decode cX8_take 46 = .ok (.goto 62, 3) := by decide +kernel
theorem dX8_take_49 : decode cX8_take 49 = .ok (.iload_n 1, 1) := by decide +kernel
theorem dX8_take_50 : decode cX8_take 50 = .ok (.iconst 1, 1) := by decide +kernel
theorem dX8_take_51 : decode cX8_take 51 = .ok (.if_icmp .ne 26, 3) := by decide +kernel
theorem dX8_take_54 : decode cX8_take 54 = .ok (.iload_n 2, 1) := by decide +kernel
theorem dX8_take_55 : decode cX8_take 55 = .ok (.ifCond .ne 22, 3) := by decide +kernel
theorem dX8_take_58 : decode cX8_take 58 = .ok (.aload_n 0, 1) := by decide +kernel
theorem dX8_take_59 : decode cX8_take 59 = .ok (.invokevirtual 68, 3) := by decide +kernel
theorem dX8_take_62 : decode cX8_take 62 = .ok (.ifCond .eq 10, 3) := by decide +kernel
theorem dX8_take_65 : decode cX8_take 65 = .ok (.aload_n 0, 1) := by decide +kernel
theorem dX8_take_66 : decode cX8_take 66 = .ok (.invokevirtual 71, 3) := by decide +kernel
theorem dX8_take_69 : decode cX8_take 69 = .ok (.goto 4, 3) := by decide +kernel
theorem dX8_take_72 : decode cX8_take 72 = .ok (.iconst (-1), 1) := by decide +kernel
theorem dX8_take_73 : decode cX8_take 73 = .ok (.istore_n 3, 1) := by decide +kernel
theorem dX8_take_74 : decode cX8_take 74 = .ok (.goto 34, 3) := by decide +kernel
theorem dX8_take_77 : decode cX8_take 77 = .ok (.iload_n 1, 1) := by decide +kernel
theorem dX8_take_78 : decode cX8_take 78 = .ok (.iconst 2, 1) := by decide +kernel
theorem dX8_take_79 : decode cX8_take 79 = .ok (.if_icmp .ne 29, 3) := by decide +kernel
theorem dX8_take_82 : decode cX8_take 82 = .ok (.iload_n 2, 1) := by decide +kernel
theorem dX8_take_83 : decode cX8_take 83 = .ok (.iconst 0, 1) := by decide +kernel
theorem dX8_take_84 : decode cX8_take 84 = .ok (.iconst 3, 1) := by decide +kernel
theorem dX8_take_85 : decode cX8_take 85 = .ok (.invokestatic 56, 3) := by decide +kernel
theorem dX8_take_88 : decode cX8_take 88 = .ok (.ifCond .eq 20, 3) := by decide +kernel
theorem dX8_take_91 : decode cX8_take 91 = .ok (.aload_n 0, 1) := by decide +kernel
theorem dX8_take_92 : decode cX8_take 92 = .ok (.invokevirtual 75, 3) := by decide +kernel
theorem dX8_take_95 : decode cX8_take 95 = .ok (.ifCond .eq 11, 3) := by decide +kernel
theorem dX8_take_98 : decode cX8_take 98 = .ok (.aload_n 0, 1) := by decide +kernel
theorem dX8_take_99 : decode cX8_take 99 = .ok (.iload_n 2, 1) := by decide +kernel
theorem dX8_take_100 : decode cX8_take 100 = .ok (.invokevirtual 78, 3) := by decide +kernel
theorem dX8_take_103 : decode cX8_take 103 = .ok (.goto 4, 3) := by decide +kernel
theorem dX8_take_106 : decode cX8_take 106 = .ok (.iconst (-1), 1) := by decide +kernel
theorem dX8_take_107 : decode cX8_take 107 = .ok (.istore_n 3, 1) := by decide +kernel
theorem dX8_take_108 : decode cX8_take 108 = .ok (.aload_n 0, 1) := by decide +kernel
theorem dX8_take_109 : decode cX8_take 109 = .ok (.getfield 12, 3) := by decide +kernel
theorem dX8_take_112 : decode cX8_take 112 = .ok (.iconst 0, 1) := by decide +kernel
theorem dX8_take_113 : decode cX8_take 113 = .ok (.putfield 81, 3) := by decide +kernel
theorem dX8_take_116 : decode cX8_take 116 = .ok (.iload_n 3, 1) := by decide +kernel
theorem dX8_take_117 : decode cX8_take 117 = .ok (.ireturn, 1) := by decide +kernel
theorem dX8_keepHead_0 : decode cX8_keepHead 0 = .ok (.aload_n 0, 1) := by decide +kernel
theorem dX8_keepHead_1 : decode cX8_keepHead 1 = .ok (.getfield 20, 3) := by decide +kernel
theorem dX8_keepHead_4 : decode cX8_keepHead 4 = .ok (.iload_n 1, 1) := by decide +kernel
theorem dX8_keepHead_5 : decode cX8_keepHead 5 = .ok (.aaload, 1) := by decide +kernel
theorem dX8_keepHead_6 : decode cX8_keepHead 6 = .ok (.astore_n 2, 1) := by decide +kernel
theorem dX8_keepHead_7 : decode cX8_keepHead 7 = .ok (.aload_n 0, 1) := by decide +kernel
theorem dX8_keepHead_8 : decode cX8_keepHead 8 = .ok (.getfield 20, 3) := by decide +kernel
theorem dX8_keepHead_11 : decode cX8_keepHead 11 = .ok (.iload_n 1, 1) := by decide +kernel
theorem dX8_keepHead_12 : decode cX8_keepHead 12 = .ok (.aload_n 0, 1) := by decide +kernel
theorem dX8_keepHead_13 : decode cX8_keepHead 13 = .ok (.getfield 38, 3) := by decide +kernel
theorem dX8_keepHead_16 : decode cX8_keepHead 16 = .ok (.aastore, 1) := by decide +kernel
theorem dX8_keepHead_17 : decode cX8_keepHead 17 = .ok (.aload_n 0, 1) := by decide +kernel
theorem dX8_keepHead_18 : decode cX8_keepHead 18 = .ok (.aload_n 2, 1) := by decide +kernel
theorem dX8_keepHead_19 : decode cX8_keepHead 19 = .ok (.putfield 38, 3) := by decide +kernel
theorem dX8_keepHead_22 : decode cX8_keepHead 22 = .ok (.aload_n 0, 1) := by decide +kernel
theorem dX8_keepHead_23 : decode cX8_keepHead 23 = .ok (.getfield 20, 3) := by decide +kernel
theorem dX8_keepHead_26 : decode cX8_keepHead 26 = .ok (.iload_n 1, 1) := by decide +kernel
theorem dX8_keepHead_27 : decode cX8_keepHead 27 = .ok (.aaload, 1) := by decide +kernel
theorem dX8_keepHead_28 : decode cX8_keepHead 28 = .ok (.getfield 85, 3) := by decide +kernel
theorem dX8_keepHead_31 : decode cX8_keepHead 31 = .ok (.ireturn, 1) := by decide +kernel
theorem dX8_keepSaid_0 : decode cX8_keepSaid 0 = .ok (.aload_n 0, 1) := by decide +kernel
theorem dX8_keepSaid_1 : decode cX8_keepSaid 1 = .ok (.getfield 33, 3) := by decide +kernel
theorem dX8_keepSaid_4 : decode cX8_keepSaid 4 = .ok (.astore_n 1, 1) := by decide +kernel
theorem dX8_keepSaid_5 : decode cX8_keepSaid 5 = .ok (.aload_n 0, 1) := by decide +kernel
theorem dX8_keepSaid_6 : decode cX8_keepSaid 6 = .ok (.aload_n 0, 1) := by decide +kernel
theorem dX8_keepSaid_7 : decode cX8_keepSaid 7 = .ok (.getfield 47, 3) := by decide +kernel
theorem dX8_keepSaid_10 : decode cX8_keepSaid 10 = .ok (.putfield 33, 3) := by decide +kernel
theorem dX8_keepSaid_13 : decode cX8_keepSaid 13 = .ok (.aload_n 0, 1) := by decide +kernel
theorem dX8_keepSaid_14 : decode cX8_keepSaid 14 = .ok (.aload_n 1, 1) := by decide +kernel
theorem dX8_keepSaid_15 : decode cX8_keepSaid 15 = .ok (.putfield 47, 3) := by decide +kernel
theorem dX8_keepSaid_18 : decode cX8_keepSaid 18 = .ok (.aload_n 0, 1) := by decide +kernel
theorem dX8_keepSaid_19 : decode cX8_keepSaid 19 = .ok (.getfield 33, 3) := by decide +kernel
theorem dX8_keepSaid_22 : decode cX8_keepSaid 22 = .ok (.getfield 88, 3) := by decide +kernel
theorem dX8_keepSaid_25 : decode cX8_keepSaid 25 = .ok (.ireturn, 1) := by decide +kernel
theorem dX8_keepWay_0 : decode cX8_keepWay 0 = .ok (.aload_n 0, 1) := by decide +kernel
theorem dX8_keepWay_1 : decode cX8_keepWay 1 = .ok (.getfield 26, 3) := by decide +kernel
theorem dX8_keepWay_4 : decode cX8_keepWay 4 = .ok (.iload_n 1, 1) := by decide +kernel
theorem dX8_keepWay_5 : decode cX8_keepWay 5 = .ok (.aaload, 1) := by decide +kernel
theorem dX8_keepWay_6 : decode cX8_keepWay 6 = .ok (.astore_n 2, 1) := by decide +kernel
theorem dX8_keepWay_7 : decode cX8_keepWay 7 = .ok (.aload_n 0, 1) := by decide +kernel
theorem dX8_keepWay_8 : decode cX8_keepWay 8 = .ok (.getfield 26, 3) := by decide +kernel
theorem dX8_keepWay_11 : decode cX8_keepWay 11 = .ok (.iload_n 1, 1) := by decide +kernel
theorem dX8_keepWay_12 : decode cX8_keepWay 12 = .ok (.aload_n 0, 1) := by decide +kernel
theorem dX8_keepWay_13 : decode cX8_keepWay 13 = .ok (.getfield 43, 3) := by decide +kernel
theorem dX8_keepWay_16 : decode cX8_keepWay 16 = .ok (.aastore, 1) := by decide +kernel
theorem dX8_keepWay_17 : decode cX8_keepWay 17 = .ok (.aload_n 0, 1) := by decide +kernel
theorem dX8_keepWay_18 : decode cX8_keepWay 18 = .ok (.aload_n 2, 1) := by decide +kernel
theorem dX8_keepWay_19 : decode cX8_keepWay 19 = .ok (.putfield 43, 3) := by decide +kernel
theorem dX8_keepWay_22 : decode cX8_keepWay 22 = .ok (.aload_n 0, 1) := by decide +kernel
theorem dX8_keepWay_23 : decode cX8_keepWay 23 = .ok (.getfield 26, 3) := by decide +kernel
theorem dX8_keepWay_26 : decode cX8_keepWay 26 = .ok (.iload_n 1, 1) := by decide +kernel
theorem dX8_keepWay_27 : decode cX8_keepWay 27 = .ok (.aaload, 1) := by decide +kernel
theorem dX8_keepWay_28 : decode cX8_keepWay 28 = .ok (.getfield 89, 3) := by decide +kernel
theorem dX8_keepWay_31 : decode cX8_keepWay 31 = .ok (.ireturn, 1) := by decide +kernel
theorem dX8_readHead_0 : decode cX8_readHead 0 = .ok (.aload_n 0, 1) := by decide +kernel
theorem dX8_readHead_1 : decode cX8_readHead 1 = .ok (.getfield 38, 3) := by decide +kernel
theorem dX8_readHead_4 : decode cX8_readHead 4 = .ok (.invokevirtual 90, 3) := by decide +kernel
theorem dX8_readHead_7 : decode cX8_readHead 7 = .ok (.iconst 0, 1) := by decide +kernel
theorem dX8_readHead_8 : decode cX8_readHead 8 = .ok (.istore_n 1, 1) := by decide +kernel
theorem dX8_readHead_9 : decode cX8_readHead 9 = .ok (.iload_n 1, 1) := by decide +kernel
theorem dX8_readHead_10 : decode cX8_readHead 10 = .ok (.sipush 400, 3) := by decide +kernel
theorem dX8_readHead_13 : decode cX8_readHead 13 = .ok (.if_icmp .gt 106, 3) := by decide +kernel
theorem dX8_readHead_16 : decode cX8_readHead 16 = .ok (.aload_n 0, 1) := by decide +kernel
theorem dX8_readHead_17 : decode cX8_readHead 17 = .ok (.getfield 12, 3) := by decide +kernel
theorem dX8_readHead_20 : decode cX8_readHead 20 = .ok (.getfield 93, 3) := by decide +kernel
theorem dX8_readHead_23 : decode cX8_readHead 23 = .ok (.istore_n 2, 1) := by decide +kernel
theorem dX8_readHead_24 : decode cX8_readHead 24 = .ok (.iload_n 2, 1) := by decide +kernel
theorem dX8_readHead_25 : decode cX8_readHead 25 = .ok (.bipush 24, 2) := by decide +kernel
theorem dX8_readHead_27 : decode cX8_readHead 27 = .ok (.if_icmp .ne 5, 3) := by decide +kernel
theorem dX8_readHead_30 : decode cX8_readHead 30 = .ok (.iconst 1, 1) := by decide +kernel
theorem dX8_readHead_31 : decode cX8_readHead 31 = .ok (.ireturn, 1) := by decide +kernel
theorem dX8_readHead_32 : decode cX8_readHead 32 = .ok (.iload_n 2, 1) := by decide +kernel
theorem dX8_readHead_33 : decode cX8_readHead 33 = .ok (.iconst 0, 1) := by decide +kernel
theorem dX8_readHead_34 : decode cX8_readHead 34 = .ok (.bipush 7, 2) := by decide +kernel
theorem dX8_readHead_36 : decode cX8_readHead 36 = .ok (.invokestatic 56, 3) := by decide +kernel
theorem dX8_readHead_39 : decode cX8_readHead 39 = .ok (.ifCond .ne 12, 3) := by decide +kernel
theorem dX8_readHead_42 : decode cX8_readHead 42 = .ok (.aload_n 0, 1) := by decide +kernel
theorem dX8_readHead_43 : decode cX8_readHead 43 = .ok (.getfield 12, 3) := by decide +kernel
theorem dX8_readHead_46 : decode cX8_readHead 46 = .ok (.iconst 1, 1) := by decide +kernel
theorem dX8_readHead_47 : decode cX8_readHead 47 = .ok (.invokevirtual 96, 3) := by decide +kernel
theorem dX8_readHead_50 : decode cX8_readHead 50 = .ok (.ireturn, 1) := by decide +kernel
theorem dX8_readHead_51 : decode cX8_readHead 51 = .ok (.aload_n 0, 1) := by decide +kernel
theorem dX8_readHead_52 : decode cX8_readHead 52 = .ok (.getfield 38, 3) := by decide +kernel
theorem dX8_readHead_55 : decode cX8_readHead 55 = .ok (.iload_n 2, 1) := by decide +kernel
theorem dX8_readHead_56 : decode cX8_readHead 56 = .ok (.invokevirtual 100, 3) := by decide +kernel
theorem dX8_readHead_59 : decode cX8_readHead 59 = .ok (.ifCond .eq 12, 3) := by decide +kernel
theorem dX8_readHead_62 : decode cX8_readHead 62 = .ok (.aload_n 0, 1) := by decide +kernel
theorem dX8_readHead_63 : decode cX8_readHead 63 = .ok (.getfield 12, 3) := by decide +kernel
theorem dX8_readHead_66 : decode cX8_readHead 66 = .ok (.iconst 2, 1) := by decide +kernel
theorem dX8_readHead_67 : decode cX8_readHead 67 = .ok (.invokevirtual 96, 3) := by decide +kernel
theorem dX8_readHead_70 : decode cX8_readHead 70 = .ok (.ireturn, 1) := by decide +kernel
theorem dX8_readHead_71 : decode cX8_readHead 71 = .ok (.aload_n 0, 1) := by decide +kernel
theorem dX8_readHead_72 : decode cX8_readHead 72 = .ok (.getfield 38, 3) := by decide +kernel
theorem dX8_readHead_75 : decode cX8_readHead 75 = .ok (.iload_n 2, 1) := by decide +kernel
theorem dX8_readHead_76 : decode cX8_readHead 76 = .ok (.invokevirtual 103, 3) := by decide +kernel
theorem dX8_readHead_79 : decode cX8_readHead 79 = .ok (.aload_n 0, 1) := by decide +kernel
theorem dX8_readHead_80 : decode cX8_readHead 80 = .ok (.getfield 12, 3) := by decide +kernel
theorem dX8_readHead_83 : decode cX8_readHead 83 = .ok (.invokevirtual 107, 3) := by decide +kernel
theorem dX8_readHead_86 : decode cX8_readHead 86 = .ok (.aload_n 0, 1) := by decide +kernel
theorem dX8_readHead_87 : decode cX8_readHead 87 = .ok (.iconst 0, 1) := by decide +kernel
theorem dX8_readHead_88 : decode cX8_readHead 88 = .ok (.invokevirtual 110, 3) := by decide +kernel
theorem dX8_readHead_91 : decode cX8_readHead 91 = .ok (.ifCond .eq 12, 3) := by decide +kernel
theorem dX8_readHead_94 : decode cX8_readHead 94 = .ok (.aload_n 0, 1) := by decide +kernel
theorem dX8_readHead_95 : decode cX8_readHead 95 = .ok (.bipush 59, 2) := by decide +kernel
theorem dX8_readHead_97 : decode cX8_readHead 97 = .ok (.invokevirtual 113, 3) := by decide +kernel
theorem dX8_readHead_100 : decode cX8_readHead 100 = .ok (.ifCond .ne 5, 3) := by decide +kernel
theorem dX8_readHead_103 : decode cX8_readHead 103 = .ok (.iconst 0, 1) := by decide +kernel
theorem dX8_readHead_104 : decode cX8_readHead 104 = .ok (.ireturn, 1) := by decide +kernel
theorem dX8_readHead_105 : decode cX8_readHead 105 = .ok (.aload_n 0, 1) := by decide +kernel
theorem dX8_readHead_106 : decode cX8_readHead 106 = .ok (.getfield 38, 3) := by decide +kernel
theorem dX8_readHead_109 : decode cX8_readHead 109 = .ok (.iload_n 2, 1) := by decide +kernel
theorem dX8_readHead_110 : decode cX8_readHead 110 = .ok (.invokevirtual 116, 3) := by decide +kernel
theorem dX8_readHead_113 : decode cX8_readHead 113 = .ok (.iinc 1 1, 3) := by decide +kernel
theorem dX8_readHead_116 : decode cX8_readHead 116 = .ok (.goto (-107), 3) := by decide +kernel
theorem dX8_readHead_119 : decode cX8_readHead 119 = .ok (.aload_n 0, 1) := by decide +kernel
theorem dX8_readHead_120 : decode cX8_readHead 120 = .ok (.getfield 12, 3) := by decide +kernel
theorem dX8_readHead_123 : decode cX8_readHead 123 = .ok (.iconst 1, 1) := by decide +kernel
theorem dX8_readHead_124 : decode cX8_readHead 124 = .ok (.invokevirtual 96, 3) := by decide +kernel
theorem dX8_readHead_127 : decode cX8_readHead 127 = .ok (.ireturn, 1) := by decide +kernel
theorem dX8_readSum_0 : decode cX8_readSum 0 = .ok (.aload_n 0, 1) := by decide +kernel
theorem dX8_readSum_1 : decode cX8_readSum 1 = .ok (.iload_n 1, 1) := by decide +kernel
theorem dX8_readSum_2 : decode cX8_readSum 2 = .ok (.invokevirtual 119, 3) := by decide +kernel
theorem dX8_readSum_5 : decode cX8_readSum 5 = .ok (.istore_n 2, 1) := by decide +kernel
theorem dX8_readSum_6 : decode cX8_readSum 6 = .ok (.iconst 0, 1) := by decide +kernel
theorem dX8_readSum_7 : decode cX8_readSum 7 = .ok (.istore_n 3, 1) := by decide +kernel
theorem dX8_readSum_8 : decode cX8_readSum 8 = .ok (.iload_n 3, 1) := by decide +kernel
theorem dX8_readSum_9 : decode cX8_readSum 9 = .ok (.sipush 400, 3) := by decide +kernel
theorem dX8_readSum_12 : decode cX8_readSum 12 = .ok (.if_icmp .gt 71, 3) := by decide +kernel
theorem dX8_readSum_15 : decode cX8_readSum 15 = .ok (.iload_n 2, 1) := by decide +kernel
theorem dX8_readSum_16 : decode cX8_readSum 16 = .ok (.ifCond .eq 67, 3) := by decide +kernel
theorem dX8_readSum_19 : decode cX8_readSum 19 = .ok (.aload_n 0, 1) := by decide +kernel
theorem dX8_readSum_20 : decode cX8_readSum 20 = .ok (.getfield 12, 3) := by decide +kernel
theorem dX8_readSum_23 : decode cX8_readSum 23 = .ok (.getfield 93, 3) := by decide +kernel
theorem dX8_readSum_26 : decode cX8_readSum 26 = .ok (.istore 4, 2) := by decide +kernel
theorem dX8_readSum_28 : decode cX8_readSum 28 = .ok (.iload 4, 2) := by decide +kernel
theorem dX8_readSum_30 : decode cX8_readSum 30 = .ok (.bipush 43, 2) := by decide +kernel
theorem dX8_readSum_32 : decode cX8_readSum 32 = .ok (.if_icmp .eq 12, 3) := by decide +kernel
theorem dX8_readSum_35 : decode cX8_readSum 35 = .ok (.iload 4, 2) := by decide +kernel
theorem dX8_readSum_37 : decode cX8_readSum 37 = .ok (.bipush 45, 2) := by decide +kernel
theorem dX8_readSum_39 : decode cX8_readSum 39 = .ok (.if_icmp .eq 5, 3) := by decide +kernel
theorem dX8_readSum_42 : decode cX8_readSum 42 = .ok (.iconst 1, 1) := by decide +kernel
theorem dX8_readSum_43 : decode cX8_readSum 43 = .ok (.ireturn, 1) := by decide +kernel
theorem dX8_readSum_44 : decode cX8_readSum 44 = .ok (.aload_n 0, 1) := by decide +kernel
theorem dX8_readSum_45 : decode cX8_readSum 45 = .ok (.getfield 12, 3) := by decide +kernel
theorem dX8_readSum_48 : decode cX8_readSum 48 = .ok (.invokevirtual 107, 3) := by decide +kernel
theorem dX8_readSum_51 : decode cX8_readSum 51 = .ok (.aload_n 0, 1) := by decide +kernel
theorem dX8_readSum_52 : decode cX8_readSum 52 = .ok (.iload_n 1, 1) := by decide +kernel
theorem dX8_readSum_53 : decode cX8_readSum 53 = .ok (.invokevirtual 119, 3) := by decide +kernel
theorem dX8_readSum_56 : decode cX8_readSum 56 = .ok (.istore_n 2, 1) := by decide +kernel
theorem dX8_readSum_57 : decode cX8_readSum 57 = .ok (.aload_n 0, 1) := by decide +kernel
theorem dX8_readSum_58 : decode cX8_readSum 58 = .ok (.getfield 38, 3) := by decide +kernel
theorem dX8_readSum_61 : decode cX8_readSum 61 = .ok (.iload 4, 2) := by decide +kernel
theorem dX8_readSum_63 : decode cX8_readSum 63 = .ok (.bipush 43, 2) := by decide +kernel
theorem dX8_readSum_65 : decode cX8_readSum 65 = .ok (.if_icmp .ne 7, 3) := by decide +kernel
theorem dX8_readSum_68 : decode cX8_readSum 68 = .ok (.iconst 2, 1) := by decide +kernel
theorem dX8_readSum_69 : decode cX8_readSum 69 = .ok (.goto 4, 3) := by decide +kernel
theorem dX8_readSum_72 : decode cX8_readSum 72 = .ok (.iconst 3, 1) := by decide +kernel
theorem dX8_readSum_73 : decode cX8_readSum 73 = .ok (.iconst 0, 1) := by decide +kernel
theorem dX8_readSum_74 : decode cX8_readSum 74 = .ok (.invokevirtual 122, 3) := by decide +kernel
theorem dX8_readSum_77 : decode cX8_readSum 77 = .ok (.iinc 3 1, 3) := by decide +kernel
theorem dX8_readSum_80 : decode cX8_readSum 80 = .ok (.goto (-72), 3) := by decide +kernel
theorem dX8_readSum_83 : decode cX8_readSum 83 = .ok (.iload_n 2, 1) := by decide +kernel
theorem dX8_readSum_84 : decode cX8_readSum 84 = .ok (.ireturn, 1) := by decide +kernel
theorem dX8_readProduct_0 : decode cX8_readProduct 0 = .ok (.aload_n 0, 1) := by decide +kernel
theorem dX8_readProduct_1 : decode cX8_readProduct 1 = .ok (.iload_n 1, 1) := by decide +kernel
theorem dX8_readProduct_2 : decode cX8_readProduct 2 = .ok (.invokevirtual 126, 3) := by decide +kernel
theorem dX8_readProduct_5 : decode cX8_readProduct 5 = .ok (.istore_n 2, 1) := by decide +kernel
theorem dX8_readProduct_6 : decode cX8_readProduct 6 = .ok (.iconst 0, 1) := by decide +kernel
theorem dX8_readProduct_7 : decode cX8_readProduct 7 = .ok (.istore_n 3, 1) := by decide +kernel
theorem dX8_readProduct_8 : decode cX8_readProduct 8 = .ok (.iload_n 3, 1) := by decide +kernel
theorem dX8_readProduct_9 : decode cX8_readProduct 9 = .ok (.sipush 400, 3) := by decide +kernel
theorem dX8_readProduct_12 : decode cX8_readProduct 12 = .ok (.if_icmp .gt 75, 3) := by decide +kernel
theorem dX8_readProduct_15 : decode cX8_readProduct 15 = .ok (.iload_n 2, 1) := by decide +kernel
theorem dX8_readProduct_16 : decode cX8_readProduct 16 = .ok (.ifCond .eq 71, 3) := by decide +kernel
theorem dX8_readProduct_19 : decode cX8_readProduct 19 = .ok (.aload_n 0, 1) := by decide +kernel
theorem dX8_readProduct_20 : decode cX8_readProduct 20 = .ok (.getfield 12, 3) := by decide +kernel
theorem dX8_readProduct_23 : decode cX8_readProduct 23 = .ok (.getfield 93, 3) := by decide +kernel
theorem dX8_readProduct_26 : decode cX8_readProduct 26 = .ok (.istore 4, 2) := by decide +kernel
theorem dX8_readProduct_28 : decode cX8_readProduct 28 = .ok (.iload 4, 2) := by decide +kernel
theorem dX8_readProduct_30 : decode cX8_readProduct 30 = .ok (.bipush 42, 2) := by decide +kernel
theorem dX8_readProduct_32 : decode cX8_readProduct 32 = .ok (.if_icmp .eq 12, 3) := by decide +kernel
theorem dX8_readProduct_35 : decode cX8_readProduct 35 = .ok (.iload 4, 2) := by decide +kernel
theorem dX8_readProduct_37 : decode cX8_readProduct 37 = .ok (.bipush 47, 2) := by decide +kernel
theorem dX8_readProduct_39 : decode cX8_readProduct 39 = .ok (.if_icmp .eq 5, 3) := by decide +kernel
theorem dX8_readProduct_42 : decode cX8_readProduct 42 = .ok (.iconst 1, 1) := by decide +kernel
theorem dX8_readProduct_43 : decode cX8_readProduct 43 = .ok (.ireturn, 1) := by decide +kernel
theorem dX8_readProduct_44 : decode cX8_readProduct 44 = .ok (.aload_n 0, 1) := by decide +kernel
theorem dX8_readProduct_45 : decode cX8_readProduct 45 = .ok (.getfield 12, 3) := by decide +kernel
theorem dX8_readProduct_48 : decode cX8_readProduct 48 = .ok (.invokevirtual 107, 3) := by decide +kernel
theorem dX8_readProduct_51 : decode cX8_readProduct 51 = .ok (.iload 4, 2) := by decide +kernel
theorem dX8_readProduct_53 : decode cX8_readProduct 53 = .ok (.bipush 47, 2) := by decide +kernel
theorem dX8_readProduct_55 : decode cX8_readProduct 55 = .ok (.if_icmp .ne 11, 3) := by decide +kernel
theorem dX8_readProduct_58 : decode cX8_readProduct 58 = .ok (.aload_n 0, 1) := by decide +kernel
theorem dX8_readProduct_59 : decode cX8_readProduct 59 = .ok (.invokevirtual 129, 3) := by decide +kernel
theorem dX8_readProduct_62 : decode cX8_readProduct 62 = .ok (.istore_n 2, 1) := by decide +kernel
theorem dX8_readProduct_63 : decode cX8_readProduct 63 = .ok (.goto 18, 3) := by decide +kernel
theorem dX8_readProduct_66 : decode cX8_readProduct 66 = .ok (.aload_n 0, 1) := by decide +kernel
theorem dX8_readProduct_67 : decode cX8_readProduct 67 = .ok (.iload_n 1, 1) := by decide +kernel
theorem dX8_readProduct_68 : decode cX8_readProduct 68 = .ok (.invokevirtual 126, 3) := by decide +kernel
theorem dX8_readProduct_71 : decode cX8_readProduct 71 = .ok (.istore_n 2, 1) := by decide +kernel
theorem dX8_readProduct_72 : decode cX8_readProduct 72 = .ok (.aload_n 0, 1) := by decide +kernel
theorem dX8_readProduct_73 : decode cX8_readProduct 73 = .ok (.getfield 38, 3) := by decide +kernel
theorem dX8_readProduct_76 : decode cX8_readProduct 76 = .ok (.iconst 4, 1) := by decide +kernel
theorem dX8_readProduct_77 : decode cX8_readProduct 77 = .ok (.iconst 0, 1) := by decide +kernel
theorem dX8_readProduct_78 : decode cX8_readProduct 78 = .ok (.invokevirtual 122, 3) := by decide +kernel
theorem dX8_readProduct_81 : decode cX8_readProduct 81 = .ok (.iinc 3 1, 3) := by decide +kernel
theorem dX8_readProduct_84 : decode cX8_readProduct 84 = .ok (.goto (-76), 3) := by decide +kernel
theorem dX8_readProduct_87 : decode cX8_readProduct 87 = .ok (.iload_n 2, 1) := by decide +kernel
theorem dX8_readProduct_88 : decode cX8_readProduct 88 = .ok (.ireturn, 1) := by decide +kernel
theorem dX8_readDivisor_0 : decode cX8_readDivisor 0 = .ok (.aload_n 0, 1) := by decide +kernel
theorem dX8_readDivisor_1 : decode cX8_readDivisor 1 = .ok (.getfield 12, 3) := by decide +kernel
theorem dX8_readDivisor_4 : decode cX8_readDivisor 4 = .ok (.getfield 93, 3) := by decide +kernel
theorem dX8_readDivisor_7 : decode cX8_readDivisor 7 = .ok (.bipush 23, 2) := by decide +kernel
theorem dX8_readDivisor_9 : decode cX8_readDivisor 9 = .ok (.if_icmp .eq 12, 3) := by decide +kernel
theorem dX8_readDivisor_12 : decode cX8_readDivisor 12 = .ok (.aload_n 0, 1) := by decide +kernel
theorem dX8_readDivisor_13 : decode cX8_readDivisor 13 = .ok (.getfield 12, 3) := by decide +kernel
theorem dX8_readDivisor_16 : decode cX8_readDivisor 16 = .ok (.iconst 1, 1) := by decide +kernel
theorem dX8_readDivisor_17 : decode cX8_readDivisor 17 = .ok (.invokevirtual 96, 3) := by decide +kernel
theorem dX8_readDivisor_20 : decode cX8_readDivisor 20 = .ok (.ireturn, 1) := by decide +kernel
theorem dX8_readDivisor_21 : decode cX8_readDivisor 21 = .ok (.aload_n 0, 1) := by decide +kernel
theorem dX8_readDivisor_22 : decode cX8_readDivisor 22 = .ok (.getfield 12, 3) := by decide +kernel
theorem dX8_readDivisor_25 : decode cX8_readDivisor 25 = .ok (.getfield 132, 3) := by decide +kernel
theorem dX8_readDivisor_28 : decode cX8_readDivisor 28 = .ok (.ifCond .ne 12, 3) := by decide +kernel
theorem dX8_readDivisor_31 : decode cX8_readDivisor 31 = .ok (.aload_n 0, 1) := by decide +kernel
theorem dX8_readDivisor_32 : decode cX8_readDivisor 32 = .ok (.getfield 12, 3) := by decide +kernel
theorem dX8_readDivisor_35 : decode cX8_readDivisor 35 = .ok (.iconst 2, 1) := by decide +kernel
theorem dX8_readDivisor_36 : decode cX8_readDivisor 36 = .ok (.invokevirtual 96, 3) := by decide +kernel
theorem dX8_readDivisor_39 : decode cX8_readDivisor 39 = .ok (.ireturn, 1) := by decide +kernel
theorem dX8_readDivisor_40 : decode cX8_readDivisor 40 = .ok (.aload_n 0, 1) := by decide +kernel
theorem dX8_readDivisor_41 : decode cX8_readDivisor 41 = .ok (.getfield 38, 3) := by decide +kernel
theorem dX8_readDivisor_44 : decode cX8_readDivisor 44 = .ok (.iconst 5, 1) := by decide +kernel
theorem dX8_readDivisor_45 : decode cX8_readDivisor 45 = .ok (.aload_n 0, 1) := by decide +kernel
theorem dX8_readDivisor_46 : decode cX8_readDivisor 46 = .ok (.getfield 12, 3) := by decide +kernel
theorem dX8_readDivisor_49 : decode cX8_readDivisor 49 = .ok (.getfield 132, 3) := by decide +kernel
theorem dX8_readDivisor_52 : decode cX8_readDivisor 52 = .ok (.invokevirtual 122, 3) := by decide +kernel
theorem dX8_readDivisor_55 : decode cX8_readDivisor 55 = .ok (.aload_n 0, 1) := by decide +kernel
theorem dX8_readDivisor_56 : decode cX8_readDivisor 56 = .ok (.getfield 12, 3) := by decide +kernel
theorem dX8_readDivisor_59 : decode cX8_readDivisor 59 = .ok (.invokevirtual 107, 3) := by decide +kernel
theorem dX8_readDivisor_62 : decode cX8_readDivisor 62 = .ok (.iconst 1, 1) := by decide +kernel
theorem dX8_readDivisor_63 : decode cX8_readDivisor 63 = .ok (.ireturn, 1) := by decide +kernel
theorem dX8_readUnit_0 : decode cX8_readUnit 0 = .ok (.aload_n 0, 1) := by decide +kernel
theorem dX8_readUnit_1 : decode cX8_readUnit 1 = .ok (.getfield 12, 3) := by decide +kernel
theorem dX8_readUnit_4 : decode cX8_readUnit 4 = .ok (.getfield 93, 3) := by decide +kernel
theorem dX8_readUnit_7 : decode cX8_readUnit 7 = .ok (.istore_n 2, 1) := by decide +kernel
theorem dX8_readUnit_8 : decode cX8_readUnit 8 = .ok (.iload_n 2, 1) := by decide +kernel
theorem dX8_readUnit_9 : decode cX8_readUnit 9 = .ok (.bipush 40, 2) := by decide +kernel
theorem dX8_readUnit_11 : decode cX8_readUnit 11 = .ok (.if_icmp .ne 50, 3) := by decide +kernel
theorem dX8_readUnit_14 : decode cX8_readUnit 14 = .ok (.iload_n 1, 1) := by decide +kernel
theorem dX8_readUnit_15 : decode cX8_readUnit 15 = .ok (.bipush 8, 2) := by decide +kernel
theorem dX8_readUnit_17 : decode cX8_readUnit 17 = .ok (.if_icmp .lt 12, 3) := by decide +kernel
theorem dX8_readUnit_20 : decode cX8_readUnit 20 = .ok (.aload_n 0, 1) := by decide +kernel
theorem dX8_readUnit_21 : decode cX8_readUnit 21 = .ok (.getfield 12, 3) := by decide +kernel
theorem dX8_readUnit_24 : decode cX8_readUnit 24 = .ok (.iconst 3, 1) := by decide +kernel
theorem dX8_readUnit_25 : decode cX8_readUnit 25 = .ok (.invokevirtual 96, 3) := by decide +kernel
theorem dX8_readUnit_28 : decode cX8_readUnit 28 = .ok (.ireturn, 1) := by decide +kernel
theorem dX8_readUnit_29 : decode cX8_readUnit 29 = .ok (.aload_n 0, 1) := by decide +kernel
theorem dX8_readUnit_30 : decode cX8_readUnit 30 = .ok (.getfield 12, 3) := by decide +kernel
theorem dX8_readUnit_33 : decode cX8_readUnit 33 = .ok (.invokevirtual 107, 3) := by decide +kernel
theorem dX8_readUnit_36 : decode cX8_readUnit 36 = .ok (.aload_n 0, 1) := by decide +kernel
theorem dX8_readUnit_37 : decode cX8_readUnit 37 = .ok (.iload_n 1, 1) := by decide +kernel
theorem dX8_readUnit_38 : decode cX8_readUnit 38 = .ok (.iconst 1, 1) := by decide +kernel
theorem dX8_readUnit_39 : decode cX8_readUnit 39 = .ok (.iadd, 1) := by decide +kernel
theorem dX8_readUnit_40 : decode cX8_readUnit 40 = .ok (.invokevirtual 110, 3) := by decide +kernel
theorem dX8_readUnit_43 : decode cX8_readUnit 43 = .ok (.ifCond .eq 16, 3) := by decide +kernel
theorem dX8_readUnit_46 : decode cX8_readUnit 46 = .ok (.aload_n 0, 1) := by decide +kernel
theorem dX8_readUnit_47 : decode cX8_readUnit 47 = .ok (.bipush 41, 2) := by decide +kernel
theorem dX8_readUnit_49 : decode cX8_readUnit 49 = .ok (.invokevirtual 113, 3) := by decide +kernel
theorem dX8_readUnit_52 : decode cX8_readUnit 52 = .ok (.ifCond .eq 7, 3) := by decide +kernel
theorem dX8_readUnit_55 : decode cX8_readUnit 55 = .ok (.iconst 1, 1) := by decide +kernel
theorem dX8_readUnit_56 : decode cX8_readUnit 56 = .ok (.goto 4, 3) := by decide +kernel
theorem dX8_readUnit_59 : decode cX8_readUnit 59 = .ok (.iconst 0, 1) := by decide +kernel
theorem dX8_readUnit_60 : decode cX8_readUnit 60 = .ok (.ireturn, 1) := by decide +kernel
theorem dX8_readUnit_61 : decode cX8_readUnit 61 = .ok (.iload_n 2, 1) := by decide +kernel
theorem dX8_readUnit_62 : decode cX8_readUnit 62 = .ok (.bipush 23, 2) := by decide +kernel
theorem dX8_readUnit_64 : decode cX8_readUnit 64 = .ok (.if_icmp .eq 23, 3) := by decide +kernel
theorem dX8_readUnit_67 : decode cX8_readUnit 67 = .ok (.iload_n 2, 1) := by decide +kernel
theorem dX8_readUnit_68 : decode cX8_readUnit 68 = .ok (.bipush 8, 2) := by decide +kernel
theorem dX8_readUnit_70 : decode cX8_readUnit 70 = .ok (.bipush 17, 2) := by decide +kernel
theorem dX8_readUnit_72 : decode cX8_readUnit 72 = .ok (.invokestatic 56, 3) := by decide +kernel
theorem dX8_readUnit_75 : decode cX8_readUnit 75 = .ok (.ifCond .ne 12, 3) := by decide +kernel
theorem dX8_readUnit_78 : decode cX8_readUnit 78 = .ok (.aload_n 0, 1) := by decide +kernel
theorem dX8_readUnit_79 : decode cX8_readUnit 79 = .ok (.getfield 12, 3) := by decide +kernel
theorem dX8_readUnit_82 : decode cX8_readUnit 82 = .ok (.iconst 1, 1) := by decide +kernel
theorem dX8_readUnit_83 : decode cX8_readUnit 83 = .ok (.invokevirtual 96, 3) := by decide +kernel
theorem dX8_readUnit_86 : decode cX8_readUnit 86 = .ok (.ireturn, 1) := by decide +kernel
theorem dX8_readUnit_87 : decode cX8_readUnit 87 = .ok (.iload_n 2, 1) := by decide +kernel
theorem dX8_readUnit_88 : decode cX8_readUnit 88 = .ok (.bipush 23, 2) := by decide +kernel
theorem dX8_readUnit_90 : decode cX8_readUnit 90 = .ok (.if_icmp .ne 21, 3) := by decide +kernel
theorem dX8_readUnit_93 : decode cX8_readUnit 93 = .ok (.aload_n 0, 1) := by decide +kernel
theorem dX8_readUnit_94 : decode cX8_readUnit 94 = .ok (.getfield 38, 3) := by decide +kernel
theorem dX8_readUnit_97 : decode cX8_readUnit 97 = .ok (.iconst 0, 1) := by decide +kernel
theorem dX8_readUnit_98 : decode cX8_readUnit 98 = .ok (.aload_n 0, 1) := by decide +kernel
theorem dX8_readUnit_99 : decode cX8_readUnit 99 = .ok (.getfield 12, 3) := by decide +kernel
theorem dX8_readUnit_102 : decode cX8_readUnit 102 = .ok (.getfield 132, 3) := by decide +kernel
theorem dX8_readUnit_105 : decode cX8_readUnit 105 = .ok (.invokevirtual 122, 3) := by decide +kernel
theorem dX8_readUnit_108 : decode cX8_readUnit 108 = .ok (.goto 15, 3) := by decide +kernel
theorem dX8_readUnit_111 : decode cX8_readUnit 111 = .ok (.aload_n 0, 1) := by decide +kernel
theorem dX8_readUnit_112 : decode cX8_readUnit 112 = .ok (.getfield 38, 3) := by decide +kernel
theorem dX8_readUnit_115 : decode cX8_readUnit 115 = .ok (.iconst 1, 1) := by decide +kernel
theorem dX8_readUnit_116 : decode cX8_readUnit 116 = .ok (.iload_n 2, 1) := by decide +kernel
theorem dX8_readUnit_117 : decode cX8_readUnit 117 = .ok (.bipush 8, 2) := by decide +kernel
theorem dX8_readUnit_119 : decode cX8_readUnit 119 = .ok (.isub, 1) := by decide +kernel
theorem dX8_readUnit_120 : decode cX8_readUnit 120 = .ok (.invokevirtual 122, 3) := by decide +kernel
theorem dX8_readUnit_123 : decode cX8_readUnit 123 = .ok (.aload_n 0, 1) := by decide +kernel
theorem dX8_readUnit_124 : decode cX8_readUnit 124 = .ok (.getfield 12, 3) := by decide +kernel
theorem dX8_readUnit_127 : decode cX8_readUnit 127 = .ok (.invokevirtual 107, 3) := by decide +kernel
theorem dX8_readUnit_130 : decode cX8_readUnit 130 = .ok (.iconst 1, 1) := by decide +kernel
theorem dX8_readUnit_131 : decode cX8_readUnit 131 = .ok (.ireturn, 1) := by decide +kernel
theorem dX8_readSign_0 : decode cX8_readSign 0 = .ok (.aload_n 0, 1) := by decide +kernel
theorem dX8_readSign_1 : decode cX8_readSign 1 = .ok (.getfield 12, 3) := by decide +kernel
theorem dX8_readSign_4 : decode cX8_readSign 4 = .ok (.getfield 93, 3) := by decide +kernel
theorem dX8_readSign_7 : decode cX8_readSign 7 = .ok (.iload_n 1, 1) := by decide +kernel
theorem dX8_readSign_8 : decode cX8_readSign 8 = .ok (.if_icmp .eq 12, 3) := by decide +kernel
theorem dX8_readSign_11 : decode cX8_readSign 11 = .ok (.aload_n 0, 1) := by decide +kernel
theorem dX8_readSign_12 : decode cX8_readSign 12 = .ok (.getfield 12, 3) := by decide +kernel
theorem dX8_readSign_15 : decode cX8_readSign 15 = .ok (.iconst 1, 1) := by decide +kernel
theorem dX8_readSign_16 : decode cX8_readSign 16 = .ok (.invokevirtual 96, 3) := by decide +kernel
theorem dX8_readSign_19 : decode cX8_readSign 19 = .ok (.ireturn, 1) := by decide +kernel
theorem dX8_readSign_20 : decode cX8_readSign 20 = .ok (.aload_n 0, 1) := by decide +kernel
theorem dX8_readSign_21 : decode cX8_readSign 21 = .ok (.getfield 12, 3) := by decide +kernel
theorem dX8_readSign_24 : decode cX8_readSign 24 = .ok (.invokevirtual 107, 3) := by decide +kernel
theorem dX8_readSign_27 : decode cX8_readSign 27 = .ok (.iconst 1, 1) := by decide +kernel
theorem dX8_readSign_28 : decode cX8_readSign 28 = .ok (.ireturn, 1) := by decide +kernel
theorem dX8_readNumber_0 : decode cX8_readNumber 0 = .ok (.aload_n 0, 1) := by decide +kernel
theorem dX8_readNumber_1 : decode cX8_readNumber 1 = .ok (.getfield 12, 3) := by decide +kernel
theorem dX8_readNumber_4 : decode cX8_readNumber 4 = .ok (.getfield 93, 3) := by decide +kernel
theorem dX8_readNumber_7 : decode cX8_readNumber 7 = .ok (.bipush 23, 2) := by decide +kernel
theorem dX8_readNumber_9 : decode cX8_readNumber 9 = .ok (.if_icmp .eq 12, 3) := by decide +kernel
theorem dX8_readNumber_12 : decode cX8_readNumber 12 = .ok (.aload_n 0, 1) := by decide +kernel
theorem dX8_readNumber_13 : decode cX8_readNumber 13 = .ok (.getfield 12, 3) := by decide +kernel
theorem dX8_readNumber_16 : decode cX8_readNumber 16 = .ok (.iconst 1, 1) := by decide +kernel
theorem dX8_readNumber_17 : decode cX8_readNumber 17 = .ok (.invokevirtual 96, 3) := by decide +kernel
theorem dX8_readNumber_20 : decode cX8_readNumber 20 = .ok (.ireturn, 1) := by decide +kernel
theorem dX8_readNumber_21 : decode cX8_readNumber 21 = .ok (.aload_n 0, 1) := by decide +kernel
theorem dX8_readNumber_22 : decode cX8_readNumber 22 = .ok (.getfield 12, 3) := by decide +kernel
theorem dX8_readNumber_25 : decode cX8_readNumber 25 = .ok (.getfield 132, 3) := by decide +kernel
theorem dX8_readNumber_28 : decode cX8_readNumber 28 = .ok (.iload_n 1, 1) := by decide +kernel
theorem dX8_readNumber_29 : decode cX8_readNumber 29 = .ok (.if_icmp .le 12, 3) := by decide +kernel
theorem dX8_readNumber_32 : decode cX8_readNumber 32 = .ok (.aload_n 0, 1) := by decide +kernel
theorem dX8_readNumber_33 : decode cX8_readNumber 33 = .ok (.getfield 12, 3) := by decide +kernel
theorem dX8_readNumber_36 : decode cX8_readNumber 36 = .ok (.iconst 2, 1) := by decide +kernel
theorem dX8_readNumber_37 : decode cX8_readNumber 37 = .ok (.invokevirtual 96, 3) := by decide +kernel
theorem dX8_readNumber_40 : decode cX8_readNumber 40 = .ok (.ireturn, 1) := by decide +kernel
theorem dX8_readNumber_41 : decode cX8_readNumber 41 = .ok (.aload_n 0, 1) := by decide +kernel
theorem dX8_readNumber_42 : decode cX8_readNumber 42 = .ok (.getfield 12, 3) := by decide +kernel
theorem dX8_readNumber_45 : decode cX8_readNumber 45 = .ok (.invokevirtual 107, 3) := by decide +kernel
theorem dX8_readNumber_48 : decode cX8_readNumber 48 = .ok (.iconst 1, 1) := by decide +kernel
theorem dX8_readNumber_49 : decode cX8_readNumber 49 = .ok (.ireturn, 1) := by decide +kernel
theorem dX8_readSaid_0 : decode cX8_readSaid 0 = .ok (.aload_n 0, 1) := by decide +kernel
theorem dX8_readSaid_1 : decode cX8_readSaid 1 = .ok (.getfield 47, 3) := by decide +kernel
theorem dX8_readSaid_4 : decode cX8_readSaid 4 = .ok (.iconst 0, 1) := by decide +kernel
theorem dX8_readSaid_5 : decode cX8_readSaid 5 = .ok (.putfield 88, 3) := by decide +kernel
theorem dX8_readSaid_8 : decode cX8_readSaid 8 = .ok (.iconst 0, 1) := by decide +kernel
theorem dX8_readSaid_9 : decode cX8_readSaid 9 = .ok (.istore_n 1, 1) := by decide +kernel
theorem dX8_readSaid_10 : decode cX8_readSaid 10 = .ok (.iload_n 1, 1) := by decide +kernel
theorem dX8_readSaid_11 : decode cX8_readSaid 11 = .ok (.sipush 400, 3) := by decide +kernel
theorem dX8_readSaid_14 : decode cX8_readSaid 14 = .ok (.if_icmp .gt 110, 3) := by decide +kernel
theorem dX8_readSaid_17 : decode cX8_readSaid 17 = .ok (.aload_n 0, 1) := by decide +kernel
theorem dX8_readSaid_18 : decode cX8_readSaid 18 = .ok (.getfield 12, 3) := by decide +kernel
theorem dX8_readSaid_21 : decode cX8_readSaid 21 = .ok (.getfield 93, 3) := by decide +kernel
theorem dX8_readSaid_24 : decode cX8_readSaid 24 = .ok (.bipush 24, 2) := by decide +kernel
theorem dX8_readSaid_26 : decode cX8_readSaid 26 = .ok (.if_icmp .ne 5, 3) := by decide +kernel
theorem dX8_readSaid_29 : decode cX8_readSaid 29 = .ok (.iconst 1, 1) := by decide +kernel
theorem dX8_readSaid_30 : decode cX8_readSaid 30 = .ok (.ireturn, 1) := by decide +kernel
theorem dX8_readSaid_31 : decode cX8_readSaid 31 = .ok (.aload_n 0, 1) := by decide +kernel
theorem dX8_readSaid_32 : decode cX8_readSaid 32 = .ok (.getfield 12, 3) := by decide +kernel
theorem dX8_readSaid_35 : decode cX8_readSaid 35 = .ok (.getfield 93, 3) := by decide +kernel
theorem dX8_readSaid_38 : decode cX8_readSaid 38 = .ok (.bipush 18, 2) := by decide +kernel
theorem dX8_readSaid_40 : decode cX8_readSaid 40 = .ok (.if_icmp .eq 12, 3) := by decide +kernel
theorem dX8_readSaid_43 : decode cX8_readSaid 43 = .ok (.aload_n 0, 1) := by decide +kernel
theorem dX8_readSaid_44 : decode cX8_readSaid 44 = .ok (.getfield 12, 3) := by decide +kernel
theorem dX8_readSaid_47 : decode cX8_readSaid 47 = .ok (.iconst 1, 1) := by decide +kernel
theorem dX8_readSaid_48 : decode cX8_readSaid 48 = .ok (.invokevirtual 96, 3) := by decide +kernel
theorem dX8_readSaid_51 : decode cX8_readSaid 51 = .ok (.ireturn, 1) := by decide +kernel
theorem dX8_readSaid_52 : decode cX8_readSaid 52 = .ok (.aload_n 0, 1) := by decide +kernel
theorem dX8_readSaid_53 : decode cX8_readSaid 53 = .ok (.getfield 47, 3) := by decide +kernel
theorem dX8_readSaid_56 : decode cX8_readSaid 56 = .ok (.getfield 88, 3) := by decide +kernel
theorem dX8_readSaid_59 : decode cX8_readSaid 59 = .ok (.bipush 12, 2) := by decide +kernel
theorem dX8_readSaid_61 : decode cX8_readSaid 61 = .ok (.if_icmp .lt 12, 3) := by decide +kernel
theorem dX8_readSaid_64 : decode cX8_readSaid 64 = .ok (.aload_n 0, 1) := by decide +kernel
theorem dX8_readSaid_65 : decode cX8_readSaid 65 = .ok (.getfield 12, 3) := by decide +kernel
theorem dX8_readSaid_68 : decode cX8_readSaid 68 = .ok (.iconst 3, 1) := by decide +kernel
theorem dX8_readSaid_69 : decode cX8_readSaid 69 = .ok (.invokevirtual 96, 3) := by decide +kernel
theorem dX8_readSaid_72 : decode cX8_readSaid 72 = .ok (.ireturn, 1) := by decide +kernel
theorem dX8_readSaid_73 : decode cX8_readSaid 73 = .ok (.aload_n 0, 1) := by decide +kernel
theorem dX8_readSaid_74 : decode cX8_readSaid 74 = .ok (.getfield 12, 3) := by decide +kernel
theorem dX8_readSaid_77 : decode cX8_readSaid 77 = .ok (.invokevirtual 107, 3) := by decide +kernel
theorem dX8_readSaid_80 : decode cX8_readSaid 80 = .ok (.aload_n 0, 1) := by decide +kernel
theorem dX8_readSaid_81 : decode cX8_readSaid 81 = .ok (.aload_n 0, 1) := by decide +kernel
theorem dX8_readSaid_82 : decode cX8_readSaid 82 = .ok (.getfield 47, 3) := by decide +kernel
theorem dX8_readSaid_85 : decode cX8_readSaid 85 = .ok (.getfield 88, 3) := by decide +kernel
theorem dX8_readSaid_88 : decode cX8_readSaid 88 = .ok (.invokevirtual 135, 3) := by decide +kernel
theorem dX8_readSaid_91 : decode cX8_readSaid 91 = .ok (.ifCond .eq 12, 3) := by decide +kernel
theorem dX8_readSaid_94 : decode cX8_readSaid 94 = .ok (.aload_n 0, 1) := by decide +kernel
theorem dX8_readSaid_95 : decode cX8_readSaid 95 = .ok (.bipush 59, 2) := by decide +kernel
theorem dX8_readSaid_97 : decode cX8_readSaid 97 = .ok (.invokevirtual 113, 3) := by decide +kernel
theorem dX8_readSaid_100 : decode cX8_readSaid 100 = .ok (.ifCond .ne 5, 3) := by decide +kernel
theorem dX8_readSaid_103 : decode cX8_readSaid 103 = .ok (.iconst 0, 1) := by decide +kernel
theorem dX8_readSaid_104 : decode cX8_readSaid 104 = .ok (.ireturn, 1) := by decide +kernel
theorem dX8_readSaid_105 : decode cX8_readSaid 105 = .ok (.aload_n 0, 1) := by decide +kernel
theorem dX8_readSaid_106 : decode cX8_readSaid 106 = .ok (.getfield 47, 3) := by decide +kernel
theorem dX8_readSaid_109 : decode cX8_readSaid 109 = .ok (.dup, 1) := by decide +kernel
theorem dX8_readSaid_110 : decode cX8_readSaid 110 = .ok (.getfield 88, 3) := by decide +kernel
theorem dX8_readSaid_113 : decode cX8_readSaid 113 = .ok (.iconst 1, 1) := by decide +kernel
theorem dX8_readSaid_114 : decode cX8_readSaid 114 = .ok (.iadd, 1) := by decide +kernel
theorem dX8_readSaid_115 : decode cX8_readSaid 115 = .ok (.putfield 88, 3) := by decide +kernel
theorem dX8_readSaid_118 : decode cX8_readSaid 118 = .ok (.iinc 1 1, 3) := by decide +kernel
theorem dX8_readSaid_121 : decode cX8_readSaid 121 = .ok (.goto (-111), 3) := by decide +kernel
theorem dX8_readSaid_124 : decode cX8_readSaid 124 = .ok (.aload_n 0, 1) := by decide +kernel
theorem dX8_readSaid_125 : decode cX8_readSaid 125 = .ok (.getfield 12, 3) := by decide +kernel
theorem dX8_readSaid_128 : decode cX8_readSaid 128 = .ok (.iconst 1, 1) := by decide +kernel
theorem dX8_readSaid_129 : decode cX8_readSaid 129 = .ok (.invokevirtual 96, 3) := by decide +kernel
theorem dX8_readSaid_132 : decode cX8_readSaid 132 = .ok (.ireturn, 1) := by decide +kernel
theorem dX8_readSaidLine_0 : decode cX8_readSaidLine 0 = .ok (.aload_n 0, 1) := by decide +kernel
theorem dX8_readSaidLine_1 : decode cX8_readSaidLine 1 = .ok (.getfield 12, 3) := by decide +kernel
theorem dX8_readSaidLine_4 : decode cX8_readSaidLine 4 = .ok (.getfield 132, 3) := by decide +kernel
theorem dX8_readSaidLine_7 : decode cX8_readSaidLine 7 = .ok (.istore_n 2, 1) := by decide +kernel
theorem dX8_readSaidLine_8 : decode cX8_readSaidLine 8 = .ok (.aload_n 0, 1) := by decide +kernel
theorem dX8_readSaidLine_9 : decode cX8_readSaidLine 9 = .ok (.bipush 15, 2) := by decide +kernel
theorem dX8_readSaidLine_11 : decode cX8_readSaidLine 11 = .ok (.invokevirtual 138, 3) := by decide +kernel
theorem dX8_readSaidLine_14 : decode cX8_readSaidLine 14 = .ok (.ifCond .ne 5, 3) := by decide +kernel
theorem dX8_readSaidLine_17 : decode cX8_readSaidLine 17 = .ok (.iconst 0, 1) := by decide +kernel
theorem dX8_readSaidLine_18 : decode cX8_readSaidLine 18 = .ok (.ireturn, 1) := by decide +kernel
theorem dX8_readSaidLine_19 : decode cX8_readSaidLine 19 = .ok (.aload_n 0, 1) := by decide +kernel
theorem dX8_readSaidLine_20 : decode cX8_readSaidLine 20 = .ok (.getfield 12, 3) := by decide +kernel
theorem dX8_readSaidLine_23 : decode cX8_readSaidLine 23 = .ok (.getfield 93, 3) := by decide +kernel
theorem dX8_readSaidLine_26 : decode cX8_readSaidLine 26 = .ok (.istore_n 3, 1) := by decide +kernel
theorem dX8_readSaidLine_27 : decode cX8_readSaidLine 27 = .ok (.iload_n 3, 1) := by decide +kernel
theorem dX8_readSaidLine_28 : decode cX8_readSaidLine 28 = .ok (.bipush 60, 2) := by decide +kernel
theorem dX8_readSaidLine_30 : decode cX8_readSaidLine 30 = .ok (.if_icmp .eq 24, 3) := by decide +kernel
theorem dX8_readSaidLine_33 : decode cX8_readSaidLine 33 = .ok (.iload_n 3, 1) := by decide +kernel
theorem dX8_readSaidLine_34 : decode cX8_readSaidLine 34 = .ok (.bipush 61, 2) := by decide +kernel
theorem dX8_readSaidLine_36 : decode cX8_readSaidLine 36 = .ok (.if_icmp .eq 18, 3) := by decide +kernel
theorem dX8_readSaidLine_39 : decode cX8_readSaidLine 39 = .ok (.iload_n 3, 1) := by decide +kernel
theorem dX8_readSaidLine_40 : decode cX8_readSaidLine 40 = .ok (.bipush 62, 2) := by decide +kernel
theorem dX8_readSaidLine_42 : decode cX8_readSaidLine 42 = .ok (.if_icmp .eq 12, 3) := by decide +kernel
theorem dX8_readSaidLine_45 : decode cX8_readSaidLine 45 = .ok (.aload_n 0, 1) := by decide +kernel
theorem dX8_readSaidLine_46 : decode cX8_readSaidLine 46 = .ok (.getfield 12, 3) := by decide +kernel
theorem dX8_readSaidLine_49 : decode cX8_readSaidLine 49 = .ok (.iconst 1, 1) := by decide +kernel
theorem dX8_readSaidLine_50 : decode cX8_readSaidLine 50 = .ok (.invokevirtual 96, 3) := by decide +kernel
theorem dX8_readSaidLine_53 : decode cX8_readSaidLine 53 = .ok (.ireturn, 1) := by decide +kernel
theorem dX8_readSaidLine_54 : decode cX8_readSaidLine 54 = .ok (.aload_n 0, 1) := by decide +kernel
theorem dX8_readSaidLine_55 : decode cX8_readSaidLine 55 = .ok (.getfield 12, 3) := by decide +kernel
theorem dX8_readSaidLine_58 : decode cX8_readSaidLine 58 = .ok (.invokevirtual 107, 3) := by decide +kernel
theorem dX8_readSaidLine_61 : decode cX8_readSaidLine 61 = .ok (.aload_n 0, 1) := by decide +kernel
theorem dX8_readSaidLine_62 : decode cX8_readSaidLine 62 = .ok (.getfield 12, 3) := by decide +kernel
theorem dX8_readSaidLine_65 : decode cX8_readSaidLine 65 = .ok (.getfield 132, 3) := by decide +kernel
theorem dX8_readSaidLine_68 : decode cX8_readSaidLine 68 = .ok (.istore 4, 2) := by decide +kernel
theorem dX8_readSaidLine_70 : decode cX8_readSaidLine 70 = .ok (.aload_n 0, 1) := by decide +kernel
theorem dX8_readSaidLine_71 : decode cX8_readSaidLine 71 = .ok (.sipush 9999, 3) := by decide +kernel
theorem dX8_readSaidLine_74 : decode cX8_readSaidLine 74 = .ok (.invokevirtual 138, 3) := by decide +kernel
theorem dX8_readSaidLine_77 : decode cX8_readSaidLine 77 = .ok (.ifCond .ne 5, 3) := by decide +kernel
theorem dX8_readSaidLine_80 : decode cX8_readSaidLine 80 = .ok (.iconst 0, 1) := by decide +kernel
theorem dX8_readSaidLine_81 : decode cX8_readSaidLine 81 = .ok (.ireturn, 1) := by decide +kernel
theorem dX8_readSaidLine_82 : decode cX8_readSaidLine 82 = .ok (.aload_n 0, 1) := by decide +kernel
theorem dX8_readSaidLine_83 : decode cX8_readSaidLine 83 = .ok (.getfield 47, 3) := by decide +kernel
theorem dX8_readSaidLine_86 : decode cX8_readSaidLine 86 = .ok (.iload_n 1, 1) := by decide +kernel
theorem dX8_readSaidLine_87 : decode cX8_readSaidLine 87 = .ok (.iload_n 2, 1) := by decide +kernel
theorem dX8_readSaidLine_88 : decode cX8_readSaidLine 88 = .ok (.iload_n 3, 1) := by decide +kernel
theorem dX8_readSaidLine_89 : decode cX8_readSaidLine 89 = .ok (.iload 4, 2) := by decide +kernel
theorem dX8_readSaidLine_91 : decode cX8_readSaidLine 91 = .ok (.invokevirtual 141, 3) := by decide +kernel
theorem dX8_readSaidLine_94 : decode cX8_readSaidLine 94 = .ok (.iconst 1, 1) := by decide +kernel
theorem dX8_readSaidLine_95 : decode cX8_readSaidLine 95 = .ok (.ireturn, 1) := by decide +kernel
theorem dX8_readWay_0 : decode cX8_readWay 0 = .ok (.aload_n 0, 1) := by decide +kernel
theorem dX8_readWay_1 : decode cX8_readWay 1 = .ok (.getfield 43, 3) := by decide +kernel
theorem dX8_readWay_4 : decode cX8_readWay 4 = .ok (.invokevirtual 145, 3) := by decide +kernel
theorem dX8_readWay_7 : decode cX8_readWay 7 = .ok (.iconst 0, 1) := by decide +kernel
theorem dX8_readWay_8 : decode cX8_readWay 8 = .ok (.istore_n 1, 1) := by decide +kernel
theorem dX8_readWay_9 : decode cX8_readWay 9 = .ok (.iload_n 1, 1) := by decide +kernel
theorem dX8_readWay_10 : decode cX8_readWay 10 = .ok (.sipush 400, 3) := by decide +kernel
theorem dX8_readWay_13 : decode cX8_readWay 13 = .ok (.if_icmp .gt 104, 3) := by decide +kernel
theorem dX8_readWay_16 : decode cX8_readWay 16 = .ok (.aload_n 0, 1) := by decide +kernel
theorem dX8_readWay_17 : decode cX8_readWay 17 = .ok (.getfield 12, 3) := by decide +kernel
theorem dX8_readWay_20 : decode cX8_readWay 20 = .ok (.getfield 93, 3) := by decide +kernel
theorem dX8_readWay_23 : decode cX8_readWay 23 = .ok (.istore_n 2, 1) := by decide +kernel
theorem dX8_readWay_24 : decode cX8_readWay 24 = .ok (.iload_n 2, 1) := by decide +kernel
theorem dX8_readWay_25 : decode cX8_readWay 25 = .ok (.bipush 24, 2) := by decide +kernel
theorem dX8_readWay_27 : decode cX8_readWay 27 = .ok (.if_icmp .ne 5, 3) := by decide +kernel
theorem dX8_readWay_30 : decode cX8_readWay 30 = .ok (.iconst 1, 1) := by decide +kernel
theorem dX8_readWay_31 : decode cX8_readWay 31 = .ok (.ireturn, 1) := by decide +kernel
theorem dX8_readWay_32 : decode cX8_readWay 32 = .ok (.iload_n 2, 1) := by decide +kernel
theorem dX8_readWay_33 : decode cX8_readWay 33 = .ok (.bipush 19, 2) := by decide +kernel
theorem dX8_readWay_35 : decode cX8_readWay 35 = .ok (.bipush 22, 2) := by decide +kernel
theorem dX8_readWay_37 : decode cX8_readWay 37 = .ok (.invokestatic 56, 3) := by decide +kernel
theorem dX8_readWay_40 : decode cX8_readWay 40 = .ok (.ifCond .ne 12, 3) := by decide +kernel
theorem dX8_readWay_43 : decode cX8_readWay 43 = .ok (.aload_n 0, 1) := by decide +kernel
theorem dX8_readWay_44 : decode cX8_readWay 44 = .ok (.getfield 12, 3) := by decide +kernel
theorem dX8_readWay_47 : decode cX8_readWay 47 = .ok (.iconst 1, 1) := by decide +kernel
theorem dX8_readWay_48 : decode cX8_readWay 48 = .ok (.invokevirtual 96, 3) := by decide +kernel
theorem dX8_readWay_51 : decode cX8_readWay 51 = .ok (.ireturn, 1) := by decide +kernel
theorem dX8_readWay_52 : decode cX8_readWay 52 = .ok (.aload_n 0, 1) := by decide +kernel
theorem dX8_readWay_53 : decode cX8_readWay 53 = .ok (.getfield 43, 3) := by decide +kernel
theorem dX8_readWay_56 : decode cX8_readWay 56 = .ok (.iload_n 2, 1) := by decide +kernel
theorem dX8_readWay_57 : decode cX8_readWay 57 = .ok (.invokevirtual 146, 3) := by decide +kernel
theorem dX8_readWay_60 : decode cX8_readWay 60 = .ok (.ifCond .eq 12, 3) := by decide +kernel
theorem dX8_readWay_63 : decode cX8_readWay 63 = .ok (.aload_n 0, 1) := by decide +kernel
theorem dX8_readWay_64 : decode cX8_readWay 64 = .ok (.getfield 12, 3) := by decide +kernel
theorem dX8_readWay_67 : decode cX8_readWay 67 = .ok (.iconst 2, 1) := by decide +kernel
theorem dX8_readWay_68 : decode cX8_readWay 68 = .ok (.invokevirtual 96, 3) := by decide +kernel
theorem dX8_readWay_71 : decode cX8_readWay 71 = .ok (.ireturn, 1) := by decide +kernel
theorem dX8_readWay_72 : decode cX8_readWay 72 = .ok (.aload_n 0, 1) := by decide +kernel
theorem dX8_readWay_73 : decode cX8_readWay 73 = .ok (.getfield 12, 3) := by decide +kernel
theorem dX8_readWay_76 : decode cX8_readWay 76 = .ok (.invokevirtual 107, 3) := by decide +kernel
theorem dX8_readWay_79 : decode cX8_readWay 79 = .ok (.aload_n 0, 1) := by decide +kernel
theorem dX8_readWay_80 : decode cX8_readWay 80 = .ok (.iload_n 2, 1) := by decide +kernel
theorem dX8_readWay_81 : decode cX8_readWay 81 = .ok (.invokevirtual 147, 3) := by decide +kernel
theorem dX8_readWay_84 : decode cX8_readWay 84 = .ok (.ifCond .eq 12, 3) := by decide +kernel
theorem dX8_readWay_87 : decode cX8_readWay 87 = .ok (.aload_n 0, 1) := by decide +kernel
theorem dX8_readWay_88 : decode cX8_readWay 88 = .ok (.bipush 59, 2) := by decide +kernel
theorem dX8_readWay_90 : decode cX8_readWay 90 = .ok (.invokevirtual 113, 3) := by decide +kernel
theorem dX8_readWay_93 : decode cX8_readWay 93 = .ok (.ifCond .ne 5, 3) := by decide +kernel
theorem dX8_readWay_96 : decode cX8_readWay 96 = .ok (.iconst 0, 1) := by decide +kernel
theorem dX8_readWay_97 : decode cX8_readWay 97 = .ok (.ireturn, 1) := by decide +kernel
theorem dX8_readWay_98 : decode cX8_readWay 98 = .ok (.aload_n 0, 1) := by decide +kernel
theorem dX8_readWay_99 : decode cX8_readWay 99 = .ok (.getfield 43, 3) := by decide +kernel
theorem dX8_readWay_102 : decode cX8_readWay 102 = .ok (.dup, 1) := by decide +kernel
theorem dX8_readWay_103 : decode cX8_readWay 103 = .ok (.getfield 89, 3) := by decide +kernel
theorem dX8_readWay_106 : decode cX8_readWay 106 = .ok (.iconst 1, 1) := by decide +kernel
theorem dX8_readWay_107 : decode cX8_readWay 107 = .ok (.iadd, 1) := by decide +kernel
theorem dX8_readWay_108 : decode cX8_readWay 108 = .ok (.putfield 89, 3) := by decide +kernel
theorem dX8_readWay_111 : decode cX8_readWay 111 = .ok (.iinc 1 1, 3) := by decide +kernel
theorem dX8_readWay_114 : decode cX8_readWay 114 = .ok (.goto (-105), 3) := by decide +kernel
theorem dX8_readWay_117 : decode cX8_readWay 117 = .ok (.aload_n 0, 1) := by decide +kernel
theorem dX8_readWay_118 : decode cX8_readWay 118 = .ok (.getfield 12, 3) := by decide +kernel
theorem dX8_readWay_121 : decode cX8_readWay 121 = .ok (.iconst 1, 1) := by decide +kernel
theorem dX8_readWay_122 : decode cX8_readWay 122 = .ok (.invokevirtual 96, 3) := by decide +kernel
theorem dX8_readWay_125 : decode cX8_readWay 125 = .ok (.ireturn, 1) := by decide +kernel
theorem dX8_readWayLine_0 : decode cX8_readWayLine 0 = .ok (.aload_n 0, 1) := by decide +kernel
theorem dX8_readWayLine_1 : decode cX8_readWayLine 1 = .ok (.getfield 12, 3) := by decide +kernel
theorem dX8_readWayLine_4 : decode cX8_readWayLine 4 = .ok (.getfield 132, 3) := by decide +kernel
theorem dX8_readWayLine_7 : decode cX8_readWayLine 7 = .ok (.istore_n 2, 1) := by decide +kernel
theorem dX8_readWayLine_8 : decode cX8_readWayLine 8 = .ok (.iload_n 1, 1) := by decide +kernel
theorem dX8_readWayLine_9 : decode cX8_readWayLine 9 = .ok (.bipush 20, 2) := by decide +kernel
theorem dX8_readWayLine_11 : decode cX8_readWayLine 11 = .ok (.if_icmp .ne 12, 3) := by decide +kernel
theorem dX8_readWayLine_14 : decode cX8_readWayLine 14 = .ok (.aload_n 0, 1) := by decide +kernel
theorem dX8_readWayLine_15 : decode cX8_readWayLine 15 = .ok (.bipush 99, 2) := by decide +kernel
theorem dX8_readWayLine_17 : decode cX8_readWayLine 17 = .ok (.invokevirtual 138, 3) := by decide +kernel
theorem dX8_readWayLine_20 : decode cX8_readWayLine 20 = .ok (.ifCond .eq 17, 3) := by decide +kernel
theorem dX8_readWayLine_23 : decode cX8_readWayLine 23 = .ok (.iload_n 1, 1) := by decide +kernel
theorem dX8_readWayLine_24 : decode cX8_readWayLine 24 = .ok (.bipush 21, 2) := by decide +kernel
theorem dX8_readWayLine_26 : decode cX8_readWayLine 26 = .ok (.if_icmp .ne 13, 3) := by decide +kernel
theorem dX8_readWayLine_29 : decode cX8_readWayLine 29 = .ok (.aload_n 0, 1) := by decide +kernel
theorem dX8_readWayLine_30 : decode cX8_readWayLine 30 = .ok (.iconst 5, 1) := by decide +kernel
theorem dX8_readWayLine_31 : decode cX8_readWayLine 31 = .ok (.invokevirtual 138, 3) := by decide +kernel
theorem dX8_readWayLine_34 : decode cX8_readWayLine 34 = .ok (.ifCond .ne 5, 3) := by decide +kernel
theorem dX8_readWayLine_37 : decode cX8_readWayLine 37 = .ok (.iconst 0, 1) := by decide +kernel
theorem dX8_readWayLine_38 : decode cX8_readWayLine 38 = .ok (.ireturn, 1) := by decide +kernel
theorem dX8_readWayLine_39 : decode cX8_readWayLine 39 = .ok (.aload_n 0, 1) := by decide +kernel
theorem dX8_readWayLine_40 : decode cX8_readWayLine 40 = .ok (.getfield 43, 3) := by decide +kernel
theorem dX8_readWayLine_43 : decode cX8_readWayLine 43 = .ok (.iload_n 1, 1) := by decide +kernel
theorem dX8_readWayLine_44 : decode cX8_readWayLine 44 = .ok (.iload_n 2, 1) := by decide +kernel
theorem dX8_readWayLine_45 : decode cX8_readWayLine 45 = .ok (.invokevirtual 150, 3) := by decide +kernel
theorem dX8_readWayLine_48 : decode cX8_readWayLine 48 = .ok (.iconst 1, 1) := by decide +kernel
theorem dX8_readWayLine_49 : decode cX8_readWayLine 49 = .ok (.ireturn, 1) := by decide +kernel
theorem dX9_init_0 : decode cX9_init 0 = .ok (.aload_n 0, 1) := by decide +kernel
theorem dX9_init_1 : decode cX9_init 1 = .ok (.invokespecial 3, 3) := by decide +kernel
theorem dX9_init_4 : decode cX9_init 4 = .ok (.aload_n 0, 1) := by decide +kernel
theorem dX9_init_5 : decode cX9_init 5 = .ok (.iconst (-1), 1) := by decide +kernel
theorem dX9_init_6 : decode cX9_init 6 = .ok (.putfield 9, 3) := by decide +kernel
theorem dX9_init_9 : decode cX9_init 9 = .ok (.aload_n 0, 1) := by decide +kernel
theorem dX9_init_10 : decode cX9_init 10 = .ok (.iconst (-1), 1) := by decide +kernel
theorem dX9_init_11 : decode cX9_init 11 = .ok (.putfield 15, 3) := by decide +kernel
theorem dX9_init_14 : decode cX9_init 14 = .ok (.return_, 1) := by decide +kernel
theorem dX9_empty_0 : decode cX9_empty 0 = .ok (.aload_n 0, 1) := by decide +kernel
theorem dX9_empty_1 : decode cX9_empty 1 = .ok (.iconst 0, 1) := by decide +kernel
theorem dX9_empty_2 : decode cX9_empty 2 = .ok (.putfield 18, 3) := by decide +kernel
theorem dX9_empty_5 : decode cX9_empty 5 = .ok (.aload_n 0, 1) := by decide +kernel
theorem dX9_empty_6 : decode cX9_empty 6 = .ok (.iconst 0, 1) := by decide +kernel
theorem dX9_empty_7 : decode cX9_empty 7 = .ok (.putfield 22, 3) := by decide +kernel
theorem dX9_empty_10 : decode cX9_empty 10 = .ok (.aload_n 0, 1) := by decide +kernel
theorem dX9_empty_11 : decode cX9_empty 11 = .ok (.iconst (-1), 1) := by decide +kernel
theorem dX9_empty_12 : decode cX9_empty 12 = .ok (.putfield 9, 3) := by decide +kernel
theorem dX9_empty_15 : decode cX9_empty 15 = .ok (.aload_n 0, 1) := by decide +kernel
theorem dX9_empty_16 : decode cX9_empty 16 = .ok (.iconst (-1), 1) := by decide +kernel
theorem dX9_empty_17 : decode cX9_empty 17 = .ok (.putfield 15, 3) := by decide +kernel
theorem dX9_empty_20 : decode cX9_empty 20 = .ok (.aload_n 0, 1) := by decide +kernel
theorem dX9_empty_21 : decode cX9_empty 21 = .ok (.iconst 0, 1) := by decide +kernel
theorem dX9_empty_22 : decode cX9_empty 22 = .ok (.putfield 25, 3) := by decide +kernel
theorem dX9_empty_25 : decode cX9_empty 25 = .ok (.return_, 1) := by decide +kernel
theorem dX9_has_0 : decode cX9_has 0 = .ok (.iload_n 1, 1) := by decide +kernel
theorem dX9_has_1 : decode cX9_has 1 = .ok (.tableswitch 55 19 22 #[31, 41, 55, 36], 31) := by decide +kernel
theorem dX9_has_32 : decode cX9_has 32 = .ok (.aload_n 0, 1) := by decide +kernel
theorem dX9_has_33 : decode cX9_has 33 = .ok (.getfield 18, 3) := by decide +kernel
theorem dX9_has_36 : decode cX9_has 36 = .ok (.ireturn, 1) := by decide +kernel
theorem dX9_has_37 : decode cX9_has 37 = .ok (.aload_n 0, 1) := by decide +kernel
theorem dX9_has_38 : decode cX9_has 38 = .ok (.getfield 22, 3) := by decide +kernel
theorem dX9_has_41 : decode cX9_has 41 = .ok (.ireturn, 1) := by decide +kernel
theorem dX9_has_42 : decode cX9_has 42 = .ok (.aload_n 0, 1) := by decide +kernel
theorem dX9_has_43 : decode cX9_has 43 = .ok (.getfield 9, 3) := by decide +kernel
theorem dX9_has_46 : decode cX9_has 46 = .ok (.iconst (-1), 1) := by decide +kernel
theorem dX9_has_47 : decode cX9_has 47 = .ok (.if_icmp .eq 7, 3) := by decide +kernel
theorem dX9_has_50 : decode cX9_has 50 = .ok (.iconst 1, 1) := by decide +kernel
theorem dX9_has_51 : decode cX9_has 51 = .ok (.goto 4, 3) := by decide +kernel
theorem dX9_has_54 : decode cX9_has 54 = .ok (.iconst 0, 1) := by decide +kernel
theorem dX9_has_55 : decode cX9_has 55 = .ok (.ireturn, 1) := by decide +kernel
theorem dX9_has_56 : decode cX9_has 56 = .ok (.aload_n 0, 1) := by decide +kernel
theorem dX9_has_57 : decode cX9_has 57 = .ok (.getfield 15, 3) := by decide +kernel
theorem dX9_has_60 : decode cX9_has 60 = .ok (.iconst (-1), 1) := by decide +kernel
theorem dX9_has_61 : decode cX9_has 61 = .ok (.if_icmp .eq 7, 3) := by decide +kernel
theorem dX9_has_64 : decode cX9_has 64 = .ok (.iconst 1, 1) := by decide +kernel
theorem dX9_has_65 : decode cX9_has 65 = .ok (.goto 4, 3) := by decide +kernel
theorem dX9_has_68 : decode cX9_has 68 = .ok (.iconst 0, 1) := by decide +kernel
theorem dX9_has_69 : decode cX9_has 69 = .ok (.ireturn, 1) := by decide +kernel
theorem dX9_set_0 : decode cX9_set 0 = .ok (.iload_n 1, 1) := by decide +kernel
theorem dX9_set_1 : decode cX9_set 1 = .ok (.tableswitch 55 19 22 #[31, 47, 55, 39], 31) := by decide +kernel
theorem dX9_set_32 : decode cX9_set 32 = .ok (.aload_n 0, 1) := by decide +kernel
theorem dX9_set_33 : decode cX9_set 33 = .ok (.iconst 1, 1) := by decide +kernel
theorem dX9_set_34 : decode cX9_set 34 = .ok (.putfield 18, 3) := by decide +kernel
theorem dX9_set_37 : decode cX9_set 37 = .ok (.goto 24, 3) := by decide +kernel
theorem dX9_set_40 : decode cX9_set 40 = .ok (.aload_n 0, 1) := by decide +kernel
theorem dX9_set_41 : decode cX9_set 41 = .ok (.iconst 1, 1) := by decide +kernel
theorem dX9_set_42 : decode cX9_set 42 = .ok (.putfield 22, 3) := by decide +kernel
theorem dX9_set_45 : decode cX9_set 45 = .ok (.goto 16, 3) := by decide +kernel
theorem dX9_set_48 : decode cX9_set 48 = .ok (.aload_n 0, 1) := by decide +kernel
theorem dX9_set_49 : decode cX9_set 49 = .ok (.iload_n 2, 1) := by decide +kernel
theorem dX9_set_50 : decode cX9_set 50 = .ok (.putfield 9, 3) := by decide +kernel
theorem dX9_set_53 : decode cX9_set 53 = .ok (.goto 8, 3) := by decide +kernel
theorem dX9_set_56 : decode cX9_set 56 = .ok (.aload_n 0, 1) := by decide +kernel
theorem dX9_set_57 : decode cX9_set 57 = .ok (.iload_n 2, 1) := by decide +kernel
theorem dX9_set_58 : decode cX9_set 58 = .ok (.putfield 15, 3) := by decide +kernel
theorem dX9_set_61 : decode cX9_set 61 = .ok (.return_, 1) := by decide +kernel
theorem dX10_init_0 : decode cX10_init 0 = .ok (.aload_n 0, 1) := by decide +kernel
theorem dX10_init_1 : decode cX10_init 1 = .ok (.invokespecial 3, 3) := by decide +kernel
theorem dX10_init_4 : decode cX10_init 4 = .ok (.aload_n 0, 1) := by decide +kernel
theorem dX10_init_5 : decode cX10_init 5 = .ok (.new 9, 3) := by decide +kernel
theorem dX10_init_8 : decode cX10_init 8 = .ok (.dup, 1) := by decide +kernel
theorem dX10_init_9 : decode cX10_init 9 = .ok (.invokespecial 11, 3) := by decide +kernel
theorem dX10_init_12 : decode cX10_init 12 = .ok (.putfield 12, 3) := by decide +kernel
theorem dX10_init_15 : decode cX10_init 15 = .ok (.aload_n 0, 1) := by decide +kernel
theorem dX10_init_16 : decode cX10_init 16 = .ok (.new 18, 3) := by decide +kernel
theorem dX10_init_19 : decode cX10_init 19 = .ok (.dup, 1) := by decide +kernel
theorem dX10_init_20 : decode cX10_init 20 = .ok (.invokespecial 20, 3) := by decide +kernel
theorem dX10_init_23 : decode cX10_init 23 = .ok (.putfield 21, 3) := by decide +kernel
theorem dX10_init_26 : decode cX10_init 26 = .ok (.return_, 1) := by decide +kernel
theorem dX10_sortOf_0 : decode cX10_sortOf 0 = .ok (.iload_n 2, 1) := by decide +kernel
theorem dX10_sortOf_1 : decode cX10_sortOf 1 = .ok (.aload_n 0, 1) := by decide +kernel
theorem dX10_sortOf_2 : decode cX10_sortOf 2 = .ok (.getfield 12, 3) := by decide +kernel
theorem dX10_sortOf_5 : decode cX10_sortOf 5 = .ok (.getfield 25, 3) := by decide +kernel
theorem dX10_sortOf_8 : decode cX10_sortOf 8 = .ok (.if_icmp .ne 5, 3) := by decide +kernel
theorem dX10_sortOf_11 : decode cX10_sortOf 11 = .ok (.iconst 0, 1) := by decide +kernel
theorem dX10_sortOf_12 : decode cX10_sortOf 12 = .ok (.ireturn, 1) := by decide +kernel
theorem dX10_sortOf_13 : decode cX10_sortOf 13 = .ok (.iload_n 1, 1) := by decide +kernel
theorem dX10_sortOf_14 : decode cX10_sortOf 14 = .ok (.aload_n 0, 1) := by decide +kernel
theorem dX10_sortOf_15 : decode cX10_sortOf 15 = .ok (.getfield 29, 3) := by decide +kernel
theorem dX10_sortOf_18 : decode cX10_sortOf 18 = .ok (.if_icmp .ne 7, 3) := by decide +kernel
theorem dX10_sortOf_21 : decode cX10_sortOf 21 = .ok (.iconst 1, 1) := by decide +kernel
theorem dX10_sortOf_22 : decode cX10_sortOf 22 = .ok (.goto 4, 3) := by decide +kernel
theorem dX10_sortOf_25 : decode cX10_sortOf 25 = .ok (.iconst 2, 1) := by decide +kernel
theorem dX10_sortOf_26 : decode cX10_sortOf 26 = .ok (.ireturn, 1) := by decide +kernel
theorem dX11_init_0 : decode cX11_init 0 = .ok (.aload_n 0, 1) := by decide +kernel
theorem dX11_init_1 : decode cX11_init 1 = .ok (.invokespecial 1, 3) := by decide +kernel
theorem dX11_init_4 : decode cX11_init 4 = .ok (.aload_n 0, 1) := by decide +kernel
theorem dX11_init_5 : decode cX11_init 5 = .ok (.bipush 120, 2) := by decide +kernel
theorem dX11_init_7 : decode cX11_init 7 = .ok (.anewarray 9, 3) := by decide +kernel
theorem dX11_init_10 : decode cX11_init 10 = .ok (.putfield 11, 3) := by decide +kernel
theorem dX11_init_13 : decode cX11_init 13 = .ok (.aload_n 0, 1) := by decide +kernel
theorem dX11_init_14 : decode cX11_init 14 = .ok (.bipush 6, 2) := by decide +kernel
theorem dX11_init_16 : decode cX11_init 16 = .ok (.bipush 16, 2) := by decide +kernel
theorem dX11_init_18 : decode cX11_init 18 = .ok (.multianewarray 15 2, 4) := by decide +kernel
theorem dX11_init_22 : decode cX11_init 22 = .ok (.putfield 17, 3) := by decide +kernel
theorem dX11_init_25 : decode cX11_init 25 = .ok (.aload_n 0, 1) := by decide +kernel
theorem dX11_init_26 : decode cX11_init 26 = .ok (.bipush 6, 2) := by decide +kernel
theorem dX11_init_28 : decode cX11_init 28 = .ok (.anewarray 20, 3) := by decide +kernel
theorem dX11_init_31 : decode cX11_init 31 = .ok (.putfield 22, 3) := by decide +kernel
theorem dX11_init_34 : decode cX11_init 34 = .ok (.aload_n 0, 1) := by decide +kernel
theorem dX11_init_35 : decode cX11_init 35 = .ok (.new 26, 3) := by decide +kernel
theorem dX11_init_38 : decode cX11_init 38 = .ok (.dup, 1) := by decide +kernel
theorem dX11_init_39 : decode cX11_init 39 = .ok (.invokespecial 28, 3) := by decide +kernel
theorem dX11_init_42 : decode cX11_init 42 = .ok (.putfield 29, 3) := by decide +kernel
theorem dX11_init_45 : decode cX11_init 45 = .ok (.aload_n 0, 1) := by decide +kernel
theorem dX11_init_46 : decode cX11_init 46 = .ok (.bipush 20, 2) := by decide +kernel
theorem dX11_init_48 : decode cX11_init 48 = .ok (.anewarray 33, 3) := by decide +kernel
theorem dX11_init_51 : decode cX11_init 51 = .ok (.putfield 35, 3) := by decide +kernel
theorem dX11_init_54 : decode cX11_init 54 = .ok (.aload_n 0, 1) := by decide +kernel
theorem dX11_init_55 : decode cX11_init 55 = .ok (.bipush 100, 2) := by decide +kernel
theorem dX11_init_57 : decode cX11_init 57 = .ok (.anewarray 39, 3) := by decide +kernel
theorem dX11_init_60 : decode cX11_init 60 = .ok (.putfield 41, 3) := by decide +kernel
theorem dX11_init_63 : decode cX11_init 63 = .ok (.aload_n 0, 1) := by decide +kernel
theorem dX11_init_64 : decode cX11_init 64 = .ok (.bipush 40, 2) := by decide +kernel
theorem dX11_init_66 : decode cX11_init 66 = .ok (.anewarray 45, 3) := by decide +kernel
theorem dX11_init_69 : decode cX11_init 69 = .ok (.putfield 47, 3) := by decide +kernel
theorem dX11_init_72 : decode cX11_init 72 = .ok (.aload_n 0, 1) := by decide +kernel
theorem dX11_init_73 : decode cX11_init 73 = .ok (.sipush 220, 3) := by decide +kernel
theorem dX11_init_76 : decode cX11_init 76 = .ok (.newarray .int, 2) := by decide +kernel
theorem dX11_init_78 : decode cX11_init 78 = .ok (.putfield 51, 3) := by decide +kernel
theorem dX11_init_81 : decode cX11_init 81 = .ok (.aload_n 0, 1) := by decide +kernel
theorem dX11_init_82 : decode cX11_init 82 = .ok (.sipush 220, 3) := by decide +kernel
theorem dX11_init_85 : decode cX11_init 85 = .ok (.newarray .int, 2) := by decide +kernel
theorem dX11_init_87 : decode cX11_init 87 = .ok (.putfield 55, 3) := by decide +kernel
theorem dX11_init_90 : decode cX11_init 90 = .ok (.aload_n 0, 1) := by decide +kernel
theorem dX11_init_91 : decode cX11_init 91 = .ok (.new 58, 3) := by decide +kernel
theorem dX11_init_94 : decode cX11_init 94 = .ok (.dup, 1) := by decide +kernel
theorem dX11_init_95 : decode cX11_init 95 = .ok (.invokespecial 60, 3) := by decide +kernel
theorem dX11_init_98 : decode cX11_init 98 = .ok (.putfield 61, 3) := by decide +kernel
theorem dX11_init_101 : decode cX11_init 101 = .ok (.iconst 0, 1) := by decide +kernel
theorem dX11_init_102 : decode cX11_init 102 = .ok (.istore_n 1, 1) := by decide +kernel
theorem dX11_init_103 : decode cX11_init 103 = .ok (.iload_n 1, 1) := by decide +kernel
theorem dX11_init_104 : decode cX11_init 104 = .ok (.bipush 120, 2) := by decide +kernel
theorem dX11_init_106 : decode cX11_init 106 = .ok (.if_icmp .ge 22, 3) := by decide +kernel
theorem dX11_init_109 : decode cX11_init 109 = .ok (.aload_n 0, 1) := by decide +kernel
theorem dX11_init_110 : decode cX11_init 110 = .ok (.getfield 11, 3) := by decide +kernel
theorem dX11_init_113 : decode cX11_init 113 = .ok (.iload_n 1, 1) := by decide +kernel
theorem dX11_init_114 : decode cX11_init 114 = .ok (.new 9, 3) := by decide +kernel
theorem dX11_init_117 : decode cX11_init 117 = .ok (.dup, 1) := by decide +kernel
theorem dX11_init_118 : decode cX11_init 118 = .ok (.invokespecial 65, 3) := by decide +kernel
theorem dX11_init_121 : decode cX11_init 121 = .ok (.aastore, 1) := by decide +kernel
theorem dX11_init_122 : decode cX11_init 122 = .ok (.iinc 1 1, 3) := by decide +kernel
theorem dX11_init_125 : decode cX11_init 125 = .ok (.goto (-22), 3) := by decide +kernel
theorem dX11_init_128 : decode cX11_init 128 = .ok (.iconst 0, 1) := by decide +kernel
theorem dX11_init_129 : decode cX11_init 129 = .ok (.istore_n 1, 1) := by decide +kernel
theorem dX11_init_130 : decode cX11_init 130 = .ok (.iload_n 1, 1) := by decide +kernel
theorem dX11_init_131 : decode cX11_init 131 = .ok (.bipush 6, 2) := by decide +kernel
theorem dX11_init_133 : decode cX11_init 133 = .ok (.if_icmp .ge 20, 3) := by decide +kernel
theorem dX11_init_136 : decode cX11_init 136 = .ok (.aload_n 0, 1) := by decide +kernel
theorem dX11_init_137 : decode cX11_init 137 = .ok (.getfield 17, 3) := by decide +kernel
theorem dX11_init_140 : decode cX11_init 140 = .ok (.iload_n 1, 1) := by decide +kernel
theorem dX11_init_141 : decode cX11_init 141 = .ok (.aaload, 1) := by decide +kernel
theorem dX11_init_142 : decode cX11_init 142 = .ok (.bipush 16, 2) := by decide +kernel
theorem dX11_init_144 : decode cX11_init 144 = .ok (.invokestatic 66, 3) := by decide +kernel
theorem dX11_init_147 : decode cX11_init 147 = .ok (.iinc 1 1, 3) := by decide +kernel
theorem dX11_init_150 : decode cX11_init 150 = .ok (.goto (-20), 3) := by decide +kernel
theorem dX11_init_153 : decode cX11_init 153 = .ok (.iconst 0, 1) := by decide +kernel
theorem dX11_init_154 : decode cX11_init 154 = .ok (.istore_n 1, 1) := by decide +kernel
theorem dX11_init_155 : decode cX11_init 155 = .ok (.iload_n 1, 1) := by decide +kernel
theorem dX11_init_156 : decode cX11_init 156 = .ok (.bipush 6, 2) := by decide +kernel
theorem dX11_init_158 : decode cX11_init 158 = .ok (.if_icmp .ge 22, 3) := by decide +kernel
theorem dX11_init_161 : decode cX11_init 161 = .ok (.aload_n 0, 1) := by decide +kernel
theorem dX11_init_162 : decode cX11_init 162 = .ok (.getfield 22, 3) := by decide +kernel
theorem dX11_init_165 : decode cX11_init 165 = .ok (.iload_n 1, 1) := by decide +kernel
theorem dX11_init_166 : decode cX11_init 166 = .ok (.new 20, 3) := by decide +kernel
theorem dX11_init_169 : decode cX11_init 169 = .ok (.dup, 1) := by decide +kernel
theorem dX11_init_170 : decode cX11_init 170 = .ok (.invokespecial 72, 3) := by decide +kernel
theorem dX11_init_173 : decode cX11_init 173 = .ok (.aastore, 1) := by decide +kernel
theorem dX11_init_174 : decode cX11_init 174 = .ok (.iinc 1 1, 3) := by decide +kernel
theorem dX11_init_177 : decode cX11_init 177 = .ok (.goto (-22), 3) := by decide +kernel
theorem dX11_init_180 : decode cX11_init 180 = .ok (.iconst 0, 1) := by decide +kernel
theorem dX11_init_181 : decode cX11_init 181 = .ok (.istore_n 1, 1) := by decide +kernel
theorem dX11_init_182 : decode cX11_init 182 = .ok (.iload_n 1, 1) := by decide +kernel
theorem dX11_init_183 : decode cX11_init 183 = .ok (.bipush 20, 2) := by decide +kernel
theorem dX11_init_185 : decode cX11_init 185 = .ok (.if_icmp .ge 22, 3) := by decide +kernel
theorem dX11_init_188 : decode cX11_init 188 = .ok (.aload_n 0, 1) := by decide +kernel
theorem dX11_init_189 : decode cX11_init 189 = .ok (.getfield 35, 3) := by decide +kernel
theorem dX11_init_192 : decode cX11_init 192 = .ok (.iload_n 1, 1) := by decide +kernel
theorem dX11_init_193 : decode cX11_init 193 = .ok (.new 33, 3) := by decide +kernel
theorem dX11_init_196 : decode cX11_init 196 = .ok (.dup, 1) := by decide +kernel
theorem dX11_init_197 : decode cX11_init 197 = .ok (.invokespecial 73, 3) := by decide +kernel
theorem dX11_init_200 : decode cX11_init 200 = .ok (.aastore, 1) := by decide +kernel
theorem dX11_init_201 : decode cX11_init 201 = .ok (.iinc 1 1, 3) := by decide +kernel
theorem dX11_init_204 : decode cX11_init 204 = .ok (.goto (-22), 3) := by decide +kernel
theorem dX11_init_207 : decode cX11_init 207 = .ok (.iconst 0, 1) := by decide +kernel
theorem dX11_init_208 : decode cX11_init 208 = .ok (.istore_n 1, 1) := by decide +kernel
theorem dX11_init_209 : decode cX11_init 209 = .ok (.iload_n 1, 1) := by decide +kernel
theorem dX11_init_210 : decode cX11_init 210 = .ok (.bipush 100, 2) := by decide +kernel
theorem dX11_init_212 : decode cX11_init 212 = .ok (.if_icmp .ge 22, 3) := by decide +kernel
theorem dX11_init_215 : decode cX11_init 215 = .ok (.aload_n 0, 1) := by decide +kernel
theorem dX11_init_216 : decode cX11_init 216 = .ok (.getfield 41, 3) := by decide +kernel
theorem dX11_init_219 : decode cX11_init 219 = .ok (.iload_n 1, 1) := by decide +kernel
theorem dX11_init_220 : decode cX11_init 220 = .ok (.new 39, 3) := by decide +kernel
theorem dX11_init_223 : decode cX11_init 223 = .ok (.dup, 1) := by decide +kernel
theorem dX11_init_224 : decode cX11_init 224 = .ok (.invokespecial 74, 3) := by decide +kernel
theorem dX11_init_227 : decode cX11_init 227 = .ok (.aastore, 1) := by decide +kernel
theorem dX11_init_228 : decode cX11_init 228 = .ok (.iinc 1 1, 3) := by decide +kernel
theorem dX11_init_231 : decode cX11_init 231 = .ok (.goto (-22), 3) := by decide +kernel
theorem dX11_init_234 : decode cX11_init 234 = .ok (.iconst 0, 1) := by decide +kernel
theorem dX11_init_235 : decode cX11_init 235 = .ok (.istore_n 1, 1) := by decide +kernel
theorem dX11_init_236 : decode cX11_init 236 = .ok (.iload_n 1, 1) := by decide +kernel
theorem dX11_init_237 : decode cX11_init 237 = .ok (.bipush 40, 2) := by decide +kernel
theorem dX11_init_239 : decode cX11_init 239 = .ok (.if_icmp .ge 22, 3) := by decide +kernel
theorem dX11_init_242 : decode cX11_init 242 = .ok (.aload_n 0, 1) := by decide +kernel
theorem dX11_init_243 : decode cX11_init 243 = .ok (.getfield 47, 3) := by decide +kernel
theorem dX11_init_246 : decode cX11_init 246 = .ok (.iload_n 1, 1) := by decide +kernel
theorem dX11_init_247 : decode cX11_init 247 = .ok (.new 45, 3) := by decide +kernel
theorem dX11_init_250 : decode cX11_init 250 = .ok (.dup, 1) := by decide +kernel
theorem dX11_init_251 : decode cX11_init 251 = .ok (.invokespecial 75, 3) := by decide +kernel
theorem dX11_init_254 : decode cX11_init 254 = .ok (.aastore, 1) := by decide +kernel
theorem dX11_init_255 : decode cX11_init 255 = .ok (.iinc 1 1, 3) := by decide +kernel
theorem dX11_init_258 : decode cX11_init 258 = .ok (.goto (-22), 3) := by decide +kernel
theorem dX11_init_261 : decode cX11_init 261 = .ok (.return_, 1) := by decide +kernel
theorem dX11_face_0 : decode cX11_face 0 = .ok (.iload_n 1, 1) := by decide +kernel
theorem dX11_face_1 : decode cX11_face 1 = .ok (.iconst 0, 1) := by decide +kernel
theorem dX11_face_2 : decode cX11_face 2 = .ok (.iconst 5, 1) := by decide +kernel
theorem dX11_face_3 : decode cX11_face 3 = .ok (.invokestatic 76, 3) := by decide +kernel
theorem dX11_face_6 : decode cX11_face 6 = .ok (.ifCond .eq 12, 3) := by decide +kernel
theorem dX11_face_9 : decode cX11_face 9 = .ok (.aload_n 0, 1) := by decide +kernel
theorem dX11_face_10 : decode cX11_face 10 = .ok (.getfield 80, 3) := by decide +kernel
theorem dX11_face_13 : decode cX11_face 13 = .ok (.bipush 120, 2) := by decide +kernel
theorem dX11_face_15 : decode cX11_face 15 = .ok (.if_icmp .lt 5, 3) := by decide +kernel
theorem dX11_face_18 : decode cX11_face 18 = .ok (.iconst (-1), 1) := by decide +kernel
theorem dX11_face_19 : decode cX11_face 19 = .ok (.ireturn, 1) := by decide +kernel
theorem dX11_face_20 : decode cX11_face 20 = .ok (.aload_n 0, 1) := by decide +kernel
theorem dX11_face_21 : decode cX11_face 21 = .ok (.getfield 11, 3) := by decide +kernel
theorem dX11_face_24 : decode cX11_face 24 = .ok (.aload_n 0, 1) := by decide +kernel
theorem dX11_face_25 : decode cX11_face 25 = .ok (.getfield 80, 3) := by decide +kernel
theorem dX11_face_28 : decode cX11_face 28 = .ok (.aaload, 1) := by decide +kernel
theorem dX11_face_29 : decode cX11_face 29 = .ok (.astore 6, 2) := by decide +kernel
theorem dX11_face_31 : decode cX11_face 31 = .ok (.aload 6, 2) := by decide +kernel
theorem dX11_face_33 : decode cX11_face 33 = .ok (.iload_n 1, 1) := by decide +kernel
theorem dX11_face_34 : decode cX11_face 34 = .ok (.putfield 84, 3) := by decide +kernel
theorem dX11_face_37 : decode cX11_face 37 = .ok (.aload 6, 2) := by decide +kernel
theorem dX11_face_39 : decode cX11_face 39 = .ok (.iconst (-1), 1) := by decide +kernel
theorem dX11_face_40 : decode cX11_face 40 = .ok (.putfield 87, 3) := by decide +kernel
theorem dX11_face_43 : decode cX11_face 43 = .ok (.aload 6, 2) := by decide +kernel
theorem dX11_face_45 : decode cX11_face 45 = .ok (.iconst 0, 1) := by decide +kernel
theorem dX11_face_46 : decode cX11_face 46 = .ok (.iload_n 2, 1) := by decide +kernel
theorem dX11_face_47 : decode cX11_face 47 = .ok (.invokevirtual 90, 3) := by decide +kernel
theorem dX11_face_50 : decode cX11_face 50 = .ok (.aload 6, 2) := by decide +kernel
theorem dX11_face_52 : decode cX11_face 52 = .ok (.iconst 4, 1) := by decide +kernel
theorem dX11_face_53 : decode cX11_face 53 = .ok (.iload_n 3, 1) := by decide +kernel
theorem dX11_face_54 : decode cX11_face 54 = .ok (.invokevirtual 90, 3) := by decide +kernel
theorem dX11_face_57 : decode cX11_face 57 = .ok (.aload 6, 2) := by decide +kernel
theorem dX11_face_59 : decode cX11_face 59 = .ok (.bipush 8, 2) := by decide +kernel
theorem dX11_face_61 : decode cX11_face 61 = .ok (.iload 4, 2) := by decide +kernel
theorem dX11_face_63 : decode cX11_face 63 = .ok (.invokevirtual 90, 3) := by decide +kernel
theorem dX11_face_66 : decode cX11_face 66 = .ok (.aload 6, 2) := by decide +kernel
theorem dX11_face_68 : decode cX11_face 68 = .ok (.bipush 12, 2) := by decide +kernel
theorem dX11_face_70 : decode cX11_face 70 = .ok (.iload 5, 2) := by decide +kernel
theorem dX11_face_72 : decode cX11_face 72 = .ok (.invokevirtual 90, 3) := by decide +kernel
theorem dX11_face_75 : decode cX11_face 75 = .ok (.aload_n 0, 1) := by decide +kernel
theorem dX11_face_76 : decode cX11_face 76 = .ok (.dup, 1) := by decide +kernel
theorem dX11_face_77 : decode cX11_face 77 = .ok (.getfield 80, 3) := by decide +kernel
theorem dX11_face_80 : decode cX11_face 80 = .ok (.iconst 1, 1) := by decide +kernel
theorem dX11_face_81 : decode cX11_face 81 = .ok (.iadd, 1) := by decide +kernel
theorem dX11_face_82 : decode cX11_face 82 = .ok (.putfield 80, 3) := by decide +kernel
theorem dX11_face_85 : decode cX11_face 85 = .ok (.aload_n 0, 1) := by decide +kernel
theorem dX11_face_86 : decode cX11_face 86 = .ok (.getfield 80, 3) := by decide +kernel
theorem dX11_face_89 : decode cX11_face 89 = .ok (.iconst 1, 1) := by decide +kernel
theorem dX11_face_90 : decode cX11_face 90 = .ok (.isub, 1) := by decide +kernel
theorem dX11_face_91 : decode cX11_face 91 = .ok (.ireturn, 1) := by decide +kernel
theorem dX11_number_0 : decode cX11_number 0 = .ok (.aload_n 0, 1) := by decide +kernel
theorem dX11_number_1 : decode cX11_number 1 = .ok (.iload_n 1, 1) := by decide +kernel
theorem dX11_number_2 : decode cX11_number 2 = .ok (.invokevirtual 94, 3) := by decide +kernel
theorem dX11_number_5 : decode cX11_number 5 = .ok (.ifCond .ne 5, 3) := by decide +kernel
theorem dX11_number_8 : decode cX11_number 8 = .ok (.iconst (-1), 1) := by decide +kernel
theorem dX11_number_9 : decode cX11_number 9 = .ok (.ireturn, 1) := by decide +kernel
theorem dX11_number_10 : decode cX11_number 10 = .ok (.aload_n 0, 1) := by decide +kernel
theorem dX11_number_11 : decode cX11_number 11 = .ok (.getfield 11, 3) := by decide +kernel
theorem dX11_number_14 : decode cX11_number 14 = .ok (.iload_n 1, 1) := by decide +kernel
theorem dX11_number_15 : decode cX11_number 15 = .ok (.aaload, 1) := by decide +kernel
theorem dX11_number_16 : decode cX11_number 16 = .ok (.astore_n 3, 1) := by decide +kernel
theorem dX11_number_17 : decode cX11_number 17 = .ok (.iload_n 2, 1) := by decide +kernel
theorem dX11_number_18 : decode cX11_number 18 = .ok (.iconst 0, 1) := by decide +kernel
theorem dX11_number_19 : decode cX11_number 19 = .ok (.bipush 15, 2) := by decide +kernel
theorem dX11_number_21 : decode cX11_number 21 = .ok (.invokestatic 76, 3) := by decide +kernel
theorem dX11_number_24 : decode cX11_number 24 = .ok (.ifCond .eq 10, 3) := by decide +kernel
theorem dX11_number_27 : decode cX11_number 27 = .ok (.aload_n 3, 1) := by decide +kernel
theorem dX11_number_28 : decode cX11_number 28 = .ok (.getfield 98, 3) := by decide +kernel
theorem dX11_number_31 : decode cX11_number 31 = .ok (.iload_n 2, 1) := by decide +kernel
theorem dX11_number_32 : decode cX11_number 32 = .ok (.iaload, 1) := by decide +kernel
theorem dX11_number_33 : decode cX11_number 33 = .ok (.ireturn, 1) := by decide +kernel
theorem dX11_number_34 : decode cX11_number 34 = .ok (.iload_n 2, 1) := by decide +kernel
theorem dX11_number_35 : decode cX11_number 35 = .ok (.bipush 16, 2) := by decide +kernel
theorem dX11_number_37 : decode cX11_number 37 = .ok (.if_icmp .ne 8, 3) := by decide +kernel
theorem dX11_number_40 : decode cX11_number 40 = .ok (.aload_n 3, 1) := by decide +kernel
theorem dX11_number_41 : decode cX11_number 41 = .ok (.getfield 84, 3) := by decide +kernel
theorem dX11_number_44 : decode cX11_number 44 = .ok (.ireturn, 1) := by decide +kernel
theorem dX11_number_45 : decode cX11_number 45 = .ok (.iload_n 2, 1) := by decide +kernel
theorem dX11_number_46 : decode cX11_number 46 = .ok (.bipush 17, 2) := by decide +kernel
theorem dX11_number_48 : decode cX11_number 48 = .ok (.if_icmp .ne 10, 3) := by decide +kernel
theorem dX11_number_51 : decode cX11_number 51 = .ok (.aload_n 3, 1) := by decide +kernel
theorem dX11_number_52 : decode cX11_number 52 = .ok (.getfield 87, 3) := by decide +kernel
theorem dX11_number_55 : decode cX11_number 55 = .ok (.goto 4, 3) := by decide +kernel
theorem dX11_number_58 : decode cX11_number 58 = .ok (.iconst (-1), 1) := by decide +kernel
theorem dX11_number_59 : decode cX11_number 59 = .ok (.ireturn, 1) := by decide +kernel
theorem dX11_type_0 : decode cX11_type 0 = .ok (.iload_n 1, 1) := by decide +kernel
theorem dX11_type_1 : decode cX11_type 1 = .ok (.iconst 0, 1) := by decide +kernel
theorem dX11_type_2 : decode cX11_type 2 = .ok (.iconst 5, 1) := by decide +kernel
theorem dX11_type_3 : decode cX11_type 3 = .ok (.invokestatic 76, 3) := by decide +kernel
theorem dX11_type_6 : decode cX11_type 6 = .ok (.ifCond .eq 11, 3) := by decide +kernel
theorem dX11_type_9 : decode cX11_type 9 = .ok (.aload_n 0, 1) := by decide +kernel
theorem dX11_type_10 : decode cX11_type 10 = .ok (.iload_n 2, 1) := by decide +kernel
theorem dX11_type_11 : decode cX11_type 11 = .ok (.invokevirtual 94, 3) := by decide +kernel
theorem dX11_type_14 : decode cX11_type 14 = .ok (.ifCond .ne 5, 3) := by decide +kernel
theorem dX11_type_17 : decode cX11_type 17 = .ok (.iconst 0, 1) := by decide +kernel
theorem dX11_type_18 : decode cX11_type 18 = .ok (.ireturn, 1) := by decide +kernel
theorem dX11_type_19 : decode cX11_type 19 = .ok (.aload_n 0, 1) := by decide +kernel
theorem dX11_type_20 : decode cX11_type 20 = .ok (.getfield 11, 3) := by decide +kernel
theorem dX11_type_23 : decode cX11_type 23 = .ok (.iload_n 2, 1) := by decide +kernel
theorem dX11_type_24 : decode cX11_type 24 = .ok (.aaload, 1) := by decide +kernel
theorem dX11_type_25 : decode cX11_type 25 = .ok (.getfield 98, 3) := by decide +kernel
theorem dX11_type_28 : decode cX11_type 28 = .ok (.iconst 0, 1) := by decide +kernel
theorem dX11_type_29 : decode cX11_type 29 = .ok (.aload_n 0, 1) := by decide +kernel
theorem dX11_type_30 : decode cX11_type 30 = .ok (.getfield 17, 3) := by decide +kernel
theorem dX11_type_33 : decode cX11_type 33 = .ok (.iload_n 1, 1) := by decide +kernel
theorem dX11_type_34 : decode cX11_type 34 = .ok (.aaload, 1) := by decide +kernel
theorem dX11_type_35 : decode cX11_type 35 = .ok (.iconst 0, 1) := by decide +kernel
theorem dX11_type_36 : decode cX11_type 36 = .ok (.bipush 16, 2) := by decide +kernel
theorem dX11_type_38 : decode cX11_type 38 = .ok (.invokestatic 101, 3) := by decide +kernel
theorem dX11_type_41 : decode cX11_type 41 = .ok (.iconst 1, 1) := by decide +kernel
theorem dX11_type_42 : decode cX11_type 42 = .ok (.ireturn, 1) := by decide +kernel
theorem dX11_put_0 : decode cX11_put 0 = .ok (.aload_n 0, 1) := by decide +kernel
theorem dX11_put_1 : decode cX11_put 1 = .ok (.iload_n 1, 1) := by decide +kernel
theorem dX11_put_2 : decode cX11_put 2 = .ok (.invokevirtual 107, 3) := by decide +kernel
theorem dX11_put_5 : decode cX11_put 5 = .ok (.ifCond .eq 16, 3) := by decide +kernel
theorem dX11_put_8 : decode cX11_put 8 = .ok (.iload_n 2, 1) := by decide +kernel
theorem dX11_put_9 : decode cX11_put 9 = .ok (.iconst (-1), 1) := by decide +kernel
theorem dX11_put_10 : decode cX11_put 10 = .ok (.if_icmp .eq 13, 3) := by decide +kernel
theorem dX11_put_13 : decode cX11_put 13 = .ok (.aload_n 0, 1) := by decide +kernel
theorem dX11_put_14 : decode cX11_put 14 = .ok (.iload_n 2, 1) := by decide +kernel
theorem dX11_put_15 : decode cX11_put 15 = .ok (.invokevirtual 94, 3) := by decide +kernel
theorem dX11_put_18 : decode cX11_put 18 = .ok (.ifCond .ne 5, 3) := by decide +kernel
theorem dX11_put_21 : decode cX11_put 21 = .ok (.iconst (-1), 1) := by decide +kernel
theorem dX11_put_22 : decode cX11_put 22 = .ok (.ireturn, 1) := by decide +kernel
theorem dX11_put_23 : decode cX11_put 23 = .ok (.aload_n 0, 1) := by decide +kernel
theorem dX11_put_24 : decode cX11_put 24 = .ok (.getfield 22, 3) := by decide +kernel
theorem dX11_put_27 : decode cX11_put 27 = .ok (.iload_n 1, 1) := by decide +kernel
theorem dX11_put_28 : decode cX11_put 28 = .ok (.aaload, 1) := by decide +kernel
theorem dX11_put_29 : decode cX11_put 29 = .ok (.astore_n 3, 1) := by decide +kernel
theorem dX11_put_30 : decode cX11_put 30 = .ok (.aload_n 3, 1) := by decide +kernel
theorem dX11_put_31 : decode cX11_put 31 = .ok (.getfield 110, 3) := by decide +kernel
theorem dX11_put_34 : decode cX11_put 34 = .ok (.bipush 9, 2) := by decide +kernel
theorem dX11_put_36 : decode cX11_put 36 = .ok (.if_icmp .lt 5, 3) := by decide +kernel
theorem dX11_put_39 : decode cX11_put 39 = .ok (.iconst (-1), 1) := by decide +kernel
theorem dX11_put_40 : decode cX11_put 40 = .ok (.ireturn, 1) := by decide +kernel
theorem dX11_put_41 : decode cX11_put 41 = .ok (.aload_n 3, 1) := by decide +kernel
theorem dX11_put_42 : decode cX11_put 42 = .ok (.getfield 113, 3) := by decide +kernel
theorem dX11_put_45 : decode cX11_put 45 = .ok (.aload_n 3, 1) := by decide +kernel
theorem dX11_put_46 : decode cX11_put 46 = .ok (.getfield 110, 3) := by decide +kernel
theorem dX11_put_49 : decode cX11_put 49 = .ok (.iload_n 2, 1) := by decide +kernel
theorem dX11_put_50 : decode cX11_put 50 = .ok (.iastore, 1) := by decide +kernel
theorem dX11_put_51 : decode cX11_put 51 = .ok (.aload_n 3, 1) := by decide +kernel
theorem dX11_put_52 : decode cX11_put 52 = .ok (.dup, 1) := by decide +kernel
theorem dX11_put_53 : decode cX11_put 53 = .ok (.getfield 110, 3) := by decide +kernel
theorem dX11_put_56 : decode cX11_put 56 = .ok (.iconst 1, 1) := by decide +kernel
theorem dX11_put_57 : decode cX11_put 57 = .ok (.iadd, 1) := by decide +kernel
theorem dX11_put_58 : decode cX11_put 58 = .ok (.putfield 110, 3) := by decide +kernel
theorem dX11_put_61 : decode cX11_put 61 = .ok (.aload_n 3, 1) := by decide +kernel
theorem dX11_put_62 : decode cX11_put 62 = .ok (.getfield 110, 3) := by decide +kernel
theorem dX11_put_65 : decode cX11_put 65 = .ok (.ireturn, 1) := by decide +kernel
theorem dX11_clear_0 : decode cX11_clear 0 = .ok (.aload_n 0, 1) := by decide +kernel
theorem dX11_clear_1 : decode cX11_clear 1 = .ok (.iload_n 1, 1) := by decide +kernel
theorem dX11_clear_2 : decode cX11_clear 2 = .ok (.invokevirtual 107, 3) := by decide +kernel
theorem dX11_clear_5 : decode cX11_clear 5 = .ok (.ifCond .ne 5, 3) := by decide +kernel
theorem dX11_clear_8 : decode cX11_clear 8 = .ok (.iconst 0, 1) := by decide +kernel
theorem dX11_clear_9 : decode cX11_clear 9 = .ok (.ireturn, 1) := by decide +kernel
theorem dX11_clear_10 : decode cX11_clear 10 = .ok (.aload_n 0, 1) := by decide +kernel
theorem dX11_clear_11 : decode cX11_clear 11 = .ok (.getfield 22, 3) := by decide +kernel
theorem dX11_clear_14 : decode cX11_clear 14 = .ok (.iload_n 1, 1) := by decide +kernel
theorem dX11_clear_15 : decode cX11_clear 15 = .ok (.aaload, 1) := by decide +kernel
theorem dX11_clear_16 : decode cX11_clear 16 = .ok (.iconst 0, 1) := by decide +kernel
theorem dX11_clear_17 : decode cX11_clear 17 = .ok (.putfield 110, 3) := by decide +kernel
theorem dX11_clear_20 : decode cX11_clear 20 = .ok (.iconst 1, 1) := by decide +kernel
theorem dX11_clear_21 : decode cX11_clear 21 = .ok (.ireturn, 1) := by decide +kernel
theorem dX11_feed_0 : decode cX11_feed 0 = .ok (.aload_n 0, 1) := by decide +kernel
theorem dX11_feed_1 : decode cX11_feed 1 = .ok (.getfield 29, 3) := by decide +kernel
theorem dX11_feed_4 : decode cX11_feed 4 = .ok (.getfield 116, 3) := by decide +kernel
theorem dX11_feed_7 : decode cX11_feed 7 = .ok (.astore 6, 2) := by decide +kernel
theorem dX11_feed_9 : decode cX11_feed 9 = .ok (.aload 6, 2) := by decide +kernel
theorem dX11_feed_11 : decode cX11_feed 11 = .ok (.getfield 120, 3) := by decide +kernel
theorem dX11_feed_14 : decode cX11_feed 14 = .ok (.bipush 20, 2) := by decide +kernel
theorem dX11_feed_16 : decode cX11_feed 16 = .ok (.iadd, 1) := by decide +kernel
theorem dX11_feed_17 : decode cX11_feed 17 = .ok (.sipush 400, 3) := by decide +kernel
theorem dX11_feed_20 : decode cX11_feed 20 = .ok (.if_icmp .le 5, 3) := by decide +kernel
theorem dX11_feed_23 : decode cX11_feed 23 = .ok (.iconst (-1), 1) := by decide +kernel
theorem dX11_feed_24 : decode cX11_feed 24 = .ok (.ireturn, 1) := by decide +kernel
theorem dX11_feed_25 : decode cX11_feed 25 = .ok (.aload 6, 2) := by decide +kernel
theorem dX11_feed_27 : decode cX11_feed 27 = .ok (.iload_n 1, 1) := by decide +kernel
theorem dX11_feed_28 : decode cX11_feed 28 = .ok (.invokevirtual 123, 3) := by decide +kernel
theorem dX11_feed_31 : decode cX11_feed 31 = .ok (.aload 6, 2) := by decide +kernel
theorem dX11_feed_33 : decode cX11_feed 33 = .ok (.iload_n 2, 1) := by decide +kernel
theorem dX11_feed_34 : decode cX11_feed 34 = .ok (.invokevirtual 123, 3) := by decide +kernel
theorem dX11_feed_37 : decode cX11_feed 37 = .ok (.aload 6, 2) := by decide +kernel
theorem dX11_feed_39 : decode cX11_feed 39 = .ok (.iload_n 3, 1) := by decide +kernel
theorem dX11_feed_40 : decode cX11_feed 40 = .ok (.invokevirtual 123, 3) := by decide +kernel
theorem dX11_feed_43 : decode cX11_feed 43 = .ok (.aload 6, 2) := by decide +kernel
theorem dX11_feed_45 : decode cX11_feed 45 = .ok (.iload 4, 2) := by decide +kernel
theorem dX11_feed_47 : decode cX11_feed 47 = .ok (.invokevirtual 123, 3) := by decide +kernel
theorem dX11_feed_50 : decode cX11_feed 50 = .ok (.aload 6, 2) := by decide +kernel
theorem dX11_feed_52 : decode cX11_feed 52 = .ok (.iload 5, 2) := by decide +kernel
theorem dX11_feed_54 : decode cX11_feed 54 = .ok (.invokevirtual 123, 3) := by decide +kernel
theorem dX11_feed_57 : decode cX11_feed 57 = .ok (.aload 6, 2) := by decide +kernel
theorem dX11_feed_59 : decode cX11_feed 59 = .ok (.getfield 120, 3) := by decide +kernel
theorem dX11_feed_62 : decode cX11_feed 62 = .ok (.ireturn, 1) := by decide +kernel
theorem dX11_end_0 : decode cX11_end 0 = .ok (.iload_n 1, 1) := by decide +kernel
theorem dX11_end_1 : decode cX11_end 1 = .ok (.ifCond .lt 17, 3) := by decide +kernel
theorem dX11_end_4 : decode cX11_end 4 = .ok (.iload_n 1, 1) := by decide +kernel
theorem dX11_end_5 : decode cX11_end 5 = .ok (.aload_n 0, 1) := by decide +kernel
theorem dX11_end_6 : decode cX11_end 6 = .ok (.getfield 29, 3) := by decide +kernel
theorem dX11_end_9 : decode cX11_end 9 = .ok (.getfield 116, 3) := by decide +kernel
theorem dX11_end_12 : decode cX11_end 12 = .ok (.getfield 120, 3) := by decide +kernel
theorem dX11_end_15 : decode cX11_end 15 = .ok (.if_icmp .le 5, 3) := by decide +kernel
theorem dX11_end_18 : decode cX11_end 18 = .ok (.iconst 0, 1) := by decide +kernel
theorem dX11_end_19 : decode cX11_end 19 = .ok (.ireturn, 1) := by decide +kernel
theorem dX11_end_20 : decode cX11_end 20 = .ok (.aload_n 0, 1) := by decide +kernel
theorem dX11_end_21 : decode cX11_end 21 = .ok (.getfield 29, 3) := by decide +kernel
theorem dX11_end_24 : decode cX11_end 24 = .ok (.getfield 116, 3) := by decide +kernel
theorem dX11_end_27 : decode cX11_end 27 = .ok (.iload_n 1, 1) := by decide +kernel
theorem dX11_end_28 : decode cX11_end 28 = .ok (.putfield 120, 3) := by decide +kernel
theorem dX11_end_31 : decode cX11_end 31 = .ok (.iconst 1, 1) := by decide +kernel
theorem dX11_end_32 : decode cX11_end 32 = .ok (.ireturn, 1) := by decide +kernel
theorem dX11_text_0 : decode cX11_text 0 = .ok (.aload_n 0, 1) := by decide +kernel
theorem dX11_text_1 : decode cX11_text 1 = .ok (.getfield 29, 3) := by decide +kernel
theorem dX11_text_4 : decode cX11_text 4 = .ok (.iload_n 1, 1) := by decide +kernel
theorem dX11_text_5 : decode cX11_text 5 = .ok (.iload_n 2, 1) := by decide +kernel
theorem dX11_text_6 : decode cX11_text 6 = .ok (.invokevirtual 127, 3) := by decide +kernel
theorem dX11_text_9 : decode cX11_text 9 = .ok (.ireturn, 1) := by decide +kernel
theorem dX11_fault_0 : decode cX11_fault 0 = .ok (.iload_n 1, 1) := by decide +kernel
theorem dX11_fault_1 : decode cX11_fault 1 = .ok (.ifCond .ne 14, 3) := by decide +kernel
theorem dX11_fault_4 : decode cX11_fault 4 = .ok (.aload_n 0, 1) := by decide +kernel
theorem dX11_fault_5 : decode cX11_fault 5 = .ok (.getfield 29, 3) := by decide +kernel
theorem dX11_fault_8 : decode cX11_fault 8 = .ok (.getfield 116, 3) := by decide +kernel
theorem dX11_fault_11 : decode cX11_fault 11 = .ok (.getfield 131, 3) := by decide +kernel
