theorem dX0_init_0 : decode cX0_init 0 = .ok (.aload_n 0, 1) := by decide +kernel
theorem dX0_init_1 : decode cX0_init 1 = .ok (.invokespecial 3, 3) := by decide +kernel
theorem dX0_init_4 : decode cX0_init 4 = .ok (.aload_n 0, 1) := by decide +kernel
theorem dX0_init_5 : decode cX0_init 5 = .ok (.new 9, 3) := by decide +kernel
theorem dX0_init_8 : decode cX0_init 8 = .ok (.dup, 1) := by decide +kernel
theorem dX0_init_9 : decode cX0_init 9 = .ok (.invokespecial 11, 3) := by decide +kernel
theorem dX0_init_12 : decode cX0_init 12 = .ok (.putfield 12, 3) := by decide +kernel
theorem dX0_init_15 : decode cX0_init 15 = .ok (.aload_n 0, 1) := by decide +kernel
theorem dX0_init_16 : decode cX0_init 16 = .ok (.new 9, 3) := by decide +kernel
theorem dX0_init_19 : decode cX0_init 19 = .ok (.dup, 1) := by decide +kernel
theorem dX0_init_20 : decode cX0_init 20 = .ok (.invokespecial 11, 3) := by decide +kernel
theorem dX0_init_23 : decode cX0_init 23 = .ok (.putfield 18, 3) := by decide +kernel
theorem dX0_init_26 : decode cX0_init 26 = .ok (.aload_n 0, 1) := by decide +kernel
theorem dX0_init_27 : decode cX0_init 27 = .ok (.aload_n 1, 1) := by decide +kernel
theorem dX0_init_28 : decode cX0_init 28 = .ok (.putfield 21, 3) := by decide +kernel
theorem dX0_init_31 : decode cX0_init 31 = .ok (.aload_n 0, 1) := by decide +kernel
theorem dX0_init_32 : decode cX0_init 32 = .ok (.aload_n 2, 1) := by decide +kernel
theorem dX0_init_33 : decode cX0_init 33 = .ok (.getfield 25, 3) := by decide +kernel
theorem dX0_init_36 : decode cX0_init 36 = .ok (.putfield 31, 3) := by decide +kernel
theorem dX0_init_39 : decode cX0_init 39 = .ok (.return_, 1) := by decide +kernel
theorem dX0_look_0 : decode cX0_look 0 = .ok (.aload_n 0, 1) := by decide +kernel
theorem dX0_look_1 : decode cX0_look 1 = .ok (.getfield 32, 3) := by decide +kernel
theorem dX0_look_4 : decode cX0_look 4 = .ok (.ifCond .eq 4, 3) := by decide +kernel
theorem dX0_look_7 : decode cX0_look 7 = .ok (.return_, 1) := by decide +kernel
theorem dX0_look_8 : decode cX0_look 8 = .ok (.aload_n 0, 1) := by decide +kernel
theorem dX0_look_9 : decode cX0_look 9 = .ok (.iconst 1, 1) := by decide +kernel
theorem dX0_look_10 : decode cX0_look 10 = .ok (.putfield 32, 3) := by decide +kernel
theorem dX0_look_13 : decode cX0_look 13 = .ok (.aload_n 0, 1) := by decide +kernel
theorem dX0_look_14 : decode cX0_look 14 = .ok (.iconst 0, 1) := by decide +kernel
theorem dX0_look_15 : decode cX0_look 15 = .ok (.putfield 36, 3) := by decide +kernel
theorem dX0_look_18 : decode cX0_look 18 = .ok (.iconst 0, 1) := by decide +kernel
theorem dX0_look_19 : decode cX0_look 19 = .ok (.istore_n 1, 1) := by decide +kernel
theorem dX0_look_20 : decode cX0_look 20 = .ok (.iload_n 1, 1) := by decide +kernel
theorem dX0_look_21 : decode cX0_look 21 = .ok (.aload_n 0, 1) := by decide +kernel
theorem dX0_look_22 : decode cX0_look 22 = .ok (.getfield 31, 3) := by decide +kernel
theorem dX0_look_25 : decode cX0_look 25 = .ok (.getfield 39, 3) := by decide +kernel
theorem dX0_look_28 : decode cX0_look 28 = .ok (.if_icmp .ge 58, 3) := by decide +kernel
theorem dX0_look_31 : decode cX0_look 31 = .ok (.iload_n 1, 1) := by decide +kernel
theorem dX0_look_32 : decode cX0_look 32 = .ok (.iconst 1, 1) := by decide +kernel
theorem dX0_look_33 : decode cX0_look 33 = .ok (.iadd, 1) := by decide +kernel
theorem dX0_look_34 : decode cX0_look 34 = .ok (.istore_n 2, 1) := by decide +kernel
theorem dX0_look_35 : decode cX0_look 35 = .ok (.iload_n 2, 1) := by decide +kernel
theorem dX0_look_36 : decode cX0_look 36 = .ok (.aload_n 0, 1) := by decide +kernel
theorem dX0_look_37 : decode cX0_look 37 = .ok (.getfield 31, 3) := by decide +kernel
theorem dX0_look_40 : decode cX0_look 40 = .ok (.getfield 39, 3) := by decide +kernel
theorem dX0_look_43 : decode cX0_look 43 = .ok (.if_icmp .ge 37, 3) := by decide +kernel
theorem dX0_look_46 : decode cX0_look 46 = .ok (.aload_n 0, 1) := by decide +kernel
theorem dX0_look_47 : decode cX0_look 47 = .ok (.getfield 31, 3) := by decide +kernel
theorem dX0_look_50 : decode cX0_look 50 = .ok (.iload_n 1, 1) := by decide +kernel
theorem dX0_look_51 : decode cX0_look 51 = .ok (.invokevirtual 45, 3) := by decide +kernel
theorem dX0_look_54 : decode cX0_look 54 = .ok (.ifCond .ne 20, 3) := by decide +kernel
theorem dX0_look_57 : decode cX0_look 57 = .ok (.aload_n 0, 1) := by decide +kernel
theorem dX0_look_58 : decode cX0_look 58 = .ok (.getfield 31, 3) := by decide +kernel
theorem dX0_look_61 : decode cX0_look 61 = .ok (.iload_n 2, 1) := by decide +kernel
theorem dX0_look_62 : decode cX0_look 62 = .ok (.invokevirtual 45, 3) := by decide +kernel
theorem dX0_look_65 : decode cX0_look 65 = .ok (.ifCond .ne 9, 3) := by decide +kernel
theorem dX0_look_68 : decode cX0_look 68 = .ok (.aload_n 0, 1) := by decide +kernel
theorem dX0_look_69 : decode cX0_look 69 = .ok (.iload_n 1, 1) := by decide +kernel
theorem dX0_look_70 : decode cX0_look 70 = .ok (.iload_n 2, 1) := by decide +kernel
theorem dX0_look_71 : decode cX0_look 71 = .ok (.invokevirtual 49, 3) := by decide +kernel
theorem dX0_look_74 : decode cX0_look 74 = .ok (.iinc 2 1, 3) := by decide +kernel
theorem dX0_look_77 : decode cX0_look 77 = .ok (.goto (-42), 3) := by decide +kernel
theorem dX0_look_80 : decode cX0_look 80 = .ok (.iinc 1 1, 3) := by decide +kernel
theorem dX0_look_83 : decode cX0_look 83 = .ok (.goto (-63), 3) := by decide +kernel
theorem dX0_look_86 : decode cX0_look 86 = .ok (.return_, 1) := by decide +kernel
theorem dX0_lookAlong_0 : decode cX0_lookAlong 0 = .ok (.iload_n 2, 1) := by decide +kernel
theorem dX0_lookAlong_1 : decode cX0_lookAlong 1 = .ok (.iconst 1, 1) := by decide +kernel
theorem dX0_lookAlong_2 : decode cX0_lookAlong 2 = .ok (.iadd, 1) := by decide +kernel
theorem dX0_lookAlong_3 : decode cX0_lookAlong 3 = .ok (.istore_n 3, 1) := by decide +kernel
theorem dX0_lookAlong_4 : decode cX0_lookAlong 4 = .ok (.iload_n 3, 1) := by decide +kernel
theorem dX0_lookAlong_5 : decode cX0_lookAlong 5 = .ok (.aload_n 0, 1) := by decide +kernel
theorem dX0_lookAlong_6 : decode cX0_lookAlong 6 = .ok (.getfield 31, 3) := by decide +kernel
theorem dX0_lookAlong_9 : decode cX0_lookAlong 9 = .ok (.getfield 39, 3) := by decide +kernel
theorem dX0_lookAlong_12 : decode cX0_lookAlong 12 = .ok (.if_icmp .ge 27, 3) := by decide +kernel
theorem dX0_lookAlong_15 : decode cX0_lookAlong 15 = .ok (.aload_n 0, 1) := by decide +kernel
theorem dX0_lookAlong_16 : decode cX0_lookAlong 16 = .ok (.getfield 31, 3) := by decide +kernel
theorem dX0_lookAlong_19 : decode cX0_lookAlong 19 = .ok (.iload_n 3, 1) := by decide +kernel
theorem dX0_lookAlong_20 : decode cX0_lookAlong 20 = .ok (.invokevirtual 45, 3) := by decide +kernel
theorem dX0_lookAlong_23 : decode cX0_lookAlong 23 = .ok (.ifCond .ne 10, 3) := by decide +kernel
theorem dX0_lookAlong_26 : decode cX0_lookAlong 26 = .ok (.aload_n 0, 1) := by decide +kernel
theorem dX0_lookAlong_27 : decode cX0_lookAlong 27 = .ok (.iload_n 1, 1) := by decide +kernel
theorem dX0_lookAlong_28 : decode cX0_lookAlong 28 = .ok (.iload_n 2, 1) := by decide +kernel
theorem dX0_lookAlong_29 : decode cX0_lookAlong 29 = .ok (.iload_n 3, 1) := by decide +kernel
theorem dX0_lookAlong_30 : decode cX0_lookAlong 30 = .ok (.invokevirtual 53, 3) := by decide +kernel
theorem dX0_lookAlong_33 : decode cX0_lookAlong 33 = .ok (.iinc 3 1, 3) := by decide +kernel
theorem dX0_lookAlong_36 : decode cX0_lookAlong 36 = .ok (.goto (-32), 3) := by decide +kernel
theorem dX0_lookAlong_39 : decode cX0_lookAlong 39 = .ok (.return_, 1) := by decide +kernel
theorem dX0_lookAt_0 : decode cX0_lookAt 0 = .ok (.aload_n 0, 1) := by decide +kernel
theorem dX0_lookAt_1 : decode cX0_lookAt 1 = .ok (.iload_n 1, 1) := by decide +kernel
theorem dX0_lookAt_2 : decode cX0_lookAt 2 = .ok (.iload_n 2, 1) := by decide +kernel
theorem dX0_lookAt_3 : decode cX0_lookAt 3 = .ok (.iload_n 3, 1) := by decide +kernel
theorem dX0_lookAt_4 : decode cX0_lookAt 4 = .ok (.invokevirtual 57, 3) := by decide +kernel
theorem dX0_lookAt_7 : decode cX0_lookAt 7 = .ok (.ifCond .eq 60, 3) := by decide +kernel
theorem dX0_lookAt_10 : decode cX0_lookAt 10 = .ok (.aload_n 0, 1) := by decide +kernel
theorem dX0_lookAt_11 : decode cX0_lookAt 11 = .ok (.getfield 21, 3) := by decide +kernel
theorem dX0_lookAt_14 : decode cX0_lookAt 14 = .ok (.aload_n 0, 1) := by decide +kernel
theorem dX0_lookAt_15 : decode cX0_lookAt 15 = .ok (.getfield 18, 3) := by decide +kernel
theorem dX0_lookAt_18 : decode cX0_lookAt 18 = .ok (.invokevirtual 61, 3) := by decide +kernel
theorem dX0_lookAt_21 : decode cX0_lookAt 21 = .ok (.bipush 100, 2) := by decide +kernel
theorem dX0_lookAt_23 : decode cX0_lookAt 23 = .ok (.if_icmp .ne 44, 3) := by decide +kernel
theorem dX0_lookAt_26 : decode cX0_lookAt 26 = .ok (.aload_n 0, 1) := by decide +kernel
theorem dX0_lookAt_27 : decode cX0_lookAt 27 = .ok (.getfield 36, 3) := by decide +kernel
theorem dX0_lookAt_30 : decode cX0_lookAt 30 = .ok (.ifCond .eq 21, 3) := by decide +kernel
theorem dX0_lookAt_33 : decode cX0_lookAt 33 = .ok (.aload_n 0, 1) := by decide +kernel
theorem dX0_lookAt_34 : decode cX0_lookAt 34 = .ok (.getfield 21, 3) := by decide +kernel
theorem dX0_lookAt_37 : decode cX0_lookAt 37 = .ok (.aload_n 0, 1) := by decide +kernel
theorem dX0_lookAt_38 : decode cX0_lookAt 38 = .ok (.getfield 18, 3) := by decide +kernel
theorem dX0_lookAt_41 : decode cX0_lookAt 41 = .ok (.aload_n 0, 1) := by decide +kernel
theorem dX0_lookAt_42 : decode cX0_lookAt 42 = .ok (.getfield 12, 3) := by decide +kernel
theorem dX0_lookAt_45 : decode cX0_lookAt 45 = .ok (.invokevirtual 67, 3) := by decide +kernel
theorem dX0_lookAt_48 : decode cX0_lookAt 48 = .ok (.ifCond .le 19, 3) := by decide +kernel
theorem dX0_lookAt_51 : decode cX0_lookAt 51 = .ok (.aload_n 0, 1) := by decide +kernel
theorem dX0_lookAt_52 : decode cX0_lookAt 52 = .ok (.getfield 12, 3) := by decide +kernel
theorem dX0_lookAt_55 : decode cX0_lookAt 55 = .ok (.aload_n 0, 1) := by decide +kernel
theorem dX0_lookAt_56 : decode cX0_lookAt 56 = .ok (.getfield 18, 3) := by decide +kernel
theorem dX0_lookAt_59 : decode cX0_lookAt 59 = .ok (.invokevirtual 71, 3) := by decide +kernel
theorem dX0_lookAt_62 : decode cX0_lookAt 62 = .ok (.aload_n 0, 1) := by decide +kernel
theorem dX0_lookAt_63 : decode cX0_lookAt 63 = .ok (.iconst 1, 1) := by decide +kernel
theorem dX0_lookAt_64 : decode cX0_lookAt 64 = .ok (.putfield 36, 3) := by decide +kernel
theorem dX0_lookAt_67 : decode cX0_lookAt 67 = .ok (.return_, 1) := by decide +kernel
theorem dX0_meet_0 : decode cX0_meet 0 = .ok (.lconst 0, 1) := by decide +kernel
theorem dX0_meet_1 : decode cX0_meet 1 = .ok (.lstore 4, 2) := by decide +kernel
theorem dX0_meet_3 : decode cX0_meet 3 = .ok (.iconst 0, 1) := by decide +kernel
theorem dX0_meet_4 : decode cX0_meet 4 = .ok (.istore 6, 2) := by decide +kernel
theorem dX0_meet_6 : decode cX0_meet 6 = .ok (.iload 6, 2) := by decide +kernel
theorem dX0_meet_8 : decode cX0_meet 8 = .ok (.iconst 3, 1) := by decide +kernel
theorem dX0_meet_9 : decode cX0_meet 9 = .ok (.if_icmp .ge 33, 3) := by decide +kernel
theorem dX0_meet_12 : decode cX0_meet 12 = .ok (.lload 4, 2) := by decide +kernel
theorem dX0_meet_14 : decode cX0_meet 14 = .ok (.aload_n 0, 1) := by decide +kernel
theorem dX0_meet_15 : decode cX0_meet 15 = .ok (.getfield 31, 3) := by decide +kernel
theorem dX0_meet_18 : decode cX0_meet 18 = .ok (.iload_n 1, 1) := by decide +kernel
theorem dX0_meet_19 : decode cX0_meet 19 = .ok (.iload 6, 2) := by decide +kernel
theorem dX0_meet_21 : decode cX0_meet 21 = .ok (.invokevirtual 75, 3) := by decide +kernel
theorem dX0_meet_24 : decode cX0_meet 24 = .ok (.aload_n 0, 1) := by decide +kernel
theorem dX0_meet_25 : decode cX0_meet 25 = .ok (.iload_n 2, 1) := by decide +kernel
theorem dX0_meet_26 : decode cX0_meet 26 = .ok (.iload_n 3, 1) := by decide +kernel
theorem dX0_meet_27 : decode cX0_meet 27 = .ok (.iload 6, 2) := by decide +kernel
theorem dX0_meet_29 : decode cX0_meet 29 = .ok (.invokevirtual 79, 3) := by decide +kernel
theorem dX0_meet_32 : decode cX0_meet 32 = .ok (.lmul, 1) := by decide +kernel
theorem dX0_meet_33 : decode cX0_meet 33 = .ok (.ladd, 1) := by decide +kernel
theorem dX0_meet_34 : decode cX0_meet 34 = .ok (.lstore 4, 2) := by decide +kernel
theorem dX0_meet_36 : decode cX0_meet 36 = .ok (.iinc 6 1, 3) := by decide +kernel
theorem dX0_meet_39 : decode cX0_meet 39 = .ok (.goto (-33), 3) := by decide +kernel
theorem dX0_meet_42 : decode cX0_meet 42 = .ok (.lload 4, 2) := by decide +kernel
theorem dX0_meet_44 : decode cX0_meet 44 = .ok (.lconst 0, 1) := by decide +kernel
theorem dX0_meet_45 : decode cX0_meet 45 = .ok (.lcmp, 1) := by decide +kernel
theorem dX0_meet_46 : decode cX0_meet 46 = .ok (.ifCond .ne 5, 3) := by decide +kernel
theorem dX0_meet_49 : decode cX0_meet 49 = .ok (.iconst 0, 1) := by decide +kernel
theorem dX0_meet_50 : decode cX0_meet 50 = .ok (.ireturn, 1) := by decide +kernel
theorem dX0_meet_51 : decode cX0_meet 51 = .ok (.lload 4, 2) := by decide +kernel
theorem dX0_meet_53 : decode cX0_meet 53 = .ok (.lconst 0, 1) := by decide +kernel
theorem dX0_meet_54 : decode cX0_meet 54 = .ok (.lcmp, 1) := by decide +kernel
theorem dX0_meet_55 : decode cX0_meet 55 = .ok (.ifCond .ge 7, 3) := by decide +kernel
theorem dX0_meet_58 : decode cX0_meet 58 = .ok (.iconst 1, 1) := by decide +kernel
theorem dX0_meet_59 : decode cX0_meet 59 = .ok (.goto 4, 3) := by decide +kernel
theorem dX0_meet_62 : decode cX0_meet 62 = .ok (.iconst (-1), 1) := by decide +kernel
theorem dX0_meet_63 : decode cX0_meet 63 = .ok (.istore 6, 2) := by decide +kernel
theorem dX0_meet_65 : decode cX0_meet 65 = .ok (.iconst 0, 1) := by decide +kernel
theorem dX0_meet_66 : decode cX0_meet 66 = .ok (.istore 7, 2) := by decide +kernel
theorem dX0_meet_68 : decode cX0_meet 68 = .ok (.iload 7, 2) := by decide +kernel
theorem dX0_meet_70 : decode cX0_meet 70 = .ok (.iconst 3, 1) := by decide +kernel
theorem dX0_meet_71 : decode cX0_meet 71 = .ok (.if_icmp .ge 75, 3) := by decide +kernel
theorem dX0_meet_74 : decode cX0_meet 74 = .ok (.aload_n 0, 1) := by decide +kernel
theorem dX0_meet_75 : decode cX0_meet 75 = .ok (.getfield 18, 3) := by decide +kernel
theorem dX0_meet_78 : decode cX0_meet 78 = .ok (.iload 7, 2) := by decide +kernel
theorem dX0_meet_80 : decode cX0_meet 80 = .ok (.iload 6, 2) := by decide +kernel
theorem dX0_meet_82 : decode cX0_meet 82 = .ok (.i2l, 1) := by decide +kernel
theorem dX0_meet_83 : decode cX0_meet 83 = .ok (.aload_n 0, 1) := by decide +kernel
theorem dX0_meet_84 : decode cX0_meet 84 = .ok (.getfield 31, 3) := by decide +kernel
theorem dX0_meet_87 : decode cX0_meet 87 = .ok (.iload_n 1, 1) := by decide +kernel
theorem dX0_meet_88 : decode cX0_meet 88 = .ok (.invokevirtual 83, 3) := by decide +kernel
theorem dX0_meet_91 : decode cX0_meet 91 = .ok (.aload_n 0, 1) := by decide +kernel
theorem dX0_meet_92 : decode cX0_meet 92 = .ok (.iload_n 2, 1) := by decide +kernel
theorem dX0_meet_93 : decode cX0_meet 93 = .ok (.iload_n 3, 1) := by decide +kernel
theorem dX0_meet_94 : decode cX0_meet 94 = .ok (.iload 7, 2) := by decide +kernel
theorem dX0_meet_96 : decode cX0_meet 96 = .ok (.invokevirtual 79, 3) := by decide +kernel
theorem dX0_meet_99 : decode cX0_meet 99 = .ok (.lmul, 1) := by decide +kernel
theorem dX0_meet_100 : decode cX0_meet 100 = .ok (.aload_n 0, 1) := by decide +kernel
theorem dX0_meet_101 : decode cX0_meet 101 = .ok (.getfield 31, 3) := by decide +kernel
theorem dX0_meet_104 : decode cX0_meet 104 = .ok (.iload_n 2, 1) := by decide +kernel
theorem dX0_meet_105 : decode cX0_meet 105 = .ok (.invokevirtual 83, 3) := by decide +kernel
theorem dX0_meet_108 : decode cX0_meet 108 = .ok (.aload_n 0, 1) := by decide +kernel
theorem dX0_meet_109 : decode cX0_meet 109 = .ok (.iload_n 3, 1) := by decide +kernel
theorem dX0_meet_110 : decode cX0_meet 110 = .ok (.iload_n 1, 1) := by decide +kernel
theorem dX0_meet_111 : decode cX0_meet 111 = .ok (.iload 7, 2) := by decide +kernel
theorem dX0_meet_113 : decode cX0_meet 113 = .ok (.invokevirtual 79, 3) := by decide +kernel
theorem dX0_meet_116 : decode cX0_meet 116 = .ok (.lmul, 1) := by decide +kernel
theorem dX0_meet_117 : decode cX0_meet 117 = .ok (.ladd, 1) := by decide +kernel
theorem dX0_meet_118 : decode cX0_meet 118 = .ok (.aload_n 0, 1) := by decide +kernel
theorem dX0_meet_119 : decode cX0_meet 119 = .ok (.getfield 31, 3) := by decide +kernel
theorem dX0_meet_122 : decode cX0_meet 122 = .ok (.iload_n 3, 1) := by decide +kernel
theorem dX0_meet_123 : decode cX0_meet 123 = .ok (.invokevirtual 83, 3) := by decide +kernel
theorem dX0_meet_126 : decode cX0_meet 126 = .ok (.aload_n 0, 1) := by decide +kernel
theorem dX0_meet_127 : decode cX0_meet 127 = .ok (.iload_n 1, 1) := by decide +kernel
theorem dX0_meet_128 : decode cX0_meet 128 = .ok (.iload_n 2, 1) := by decide +kernel
theorem dX0_meet_129 : decode cX0_meet 129 = .ok (.iload 7, 2) := by decide +kernel
theorem dX0_meet_131 : decode cX0_meet 131 = .ok (.invokevirtual 79, 3) := by decide +kernel
theorem dX0_meet_134 : decode cX0_meet 134 = .ok (.lmul, 1) := by decide +kernel
theorem dX0_meet_135 : decode cX0_meet 135 = .ok (.ladd, 1) := by decide +kernel
theorem dX0_meet_136 : decode cX0_meet 136 = .ok (.lmul, 1) := by decide +kernel
theorem dX0_meet_137 : decode cX0_meet 137 = .ok (.invokevirtual 87, 3) := by decide +kernel
theorem dX0_meet_140 : decode cX0_meet 140 = .ok (.iinc 7 1, 3) := by decide +kernel
theorem dX0_meet_143 : decode cX0_meet 143 = .ok (.goto (-75), 3) := by decide +kernel
theorem dX0_meet_146 : decode cX0_meet 146 = .ok (.aload_n 0, 1) := by decide +kernel
theorem dX0_meet_147 : decode cX0_meet 147 = .ok (.getfield 18, 3) := by decide +kernel
theorem dX0_meet_150 : decode cX0_meet 150 = .ok (.lload 4, 2) := by decide +kernel
theorem dX0_meet_152 : decode cX0_meet 152 = .ok (.lconst 0, 1) := by decide +kernel
theorem dX0_meet_153 : decode cX0_meet 153 = .ok (.lcmp, 1) := by decide +kernel
theorem dX0_meet_154 : decode cX0_meet 154 = .ok (.ifCond .ge 9, 3) := by decide +kernel
theorem dX0_meet_157 : decode cX0_meet 157 = .ok (.lload 4, 2) := by decide +kernel
theorem dX0_meet_159 : decode cX0_meet 159 = .ok (.lneg, 1) := by decide +kernel
theorem dX0_meet_160 : decode cX0_meet 160 = .ok (.goto 5, 3) := by decide +kernel
theorem dX0_meet_163 : decode cX0_meet 163 = .ok (.lload 4, 2) := by decide +kernel
theorem dX0_meet_165 : decode cX0_meet 165 = .ok (.putfield 91, 3) := by decide +kernel
theorem dX0_meet_168 : decode cX0_meet 168 = .ok (.aload_n 0, 1) := by decide +kernel
theorem dX0_meet_169 : decode cX0_meet 169 = .ok (.getfield 18, 3) := by decide +kernel
theorem dX0_meet_172 : decode cX0_meet 172 = .ok (.aload_n 0, 1) := by decide +kernel
theorem dX0_meet_173 : decode cX0_meet 173 = .ok (.getfield 21, 3) := by decide +kernel
theorem dX0_meet_176 : decode cX0_meet 176 = .ok (.getfield 95, 3) := by decide +kernel
theorem dX0_meet_179 : decode cX0_meet 179 = .ok (.putfield 98, 3) := by decide +kernel
theorem dX0_meet_182 : decode cX0_meet 182 = .ok (.iconst 1, 1) := by decide +kernel
theorem dX0_meet_183 : decode cX0_meet 183 = .ok (.ireturn, 1) := by decide +kernel
theorem dX0_cross_0 : decode cX0_cross 0 = .ok (.iload_n 3, 1) := by decide +kernel
theorem dX0_cross_1 : decode cX0_cross 1 = .ok (.iconst 2, 1) := by decide +kernel
theorem dX0_cross_2 : decode cX0_cross 2 = .ok (.if_icmp .ne 7, 3) := by decide +kernel
theorem dX0_cross_5 : decode cX0_cross 5 = .ok (.iconst 0, 1) := by decide +kernel
theorem dX0_cross_6 : decode cX0_cross 6 = .ok (.goto 6, 3) := by decide +kernel
theorem dX0_cross_9 : decode cX0_cross 9 = .ok (.iload_n 3, 1) := by decide +kernel
theorem dX0_cross_10 : decode cX0_cross 10 = .ok (.iconst 1, 1) := by decide +kernel
theorem dX0_cross_11 : decode cX0_cross 11 = .ok (.iadd, 1) := by decide +kernel
theorem dX0_cross_12 : decode cX0_cross 12 = .ok (.istore 4, 2) := by decide +kernel
theorem dX0_cross_14 : decode cX0_cross 14 = .ok (.iload_n 3, 1) := by decide +kernel
theorem dX0_cross_15 : decode cX0_cross 15 = .ok (.ifCond .ne 7, 3) := by decide +kernel
theorem dX0_cross_18 : decode cX0_cross 18 = .ok (.iconst 2, 1) := by decide +kernel
theorem dX0_cross_19 : decode cX0_cross 19 = .ok (.goto 6, 3) := by decide +kernel
theorem dX0_cross_22 : decode cX0_cross 22 = .ok (.iload_n 3, 1) := by decide +kernel
theorem dX0_cross_23 : decode cX0_cross 23 = .ok (.iconst 1, 1) := by decide +kernel
theorem dX0_cross_24 : decode cX0_cross 24 = .ok (.isub, 1) := by decide +kernel
theorem dX0_cross_25 : decode cX0_cross 25 = .ok (.istore 5, 2) := by decide +kernel
theorem dX0_cross_27 : decode cX0_cross 27 = .ok (.aload_n 0, 1) := by decide +kernel
theorem dX0_cross_28 : decode cX0_cross 28 = .ok (.getfield 31, 3) := by decide +kernel
theorem dX0_cross_31 : decode cX0_cross 31 = .ok (.iload_n 1, 1) := by decide +kernel
theorem dX0_cross_32 : decode cX0_cross 32 = .ok (.iload 4, 2) := by decide +kernel
theorem dX0_cross_34 : decode cX0_cross 34 = .ok (.invokevirtual 75, 3) := by decide +kernel
theorem dX0_cross_37 : decode cX0_cross 37 = .ok (.aload_n 0, 1) := by decide +kernel
theorem dX0_cross_38 : decode cX0_cross 38 = .ok (.getfield 31, 3) := by decide +kernel
theorem dX0_cross_41 : decode cX0_cross 41 = .ok (.iload_n 2, 1) := by decide +kernel
theorem dX0_cross_42 : decode cX0_cross 42 = .ok (.iload 5, 2) := by decide +kernel
theorem dX0_cross_44 : decode cX0_cross 44 = .ok (.invokevirtual 75, 3) := by decide +kernel
theorem dX0_cross_47 : decode cX0_cross 47 = .ok (.lmul, 1) := by decide +kernel
theorem dX0_cross_48 : decode cX0_cross 48 = .ok (.aload_n 0, 1) := by decide +kernel
theorem dX0_cross_49 : decode cX0_cross 49 = .ok (.getfield 31, 3) := by decide +kernel
theorem dX0_cross_52 : decode cX0_cross 52 = .ok (.iload_n 1, 1) := by decide +kernel
theorem dX0_cross_53 : decode cX0_cross 53 = .ok (.iload 5, 2) := by decide +kernel
theorem dX0_cross_55 : decode cX0_cross 55 = .ok (.invokevirtual 75, 3) := by decide +kernel
theorem dX0_cross_58 : decode cX0_cross 58 = .ok (.aload_n 0, 1) := by decide +kernel
theorem dX0_cross_59 : decode cX0_cross 59 = .ok (.getfield 31, 3) := by decide +kernel
theorem dX0_cross_62 : decode cX0_cross 62 = .ok (.iload_n 2, 1) := by decide +kernel
theorem dX0_cross_63 : decode cX0_cross 63 = .ok (.iload 4, 2) := by decide +kernel
theorem dX0_cross_65 : decode cX0_cross 65 = .ok (.invokevirtual 75, 3) := by decide +kernel
theorem dX0_cross_68 : decode cX0_cross 68 = .ok (.lmul, 1) := by decide +kernel
theorem dX0_cross_69 : decode cX0_cross 69 = .ok (.lsub, 1) := by decide +kernel
theorem dX0_cross_70 : decode cX0_cross 70 = .ok (.lreturn, 1) := by decide +kernel
theorem dX1_init_0 : decode cX1_init 0 = .ok (.aload_n 0, 1) := by decide +kernel
theorem dX1_init_1 : decode cX1_init 1 = .ok (.invokespecial 7, 3) := by decide +kernel
theorem dX1_init_4 : decode cX1_init 4 = .ok (.aload_n 0, 1) := by decide +kernel
theorem dX1_init_5 : decode cX1_init 5 = .ok (.bipush 84, 2) := by decide +kernel
theorem dX1_init_7 : decode cX1_init 7 = .ok (.newarray .long, 2) := by decide +kernel
theorem dX1_init_9 : decode cX1_init 9 = .ok (.putfield 13, 3) := by decide +kernel
theorem dX1_init_12 : decode cX1_init 12 = .ok (.aload_n 0, 1) := by decide +kernel
theorem dX1_init_13 : decode cX1_init 13 = .ok (.bipush 15, 2) := by decide +kernel
theorem dX1_init_15 : decode cX1_init 15 = .ok (.newarray .int, 2) := by decide +kernel
theorem dX1_init_17 : decode cX1_init 17 = .ok (.putfield 17, 3) := by decide +kernel
theorem dX1_init_20 : decode cX1_init 20 = .ok (.aload_n 0, 1) := by decide +kernel
theorem dX1_init_21 : decode cX1_init 21 = .ok (.iconst 3, 1) := by decide +kernel
theorem dX1_init_22 : decode cX1_init 22 = .ok (.newarray .int, 2) := by decide +kernel
theorem dX1_init_24 : decode cX1_init 24 = .ok (.putfield 21, 3) := by decide +kernel
theorem dX1_init_27 : decode cX1_init 27 = .ok (.aload_n 0, 1) := by decide +kernel
theorem dX1_init_28 : decode cX1_init 28 = .ok (.lconst 1, 1) := by decide +kernel
theorem dX1_init_29 : decode cX1_init 29 = .ok (.putfield 24, 3) := by decide +kernel
theorem dX1_init_32 : decode cX1_init 32 = .ok (.return_, 1) := by decide +kernel
theorem dX1_begin_0 : decode cX1_begin 0 = .ok (.aload_n 0, 1) := by decide +kernel
theorem dX1_begin_1 : decode cX1_begin 1 = .ok (.lconst 1, 1) := by decide +kernel
theorem dX1_begin_2 : decode cX1_begin 2 = .ok (.putfield 24, 3) := by decide +kernel
theorem dX1_begin_5 : decode cX1_begin 5 = .ok (.aload_n 0, 1) := by decide +kernel
theorem dX1_begin_6 : decode cX1_begin 6 = .ok (.aload_n 2, 1) := by decide +kernel
theorem dX1_begin_7 : decode cX1_begin 7 = .ok (.getfield 28, 3) := by decide +kernel
theorem dX1_begin_10 : decode cX1_begin 10 = .ok (.iconst 3, 1) := by decide +kernel
theorem dX1_begin_11 : decode cX1_begin 11 = .ok (.isub, 1) := by decide +kernel
theorem dX1_begin_12 : decode cX1_begin 12 = .ok (.putfield 32, 3) := by decide +kernel
theorem dX1_begin_15 : decode cX1_begin 15 = .ok (.iconst 0, 1) := by decide +kernel
theorem dX1_begin_16 : decode cX1_begin 16 = .ok (.istore_n 3, 1) := by decide +kernel
theorem dX1_begin_17 : decode cX1_begin 17 = .ok (.iload_n 3, 1) := by decide +kernel
theorem dX1_begin_18 : decode cX1_begin 18 = .ok (.aload_n 0, 1) := by decide +kernel
theorem dX1_begin_19 : decode cX1_begin 19 = .ok (.getfield 21, 3) := by decide +kernel
theorem dX1_begin_22 : decode cX1_begin 22 = .ok (.arraylength, 1) := by decide +kernel
theorem dX1_begin_23 : decode cX1_begin 23 = .ok (.if_icmp .ge 16, 3) := by decide +kernel
theorem dX1_begin_26 : decode cX1_begin 26 = .ok (.aload_n 0, 1) := by decide +kernel
theorem dX1_begin_27 : decode cX1_begin 27 = .ok (.getfield 21, 3) := by decide +kernel
theorem dX1_begin_30 : decode cX1_begin 30 = .ok (.iload_n 3, 1) := by decide +kernel
theorem dX1_begin_31 : decode cX1_begin 31 = .ok (.iload_n 3, 1) := by decide +kernel
theorem dX1_begin_32 : decode cX1_begin 32 = .ok (.iastore, 1) := by decide +kernel
theorem dX1_begin_33 : decode cX1_begin 33 = .ok (.iinc 3 1, 3) := by decide +kernel
theorem dX1_begin_36 : decode cX1_begin 36 = .ok (.goto (-19), 3) := by decide +kernel
theorem dX1_begin_39 : decode cX1_begin 39 = .ok (.iconst 0, 1) := by decide +kernel
theorem dX1_begin_40 : decode cX1_begin 40 = .ok (.istore_n 3, 1) := by decide +kernel
theorem dX1_begin_41 : decode cX1_begin 41 = .ok (.iload_n 3, 1) := by decide +kernel
theorem dX1_begin_42 : decode cX1_begin 42 = .ok (.aload_n 0, 1) := by decide +kernel
theorem dX1_begin_43 : decode cX1_begin 43 = .ok (.getfield 32, 3) := by decide +kernel
theorem dX1_begin_46 : decode cX1_begin 46 = .ok (.if_icmp .ge 34, 3) := by decide +kernel
theorem dX1_begin_49 : decode cX1_begin 49 = .ok (.iload_n 3, 1) := by decide +kernel
theorem dX1_begin_50 : decode cX1_begin 50 = .ok (.aload_n 0, 1) := by decide +kernel
theorem dX1_begin_51 : decode cX1_begin 51 = .ok (.getfield 17, 3) := by decide +kernel
theorem dX1_begin_54 : decode cX1_begin 54 = .ok (.arraylength, 1) := by decide +kernel
theorem dX1_begin_55 : decode cX1_begin 55 = .ok (.if_icmp .ge 25, 3) := by decide +kernel
theorem dX1_begin_58 : decode cX1_begin 58 = .ok (.aload_n 0, 1) := by decide +kernel
theorem dX1_begin_59 : decode cX1_begin 59 = .ok (.getfield 17, 3) := by decide +kernel
theorem dX1_begin_62 : decode cX1_begin 62 = .ok (.iload_n 3, 1) := by decide +kernel
theorem dX1_begin_63 : decode cX1_begin 63 = .ok (.iconst 3, 1) := by decide +kernel
theorem dX1_begin_64 : decode cX1_begin 64 = .ok (.iload_n 3, 1) := by decide +kernel
theorem dX1_begin_65 : decode cX1_begin 65 = .ok (.iadd, 1) := by decide +kernel
theorem dX1_begin_66 : decode cX1_begin 66 = .ok (.iastore, 1) := by decide +kernel
theorem dX1_begin_67 : decode cX1_begin 67 = .ok (.aload_n 0, 1) := by decide +kernel
theorem dX1_begin_68 : decode cX1_begin 68 = .ok (.aload_n 1, 1) := by decide +kernel
theorem dX1_begin_69 : decode cX1_begin 69 = .ok (.aload_n 2, 1) := by decide +kernel
theorem dX1_begin_70 : decode cX1_begin 70 = .ok (.iload_n 3, 1) := by decide +kernel
theorem dX1_begin_71 : decode cX1_begin 71 = .ok (.invokevirtual 35, 3) := by decide +kernel
theorem dX1_begin_74 : decode cX1_begin 74 = .ok (.iinc 3 1, 3) := by decide +kernel
theorem dX1_begin_77 : decode cX1_begin 77 = .ok (.goto (-36), 3) := by decide +kernel
theorem dX1_begin_80 : decode cX1_begin 80 = .ok (.iconst 0, 1) := by decide +kernel
theorem dX1_begin_81 : decode cX1_begin 81 = .ok (.istore_n 3, 1) := by decide +kernel
theorem dX1_begin_82 : decode cX1_begin 82 = .ok (.iload_n 3, 1) := by decide +kernel
theorem dX1_begin_83 : decode cX1_begin 83 = .ok (.iconst 3, 1) := by decide +kernel
theorem dX1_begin_84 : decode cX1_begin 84 = .ok (.if_icmp .ge 15, 3) := by decide +kernel
theorem dX1_begin_87 : decode cX1_begin 87 = .ok (.aload_n 0, 1) := by decide +kernel
theorem dX1_begin_88 : decode cX1_begin 88 = .ok (.aload_n 1, 1) := by decide +kernel
theorem dX1_begin_89 : decode cX1_begin 89 = .ok (.iload_n 3, 1) := by decide +kernel
theorem dX1_begin_90 : decode cX1_begin 90 = .ok (.invokevirtual 39, 3) := by decide +kernel
theorem dX1_begin_93 : decode cX1_begin 93 = .ok (.iinc 3 1, 3) := by decide +kernel
theorem dX1_begin_96 : decode cX1_begin 96 = .ok (.goto (-14), 3) := by decide +kernel
theorem dX1_begin_99 : decode cX1_begin 99 = .ok (.iconst 0, 1) := by decide +kernel
theorem dX1_begin_100 : decode cX1_begin 100 = .ok (.istore_n 3, 1) := by decide +kernel
theorem dX1_begin_101 : decode cX1_begin 101 = .ok (.iload_n 3, 1) := by decide +kernel
theorem dX1_begin_102 : decode cX1_begin 102 = .ok (.iconst 3, 1) := by decide +kernel
theorem dX1_begin_103 : decode cX1_begin 103 = .ok (.if_icmp .ge 14, 3) := by decide +kernel
theorem dX1_begin_106 : decode cX1_begin 106 = .ok (.aload_n 0, 1) := by decide +kernel
theorem dX1_begin_107 : decode cX1_begin 107 = .ok (.iload_n 3, 1) := by decide +kernel
theorem dX1_begin_108 : decode cX1_begin 108 = .ok (.invokevirtual 43, 3) := by decide +kernel
theorem dX1_begin_111 : decode cX1_begin 111 = .ok (.iinc 3 1, 3) := by decide +kernel
theorem dX1_begin_114 : decode cX1_begin 114 = .ok (.goto (-13), 3) := by decide +kernel
theorem dX1_begin_117 : decode cX1_begin 117 = .ok (.return_, 1) := by decide +kernel
theorem dX1_putLine_0 : decode cX1_putLine 0 = .ok (.iconst 3, 1) := by decide +kernel
theorem dX1_putLine_1 : decode cX1_putLine 1 = .ok (.iload_n 3, 1) := by decide +kernel
theorem dX1_putLine_2 : decode cX1_putLine 2 = .ok (.iadd, 1) := by decide +kernel
theorem dX1_putLine_3 : decode cX1_putLine 3 = .ok (.istore 4, 2) := by decide +kernel
theorem dX1_putLine_5 : decode cX1_putLine 5 = .ok (.aload_n 2, 1) := by decide +kernel
theorem dX1_putLine_6 : decode cX1_putLine 6 = .ok (.iload 4, 2) := by decide +kernel
theorem dX1_putLine_8 : decode cX1_putLine 8 = .ok (.invokevirtual 47, 3) := by decide +kernel
theorem dX1_putLine_11 : decode cX1_putLine 11 = .ok (.lstore 5, 2) := by decide +kernel
theorem dX1_putLine_13 : decode cX1_putLine 13 = .ok (.iconst 0, 1) := by decide +kernel
theorem dX1_putLine_14 : decode cX1_putLine 14 = .ok (.istore 7, 2) := by decide +kernel
theorem dX1_putLine_16 : decode cX1_putLine 16 = .ok (.iload 7, 2) := by decide +kernel
theorem dX1_putLine_18 : decode cX1_putLine 18 = .ok (.iconst 3, 1) := by decide +kernel
theorem dX1_putLine_19 : decode cX1_putLine 19 = .ok (.if_icmp .ge 43, 3) := by decide +kernel
theorem dX1_putLine_22 : decode cX1_putLine 22 = .ok (.aload_n 2, 1) := by decide +kernel
theorem dX1_putLine_23 : decode cX1_putLine 23 = .ok (.iload 4, 2) := by decide +kernel
theorem dX1_putLine_25 : decode cX1_putLine 25 = .ok (.iload 7, 2) := by decide +kernel
theorem dX1_putLine_27 : decode cX1_putLine 27 = .ok (.invokevirtual 51, 3) := by decide +kernel
theorem dX1_putLine_30 : decode cX1_putLine 30 = .ok (.lstore 8, 2) := by decide +kernel
theorem dX1_putLine_32 : decode cX1_putLine 32 = .ok (.aload_n 0, 1) := by decide +kernel
theorem dX1_putLine_33 : decode cX1_putLine 33 = .ok (.iload_n 3, 1) := by decide +kernel
theorem dX1_putLine_34 : decode cX1_putLine 34 = .ok (.iload 7, 2) := by decide +kernel
theorem dX1_putLine_36 : decode cX1_putLine 36 = .ok (.lload 8, 2) := by decide +kernel
theorem dX1_putLine_38 : decode cX1_putLine 38 = .ok (.invokevirtual 55, 3) := by decide +kernel
theorem dX1_putLine_41 : decode cX1_putLine 41 = .ok (.lload 5, 2) := by decide +kernel
theorem dX1_putLine_43 : decode cX1_putLine 43 = .ok (.lload 8, 2) := by decide +kernel
theorem dX1_putLine_45 : decode cX1_putLine 45 = .ok (.aload_n 1, 1) := by decide +kernel
theorem dX1_putLine_46 : decode cX1_putLine 46 = .ok (.iload 7, 2) := by decide +kernel
theorem dX1_putLine_48 : decode cX1_putLine 48 = .ok (.invokevirtual 59, 3) := by decide +kernel
theorem dX1_putLine_51 : decode cX1_putLine 51 = .ok (.i2l, 1) := by decide +kernel
theorem dX1_putLine_52 : decode cX1_putLine 52 = .ok (.lmul, 1) := by decide +kernel
theorem dX1_putLine_53 : decode cX1_putLine 53 = .ok (.ladd, 1) := by decide +kernel
theorem dX1_putLine_54 : decode cX1_putLine 54 = .ok (.lstore 5, 2) := by decide +kernel
theorem dX1_putLine_56 : decode cX1_putLine 56 = .ok (.iinc 7 1, 3) := by decide +kernel
theorem dX1_putLine_59 : decode cX1_putLine 59 = .ok (.goto (-43), 3) := by decide +kernel
theorem dX1_putLine_62 : decode cX1_putLine 62 = .ok (.aload_n 0, 1) := by decide +kernel
theorem dX1_putLine_63 : decode cX1_putLine 63 = .ok (.iload_n 3, 1) := by decide +kernel
theorem dX1_putLine_64 : decode cX1_putLine 64 = .ok (.iconst 3, 1) := by decide +kernel
theorem dX1_putLine_65 : decode cX1_putLine 65 = .ok (.lload 5, 2) := by decide +kernel
theorem dX1_putLine_67 : decode cX1_putLine 67 = .ok (.invokevirtual 55, 3) := by decide +kernel
theorem dX1_putLine_70 : decode cX1_putLine 70 = .ok (.return_, 1) := by decide +kernel
theorem dX1_putAimGoal_0 : decode cX1_putAimGoal 0 = .ok (.iconst 0, 1) := by decide +kernel
theorem dX1_putAimGoal_1 : decode cX1_putAimGoal 1 = .ok (.istore_n 3, 1) := by decide +kernel
theorem dX1_putAimGoal_2 : decode cX1_putAimGoal 2 = .ok (.iload_n 3, 1) := by decide +kernel
theorem dX1_putAimGoal_3 : decode cX1_putAimGoal 3 = .ok (.iconst 3, 1) := by decide +kernel
theorem dX1_putAimGoal_4 : decode cX1_putAimGoal 4 = .ok (.if_icmp .ge 43, 3) := by decide +kernel
theorem dX1_putAimGoal_7 : decode cX1_putAimGoal 7 = .ok (.aload_n 0, 1) := by decide +kernel
theorem dX1_putAimGoal_8 : decode cX1_putAimGoal 8 = .ok (.iload_n 2, 1) := by decide +kernel
theorem dX1_putAimGoal_9 : decode cX1_putAimGoal 9 = .ok (.invokestatic 65, 3) := by decide +kernel
theorem dX1_putAimGoal_12 : decode cX1_putAimGoal 12 = .ok (.iload_n 3, 1) := by decide +kernel
theorem dX1_putAimGoal_13 : decode cX1_putAimGoal 13 = .ok (.iload_n 2, 1) := by decide +kernel
theorem dX1_putAimGoal_14 : decode cX1_putAimGoal 14 = .ok (.aload_n 1, 1) := by decide +kernel
theorem dX1_putAimGoal_15 : decode cX1_putAimGoal 15 = .ok (.getfield 68, 3) := by decide +kernel
theorem dX1_putAimGoal_18 : decode cX1_putAimGoal 18 = .ok (.if_icmp .ge 19, 3) := by decide +kernel
theorem dX1_putAimGoal_21 : decode cX1_putAimGoal 21 = .ok (.aload_n 1, 1) := by decide +kernel
theorem dX1_putAimGoal_22 : decode cX1_putAimGoal 22 = .ok (.iload_n 2, 1) := by decide +kernel
theorem dX1_putAimGoal_23 : decode cX1_putAimGoal 23 = .ok (.invokevirtual 71, 3) := by decide +kernel
theorem dX1_putAimGoal_26 : decode cX1_putAimGoal 26 = .ok (.aload_n 1, 1) := by decide +kernel
theorem dX1_putAimGoal_27 : decode cX1_putAimGoal 27 = .ok (.iload_n 2, 1) := by decide +kernel
theorem dX1_putAimGoal_28 : decode cX1_putAimGoal 28 = .ok (.iload_n 3, 1) := by decide +kernel
theorem dX1_putAimGoal_29 : decode cX1_putAimGoal 29 = .ok (.invokevirtual 74, 3) := by decide +kernel
theorem dX1_putAimGoal_32 : decode cX1_putAimGoal 32 = .ok (.imul, 1) := by decide +kernel
theorem dX1_putAimGoal_33 : decode cX1_putAimGoal 33 = .ok (.i2l, 1) := by decide +kernel
theorem dX1_putAimGoal_34 : decode cX1_putAimGoal 34 = .ok (.goto 4, 3) := by decide +kernel
theorem dX1_putAimGoal_37 : decode cX1_putAimGoal 37 = .ok (.lconst 0, 1) := by decide +kernel
theorem dX1_putAimGoal_38 : decode cX1_putAimGoal 38 = .ok (.invokevirtual 55, 3) := by decide +kernel
theorem dX1_putAimGoal_41 : decode cX1_putAimGoal 41 = .ok (.iinc 3 1, 3) := by decide +kernel
theorem dX1_putAimGoal_44 : decode cX1_putAimGoal 44 = .ok (.goto (-42), 3) := by decide +kernel
theorem dX1_putAimGoal_47 : decode cX1_putAimGoal 47 = .ok (.aload_n 0, 1) := by decide +kernel
theorem dX1_putAimGoal_48 : decode cX1_putAimGoal 48 = .ok (.iload_n 2, 1) := by decide +kernel
theorem dX1_putAimGoal_49 : decode cX1_putAimGoal 49 = .ok (.invokestatic 65, 3) := by decide +kernel
theorem dX1_putAimGoal_52 : decode cX1_putAimGoal 52 = .ok (.iconst 3, 1) := by decide +kernel
theorem dX1_putAimGoal_53 : decode cX1_putAimGoal 53 = .ok (.lconst 0, 1) := by decide +kernel
theorem dX1_putAimGoal_54 : decode cX1_putAimGoal 54 = .ok (.invokevirtual 55, 3) := by decide +kernel
theorem dX1_putAimGoal_57 : decode cX1_putAimGoal 57 = .ok (.return_, 1) := by decide +kernel
theorem dX1_putLeastGoal_0 : decode cX1_putLeastGoal 0 = .ok (.iconst 0, 1) := by decide +kernel
theorem dX1_putLeastGoal_1 : decode cX1_putLeastGoal 1 = .ok (.istore_n 2, 1) := by decide +kernel
theorem dX1_putLeastGoal_2 : decode cX1_putLeastGoal 2 = .ok (.iload_n 2, 1) := by decide +kernel
theorem dX1_putLeastGoal_3 : decode cX1_putLeastGoal 3 = .ok (.iconst 4, 1) := by decide +kernel
theorem dX1_putLeastGoal_4 : decode cX1_putLeastGoal 4 = .ok (.if_icmp .ge 30, 3) := by decide +kernel
theorem dX1_putLeastGoal_7 : decode cX1_putLeastGoal 7 = .ok (.aload_n 0, 1) := by decide +kernel
theorem dX1_putLeastGoal_8 : decode cX1_putLeastGoal 8 = .ok (.iload_n 1, 1) := by decide +kernel
theorem dX1_putLeastGoal_9 : decode cX1_putLeastGoal 9 = .ok (.invokestatic 78, 3) := by decide +kernel
theorem dX1_putLeastGoal_12 : decode cX1_putLeastGoal 12 = .ok (.iload_n 2, 1) := by decide +kernel
theorem dX1_putLeastGoal_13 : decode cX1_putLeastGoal 13 = .ok (.iload_n 2, 1) := by decide +kernel
theorem dX1_putLeastGoal_14 : decode cX1_putLeastGoal 14 = .ok (.iload_n 1, 1) := by decide +kernel
theorem dX1_putLeastGoal_15 : decode cX1_putLeastGoal 15 = .ok (.if_icmp .ne 9, 3) := by decide +kernel
theorem dX1_putLeastGoal_18 : decode cX1_putLeastGoal 18 = .ok (.ldc2_w 81, 3) := by decide +kernel
theorem dX1_putLeastGoal_21 : decode cX1_putLeastGoal 21 = .ok (.goto 4, 3) := by decide +kernel
theorem dX1_putLeastGoal_24 : decode cX1_putLeastGoal 24 = .ok (.lconst 0, 1) := by decide +kernel
theorem dX1_putLeastGoal_25 : decode cX1_putLeastGoal 25 = .ok (.invokevirtual 55, 3) := by decide +kernel
theorem dX1_putLeastGoal_28 : decode cX1_putLeastGoal 28 = .ok (.iinc 2 1, 3) := by decide +kernel
theorem dX1_putLeastGoal_31 : decode cX1_putLeastGoal 31 = .ok (.goto (-29), 3) := by decide +kernel
theorem dX1_putLeastGoal_34 : decode cX1_putLeastGoal 34 = .ok (.return_, 1) := by decide +kernel
theorem dX1_goalOfAim_0 : decode cX1_goalOfAim 0 = .ok (.bipush 15, 2) := by decide +kernel
theorem dX1_goalOfAim_2 : decode cX1_goalOfAim 2 = .ok (.iload_n 0, 1) := by decide +kernel
theorem dX1_goalOfAim_3 : decode cX1_goalOfAim 3 = .ok (.iadd, 1) := by decide +kernel
theorem dX1_goalOfAim_4 : decode cX1_goalOfAim 4 = .ok (.ireturn, 1) := by decide +kernel
theorem dX1_goalOfLeast_0 : decode cX1_goalOfLeast 0 = .ok (.bipush 18, 2) := by decide +kernel
theorem dX1_goalOfLeast_2 : decode cX1_goalOfLeast 2 = .ok (.iload_n 0, 1) := by decide +kernel
theorem dX1_goalOfLeast_3 : decode cX1_goalOfLeast 3 = .ok (.iadd, 1) := by decide +kernel
theorem dX1_goalOfLeast_4 : decode cX1_goalOfLeast 4 = .ok (.ireturn, 1) := by decide +kernel
theorem dX1_cell_0 : decode cX1_cell 0 = .ok (.iload_n 1, 1) := by decide +kernel
theorem dX1_cell_1 : decode cX1_cell 1 = .ok (.iconst 4, 1) := by decide +kernel
theorem dX1_cell_2 : decode cX1_cell 2 = .ok (.imul, 1) := by decide +kernel
theorem dX1_cell_3 : decode cX1_cell 3 = .ok (.iload_n 2, 1) := by decide +kernel
theorem dX1_cell_4 : decode cX1_cell 4 = .ok (.iadd, 1) := by decide +kernel
theorem dX1_cell_5 : decode cX1_cell 5 = .ok (.istore_n 3, 1) := by decide +kernel
theorem dX1_cell_6 : decode cX1_cell 6 = .ok (.iload_n 3, 1) := by decide +kernel
theorem dX1_cell_7 : decode cX1_cell 7 = .ok (.ifCond .lt 21, 3) := by decide +kernel
theorem dX1_cell_10 : decode cX1_cell 10 = .ok (.iload_n 3, 1) := by decide +kernel
theorem dX1_cell_11 : decode cX1_cell 11 = .ok (.aload_n 0, 1) := by decide +kernel
theorem dX1_cell_12 : decode cX1_cell 12 = .ok (.getfield 13, 3) := by decide +kernel
theorem dX1_cell_15 : decode cX1_cell 15 = .ok (.arraylength, 1) := by decide +kernel
theorem dX1_cell_16 : decode cX1_cell 16 = .ok (.if_icmp .ge 12, 3) := by decide +kernel
theorem dX1_cell_19 : decode cX1_cell 19 = .ok (.aload_n 0, 1) := by decide +kernel
theorem dX1_cell_20 : decode cX1_cell 20 = .ok (.getfield 13, 3) := by decide +kernel
theorem dX1_cell_23 : decode cX1_cell 23 = .ok (.iload_n 3, 1) := by decide +kernel
theorem dX1_cell_24 : decode cX1_cell 24 = .ok (.laload, 1) := by decide +kernel
theorem dX1_cell_25 : decode cX1_cell 25 = .ok (.goto 4, 3) := by decide +kernel
theorem dX1_cell_28 : decode cX1_cell 28 = .ok (.lconst 0, 1) := by decide +kernel
theorem dX1_cell_29 : decode cX1_cell 29 = .ok (.lreturn, 1) := by decide +kernel
theorem dX1_putCell_0 : decode cX1_putCell 0 = .ok (.iload_n 1, 1) := by decide +kernel
theorem dX1_putCell_1 : decode cX1_putCell 1 = .ok (.iconst 4, 1) := by decide +kernel
theorem dX1_putCell_2 : decode cX1_putCell 2 = .ok (.imul, 1) := by decide +kernel
theorem dX1_putCell_3 : decode cX1_putCell 3 = .ok (.iload_n 2, 1) := by decide +kernel
theorem dX1_putCell_4 : decode cX1_putCell 4 = .ok (.iadd, 1) := by decide +kernel
theorem dX1_putCell_5 : decode cX1_putCell 5 = .ok (.istore 5, 2) := by decide +kernel
theorem dX1_putCell_7 : decode cX1_putCell 7 = .ok (.iload 5, 2) := by decide +kernel
theorem dX1_putCell_9 : decode cX1_putCell 9 = .ok (.ifCond .lt 21, 3) := by decide +kernel
theorem dX1_putCell_12 : decode cX1_putCell 12 = .ok (.iload 5, 2) := by decide +kernel
theorem dX1_putCell_14 : decode cX1_putCell 14 = .ok (.aload_n 0, 1) := by decide +kernel
theorem dX1_putCell_15 : decode cX1_putCell 15 = .ok (.getfield 13, 3) := by decide +kernel
theorem dX1_putCell_18 : decode cX1_putCell 18 = .ok (.arraylength, 1) := by decide +kernel
theorem dX1_putCell_19 : decode cX1_putCell 19 = .ok (.if_icmp .ge 11, 3) := by decide +kernel
theorem dX1_putCell_22 : decode cX1_putCell 22 = .ok (.aload_n 0, 1) := by decide +kernel
theorem dX1_putCell_23 : decode cX1_putCell 23 = .ok (.getfield 13, 3) := by decide +kernel
theorem dX1_putCell_26 : decode cX1_putCell 26 = .ok (.iload 5, 2) := by decide +kernel
theorem dX1_putCell_28 : decode cX1_putCell 28 = .ok (.lload_n 3, 1) := by decide +kernel
theorem dX1_putCell_29 : decode cX1_putCell 29 = .ok (.lastore, 1) := by decide +kernel
theorem dX1_putCell_30 : decode cX1_putCell 30 = .ok (.return_, 1) := by decide +kernel
theorem dX1_insideOf_0 : decode cX1_insideOf 0 = .ok (.iload_n 1, 1) := by decide +kernel
theorem dX1_insideOf_1 : decode cX1_insideOf 1 = .ok (.ifCond .lt 21, 3) := by decide +kernel
theorem dX1_insideOf_4 : decode cX1_insideOf 4 = .ok (.iload_n 1, 1) := by decide +kernel
theorem dX1_insideOf_5 : decode cX1_insideOf 5 = .ok (.aload_n 0, 1) := by decide +kernel
theorem dX1_insideOf_6 : decode cX1_insideOf 6 = .ok (.getfield 17, 3) := by decide +kernel
theorem dX1_insideOf_9 : decode cX1_insideOf 9 = .ok (.arraylength, 1) := by decide +kernel
theorem dX1_insideOf_10 : decode cX1_insideOf 10 = .ok (.if_icmp .ge 12, 3) := by decide +kernel
theorem dX1_insideOf_13 : decode cX1_insideOf 13 = .ok (.aload_n 0, 1) := by decide +kernel
theorem dX1_insideOf_14 : decode cX1_insideOf 14 = .ok (.getfield 17, 3) := by decide +kernel
theorem dX1_insideOf_17 : decode cX1_insideOf 17 = .ok (.iload_n 1, 1) := by decide +kernel
theorem dX1_insideOf_18 : decode cX1_insideOf 18 = .ok (.iaload, 1) := by decide +kernel
theorem dX1_insideOf_19 : decode cX1_insideOf 19 = .ok (.goto 4, 3) := by decide +kernel
theorem dX1_insideOf_22 : decode cX1_insideOf 22 = .ok (.iconst (-1), 1) := by decide +kernel
theorem dX1_insideOf_23 : decode cX1_insideOf 23 = .ok (.ireturn, 1) := by decide +kernel
theorem dX1_outsideOf_0 : decode cX1_outsideOf 0 = .ok (.iload_n 1, 1) := by decide +kernel
theorem dX1_outsideOf_1 : decode cX1_outsideOf 1 = .ok (.ifCond .lt 21, 3) := by decide +kernel
theorem dX1_outsideOf_4 : decode cX1_outsideOf 4 = .ok (.iload_n 1, 1) := by decide +kernel
theorem dX1_outsideOf_5 : decode cX1_outsideOf 5 = .ok (.aload_n 0, 1) := by decide +kernel
theorem dX1_outsideOf_6 : decode cX1_outsideOf 6 = .ok (.getfield 21, 3) := by decide +kernel
theorem dX1_outsideOf_9 : decode cX1_outsideOf 9 = .ok (.arraylength, 1) := by decide +kernel
theorem dX1_outsideOf_10 : decode cX1_outsideOf 10 = .ok (.if_icmp .ge 12, 3) := by decide +kernel
theorem dX1_outsideOf_13 : decode cX1_outsideOf 13 = .ok (.aload_n 0, 1) := by decide +kernel
theorem dX1_outsideOf_14 : decode cX1_outsideOf 14 = .ok (.getfield 21, 3) := by decide +kernel
theorem dX1_outsideOf_17 : decode cX1_outsideOf 17 = .ok (.iload_n 1, 1) := by decide +kernel
theorem dX1_outsideOf_18 : decode cX1_outsideOf 18 = .ok (.iaload, 1) := by decide +kernel
theorem dX1_outsideOf_19 : decode cX1_outsideOf 19 = .ok (.goto 4, 3) := by decide +kernel
theorem dX1_outsideOf_22 : decode cX1_outsideOf 22 = .ok (.iconst (-1), 1) := by decide +kernel
theorem dX1_outsideOf_23 : decode cX1_outsideOf 23 = .ok (.ireturn, 1) := by decide +kernel
theorem dX1_lineOf_0 : decode cX1_lineOf 0 = .ok (.iconst 0, 1) := by decide +kernel
theorem dX1_lineOf_1 : decode cX1_lineOf 1 = .ok (.istore_n 2, 1) := by decide +kernel
theorem dX1_lineOf_2 : decode cX1_lineOf 2 = .ok (.iload_n 2, 1) := by decide +kernel
theorem dX1_lineOf_3 : decode cX1_lineOf 3 = .ok (.aload_n 0, 1) := by decide +kernel
theorem dX1_lineOf_4 : decode cX1_lineOf 4 = .ok (.getfield 32, 3) := by decide +kernel
theorem dX1_lineOf_7 : decode cX1_lineOf 7 = .ok (.if_icmp .ge 30, 3) := by decide +kernel
theorem dX1_lineOf_10 : decode cX1_lineOf 10 = .ok (.iload_n 2, 1) := by decide +kernel
theorem dX1_lineOf_11 : decode cX1_lineOf 11 = .ok (.aload_n 0, 1) := by decide +kernel
theorem dX1_lineOf_12 : decode cX1_lineOf 12 = .ok (.getfield 17, 3) := by decide +kernel
theorem dX1_lineOf_15 : decode cX1_lineOf 15 = .ok (.arraylength, 1) := by decide +kernel
theorem dX1_lineOf_16 : decode cX1_lineOf 16 = .ok (.if_icmp .ge 21, 3) := by decide +kernel
theorem dX1_lineOf_19 : decode cX1_lineOf 19 = .ok (.aload_n 0, 1) := by decide +kernel
theorem dX1_lineOf_20 : decode cX1_lineOf 20 = .ok (.getfield 17, 3) := by decide +kernel
theorem dX1_lineOf_23 : decode cX1_lineOf 23 = .ok (.iload_n 2, 1) := by decide +kernel
theorem dX1_lineOf_24 : decode cX1_lineOf 24 = .ok (.iaload, 1) := by decide +kernel
theorem dX1_lineOf_25 : decode cX1_lineOf 25 = .ok (.iload_n 1, 1) := by decide +kernel
theorem dX1_lineOf_26 : decode cX1_lineOf 26 = .ok (.if_icmp .ne 5, 3) := by decide +kernel
theorem dX1_lineOf_29 : decode cX1_lineOf 29 = .ok (.iload_n 2, 1) := by decide +kernel
theorem dX1_lineOf_30 : decode cX1_lineOf 30 = .ok (.ireturn, 1) := by decide +kernel
theorem dX1_lineOf_31 : decode cX1_lineOf 31 = .ok (.iinc 2 1, 3) := by decide +kernel
theorem dX1_lineOf_34 : decode cX1_lineOf 34 = .ok (.goto (-32), 3) := by decide +kernel
theorem dX1_lineOf_37 : decode cX1_lineOf 37 = .ok (.iconst (-1), 1) := by decide +kernel
theorem dX1_lineOf_38 : decode cX1_lineOf 38 = .ok (.ireturn, 1) := by decide +kernel
theorem dX1_rateOf_0 : decode cX1_rateOf 0 = .ok (.aload_n 0, 1) := by decide +kernel
theorem dX1_rateOf_1 : decode cX1_rateOf 1 = .ok (.iload_n 2, 1) := by decide +kernel
theorem dX1_rateOf_2 : decode cX1_rateOf 2 = .ok (.invokevirtual 83, 3) := by decide +kernel
theorem dX1_rateOf_5 : decode cX1_rateOf 5 = .ok (.iload_n 1, 1) := by decide +kernel
theorem dX1_rateOf_6 : decode cX1_rateOf 6 = .ok (.if_icmp .ne 8, 3) := by decide +kernel
theorem dX1_rateOf_9 : decode cX1_rateOf 9 = .ok (.aload_n 0, 1) := by decide +kernel
theorem dX1_rateOf_10 : decode cX1_rateOf 10 = .ok (.getfield 24, 3) := by decide +kernel
theorem dX1_rateOf_13 : decode cX1_rateOf 13 = .ok (.lreturn, 1) := by decide +kernel
theorem dX1_rateOf_14 : decode cX1_rateOf 14 = .ok (.aload_n 0, 1) := by decide +kernel
theorem dX1_rateOf_15 : decode cX1_rateOf 15 = .ok (.iload_n 1, 1) := by decide +kernel
theorem dX1_rateOf_16 : decode cX1_rateOf 16 = .ok (.invokevirtual 86, 3) := by decide +kernel
theorem dX1_rateOf_19 : decode cX1_rateOf 19 = .ok (.istore_n 3, 1) := by decide +kernel
theorem dX1_rateOf_20 : decode cX1_rateOf 20 = .ok (.iload_n 3, 1) := by decide +kernel
theorem dX1_rateOf_21 : decode cX1_rateOf 21 = .ok (.iconst (-1), 1) := by decide +kernel
theorem dX1_rateOf_22 : decode cX1_rateOf 22 = .ok (.if_icmp .ne 7, 3) := by decide +kernel
theorem dX1_rateOf_25 : decode cX1_rateOf 25 = .ok (.lconst 0, 1) := by decide +kernel
theorem dX1_rateOf_26 : decode cX1_rateOf 26 = .ok (.goto 9, 3) := by decide +kernel
theorem dX1_rateOf_29 : decode cX1_rateOf 29 = .ok (.aload_n 0, 1) := by decide +kernel
theorem dX1_rateOf_30 : decode cX1_rateOf 30 = .ok (.iload_n 3, 1) := by decide +kernel
theorem dX1_rateOf_31 : decode cX1_rateOf 31 = .ok (.iload_n 2, 1) := by decide +kernel
theorem dX1_rateOf_32 : decode cX1_rateOf 32 = .ok (.invokevirtual 89, 3) := by decide +kernel
theorem dX1_rateOf_35 : decode cX1_rateOf 35 = .ok (.lreturn, 1) := by decide +kernel
theorem dX1_slackOf_0 : decode cX1_slackOf 0 = .ok (.aload_n 0, 1) := by decide +kernel
theorem dX1_slackOf_1 : decode cX1_slackOf 1 = .ok (.iload_n 1, 1) := by decide +kernel
theorem dX1_slackOf_2 : decode cX1_slackOf 2 = .ok (.invokevirtual 86, 3) := by decide +kernel
theorem dX1_slackOf_5 : decode cX1_slackOf 5 = .ok (.istore_n 2, 1) := by decide +kernel
theorem dX1_slackOf_6 : decode cX1_slackOf 6 = .ok (.iload_n 2, 1) := by decide +kernel
theorem dX1_slackOf_7 : decode cX1_slackOf 7 = .ok (.iconst (-1), 1) := by decide +kernel
theorem dX1_slackOf_8 : decode cX1_slackOf 8 = .ok (.if_icmp .ne 7, 3) := by decide +kernel
theorem dX1_slackOf_11 : decode cX1_slackOf 11 = .ok (.lconst 0, 1) := by decide +kernel
theorem dX1_slackOf_12 : decode cX1_slackOf 12 = .ok (.goto 9, 3) := by decide +kernel
theorem dX1_slackOf_15 : decode cX1_slackOf 15 = .ok (.aload_n 0, 1) := by decide +kernel
theorem dX1_slackOf_16 : decode cX1_slackOf 16 = .ok (.iload_n 2, 1) := by decide +kernel
theorem dX1_slackOf_17 : decode cX1_slackOf 17 = .ok (.iconst 3, 1) := by decide +kernel
theorem dX1_slackOf_18 : decode cX1_slackOf 18 = .ok (.invokevirtual 89, 3) := by decide +kernel
theorem dX1_slackOf_21 : decode cX1_slackOf 21 = .ok (.lreturn, 1) := by decide +kernel
theorem dX1_swap_0 : decode cX1_swap 0 = .ok (.aload_n 0, 1) := by decide +kernel
theorem dX1_swap_1 : decode cX1_swap 1 = .ok (.iload_n 1, 1) := by decide +kernel
theorem dX1_swap_2 : decode cX1_swap 2 = .ok (.iload_n 2, 1) := by decide +kernel
theorem dX1_swap_3 : decode cX1_swap 3 = .ok (.invokevirtual 89, 3) := by decide +kernel
theorem dX1_swap_6 : decode cX1_swap 6 = .ok (.lstore_n 3, 1) := by decide +kernel
theorem dX1_swap_7 : decode cX1_swap 7 = .ok (.lload_n 3, 1) := by decide +kernel
theorem dX1_swap_8 : decode cX1_swap 8 = .ok (.lconst 0, 1) := by decide +kernel
theorem dX1_swap_9 : decode cX1_swap 9 = .ok (.lcmp, 1) := by decide +kernel
theorem dX1_swap_10 : decode cX1_swap 10 = .ok (.ifCond .eq 29, 3) := by decide +kernel
theorem dX1_swap_13 : decode cX1_swap 13 = .ok (.iload_n 1, 1) := by decide +kernel
theorem dX1_swap_14 : decode cX1_swap 14 = .ok (.ifCond .lt 25, 3) := by decide +kernel
theorem dX1_swap_17 : decode cX1_swap 17 = .ok (.iload_n 1, 1) := by decide +kernel
theorem dX1_swap_18 : decode cX1_swap 18 = .ok (.aload_n 0, 1) := by decide +kernel
theorem dX1_swap_19 : decode cX1_swap 19 = .ok (.getfield 17, 3) := by decide +kernel
theorem dX1_swap_22 : decode cX1_swap 22 = .ok (.arraylength, 1) := by decide +kernel
theorem dX1_swap_23 : decode cX1_swap 23 = .ok (.if_icmp .ge 16, 3) := by decide +kernel
theorem dX1_swap_26 : decode cX1_swap 26 = .ok (.iload_n 2, 1) := by decide +kernel
theorem dX1_swap_27 : decode cX1_swap 27 = .ok (.ifCond .lt 12, 3) := by decide +kernel
theorem dX1_swap_30 : decode cX1_swap 30 = .ok (.iload_n 2, 1) := by decide +kernel
theorem dX1_swap_31 : decode cX1_swap 31 = .ok (.aload_n 0, 1) := by decide +kernel
theorem dX1_swap_32 : decode cX1_swap 32 = .ok (.getfield 21, 3) := by decide +kernel
theorem dX1_swap_35 : decode cX1_swap 35 = .ok (.arraylength, 1) := by decide +kernel
theorem dX1_swap_36 : decode cX1_swap 36 = .ok (.if_icmp .lt 4, 3) := by decide +kernel
theorem dX1_swap_39 : decode cX1_swap 39 = .ok (.return_, 1) := by decide +kernel
theorem dX1_swap_40 : decode cX1_swap 40 = .ok (.iconst 0, 1) := by decide +kernel
theorem dX1_swap_41 : decode cX1_swap 41 = .ok (.istore 5, 2) := by decide +kernel
theorem dX1_swap_43 : decode cX1_swap 43 = .ok (.iload 5, 2) := by decide +kernel
theorem dX1_swap_45 : decode cX1_swap 45 = .ok (.aload_n 0, 1) := by decide +kernel
theorem dX1_swap_46 : decode cX1_swap 46 = .ok (.getfield 32, 3) := by decide +kernel
theorem dX1_swap_49 : decode cX1_swap 49 = .ok (.if_icmp .ge 23, 3) := by decide +kernel
theorem dX1_swap_52 : decode cX1_swap 52 = .ok (.iload 5, 2) := by decide +kernel
theorem dX1_swap_54 : decode cX1_swap 54 = .ok (.iload_n 1, 1) := by decide +kernel
theorem dX1_swap_55 : decode cX1_swap 55 = .ok (.if_icmp .eq 11, 3) := by decide +kernel
theorem dX1_swap_58 : decode cX1_swap 58 = .ok (.aload_n 0, 1) := by decide +kernel
theorem dX1_swap_59 : decode cX1_swap 59 = .ok (.iload 5, 2) := by decide +kernel
theorem dX1_swap_61 : decode cX1_swap 61 = .ok (.iload_n 1, 1) := by decide +kernel
theorem dX1_swap_62 : decode cX1_swap 62 = .ok (.iload_n 2, 1) := by decide +kernel
theorem dX1_swap_63 : decode cX1_swap 63 = .ok (.invokevirtual 92, 3) := by decide +kernel
theorem dX1_swap_66 : decode cX1_swap 66 = .ok (.iinc 5 1, 3) := by decide +kernel
theorem dX1_swap_69 : decode cX1_swap 69 = .ok (.goto (-26), 3) := by decide +kernel
theorem dX1_swap_72 : decode cX1_swap 72 = .ok (.iconst 0, 1) := by decide +kernel
theorem dX1_swap_73 : decode cX1_swap 73 = .ok (.istore 5, 2) := by decide +kernel
theorem dX1_swap_75 : decode cX1_swap 75 = .ok (.iload 5, 2) := by decide +kernel
theorem dX1_swap_77 : decode cX1_swap 77 = .ok (.bipush 6, 2) := by decide +kernel
theorem dX1_swap_79 : decode cX1_swap 79 = .ok (.if_icmp .ge 20, 3) := by decide +kernel
theorem dX1_swap_82 : decode cX1_swap 82 = .ok (.aload_n 0, 1) := by decide +kernel
theorem dX1_swap_83 : decode cX1_swap 83 = .ok (.bipush 15, 2) := by decide +kernel
theorem dX1_swap_85 : decode cX1_swap 85 = .ok (.iload 5, 2) := by decide +kernel
theorem dX1_swap_87 : decode cX1_swap 87 = .ok (.iadd, 1) := by decide +kernel
theorem dX1_swap_88 : decode cX1_swap 88 = .ok (.iload_n 1, 1) := by decide +kernel
theorem dX1_swap_89 : decode cX1_swap 89 = .ok (.iload_n 2, 1) := by decide +kernel
theorem dX1_swap_90 : decode cX1_swap 90 = .ok (.invokevirtual 92, 3) := by decide +kernel
theorem dX1_swap_93 : decode cX1_swap 93 = .ok (.iinc 5 1, 3) := by decide +kernel
theorem dX1_swap_96 : decode cX1_swap 96 = .ok (.goto (-21), 3) := by decide +kernel
theorem dX1_swap_99 : decode cX1_swap 99 = .ok (.lload_n 3, 1) := by decide +kernel
theorem dX1_swap_100 : decode cX1_swap 100 = .ok (.lconst 0, 1) := by decide +kernel
theorem dX1_swap_101 : decode cX1_swap 101 = .ok (.lcmp, 1) := by decide +kernel
theorem dX1_swap_102 : decode cX1_swap 102 = .ok (.ifCond .ge 7, 3) := by decide +kernel
theorem dX1_swap_105 : decode cX1_swap 105 = .ok (.iconst (-1), 1) := by decide +kernel
theorem dX1_swap_106 : decode cX1_swap 106 = .ok (.goto 4, 3) := by decide +kernel
theorem dX1_swap_109 : decode cX1_swap 109 = .ok (.iconst 1, 1) := by decide +kernel
theorem dX1_swap_110 : decode cX1_swap 110 = .ok (.istore 5, 2) := by decide +kernel
theorem dX1_swap_112 : decode cX1_swap 112 = .ok (.iconst 0, 1) := by decide +kernel
theorem dX1_swap_113 : decode cX1_swap 113 = .ok (.istore 6, 2) := by decide +kernel
theorem dX1_swap_115 : decode cX1_swap 115 = .ok (.iload 6, 2) := by decide +kernel
theorem dX1_swap_117 : decode cX1_swap 117 = .ok (.iconst 4, 1) := by decide +kernel
theorem dX1_swap_118 : decode cX1_swap 118 = .ok (.if_icmp .ge 45, 3) := by decide +kernel
theorem dX1_swap_121 : decode cX1_swap 121 = .ok (.aload_n 0, 1) := by decide +kernel
theorem dX1_swap_122 : decode cX1_swap 122 = .ok (.iload_n 1, 1) := by decide +kernel
theorem dX1_swap_123 : decode cX1_swap 123 = .ok (.iload 6, 2) := by decide +kernel
theorem dX1_swap_125 : decode cX1_swap 125 = .ok (.iload 6, 2) := by decide +kernel
theorem dX1_swap_127 : decode cX1_swap 127 = .ok (.iload_n 2, 1) := by decide +kernel
theorem dX1_swap_128 : decode cX1_swap 128 = .ok (.if_icmp .ne 14, 3) := by decide +kernel
theorem dX1_swap_131 : decode cX1_swap 131 = .ok (.iload 5, 2) := by decide +kernel
theorem dX1_swap_133 : decode cX1_swap 133 = .ok (.i2l, 1) := by decide +kernel
theorem dX1_swap_134 : decode cX1_swap 134 = .ok (.aload_n 0, 1) := by decide +kernel
theorem dX1_swap_135 : decode cX1_swap 135 = .ok (.getfield 24, 3) := by decide +kernel
theorem dX1_swap_138 : decode cX1_swap 138 = .ok (.lmul, 1) := by decide +kernel
theorem dX1_swap_139 : decode cX1_swap 139 = .ok (.goto 15, 3) := by decide +kernel
theorem dX1_swap_142 : decode cX1_swap 142 = .ok (.iload 5, 2) := by decide +kernel
theorem dX1_swap_144 : decode cX1_swap 144 = .ok (.ineg, 1) := by decide +kernel
theorem dX1_swap_145 : decode cX1_swap 145 = .ok (.i2l, 1) := by decide +kernel
theorem dX1_swap_146 : decode cX1_swap 146 = .ok (.aload_n 0, 1) := by decide +kernel
theorem dX1_swap_147 : decode cX1_swap 147 = .ok (.iload_n 1, 1) := by decide +kernel
theorem dX1_swap_148 : decode cX1_swap 148 = .ok (.iload 6, 2) := by decide +kernel
theorem dX1_swap_150 : decode cX1_swap 150 = .ok (.invokevirtual 89, 3) := by decide +kernel
theorem dX1_swap_153 : decode cX1_swap 153 = .ok (.lmul, 1) := by decide +kernel
theorem dX1_swap_154 : decode cX1_swap 154 = .ok (.invokevirtual 55, 3) := by decide +kernel
theorem dX1_swap_157 : decode cX1_swap 157 = .ok (.iinc 6 1, 3) := by decide +kernel
theorem dX1_swap_160 : decode cX1_swap 160 = .ok (.goto (-45), 3) := by decide +kernel
theorem dX1_swap_163 : decode cX1_swap 163 = .ok (.aload_n 0, 1) := by decide +kernel
theorem dX1_swap_164 : decode cX1_swap 164 = .ok (.iload 5, 2) := by decide +kernel
theorem dX1_swap_166 : decode cX1_swap 166 = .ok (.i2l, 1) := by decide +kernel
theorem dX1_swap_167 : decode cX1_swap 167 = .ok (.lload_n 3, 1) := by decide +kernel
theorem dX1_swap_168 : decode cX1_swap 168 = .ok (.lmul, 1) := by decide +kernel
theorem dX1_swap_169 : decode cX1_swap 169 = .ok (.putfield 24, 3) := by decide +kernel
theorem dX1_swap_172 : decode cX1_swap 172 = .ok (.aload_n 0, 1) := by decide +kernel
theorem dX1_swap_173 : decode cX1_swap 173 = .ok (.getfield 17, 3) := by decide +kernel
theorem dX1_swap_176 : decode cX1_swap 176 = .ok (.iload_n 1, 1) := by decide +kernel
theorem dX1_swap_177 : decode cX1_swap 177 = .ok (.iaload, 1) := by decide +kernel
theorem dX1_swap_178 : decode cX1_swap 178 = .ok (.istore 6, 2) := by decide +kernel
theorem dX1_swap_180 : decode cX1_swap 180 = .ok (.aload_n 0, 1) := by decide +kernel
theorem dX1_swap_181 : decode cX1_swap 181 = .ok (.getfield 17, 3) := by decide +kernel
theorem dX1_swap_184 : decode cX1_swap 184 = .ok (.iload_n 1, 1) := by decide +kernel
theorem dX1_swap_185 : decode cX1_swap 185 = .ok (.aload_n 0, 1) := by decide +kernel
theorem dX1_swap_186 : decode cX1_swap 186 = .ok (.getfield 21, 3) := by decide +kernel
theorem dX1_swap_189 : decode cX1_swap 189 = .ok (.iload_n 2, 1) := by decide +kernel
theorem dX1_swap_190 : decode cX1_swap 190 = .ok (.iaload, 1) := by decide +kernel
theorem dX1_swap_191 : decode cX1_swap 191 = .ok (.iastore, 1) := by decide +kernel
theorem dX1_swap_192 : decode cX1_swap 192 = .ok (.aload_n 0, 1) := by decide +kernel
theorem dX1_swap_193 : decode cX1_swap 193 = .ok (.getfield 21, 3) := by decide +kernel
theorem dX1_swap_196 : decode cX1_swap 196 = .ok (.iload_n 2, 1) := by decide +kernel
theorem dX1_swap_197 : decode cX1_swap 197 = .ok (.iload 6, 2) := by decide +kernel
theorem dX1_swap_199 : decode cX1_swap 199 = .ok (.iastore, 1) := by decide +kernel
theorem dX1_swap_200 : decode cX1_swap 200 = .ok (.return_, 1) := by decide +kernel
theorem dX1_clear_0 : decode cX1_clear 0 = .ok (.aload_n 0, 1) := by decide +kernel
theorem dX1_clear_1 : decode cX1_clear 1 = .ok (.iload_n 2, 1) := by decide +kernel
theorem dX1_clear_2 : decode cX1_clear 2 = .ok (.iload_n 3, 1) := by decide +kernel
theorem dX1_clear_3 : decode cX1_clear 3 = .ok (.invokevirtual 89, 3) := by decide +kernel
theorem dX1_clear_6 : decode cX1_clear 6 = .ok (.lstore 4, 2) := by decide +kernel
theorem dX1_clear_8 : decode cX1_clear 8 = .ok (.aload_n 0, 1) := by decide +kernel
theorem dX1_clear_9 : decode cX1_clear 9 = .ok (.iload_n 1, 1) := by decide +kernel
theorem dX1_clear_10 : decode cX1_clear 10 = .ok (.iload_n 3, 1) := by decide +kernel
theorem dX1_clear_11 : decode cX1_clear 11 = .ok (.invokevirtual 89, 3) := by decide +kernel
theorem dX1_clear_14 : decode cX1_clear 14 = .ok (.lstore 6, 2) := by decide +kernel
theorem dX1_clear_16 : decode cX1_clear 16 = .ok (.lload 4, 2) := by decide +kernel
theorem dX1_clear_18 : decode cX1_clear 18 = .ok (.lconst 0, 1) := by decide +kernel
theorem dX1_clear_19 : decode cX1_clear 19 = .ok (.lcmp, 1) := by decide +kernel
theorem dX1_clear_20 : decode cX1_clear 20 = .ok (.ifCond .ge 7, 3) := by decide +kernel
theorem dX1_clear_23 : decode cX1_clear 23 = .ok (.iconst (-1), 1) := by decide +kernel
theorem dX1_clear_24 : decode cX1_clear 24 = .ok (.goto 4, 3) := by decide +kernel
theorem dX1_clear_27 : decode cX1_clear 27 = .ok (.iconst 1, 1) := by decide +kernel
theorem dX1_clear_28 : decode cX1_clear 28 = .ok (.istore 8, 2) := by decide +kernel
theorem dX1_clear_30 : decode cX1_clear 30 = .ok (.iconst 0, 1) := by decide +kernel
theorem dX1_clear_31 : decode cX1_clear 31 = .ok (.istore 9, 2) := by decide +kernel
theorem dX1_clear_33 : decode cX1_clear 33 = .ok (.iload 9, 2) := by decide +kernel
theorem dX1_clear_35 : decode cX1_clear 35 = .ok (.iconst 4, 1) := by decide +kernel
theorem dX1_clear_36 : decode cX1_clear 36 = .ok (.if_icmp .ge 65, 3) := by decide +kernel
theorem dX1_clear_39 : decode cX1_clear 39 = .ok (.iload 9, 2) := by decide +kernel
theorem dX1_clear_41 : decode cX1_clear 41 = .ok (.iload_n 3, 1) := by decide +kernel
theorem dX1_clear_42 : decode cX1_clear 42 = .ok (.if_icmp .eq 53, 3) := by decide +kernel
theorem dX1_clear_45 : decode cX1_clear 45 = .ok (.aload_n 0, 1) := by decide +kernel
theorem dX1_clear_46 : decode cX1_clear 46 = .ok (.getfield 24, 3) := by decide +kernel
theorem dX1_clear_49 : decode cX1_clear 49 = .ok (.lconst 0, 1) := by decide +kernel
theorem dX1_clear_50 : decode cX1_clear 50 = .ok (.lcmp, 1) := by decide +kernel
theorem dX1_clear_51 : decode cX1_clear 51 = .ok (.ifCond .eq 44, 3) := by decide +kernel
theorem dX1_clear_54 : decode cX1_clear 54 = .ok (.lload 4, 2) := by decide +kernel
theorem dX1_clear_56 : decode cX1_clear 56 = .ok (.aload_n 0, 1) := by decide +kernel
theorem dX1_clear_57 : decode cX1_clear 57 = .ok (.iload_n 1, 1) := by decide +kernel
theorem dX1_clear_58 : decode cX1_clear 58 = .ok (.iload 9, 2) := by decide +kernel
theorem dX1_clear_60 : decode cX1_clear 60 = .ok (.invokevirtual 89, 3) := by decide +kernel
theorem dX1_clear_63 : decode cX1_clear 63 = .ok (.lmul, 1) := by decide +kernel
theorem dX1_clear_64 : decode cX1_clear 64 = .ok (.lload 6, 2) := by decide +kernel
theorem dX1_clear_66 : decode cX1_clear 66 = .ok (.aload_n 0, 1) := by decide +kernel
theorem dX1_clear_67 : decode cX1_clear 67 = .ok (.iload_n 2, 1) := by decide +kernel
theorem dX1_clear_68 : decode cX1_clear 68 = .ok (.iload 9, 2) := by decide +kernel
theorem dX1_clear_70 : decode cX1_clear 70 = .ok (.invokevirtual 89, 3) := by decide +kernel
theorem dX1_clear_73 : decode cX1_clear 73 = .ok (.lmul, 1) := by decide +kernel
theorem dX1_clear_74 : decode cX1_clear 74 = .ok (.lsub, 1) := by decide +kernel
theorem dX1_clear_75 : decode cX1_clear 75 = .ok (.lstore 10, 2) := by decide +kernel
theorem dX1_clear_77 : decode cX1_clear 77 = .ok (.aload_n 0, 1) := by decide +kernel
theorem dX1_clear_78 : decode cX1_clear 78 = .ok (.iload_n 1, 1) := by decide +kernel
theorem dX1_clear_79 : decode cX1_clear 79 = .ok (.iload 9, 2) := by decide +kernel
theorem dX1_clear_81 : decode cX1_clear 81 = .ok (.iload 8, 2) := by decide +kernel
theorem dX1_clear_83 : decode cX1_clear 83 = .ok (.i2l, 1) := by decide +kernel
theorem dX1_clear_84 : decode cX1_clear 84 = .ok (.lload 10, 2) := by decide +kernel
theorem dX1_clear_86 : decode cX1_clear 86 = .ok (.lmul, 1) := by decide +kernel
theorem dX1_clear_87 : decode cX1_clear 87 = .ok (.aload_n 0, 1) := by decide +kernel
theorem dX1_clear_88 : decode cX1_clear 88 = .ok (.getfield 24, 3) := by decide +kernel
theorem dX1_clear_91 : decode cX1_clear 91 = .ok (.ldiv, 1) := by decide +kernel
theorem dX1_clear_92 : decode cX1_clear 92 = .ok (.invokevirtual 55, 3) := by decide +kernel
theorem dX1_clear_95 : decode cX1_clear 95 = .ok (.iinc 9 1, 3) := by decide +kernel
theorem dX1_clear_98 : decode cX1_clear 98 = .ok (.goto (-65), 3) := by decide +kernel
theorem dX1_clear_101 : decode cX1_clear 101 = .ok (.aload_n 0, 1) := by decide +kernel
theorem dX1_clear_102 : decode cX1_clear 102 = .ok (.iload_n 1, 1) := by decide +kernel
theorem dX1_clear_103 : decode cX1_clear 103 = .ok (.iload_n 3, 1) := by decide +kernel
theorem dX1_clear_104 : decode cX1_clear 104 = .ok (.iload 8, 2) := by decide +kernel
theorem dX1_clear_106 : decode cX1_clear 106 = .ok (.i2l, 1) := by decide +kernel
theorem dX1_clear_107 : decode cX1_clear 107 = .ok (.lload 6, 2) := by decide +kernel
theorem dX1_clear_109 : decode cX1_clear 109 = .ok (.lmul, 1) := by decide +kernel
theorem dX1_clear_110 : decode cX1_clear 110 = .ok (.invokevirtual 55, 3) := by decide +kernel
theorem dX1_clear_113 : decode cX1_clear 113 = .ok (.return_, 1) := by decide +kernel
theorem dX2_init_0 : decode cX2_init 0 = .ok (.aload_n 0, 1) := by decide +kernel
theorem dX2_init_1 : decode cX2_init 1 = .ok (.invokespecial 1, 3) := by decide +kernel
theorem dX2_init_4 : decode cX2_init 4 = .ok (.aload_n 0, 1) := by decide +kernel
theorem dX2_init_5 : decode cX2_init 5 = .ok (.lconst 1, 1) := by decide +kernel
theorem dX2_init_6 : decode cX2_init 6 = .ok (.putfield 7, 3) := by decide +kernel
theorem dX2_init_9 : decode cX2_init 9 = .ok (.return_, 1) := by decide +kernel
theorem dX2_put_0 : decode cX2_put 0 = .ok (.lload_n 1, 1) := by decide +kernel
theorem dX2_put_1 : decode cX2_put 1 = .ok (.lconst 0, 1) := by decide +kernel
theorem dX2_put_2 : decode cX2_put 2 = .ok (.lcmp, 1) := by decide +kernel
theorem dX2_put_3 : decode cX2_put 3 = .ok (.ifCond .ge 8, 3) := by decide +kernel
theorem dX2_put_6 : decode cX2_put 6 = .ok (.lload_n 1, 1) := by decide +kernel
theorem dX2_put_7 : decode cX2_put 7 = .ok (.lneg, 1) := by decide +kernel
theorem dX2_put_8 : decode cX2_put 8 = .ok (.goto 4, 3) := by decide +kernel
theorem dX2_put_11 : decode cX2_put 11 = .ok (.lload_n 1, 1) := by decide +kernel
theorem dX2_put_12 : decode cX2_put 12 = .ok (.lload_n 3, 1) := by decide +kernel
theorem dX2_put_13 : decode cX2_put 13 = .ok (.invokestatic 13, 3) := by decide +kernel
theorem dX2_put_16 : decode cX2_put 16 = .ok (.lstore 5, 2) := by decide +kernel
theorem dX2_put_18 : decode cX2_put 18 = .ok (.aload_n 0, 1) := by decide +kernel
theorem dX2_put_19 : decode cX2_put 19 = .ok (.lload 5, 2) := by decide +kernel
theorem dX2_put_21 : decode cX2_put 21 = .ok (.lconst 1, 1) := by decide +kernel
theorem dX2_put_22 : decode cX2_put 22 = .ok (.lcmp, 1) := by decide +kernel
theorem dX2_put_23 : decode cX2_put 23 = .ok (.ifCond .le 10, 3) := by decide +kernel
theorem dX2_put_26 : decode cX2_put 26 = .ok (.lload_n 1, 1) := by decide +kernel
theorem dX2_put_27 : decode cX2_put 27 = .ok (.lload 5, 2) := by decide +kernel
theorem dX2_put_29 : decode cX2_put 29 = .ok (.ldiv, 1) := by decide +kernel
theorem dX2_put_30 : decode cX2_put 30 = .ok (.goto 4, 3) := by decide +kernel
theorem dX2_put_33 : decode cX2_put 33 = .ok (.lload_n 1, 1) := by decide +kernel
theorem dX2_put_34 : decode cX2_put 34 = .ok (.putfield 17, 3) := by decide +kernel
theorem dX2_put_37 : decode cX2_put 37 = .ok (.aload_n 0, 1) := by decide +kernel
theorem dX2_put_38 : decode cX2_put 38 = .ok (.lload 5, 2) := by decide +kernel
theorem dX2_put_40 : decode cX2_put 40 = .ok (.lconst 1, 1) := by decide +kernel
theorem dX2_put_41 : decode cX2_put 41 = .ok (.lcmp, 1) := by decide +kernel
theorem dX2_put_42 : decode cX2_put 42 = .ok (.ifCond .le 10, 3) := by decide +kernel
theorem dX2_put_45 : decode cX2_put 45 = .ok (.lload_n 3, 1) := by decide +kernel
theorem dX2_put_46 : decode cX2_put 46 = .ok (.lload 5, 2) := by decide +kernel
theorem dX2_put_48 : decode cX2_put 48 = .ok (.ldiv, 1) := by decide +kernel
theorem dX2_put_49 : decode cX2_put 49 = .ok (.goto 4, 3) := by decide +kernel
theorem dX2_put_52 : decode cX2_put 52 = .ok (.lload_n 3, 1) := by decide +kernel
theorem dX2_put_53 : decode cX2_put 53 = .ok (.putfield 7, 3) := by decide +kernel
theorem dX2_put_56 : decode cX2_put 56 = .ok (.return_, 1) := by decide +kernel
theorem dX2_commonDivisor_0 : decode cX2_commonDivisor 0 = .ok (.lload_n 0, 1) := by decide +kernel
theorem dX2_commonDivisor_1 : decode cX2_commonDivisor 1 = .ok (.lstore 4, 2) := by decide +kernel
theorem dX2_commonDivisor_3 : decode cX2_commonDivisor 3 = .ok (.lload_n 2, 1) := by decide +kernel
theorem dX2_commonDivisor_4 : decode cX2_commonDivisor 4 = .ok (.lstore 6, 2) := by decide +kernel
theorem dX2_commonDivisor_6 : decode cX2_commonDivisor 6 = .ok (.iconst 0, 1) := by decide +kernel
theorem dX2_commonDivisor_7 : decode cX2_commonDivisor 7 = .ok (.istore 8, 2) := by decide +kernel
theorem dX2_commonDivisor_9 : decode cX2_commonDivisor 9 = .ok (.iload 8, 2) := by decide +kernel
theorem dX2_commonDivisor_11 : decode cX2_commonDivisor 11 = .ok (.sipush 200, 3) := by decide +kernel
theorem dX2_commonDivisor_14 : decode cX2_commonDivisor 14 = .ok (.if_icmp .ge 31, 3) := by decide +kernel
theorem dX2_commonDivisor_17 : decode cX2_commonDivisor 17 = .ok (.lload 6, 2) := by decide +kernel
theorem dX2_commonDivisor_19 : decode cX2_commonDivisor 19 = .ok (.lconst 0, 1) := by decide +kernel
theorem dX2_commonDivisor_20 : decode cX2_commonDivisor 20 = .ok (.lcmp, 1) := by decide +kernel
theorem dX2_commonDivisor_21 : decode cX2_commonDivisor 21 = .ok (.ifCond .eq 24, 3) := by decide +kernel
theorem dX2_commonDivisor_24 : decode cX2_commonDivisor 24 = .ok (.lload 4, 2) := by decide +kernel
theorem dX2_commonDivisor_26 : decode cX2_commonDivisor 26 = .ok (.lload 6, 2) := by decide +kernel
theorem dX2_commonDivisor_28 : decode cX2_commonDivisor 28 = .ok (.lrem, 1) := by decide +kernel
theorem dX2_commonDivisor_29 : decode cX2_commonDivisor 29 = .ok (.lstore 9, 2) := by decide +kernel
theorem dX2_commonDivisor_31 : decode cX2_commonDivisor 31 = .ok (.lload 6, 2) := by decide +kernel
theorem dX2_commonDivisor_33 : decode cX2_commonDivisor 33 = .ok (.lstore 4, 2) := by decide +kernel
theorem dX2_commonDivisor_35 : decode cX2_commonDivisor 35 = .ok (.lload 9, 2) := by decide +kernel
theorem dX2_commonDivisor_37 : decode cX2_commonDivisor 37 = .ok (.lstore 6, 2) := by decide +kernel
theorem dX2_commonDivisor_39 : decode cX2_commonDivisor 39 = .ok (.iinc 8 1, 3) := by decide +kernel
theorem dX2_commonDivisor_42 : decode cX2_commonDivisor 42 = .ok (.goto (-33), 3) := by decide +kernel
theorem dX2_commonDivisor_45 : decode cX2_commonDivisor 45 = .ok (.lload 4, 2) := by decide +kernel
theorem dX2_commonDivisor_47 : decode cX2_commonDivisor 47 = .ok (.lreturn, 1) := by decide +kernel
theorem dX3_init_0 : decode cX3_init 0 = .ok (.aload_n 0, 1) := by decide +kernel
theorem dX3_init_1 : decode cX3_init 1 = .ok (.invokespecial 3, 3) := by decide +kernel
theorem dX3_init_4 : decode cX3_init 4 = .ok (.aload_n 0, 1) := by decide +kernel
theorem dX3_init_5 : decode cX3_init 5 = .ok (.bipush 30, 2) := by decide +kernel
theorem dX3_init_7 : decode cX3_init 7 = .ok (.newarray .char, 2) := by decide +kernel
theorem dX3_init_9 : decode cX3_init 9 = .ok (.putfield 9, 3) := by decide +kernel
theorem dX3_init_12 : decode cX3_init 12 = .ok (.return_, 1) := by decide +kernel
theorem dX3_characterAt_0 : decode cX3_characterAt 0 = .ok (.iload_n 1, 1) := by decide +kernel
theorem dX3_characterAt_1 : decode cX3_characterAt 1 = .ok (.ifCond .lt 21, 3) := by decide +kernel
theorem dX3_characterAt_4 : decode cX3_characterAt 4 = .ok (.iload_n 1, 1) := by decide +kernel
theorem dX3_characterAt_5 : decode cX3_characterAt 5 = .ok (.aload_n 0, 1) := by decide +kernel
theorem dX3_characterAt_6 : decode cX3_characterAt 6 = .ok (.getfield 9, 3) := by decide +kernel
theorem dX3_characterAt_9 : decode cX3_characterAt 9 = .ok (.arraylength, 1) := by decide +kernel
theorem dX3_characterAt_10 : decode cX3_characterAt 10 = .ok (.if_icmp .ge 12, 3) := by decide +kernel
theorem dX3_characterAt_13 : decode cX3_characterAt 13 = .ok (.aload_n 0, 1) := by decide +kernel
theorem dX3_characterAt_14 : decode cX3_characterAt 14 = .ok (.getfield 9, 3) := by decide +kernel
theorem dX3_characterAt_17 : decode cX3_characterAt 17 = .ok (.iload_n 1, 1) := by decide +kernel
theorem dX3_characterAt_18 : decode cX3_characterAt 18 = .ok (.caload, 1) := by decide +kernel
theorem dX3_characterAt_19 : decode cX3_characterAt 19 = .ok (.goto 5, 3) := by decide +kernel
theorem dX3_characterAt_22 : decode cX3_characterAt 22 = .ok (.bipush 45, 2) := by decide +kernel
theorem dX3_characterAt_24 : decode cX3_characterAt 24 = .ok (.ireturn, 1) := by decide +kernel
theorem dX3_write_0 : decode cX3_write 0 = .ok (.aload_n 0, 1) := by decide +kernel
theorem dX3_write_1 : decode cX3_write 1 = .ok (.iconst 0, 1) := by decide +kernel
theorem dX3_write_2 : decode cX3_write 2 = .ok (.putfield 15, 3) := by decide +kernel
theorem dX3_write_5 : decode cX3_write 5 = .ok (.iconst 0, 1) := by decide +kernel
theorem dX3_write_6 : decode cX3_write 6 = .ok (.istore_n 3, 1) := by decide +kernel
theorem dX3_write_7 : decode cX3_write 7 = .ok (.iload_n 3, 1) := by decide +kernel
theorem dX3_write_8 : decode cX3_write 8 = .ok (.aload_n 1, 1) := by decide +kernel
theorem dX3_write_9 : decode cX3_write 9 = .ok (.getfield 19, 3) := by decide +kernel
theorem dX3_write_12 : decode cX3_write 12 = .ok (.if_icmp .ge 20, 3) := by decide +kernel
theorem dX3_write_15 : decode cX3_write 15 = .ok (.aload_n 0, 1) := by decide +kernel
theorem dX3_write_16 : decode cX3_write 16 = .ok (.aload_n 1, 1) := by decide +kernel
theorem dX3_write_17 : decode cX3_write 17 = .ok (.iload_n 2, 1) := by decide +kernel
theorem dX3_write_18 : decode cX3_write 18 = .ok (.iload_n 3, 1) := by decide +kernel
theorem dX3_write_19 : decode cX3_write 19 = .ok (.invokevirtual 24, 3) := by decide +kernel
theorem dX3_write_22 : decode cX3_write 22 = .ok (.iload_n 3, 1) := by decide +kernel
theorem dX3_write_23 : decode cX3_write 23 = .ok (.invokevirtual 28, 3) := by decide +kernel
theorem dX3_write_26 : decode cX3_write 26 = .ok (.iinc 3 1, 3) := by decide +kernel
theorem dX3_write_29 : decode cX3_write 29 = .ok (.goto (-22), 3) := by decide +kernel
theorem dX3_write_32 : decode cX3_write 32 = .ok (.aload_n 0, 1) := by decide +kernel
theorem dX3_write_33 : decode cX3_write 33 = .ok (.getfield 15, 3) := by decide +kernel
theorem dX3_write_36 : decode cX3_write 36 = .ok (.ifCond .ne 9, 3) := by decide +kernel
theorem dX3_write_39 : decode cX3_write 39 = .ok (.aload_n 0, 1) := by decide +kernel
theorem dX3_write_40 : decode cX3_write 40 = .ok (.bipush 48, 2) := by decide +kernel
theorem dX3_write_42 : decode cX3_write 42 = .ok (.invokevirtual 32, 3) := by decide +kernel
theorem dX3_write_45 : decode cX3_write 45 = .ok (.aload_n 0, 1) := by decide +kernel
theorem dX3_write_46 : decode cX3_write 46 = .ok (.aload_n 1, 1) := by decide +kernel
theorem dX3_write_47 : decode cX3_write 47 = .ok (.iload_n 2, 1) := by decide +kernel
theorem dX3_write_48 : decode cX3_write 48 = .ok (.invokevirtual 36, 3) := by decide +kernel
theorem dX3_write_51 : decode cX3_write 51 = .ok (.invokevirtual 32, 3) := by decide +kernel
theorem dX3_write_54 : decode cX3_write 54 = .ok (.aload_n 1, 1) := by decide +kernel
theorem dX3_write_55 : decode cX3_write 55 = .ok (.iload_n 2, 1) := by decide +kernel
theorem dX3_write_56 : decode cX3_write 56 = .ok (.invokevirtual 36, 3) := by decide +kernel
theorem dX3_write_59 : decode cX3_write 59 = .ok (.bipush 61, 2) := by decide +kernel
theorem dX3_write_61 : decode cX3_write 61 = .ok (.if_icmp .eq 9, 3) := by decide +kernel
theorem dX3_write_64 : decode cX3_write 64 = .ok (.aload_n 0, 1) := by decide +kernel
theorem dX3_write_65 : decode cX3_write 65 = .ok (.bipush 61, 2) := by decide +kernel
theorem dX3_write_67 : decode cX3_write 67 = .ok (.invokevirtual 32, 3) := by decide +kernel
theorem dX3_write_70 : decode cX3_write 70 = .ok (.aload_n 0, 1) := by decide +kernel
theorem dX3_write_71 : decode cX3_write 71 = .ok (.aload_n 1, 1) := by decide +kernel
theorem dX3_write_72 : decode cX3_write 72 = .ok (.iload_n 2, 1) := by decide +kernel
theorem dX3_write_73 : decode cX3_write 73 = .ok (.invokevirtual 40, 3) := by decide +kernel
theorem dX3_write_76 : decode cX3_write 76 = .ok (.invokevirtual 44, 3) := by decide +kernel
theorem dX3_write_79 : decode cX3_write 79 = .ok (.return_, 1) := by decide +kernel
theorem dX3_writeTerm_0 : decode cX3_writeTerm 0 = .ok (.iload_n 1, 1) := by decide +kernel
theorem dX3_writeTerm_1 : decode cX3_writeTerm 1 = .ok (.ifCond .ne 4, 3) := by decide +kernel
theorem dX3_writeTerm_4 : decode cX3_writeTerm 4 = .ok (.return_, 1) := by decide +kernel
theorem dX3_writeTerm_5 : decode cX3_writeTerm 5 = .ok (.iload_n 1, 1) := by decide +kernel
theorem dX3_writeTerm_6 : decode cX3_writeTerm 6 = .ok (.ifCond .ge 12, 3) := by decide +kernel
theorem dX3_writeTerm_9 : decode cX3_writeTerm 9 = .ok (.aload_n 0, 1) := by decide +kernel
theorem dX3_writeTerm_10 : decode cX3_writeTerm 10 = .ok (.bipush 45, 2) := by decide +kernel
theorem dX3_writeTerm_12 : decode cX3_writeTerm 12 = .ok (.invokevirtual 32, 3) := by decide +kernel
theorem dX3_writeTerm_15 : decode cX3_writeTerm 15 = .ok (.goto 16, 3) := by decide +kernel
theorem dX3_writeTerm_18 : decode cX3_writeTerm 18 = .ok (.aload_n 0, 1) := by decide +kernel
theorem dX3_writeTerm_19 : decode cX3_writeTerm 19 = .ok (.getfield 15, 3) := by decide +kernel
theorem dX3_writeTerm_22 : decode cX3_writeTerm 22 = .ok (.ifCond .le 9, 3) := by decide +kernel
theorem dX3_writeTerm_25 : decode cX3_writeTerm 25 = .ok (.aload_n 0, 1) := by decide +kernel
theorem dX3_writeTerm_26 : decode cX3_writeTerm 26 = .ok (.bipush 43, 2) := by decide +kernel
theorem dX3_writeTerm_28 : decode cX3_writeTerm 28 = .ok (.invokevirtual 32, 3) := by decide +kernel
theorem dX3_writeTerm_31 : decode cX3_writeTerm 31 = .ok (.iload_n 1, 1) := by decide +kernel
theorem dX3_writeTerm_32 : decode cX3_writeTerm 32 = .ok (.ifCond .ge 8, 3) := by decide +kernel
theorem dX3_writeTerm_35 : decode cX3_writeTerm 35 = .ok (.iload_n 1, 1) := by decide +kernel
theorem dX3_writeTerm_36 : decode cX3_writeTerm 36 = .ok (.ineg, 1) := by decide +kernel
theorem dX3_writeTerm_37 : decode cX3_writeTerm 37 = .ok (.goto 4, 3) := by decide +kernel
theorem dX3_writeTerm_40 : decode cX3_writeTerm 40 = .ok (.iload_n 1, 1) := by decide +kernel
theorem dX3_writeTerm_41 : decode cX3_writeTerm 41 = .ok (.istore_n 3, 1) := by decide +kernel
theorem dX3_writeTerm_42 : decode cX3_writeTerm 42 = .ok (.iload_n 3, 1) := by decide +kernel
theorem dX3_writeTerm_43 : decode cX3_writeTerm 43 = .ok (.iconst 1, 1) := by decide +kernel
theorem dX3_writeTerm_44 : decode cX3_writeTerm 44 = .ok (.if_icmp .eq 12, 3) := by decide +kernel
theorem dX3_writeTerm_47 : decode cX3_writeTerm 47 = .ok (.aload_n 0, 1) := by decide +kernel
theorem dX3_writeTerm_48 : decode cX3_writeTerm 48 = .ok (.bipush 48, 2) := by decide +kernel
theorem dX3_writeTerm_50 : decode cX3_writeTerm 50 = .ok (.iload_n 3, 1) := by decide +kernel
theorem dX3_writeTerm_51 : decode cX3_writeTerm 51 = .ok (.iadd, 1) := by decide +kernel
theorem dX3_writeTerm_52 : decode cX3_writeTerm 52 = .ok (.i2c, 1) := by decide +kernel
theorem dX3_writeTerm_53 : decode cX3_writeTerm 53 = .ok (.invokevirtual 32, 3) := by decide +kernel
theorem dX3_writeTerm_56 : decode cX3_writeTerm 56 = .ok (.aload_n 0, 1) := by decide +kernel
theorem dX3_writeTerm_57 : decode cX3_writeTerm 57 = .ok (.bipush 97, 2) := by decide +kernel
theorem dX3_writeTerm_59 : decode cX3_writeTerm 59 = .ok (.iload_n 2, 1) := by decide +kernel
theorem dX3_writeTerm_60 : decode cX3_writeTerm 60 = .ok (.iadd, 1) := by decide +kernel
theorem dX3_writeTerm_61 : decode cX3_writeTerm 61 = .ok (.i2c, 1) := by decide +kernel
theorem dX3_writeTerm_62 : decode cX3_writeTerm 62 = .ok (.invokevirtual 32, 3) := by decide +kernel
theorem dX3_writeTerm_65 : decode cX3_writeTerm 65 = .ok (.return_, 1) := by decide +kernel
theorem dX3_writeNumber_0 : decode cX3_writeNumber 0 = .ok (.iload_n 1, 1) := by decide +kernel
theorem dX3_writeNumber_1 : decode cX3_writeNumber 1 = .ok (.ifCond .ge 8, 3) := by decide +kernel
theorem dX3_writeNumber_4 : decode cX3_writeNumber 4 = .ok (.iload_n 1, 1) := by decide +kernel
theorem dX3_writeNumber_5 : decode cX3_writeNumber 5 = .ok (.ineg, 1) := by decide +kernel
theorem dX3_writeNumber_6 : decode cX3_writeNumber 6 = .ok (.goto 4, 3) := by decide +kernel
theorem dX3_writeNumber_9 : decode cX3_writeNumber 9 = .ok (.iload_n 1, 1) := by decide +kernel
theorem dX3_writeNumber_10 : decode cX3_writeNumber 10 = .ok (.istore_n 2, 1) := by decide +kernel
theorem dX3_writeNumber_11 : decode cX3_writeNumber 11 = .ok (.iload_n 1, 1) := by decide +kernel
theorem dX3_writeNumber_12 : decode cX3_writeNumber 12 = .ok (.ifCond .ge 9, 3) := by decide +kernel
theorem dX3_writeNumber_15 : decode cX3_writeNumber 15 = .ok (.aload_n 0, 1) := by decide +kernel
theorem dX3_writeNumber_16 : decode cX3_writeNumber 16 = .ok (.bipush 45, 2) := by decide +kernel
theorem dX3_writeNumber_18 : decode cX3_writeNumber 18 = .ok (.invokevirtual 32, 3) := by decide +kernel
theorem dX3_writeNumber_21 : decode cX3_writeNumber 21 = .ok (.iload_n 2, 1) := by decide +kernel
theorem dX3_writeNumber_22 : decode cX3_writeNumber 22 = .ok (.bipush 10, 2) := by decide +kernel
theorem dX3_writeNumber_24 : decode cX3_writeNumber 24 = .ok (.if_icmp .lt 15, 3) := by decide +kernel
theorem dX3_writeNumber_27 : decode cX3_writeNumber 27 = .ok (.aload_n 0, 1) := by decide +kernel
theorem dX3_writeNumber_28 : decode cX3_writeNumber 28 = .ok (.bipush 48, 2) := by decide +kernel
theorem dX3_writeNumber_30 : decode cX3_writeNumber 30 = .ok (.iload_n 2, 1) := by decide +kernel
theorem dX3_writeNumber_31 : decode cX3_writeNumber 31 = .ok (.bipush 10, 2) := by decide +kernel
theorem dX3_writeNumber_33 : decode cX3_writeNumber 33 = .ok (.idiv, 1) := by decide +kernel
theorem dX3_writeNumber_34 : decode cX3_writeNumber 34 = .ok (.iadd, 1) := by decide +kernel
theorem dX3_writeNumber_35 : decode cX3_writeNumber 35 = .ok (.i2c, 1) := by decide +kernel
theorem dX3_writeNumber_36 : decode cX3_writeNumber 36 = .ok (.invokevirtual 32, 3) := by decide +kernel
theorem dX3_writeNumber_39 : decode cX3_writeNumber 39 = .ok (.aload_n 0, 1) := by decide +kernel
theorem dX3_writeNumber_40 : decode cX3_writeNumber 40 = .ok (.bipush 48, 2) := by decide +kernel
theorem dX3_writeNumber_42 : decode cX3_writeNumber 42 = .ok (.iload_n 2, 1) := by decide +kernel
theorem dX3_writeNumber_43 : decode cX3_writeNumber 43 = .ok (.bipush 10, 2) := by decide +kernel
theorem dX3_writeNumber_45 : decode cX3_writeNumber 45 = .ok (.irem, 1) := by decide +kernel
theorem dX3_writeNumber_46 : decode cX3_writeNumber 46 = .ok (.iadd, 1) := by decide +kernel
theorem dX3_writeNumber_47 : decode cX3_writeNumber 47 = .ok (.i2c, 1) := by decide +kernel
theorem dX3_writeNumber_48 : decode cX3_writeNumber 48 = .ok (.invokevirtual 32, 3) := by decide +kernel
theorem dX3_writeNumber_51 : decode cX3_writeNumber 51 = .ok (.return_, 1) := by decide +kernel
theorem dX3_put_0 : decode cX3_put 0 = .ok (.aload_n 0, 1) := by decide +kernel
theorem dX3_put_1 : decode cX3_put 1 = .ok (.getfield 15, 3) := by decide +kernel
theorem dX3_put_4 : decode cX3_put 4 = .ok (.ifCond .lt 35, 3) := by decide +kernel
theorem dX3_put_7 : decode cX3_put 7 = .ok (.aload_n 0, 1) := by decide +kernel
theorem dX3_put_8 : decode cX3_put 8 = .ok (.getfield 15, 3) := by decide +kernel
theorem dX3_put_11 : decode cX3_put 11 = .ok (.aload_n 0, 1) := by decide +kernel
theorem dX3_put_12 : decode cX3_put 12 = .ok (.getfield 9, 3) := by decide +kernel
theorem dX3_put_15 : decode cX3_put 15 = .ok (.arraylength, 1) := by decide +kernel
theorem dX3_put_16 : decode cX3_put 16 = .ok (.if_icmp .ge 23, 3) := by decide +kernel
theorem dX3_put_19 : decode cX3_put 19 = .ok (.aload_n 0, 1) := by decide +kernel
theorem dX3_put_20 : decode cX3_put 20 = .ok (.getfield 9, 3) := by decide +kernel
theorem dX3_put_23 : decode cX3_put 23 = .ok (.aload_n 0, 1) := by decide +kernel
theorem dX3_put_24 : decode cX3_put 24 = .ok (.getfield 15, 3) := by decide +kernel
theorem dX3_put_27 : decode cX3_put 27 = .ok (.iload_n 1, 1) := by decide +kernel
theorem dX3_put_28 : decode cX3_put 28 = .ok (.castore, 1) := by decide +kernel
theorem dX3_put_29 : decode cX3_put 29 = .ok (.aload_n 0, 1) := by decide +kernel
theorem dX3_put_30 : decode cX3_put 30 = .ok (.dup, 1) := by decide +kernel
theorem dX3_put_31 : decode cX3_put 31 = .ok (.getfield 15, 3) := by decide +kernel
theorem dX3_put_34 : decode cX3_put 34 = .ok (.iconst 1, 1) := by decide +kernel
theorem dX3_put_35 : decode cX3_put 35 = .ok (.iadd, 1) := by decide +kernel
theorem dX3_put_36 : decode cX3_put 36 = .ok (.putfield 15, 3) := by decide +kernel
theorem dX3_put_39 : decode cX3_put 39 = .ok (.return_, 1) := by decide +kernel
theorem dX4_init_0 : decode cX4_init 0 = .ok (.aload_n 0, 1) := by decide +kernel
theorem dX4_init_1 : decode cX4_init 1 = .ok (.invokespecial 3, 3) := by decide +kernel
theorem dX4_init_4 : decode cX4_init 4 = .ok (.aload_n 0, 1) := by decide +kernel
theorem dX4_init_5 : decode cX4_init 5 = .ok (.iconst 3, 1) := by decide +kernel
theorem dX4_init_6 : decode cX4_init 6 = .ok (.newarray .long, 2) := by decide +kernel
theorem dX4_init_8 : decode cX4_init 8 = .ok (.putfield 9, 3) := by decide +kernel
theorem dX4_init_11 : decode cX4_init 11 = .ok (.aload_n 0, 1) := by decide +kernel
theorem dX4_init_12 : decode cX4_init 12 = .ok (.lconst 1, 1) := by decide +kernel
theorem dX4_init_13 : decode cX4_init 13 = .ok (.putfield 15, 3) := by decide +kernel
theorem dX4_init_16 : decode cX4_init 16 = .ok (.aload_n 0, 1) := by decide +kernel
theorem dX4_init_17 : decode cX4_init 17 = .ok (.iconst (-1), 1) := by decide +kernel
theorem dX4_init_18 : decode cX4_init 18 = .ok (.putfield 19, 3) := by decide +kernel
theorem dX4_init_21 : decode cX4_init 21 = .ok (.return_, 1) := by decide +kernel
theorem dX4_topOf_0 : decode cX4_topOf 0 = .ok (.iload_n 1, 1) := by decide +kernel
theorem dX4_topOf_1 : decode cX4_topOf 1 = .ok (.ifCond .lt 21, 3) := by decide +kernel
theorem dX4_topOf_4 : decode cX4_topOf 4 = .ok (.iload_n 1, 1) := by decide +kernel
theorem dX4_topOf_5 : decode cX4_topOf 5 = .ok (.aload_n 0, 1) := by decide +kernel
theorem dX4_topOf_6 : decode cX4_topOf 6 = .ok (.getfield 9, 3) := by decide +kernel
theorem dX4_topOf_9 : decode cX4_topOf 9 = .ok (.arraylength, 1) := by decide +kernel
theorem dX4_topOf_10 : decode cX4_topOf 10 = .ok (.if_icmp .ge 12, 3) := by decide +kernel
theorem dX4_topOf_13 : decode cX4_topOf 13 = .ok (.aload_n 0, 1) := by decide +kernel
theorem dX4_topOf_14 : decode cX4_topOf 14 = .ok (.getfield 9, 3) := by decide +kernel
theorem dX4_topOf_17 : decode cX4_topOf 17 = .ok (.iload_n 1, 1) := by decide +kernel
theorem dX4_topOf_18 : decode cX4_topOf 18 = .ok (.laload, 1) := by decide +kernel
theorem dX4_topOf_19 : decode cX4_topOf 19 = .ok (.goto 4, 3) := by decide +kernel
theorem dX4_topOf_22 : decode cX4_topOf 22 = .ok (.lconst 0, 1) := by decide +kernel
theorem dX4_topOf_23 : decode cX4_topOf 23 = .ok (.lreturn, 1) := by decide +kernel
theorem dX4_putTop_0 : decode cX4_putTop 0 = .ok (.iload_n 1, 1) := by decide +kernel
theorem dX4_putTop_1 : decode cX4_putTop 1 = .ok (.ifCond .lt 19, 3) := by decide +kernel
theorem dX4_putTop_4 : decode cX4_putTop 4 = .ok (.iload_n 1, 1) := by decide +kernel
theorem dX4_putTop_5 : decode cX4_putTop 5 = .ok (.aload_n 0, 1) := by decide +kernel
theorem dX4_putTop_6 : decode cX4_putTop 6 = .ok (.getfield 9, 3) := by decide +kernel
theorem dX4_putTop_9 : decode cX4_putTop 9 = .ok (.arraylength, 1) := by decide +kernel
theorem dX4_putTop_10 : decode cX4_putTop 10 = .ok (.if_icmp .ge 10, 3) := by decide +kernel
theorem dX4_putTop_13 : decode cX4_putTop 13 = .ok (.aload_n 0, 1) := by decide +kernel
theorem dX4_putTop_14 : decode cX4_putTop 14 = .ok (.getfield 9, 3) := by decide +kernel
theorem dX4_putTop_17 : decode cX4_putTop 17 = .ok (.iload_n 1, 1) := by decide +kernel
theorem dX4_putTop_18 : decode cX4_putTop 18 = .ok (.lload_n 2, 1) := by decide +kernel
theorem dX4_putTop_19 : decode cX4_putTop 19 = .ok (.lastore, 1) := by decide +kernel
theorem dX4_putTop_20 : decode cX4_putTop 20 = .ok (.return_, 1) := by decide +kernel
theorem dX4_copy_0 : decode cX4_copy 0 = .ok (.iconst 0, 1) := by decide +kernel
theorem dX4_copy_1 : decode cX4_copy 1 = .ok (.istore_n 2, 1) := by decide +kernel
theorem dX4_copy_2 : decode cX4_copy 2 = .ok (.iload_n 2, 1) := by decide +kernel
theorem dX4_copy_3 : decode cX4_copy 3 = .ok (.aload_n 0, 1) := by decide +kernel
theorem dX4_copy_4 : decode cX4_copy 4 = .ok (.getfield 9, 3) := by decide +kernel
theorem dX4_copy_7 : decode cX4_copy 7 = .ok (.arraylength, 1) := by decide +kernel
theorem dX4_copy_8 : decode cX4_copy 8 = .ok (.if_icmp .ge 20, 3) := by decide +kernel
theorem dX4_copy_11 : decode cX4_copy 11 = .ok (.aload_n 0, 1) := by decide +kernel
theorem dX4_copy_12 : decode cX4_copy 12 = .ok (.getfield 9, 3) := by decide +kernel
theorem dX4_copy_15 : decode cX4_copy 15 = .ok (.iload_n 2, 1) := by decide +kernel
theorem dX4_copy_16 : decode cX4_copy 16 = .ok (.aload_n 1, 1) := by decide +kernel
theorem dX4_copy_17 : decode cX4_copy 17 = .ok (.iload_n 2, 1) := by decide +kernel
theorem dX4_copy_18 : decode cX4_copy 18 = .ok (.invokevirtual 23, 3) := by decide +kernel
theorem dX4_copy_21 : decode cX4_copy 21 = .ok (.lastore, 1) := by decide +kernel
theorem dX4_copy_22 : decode cX4_copy 22 = .ok (.iinc 2 1, 3) := by decide +kernel
theorem dX4_copy_25 : decode cX4_copy 25 = .ok (.goto (-23), 3) := by decide +kernel
theorem dX4_copy_28 : decode cX4_copy 28 = .ok (.aload_n 0, 1) := by decide +kernel
theorem dX4_copy_29 : decode cX4_copy 29 = .ok (.aload_n 1, 1) := by decide +kernel
theorem dX4_copy_30 : decode cX4_copy 30 = .ok (.getfield 15, 3) := by decide +kernel
theorem dX4_copy_33 : decode cX4_copy 33 = .ok (.putfield 15, 3) := by decide +kernel
theorem dX4_copy_36 : decode cX4_copy 36 = .ok (.aload_n 0, 1) := by decide +kernel
theorem dX4_copy_37 : decode cX4_copy 37 = .ok (.aload_n 1, 1) := by decide +kernel
theorem dX4_copy_38 : decode cX4_copy 38 = .ok (.getfield 19, 3) := by decide +kernel
theorem dX4_copy_41 : decode cX4_copy 41 = .ok (.putfield 19, 3) := by decide +kernel
theorem dX4_copy_44 : decode cX4_copy 44 = .ok (.return_, 1) := by decide +kernel
theorem dX4_isSame_0 : decode cX4_isSame 0 = .ok (.iconst 0, 1) := by decide +kernel
theorem dX4_isSame_1 : decode cX4_isSame 1 = .ok (.istore_n 2, 1) := by decide +kernel
theorem dX4_isSame_2 : decode cX4_isSame 2 = .ok (.iload_n 2, 1) := by decide +kernel
theorem dX4_isSame_3 : decode cX4_isSame 3 = .ok (.aload_n 0, 1) := by decide +kernel
theorem dX4_isSame_4 : decode cX4_isSame 4 = .ok (.getfield 9, 3) := by decide +kernel
theorem dX4_isSame_7 : decode cX4_isSame 7 = .ok (.arraylength, 1) := by decide +kernel
theorem dX4_isSame_8 : decode cX4_isSame 8 = .ok (.if_icmp .ge 36, 3) := by decide +kernel
theorem dX4_isSame_11 : decode cX4_isSame 11 = .ok (.aload_n 0, 1) := by decide +kernel
theorem dX4_isSame_12 : decode cX4_isSame 12 = .ok (.getfield 9, 3) := by decide +kernel
theorem dX4_isSame_15 : decode cX4_isSame 15 = .ok (.iload_n 2, 1) := by decide +kernel
theorem dX4_isSame_16 : decode cX4_isSame 16 = .ok (.laload, 1) := by decide +kernel
theorem dX4_isSame_17 : decode cX4_isSame 17 = .ok (.aload_n 1, 1) := by decide +kernel
theorem dX4_isSame_18 : decode cX4_isSame 18 = .ok (.getfield 15, 3) := by decide +kernel
theorem dX4_isSame_21 : decode cX4_isSame 21 = .ok (.lmul, 1) := by decide +kernel
theorem dX4_isSame_22 : decode cX4_isSame 22 = .ok (.aload_n 1, 1) := by decide +kernel
theorem dX4_isSame_23 : decode cX4_isSame 23 = .ok (.iload_n 2, 1) := by decide +kernel
theorem dX4_isSame_24 : decode cX4_isSame 24 = .ok (.invokevirtual 23, 3) := by decide +kernel
theorem dX4_isSame_27 : decode cX4_isSame 27 = .ok (.aload_n 0, 1) := by decide +kernel
theorem dX4_isSame_28 : decode cX4_isSame 28 = .ok (.getfield 15, 3) := by decide +kernel
theorem dX4_isSame_31 : decode cX4_isSame 31 = .ok (.lmul, 1) := by decide +kernel
theorem dX4_isSame_32 : decode cX4_isSame 32 = .ok (.lcmp, 1) := by decide +kernel
theorem dX4_isSame_33 : decode cX4_isSame 33 = .ok (.ifCond .eq 5, 3) := by decide +kernel
theorem dX4_isSame_36 : decode cX4_isSame 36 = .ok (.iconst 0, 1) := by decide +kernel
theorem dX4_isSame_37 : decode cX4_isSame 37 = .ok (.ireturn, 1) := by decide +kernel
theorem dX4_isSame_38 : decode cX4_isSame 38 = .ok (.iinc 2 1, 3) := by decide +kernel
theorem dX4_isSame_41 : decode cX4_isSame 41 = .ok (.goto (-39), 3) := by decide +kernel
theorem dX4_isSame_44 : decode cX4_isSame 44 = .ok (.aload_n 0, 1) := by decide +kernel
theorem dX4_isSame_45 : decode cX4_isSame 45 = .ok (.getfield 19, 3) := by decide +kernel
theorem dX4_isSame_48 : decode cX4_isSame 48 = .ok (.aload_n 1, 1) := by decide +kernel
theorem dX4_isSame_49 : decode cX4_isSame 49 = .ok (.getfield 19, 3) := by decide +kernel
theorem dX4_isSame_52 : decode cX4_isSame 52 = .ok (.if_icmp .ne 7, 3) := by decide +kernel
theorem dX4_isSame_55 : decode cX4_isSame 55 = .ok (.iconst 1, 1) := by decide +kernel
theorem dX4_isSame_56 : decode cX4_isSame 56 = .ok (.goto 4, 3) := by decide +kernel
theorem dX4_isSame_59 : decode cX4_isSame 59 = .ok (.iconst 0, 1) := by decide +kernel
theorem dX4_isSame_60 : decode cX4_isSame 60 = .ok (.ireturn, 1) := by decide +kernel
theorem dX5_init_0 : decode cX5_init 0 = .ok (.aload_n 0, 1) := by decide +kernel
theorem dX5_init_1 : decode cX5_init 1 = .ok (.invokespecial 3, 3) := by decide +kernel
theorem dX5_init_4 : decode cX5_init 4 = .ok (.aload_n 0, 1) := by decide +kernel
theorem dX5_init_5 : decode cX5_init 5 = .ok (.iconst 3, 1) := by decide +kernel
theorem dX5_init_6 : decode cX5_init 6 = .ok (.newarray .int, 2) := by decide +kernel
theorem dX5_init_8 : decode cX5_init 8 = .ok (.putfield 9, 3) := by decide +kernel
theorem dX5_init_11 : decode cX5_init 11 = .ok (.aload_n 0, 1) := by decide +kernel
theorem dX5_init_12 : decode cX5_init 12 = .ok (.iconst 3, 1) := by decide +kernel
theorem dX5_init_13 : decode cX5_init 13 = .ok (.newarray .int, 2) := by decide +kernel
theorem dX5_init_15 : decode cX5_init 15 = .ok (.putfield 15, 3) := by decide +kernel
theorem dX5_init_18 : decode cX5_init 18 = .ok (.aload_n 0, 1) := by decide +kernel
theorem dX5_init_19 : decode cX5_init 19 = .ok (.bipush 36, 2) := by decide +kernel
theorem dX5_init_21 : decode cX5_init 21 = .ok (.newarray .int, 2) := by decide +kernel
theorem dX5_init_23 : decode cX5_init 23 = .ok (.putfield 18, 3) := by decide +kernel
theorem dX5_init_26 : decode cX5_init 26 = .ok (.aload_n 0, 1) := by decide +kernel
theorem dX5_init_27 : decode cX5_init 27 = .ok (.bipush 12, 2) := by decide +kernel
theorem dX5_init_29 : decode cX5_init 29 = .ok (.newarray .char, 2) := by decide +kernel
theorem dX5_init_31 : decode cX5_init 31 = .ok (.putfield 21, 3) := by decide +kernel
theorem dX5_init_34 : decode cX5_init 34 = .ok (.aload_n 0, 1) := by decide +kernel
theorem dX5_init_35 : decode cX5_init 35 = .ok (.bipush 12, 2) := by decide +kernel
theorem dX5_init_37 : decode cX5_init 37 = .ok (.newarray .int, 2) := by decide +kernel
theorem dX5_init_39 : decode cX5_init 39 = .ok (.putfield 25, 3) := by decide +kernel
theorem dX5_init_42 : decode cX5_init 42 = .ok (.aload_n 0, 1) := by decide +kernel
theorem dX5_init_43 : decode cX5_init 43 = .ok (.bipush 12, 2) := by decide +kernel
theorem dX5_init_45 : decode cX5_init 45 = .ok (.newarray .boolean, 2) := by decide +kernel
theorem dX5_init_47 : decode cX5_init 47 = .ok (.putfield 28, 3) := by decide +kernel
theorem dX5_init_50 : decode cX5_init 50 = .ok (.aload_n 0, 1) := by decide +kernel
theorem dX5_init_51 : decode cX5_init 51 = .ok (.bipush 9, 2) := by decide +kernel
theorem dX5_init_53 : decode cX5_init 53 = .ok (.newarray .int, 2) := by decide +kernel
theorem dX5_init_55 : decode cX5_init 55 = .ok (.putfield 32, 3) := by decide +kernel
theorem dX5_init_58 : decode cX5_init 58 = .ok (.aload_n 0, 1) := by decide +kernel
theorem dX5_init_59 : decode cX5_init 59 = .ok (.iconst 3, 1) := by decide +kernel
theorem dX5_init_60 : decode cX5_init 60 = .ok (.newarray .int, 2) := by decide +kernel
theorem dX5_init_62 : decode cX5_init 62 = .ok (.putfield 35, 3) := by decide +kernel
theorem dX5_init_65 : decode cX5_init 65 = .ok (.return_, 1) := by decide +kernel
theorem dX5_leastOf_0 : decode cX5_leastOf 0 = .ok (.iload_n 1, 1) := by decide +kernel
theorem dX5_leastOf_1 : decode cX5_leastOf 1 = .ok (.ifCond .lt 21, 3) := by decide +kernel
theorem dX5_leastOf_4 : decode cX5_leastOf 4 = .ok (.iload_n 1, 1) := by decide +kernel
theorem dX5_leastOf_5 : decode cX5_leastOf 5 = .ok (.aload_n 0, 1) := by decide +kernel
theorem dX5_leastOf_6 : decode cX5_leastOf 6 = .ok (.getfield 9, 3) := by decide +kernel
theorem dX5_leastOf_9 : decode cX5_leastOf 9 = .ok (.arraylength, 1) := by decide +kernel
theorem dX5_leastOf_10 : decode cX5_leastOf 10 = .ok (.if_icmp .ge 12, 3) := by decide +kernel
theorem dX5_leastOf_13 : decode cX5_leastOf 13 = .ok (.aload_n 0, 1) := by decide +kernel
theorem dX5_leastOf_14 : decode cX5_leastOf 14 = .ok (.getfield 9, 3) := by decide +kernel
theorem dX5_leastOf_17 : decode cX5_leastOf 17 = .ok (.iload_n 1, 1) := by decide +kernel
theorem dX5_leastOf_18 : decode cX5_leastOf 18 = .ok (.iaload, 1) := by decide +kernel
theorem dX5_leastOf_19 : decode cX5_leastOf 19 = .ok (.goto 4, 3) := by decide +kernel
theorem dX5_leastOf_22 : decode cX5_leastOf 22 = .ok (.iconst 0, 1) := by decide +kernel
theorem dX5_leastOf_23 : decode cX5_leastOf 23 = .ok (.ireturn, 1) := by decide +kernel
theorem dX5_greatestOf_0 : decode cX5_greatestOf 0 = .ok (.iload_n 1, 1) := by decide +kernel
theorem dX5_greatestOf_1 : decode cX5_greatestOf 1 = .ok (.ifCond .lt 21, 3) := by decide +kernel
theorem dX5_greatestOf_4 : decode cX5_greatestOf 4 = .ok (.iload_n 1, 1) := by decide +kernel
theorem dX5_greatestOf_5 : decode cX5_greatestOf 5 = .ok (.aload_n 0, 1) := by decide +kernel
theorem dX5_greatestOf_6 : decode cX5_greatestOf 6 = .ok (.getfield 15, 3) := by decide +kernel
theorem dX5_greatestOf_9 : decode cX5_greatestOf 9 = .ok (.arraylength, 1) := by decide +kernel
theorem dX5_greatestOf_10 : decode cX5_greatestOf 10 = .ok (.if_icmp .ge 12, 3) := by decide +kernel
theorem dX5_greatestOf_13 : decode cX5_greatestOf 13 = .ok (.aload_n 0, 1) := by decide +kernel
theorem dX5_greatestOf_14 : decode cX5_greatestOf 14 = .ok (.getfield 15, 3) := by decide +kernel
theorem dX5_greatestOf_17 : decode cX5_greatestOf 17 = .ok (.iload_n 1, 1) := by decide +kernel
theorem dX5_greatestOf_18 : decode cX5_greatestOf 18 = .ok (.iaload, 1) := by decide +kernel
theorem dX5_greatestOf_19 : decode cX5_greatestOf 19 = .ok (.goto 5, 3) := by decide +kernel
theorem dX5_greatestOf_22 : decode cX5_greatestOf 22 = .ok (.bipush 100, 2) := by decide +kernel
theorem dX5_greatestOf_24 : decode cX5_greatestOf 24 = .ok (.ireturn, 1) := by decide +kernel
theorem dX5_hasGreatest_0 : decode cX5_hasGreatest 0 = .ok (.aload_n 0, 1) := by decide +kernel
theorem dX5_hasGreatest_1 : decode cX5_hasGreatest 1 = .ok (.iload_n 1, 1) := by decide +kernel
theorem dX5_hasGreatest_2 : decode cX5_hasGreatest 2 = .ok (.invokevirtual 38, 3) := by decide +kernel
theorem dX5_hasGreatest_5 : decode cX5_hasGreatest 5 = .ok (.bipush 100, 2) := by decide +kernel
theorem dX5_hasGreatest_7 : decode cX5_hasGreatest 7 = .ok (.if_icmp .ge 7, 3) := by decide +kernel
theorem dX5_hasGreatest_10 : decode cX5_hasGreatest 10 = .ok (.iconst 1, 1) := by decide +kernel
theorem dX5_hasGreatest_11 : decode cX5_hasGreatest 11 = .ok (.goto 4, 3) := by decide +kernel
theorem dX5_hasGreatest_14 : decode cX5_hasGreatest 14 = .ok (.iconst 0, 1) := by decide +kernel
theorem dX5_hasGreatest_15 : decode cX5_hasGreatest 15 = .ok (.ireturn, 1) := by decide +kernel
theorem dX5_putVariable_0 : decode cX5_putVariable 0 = .ok (.aload_n 0, 1) := by decide +kernel
theorem dX5_putVariable_1 : decode cX5_putVariable 1 = .ok (.getfield 42, 3) := by decide +kernel
theorem dX5_putVariable_4 : decode cX5_putVariable 4 = .ok (.istore_n 3, 1) := by decide +kernel
theorem dX5_putVariable_5 : decode cX5_putVariable 5 = .ok (.aload_n 0, 1) := by decide +kernel
theorem dX5_putVariable_6 : decode cX5_putVariable 6 = .ok (.dup, 1) := by decide +kernel
theorem dX5_putVariable_7 : decode cX5_putVariable 7 = .ok (.getfield 42, 3) := by decide +kernel
theorem dX5_putVariable_10 : decode cX5_putVariable 10 = .ok (.iconst 1, 1) := by decide +kernel
theorem dX5_putVariable_11 : decode cX5_putVariable 11 = .ok (.iadd, 1) := by decide +kernel
theorem dX5_putVariable_12 : decode cX5_putVariable 12 = .ok (.putfield 42, 3) := by decide +kernel
theorem dX5_putVariable_15 : decode cX5_putVariable 15 = .ok (.aload_n 0, 1) := by decide +kernel
theorem dX5_putVariable_16 : decode cX5_putVariable 16 = .ok (.iload_n 3, 1) := by decide +kernel
theorem dX5_putVariable_17 : decode cX5_putVariable 17 = .ok (.iload_n 1, 1) := by decide +kernel
theorem dX5_putVariable_18 : decode cX5_putVariable 18 = .ok (.iload_n 2, 1) := by decide +kernel
theorem dX5_putVariable_19 : decode cX5_putVariable 19 = .ok (.invokevirtual 46, 3) := by decide +kernel
theorem dX5_putVariable_22 : decode cX5_putVariable 22 = .ok (.iload_n 3, 1) := by decide +kernel
theorem dX5_putVariable_23 : decode cX5_putVariable 23 = .ok (.ireturn, 1) := by decide +kernel
theorem dX5_putBounds_0 : decode cX5_putBounds 0 = .ok (.iload_n 1, 1) := by decide +kernel
theorem dX5_putBounds_1 : decode cX5_putBounds 1 = .ok (.ifCond .lt 35, 3) := by decide +kernel
theorem dX5_putBounds_4 : decode cX5_putBounds 4 = .ok (.iload_n 1, 1) := by decide +kernel
theorem dX5_putBounds_5 : decode cX5_putBounds 5 = .ok (.aload_n 0, 1) := by decide +kernel
theorem dX5_putBounds_6 : decode cX5_putBounds 6 = .ok (.getfield 9, 3) := by decide +kernel
theorem dX5_putBounds_9 : decode cX5_putBounds 9 = .ok (.arraylength, 1) := by decide +kernel
theorem dX5_putBounds_10 : decode cX5_putBounds 10 = .ok (.if_icmp .ge 26, 3) := by decide +kernel
theorem dX5_putBounds_13 : decode cX5_putBounds 13 = .ok (.iload_n 1, 1) := by decide +kernel
theorem dX5_putBounds_14 : decode cX5_putBounds 14 = .ok (.aload_n 0, 1) := by decide +kernel
theorem dX5_putBounds_15 : decode cX5_putBounds 15 = .ok (.getfield 15, 3) := by decide +kernel
theorem dX5_putBounds_18 : decode cX5_putBounds 18 = .ok (.arraylength, 1) := by decide +kernel
theorem dX5_putBounds_19 : decode cX5_putBounds 19 = .ok (.if_icmp .ge 17, 3) := by decide +kernel
theorem dX5_putBounds_22 : decode cX5_putBounds 22 = .ok (.aload_n 0, 1) := by decide +kernel
theorem dX5_putBounds_23 : decode cX5_putBounds 23 = .ok (.getfield 9, 3) := by decide +kernel
theorem dX5_putBounds_26 : decode cX5_putBounds 26 = .ok (.iload_n 1, 1) := by decide +kernel
theorem dX5_putBounds_27 : decode cX5_putBounds 27 = .ok (.iload_n 2, 1) := by decide +kernel
theorem dX5_putBounds_28 : decode cX5_putBounds 28 = .ok (.iastore, 1) := by decide +kernel
theorem dX5_putBounds_29 : decode cX5_putBounds 29 = .ok (.aload_n 0, 1) := by decide +kernel
theorem dX5_putBounds_30 : decode cX5_putBounds 30 = .ok (.getfield 15, 3) := by decide +kernel
theorem dX5_putBounds_33 : decode cX5_putBounds 33 = .ok (.iload_n 1, 1) := by decide +kernel
theorem dX5_putBounds_34 : decode cX5_putBounds 34 = .ok (.iload_n 3, 1) := by decide +kernel
theorem dX5_putBounds_35 : decode cX5_putBounds 35 = .ok (.iastore, 1) := by decide +kernel
theorem dX5_putBounds_36 : decode cX5_putBounds 36 = .ok (.return_, 1) := by decide +kernel
theorem dX5_isNarrow_0 : decode cX5_isNarrow 0 = .ok (.iconst 0, 1) := by decide +kernel
theorem dX5_isNarrow_1 : decode cX5_isNarrow 1 = .ok (.istore_n 1, 1) := by decide +kernel
theorem dX5_isNarrow_2 : decode cX5_isNarrow 2 = .ok (.iload_n 1, 1) := by decide +kernel
theorem dX5_isNarrow_3 : decode cX5_isNarrow 3 = .ok (.aload_n 0, 1) := by decide +kernel
theorem dX5_isNarrow_4 : decode cX5_isNarrow 4 = .ok (.getfield 42, 3) := by decide +kernel
theorem dX5_isNarrow_7 : decode cX5_isNarrow 7 = .ok (.if_icmp .ge 35, 3) := by decide +kernel
theorem dX5_isNarrow_10 : decode cX5_isNarrow 10 = .ok (.aload_n 0, 1) := by decide +kernel
theorem dX5_isNarrow_11 : decode cX5_isNarrow 11 = .ok (.iload_n 1, 1) := by decide +kernel
theorem dX5_isNarrow_12 : decode cX5_isNarrow 12 = .ok (.invokevirtual 50, 3) := by decide +kernel
theorem dX5_isNarrow_15 : decode cX5_isNarrow 15 = .ok (.ifCond .eq 19, 3) := by decide +kernel
theorem dX5_isNarrow_18 : decode cX5_isNarrow 18 = .ok (.aload_n 0, 1) := by decide +kernel
theorem dX5_isNarrow_19 : decode cX5_isNarrow 19 = .ok (.iload_n 1, 1) := by decide +kernel
theorem dX5_isNarrow_20 : decode cX5_isNarrow 20 = .ok (.invokevirtual 38, 3) := by decide +kernel
theorem dX5_isNarrow_23 : decode cX5_isNarrow 23 = .ok (.aload_n 0, 1) := by decide +kernel
theorem dX5_isNarrow_24 : decode cX5_isNarrow 24 = .ok (.iload_n 1, 1) := by decide +kernel
theorem dX5_isNarrow_25 : decode cX5_isNarrow 25 = .ok (.invokevirtual 54, 3) := by decide +kernel
theorem dX5_isNarrow_28 : decode cX5_isNarrow 28 = .ok (.isub, 1) := by decide +kernel
theorem dX5_isNarrow_29 : decode cX5_isNarrow 29 = .ok (.bipush 6, 2) := by decide +kernel
theorem dX5_isNarrow_31 : decode cX5_isNarrow 31 = .ok (.if_icmp .le 5, 3) := by decide +kernel
theorem dX5_isNarrow_34 : decode cX5_isNarrow 34 = .ok (.iconst 0, 1) := by decide +kernel
theorem dX5_isNarrow_35 : decode cX5_isNarrow 35 = .ok (.ireturn, 1) := by decide +kernel
theorem dX5_isNarrow_36 : decode cX5_isNarrow 36 = .ok (.iinc 1 1, 3) := by decide +kernel
theorem dX5_isNarrow_39 : decode cX5_isNarrow 39 = .ok (.goto (-37), 3) := by decide +kernel
theorem dX5_isNarrow_42 : decode cX5_isNarrow 42 = .ok (.iconst 1, 1) := by decide +kernel
theorem dX5_isNarrow_43 : decode cX5_isNarrow 43 = .ok (.ireturn, 1) := by decide +kernel
theorem dX5_hasRoomForRow_0 : decode cX5_hasRoomForRow 0 = .ok (.aload_n 0, 1) := by decide +kernel
theorem dX5_hasRoomForRow_1 : decode cX5_hasRoomForRow 1 = .ok (.getfield 57, 3) := by decide +kernel
theorem dX5_hasRoomForRow_4 : decode cX5_hasRoomForRow 4 = .ok (.bipush 12, 2) := by decide +kernel
theorem dX5_hasRoomForRow_6 : decode cX5_hasRoomForRow 6 = .ok (.if_icmp .ge 16, 3) := by decide +kernel
theorem dX5_hasRoomForRow_9 : decode cX5_hasRoomForRow 9 = .ok (.aload_n 0, 1) := by decide +kernel
theorem dX5_hasRoomForRow_10 : decode cX5_hasRoomForRow 10 = .ok (.getfield 60, 3) := by decide +kernel
theorem dX5_hasRoomForRow_13 : decode cX5_hasRoomForRow 13 = .ok (.bipush 6, 2) := by decide +kernel
theorem dX5_hasRoomForRow_15 : decode cX5_hasRoomForRow 15 = .ok (.if_icmp .ge 7, 3) := by decide +kernel
theorem dX5_hasRoomForRow_18 : decode cX5_hasRoomForRow 18 = .ok (.iconst 1, 1) := by decide +kernel
theorem dX5_hasRoomForRow_19 : decode cX5_hasRoomForRow 19 = .ok (.goto 4, 3) := by decide +kernel
theorem dX5_hasRoomForRow_22 : decode cX5_hasRoomForRow 22 = .ok (.iconst 0, 1) := by decide +kernel
theorem dX5_hasRoomForRow_23 : decode cX5_hasRoomForRow 23 = .ok (.ireturn, 1) := by decide +kernel
theorem dX5_hasRoomForAim_0 : decode cX5_hasRoomForAim 0 = .ok (.aload_n 0, 1) := by decide +kernel
theorem dX5_hasRoomForAim_1 : decode cX5_hasRoomForAim 1 = .ok (.getfield 63, 3) := by decide +kernel
theorem dX5_hasRoomForAim_4 : decode cX5_hasRoomForAim 4 = .ok (.iconst 3, 1) := by decide +kernel
theorem dX5_hasRoomForAim_5 : decode cX5_hasRoomForAim 5 = .ok (.if_icmp .ge 7, 3) := by decide +kernel
theorem dX5_hasRoomForAim_8 : decode cX5_hasRoomForAim 8 = .ok (.iconst 1, 1) := by decide +kernel
theorem dX5_hasRoomForAim_9 : decode cX5_hasRoomForAim 9 = .ok (.goto 4, 3) := by decide +kernel
theorem dX5_hasRoomForAim_12 : decode cX5_hasRoomForAim 12 = .ok (.iconst 0, 1) := by decide +kernel
theorem dX5_hasRoomForAim_13 : decode cX5_hasRoomForAim 13 = .ok (.ireturn, 1) := by decide +kernel
theorem dX5_putRow_0 : decode cX5_putRow 0 = .ok (.aload_n 0, 1) := by decide +kernel
theorem dX5_putRow_1 : decode cX5_putRow 1 = .ok (.getfield 57, 3) := by decide +kernel
theorem dX5_putRow_4 : decode cX5_putRow 4 = .ok (.istore_n 2, 1) := by decide +kernel
theorem dX5_putRow_5 : decode cX5_putRow 5 = .ok (.iload_n 2, 1) := by decide +kernel
theorem dX5_putRow_6 : decode cX5_putRow 6 = .ok (.ifCond .lt 58, 3) := by decide +kernel
theorem dX5_putRow_9 : decode cX5_putRow 9 = .ok (.iload_n 2, 1) := by decide +kernel
theorem dX5_putRow_10 : decode cX5_putRow 10 = .ok (.aload_n 0, 1) := by decide +kernel
theorem dX5_putRow_11 : decode cX5_putRow 11 = .ok (.getfield 21, 3) := by decide +kernel
theorem dX5_putRow_14 : decode cX5_putRow 14 = .ok (.arraylength, 1) := by decide +kernel
theorem dX5_putRow_15 : decode cX5_putRow 15 = .ok (.if_icmp .ge 49, 3) := by decide +kernel
theorem dX5_putRow_18 : decode cX5_putRow 18 = .ok (.iload_n 2, 1) := by decide +kernel
theorem dX5_putRow_19 : decode cX5_putRow 19 = .ok (.aload_n 0, 1) := by decide +kernel
theorem dX5_putRow_20 : decode cX5_putRow 20 = .ok (.getfield 28, 3) := by decide +kernel
theorem dX5_putRow_23 : decode cX5_putRow 23 = .ok (.arraylength, 1) := by decide +kernel
theorem dX5_putRow_24 : decode cX5_putRow 24 = .ok (.if_icmp .ge 40, 3) := by decide +kernel
theorem dX5_putRow_27 : decode cX5_putRow 27 = .ok (.aload_n 0, 1) := by decide +kernel
theorem dX5_putRow_28 : decode cX5_putRow 28 = .ok (.getfield 21, 3) := by decide +kernel
theorem dX5_putRow_31 : decode cX5_putRow 31 = .ok (.iload_n 2, 1) := by decide +kernel
theorem dX5_putRow_32 : decode cX5_putRow 32 = .ok (.aload_n 1, 1) := by decide +kernel
theorem dX5_putRow_33 : decode cX5_putRow 33 = .ok (.getfield 66, 3) := by decide +kernel
theorem dX5_putRow_36 : decode cX5_putRow 36 = .ok (.castore, 1) := by decide +kernel
theorem dX5_putRow_37 : decode cX5_putRow 37 = .ok (.aload_n 0, 1) := by decide +kernel
theorem dX5_putRow_38 : decode cX5_putRow 38 = .ok (.getfield 28, 3) := by decide +kernel
theorem dX5_putRow_41 : decode cX5_putRow 41 = .ok (.iload_n 2, 1) := by decide +kernel
theorem dX5_putRow_42 : decode cX5_putRow 42 = .ok (.iconst 1, 1) := by decide +kernel
theorem dX5_putRow_43 : decode cX5_putRow 43 = .ok (.bastore, 1) := by decide +kernel
theorem dX5_putRow_44 : decode cX5_putRow 44 = .ok (.aload_n 0, 1) := by decide +kernel
theorem dX5_putRow_45 : decode cX5_putRow 45 = .ok (.dup, 1) := by decide +kernel
theorem dX5_putRow_46 : decode cX5_putRow 46 = .ok (.getfield 57, 3) := by decide +kernel
theorem dX5_putRow_49 : decode cX5_putRow 49 = .ok (.iconst 1, 1) := by decide +kernel
theorem dX5_putRow_50 : decode cX5_putRow 50 = .ok (.iadd, 1) := by decide +kernel
theorem dX5_putRow_51 : decode cX5_putRow 51 = .ok (.putfield 57, 3) := by decide +kernel
theorem dX5_putRow_54 : decode cX5_putRow 54 = .ok (.aload_n 0, 1) := by decide +kernel
theorem dX5_putRow_55 : decode cX5_putRow 55 = .ok (.dup, 1) := by decide +kernel
theorem dX5_putRow_56 : decode cX5_putRow 56 = .ok (.getfield 60, 3) := by decide +kernel
theorem dX5_putRow_59 : decode cX5_putRow 59 = .ok (.iconst 1, 1) := by decide +kernel
theorem dX5_putRow_60 : decode cX5_putRow 60 = .ok (.iadd, 1) := by decide +kernel
theorem dX5_putRow_61 : decode cX5_putRow 61 = .ok (.putfield 60, 3) := by decide +kernel
theorem dX5_putRow_64 : decode cX5_putRow 64 = .ok (.aload_n 0, 1) := by decide +kernel
theorem dX5_putRow_65 : decode cX5_putRow 65 = .ok (.iload_n 2, 1) := by decide +kernel
theorem dX5_putRow_66 : decode cX5_putRow 66 = .ok (.aload_n 1, 1) := by decide +kernel
theorem dX5_putRow_67 : decode cX5_putRow 67 = .ok (.getfield 72, 3) := by decide +kernel
theorem dX5_putRow_70 : decode cX5_putRow 70 = .ok (.invokevirtual 75, 3) := by decide +kernel
theorem dX5_putRow_73 : decode cX5_putRow 73 = .ok (.aload_n 0, 1) := by decide +kernel
theorem dX5_putRow_74 : decode cX5_putRow 74 = .ok (.getfield 18, 3) := by decide +kernel
theorem dX5_putRow_77 : decode cX5_putRow 77 = .ok (.iload_n 2, 1) := by decide +kernel
theorem dX5_putRow_78 : decode cX5_putRow 78 = .ok (.aload_n 1, 1) := by decide +kernel
theorem dX5_putRow_79 : decode cX5_putRow 79 = .ok (.invokestatic 79, 3) := by decide +kernel
theorem dX5_putRow_82 : decode cX5_putRow 82 = .ok (.iload_n 2, 1) := by decide +kernel
theorem dX5_putRow_83 : decode cX5_putRow 83 = .ok (.ireturn, 1) := by decide +kernel
theorem dX5_putAim_0 : decode cX5_putAim 0 = .ok (.aload_n 0, 1) := by decide +kernel
theorem dX5_putAim_1 : decode cX5_putAim 1 = .ok (.getfield 63, 3) := by decide +kernel
theorem dX5_putAim_4 : decode cX5_putAim 4 = .ok (.istore_n 2, 1) := by decide +kernel
theorem dX5_putAim_5 : decode cX5_putAim 5 = .ok (.iload_n 2, 1) := by decide +kernel
theorem dX5_putAim_6 : decode cX5_putAim 6 = .ok (.ifCond .lt 32, 3) := by decide +kernel
theorem dX5_putAim_9 : decode cX5_putAim 9 = .ok (.iload_n 2, 1) := by decide +kernel
theorem dX5_putAim_10 : decode cX5_putAim 10 = .ok (.aload_n 0, 1) := by decide +kernel
theorem dX5_putAim_11 : decode cX5_putAim 11 = .ok (.getfield 35, 3) := by decide +kernel
theorem dX5_putAim_14 : decode cX5_putAim 14 = .ok (.arraylength, 1) := by decide +kernel
theorem dX5_putAim_15 : decode cX5_putAim 15 = .ok (.if_icmp .ge 23, 3) := by decide +kernel
theorem dX5_putAim_18 : decode cX5_putAim 18 = .ok (.aload_n 0, 1) := by decide +kernel
theorem dX5_putAim_19 : decode cX5_putAim 19 = .ok (.getfield 35, 3) := by decide +kernel
theorem dX5_putAim_22 : decode cX5_putAim 22 = .ok (.iload_n 2, 1) := by decide +kernel
theorem dX5_putAim_23 : decode cX5_putAim 23 = .ok (.aload_n 1, 1) := by decide +kernel
theorem dX5_putAim_24 : decode cX5_putAim 24 = .ok (.getfield 83, 3) := by decide +kernel
theorem dX5_putAim_27 : decode cX5_putAim 27 = .ok (.iastore, 1) := by decide +kernel
theorem dX5_putAim_28 : decode cX5_putAim 28 = .ok (.aload_n 0, 1) := by decide +kernel
theorem dX5_putAim_29 : decode cX5_putAim 29 = .ok (.dup, 1) := by decide +kernel
theorem dX5_putAim_30 : decode cX5_putAim 30 = .ok (.getfield 63, 3) := by decide +kernel
theorem dX5_putAim_33 : decode cX5_putAim 33 = .ok (.iconst 1, 1) := by decide +kernel
theorem dX5_putAim_34 : decode cX5_putAim 34 = .ok (.iadd, 1) := by decide +kernel
theorem dX5_putAim_35 : decode cX5_putAim 35 = .ok (.putfield 63, 3) := by decide +kernel
theorem dX5_putAim_38 : decode cX5_putAim 38 = .ok (.aload_n 0, 1) := by decide +kernel
theorem dX5_putAim_39 : decode cX5_putAim 39 = .ok (.getfield 32, 3) := by decide +kernel
theorem dX5_putAim_42 : decode cX5_putAim 42 = .ok (.iload_n 2, 1) := by decide +kernel
theorem dX5_putAim_43 : decode cX5_putAim 43 = .ok (.aload_n 1, 1) := by decide +kernel
theorem dX5_putAim_44 : decode cX5_putAim 44 = .ok (.invokestatic 79, 3) := by decide +kernel
theorem dX5_putAim_47 : decode cX5_putAim 47 = .ok (.iload_n 2, 1) := by decide +kernel
theorem dX5_putAim_48 : decode cX5_putAim 48 = .ok (.ireturn, 1) := by decide +kernel
theorem dX5_putCoefficients_0 : decode cX5_putCoefficients 0 = .ok (.iconst 0, 1) := by decide +kernel
theorem dX5_putCoefficients_1 : decode cX5_putCoefficients 1 = .ok (.istore_n 3, 1) := by decide +kernel
theorem dX5_putCoefficients_2 : decode cX5_putCoefficients 2 = .ok (.iload_n 3, 1) := by decide +kernel
theorem dX5_putCoefficients_3 : decode cX5_putCoefficients 3 = .ok (.iconst 3, 1) := by decide +kernel
theorem dX5_putCoefficients_4 : decode cX5_putCoefficients 4 = .ok (.if_icmp .ge 37, 3) := by decide +kernel
theorem dX5_putCoefficients_7 : decode cX5_putCoefficients 7 = .ok (.iload_n 1, 1) := by decide +kernel
theorem dX5_putCoefficients_8 : decode cX5_putCoefficients 8 = .ok (.iconst 3, 1) := by decide +kernel
theorem dX5_putCoefficients_9 : decode cX5_putCoefficients 9 = .ok (.imul, 1) := by decide +kernel
theorem dX5_putCoefficients_10 : decode cX5_putCoefficients 10 = .ok (.iload_n 3, 1) := by decide +kernel
theorem dX5_putCoefficients_11 : decode cX5_putCoefficients 11 = .ok (.iadd, 1) := by decide +kernel
theorem dX5_putCoefficients_12 : decode cX5_putCoefficients 12 = .ok (.istore 4, 2) := by decide +kernel
theorem dX5_putCoefficients_14 : decode cX5_putCoefficients 14 = .ok (.iload 4, 2) := by decide +kernel
theorem dX5_putCoefficients_16 : decode cX5_putCoefficients 16 = .ok (.ifCond .lt 19, 3) := by decide +kernel
theorem dX5_putCoefficients_19 : decode cX5_putCoefficients 19 = .ok (.iload 4, 2) := by decide +kernel
theorem dX5_putCoefficients_21 : decode cX5_putCoefficients 21 = .ok (.aload_n 0, 1) := by decide +kernel
theorem dX5_putCoefficients_22 : decode cX5_putCoefficients 22 = .ok (.arraylength, 1) := by decide +kernel
theorem dX5_putCoefficients_23 : decode cX5_putCoefficients 23 = .ok (.if_icmp .ge 12, 3) := by decide +kernel
theorem dX5_putCoefficients_26 : decode cX5_putCoefficients 26 = .ok (.aload_n 0, 1) := by decide +kernel
theorem dX5_putCoefficients_27 : decode cX5_putCoefficients 27 = .ok (.iload 4, 2) := by decide +kernel
theorem dX5_putCoefficients_29 : decode cX5_putCoefficients 29 = .ok (.aload_n 2, 1) := by decide +kernel
theorem dX5_putCoefficients_30 : decode cX5_putCoefficients 30 = .ok (.iload_n 3, 1) := by decide +kernel
theorem dX5_putCoefficients_31 : decode cX5_putCoefficients 31 = .ok (.invokevirtual 86, 3) := by decide +kernel
theorem dX5_putCoefficients_34 : decode cX5_putCoefficients 34 = .ok (.iastore, 1) := by decide +kernel
theorem dX5_putCoefficients_35 : decode cX5_putCoefficients 35 = .ok (.iinc 3 1, 3) := by decide +kernel
theorem dX5_putCoefficients_38 : decode cX5_putCoefficients 38 = .ok (.goto (-36), 3) := by decide +kernel
theorem dX5_putCoefficients_41 : decode cX5_putCoefficients 41 = .ok (.return_, 1) := by decide +kernel
theorem dX5_removeRow_0 : decode cX5_removeRow 0 = .ok (.iload_n 1, 1) := by decide +kernel
theorem dX5_removeRow_1 : decode cX5_removeRow 1 = .ok (.ifCond .lt 38, 3) := by decide +kernel
theorem dX5_removeRow_4 : decode cX5_removeRow 4 = .ok (.iload_n 1, 1) := by decide +kernel
theorem dX5_removeRow_5 : decode cX5_removeRow 5 = .ok (.aload_n 0, 1) := by decide +kernel
theorem dX5_removeRow_6 : decode cX5_removeRow 6 = .ok (.getfield 28, 3) := by decide +kernel
theorem dX5_removeRow_9 : decode cX5_removeRow 9 = .ok (.arraylength, 1) := by decide +kernel
theorem dX5_removeRow_10 : decode cX5_removeRow 10 = .ok (.if_icmp .ge 29, 3) := by decide +kernel
theorem dX5_removeRow_13 : decode cX5_removeRow 13 = .ok (.aload_n 0, 1) := by decide +kernel
theorem dX5_removeRow_14 : decode cX5_removeRow 14 = .ok (.getfield 28, 3) := by decide +kernel
theorem dX5_removeRow_17 : decode cX5_removeRow 17 = .ok (.iload_n 1, 1) := by decide +kernel
theorem dX5_removeRow_18 : decode cX5_removeRow 18 = .ok (.baload, 1) := by decide +kernel
theorem dX5_removeRow_19 : decode cX5_removeRow 19 = .ok (.ifCond .eq 20, 3) := by decide +kernel
theorem dX5_removeRow_22 : decode cX5_removeRow 22 = .ok (.aload_n 0, 1) := by decide +kernel
theorem dX5_removeRow_23 : decode cX5_removeRow 23 = .ok (.getfield 28, 3) := by decide +kernel
theorem dX5_removeRow_26 : decode cX5_removeRow 26 = .ok (.iload_n 1, 1) := by decide +kernel
theorem dX5_removeRow_27 : decode cX5_removeRow 27 = .ok (.iconst 0, 1) := by decide +kernel
theorem dX5_removeRow_28 : decode cX5_removeRow 28 = .ok (.bastore, 1) := by decide +kernel
theorem dX5_removeRow_29 : decode cX5_removeRow 29 = .ok (.aload_n 0, 1) := by decide +kernel
theorem dX5_removeRow_30 : decode cX5_removeRow 30 = .ok (.dup, 1) := by decide +kernel
theorem dX5_removeRow_31 : decode cX5_removeRow 31 = .ok (.getfield 60, 3) := by decide +kernel
theorem dX5_removeRow_34 : decode cX5_removeRow 34 = .ok (.iconst 1, 1) := by decide +kernel
theorem dX5_removeRow_35 : decode cX5_removeRow 35 = .ok (.isub, 1) := by decide +kernel
theorem dX5_removeRow_36 : decode cX5_removeRow 36 = .ok (.putfield 60, 3) := by decide +kernel
theorem dX5_removeRow_39 : decode cX5_removeRow 39 = .ok (.aload_n 0, 1) := by decide +kernel
theorem dX5_removeRow_40 : decode cX5_removeRow 40 = .ok (.getfield 60, 3) := by decide +kernel
theorem dX5_removeRow_43 : decode cX5_removeRow 43 = .ok (.ireturn, 1) := by decide +kernel
theorem dX5_putNumber_0 : decode cX5_putNumber 0 = .ok (.iload_n 1, 1) := by decide +kernel
theorem dX5_putNumber_1 : decode cX5_putNumber 1 = .ok (.ifCond .lt 19, 3) := by decide +kernel
theorem dX5_putNumber_4 : decode cX5_putNumber 4 = .ok (.iload_n 1, 1) := by decide +kernel
theorem dX5_putNumber_5 : decode cX5_putNumber 5 = .ok (.aload_n 0, 1) := by decide +kernel
theorem dX5_putNumber_6 : decode cX5_putNumber 6 = .ok (.getfield 25, 3) := by decide +kernel
theorem dX5_putNumber_9 : decode cX5_putNumber 9 = .ok (.arraylength, 1) := by decide +kernel
theorem dX5_putNumber_10 : decode cX5_putNumber 10 = .ok (.if_icmp .ge 10, 3) := by decide +kernel
theorem dX5_putNumber_13 : decode cX5_putNumber 13 = .ok (.aload_n 0, 1) := by decide +kernel
theorem dX5_putNumber_14 : decode cX5_putNumber 14 = .ok (.getfield 25, 3) := by decide +kernel
theorem dX5_putNumber_17 : decode cX5_putNumber 17 = .ok (.iload_n 1, 1) := by decide +kernel
theorem dX5_putNumber_18 : decode cX5_putNumber 18 = .ok (.iload_n 2, 1) := by decide +kernel
theorem dX5_putNumber_19 : decode cX5_putNumber 19 = .ok (.iastore, 1) := by decide +kernel
theorem dX5_putNumber_20 : decode cX5_putNumber 20 = .ok (.return_, 1) := by decide +kernel
theorem dX5_isLive_0 : decode cX5_isLive 0 = .ok (.iload_n 1, 1) := by decide +kernel
theorem dX5_isLive_1 : decode cX5_isLive 1 = .ok (.ifCond .lt 25, 3) := by decide +kernel
theorem dX5_isLive_4 : decode cX5_isLive 4 = .ok (.iload_n 1, 1) := by decide +kernel
theorem dX5_isLive_5 : decode cX5_isLive 5 = .ok (.aload_n 0, 1) := by decide +kernel
theorem dX5_isLive_6 : decode cX5_isLive 6 = .ok (.getfield 28, 3) := by decide +kernel
theorem dX5_isLive_9 : decode cX5_isLive 9 = .ok (.arraylength, 1) := by decide +kernel
theorem dX5_isLive_10 : decode cX5_isLive 10 = .ok (.if_icmp .ge 16, 3) := by decide +kernel
theorem dX5_isLive_13 : decode cX5_isLive 13 = .ok (.aload_n 0, 1) := by decide +kernel
theorem dX5_isLive_14 : decode cX5_isLive 14 = .ok (.getfield 28, 3) := by decide +kernel
theorem dX5_isLive_17 : decode cX5_isLive 17 = .ok (.iload_n 1, 1) := by decide +kernel
theorem dX5_isLive_18 : decode cX5_isLive 18 = .ok (.baload, 1) := by decide +kernel
theorem dX5_isLive_19 : decode cX5_isLive 19 = .ok (.ifCond .eq 7, 3) := by decide +kernel
theorem dX5_isLive_22 : decode cX5_isLive 22 = .ok (.iconst 1, 1) := by decide +kernel
theorem dX5_isLive_23 : decode cX5_isLive 23 = .ok (.goto 4, 3) := by decide +kernel
theorem dX5_isLive_26 : decode cX5_isLive 26 = .ok (.iconst 0, 1) := by decide +kernel
theorem dX5_isLive_27 : decode cX5_isLive 27 = .ok (.ireturn, 1) := by decide +kernel
theorem dX5_relationOf_0 : decode cX5_relationOf 0 = .ok (.iload_n 1, 1) := by decide +kernel
theorem dX5_relationOf_1 : decode cX5_relationOf 1 = .ok (.ifCond .lt 21, 3) := by decide +kernel
theorem dX5_relationOf_4 : decode cX5_relationOf 4 = .ok (.iload_n 1, 1) := by decide +kernel
theorem dX5_relationOf_5 : decode cX5_relationOf 5 = .ok (.aload_n 0, 1) := by decide +kernel
theorem dX5_relationOf_6 : decode cX5_relationOf 6 = .ok (.getfield 21, 3) := by decide +kernel
theorem dX5_relationOf_9 : decode cX5_relationOf 9 = .ok (.arraylength, 1) := by decide +kernel
theorem dX5_relationOf_10 : decode cX5_relationOf 10 = .ok (.if_icmp .ge 12, 3) := by decide +kernel
theorem dX5_relationOf_13 : decode cX5_relationOf 13 = .ok (.aload_n 0, 1) := by decide +kernel
theorem dX5_relationOf_14 : decode cX5_relationOf 14 = .ok (.getfield 21, 3) := by decide +kernel
theorem dX5_relationOf_17 : decode cX5_relationOf 17 = .ok (.iload_n 1, 1) := by decide +kernel
theorem dX5_relationOf_18 : decode cX5_relationOf 18 = .ok (.caload, 1) := by decide +kernel
theorem dX5_relationOf_19 : decode cX5_relationOf 19 = .ok (.goto 5, 3) := by decide +kernel
theorem dX5_relationOf_22 : decode cX5_relationOf 22 = .ok (.bipush 61, 2) := by decide +kernel
theorem dX5_relationOf_24 : decode cX5_relationOf 24 = .ok (.ireturn, 1) := by decide +kernel
theorem dX5_numberOf_0 : decode cX5_numberOf 0 = .ok (.iload_n 1, 1) := by decide +kernel
theorem dX5_numberOf_1 : decode cX5_numberOf 1 = .ok (.ifCond .lt 21, 3) := by decide +kernel
theorem dX5_numberOf_4 : decode cX5_numberOf 4 = .ok (.iload_n 1, 1) := by decide +kernel
theorem dX5_numberOf_5 : decode cX5_numberOf 5 = .ok (.aload_n 0, 1) := by decide +kernel
theorem dX5_numberOf_6 : decode cX5_numberOf 6 = .ok (.getfield 25, 3) := by decide +kernel
theorem dX5_numberOf_9 : decode cX5_numberOf 9 = .ok (.arraylength, 1) := by decide +kernel
theorem dX5_numberOf_10 : decode cX5_numberOf 10 = .ok (.if_icmp .ge 12, 3) := by decide +kernel
theorem dX5_numberOf_13 : decode cX5_numberOf 13 = .ok (.aload_n 0, 1) := by decide +kernel
theorem dX5_numberOf_14 : decode cX5_numberOf 14 = .ok (.getfield 25, 3) := by decide +kernel
theorem dX5_numberOf_17 : decode cX5_numberOf 17 = .ok (.iload_n 1, 1) := by decide +kernel
theorem dX5_numberOf_18 : decode cX5_numberOf 18 = .ok (.iaload, 1) := by decide +kernel
theorem dX5_numberOf_19 : decode cX5_numberOf 19 = .ok (.goto 4, 3) := by decide +kernel
theorem dX5_numberOf_22 : decode cX5_numberOf 22 = .ok (.iconst 0, 1) := by decide +kernel
theorem dX5_numberOf_23 : decode cX5_numberOf 23 = .ok (.ireturn, 1) := by decide +kernel
theorem dX5_rowCoefficient_0 : decode cX5_rowCoefficient 0 = .ok (.iload_n 1, 1) := by decide +kernel
theorem dX5_rowCoefficient_1 : decode cX5_rowCoefficient 1 = .ok (.iconst 3, 1) := by decide +kernel
theorem dX5_rowCoefficient_2 : decode cX5_rowCoefficient 2 = .ok (.imul, 1) := by decide +kernel
theorem dX5_rowCoefficient_3 : decode cX5_rowCoefficient 3 = .ok (.iload_n 2, 1) := by decide +kernel
theorem dX5_rowCoefficient_4 : decode cX5_rowCoefficient 4 = .ok (.iadd, 1) := by decide +kernel
theorem dX5_rowCoefficient_5 : decode cX5_rowCoefficient 5 = .ok (.istore_n 3, 1) := by decide +kernel
theorem dX5_rowCoefficient_6 : decode cX5_rowCoefficient 6 = .ok (.iload_n 3, 1) := by decide +kernel
theorem dX5_rowCoefficient_7 : decode cX5_rowCoefficient 7 = .ok (.ifCond .lt 21, 3) := by decide +kernel
theorem dX5_rowCoefficient_10 : decode cX5_rowCoefficient 10 = .ok (.iload_n 3, 1) := by decide +kernel
theorem dX5_rowCoefficient_11 : decode cX5_rowCoefficient 11 = .ok (.aload_n 0, 1) := by decide +kernel
theorem dX5_rowCoefficient_12 : decode cX5_rowCoefficient 12 = .ok (.getfield 18, 3) := by decide +kernel
theorem dX5_rowCoefficient_15 : decode cX5_rowCoefficient 15 = .ok (.arraylength, 1) := by decide +kernel
theorem dX5_rowCoefficient_16 : decode cX5_rowCoefficient 16 = .ok (.if_icmp .ge 12, 3) := by decide +kernel
theorem dX5_rowCoefficient_19 : decode cX5_rowCoefficient 19 = .ok (.aload_n 0, 1) := by decide +kernel
theorem dX5_rowCoefficient_20 : decode cX5_rowCoefficient 20 = .ok (.getfield 18, 3) := by decide +kernel
theorem dX5_rowCoefficient_23 : decode cX5_rowCoefficient 23 = .ok (.iload_n 3, 1) := by decide +kernel
theorem dX5_rowCoefficient_24 : decode cX5_rowCoefficient 24 = .ok (.iaload, 1) := by decide +kernel
theorem dX5_rowCoefficient_25 : decode cX5_rowCoefficient 25 = .ok (.goto 4, 3) := by decide +kernel
theorem dX5_rowCoefficient_28 : decode cX5_rowCoefficient 28 = .ok (.iconst 0, 1) := by decide +kernel
theorem dX5_rowCoefficient_29 : decode cX5_rowCoefficient 29 = .ok (.ireturn, 1) := by decide +kernel
theorem dX5_aimCoefficient_0 : decode cX5_aimCoefficient 0 = .ok (.iload_n 1, 1) := by decide +kernel
theorem dX5_aimCoefficient_1 : decode cX5_aimCoefficient 1 = .ok (.iconst 3, 1) := by decide +kernel
theorem dX5_aimCoefficient_2 : decode cX5_aimCoefficient 2 = .ok (.imul, 1) := by decide +kernel
theorem dX5_aimCoefficient_3 : decode cX5_aimCoefficient 3 = .ok (.iload_n 2, 1) := by decide +kernel
theorem dX5_aimCoefficient_4 : decode cX5_aimCoefficient 4 = .ok (.iadd, 1) := by decide +kernel
theorem dX5_aimCoefficient_5 : decode cX5_aimCoefficient 5 = .ok (.istore_n 3, 1) := by decide +kernel
theorem dX5_aimCoefficient_6 : decode cX5_aimCoefficient 6 = .ok (.iload_n 3, 1) := by decide +kernel
theorem dX5_aimCoefficient_7 : decode cX5_aimCoefficient 7 = .ok (.ifCond .lt 21, 3) := by decide +kernel
theorem dX5_aimCoefficient_10 : decode cX5_aimCoefficient 10 = .ok (.iload_n 3, 1) := by decide +kernel
theorem dX5_aimCoefficient_11 : decode cX5_aimCoefficient 11 = .ok (.aload_n 0, 1) := by decide +kernel
theorem dX5_aimCoefficient_12 : decode cX5_aimCoefficient 12 = .ok (.getfield 32, 3) := by decide +kernel
theorem dX5_aimCoefficient_15 : decode cX5_aimCoefficient 15 = .ok (.arraylength, 1) := by decide +kernel
theorem dX5_aimCoefficient_16 : decode cX5_aimCoefficient 16 = .ok (.if_icmp .ge 12, 3) := by decide +kernel
theorem dX5_aimCoefficient_19 : decode cX5_aimCoefficient 19 = .ok (.aload_n 0, 1) := by decide +kernel
theorem dX5_aimCoefficient_20 : decode cX5_aimCoefficient 20 = .ok (.getfield 32, 3) := by decide +kernel
theorem dX5_aimCoefficient_23 : decode cX5_aimCoefficient 23 = .ok (.iload_n 3, 1) := by decide +kernel
theorem dX5_aimCoefficient_24 : decode cX5_aimCoefficient 24 = .ok (.iaload, 1) := by decide +kernel
theorem dX5_aimCoefficient_25 : decode cX5_aimCoefficient 25 = .ok (.goto 4, 3) := by decide +kernel
theorem dX5_aimCoefficient_28 : decode cX5_aimCoefficient 28 = .ok (.iconst 0, 1) := by decide +kernel
theorem dX5_aimCoefficient_29 : decode cX5_aimCoefficient 29 = .ok (.ireturn, 1) := by decide +kernel
theorem dX5_directionOf_0 : decode cX5_directionOf 0 = .ok (.iload_n 1, 1) := by decide +kernel
theorem dX5_directionOf_1 : decode cX5_directionOf 1 = .ok (.ifCond .lt 21, 3) := by decide +kernel
theorem dX5_directionOf_4 : decode cX5_directionOf 4 = .ok (.iload_n 1, 1) := by decide +kernel
theorem dX5_directionOf_5 : decode cX5_directionOf 5 = .ok (.aload_n 0, 1) := by decide +kernel
theorem dX5_directionOf_6 : decode cX5_directionOf 6 = .ok (.getfield 35, 3) := by decide +kernel
theorem dX5_directionOf_9 : decode cX5_directionOf 9 = .ok (.arraylength, 1) := by decide +kernel
theorem dX5_directionOf_10 : decode cX5_directionOf 10 = .ok (.if_icmp .ge 12, 3) := by decide +kernel
theorem dX5_directionOf_13 : decode cX5_directionOf 13 = .ok (.aload_n 0, 1) := by decide +kernel
theorem dX5_directionOf_14 : decode cX5_directionOf 14 = .ok (.getfield 35, 3) := by decide +kernel
theorem dX5_directionOf_17 : decode cX5_directionOf 17 = .ok (.iload_n 1, 1) := by decide +kernel
theorem dX5_directionOf_18 : decode cX5_directionOf 18 = .ok (.iaload, 1) := by decide +kernel
theorem dX5_directionOf_19 : decode cX5_directionOf 19 = .ok (.goto 4, 3) := by decide +kernel
theorem dX5_directionOf_22 : decode cX5_directionOf 22 = .ok (.iconst 1, 1) := by decide +kernel
theorem dX5_directionOf_23 : decode cX5_directionOf 23 = .ok (.ireturn, 1) := by decide +kernel
theorem dX5_aimSum_0 : decode cX5_aimSum 0 = .ok (.lconst 0, 1) := by decide +kernel
theorem dX5_aimSum_1 : decode cX5_aimSum 1 = .ok (.lstore_n 3, 1) := by decide +kernel
theorem dX5_aimSum_2 : decode cX5_aimSum 2 = .ok (.iconst 0, 1) := by decide +kernel
theorem dX5_aimSum_3 : decode cX5_aimSum 3 = .ok (.istore 5, 2) := by decide +kernel
theorem dX5_aimSum_5 : decode cX5_aimSum 5 = .ok (.iload 5, 2) := by decide +kernel
theorem dX5_aimSum_7 : decode cX5_aimSum 7 = .ok (.iconst 3, 1) := by decide +kernel
theorem dX5_aimSum_8 : decode cX5_aimSum 8 = .ok (.if_icmp .ge 27, 3) := by decide +kernel
theorem dX5_aimSum_11 : decode cX5_aimSum 11 = .ok (.lload_n 3, 1) := by decide +kernel
theorem dX5_aimSum_12 : decode cX5_aimSum 12 = .ok (.aload_n 0, 1) := by decide +kernel
theorem dX5_aimSum_13 : decode cX5_aimSum 13 = .ok (.iload_n 1, 1) := by decide +kernel
theorem dX5_aimSum_14 : decode cX5_aimSum 14 = .ok (.iload 5, 2) := by decide +kernel
theorem dX5_aimSum_16 : decode cX5_aimSum 16 = .ok (.invokevirtual 89, 3) := by decide +kernel
theorem dX5_aimSum_19 : decode cX5_aimSum 19 = .ok (.i2l, 1) := by decide +kernel
theorem dX5_aimSum_20 : decode cX5_aimSum 20 = .ok (.aload_n 2, 1) := by decide +kernel
theorem dX5_aimSum_21 : decode cX5_aimSum 21 = .ok (.iload 5, 2) := by decide +kernel
theorem dX5_aimSum_23 : decode cX5_aimSum 23 = .ok (.invokevirtual 93, 3) := by decide +kernel
theorem dX5_aimSum_26 : decode cX5_aimSum 26 = .ok (.lmul, 1) := by decide +kernel
theorem dX5_aimSum_27 : decode cX5_aimSum 27 = .ok (.ladd, 1) := by decide +kernel
theorem dX5_aimSum_28 : decode cX5_aimSum 28 = .ok (.lstore_n 3, 1) := by decide +kernel
theorem dX5_aimSum_29 : decode cX5_aimSum 29 = .ok (.iinc 5 1, 3) := by decide +kernel
theorem dX5_aimSum_32 : decode cX5_aimSum 32 = .ok (.goto (-27), 3) := by decide +kernel
theorem dX5_aimSum_35 : decode cX5_aimSum 35 = .ok (.lload_n 3, 1) := by decide +kernel
theorem dX5_aimSum_36 : decode cX5_aimSum 36 = .ok (.lreturn, 1) := by decide +kernel
theorem dX5_sideOf_0 : decode cX5_sideOf 0 = .ok (.lconst 0, 1) := by decide +kernel
theorem dX5_sideOf_1 : decode cX5_sideOf 1 = .ok (.lstore_n 3, 1) := by decide +kernel
theorem dX5_sideOf_2 : decode cX5_sideOf 2 = .ok (.iconst 0, 1) := by decide +kernel
theorem dX5_sideOf_3 : decode cX5_sideOf 3 = .ok (.istore 5, 2) := by decide +kernel
theorem dX5_sideOf_5 : decode cX5_sideOf 5 = .ok (.iload 5, 2) := by decide +kernel
theorem dX5_sideOf_7 : decode cX5_sideOf 7 = .ok (.iconst 3, 1) := by decide +kernel
theorem dX5_sideOf_8 : decode cX5_sideOf 8 = .ok (.if_icmp .ge 27, 3) := by decide +kernel
theorem dX5_sideOf_11 : decode cX5_sideOf 11 = .ok (.lload_n 3, 1) := by decide +kernel
theorem dX5_sideOf_12 : decode cX5_sideOf 12 = .ok (.aload_n 0, 1) := by decide +kernel
theorem dX5_sideOf_13 : decode cX5_sideOf 13 = .ok (.iload_n 1, 1) := by decide +kernel
theorem dX5_sideOf_14 : decode cX5_sideOf 14 = .ok (.iload 5, 2) := by decide +kernel
theorem dX5_sideOf_16 : decode cX5_sideOf 16 = .ok (.invokevirtual 99, 3) := by decide +kernel
theorem dX5_sideOf_19 : decode cX5_sideOf 19 = .ok (.i2l, 1) := by decide +kernel
theorem dX5_sideOf_20 : decode cX5_sideOf 20 = .ok (.aload_n 2, 1) := by decide +kernel
theorem dX5_sideOf_21 : decode cX5_sideOf 21 = .ok (.iload 5, 2) := by decide +kernel
theorem dX5_sideOf_23 : decode cX5_sideOf 23 = .ok (.invokevirtual 93, 3) := by decide +kernel
theorem dX5_sideOf_26 : decode cX5_sideOf 26 = .ok (.lmul, 1) := by decide +kernel
theorem dX5_sideOf_27 : decode cX5_sideOf 27 = .ok (.ladd, 1) := by decide +kernel
theorem dX5_sideOf_28 : decode cX5_sideOf 28 = .ok (.lstore_n 3, 1) := by decide +kernel
theorem dX5_sideOf_29 : decode cX5_sideOf 29 = .ok (.iinc 5 1, 3) := by decide +kernel
theorem dX5_sideOf_32 : decode cX5_sideOf 32 = .ok (.goto (-27), 3) := by decide +kernel
theorem dX5_sideOf_35 : decode cX5_sideOf 35 = .ok (.lload_n 3, 1) := by decide +kernel
theorem dX5_sideOf_36 : decode cX5_sideOf 36 = .ok (.aload_n 0, 1) := by decide +kernel
theorem dX5_sideOf_37 : decode cX5_sideOf 37 = .ok (.iload_n 1, 1) := by decide +kernel
theorem dX5_sideOf_38 : decode cX5_sideOf 38 = .ok (.invokevirtual 102, 3) := by decide +kernel
theorem dX5_sideOf_41 : decode cX5_sideOf 41 = .ok (.i2l, 1) := by decide +kernel
theorem dX5_sideOf_42 : decode cX5_sideOf 42 = .ok (.aload_n 2, 1) := by decide +kernel
theorem dX5_sideOf_43 : decode cX5_sideOf 43 = .ok (.getfield 105, 3) := by decide +kernel
theorem dX5_sideOf_46 : decode cX5_sideOf 46 = .ok (.lmul, 1) := by decide +kernel
theorem dX5_sideOf_47 : decode cX5_sideOf 47 = .ok (.invokestatic 109, 3) := by decide +kernel
theorem dX5_sideOf_50 : decode cX5_sideOf 50 = .ok (.ireturn, 1) := by decide +kernel
theorem dX5_allows_0 : decode cX5_allows 0 = .ok (.iload_n 1, 1) := by decide +kernel
theorem dX5_allows_1 : decode cX5_allows 1 = .ok (.ifCond .eq 23, 3) := by decide +kernel
theorem dX5_allows_4 : decode cX5_allows 4 = .ok (.iload_n 1, 1) := by decide +kernel
theorem dX5_allows_5 : decode cX5_allows 5 = .ok (.ifCond .ge 9, 3) := by decide +kernel
theorem dX5_allows_8 : decode cX5_allows 8 = .ok (.iload_n 0, 1) := by decide +kernel
theorem dX5_allows_9 : decode cX5_allows 9 = .ok (.bipush 60, 2) := by decide +kernel
theorem dX5_allows_11 : decode cX5_allows 11 = .ok (.if_icmp .eq 13, 3) := by decide +kernel
theorem dX5_allows_14 : decode cX5_allows 14 = .ok (.iload_n 1, 1) := by decide +kernel
theorem dX5_allows_15 : decode cX5_allows 15 = .ok (.ifCond .le 13, 3) := by decide +kernel
theorem dX5_allows_18 : decode cX5_allows 18 = .ok (.iload_n 0, 1) := by decide +kernel
theorem dX5_allows_19 : decode cX5_allows 19 = .ok (.bipush 62, 2) := by decide +kernel
theorem dX5_allows_21 : decode cX5_allows 21 = .ok (.if_icmp .ne 7, 3) := by decide +kernel
theorem dX5_allows_24 : decode cX5_allows 24 = .ok (.iconst 1, 1) := by decide +kernel
theorem dX5_allows_25 : decode cX5_allows 25 = .ok (.goto 4, 3) := by decide +kernel
theorem dX5_allows_28 : decode cX5_allows 28 = .ok (.iconst 0, 1) := by decide +kernel
theorem dX5_allows_29 : decode cX5_allows 29 = .ok (.ireturn, 1) := by decide +kernel
theorem dX5_isWithin_0 : decode cX5_isWithin 0 = .ok (.aload_n 2, 1) := by decide +kernel
theorem dX5_isWithin_1 : decode cX5_isWithin 1 = .ok (.iload_n 1, 1) := by decide +kernel
theorem dX5_isWithin_2 : decode cX5_isWithin 2 = .ok (.invokevirtual 93, 3) := by decide +kernel
theorem dX5_isWithin_5 : decode cX5_isWithin 5 = .ok (.lstore_n 3, 1) := by decide +kernel
theorem dX5_isWithin_6 : decode cX5_isWithin 6 = .ok (.lload_n 3, 1) := by decide +kernel
theorem dX5_isWithin_7 : decode cX5_isWithin 7 = .ok (.aload_n 0, 1) := by decide +kernel
theorem dX5_isWithin_8 : decode cX5_isWithin 8 = .ok (.iload_n 1, 1) := by decide +kernel
theorem dX5_isWithin_9 : decode cX5_isWithin 9 = .ok (.invokevirtual 54, 3) := by decide +kernel
theorem dX5_isWithin_12 : decode cX5_isWithin 12 = .ok (.i2l, 1) := by decide +kernel
theorem dX5_isWithin_13 : decode cX5_isWithin 13 = .ok (.aload_n 2, 1) := by decide +kernel
theorem dX5_isWithin_14 : decode cX5_isWithin 14 = .ok (.getfield 105, 3) := by decide +kernel
theorem dX5_isWithin_17 : decode cX5_isWithin 17 = .ok (.lmul, 1) := by decide +kernel
theorem dX5_isWithin_18 : decode cX5_isWithin 18 = .ok (.lcmp, 1) := by decide +kernel
theorem dX5_isWithin_19 : decode cX5_isWithin 19 = .ok (.ifCond .lt 31, 3) := by decide +kernel
theorem dX5_isWithin_22 : decode cX5_isWithin 22 = .ok (.aload_n 0, 1) := by decide +kernel
theorem dX5_isWithin_23 : decode cX5_isWithin 23 = .ok (.iload_n 1, 1) := by decide +kernel
theorem dX5_isWithin_24 : decode cX5_isWithin 24 = .ok (.invokevirtual 50, 3) := by decide +kernel
theorem dX5_isWithin_27 : decode cX5_isWithin 27 = .ok (.ifCond .eq 19, 3) := by decide +kernel
theorem dX5_isWithin_30 : decode cX5_isWithin 30 = .ok (.lload_n 3, 1) := by decide +kernel
theorem dX5_isWithin_31 : decode cX5_isWithin 31 = .ok (.aload_n 0, 1) := by decide +kernel
theorem dX5_isWithin_32 : decode cX5_isWithin 32 = .ok (.iload_n 1, 1) := by decide +kernel
theorem dX5_isWithin_33 : decode cX5_isWithin 33 = .ok (.invokevirtual 38, 3) := by decide +kernel
theorem dX5_isWithin_36 : decode cX5_isWithin 36 = .ok (.i2l, 1) := by decide +kernel
theorem dX5_isWithin_37 : decode cX5_isWithin 37 = .ok (.aload_n 2, 1) := by decide +kernel
theorem dX5_isWithin_38 : decode cX5_isWithin 38 = .ok (.getfield 105, 3) := by decide +kernel
theorem dX5_isWithin_41 : decode cX5_isWithin 41 = .ok (.lmul, 1) := by decide +kernel
theorem dX5_isWithin_42 : decode cX5_isWithin 42 = .ok (.lcmp, 1) := by decide +kernel
theorem dX5_isWithin_43 : decode cX5_isWithin 43 = .ok (.ifCond .gt 7, 3) := by decide +kernel
theorem dX5_isWithin_46 : decode cX5_isWithin 46 = .ok (.iconst 1, 1) := by decide +kernel
theorem dX5_isWithin_47 : decode cX5_isWithin 47 = .ok (.goto 4, 3) := by decide +kernel
theorem dX5_isWithin_50 : decode cX5_isWithin 50 = .ok (.iconst 0, 1) := by decide +kernel
theorem dX5_isWithin_51 : decode cX5_isWithin 51 = .ok (.ireturn, 1) := by decide +kernel
theorem dX5_breakerOf_0 : decode cX5_breakerOf 0 = .ok (.iconst 0, 1) := by decide +kernel
theorem dX5_breakerOf_1 : decode cX5_breakerOf 1 = .ok (.istore_n 2, 1) := by decide +kernel
theorem dX5_breakerOf_2 : decode cX5_breakerOf 2 = .ok (.iload_n 2, 1) := by decide +kernel
theorem dX5_breakerOf_3 : decode cX5_breakerOf 3 = .ok (.aload_n 0, 1) := by decide +kernel
theorem dX5_breakerOf_4 : decode cX5_breakerOf 4 = .ok (.getfield 42, 3) := by decide +kernel
theorem dX5_breakerOf_7 : decode cX5_breakerOf 7 = .ok (.if_icmp .ge 22, 3) := by decide +kernel
theorem dX5_breakerOf_10 : decode cX5_breakerOf 10 = .ok (.aload_n 0, 1) := by decide +kernel
theorem dX5_breakerOf_11 : decode cX5_breakerOf 11 = .ok (.iload_n 2, 1) := by decide +kernel
theorem dX5_breakerOf_12 : decode cX5_breakerOf 12 = .ok (.aload_n 1, 1) := by decide +kernel
theorem dX5_breakerOf_13 : decode cX5_breakerOf 13 = .ok (.invokevirtual 115, 3) := by decide +kernel
theorem dX5_breakerOf_16 : decode cX5_breakerOf 16 = .ok (.ifCond .ne 7, 3) := by decide +kernel
theorem dX5_breakerOf_19 : decode cX5_breakerOf 19 = .ok (.iload_n 2, 1) := by decide +kernel
theorem dX5_breakerOf_20 : decode cX5_breakerOf 20 = .ok (.iconst 3, 1) := by decide +kernel
theorem dX5_breakerOf_21 : decode cX5_breakerOf 21 = .ok (.isub, 1) := by decide +kernel
theorem dX5_breakerOf_22 : decode cX5_breakerOf 22 = .ok (.ireturn, 1) := by decide +kernel
theorem dX5_breakerOf_23 : decode cX5_breakerOf 23 = .ok (.iinc 2 1, 3) := by decide +kernel
theorem dX5_breakerOf_26 : decode cX5_breakerOf 26 = .ok (.goto (-24), 3) := by decide +kernel
theorem dX5_breakerOf_29 : decode cX5_breakerOf 29 = .ok (.iconst 0, 1) := by decide +kernel
theorem dX5_breakerOf_30 : decode cX5_breakerOf 30 = .ok (.istore_n 2, 1) := by decide +kernel
theorem dX5_breakerOf_31 : decode cX5_breakerOf 31 = .ok (.iload_n 2, 1) := by decide +kernel
theorem dX5_breakerOf_32 : decode cX5_breakerOf 32 = .ok (.aload_n 0, 1) := by decide +kernel
theorem dX5_breakerOf_33 : decode cX5_breakerOf 33 = .ok (.getfield 57, 3) := by decide +kernel
theorem dX5_breakerOf_36 : decode cX5_breakerOf 36 = .ok (.if_icmp .ge 36, 3) := by decide +kernel
theorem dX5_breakerOf_39 : decode cX5_breakerOf 39 = .ok (.aload_n 0, 1) := by decide +kernel
theorem dX5_breakerOf_40 : decode cX5_breakerOf 40 = .ok (.iload_n 2, 1) := by decide +kernel
theorem dX5_breakerOf_41 : decode cX5_breakerOf 41 = .ok (.invokevirtual 119, 3) := by decide +kernel
theorem dX5_breakerOf_44 : decode cX5_breakerOf 44 = .ok (.ifCond .eq 22, 3) := by decide +kernel
theorem dX5_breakerOf_47 : decode cX5_breakerOf 47 = .ok (.aload_n 0, 1) := by decide +kernel
theorem dX5_breakerOf_48 : decode cX5_breakerOf 48 = .ok (.iload_n 2, 1) := by decide +kernel
theorem dX5_breakerOf_49 : decode cX5_breakerOf 49 = .ok (.invokevirtual 122, 3) := by decide +kernel
theorem dX5_breakerOf_52 : decode cX5_breakerOf 52 = .ok (.aload_n 0, 1) := by decide +kernel
theorem dX5_breakerOf_53 : decode cX5_breakerOf 53 = .ok (.iload_n 2, 1) := by decide +kernel
theorem dX5_breakerOf_54 : decode cX5_breakerOf 54 = .ok (.aload_n 1, 1) := by decide +kernel
theorem dX5_breakerOf_55 : decode cX5_breakerOf 55 = .ok (.invokevirtual 126, 3) := by decide +kernel
theorem dX5_breakerOf_58 : decode cX5_breakerOf 58 = .ok (.invokestatic 130, 3) := by decide +kernel
theorem dX5_breakerOf_61 : decode cX5_breakerOf 61 = .ok (.ifCond .ne 5, 3) := by decide +kernel
theorem dX5_breakerOf_64 : decode cX5_breakerOf 64 = .ok (.iload_n 2, 1) := by decide +kernel
theorem dX5_breakerOf_65 : decode cX5_breakerOf 65 = .ok (.ireturn, 1) := by decide +kernel
theorem dX5_breakerOf_66 : decode cX5_breakerOf 66 = .ok (.iinc 2 1, 3) := by decide +kernel
theorem dX5_breakerOf_69 : decode cX5_breakerOf 69 = .ok (.goto (-38), 3) := by decide +kernel
theorem dX5_breakerOf_72 : decode cX5_breakerOf 72 = .ok (.bipush 100, 2) := by decide +kernel
theorem dX5_breakerOf_74 : decode cX5_breakerOf 74 = .ok (.ireturn, 1) := by decide +kernel
theorem dX5_tightRows_0 : decode cX5_tightRows 0 = .ok (.iconst 0, 1) := by decide +kernel
theorem dX5_tightRows_1 : decode cX5_tightRows 1 = .ok (.istore_n 2, 1) := by decide +kernel
theorem dX5_tightRows_2 : decode cX5_tightRows 2 = .ok (.iconst 0, 1) := by decide +kernel
theorem dX5_tightRows_3 : decode cX5_tightRows 3 = .ok (.istore_n 3, 1) := by decide +kernel
theorem dX5_tightRows_4 : decode cX5_tightRows 4 = .ok (.iload_n 3, 1) := by decide +kernel
theorem dX5_tightRows_5 : decode cX5_tightRows 5 = .ok (.aload_n 0, 1) := by decide +kernel
theorem dX5_tightRows_6 : decode cX5_tightRows 6 = .ok (.getfield 57, 3) := by decide +kernel
theorem dX5_tightRows_9 : decode cX5_tightRows 9 = .ok (.if_icmp .ge 29, 3) := by decide +kernel
theorem dX5_tightRows_12 : decode cX5_tightRows 12 = .ok (.aload_n 0, 1) := by decide +kernel
theorem dX5_tightRows_13 : decode cX5_tightRows 13 = .ok (.iload_n 3, 1) := by decide +kernel
theorem dX5_tightRows_14 : decode cX5_tightRows 14 = .ok (.invokevirtual 119, 3) := by decide +kernel
theorem dX5_tightRows_17 : decode cX5_tightRows 17 = .ok (.ifCond .eq 15, 3) := by decide +kernel
theorem dX5_tightRows_20 : decode cX5_tightRows 20 = .ok (.aload_n 0, 1) := by decide +kernel
theorem dX5_tightRows_21 : decode cX5_tightRows 21 = .ok (.iload_n 3, 1) := by decide +kernel
theorem dX5_tightRows_22 : decode cX5_tightRows 22 = .ok (.aload_n 1, 1) := by decide +kernel
theorem dX5_tightRows_23 : decode cX5_tightRows 23 = .ok (.invokevirtual 126, 3) := by decide +kernel
theorem dX5_tightRows_26 : decode cX5_tightRows 26 = .ok (.ifCond .ne 6, 3) := by decide +kernel
theorem dX5_tightRows_29 : decode cX5_tightRows 29 = .ok (.iinc 2 1, 3) := by decide +kernel
theorem dX5_tightRows_32 : decode cX5_tightRows 32 = .ok (.iinc 3 1, 3) := by decide +kernel
theorem dX5_tightRows_35 : decode cX5_tightRows 35 = .ok (.goto (-31), 3) := by decide +kernel
theorem dX5_tightRows_38 : decode cX5_tightRows 38 = .ok (.iload_n 2, 1) := by decide +kernel
theorem dX5_tightRows_39 : decode cX5_tightRows 39 = .ok (.ireturn, 1) := by decide +kernel
theorem dX5_tightBounds_0 : decode cX5_tightBounds 0 = .ok (.iconst 0, 1) := by decide +kernel
theorem dX5_tightBounds_1 : decode cX5_tightBounds 1 = .ok (.istore_n 2, 1) := by decide +kernel
theorem dX5_tightBounds_2 : decode cX5_tightBounds 2 = .ok (.iconst 0, 1) := by decide +kernel
theorem dX5_tightBounds_3 : decode cX5_tightBounds 3 = .ok (.istore_n 3, 1) := by decide +kernel
theorem dX5_tightBounds_4 : decode cX5_tightBounds 4 = .ok (.iload_n 3, 1) := by decide +kernel
theorem dX5_tightBounds_5 : decode cX5_tightBounds 5 = .ok (.aload_n 0, 1) := by decide +kernel
theorem dX5_tightBounds_6 : decode cX5_tightBounds 6 = .ok (.getfield 42, 3) := by decide +kernel
theorem dX5_tightBounds_9 : decode cX5_tightBounds 9 = .ok (.if_icmp .ge 64, 3) := by decide +kernel
theorem dX5_tightBounds_12 : decode cX5_tightBounds 12 = .ok (.aload_n 1, 1) := by decide +kernel
theorem dX5_tightBounds_13 : decode cX5_tightBounds 13 = .ok (.iload_n 3, 1) := by decide +kernel
theorem dX5_tightBounds_14 : decode cX5_tightBounds 14 = .ok (.invokevirtual 93, 3) := by decide +kernel
theorem dX5_tightBounds_17 : decode cX5_tightBounds 17 = .ok (.lstore 4, 2) := by decide +kernel
theorem dX5_tightBounds_19 : decode cX5_tightBounds 19 = .ok (.lload 4, 2) := by decide +kernel
theorem dX5_tightBounds_21 : decode cX5_tightBounds 21 = .ok (.aload_n 0, 1) := by decide +kernel
theorem dX5_tightBounds_22 : decode cX5_tightBounds 22 = .ok (.iload_n 3, 1) := by decide +kernel
theorem dX5_tightBounds_23 : decode cX5_tightBounds 23 = .ok (.invokevirtual 54, 3) := by decide +kernel
theorem dX5_tightBounds_26 : decode cX5_tightBounds 26 = .ok (.i2l, 1) := by decide +kernel
theorem dX5_tightBounds_27 : decode cX5_tightBounds 27 = .ok (.aload_n 1, 1) := by decide +kernel
theorem dX5_tightBounds_28 : decode cX5_tightBounds 28 = .ok (.getfield 105, 3) := by decide +kernel
theorem dX5_tightBounds_31 : decode cX5_tightBounds 31 = .ok (.lmul, 1) := by decide +kernel
theorem dX5_tightBounds_32 : decode cX5_tightBounds 32 = .ok (.lcmp, 1) := by decide +kernel
theorem dX5_tightBounds_33 : decode cX5_tightBounds 33 = .ok (.ifCond .ne 6, 3) := by decide +kernel
theorem dX5_tightBounds_36 : decode cX5_tightBounds 36 = .ok (.iinc 2 1, 3) := by decide +kernel
theorem dX5_tightBounds_39 : decode cX5_tightBounds 39 = .ok (.aload_n 0, 1) := by decide +kernel
theorem dX5_tightBounds_40 : decode cX5_tightBounds 40 = .ok (.iload_n 3, 1) := by decide +kernel
theorem dX5_tightBounds_41 : decode cX5_tightBounds 41 = .ok (.invokevirtual 50, 3) := by decide +kernel
theorem dX5_tightBounds_44 : decode cX5_tightBounds 44 = .ok (.ifCond .eq 23, 3) := by decide +kernel
theorem dX5_tightBounds_47 : decode cX5_tightBounds 47 = .ok (.lload 4, 2) := by decide +kernel
theorem dX5_tightBounds_49 : decode cX5_tightBounds 49 = .ok (.aload_n 0, 1) := by decide +kernel
theorem dX5_tightBounds_50 : decode cX5_tightBounds 50 = .ok (.iload_n 3, 1) := by decide +kernel
theorem dX5_tightBounds_51 : decode cX5_tightBounds 51 = .ok (.invokevirtual 38, 3) := by decide +kernel
theorem dX5_tightBounds_54 : decode cX5_tightBounds 54 = .ok (.i2l, 1) := by decide +kernel
theorem dX5_tightBounds_55 : decode cX5_tightBounds 55 = .ok (.aload_n 1, 1) := by decide +kernel
theorem dX5_tightBounds_56 : decode cX5_tightBounds 56 = .ok (.getfield 105, 3) := by decide +kernel
theorem dX5_tightBounds_59 : decode cX5_tightBounds 59 = .ok (.lmul, 1) := by decide +kernel
theorem dX5_tightBounds_60 : decode cX5_tightBounds 60 = .ok (.lcmp, 1) := by decide +kernel
theorem dX5_tightBounds_61 : decode cX5_tightBounds 61 = .ok (.ifCond .ne 6, 3) := by decide +kernel
theorem dX5_tightBounds_64 : decode cX5_tightBounds 64 = .ok (.iinc 2 1, 3) := by decide +kernel
theorem dX5_tightBounds_67 : decode cX5_tightBounds 67 = .ok (.iinc 3 1, 3) := by decide +kernel
theorem dX5_tightBounds_70 : decode cX5_tightBounds 70 = .ok (.goto (-66), 3) := by decide +kernel
theorem dX5_tightBounds_73 : decode cX5_tightBounds 73 = .ok (.iload_n 2, 1) := by decide +kernel
theorem dX5_tightBounds_74 : decode cX5_tightBounds 74 = .ok (.ireturn, 1) := by decide +kernel
theorem dX5_compareByAims_0 : decode cX5_compareByAims 0 = .ok (.iconst 0, 1) := by decide +kernel
theorem dX5_compareByAims_1 : decode cX5_compareByAims 1 = .ok (.istore_n 3, 1) := by decide +kernel
theorem dX5_compareByAims_2 : decode cX5_compareByAims 2 = .ok (.iload_n 3, 1) := by decide +kernel
theorem dX5_compareByAims_3 : decode cX5_compareByAims 3 = .ok (.aload_n 0, 1) := by decide +kernel
theorem dX5_compareByAims_4 : decode cX5_compareByAims 4 = .ok (.getfield 63, 3) := by decide +kernel
theorem dX5_compareByAims_7 : decode cX5_compareByAims 7 = .ok (.if_icmp .ge 66, 3) := by decide +kernel
theorem dX5_compareByAims_10 : decode cX5_compareByAims 10 = .ok (.aload_n 0, 1) := by decide +kernel
theorem dX5_compareByAims_11 : decode cX5_compareByAims 11 = .ok (.iload_n 3, 1) := by decide +kernel
theorem dX5_compareByAims_12 : decode cX5_compareByAims 12 = .ok (.aload_n 1, 1) := by decide +kernel
theorem dX5_compareByAims_13 : decode cX5_compareByAims 13 = .ok (.invokevirtual 134, 3) := by decide +kernel
theorem dX5_compareByAims_16 : decode cX5_compareByAims 16 = .ok (.aload_n 2, 1) := by decide +kernel
theorem dX5_compareByAims_17 : decode cX5_compareByAims 17 = .ok (.getfield 105, 3) := by decide +kernel
theorem dX5_compareByAims_20 : decode cX5_compareByAims 20 = .ok (.lmul, 1) := by decide +kernel
theorem dX5_compareByAims_21 : decode cX5_compareByAims 21 = .ok (.lstore 4, 2) := by decide +kernel
theorem dX5_compareByAims_23 : decode cX5_compareByAims 23 = .ok (.aload_n 0, 1) := by decide +kernel
theorem dX5_compareByAims_24 : decode cX5_compareByAims 24 = .ok (.iload_n 3, 1) := by decide +kernel
theorem dX5_compareByAims_25 : decode cX5_compareByAims 25 = .ok (.aload_n 2, 1) := by decide +kernel
theorem dX5_compareByAims_26 : decode cX5_compareByAims 26 = .ok (.invokevirtual 134, 3) := by decide +kernel
theorem dX5_compareByAims_29 : decode cX5_compareByAims 29 = .ok (.aload_n 1, 1) := by decide +kernel
theorem dX5_compareByAims_30 : decode cX5_compareByAims 30 = .ok (.getfield 105, 3) := by decide +kernel
theorem dX5_compareByAims_33 : decode cX5_compareByAims 33 = .ok (.lmul, 1) := by decide +kernel
theorem dX5_compareByAims_34 : decode cX5_compareByAims 34 = .ok (.lstore 6, 2) := by decide +kernel
theorem dX5_compareByAims_36 : decode cX5_compareByAims 36 = .ok (.lload 4, 2) := by decide +kernel
theorem dX5_compareByAims_38 : decode cX5_compareByAims 38 = .ok (.lload 6, 2) := by decide +kernel
theorem dX5_compareByAims_40 : decode cX5_compareByAims 40 = .ok (.lcmp, 1) := by decide +kernel
theorem dX5_compareByAims_41 : decode cX5_compareByAims 41 = .ok (.ifCond .eq 26, 3) := by decide +kernel
theorem dX5_compareByAims_44 : decode cX5_compareByAims 44 = .ok (.lload 4, 2) := by decide +kernel
theorem dX5_compareByAims_46 : decode cX5_compareByAims 46 = .ok (.lload 6, 2) := by decide +kernel
theorem dX5_compareByAims_48 : decode cX5_compareByAims 48 = .ok (.lcmp, 1) := by decide +kernel
theorem dX5_compareByAims_49 : decode cX5_compareByAims 49 = .ok (.ifCond .le 11, 3) := by decide +kernel
theorem dX5_compareByAims_52 : decode cX5_compareByAims 52 = .ok (.aload_n 0, 1) := by decide +kernel
theorem dX5_compareByAims_53 : decode cX5_compareByAims 53 = .ok (.iload_n 3, 1) := by decide +kernel
theorem dX5_compareByAims_54 : decode cX5_compareByAims 54 = .ok (.invokevirtual 138, 3) := by decide +kernel
theorem dX5_compareByAims_57 : decode cX5_compareByAims 57 = .ok (.goto 9, 3) := by decide +kernel
theorem dX5_compareByAims_60 : decode cX5_compareByAims 60 = .ok (.aload_n 0, 1) := by decide +kernel
theorem dX5_compareByAims_61 : decode cX5_compareByAims 61 = .ok (.iload_n 3, 1) := by decide +kernel
theorem dX5_compareByAims_62 : decode cX5_compareByAims 62 = .ok (.invokevirtual 138, 3) := by decide +kernel
theorem dX5_compareByAims_65 : decode cX5_compareByAims 65 = .ok (.ineg, 1) := by decide +kernel
theorem dX5_compareByAims_66 : decode cX5_compareByAims 66 = .ok (.ireturn, 1) := by decide +kernel
theorem dX5_compareByAims_67 : decode cX5_compareByAims 67 = .ok (.iinc 3 1, 3) := by decide +kernel
theorem dX5_compareByAims_70 : decode cX5_compareByAims 70 = .ok (.goto (-68), 3) := by decide +kernel
theorem dX5_compareByAims_73 : decode cX5_compareByAims 73 = .ok (.iconst 0, 1) := by decide +kernel
theorem dX5_compareByAims_74 : decode cX5_compareByAims 74 = .ok (.ireturn, 1) := by decide +kernel
theorem dX6_init_0 : decode cX6_init 0 = .ok (.aload_n 0, 1) := by decide +kernel
theorem dX6_init_1 : decode cX6_init 1 = .ok (.invokespecial 3, 3) := by decide +kernel
theorem dX6_init_4 : decode cX6_init 4 = .ok (.aload_n 0, 1) := by decide +kernel
theorem dX6_init_5 : decode cX6_init 5 = .ok (.iconst 3, 1) := by decide +kernel
theorem dX6_init_6 : decode cX6_init 6 = .ok (.newarray .long, 2) := by decide +kernel
theorem dX6_init_8 : decode cX6_init 8 = .ok (.putfield 9, 3) := by decide +kernel
theorem dX6_init_11 : decode cX6_init 11 = .ok (.aload_n 0, 1) := by decide +kernel
theorem dX6_init_12 : decode cX6_init 12 = .ok (.aload_n 1, 1) := by decide +kernel
theorem dX6_init_13 : decode cX6_init 13 = .ok (.putfield 15, 3) := by decide +kernel
theorem dX6_init_16 : decode cX6_init 16 = .ok (.aload_n 0, 1) := by decide +kernel
theorem dX6_init_17 : decode cX6_init 17 = .ok (.aload_n 2, 1) := by decide +kernel
theorem dX6_init_18 : decode cX6_init 18 = .ok (.putfield 19, 3) := by decide +kernel
theorem dX6_init_21 : decode cX6_init 21 = .ok (.return_, 1) := by decide +kernel
theorem dX6_isSound_0 : decode cX6_isSound 0 = .ok (.aload_n 0, 1) := by decide +kernel
theorem dX6_isSound_1 : decode cX6_isSound 1 = .ok (.getfield 19, 3) := by decide +kernel
theorem dX6_isSound_4 : decode cX6_isSound 4 = .ok (.getfield 23, 3) := by decide +kernel
theorem dX6_isSound_7 : decode cX6_isSound 7 = .ok (.bipush 105, 2) := by decide +kernel
theorem dX6_isSound_9 : decode cX6_isSound 9 = .ok (.if_icmp .ne 8, 3) := by decide +kernel
theorem dX6_isSound_12 : decode cX6_isSound 12 = .ok (.aload_n 0, 1) := by decide +kernel
theorem dX6_isSound_13 : decode cX6_isSound 13 = .ok (.invokevirtual 29, 3) := by decide +kernel
theorem dX6_isSound_16 : decode cX6_isSound 16 = .ok (.ireturn, 1) := by decide +kernel
theorem dX6_isSound_17 : decode cX6_isSound 17 = .ok (.aload_n 0, 1) := by decide +kernel
theorem dX6_isSound_18 : decode cX6_isSound 18 = .ok (.getfield 15, 3) := by decide +kernel
theorem dX6_isSound_21 : decode cX6_isSound 21 = .ok (.aload_n 0, 1) := by decide +kernel
theorem dX6_isSound_22 : decode cX6_isSound 22 = .ok (.getfield 19, 3) := by decide +kernel
theorem dX6_isSound_25 : decode cX6_isSound 25 = .ok (.getfield 33, 3) := by decide +kernel
theorem dX6_isSound_28 : decode cX6_isSound 28 = .ok (.invokevirtual 37, 3) := by decide +kernel
theorem dX6_isSound_31 : decode cX6_isSound 31 = .ok (.bipush 100, 2) := by decide +kernel
theorem dX6_isSound_33 : decode cX6_isSound 33 = .ok (.if_icmp .eq 5, 3) := by decide +kernel
theorem dX6_isSound_36 : decode cX6_isSound 36 = .ok (.iconst 0, 1) := by decide +kernel
theorem dX6_isSound_37 : decode cX6_isSound 37 = .ok (.ireturn, 1) := by decide +kernel
theorem dX6_isSound_38 : decode cX6_isSound 38 = .ok (.aload_n 0, 1) := by decide +kernel
theorem dX6_isSound_39 : decode cX6_isSound 39 = .ok (.getfield 19, 3) := by decide +kernel
theorem dX6_isSound_42 : decode cX6_isSound 42 = .ok (.getfield 23, 3) := by decide +kernel
theorem dX6_isSound_45 : decode cX6_isSound 45 = .ok (.bipush 117, 2) := by decide +kernel
theorem dX6_isSound_47 : decode cX6_isSound 47 = .ok (.if_icmp .ne 10, 3) := by decide +kernel
theorem dX6_isSound_50 : decode cX6_isSound 50 = .ok (.aload_n 0, 1) := by decide +kernel
theorem dX6_isSound_51 : decode cX6_isSound 51 = .ok (.invokevirtual 43, 3) := by decide +kernel
theorem dX6_isSound_54 : decode cX6_isSound 54 = .ok (.goto 7, 3) := by decide +kernel
theorem dX6_isSound_57 : decode cX6_isSound 57 = .ok (.aload_n 0, 1) := by decide +kernel
theorem dX6_isSound_58 : decode cX6_isSound 58 = .ok (.invokevirtual 46, 3) := by decide +kernel
theorem dX6_isSound_61 : decode cX6_isSound 61 = .ok (.ireturn, 1) := by decide +kernel
theorem dX6_provesNone_0 : decode cX6_provesNone 0 = .ok (.aload_n 0, 1) := by decide +kernel
theorem dX6_provesNone_1 : decode cX6_provesNone 1 = .ok (.invokevirtual 49, 3) := by decide +kernel
theorem dX6_provesNone_4 : decode cX6_provesNone 4 = .ok (.aload_n 0, 1) := by decide +kernel
theorem dX6_provesNone_5 : decode cX6_provesNone 5 = .ok (.getfield 19, 3) := by decide +kernel
theorem dX6_provesNone_8 : decode cX6_provesNone 8 = .ok (.getfield 52, 3) := by decide +kernel
theorem dX6_provesNone_11 : decode cX6_provesNone 11 = .ok (.istore_n 1, 1) := by decide +kernel
theorem dX6_provesNone_12 : decode cX6_provesNone 12 = .ok (.aload_n 0, 1) := by decide +kernel
theorem dX6_provesNone_13 : decode cX6_provesNone 13 = .ok (.aload_n 0, 1) := by decide +kernel
theorem dX6_provesNone_14 : decode cX6_provesNone 14 = .ok (.getfield 19, 3) := by decide +kernel
theorem dX6_provesNone_17 : decode cX6_provesNone 17 = .ok (.getfield 56, 3) := by decide +kernel
theorem dX6_provesNone_20 : decode cX6_provesNone 20 = .ok (.getfield 60, 3) := by decide +kernel
theorem dX6_provesNone_23 : decode cX6_provesNone 23 = .ok (.aload_n 0, 1) := by decide +kernel
theorem dX6_provesNone_24 : decode cX6_provesNone 24 = .ok (.getfield 19, 3) := by decide +kernel
theorem dX6_provesNone_27 : decode cX6_provesNone 27 = .ok (.getfield 56, 3) := by decide +kernel
theorem dX6_provesNone_30 : decode cX6_provesNone 30 = .ok (.iload_n 1, 1) := by decide +kernel
theorem dX6_provesNone_31 : decode cX6_provesNone 31 = .ok (.invokevirtual 66, 3) := by decide +kernel
theorem dX6_provesNone_34 : decode cX6_provesNone 34 = .ok (.invokevirtual 70, 3) := by decide +kernel
theorem dX6_provesNone_37 : decode cX6_provesNone 37 = .ok (.aload_n 0, 1) := by decide +kernel
theorem dX6_provesNone_38 : decode cX6_provesNone 38 = .ok (.iload_n 1, 1) := by decide +kernel
theorem dX6_provesNone_39 : decode cX6_provesNone 39 = .ok (.invokevirtual 74, 3) := by decide +kernel
theorem dX6_provesNone_42 : decode cX6_provesNone 42 = .ok (.ifCond .eq 12, 3) := by decide +kernel
theorem dX6_provesNone_45 : decode cX6_provesNone 45 = .ok (.aload_n 0, 1) := by decide +kernel
theorem dX6_provesNone_46 : decode cX6_provesNone 46 = .ok (.getfield 78, 3) := by decide +kernel
theorem dX6_provesNone_49 : decode cX6_provesNone 49 = .ok (.lconst 0, 1) := by decide +kernel
theorem dX6_provesNone_50 : decode cX6_provesNone 50 = .ok (.lcmp, 1) := by decide +kernel
theorem dX6_provesNone_51 : decode cX6_provesNone 51 = .ok (.ifCond .lt 5, 3) := by decide +kernel
theorem dX6_provesNone_54 : decode cX6_provesNone 54 = .ok (.iconst 0, 1) := by decide +kernel
theorem dX6_provesNone_55 : decode cX6_provesNone 55 = .ok (.ireturn, 1) := by decide +kernel
theorem dX6_provesNone_56 : decode cX6_provesNone 56 = .ok (.iconst 0, 1) := by decide +kernel
theorem dX6_provesNone_57 : decode cX6_provesNone 57 = .ok (.istore_n 2, 1) := by decide +kernel
theorem dX6_provesNone_58 : decode cX6_provesNone 58 = .ok (.iload_n 2, 1) := by decide +kernel
theorem dX6_provesNone_59 : decode cX6_provesNone 59 = .ok (.aload_n 0, 1) := by decide +kernel
theorem dX6_provesNone_60 : decode cX6_provesNone 60 = .ok (.getfield 9, 3) := by decide +kernel
theorem dX6_provesNone_63 : decode cX6_provesNone 63 = .ok (.arraylength, 1) := by decide +kernel
theorem dX6_provesNone_64 : decode cX6_provesNone 64 = .ok (.if_icmp .ge 22, 3) := by decide +kernel
theorem dX6_provesNone_67 : decode cX6_provesNone 67 = .ok (.aload_n 0, 1) := by decide +kernel
theorem dX6_provesNone_68 : decode cX6_provesNone 68 = .ok (.getfield 9, 3) := by decide +kernel
theorem dX6_provesNone_71 : decode cX6_provesNone 71 = .ok (.iload_n 2, 1) := by decide +kernel
theorem dX6_provesNone_72 : decode cX6_provesNone 72 = .ok (.laload, 1) := by decide +kernel
theorem dX6_provesNone_73 : decode cX6_provesNone 73 = .ok (.lconst 0, 1) := by decide +kernel
theorem dX6_provesNone_74 : decode cX6_provesNone 74 = .ok (.lcmp, 1) := by decide +kernel
theorem dX6_provesNone_75 : decode cX6_provesNone 75 = .ok (.ifCond .eq 5, 3) := by decide +kernel
theorem dX6_provesNone_78 : decode cX6_provesNone 78 = .ok (.iconst 0, 1) := by decide +kernel
theorem dX6_provesNone_79 : decode cX6_provesNone 79 = .ok (.ireturn, 1) := by decide +kernel
theorem dX6_provesNone_80 : decode cX6_provesNone 80 = .ok (.iinc 2 1, 3) := by decide +kernel
theorem dX6_provesNone_83 : decode cX6_provesNone 83 = .ok (.goto (-25), 3) := by decide +kernel
theorem dX6_provesNone_86 : decode cX6_provesNone 86 = .ok (.iconst 1, 1) := by decide +kernel
theorem dX6_provesNone_87 : decode cX6_provesNone 87 = .ok (.ireturn, 1) := by decide +kernel
theorem dX6_provesBest_0 : decode cX6_provesBest 0 = .ok (.aload_n 0, 1) := by decide +kernel
theorem dX6_provesBest_1 : decode cX6_provesBest 1 = .ok (.invokevirtual 49, 3) := by decide +kernel
theorem dX6_provesBest_4 : decode cX6_provesBest 4 = .ok (.aload_n 0, 1) := by decide +kernel
theorem dX6_provesBest_5 : decode cX6_provesBest 5 = .ok (.iconst 0, 1) := by decide +kernel
theorem dX6_provesBest_6 : decode cX6_provesBest 6 = .ok (.invokestatic 81, 3) := by decide +kernel
theorem dX6_provesBest_9 : decode cX6_provesBest 9 = .ok (.invokevirtual 74, 3) := by decide +kernel
theorem dX6_provesBest_12 : decode cX6_provesBest 12 = .ok (.ifCond .ne 5, 3) := by decide +kernel
theorem dX6_provesBest_15 : decode cX6_provesBest 15 = .ok (.iconst 0, 1) := by decide +kernel
theorem dX6_provesBest_16 : decode cX6_provesBest 16 = .ok (.ireturn, 1) := by decide +kernel
theorem dX6_provesBest_17 : decode cX6_provesBest 17 = .ok (.aload_n 0, 1) := by decide +kernel
theorem dX6_provesBest_18 : decode cX6_provesBest 18 = .ok (.getfield 19, 3) := by decide +kernel
theorem dX6_provesBest_21 : decode cX6_provesBest 21 = .ok (.getfield 56, 3) := by decide +kernel
theorem dX6_provesBest_24 : decode cX6_provesBest 24 = .ok (.getfield 60, 3) := by decide +kernel
theorem dX6_provesBest_27 : decode cX6_provesBest 27 = .ok (.aload_n 0, 1) := by decide +kernel
theorem dX6_provesBest_28 : decode cX6_provesBest 28 = .ok (.getfield 15, 3) := by decide +kernel
theorem dX6_provesBest_31 : decode cX6_provesBest 31 = .ok (.iconst 0, 1) := by decide +kernel
theorem dX6_provesBest_32 : decode cX6_provesBest 32 = .ok (.invokevirtual 84, 3) := by decide +kernel
theorem dX6_provesBest_35 : decode cX6_provesBest 35 = .ok (.i2l, 1) := by decide +kernel
theorem dX6_provesBest_36 : decode cX6_provesBest 36 = .ok (.lmul, 1) := by decide +kernel
theorem dX6_provesBest_37 : decode cX6_provesBest 37 = .ok (.lstore_n 1, 1) := by decide +kernel
theorem dX6_provesBest_38 : decode cX6_provesBest 38 = .ok (.iconst 0, 1) := by decide +kernel
theorem dX6_provesBest_39 : decode cX6_provesBest 39 = .ok (.istore_n 3, 1) := by decide +kernel
theorem dX6_provesBest_40 : decode cX6_provesBest 40 = .ok (.iload_n 3, 1) := by decide +kernel
theorem dX6_provesBest_41 : decode cX6_provesBest 41 = .ok (.aload_n 0, 1) := by decide +kernel
theorem dX6_provesBest_42 : decode cX6_provesBest 42 = .ok (.getfield 9, 3) := by decide +kernel
theorem dX6_provesBest_45 : decode cX6_provesBest 45 = .ok (.arraylength, 1) := by decide +kernel
theorem dX6_provesBest_46 : decode cX6_provesBest 46 = .ok (.if_icmp .ge 34, 3) := by decide +kernel
theorem dX6_provesBest_49 : decode cX6_provesBest 49 = .ok (.aload_n 0, 1) := by decide +kernel
theorem dX6_provesBest_50 : decode cX6_provesBest 50 = .ok (.getfield 9, 3) := by decide +kernel
theorem dX6_provesBest_53 : decode cX6_provesBest 53 = .ok (.iload_n 3, 1) := by decide +kernel
theorem dX6_provesBest_54 : decode cX6_provesBest 54 = .ok (.laload, 1) := by decide +kernel
theorem dX6_provesBest_55 : decode cX6_provesBest 55 = .ok (.lload_n 1, 1) := by decide +kernel
theorem dX6_provesBest_56 : decode cX6_provesBest 56 = .ok (.lneg, 1) := by decide +kernel
theorem dX6_provesBest_57 : decode cX6_provesBest 57 = .ok (.aload_n 0, 1) := by decide +kernel
theorem dX6_provesBest_58 : decode cX6_provesBest 58 = .ok (.getfield 15, 3) := by decide +kernel
theorem dX6_provesBest_61 : decode cX6_provesBest 61 = .ok (.iconst 0, 1) := by decide +kernel
theorem dX6_provesBest_62 : decode cX6_provesBest 62 = .ok (.iload_n 3, 1) := by decide +kernel
theorem dX6_provesBest_63 : decode cX6_provesBest 63 = .ok (.invokevirtual 87, 3) := by decide +kernel
theorem dX6_provesBest_66 : decode cX6_provesBest 66 = .ok (.i2l, 1) := by decide +kernel
theorem dX6_provesBest_67 : decode cX6_provesBest 67 = .ok (.lmul, 1) := by decide +kernel
theorem dX6_provesBest_68 : decode cX6_provesBest 68 = .ok (.lcmp, 1) := by decide +kernel
theorem dX6_provesBest_69 : decode cX6_provesBest 69 = .ok (.ifCond .eq 5, 3) := by decide +kernel
theorem dX6_provesBest_72 : decode cX6_provesBest 72 = .ok (.iconst 0, 1) := by decide +kernel
theorem dX6_provesBest_73 : decode cX6_provesBest 73 = .ok (.ireturn, 1) := by decide +kernel
theorem dX6_provesBest_74 : decode cX6_provesBest 74 = .ok (.iinc 3 1, 3) := by decide +kernel
theorem dX6_provesBest_77 : decode cX6_provesBest 77 = .ok (.goto (-37), 3) := by decide +kernel
theorem dX6_provesBest_80 : decode cX6_provesBest 80 = .ok (.aload_n 0, 1) := by decide +kernel
theorem dX6_provesBest_81 : decode cX6_provesBest 81 = .ok (.getfield 78, 3) := by decide +kernel
theorem dX6_provesBest_84 : decode cX6_provesBest 84 = .ok (.aload_n 0, 1) := by decide +kernel
theorem dX6_provesBest_85 : decode cX6_provesBest 85 = .ok (.getfield 19, 3) := by decide +kernel
theorem dX6_provesBest_88 : decode cX6_provesBest 88 = .ok (.getfield 33, 3) := by decide +kernel
theorem dX6_provesBest_91 : decode cX6_provesBest 91 = .ok (.getfield 91, 3) := by decide +kernel
theorem dX6_provesBest_94 : decode cX6_provesBest 94 = .ok (.lmul, 1) := by decide +kernel
theorem dX6_provesBest_95 : decode cX6_provesBest 95 = .ok (.lload_n 1, 1) := by decide +kernel
theorem dX6_provesBest_96 : decode cX6_provesBest 96 = .ok (.aload_n 0, 1) := by decide +kernel
theorem dX6_provesBest_97 : decode cX6_provesBest 97 = .ok (.getfield 15, 3) := by decide +kernel
theorem dX6_provesBest_100 : decode cX6_provesBest 100 = .ok (.iconst 0, 1) := by decide +kernel
theorem dX6_provesBest_101 : decode cX6_provesBest 101 = .ok (.aload_n 0, 1) := by decide +kernel
theorem dX6_provesBest_102 : decode cX6_provesBest 102 = .ok (.getfield 19, 3) := by decide +kernel
theorem dX6_provesBest_105 : decode cX6_provesBest 105 = .ok (.getfield 33, 3) := by decide +kernel
theorem dX6_provesBest_108 : decode cX6_provesBest 108 = .ok (.invokevirtual 96, 3) := by decide +kernel
theorem dX6_provesBest_111 : decode cX6_provesBest 111 = .ok (.lmul, 1) := by decide +kernel
theorem dX6_provesBest_112 : decode cX6_provesBest 112 = .ok (.lcmp, 1) := by decide +kernel
theorem dX6_provesBest_113 : decode cX6_provesBest 113 = .ok (.ifCond .ne 7, 3) := by decide +kernel
theorem dX6_provesBest_116 : decode cX6_provesBest 116 = .ok (.iconst 1, 1) := by decide +kernel
theorem dX6_provesBest_117 : decode cX6_provesBest 117 = .ok (.goto 4, 3) := by decide +kernel
theorem dX6_provesBest_120 : decode cX6_provesBest 120 = .ok (.iconst 0, 1) := by decide +kernel
theorem dX6_provesBest_121 : decode cX6_provesBest 121 = .ok (.ireturn, 1) := by decide +kernel
theorem dX6_provesOpen_0 : decode cX6_provesOpen 0 = .ok (.aload_n 0, 1) := by decide +kernel
theorem dX6_provesOpen_1 : decode cX6_provesOpen 1 = .ok (.invokevirtual 49, 3) := by decide +kernel
theorem dX6_provesOpen_4 : decode cX6_provesOpen 4 = .ok (.iconst 0, 1) := by decide +kernel
theorem dX6_provesOpen_5 : decode cX6_provesOpen 5 = .ok (.istore_n 1, 1) := by decide +kernel
theorem dX6_provesOpen_6 : decode cX6_provesOpen 6 = .ok (.iload_n 1, 1) := by decide +kernel
theorem dX6_provesOpen_7 : decode cX6_provesOpen 7 = .ok (.aload_n 0, 1) := by decide +kernel
theorem dX6_provesOpen_8 : decode cX6_provesOpen 8 = .ok (.getfield 9, 3) := by decide +kernel
theorem dX6_provesOpen_11 : decode cX6_provesOpen 11 = .ok (.arraylength, 1) := by decide +kernel
theorem dX6_provesOpen_12 : decode cX6_provesOpen 12 = .ok (.if_icmp .ge 33, 3) := by decide +kernel
theorem dX6_provesOpen_15 : decode cX6_provesOpen 15 = .ok (.aload_n 0, 1) := by decide +kernel
theorem dX6_provesOpen_16 : decode cX6_provesOpen 16 = .ok (.getfield 9, 3) := by decide +kernel
theorem dX6_provesOpen_19 : decode cX6_provesOpen 19 = .ok (.iload_n 1, 1) := by decide +kernel
theorem dX6_provesOpen_20 : decode cX6_provesOpen 20 = .ok (.aload_n 0, 1) := by decide +kernel
theorem dX6_provesOpen_21 : decode cX6_provesOpen 21 = .ok (.getfield 19, 3) := by decide +kernel
theorem dX6_provesOpen_24 : decode cX6_provesOpen 24 = .ok (.getfield 56, 3) := by decide +kernel
theorem dX6_provesOpen_27 : decode cX6_provesOpen 27 = .ok (.iload_n 1, 1) := by decide +kernel
theorem dX6_provesOpen_28 : decode cX6_provesOpen 28 = .ok (.aload_n 0, 1) := by decide +kernel
theorem dX6_provesOpen_29 : decode cX6_provesOpen 29 = .ok (.getfield 19, 3) := by decide +kernel
theorem dX6_provesOpen_32 : decode cX6_provesOpen 32 = .ok (.getfield 100, 3) := by decide +kernel
theorem dX6_provesOpen_35 : decode cX6_provesOpen 35 = .ok (.invokevirtual 103, 3) := by decide +kernel
theorem dX6_provesOpen_38 : decode cX6_provesOpen 38 = .ok (.lastore, 1) := by decide +kernel
theorem dX6_provesOpen_39 : decode cX6_provesOpen 39 = .ok (.iinc 1 1, 3) := by decide +kernel
theorem dX6_provesOpen_42 : decode cX6_provesOpen 42 = .ok (.goto (-36), 3) := by decide +kernel
theorem dX6_provesOpen_45 : decode cX6_provesOpen 45 = .ok (.iconst 0, 1) := by decide +kernel
theorem dX6_provesOpen_46 : decode cX6_provesOpen 46 = .ok (.istore_n 1, 1) := by decide +kernel
theorem dX6_provesOpen_47 : decode cX6_provesOpen 47 = .ok (.iload_n 1, 1) := by decide +kernel
theorem dX6_provesOpen_48 : decode cX6_provesOpen 48 = .ok (.aload_n 0, 1) := by decide +kernel
theorem dX6_provesOpen_49 : decode cX6_provesOpen 49 = .ok (.getfield 19, 3) := by decide +kernel
theorem dX6_provesOpen_52 : decode cX6_provesOpen 52 = .ok (.getfield 107, 3) := by decide +kernel
theorem dX6_provesOpen_55 : decode cX6_provesOpen 55 = .ok (.getfield 111, 3) := by decide +kernel
theorem dX6_provesOpen_58 : decode cX6_provesOpen 58 = .ok (.if_icmp .ge 21, 3) := by decide +kernel
theorem dX6_provesOpen_61 : decode cX6_provesOpen 61 = .ok (.aload_n 0, 1) := by decide +kernel
theorem dX6_provesOpen_62 : decode cX6_provesOpen 62 = .ok (.iload_n 1, 1) := by decide +kernel
theorem dX6_provesOpen_63 : decode cX6_provesOpen 63 = .ok (.invokevirtual 116, 3) := by decide +kernel
theorem dX6_provesOpen_66 : decode cX6_provesOpen 66 = .ok (.lconst 0, 1) := by decide +kernel
theorem dX6_provesOpen_67 : decode cX6_provesOpen 67 = .ok (.lcmp, 1) := by decide +kernel
theorem dX6_provesOpen_68 : decode cX6_provesOpen 68 = .ok (.ifCond .ge 5, 3) := by decide +kernel
theorem dX6_provesOpen_71 : decode cX6_provesOpen 71 = .ok (.iconst 0, 1) := by decide +kernel
theorem dX6_provesOpen_72 : decode cX6_provesOpen 72 = .ok (.ireturn, 1) := by decide +kernel
theorem dX6_provesOpen_73 : decode cX6_provesOpen 73 = .ok (.iinc 1 1, 3) := by decide +kernel
theorem dX6_provesOpen_76 : decode cX6_provesOpen 76 = .ok (.goto (-29), 3) := by decide +kernel
theorem dX6_provesOpen_79 : decode cX6_provesOpen 79 = .ok (.iconst 0, 1) := by decide +kernel
theorem dX6_provesOpen_80 : decode cX6_provesOpen 80 = .ok (.istore_n 1, 1) := by decide +kernel
theorem dX6_provesOpen_81 : decode cX6_provesOpen 81 = .ok (.iload_n 1, 1) := by decide +kernel
theorem dX6_provesOpen_82 : decode cX6_provesOpen 82 = .ok (.aload_n 0, 1) := by decide +kernel
theorem dX6_provesOpen_83 : decode cX6_provesOpen 83 = .ok (.getfield 19, 3) := by decide +kernel
theorem dX6_provesOpen_86 : decode cX6_provesOpen 86 = .ok (.getfield 120, 3) := by decide +kernel
theorem dX6_provesOpen_89 : decode cX6_provesOpen 89 = .ok (.if_icmp .ge 21, 3) := by decide +kernel
theorem dX6_provesOpen_92 : decode cX6_provesOpen 92 = .ok (.aload_n 0, 1) := by decide +kernel
theorem dX6_provesOpen_93 : decode cX6_provesOpen 93 = .ok (.iload_n 1, 1) := by decide +kernel
theorem dX6_provesOpen_94 : decode cX6_provesOpen 94 = .ok (.invokevirtual 123, 3) := by decide +kernel
theorem dX6_provesOpen_97 : decode cX6_provesOpen 97 = .ok (.lconst 0, 1) := by decide +kernel
theorem dX6_provesOpen_98 : decode cX6_provesOpen 98 = .ok (.lcmp, 1) := by decide +kernel
theorem dX6_provesOpen_99 : decode cX6_provesOpen 99 = .ok (.ifCond .eq 5, 3) := by decide +kernel
theorem dX6_provesOpen_102 : decode cX6_provesOpen 102 = .ok (.iconst 0, 1) := by decide +kernel
theorem dX6_provesOpen_103 : decode cX6_provesOpen 103 = .ok (.ireturn, 1) := by decide +kernel
theorem dX6_provesOpen_104 : decode cX6_provesOpen 104 = .ok (.iinc 1 1, 3) := by decide +kernel
theorem dX6_provesOpen_107 : decode cX6_provesOpen 107 = .ok (.goto (-26), 3) := by decide +kernel
theorem dX6_provesOpen_110 : decode cX6_provesOpen 110 = .ok (.aload_n 0, 1) := by decide +kernel
theorem dX6_provesOpen_111 : decode cX6_provesOpen 111 = .ok (.aload_n 0, 1) := by decide +kernel
theorem dX6_provesOpen_112 : decode cX6_provesOpen 112 = .ok (.getfield 19, 3) := by decide +kernel
theorem dX6_provesOpen_115 : decode cX6_provesOpen 115 = .ok (.getfield 120, 3) := by decide +kernel
theorem dX6_provesOpen_118 : decode cX6_provesOpen 118 = .ok (.invokevirtual 123, 3) := by decide +kernel
theorem dX6_provesOpen_121 : decode cX6_provesOpen 121 = .ok (.lconst 0, 1) := by decide +kernel
theorem dX6_provesOpen_122 : decode cX6_provesOpen 122 = .ok (.lcmp, 1) := by decide +kernel
theorem dX6_provesOpen_123 : decode cX6_provesOpen 123 = .ok (.ifCond .le 7, 3) := by decide +kernel
theorem dX6_provesOpen_126 : decode cX6_provesOpen 126 = .ok (.iconst 1, 1) := by decide +kernel
theorem dX6_provesOpen_127 : decode cX6_provesOpen 127 = .ok (.goto 4, 3) := by decide +kernel
theorem dX6_provesOpen_130 : decode cX6_provesOpen 130 = .ok (.iconst 0, 1) := by decide +kernel
theorem dX6_provesOpen_131 : decode cX6_provesOpen 131 = .ok (.ireturn, 1) := by decide +kernel
theorem dX6_gainOfSide_0 : decode cX6_gainOfSide 0 = .ok (.lconst 0, 1) := by decide +kernel
theorem dX6_gainOfSide_1 : decode cX6_gainOfSide 1 = .ok (.lstore_n 2, 1) := by decide +kernel
theorem dX6_gainOfSide_2 : decode cX6_gainOfSide 2 = .ok (.iconst 0, 1) := by decide +kernel
theorem dX6_gainOfSide_3 : decode cX6_gainOfSide 3 = .ok (.istore 4, 2) := by decide +kernel
theorem dX6_gainOfSide_5 : decode cX6_gainOfSide 5 = .ok (.iload 4, 2) := by decide +kernel
theorem dX6_gainOfSide_7 : decode cX6_gainOfSide 7 = .ok (.aload_n 0, 1) := by decide +kernel
theorem dX6_gainOfSide_8 : decode cX6_gainOfSide 8 = .ok (.getfield 9, 3) := by decide +kernel
theorem dX6_gainOfSide_11 : decode cX6_gainOfSide 11 = .ok (.arraylength, 1) := by decide +kernel
theorem dX6_gainOfSide_12 : decode cX6_gainOfSide 12 = .ok (.if_icmp .ge 33, 3) := by decide +kernel
theorem dX6_gainOfSide_15 : decode cX6_gainOfSide 15 = .ok (.lload_n 2, 1) := by decide +kernel
theorem dX6_gainOfSide_16 : decode cX6_gainOfSide 16 = .ok (.aload_n 0, 1) := by decide +kernel
theorem dX6_gainOfSide_17 : decode cX6_gainOfSide 17 = .ok (.getfield 19, 3) := by decide +kernel
theorem dX6_gainOfSide_20 : decode cX6_gainOfSide 20 = .ok (.getfield 107, 3) := by decide +kernel
theorem dX6_gainOfSide_23 : decode cX6_gainOfSide 23 = .ok (.iload_n 1, 1) := by decide +kernel
theorem dX6_gainOfSide_24 : decode cX6_gainOfSide 24 = .ok (.iload 4, 2) := by decide +kernel
theorem dX6_gainOfSide_26 : decode cX6_gainOfSide 26 = .ok (.invokevirtual 126, 3) := by decide +kernel
theorem dX6_gainOfSide_29 : decode cX6_gainOfSide 29 = .ok (.aload_n 0, 1) := by decide +kernel
theorem dX6_gainOfSide_30 : decode cX6_gainOfSide 30 = .ok (.getfield 9, 3) := by decide +kernel
theorem dX6_gainOfSide_33 : decode cX6_gainOfSide 33 = .ok (.iload 4, 2) := by decide +kernel
theorem dX6_gainOfSide_35 : decode cX6_gainOfSide 35 = .ok (.laload, 1) := by decide +kernel
theorem dX6_gainOfSide_36 : decode cX6_gainOfSide 36 = .ok (.lmul, 1) := by decide +kernel
theorem dX6_gainOfSide_37 : decode cX6_gainOfSide 37 = .ok (.ladd, 1) := by decide +kernel
theorem dX6_gainOfSide_38 : decode cX6_gainOfSide 38 = .ok (.lstore_n 2, 1) := by decide +kernel
theorem dX6_gainOfSide_39 : decode cX6_gainOfSide 39 = .ok (.iinc 4 1, 3) := by decide +kernel
theorem dX6_gainOfSide_42 : decode cX6_gainOfSide 42 = .ok (.goto (-37), 3) := by decide +kernel
theorem dX6_gainOfSide_45 : decode cX6_gainOfSide 45 = .ok (.lload_n 2, 1) := by decide +kernel
theorem dX6_gainOfSide_46 : decode cX6_gainOfSide 46 = .ok (.lreturn, 1) := by decide +kernel
theorem dX6_gainOfAim_0 : decode cX6_gainOfAim 0 = .ok (.lconst 0, 1) := by decide +kernel
theorem dX6_gainOfAim_1 : decode cX6_gainOfAim 1 = .ok (.lstore_n 2, 1) := by decide +kernel
theorem dX6_gainOfAim_2 : decode cX6_gainOfAim 2 = .ok (.iconst 0, 1) := by decide +kernel
theorem dX6_gainOfAim_3 : decode cX6_gainOfAim 3 = .ok (.istore 4, 2) := by decide +kernel
theorem dX6_gainOfAim_5 : decode cX6_gainOfAim 5 = .ok (.iload 4, 2) := by decide +kernel
theorem dX6_gainOfAim_7 : decode cX6_gainOfAim 7 = .ok (.aload_n 0, 1) := by decide +kernel
theorem dX6_gainOfAim_8 : decode cX6_gainOfAim 8 = .ok (.getfield 9, 3) := by decide +kernel
theorem dX6_gainOfAim_11 : decode cX6_gainOfAim 11 = .ok (.arraylength, 1) := by decide +kernel
theorem dX6_gainOfAim_12 : decode cX6_gainOfAim 12 = .ok (.if_icmp .ge 31, 3) := by decide +kernel
theorem dX6_gainOfAim_15 : decode cX6_gainOfAim 15 = .ok (.lload_n 2, 1) := by decide +kernel
theorem dX6_gainOfAim_16 : decode cX6_gainOfAim 16 = .ok (.aload_n 0, 1) := by decide +kernel
theorem dX6_gainOfAim_17 : decode cX6_gainOfAim 17 = .ok (.getfield 15, 3) := by decide +kernel
theorem dX6_gainOfAim_20 : decode cX6_gainOfAim 20 = .ok (.iload_n 1, 1) := by decide +kernel
theorem dX6_gainOfAim_21 : decode cX6_gainOfAim 21 = .ok (.iload 4, 2) := by decide +kernel
theorem dX6_gainOfAim_23 : decode cX6_gainOfAim 23 = .ok (.invokevirtual 87, 3) := by decide +kernel
theorem dX6_gainOfAim_26 : decode cX6_gainOfAim 26 = .ok (.i2l, 1) := by decide +kernel
theorem dX6_gainOfAim_27 : decode cX6_gainOfAim 27 = .ok (.aload_n 0, 1) := by decide +kernel
theorem dX6_gainOfAim_28 : decode cX6_gainOfAim 28 = .ok (.getfield 9, 3) := by decide +kernel
theorem dX6_gainOfAim_31 : decode cX6_gainOfAim 31 = .ok (.iload 4, 2) := by decide +kernel
theorem dX6_gainOfAim_33 : decode cX6_gainOfAim 33 = .ok (.laload, 1) := by decide +kernel
theorem dX6_gainOfAim_34 : decode cX6_gainOfAim 34 = .ok (.lmul, 1) := by decide +kernel
theorem dX6_gainOfAim_35 : decode cX6_gainOfAim 35 = .ok (.ladd, 1) := by decide +kernel
theorem dX6_gainOfAim_36 : decode cX6_gainOfAim 36 = .ok (.lstore_n 2, 1) := by decide +kernel
theorem dX6_gainOfAim_37 : decode cX6_gainOfAim 37 = .ok (.iinc 4 1, 3) := by decide +kernel
theorem dX6_gainOfAim_40 : decode cX6_gainOfAim 40 = .ok (.goto (-35), 3) := by decide +kernel
theorem dX6_gainOfAim_43 : decode cX6_gainOfAim 43 = .ok (.lload_n 2, 1) := by decide +kernel
theorem dX6_gainOfAim_44 : decode cX6_gainOfAim 44 = .ok (.aload_n 0, 1) := by decide +kernel
theorem dX6_gainOfAim_45 : decode cX6_gainOfAim 45 = .ok (.getfield 15, 3) := by decide +kernel
theorem dX6_gainOfAim_48 : decode cX6_gainOfAim 48 = .ok (.iload_n 1, 1) := by decide +kernel
theorem dX6_gainOfAim_49 : decode cX6_gainOfAim 49 = .ok (.invokevirtual 84, 3) := by decide +kernel
theorem dX6_gainOfAim_52 : decode cX6_gainOfAim 52 = .ok (.i2l, 1) := by decide +kernel
theorem dX6_gainOfAim_53 : decode cX6_gainOfAim 53 = .ok (.lmul, 1) := by decide +kernel
theorem dX6_gainOfAim_54 : decode cX6_gainOfAim 54 = .ok (.lreturn, 1) := by decide +kernel
theorem dX6_clear_0 : decode cX6_clear 0 = .ok (.aload_n 0, 1) := by decide +kernel
theorem dX6_clear_1 : decode cX6_clear 1 = .ok (.lconst 0, 1) := by decide +kernel
theorem dX6_clear_2 : decode cX6_clear 2 = .ok (.putfield 78, 3) := by decide +kernel
theorem dX6_clear_5 : decode cX6_clear 5 = .ok (.iconst 0, 1) := by decide +kernel
theorem dX6_clear_6 : decode cX6_clear 6 = .ok (.istore_n 1, 1) := by decide +kernel
theorem dX6_clear_7 : decode cX6_clear 7 = .ok (.iload_n 1, 1) := by decide +kernel
theorem dX6_clear_8 : decode cX6_clear 8 = .ok (.aload_n 0, 1) := by decide +kernel
theorem dX6_clear_9 : decode cX6_clear 9 = .ok (.getfield 9, 3) := by decide +kernel
theorem dX6_clear_12 : decode cX6_clear 12 = .ok (.arraylength, 1) := by decide +kernel
theorem dX6_clear_13 : decode cX6_clear 13 = .ok (.if_icmp .ge 16, 3) := by decide +kernel
theorem dX6_clear_16 : decode cX6_clear 16 = .ok (.aload_n 0, 1) := by decide +kernel
theorem dX6_clear_17 : decode cX6_clear 17 = .ok (.getfield 9, 3) := by decide +kernel
theorem dX6_clear_20 : decode cX6_clear 20 = .ok (.iload_n 1, 1) := by decide +kernel
theorem dX6_clear_21 : decode cX6_clear 21 = .ok (.lconst 0, 1) := by decide +kernel
theorem dX6_clear_22 : decode cX6_clear 22 = .ok (.lastore, 1) := by decide +kernel
theorem dX6_clear_23 : decode cX6_clear 23 = .ok (.iinc 1 1, 3) := by decide +kernel
theorem dX6_clear_26 : decode cX6_clear 26 = .ok (.goto (-19), 3) := by decide +kernel
theorem dX6_clear_29 : decode cX6_clear 29 = .ok (.return_, 1) := by decide +kernel
theorem dX6_add_0 : decode cX6_add 0 = .ok (.aload_n 0, 1) := by decide +kernel
theorem dX6_add_1 : decode cX6_add 1 = .ok (.dup, 1) := by decide +kernel
theorem dX6_add_2 : decode cX6_add 2 = .ok (.getfield 78, 3) := by decide +kernel
theorem dX6_add_5 : decode cX6_add 5 = .ok (.lload_n 1, 1) := by decide +kernel
theorem dX6_add_6 : decode cX6_add 6 = .ok (.aload_n 0, 1) := by decide +kernel
theorem dX6_add_7 : decode cX6_add 7 = .ok (.getfield 19, 3) := by decide +kernel
theorem dX6_add_10 : decode cX6_add 10 = .ok (.getfield 107, 3) := by decide +kernel
theorem dX6_add_13 : decode cX6_add 13 = .ok (.iload_n 3, 1) := by decide +kernel
theorem dX6_add_14 : decode cX6_add 14 = .ok (.invokevirtual 129, 3) := by decide +kernel
theorem dX6_add_17 : decode cX6_add 17 = .ok (.lmul, 1) := by decide +kernel
theorem dX6_add_18 : decode cX6_add 18 = .ok (.ladd, 1) := by decide +kernel
theorem dX6_add_19 : decode cX6_add 19 = .ok (.putfield 78, 3) := by decide +kernel
theorem dX6_add_22 : decode cX6_add 22 = .ok (.iconst 0, 1) := by decide +kernel
theorem dX6_add_23 : decode cX6_add 23 = .ok (.istore 4, 2) := by decide +kernel
theorem dX6_add_25 : decode cX6_add 25 = .ok (.iload 4, 2) := by decide +kernel
theorem dX6_add_27 : decode cX6_add 27 = .ok (.aload_n 0, 1) := by decide +kernel
theorem dX6_add_28 : decode cX6_add 28 = .ok (.getfield 9, 3) := by decide +kernel
theorem dX6_add_31 : decode cX6_add 31 = .ok (.arraylength, 1) := by decide +kernel
theorem dX6_add_32 : decode cX6_add 32 = .ok (.if_icmp .ge 34, 3) := by decide +kernel
theorem dX6_add_35 : decode cX6_add 35 = .ok (.aload_n 0, 1) := by decide +kernel
theorem dX6_add_36 : decode cX6_add 36 = .ok (.getfield 9, 3) := by decide +kernel
theorem dX6_add_39 : decode cX6_add 39 = .ok (.iload 4, 2) := by decide +kernel
theorem dX6_add_41 : decode cX6_add 41 = .ok (.dup2, 1) := by decide +kernel
theorem dX6_add_42 : decode cX6_add 42 = .ok (.laload, 1) := by decide +kernel
theorem dX6_add_43 : decode cX6_add 43 = .ok (.lload_n 1, 1) := by decide +kernel
theorem dX6_add_44 : decode cX6_add 44 = .ok (.aload_n 0, 1) := by decide +kernel
theorem dX6_add_45 : decode cX6_add 45 = .ok (.getfield 19, 3) := by decide +kernel
theorem dX6_add_48 : decode cX6_add 48 = .ok (.getfield 107, 3) := by decide +kernel
theorem dX6_add_51 : decode cX6_add 51 = .ok (.iload_n 3, 1) := by decide +kernel
theorem dX6_add_52 : decode cX6_add 52 = .ok (.iload 4, 2) := by decide +kernel
theorem dX6_add_54 : decode cX6_add 54 = .ok (.invokevirtual 126, 3) := by decide +kernel
theorem dX6_add_57 : decode cX6_add 57 = .ok (.lmul, 1) := by decide +kernel
theorem dX6_add_58 : decode cX6_add 58 = .ok (.ladd, 1) := by decide +kernel
theorem dX6_add_59 : decode cX6_add 59 = .ok (.lastore, 1) := by decide +kernel
theorem dX6_add_60 : decode cX6_add 60 = .ok (.iinc 4 1, 3) := by decide +kernel
theorem dX6_add_63 : decode cX6_add 63 = .ok (.goto (-38), 3) := by decide +kernel
theorem dX6_add_66 : decode cX6_add 66 = .ok (.return_, 1) := by decide +kernel
theorem dX6_addOutsides_0 : decode cX6_addOutsides 0 = .ok (.iconst 0, 1) := by decide +kernel
theorem dX6_addOutsides_1 : decode cX6_addOutsides 1 = .ok (.istore_n 2, 1) := by decide +kernel
theorem dX6_addOutsides_2 : decode cX6_addOutsides 2 = .ok (.iload_n 2, 1) := by decide +kernel
theorem dX6_addOutsides_3 : decode cX6_addOutsides 3 = .ok (.iconst 3, 1) := by decide +kernel
theorem dX6_addOutsides_4 : decode cX6_addOutsides 4 = .ok (.if_icmp .ge 47, 3) := by decide +kernel
theorem dX6_addOutsides_7 : decode cX6_addOutsides 7 = .ok (.aload_n 0, 1) := by decide +kernel
theorem dX6_addOutsides_8 : decode cX6_addOutsides 8 = .ok (.getfield 19, 3) := by decide +kernel
theorem dX6_addOutsides_11 : decode cX6_addOutsides 11 = .ok (.getfield 56, 3) := by decide +kernel
theorem dX6_addOutsides_14 : decode cX6_addOutsides 14 = .ok (.iload_n 1, 1) := by decide +kernel
theorem dX6_addOutsides_15 : decode cX6_addOutsides 15 = .ok (.iload_n 2, 1) := by decide +kernel
theorem dX6_addOutsides_16 : decode cX6_addOutsides 16 = .ok (.invokevirtual 132, 3) := by decide +kernel
theorem dX6_addOutsides_19 : decode cX6_addOutsides 19 = .ok (.lneg, 1) := by decide +kernel
theorem dX6_addOutsides_20 : decode cX6_addOutsides 20 = .ok (.lstore_n 3, 1) := by decide +kernel
theorem dX6_addOutsides_21 : decode cX6_addOutsides 21 = .ok (.lload_n 3, 1) := by decide +kernel
theorem dX6_addOutsides_22 : decode cX6_addOutsides 22 = .ok (.lconst 0, 1) := by decide +kernel
theorem dX6_addOutsides_23 : decode cX6_addOutsides 23 = .ok (.lcmp, 1) := by decide +kernel
theorem dX6_addOutsides_24 : decode cX6_addOutsides 24 = .ok (.ifCond .ge 5, 3) := by decide +kernel
theorem dX6_addOutsides_27 : decode cX6_addOutsides 27 = .ok (.iconst 0, 1) := by decide +kernel
theorem dX6_addOutsides_28 : decode cX6_addOutsides 28 = .ok (.ireturn, 1) := by decide +kernel
theorem dX6_addOutsides_29 : decode cX6_addOutsides 29 = .ok (.aload_n 0, 1) := by decide +kernel
theorem dX6_addOutsides_30 : decode cX6_addOutsides 30 = .ok (.lload_n 3, 1) := by decide +kernel
theorem dX6_addOutsides_31 : decode cX6_addOutsides 31 = .ok (.aload_n 0, 1) := by decide +kernel
theorem dX6_addOutsides_32 : decode cX6_addOutsides 32 = .ok (.getfield 19, 3) := by decide +kernel
theorem dX6_addOutsides_35 : decode cX6_addOutsides 35 = .ok (.getfield 56, 3) := by decide +kernel
theorem dX6_addOutsides_38 : decode cX6_addOutsides 38 = .ok (.iload_n 2, 1) := by decide +kernel
theorem dX6_addOutsides_39 : decode cX6_addOutsides 39 = .ok (.invokevirtual 135, 3) := by decide +kernel
theorem dX6_addOutsides_42 : decode cX6_addOutsides 42 = .ok (.invokevirtual 70, 3) := by decide +kernel
theorem dX6_addOutsides_45 : decode cX6_addOutsides 45 = .ok (.iinc 2 1, 3) := by decide +kernel
theorem dX6_addOutsides_48 : decode cX6_addOutsides 48 = .ok (.goto (-46), 3) := by decide +kernel
theorem dX6_addOutsides_51 : decode cX6_addOutsides 51 = .ok (.iconst 1, 1) := by decide +kernel
theorem dX6_addOutsides_52 : decode cX6_addOutsides 52 = .ok (.ireturn, 1) := by decide +kernel
theorem dX7_init_0 : decode cX7_init 0 = .ok (.aload_n 0, 1) := by decide +kernel
theorem dX7_init_1 : decode cX7_init 1 = .ok (.invokespecial 3, 3) := by decide +kernel
theorem dX7_init_4 : decode cX7_init 4 = .ok (.aload_n 0, 1) := by decide +kernel
theorem dX7_init_5 : decode cX7_init 5 = .ok (.bipush 54, 2) := by decide +kernel
theorem dX7_init_7 : decode cX7_init 7 = .ok (.newarray .int, 2) := by decide +kernel
theorem dX7_init_9 : decode cX7_init 9 = .ok (.putfield 11, 3) := by decide +kernel
theorem dX7_init_12 : decode cX7_init 12 = .ok (.aload_n 0, 1) := by decide +kernel
theorem dX7_init_13 : decode cX7_init 13 = .ok (.bipush 18, 2) := by decide +kernel
theorem dX7_init_15 : decode cX7_init 15 = .ok (.newarray .int, 2) := by decide +kernel
theorem dX7_init_17 : decode cX7_init 17 = .ok (.putfield 15, 3) := by decide +kernel
theorem dX7_init_20 : decode cX7_init 20 = .ok (.aload_n 0, 1) := by decide +kernel
theorem dX7_init_21 : decode cX7_init 21 = .ok (.bipush 18, 2) := by decide +kernel
theorem dX7_init_23 : decode cX7_init 23 = .ok (.newarray .boolean, 2) := by decide +kernel
theorem dX7_init_25 : decode cX7_init 25 = .ok (.putfield 18, 3) := by decide +kernel
theorem dX7_init_28 : decode cX7_init 28 = .ok (.return_, 1) := by decide +kernel
theorem dX7_gather_0 : decode cX7_gather 0 = .ok (.aload_n 0, 1) := by decide +kernel
theorem dX7_gather_1 : decode cX7_gather 1 = .ok (.iconst 0, 1) := by decide +kernel
theorem dX7_gather_2 : decode cX7_gather 2 = .ok (.putfield 22, 3) := by decide +kernel
theorem dX7_gather_5 : decode cX7_gather 5 = .ok (.iconst 0, 1) := by decide +kernel
theorem dX7_gather_6 : decode cX7_gather 6 = .ok (.istore 4, 2) := by decide +kernel
theorem dX7_gather_8 : decode cX7_gather 8 = .ok (.iload 4, 2) := by decide +kernel
theorem dX7_gather_10 : decode cX7_gather 10 = .ok (.iconst 3, 1) := by decide +kernel
theorem dX7_gather_11 : decode cX7_gather 11 = .ok (.if_icmp .ge 23, 3) := by decide +kernel
theorem dX7_gather_14 : decode cX7_gather 14 = .ok (.aload_n 0, 1) := by decide +kernel
theorem dX7_gather_15 : decode cX7_gather 15 = .ok (.iload 4, 2) := by decide +kernel
theorem dX7_gather_17 : decode cX7_gather 17 = .ok (.iconst 1, 1) := by decide +kernel
theorem dX7_gather_18 : decode cX7_gather 18 = .ok (.aload_n 1, 1) := by decide +kernel
theorem dX7_gather_19 : decode cX7_gather 19 = .ok (.iload 4, 2) := by decide +kernel
theorem dX7_gather_21 : decode cX7_gather 21 = .ok (.invokevirtual 26, 3) := by decide +kernel
theorem dX7_gather_24 : decode cX7_gather 24 = .ok (.ineg, 1) := by decide +kernel
theorem dX7_gather_25 : decode cX7_gather 25 = .ok (.invokevirtual 32, 3) := by decide +kernel
theorem dX7_gather_28 : decode cX7_gather 28 = .ok (.iinc 4 1, 3) := by decide +kernel
theorem dX7_gather_31 : decode cX7_gather 31 = .ok (.goto (-23), 3) := by decide +kernel
theorem dX7_gather_34 : decode cX7_gather 34 = .ok (.iconst 0, 1) := by decide +kernel
theorem dX7_gather_35 : decode cX7_gather 35 = .ok (.istore 4, 2) := by decide +kernel
theorem dX7_gather_37 : decode cX7_gather 37 = .ok (.iload 4, 2) := by decide +kernel
theorem dX7_gather_39 : decode cX7_gather 39 = .ok (.aload_n 1, 1) := by decide +kernel
theorem dX7_gather_40 : decode cX7_gather 40 = .ok (.getfield 36, 3) := by decide +kernel
theorem dX7_gather_43 : decode cX7_gather 43 = .ok (.if_icmp .ge 52, 3) := by decide +kernel
theorem dX7_gather_46 : decode cX7_gather 46 = .ok (.aload_n 1, 1) := by decide +kernel
theorem dX7_gather_47 : decode cX7_gather 47 = .ok (.iload 4, 2) := by decide +kernel
theorem dX7_gather_49 : decode cX7_gather 49 = .ok (.invokevirtual 39, 3) := by decide +kernel
theorem dX7_gather_52 : decode cX7_gather 52 = .ok (.ifCond .eq 37, 3) := by decide +kernel
theorem dX7_gather_55 : decode cX7_gather 55 = .ok (.iload_n 2, 1) := by decide +kernel
theorem dX7_gather_56 : decode cX7_gather 56 = .ok (.iload 4, 2) := by decide +kernel
theorem dX7_gather_58 : decode cX7_gather 58 = .ok (.ishr, 1) := by decide +kernel
theorem dX7_gather_59 : decode cX7_gather 59 = .ok (.iconst 1, 1) := by decide +kernel
theorem dX7_gather_60 : decode cX7_gather 60 = .ok (.iand, 1) := by decide +kernel
theorem dX7_gather_61 : decode cX7_gather 61 = .ok (.ifCond .ne 28, 3) := by decide +kernel
theorem dX7_gather_64 : decode cX7_gather 64 = .ok (.aload_n 0, 1) := by decide +kernel
theorem dX7_gather_65 : decode cX7_gather 65 = .ok (.aload_n 1, 1) := by decide +kernel
theorem dX7_gather_66 : decode cX7_gather 66 = .ok (.iload 4, 2) := by decide +kernel
theorem dX7_gather_68 : decode cX7_gather 68 = .ok (.aload_n 1, 1) := by decide +kernel
theorem dX7_gather_69 : decode cX7_gather 69 = .ok (.iload 4, 2) := by decide +kernel
theorem dX7_gather_71 : decode cX7_gather 71 = .ok (.invokevirtual 43, 3) := by decide +kernel
theorem dX7_gather_74 : decode cX7_gather 74 = .ok (.iload 4, 2) := by decide +kernel
theorem dX7_gather_76 : decode cX7_gather 76 = .ok (.iload_n 3, 1) := by decide +kernel
theorem dX7_gather_77 : decode cX7_gather 77 = .ok (.if_icmp .ne 7, 3) := by decide +kernel
theorem dX7_gather_80 : decode cX7_gather 80 = .ok (.iconst 1, 1) := by decide +kernel
theorem dX7_gather_81 : decode cX7_gather 81 = .ok (.goto 4, 3) := by decide +kernel
theorem dX7_gather_84 : decode cX7_gather 84 = .ok (.iconst 0, 1) := by decide +kernel
theorem dX7_gather_85 : decode cX7_gather 85 = .ok (.iadd, 1) := by decide +kernel
theorem dX7_gather_86 : decode cX7_gather 86 = .ok (.invokevirtual 46, 3) := by decide +kernel
theorem dX7_gather_89 : decode cX7_gather 89 = .ok (.iinc 4 1, 3) := by decide +kernel
theorem dX7_gather_92 : decode cX7_gather 92 = .ok (.goto (-55), 3) := by decide +kernel
theorem dX7_gather_95 : decode cX7_gather 95 = .ok (.iconst 0, 1) := by decide +kernel
theorem dX7_gather_96 : decode cX7_gather 96 = .ok (.istore 4, 2) := by decide +kernel
theorem dX7_gather_98 : decode cX7_gather 98 = .ok (.iload 4, 2) := by decide +kernel
theorem dX7_gather_100 : decode cX7_gather 100 = .ok (.aload_n 1, 1) := by decide +kernel
theorem dX7_gather_101 : decode cX7_gather 101 = .ok (.getfield 50, 3) := by decide +kernel
theorem dX7_gather_104 : decode cX7_gather 104 = .ok (.if_icmp .ge 31, 3) := by decide +kernel
theorem dX7_gather_107 : decode cX7_gather 107 = .ok (.aload_n 1, 1) := by decide +kernel
theorem dX7_gather_108 : decode cX7_gather 108 = .ok (.iload 4, 2) := by decide +kernel
theorem dX7_gather_110 : decode cX7_gather 110 = .ok (.invokevirtual 53, 3) := by decide +kernel
theorem dX7_gather_113 : decode cX7_gather 113 = .ok (.ifCond .eq 16, 3) := by decide +kernel
theorem dX7_gather_116 : decode cX7_gather 116 = .ok (.aload_n 0, 1) := by decide +kernel
theorem dX7_gather_117 : decode cX7_gather 117 = .ok (.iload 4, 2) := by decide +kernel
theorem dX7_gather_119 : decode cX7_gather 119 = .ok (.iconst (-1), 1) := by decide +kernel
theorem dX7_gather_120 : decode cX7_gather 120 = .ok (.aload_n 1, 1) := by decide +kernel
theorem dX7_gather_121 : decode cX7_gather 121 = .ok (.iload 4, 2) := by decide +kernel
theorem dX7_gather_123 : decode cX7_gather 123 = .ok (.invokevirtual 56, 3) := by decide +kernel
theorem dX7_gather_126 : decode cX7_gather 126 = .ok (.invokevirtual 32, 3) := by decide +kernel
theorem dX7_gather_129 : decode cX7_gather 129 = .ok (.iinc 4 1, 3) := by decide +kernel
theorem dX7_gather_132 : decode cX7_gather 132 = .ok (.goto (-34), 3) := by decide +kernel
theorem dX7_gather_135 : decode cX7_gather 135 = .ok (.return_, 1) := by decide +kernel
theorem dX7_putBound_0 : decode cX7_putBound 0 = .ok (.iconst 0, 1) := by decide +kernel
theorem dX7_putBound_1 : decode cX7_putBound 1 = .ok (.istore 4, 2) := by decide +kernel
theorem dX7_putBound_3 : decode cX7_putBound 3 = .ok (.iload 4, 2) := by decide +kernel
theorem dX7_putBound_5 : decode cX7_putBound 5 = .ok (.iconst 3, 1) := by decide +kernel
theorem dX7_putBound_6 : decode cX7_putBound 6 = .ok (.if_icmp .ge 26, 3) := by decide +kernel
theorem dX7_putBound_9 : decode cX7_putBound 9 = .ok (.aload_n 0, 1) := by decide +kernel
theorem dX7_putBound_10 : decode cX7_putBound 10 = .ok (.iload 4, 2) := by decide +kernel
theorem dX7_putBound_12 : decode cX7_putBound 12 = .ok (.iload 4, 2) := by decide +kernel
theorem dX7_putBound_14 : decode cX7_putBound 14 = .ok (.iload_n 1, 1) := by decide +kernel
theorem dX7_putBound_15 : decode cX7_putBound 15 = .ok (.if_icmp .ne 7, 3) := by decide +kernel
theorem dX7_putBound_18 : decode cX7_putBound 18 = .ok (.iload_n 2, 1) := by decide +kernel
theorem dX7_putBound_19 : decode cX7_putBound 19 = .ok (.goto 4, 3) := by decide +kernel
theorem dX7_putBound_22 : decode cX7_putBound 22 = .ok (.iconst 0, 1) := by decide +kernel
theorem dX7_putBound_23 : decode cX7_putBound 23 = .ok (.invokevirtual 59, 3) := by decide +kernel
theorem dX7_putBound_26 : decode cX7_putBound 26 = .ok (.iinc 4 1, 3) := by decide +kernel
theorem dX7_putBound_29 : decode cX7_putBound 29 = .ok (.goto (-26), 3) := by decide +kernel
theorem dX7_putBound_32 : decode cX7_putBound 32 = .ok (.aload_n 0, 1) := by decide +kernel
theorem dX7_putBound_33 : decode cX7_putBound 33 = .ok (.iload_n 3, 1) := by decide +kernel
theorem dX7_putBound_34 : decode cX7_putBound 34 = .ok (.iconst 0, 1) := by decide +kernel
theorem dX7_putBound_35 : decode cX7_putBound 35 = .ok (.invokevirtual 63, 3) := by decide +kernel
theorem dX7_putBound_38 : decode cX7_putBound 38 = .ok (.return_, 1) := by decide +kernel
theorem dX7_putRow_0 : decode cX7_putRow 0 = .ok (.aload_n 1, 1) := by decide +kernel
theorem dX7_putRow_1 : decode cX7_putRow 1 = .ok (.iload_n 2, 1) := by decide +kernel
theorem dX7_putRow_2 : decode cX7_putRow 2 = .ok (.invokevirtual 67, 3) := by decide +kernel
theorem dX7_putRow_5 : decode cX7_putRow 5 = .ok (.istore 4, 2) := by decide +kernel
theorem dX7_putRow_7 : decode cX7_putRow 7 = .ok (.iload 4, 2) := by decide +kernel
theorem dX7_putRow_9 : decode cX7_putRow 9 = .ok (.bipush 62, 2) := by decide +kernel
theorem dX7_putRow_11 : decode cX7_putRow 11 = .ok (.if_icmp .eq 38, 3) := by decide +kernel
theorem dX7_putRow_14 : decode cX7_putRow 14 = .ok (.iconst 0, 1) := by decide +kernel
theorem dX7_putRow_15 : decode cX7_putRow 15 = .ok (.istore 5, 2) := by decide +kernel
theorem dX7_putRow_17 : decode cX7_putRow 17 = .ok (.iload 5, 2) := by decide +kernel
theorem dX7_putRow_19 : decode cX7_putRow 19 = .ok (.iconst 3, 1) := by decide +kernel
theorem dX7_putRow_20 : decode cX7_putRow 20 = .ok (.if_icmp .ge 23, 3) := by decide +kernel
theorem dX7_putRow_23 : decode cX7_putRow 23 = .ok (.aload_n 0, 1) := by decide +kernel
theorem dX7_putRow_24 : decode cX7_putRow 24 = .ok (.iload 5, 2) := by decide +kernel
theorem dX7_putRow_26 : decode cX7_putRow 26 = .ok (.aload_n 1, 1) := by decide +kernel
theorem dX7_putRow_27 : decode cX7_putRow 27 = .ok (.iload_n 2, 1) := by decide +kernel
theorem dX7_putRow_28 : decode cX7_putRow 28 = .ok (.iload 5, 2) := by decide +kernel
theorem dX7_putRow_30 : decode cX7_putRow 30 = .ok (.invokevirtual 71, 3) := by decide +kernel
theorem dX7_putRow_33 : decode cX7_putRow 33 = .ok (.ineg, 1) := by decide +kernel
theorem dX7_putRow_34 : decode cX7_putRow 34 = .ok (.invokevirtual 59, 3) := by decide +kernel
theorem dX7_putRow_37 : decode cX7_putRow 37 = .ok (.iinc 5 1, 3) := by decide +kernel
theorem dX7_putRow_40 : decode cX7_putRow 40 = .ok (.goto (-23), 3) := by decide +kernel
theorem dX7_putRow_43 : decode cX7_putRow 43 = .ok (.aload_n 0, 1) := by decide +kernel
theorem dX7_putRow_44 : decode cX7_putRow 44 = .ok (.iload_n 3, 1) := by decide +kernel
theorem dX7_putRow_45 : decode cX7_putRow 45 = .ok (.iconst 0, 1) := by decide +kernel
theorem dX7_putRow_46 : decode cX7_putRow 46 = .ok (.invokevirtual 63, 3) := by decide +kernel
theorem dX7_putRow_49 : decode cX7_putRow 49 = .ok (.iload 4, 2) := by decide +kernel
theorem dX7_putRow_51 : decode cX7_putRow 51 = .ok (.bipush 60, 2) := by decide +kernel
theorem dX7_putRow_53 : decode cX7_putRow 53 = .ok (.if_icmp .eq 49, 3) := by decide +kernel
theorem dX7_putRow_56 : decode cX7_putRow 56 = .ok (.iconst 0, 1) := by decide +kernel
theorem dX7_putRow_57 : decode cX7_putRow 57 = .ok (.istore 5, 2) := by decide +kernel
theorem dX7_putRow_59 : decode cX7_putRow 59 = .ok (.iload 5, 2) := by decide +kernel
theorem dX7_putRow_61 : decode cX7_putRow 61 = .ok (.iconst 3, 1) := by decide +kernel
theorem dX7_putRow_62 : decode cX7_putRow 62 = .ok (.if_icmp .ge 22, 3) := by decide +kernel
theorem dX7_putRow_65 : decode cX7_putRow 65 = .ok (.aload_n 0, 1) := by decide +kernel
theorem dX7_putRow_66 : decode cX7_putRow 66 = .ok (.iload 5, 2) := by decide +kernel
theorem dX7_putRow_68 : decode cX7_putRow 68 = .ok (.aload_n 1, 1) := by decide +kernel
theorem dX7_putRow_69 : decode cX7_putRow 69 = .ok (.iload_n 2, 1) := by decide +kernel
theorem dX7_putRow_70 : decode cX7_putRow 70 = .ok (.iload 5, 2) := by decide +kernel
theorem dX7_putRow_72 : decode cX7_putRow 72 = .ok (.invokevirtual 71, 3) := by decide +kernel
theorem dX7_putRow_75 : decode cX7_putRow 75 = .ok (.invokevirtual 59, 3) := by decide +kernel
theorem dX7_putRow_78 : decode cX7_putRow 78 = .ok (.iinc 5 1, 3) := by decide +kernel
theorem dX7_putRow_81 : decode cX7_putRow 81 = .ok (.goto (-22), 3) := by decide +kernel
theorem dX7_putRow_84 : decode cX7_putRow 84 = .ok (.aload_n 0, 1) := by decide +kernel
theorem dX7_putRow_85 : decode cX7_putRow 85 = .ok (.iload_n 3, 1) := by decide +kernel
theorem dX7_putRow_86 : decode cX7_putRow 86 = .ok (.ineg, 1) := by decide +kernel
theorem dX7_putRow_87 : decode cX7_putRow 87 = .ok (.iload 4, 2) := by decide +kernel
theorem dX7_putRow_89 : decode cX7_putRow 89 = .ok (.bipush 61, 2) := by decide +kernel
theorem dX7_putRow_91 : decode cX7_putRow 91 = .ok (.if_icmp .ne 7, 3) := by decide +kernel
theorem dX7_putRow_94 : decode cX7_putRow 94 = .ok (.iconst 1, 1) := by decide +kernel
theorem dX7_putRow_95 : decode cX7_putRow 95 = .ok (.goto 4, 3) := by decide +kernel
theorem dX7_putRow_98 : decode cX7_putRow 98 = .ok (.iconst 0, 1) := by decide +kernel
theorem dX7_putRow_99 : decode cX7_putRow 99 = .ok (.invokevirtual 63, 3) := by decide +kernel
theorem dX7_putRow_102 : decode cX7_putRow 102 = .ok (.return_, 1) := by decide +kernel
theorem dX7_putSlope_0 : decode cX7_putSlope 0 = .ok (.aload_n 0, 1) := by decide +kernel
theorem dX7_putSlope_1 : decode cX7_putSlope 1 = .ok (.getfield 22, 3) := by decide +kernel
theorem dX7_putSlope_4 : decode cX7_putSlope 4 = .ok (.iconst 3, 1) := by decide +kernel
theorem dX7_putSlope_5 : decode cX7_putSlope 5 = .ok (.imul, 1) := by decide +kernel
theorem dX7_putSlope_6 : decode cX7_putSlope 6 = .ok (.iload_n 1, 1) := by decide +kernel
theorem dX7_putSlope_7 : decode cX7_putSlope 7 = .ok (.iadd, 1) := by decide +kernel
theorem dX7_putSlope_8 : decode cX7_putSlope 8 = .ok (.istore_n 3, 1) := by decide +kernel
theorem dX7_putSlope_9 : decode cX7_putSlope 9 = .ok (.iload_n 3, 1) := by decide +kernel
theorem dX7_putSlope_10 : decode cX7_putSlope 10 = .ok (.ifCond .lt 19, 3) := by decide +kernel
theorem dX7_putSlope_13 : decode cX7_putSlope 13 = .ok (.iload_n 3, 1) := by decide +kernel
theorem dX7_putSlope_14 : decode cX7_putSlope 14 = .ok (.aload_n 0, 1) := by decide +kernel
theorem dX7_putSlope_15 : decode cX7_putSlope 15 = .ok (.getfield 11, 3) := by decide +kernel
theorem dX7_putSlope_18 : decode cX7_putSlope 18 = .ok (.arraylength, 1) := by decide +kernel
theorem dX7_putSlope_19 : decode cX7_putSlope 19 = .ok (.if_icmp .ge 10, 3) := by decide +kernel
theorem dX7_putSlope_22 : decode cX7_putSlope 22 = .ok (.aload_n 0, 1) := by decide +kernel
theorem dX7_putSlope_23 : decode cX7_putSlope 23 = .ok (.getfield 11, 3) := by decide +kernel
theorem dX7_putSlope_26 : decode cX7_putSlope 26 = .ok (.iload_n 3, 1) := by decide +kernel
theorem dX7_putSlope_27 : decode cX7_putSlope 27 = .ok (.iload_n 2, 1) := by decide +kernel
theorem dX7_putSlope_28 : decode cX7_putSlope 28 = .ok (.iastore, 1) := by decide +kernel
theorem dX7_putSlope_29 : decode cX7_putSlope 29 = .ok (.return_, 1) := by decide +kernel
theorem dX7_close_0 : decode cX7_close 0 = .ok (.aload_n 0, 1) := by decide +kernel
theorem dX7_close_1 : decode cX7_close 1 = .ok (.getfield 22, 3) := by decide +kernel
theorem dX7_close_4 : decode cX7_close 4 = .ok (.ifCond .lt 57, 3) := by decide +kernel
theorem dX7_close_7 : decode cX7_close 7 = .ok (.aload_n 0, 1) := by decide +kernel
theorem dX7_close_8 : decode cX7_close 8 = .ok (.getfield 22, 3) := by decide +kernel
theorem dX7_close_11 : decode cX7_close 11 = .ok (.aload_n 0, 1) := by decide +kernel
theorem dX7_close_12 : decode cX7_close 12 = .ok (.getfield 15, 3) := by decide +kernel
theorem dX7_close_15 : decode cX7_close 15 = .ok (.arraylength, 1) := by decide +kernel
theorem dX7_close_16 : decode cX7_close 16 = .ok (.if_icmp .ge 45, 3) := by decide +kernel
theorem dX7_close_19 : decode cX7_close 19 = .ok (.aload_n 0, 1) := by decide +kernel
theorem dX7_close_20 : decode cX7_close 20 = .ok (.getfield 22, 3) := by decide +kernel
theorem dX7_close_23 : decode cX7_close 23 = .ok (.aload_n 0, 1) := by decide +kernel
theorem dX7_close_24 : decode cX7_close 24 = .ok (.getfield 18, 3) := by decide +kernel
theorem dX7_close_27 : decode cX7_close 27 = .ok (.arraylength, 1) := by decide +kernel
theorem dX7_close_28 : decode cX7_close 28 = .ok (.if_icmp .ge 33, 3) := by decide +kernel
theorem dX7_close_31 : decode cX7_close 31 = .ok (.aload_n 0, 1) := by decide +kernel
theorem dX7_close_32 : decode cX7_close 32 = .ok (.getfield 15, 3) := by decide +kernel
theorem dX7_close_35 : decode cX7_close 35 = .ok (.aload_n 0, 1) := by decide +kernel
theorem dX7_close_36 : decode cX7_close 36 = .ok (.getfield 22, 3) := by decide +kernel
theorem dX7_close_39 : decode cX7_close 39 = .ok (.iload_n 1, 1) := by decide +kernel
theorem dX7_close_40 : decode cX7_close 40 = .ok (.iastore, 1) := by decide +kernel
theorem dX7_close_41 : decode cX7_close 41 = .ok (.aload_n 0, 1) := by decide +kernel
theorem dX7_close_42 : decode cX7_close 42 = .ok (.getfield 18, 3) := by decide +kernel
theorem dX7_close_45 : decode cX7_close 45 = .ok (.aload_n 0, 1) := by decide +kernel
theorem dX7_close_46 : decode cX7_close 46 = .ok (.getfield 22, 3) := by decide +kernel
theorem dX7_close_49 : decode cX7_close 49 = .ok (.iload_n 2, 1) := by decide +kernel
theorem dX7_close_50 : decode cX7_close 50 = .ok (.bastore, 1) := by decide +kernel
theorem dX7_close_51 : decode cX7_close 51 = .ok (.aload_n 0, 1) := by decide +kernel
theorem dX7_close_52 : decode cX7_close 52 = .ok (.dup, 1) := by decide +kernel
theorem dX7_close_53 : decode cX7_close 53 = .ok (.getfield 22, 3) := by decide +kernel
theorem dX7_close_56 : decode cX7_close 56 = .ok (.iconst 1, 1) := by decide +kernel
theorem dX7_close_57 : decode cX7_close 57 = .ok (.iadd, 1) := by decide +kernel
theorem dX7_close_58 : decode cX7_close 58 = .ok (.putfield 22, 3) := by decide +kernel
theorem dX7_close_61 : decode cX7_close 61 = .ok (.return_, 1) := by decide +kernel
theorem dX7_slopeOf_0 : decode cX7_slopeOf 0 = .ok (.iload_n 1, 1) := by decide +kernel
theorem dX7_slopeOf_1 : decode cX7_slopeOf 1 = .ok (.iconst 3, 1) := by decide +kernel
theorem dX7_slopeOf_2 : decode cX7_slopeOf 2 = .ok (.imul, 1) := by decide +kernel
theorem dX7_slopeOf_3 : decode cX7_slopeOf 3 = .ok (.iload_n 2, 1) := by decide +kernel
theorem dX7_slopeOf_4 : decode cX7_slopeOf 4 = .ok (.iadd, 1) := by decide +kernel
theorem dX7_slopeOf_5 : decode cX7_slopeOf 5 = .ok (.istore_n 3, 1) := by decide +kernel
theorem dX7_slopeOf_6 : decode cX7_slopeOf 6 = .ok (.iload_n 3, 1) := by decide +kernel
theorem dX7_slopeOf_7 : decode cX7_slopeOf 7 = .ok (.ifCond .lt 22, 3) := by decide +kernel
theorem dX7_slopeOf_10 : decode cX7_slopeOf 10 = .ok (.iload_n 3, 1) := by decide +kernel
theorem dX7_slopeOf_11 : decode cX7_slopeOf 11 = .ok (.aload_n 0, 1) := by decide +kernel
theorem dX7_slopeOf_12 : decode cX7_slopeOf 12 = .ok (.getfield 11, 3) := by decide +kernel
theorem dX7_slopeOf_15 : decode cX7_slopeOf 15 = .ok (.arraylength, 1) := by decide +kernel
theorem dX7_slopeOf_16 : decode cX7_slopeOf 16 = .ok (.if_icmp .ge 13, 3) := by decide +kernel
theorem dX7_slopeOf_19 : decode cX7_slopeOf 19 = .ok (.aload_n 0, 1) := by decide +kernel
theorem dX7_slopeOf_20 : decode cX7_slopeOf 20 = .ok (.getfield 11, 3) := by decide +kernel
theorem dX7_slopeOf_23 : decode cX7_slopeOf 23 = .ok (.iload_n 3, 1) := by decide +kernel
theorem dX7_slopeOf_24 : decode cX7_slopeOf 24 = .ok (.iaload, 1) := by decide +kernel
theorem dX7_slopeOf_25 : decode cX7_slopeOf 25 = .ok (.i2l, 1) := by decide +kernel
theorem dX7_slopeOf_26 : decode cX7_slopeOf 26 = .ok (.goto 4, 3) := by decide +kernel
theorem dX7_slopeOf_29 : decode cX7_slopeOf 29 = .ok (.lconst 0, 1) := by decide +kernel
theorem dX7_slopeOf_30 : decode cX7_slopeOf 30 = .ok (.lreturn, 1) := by decide +kernel
theorem dX7_constantOf_0 : decode cX7_constantOf 0 = .ok (.iload_n 1, 1) := by decide +kernel
theorem dX7_constantOf_1 : decode cX7_constantOf 1 = .ok (.ifCond .lt 22, 3) := by decide +kernel
theorem dX7_constantOf_4 : decode cX7_constantOf 4 = .ok (.iload_n 1, 1) := by decide +kernel
theorem dX7_constantOf_5 : decode cX7_constantOf 5 = .ok (.aload_n 0, 1) := by decide +kernel
theorem dX7_constantOf_6 : decode cX7_constantOf 6 = .ok (.getfield 15, 3) := by decide +kernel
theorem dX7_constantOf_9 : decode cX7_constantOf 9 = .ok (.arraylength, 1) := by decide +kernel
theorem dX7_constantOf_10 : decode cX7_constantOf 10 = .ok (.if_icmp .ge 13, 3) := by decide +kernel
theorem dX7_constantOf_13 : decode cX7_constantOf 13 = .ok (.aload_n 0, 1) := by decide +kernel
theorem dX7_constantOf_14 : decode cX7_constantOf 14 = .ok (.getfield 15, 3) := by decide +kernel
theorem dX7_constantOf_17 : decode cX7_constantOf 17 = .ok (.iload_n 1, 1) := by decide +kernel
theorem dX7_constantOf_18 : decode cX7_constantOf 18 = .ok (.iaload, 1) := by decide +kernel
theorem dX7_constantOf_19 : decode cX7_constantOf 19 = .ok (.i2l, 1) := by decide +kernel
theorem dX7_constantOf_20 : decode cX7_constantOf 20 = .ok (.goto 4, 3) := by decide +kernel
theorem dX7_constantOf_23 : decode cX7_constantOf 23 = .ok (.lconst 0, 1) := by decide +kernel
theorem dX7_constantOf_24 : decode cX7_constantOf 24 = .ok (.lreturn, 1) := by decide +kernel
theorem dX7_isMirror_0 : decode cX7_isMirror 0 = .ok (.iload_n 1, 1) := by decide +kernel
theorem dX7_isMirror_1 : decode cX7_isMirror 1 = .ok (.ifCond .lt 25, 3) := by decide +kernel
theorem dX7_isMirror_4 : decode cX7_isMirror 4 = .ok (.iload_n 1, 1) := by decide +kernel
theorem dX7_isMirror_5 : decode cX7_isMirror 5 = .ok (.aload_n 0, 1) := by decide +kernel
theorem dX7_isMirror_6 : decode cX7_isMirror 6 = .ok (.getfield 18, 3) := by decide +kernel
theorem dX7_isMirror_9 : decode cX7_isMirror 9 = .ok (.arraylength, 1) := by decide +kernel
theorem dX7_isMirror_10 : decode cX7_isMirror 10 = .ok (.if_icmp .ge 16, 3) := by decide +kernel
theorem dX7_isMirror_13 : decode cX7_isMirror 13 = .ok (.aload_n 0, 1) := by decide +kernel
theorem dX7_isMirror_14 : decode cX7_isMirror 14 = .ok (.getfield 18, 3) := by decide +kernel
theorem dX7_isMirror_17 : decode cX7_isMirror 17 = .ok (.iload_n 1, 1) := by decide +kernel
theorem dX7_isMirror_18 : decode cX7_isMirror 18 = .ok (.baload, 1) := by decide +kernel
theorem dX7_isMirror_19 : decode cX7_isMirror 19 = .ok (.ifCond .eq 7, 3) := by decide +kernel
theorem dX7_isMirror_22 : decode cX7_isMirror 22 = .ok (.iconst 1, 1) := by decide +kernel
theorem dX7_isMirror_23 : decode cX7_isMirror 23 = .ok (.goto 4, 3) := by decide +kernel
theorem dX7_isMirror_26 : decode cX7_isMirror 26 = .ok (.iconst 0, 1) := by decide +kernel
theorem dX7_isMirror_27 : decode cX7_isMirror 27 = .ok (.ireturn, 1) := by decide +kernel
theorem dX8_init_0 : decode cX8_init 0 = .ok (.aload_n 0, 1) := by decide +kernel
theorem dX8_init_1 : decode cX8_init 1 = .ok (.invokespecial 3, 3) := by decide +kernel
theorem dX8_init_4 : decode cX8_init 4 = .ok (.aload_n 0, 1) := by decide +kernel
theorem dX8_init_5 : decode cX8_init 5 = .ok (.bipush 30, 2) := by decide +kernel
theorem dX8_init_7 : decode cX8_init 7 = .ok (.newarray .char, 2) := by decide +kernel
theorem dX8_init_9 : decode cX8_init 9 = .ok (.putfield 9, 3) := by decide +kernel
theorem dX8_init_12 : decode cX8_init 12 = .ok (.aload_n 0, 1) := by decide +kernel
theorem dX8_init_13 : decode cX8_init 13 = .ok (.iconst 3, 1) := by decide +kernel
theorem dX8_init_14 : decode cX8_init 14 = .ok (.newarray .int, 2) := by decide +kernel
theorem dX8_init_16 : decode cX8_init 16 = .ok (.putfield 15, 3) := by decide +kernel
theorem dX8_init_19 : decode cX8_init 19 = .ok (.aload_n 0, 1) := by decide +kernel
theorem dX8_init_20 : decode cX8_init 20 = .ok (.bipush 45, 2) := by decide +kernel
theorem dX8_init_22 : decode cX8_init 22 = .ok (.putfield 19, 3) := by decide +kernel
theorem dX8_init_25 : decode cX8_init 25 = .ok (.aload_n 0, 1) := by decide +kernel
theorem dX8_init_26 : decode cX8_init 26 = .ok (.iconst 1, 1) := by decide +kernel
theorem dX8_init_27 : decode cX8_init 27 = .ok (.putfield 23, 3) := by decide +kernel
theorem dX8_init_30 : decode cX8_init 30 = .ok (.aload_n 0, 1) := by decide +kernel
theorem dX8_init_31 : decode cX8_init 31 = .ok (.bipush 61, 2) := by decide +kernel
theorem dX8_init_33 : decode cX8_init 33 = .ok (.putfield 27, 3) := by decide +kernel
theorem dX8_init_36 : decode cX8_init 36 = .ok (.return_, 1) := by decide +kernel
theorem dX8_canBeTyped_0 : decode cX8_canBeTyped 0 = .ok (.iload_n 0, 1) := by decide +kernel
theorem dX8_canBeTyped_1 : decode cX8_canBeTyped 1 = .ok (.bipush 97, 2) := by decide +kernel
theorem dX8_canBeTyped_3 : decode cX8_canBeTyped 3 = .ok (.if_icmp .lt 9, 3) := by decide +kernel
theorem dX8_canBeTyped_6 : decode cX8_canBeTyped 6 = .ok (.iload_n 0, 1) := by decide +kernel
theorem dX8_canBeTyped_7 : decode cX8_canBeTyped 7 = .ok (.bipush 122, 2) := by decide +kernel
theorem dX8_canBeTyped_9 : decode cX8_canBeTyped 9 = .ok (.if_icmp .le 40, 3) := by decide +kernel
theorem dX8_canBeTyped_12 : decode cX8_canBeTyped 12 = .ok (.iload_n 0, 1) := by decide +kernel
theorem dX8_canBeTyped_13 : decode cX8_canBeTyped 13 = .ok (.invokestatic 30, 3) := by decide +kernel
theorem dX8_canBeTyped_16 : decode cX8_canBeTyped 16 = .ok (.ifCond .ne 33, 3) := by decide +kernel
theorem dX8_canBeTyped_19 : decode cX8_canBeTyped 19 = .ok (.iload_n 0, 1) := by decide +kernel
theorem dX8_canBeTyped_20 : decode cX8_canBeTyped 20 = .ok (.bipush 43, 2) := by decide +kernel
theorem dX8_canBeTyped_22 : decode cX8_canBeTyped 22 = .ok (.if_icmp .eq 27, 3) := by decide +kernel
theorem dX8_canBeTyped_25 : decode cX8_canBeTyped 25 = .ok (.iload_n 0, 1) := by decide +kernel
theorem dX8_canBeTyped_26 : decode cX8_canBeTyped 26 = .ok (.bipush 45, 2) := by decide +kernel
theorem dX8_canBeTyped_28 : decode cX8_canBeTyped 28 = .ok (.if_icmp .eq 21, 3) := by decide +kernel
theorem dX8_canBeTyped_31 : decode cX8_canBeTyped 31 = .ok (.iload_n 0, 1) := by decide +kernel
theorem dX8_canBeTyped_32 : decode cX8_canBeTyped 32 = .ok (.bipush 60, 2) := by decide +kernel
theorem dX8_canBeTyped_34 : decode cX8_canBeTyped 34 = .ok (.if_icmp .eq 15, 3) := by decide +kernel
theorem dX8_canBeTyped_37 : decode cX8_canBeTyped 37 = .ok (.iload_n 0, 1) := by decide +kernel
theorem dX8_canBeTyped_38 : decode cX8_canBeTyped 38 = .ok (.bipush 62, 2) := by decide +kernel
theorem dX8_canBeTyped_40 : decode cX8_canBeTyped 40 = .ok (.if_icmp .eq 9, 3) := by decide +kernel
theorem dX8_canBeTyped_43 : decode cX8_canBeTyped 43 = .ok (.iload_n 0, 1) := by decide +kernel
theorem dX8_canBeTyped_44 : decode cX8_canBeTyped 44 = .ok (.bipush 61, 2) := by decide +kernel
theorem dX8_canBeTyped_46 : decode cX8_canBeTyped 46 = .ok (.if_icmp .ne 7, 3) := by decide +kernel
theorem dX8_canBeTyped_49 : decode cX8_canBeTyped 49 = .ok (.iconst 1, 1) := by decide +kernel
theorem dX8_canBeTyped_50 : decode cX8_canBeTyped 50 = .ok (.goto 4, 3) := by decide +kernel
theorem dX8_canBeTyped_53 : decode cX8_canBeTyped 53 = .ok (.iconst 0, 1) := by decide +kernel
theorem dX8_canBeTyped_54 : decode cX8_canBeTyped 54 = .ok (.ireturn, 1) := by decide +kernel
theorem dX8_append_0 : decode cX8_append 0 = .ok (.aload_n 0, 1) := by decide +kernel
theorem dX8_append_1 : decode cX8_append 1 = .ok (.getfield 34, 3) := by decide +kernel
theorem dX8_append_4 : decode cX8_append 4 = .ok (.ifCond .lt 35, 3) := by decide +kernel
theorem dX8_append_7 : decode cX8_append 7 = .ok (.aload_n 0, 1) := by decide +kernel
theorem dX8_append_8 : decode cX8_append 8 = .ok (.getfield 34, 3) := by decide +kernel
theorem dX8_append_11 : decode cX8_append 11 = .ok (.aload_n 0, 1) := by decide +kernel
theorem dX8_append_12 : decode cX8_append 12 = .ok (.getfield 9, 3) := by decide +kernel
theorem dX8_append_15 : decode cX8_append 15 = .ok (.arraylength, 1) := by decide +kernel
theorem dX8_append_16 : decode cX8_append 16 = .ok (.if_icmp .ge 23, 3) := by decide +kernel
theorem dX8_append_19 : decode cX8_append 19 = .ok (.aload_n 0, 1) := by decide +kernel
theorem dX8_append_20 : decode cX8_append 20 = .ok (.getfield 9, 3) := by decide +kernel
theorem dX8_append_23 : decode cX8_append 23 = .ok (.aload_n 0, 1) := by decide +kernel
theorem dX8_append_24 : decode cX8_append 24 = .ok (.getfield 34, 3) := by decide +kernel
theorem dX8_append_27 : decode cX8_append 27 = .ok (.iload_n 1, 1) := by decide +kernel
theorem dX8_append_28 : decode cX8_append 28 = .ok (.castore, 1) := by decide +kernel
theorem dX8_append_29 : decode cX8_append 29 = .ok (.aload_n 0, 1) := by decide +kernel
theorem dX8_append_30 : decode cX8_append 30 = .ok (.dup, 1) := by decide +kernel
theorem dX8_append_31 : decode cX8_append 31 = .ok (.getfield 34, 3) := by decide +kernel
theorem dX8_append_34 : decode cX8_append 34 = .ok (.iconst 1, 1) := by decide +kernel
theorem dX8_append_35 : decode cX8_append 35 = .ok (.iadd, 1) := by decide +kernel
theorem dX8_append_36 : decode cX8_append 36 = .ok (.putfield 34, 3) := by decide +kernel
theorem dX8_append_39 : decode cX8_append 39 = .ok (.aload_n 0, 1) := by decide +kernel
theorem dX8_append_40 : decode cX8_append 40 = .ok (.getfield 34, 3) := by decide +kernel
theorem dX8_append_43 : decode cX8_append 43 = .ok (.ireturn, 1) := by decide +kernel
theorem dX8_beginsAsAim_0 : decode cX8_beginsAsAim 0 = .ok (.aload_n 0, 1) := by decide +kernel
theorem dX8_beginsAsAim_1 : decode cX8_beginsAsAim 1 = .ok (.getfield 34, 3) := by decide +kernel
theorem dX8_beginsAsAim_4 : decode cX8_beginsAsAim 4 = .ok (.ifCond .le 26, 3) := by decide +kernel
theorem dX8_beginsAsAim_7 : decode cX8_beginsAsAim 7 = .ok (.aload_n 0, 1) := by decide +kernel
theorem dX8_beginsAsAim_8 : decode cX8_beginsAsAim 8 = .ok (.getfield 9, 3) := by decide +kernel
theorem dX8_beginsAsAim_11 : decode cX8_beginsAsAim 11 = .ok (.arraylength, 1) := by decide +kernel
theorem dX8_beginsAsAim_12 : decode cX8_beginsAsAim 12 = .ok (.ifCond .le 18, 3) := by decide +kernel
theorem dX8_beginsAsAim_15 : decode cX8_beginsAsAim 15 = .ok (.aload_n 0, 1) := by decide +kernel
theorem dX8_beginsAsAim_16 : decode cX8_beginsAsAim 16 = .ok (.getfield 9, 3) := by decide +kernel
theorem dX8_beginsAsAim_19 : decode cX8_beginsAsAim 19 = .ok (.iconst 0, 1) := by decide +kernel
theorem dX8_beginsAsAim_20 : decode cX8_beginsAsAim 20 = .ok (.caload, 1) := by decide +kernel
theorem dX8_beginsAsAim_21 : decode cX8_beginsAsAim 21 = .ok (.bipush 109, 2) := by decide +kernel
theorem dX8_beginsAsAim_23 : decode cX8_beginsAsAim 23 = .ok (.if_icmp .ne 7, 3) := by decide +kernel
theorem dX8_beginsAsAim_26 : decode cX8_beginsAsAim 26 = .ok (.iconst 1, 1) := by decide +kernel
theorem dX8_beginsAsAim_27 : decode cX8_beginsAsAim 27 = .ok (.goto 4, 3) := by decide +kernel
theorem dX8_beginsAsAim_30 : decode cX8_beginsAsAim 30 = .ok (.iconst 0, 1) := by decide +kernel
theorem dX8_beginsAsAim_31 : decode cX8_beginsAsAim 31 = .ok (.ireturn, 1) := by decide +kernel
theorem dX8_hasFault_0 : decode cX8_hasFault 0 = .ok (.aload_n 0, 1) := by decide +kernel
theorem dX8_hasFault_1 : decode cX8_hasFault 1 = .ok (.getfield 19, 3) := by decide +kernel
theorem dX8_hasFault_4 : decode cX8_hasFault 4 = .ok (.bipush 45, 2) := by decide +kernel
theorem dX8_hasFault_6 : decode cX8_hasFault 6 = .ok (.if_icmp .eq 7, 3) := by decide +kernel
theorem dX8_hasFault_9 : decode cX8_hasFault 9 = .ok (.iconst 1, 1) := by decide +kernel
theorem dX8_hasFault_10 : decode cX8_hasFault 10 = .ok (.goto 4, 3) := by decide +kernel
theorem dX8_hasFault_13 : decode cX8_hasFault 13 = .ok (.iconst 0, 1) := by decide +kernel
theorem dX8_hasFault_14 : decode cX8_hasFault 14 = .ok (.ireturn, 1) := by decide +kernel
theorem dX8_coefficientOf_0 : decode cX8_coefficientOf 0 = .ok (.iload_n 1, 1) := by decide +kernel
theorem dX8_coefficientOf_1 : decode cX8_coefficientOf 1 = .ok (.ifCond .lt 21, 3) := by decide +kernel
theorem dX8_coefficientOf_4 : decode cX8_coefficientOf 4 = .ok (.iload_n 1, 1) := by decide +kernel
theorem dX8_coefficientOf_5 : decode cX8_coefficientOf 5 = .ok (.aload_n 0, 1) := by decide +kernel
theorem dX8_coefficientOf_6 : decode cX8_coefficientOf 6 = .ok (.getfield 15, 3) := by decide +kernel
theorem dX8_coefficientOf_9 : decode cX8_coefficientOf 9 = .ok (.arraylength, 1) := by decide +kernel
theorem dX8_coefficientOf_10 : decode cX8_coefficientOf 10 = .ok (.if_icmp .ge 12, 3) := by decide +kernel
theorem dX8_coefficientOf_13 : decode cX8_coefficientOf 13 = .ok (.aload_n 0, 1) := by decide +kernel
theorem dX8_coefficientOf_14 : decode cX8_coefficientOf 14 = .ok (.getfield 15, 3) := by decide +kernel
theorem dX8_coefficientOf_17 : decode cX8_coefficientOf 17 = .ok (.iload_n 1, 1) := by decide +kernel
theorem dX8_coefficientOf_18 : decode cX8_coefficientOf 18 = .ok (.iaload, 1) := by decide +kernel
theorem dX8_coefficientOf_19 : decode cX8_coefficientOf 19 = .ok (.goto 4, 3) := by decide +kernel
theorem dX8_coefficientOf_22 : decode cX8_coefficientOf 22 = .ok (.iconst 0, 1) := by decide +kernel
theorem dX8_coefficientOf_23 : decode cX8_coefficientOf 23 = .ok (.ireturn, 1) := by decide +kernel
theorem dX8_read_0 : decode cX8_read 0 = .ok (.aload_n 0, 1) := by decide +kernel
theorem dX8_read_1 : decode cX8_read 1 = .ok (.iload_n 1, 1) := by decide +kernel
theorem dX8_read_2 : decode cX8_read 2 = .ok (.putfield 37, 3) := by decide +kernel
theorem dX8_read_5 : decode cX8_read 5 = .ok (.aload_n 0, 1) := by decide +kernel
theorem dX8_read_6 : decode cX8_read 6 = .ok (.iconst 0, 1) := by decide +kernel
theorem dX8_read_7 : decode cX8_read 7 = .ok (.putfield 40, 3) := by decide +kernel
theorem dX8_read_10 : decode cX8_read 10 = .ok (.aload_n 0, 1) := by decide +kernel
theorem dX8_read_11 : decode cX8_read 11 = .ok (.bipush 45, 2) := by decide +kernel
theorem dX8_read_13 : decode cX8_read 13 = .ok (.putfield 19, 3) := by decide +kernel
theorem dX8_read_16 : decode cX8_read 16 = .ok (.aload_n 0, 1) := by decide +kernel
theorem dX8_read_17 : decode cX8_read 17 = .ok (.iconst 0, 1) := by decide +kernel
theorem dX8_read_18 : decode cX8_read 18 = .ok (.putfield 43, 3) := by decide +kernel
theorem dX8_read_21 : decode cX8_read 21 = .ok (.aload_n 0, 1) := by decide +kernel
theorem dX8_read_22 : decode cX8_read 22 = .ok (.iconst 0, 1) := by decide +kernel
theorem dX8_read_23 : decode cX8_read 23 = .ok (.putfield 46, 3) := by decide +kernel
theorem dX8_read_26 : decode cX8_read 26 = .ok (.iconst 0, 1) := by decide +kernel
theorem dX8_read_27 : decode cX8_read 27 = .ok (.istore_n 2, 1) := by decide +kernel
theorem dX8_read_28 : decode cX8_read 28 = .ok (.iload_n 2, 1) := by decide +kernel
theorem dX8_read_29 : decode cX8_read 29 = .ok (.aload_n 0, 1) := by decide +kernel
theorem dX8_read_30 : decode cX8_read 30 = .ok (.getfield 15, 3) := by decide +kernel
theorem dX8_read_33 : decode cX8_read 33 = .ok (.arraylength, 1) := by decide +kernel
theorem dX8_read_34 : decode cX8_read 34 = .ok (.if_icmp .ge 16, 3) := by decide +kernel
theorem dX8_read_37 : decode cX8_read 37 = .ok (.aload_n 0, 1) := by decide +kernel
theorem dX8_read_38 : decode cX8_read 38 = .ok (.getfield 15, 3) := by decide +kernel
theorem dX8_read_41 : decode cX8_read 41 = .ok (.iload_n 2, 1) := by decide +kernel
theorem dX8_read_42 : decode cX8_read 42 = .ok (.iconst 0, 1) := by decide +kernel
theorem dX8_read_43 : decode cX8_read 43 = .ok (.iastore, 1) := by decide +kernel
theorem dX8_read_44 : decode cX8_read 44 = .ok (.iinc 2 1, 3) := by decide +kernel
theorem dX8_read_47 : decode cX8_read 47 = .ok (.goto (-19), 3) := by decide +kernel
theorem dX8_read_50 : decode cX8_read 50 = .ok (.aload_n 0, 1) := by decide +kernel
theorem dX8_read_51 : decode cX8_read 51 = .ok (.invokevirtual 49, 3) := by decide +kernel
theorem dX8_read_54 : decode cX8_read 54 = .ok (.ifCond .eq 10, 3) := by decide +kernel
theorem dX8_read_57 : decode cX8_read 57 = .ok (.aload_n 0, 1) := by decide +kernel
theorem dX8_read_58 : decode cX8_read 58 = .ok (.invokevirtual 53, 3) := by decide +kernel
theorem dX8_read_61 : decode cX8_read 61 = .ok (.goto 7, 3) := by decide +kernel
theorem dX8_read_64 : decode cX8_read 64 = .ok (.aload_n 0, 1) := by decide +kernel
theorem dX8_read_65 : decode cX8_read 65 = .ok (.invokevirtual 56, 3) := by decide +kernel
theorem dX8_read_68 : decode cX8_read 68 = .ok (.aload_n 0, 1) := by decide +kernel
theorem dX8_read_69 : decode cX8_read 69 = .ok (.invokevirtual 59, 3) := by decide +kernel
theorem dX8_read_72 : decode cX8_read 72 = .ok (.ifCond .ne 20, 3) := by decide +kernel
theorem dX8_read_75 : decode cX8_read 75 = .ok (.aload_n 0, 1) := by decide +kernel
theorem dX8_read_76 : decode cX8_read 76 = .ok (.getfield 40, 3) := by decide +kernel
theorem dX8_read_79 : decode cX8_read 79 = .ok (.aload_n 0, 1) := by decide +kernel
theorem dX8_read_80 : decode cX8_read 80 = .ok (.getfield 34, 3) := by decide +kernel
theorem dX8_read_83 : decode cX8_read 83 = .ok (.if_icmp .ge 9, 3) := by decide +kernel
theorem dX8_read_86 : decode cX8_read 86 = .ok (.aload_n 0, 1) := by decide +kernel
theorem dX8_read_87 : decode cX8_read 87 = .ok (.bipush 115, 2) := by decide +kernel
theorem dX8_read_89 : decode cX8_read 89 = .ok (.invokevirtual 62, 3) := by decide +kernel
theorem dX8_read_92 : decode cX8_read 92 = .ok (.aload_n 0, 1) := by decide +kernel
theorem dX8_read_93 : decode cX8_read 93 = .ok (.invokevirtual 59, 3) := by decide +kernel
theorem dX8_read_96 : decode cX8_read 96 = .ok (.ifCond .ne 24, 3) := by decide +kernel
theorem dX8_read_99 : decode cX8_read 99 = .ok (.aload_n 0, 1) := by decide +kernel
theorem dX8_read_100 : decode cX8_read 100 = .ok (.invokevirtual 66, 3) := by decide +kernel
theorem dX8_read_103 : decode cX8_read 103 = .ok (.ifCond .ne 17, 3) := by decide +kernel
theorem dX8_read_106 : decode cX8_read 106 = .ok (.aload_n 0, 1) := by decide +kernel
theorem dX8_read_107 : decode cX8_read 107 = .ok (.aload_n 0, 1) := by decide +kernel
theorem dX8_read_108 : decode cX8_read 108 = .ok (.getfield 34, 3) := by decide +kernel
theorem dX8_read_111 : decode cX8_read 111 = .ok (.putfield 40, 3) := by decide +kernel
theorem dX8_read_114 : decode cX8_read 114 = .ok (.aload_n 0, 1) := by decide +kernel
theorem dX8_read_115 : decode cX8_read 115 = .ok (.bipush 114, 2) := by decide +kernel
theorem dX8_read_117 : decode cX8_read 117 = .ok (.invokevirtual 62, 3) := by decide +kernel
theorem dX8_read_120 : decode cX8_read 120 = .ok (.return_, 1) := by decide +kernel
theorem dX8_readAim_0 : decode cX8_readAim 0 = .ok (.aload_n 0, 1) := by decide +kernel
theorem dX8_readAim_1 : decode cX8_readAim 1 = .ok (.iconst 1, 1) := by decide +kernel
theorem dX8_readAim_2 : decode cX8_readAim 2 = .ok (.putfield 40, 3) := by decide +kernel
theorem dX8_readAim_5 : decode cX8_readAim 5 = .ok (.aload_n 0, 1) := by decide +kernel
theorem dX8_readAim_6 : decode cX8_readAim 6 = .ok (.aload_n 0, 1) := by decide +kernel
theorem dX8_readAim_7 : decode cX8_readAim 7 = .ok (.invokevirtual 69, 3) := by decide +kernel
theorem dX8_readAim_10 : decode cX8_readAim 10 = .ok (.bipush 105, 2) := by decide +kernel
theorem dX8_readAim_12 : decode cX8_readAim 12 = .ok (.if_icmp .ne 7, 3) := by decide +kernel
theorem dX8_readAim_15 : decode cX8_readAim 15 = .ok (.iconst (-1), 1) := by decide +kernel
theorem dX8_readAim_16 : decode cX8_readAim 16 = .ok (.goto 4, 3) := by decide +kernel
theorem dX8_readAim_19 : decode cX8_readAim 19 = .ok (.iconst 1, 1) := by decide +kernel
theorem dX8_readAim_20 : decode cX8_readAim 20 = .ok (.putfield 23, 3) := by decide +kernel
theorem dX8_readAim_23 : decode cX8_readAim 23 = .ok (.aload_n 0, 1) := by decide +kernel
theorem dX8_readAim_24 : decode cX8_readAim 24 = .ok (.aload_n 0, 1) := by decide +kernel
theorem dX8_readAim_25 : decode cX8_readAim 25 = .ok (.getfield 23, 3) := by decide +kernel
theorem dX8_readAim_28 : decode cX8_readAim 28 = .ok (.ifCond .ge 8, 3) := by decide +kernel
theorem dX8_readAim_31 : decode cX8_readAim 31 = .ok (.bipush 105, 2) := by decide +kernel
theorem dX8_readAim_33 : decode cX8_readAim 33 = .ok (.goto 5, 3) := by decide +kernel
theorem dX8_readAim_36 : decode cX8_readAim 36 = .ok (.bipush 97, 2) := by decide +kernel
theorem dX8_readAim_38 : decode cX8_readAim 38 = .ok (.invokevirtual 73, 3) := by decide +kernel
theorem dX8_readAim_41 : decode cX8_readAim 41 = .ok (.aload_n 0, 1) := by decide +kernel
theorem dX8_readAim_42 : decode cX8_readAim 42 = .ok (.aload_n 0, 1) := by decide +kernel
theorem dX8_readAim_43 : decode cX8_readAim 43 = .ok (.getfield 23, 3) := by decide +kernel
theorem dX8_readAim_46 : decode cX8_readAim 46 = .ok (.ifCond .ge 8, 3) := by decide +kernel
theorem dX8_readAim_49 : decode cX8_readAim 49 = .ok (.bipush 110, 2) := by decide +kernel
theorem dX8_readAim_51 : decode cX8_readAim 51 = .ok (.goto 5, 3) := by decide +kernel
theorem dX8_readAim_54 : decode cX8_readAim 54 = .ok (.bipush 120, 2) := by decide +kernel
theorem dX8_readAim_56 : decode cX8_readAim 56 = .ok (.invokevirtual 73, 3) := by decide +kernel
theorem dX8_readAim_59 : decode cX8_readAim 59 = .ok (.aload_n 0, 1) := by decide +kernel
theorem dX8_readAim_60 : decode cX8_readAim 60 = .ok (.invokevirtual 76, 3) := by decide +kernel
theorem dX8_readAim_63 : decode cX8_readAim 63 = .ok (.return_, 1) := by decide +kernel
theorem dX8_readRow_0 : decode cX8_readRow 0 = .ok (.aload_n 0, 1) := by decide +kernel
theorem dX8_readRow_1 : decode cX8_readRow 1 = .ok (.invokevirtual 76, 3) := by decide +kernel
theorem dX8_readRow_4 : decode cX8_readRow 4 = .ok (.aload_n 0, 1) := by decide +kernel
theorem dX8_readRow_5 : decode cX8_readRow 5 = .ok (.invokevirtual 79, 3) := by decide +kernel
theorem dX8_readRow_8 : decode cX8_readRow 8 = .ok (.aload_n 0, 1) := by decide +kernel
theorem dX8_readRow_9 : decode cX8_readRow 9 = .ok (.invokevirtual 82, 3) := by decide +kernel
theorem dX8_readRow_12 : decode cX8_readRow 12 = .ok (.return_, 1) := by decide +kernel
theorem dX8_readSum_0 : decode cX8_readSum 0 = .ok (.aload_n 0, 1) := by decide +kernel
theorem dX8_readSum_1 : decode cX8_readSum 1 = .ok (.aload_n 0, 1) := by decide +kernel
theorem dX8_readSum_2 : decode cX8_readSum 2 = .ok (.bipush 45, 2) := by decide +kernel
theorem dX8_readSum_4 : decode cX8_readSum 4 = .ok (.invokevirtual 85, 3) := by decide +kernel
theorem dX8_readSum_7 : decode cX8_readSum 7 = .ok (.invokevirtual 88, 3) := by decide +kernel
theorem dX8_readSum_10 : decode cX8_readSum 10 = .ok (.iconst 1, 1) := by decide +kernel
theorem dX8_readSum_11 : decode cX8_readSum 11 = .ok (.istore_n 1, 1) := by decide +kernel
theorem dX8_readSum_12 : decode cX8_readSum 12 = .ok (.iload_n 1, 1) := by decide +kernel
theorem dX8_readSum_13 : decode cX8_readSum 13 = .ok (.bipush 30, 2) := by decide +kernel
theorem dX8_readSum_15 : decode cX8_readSum 15 = .ok (.if_icmp .ge 65, 3) := by decide +kernel
theorem dX8_readSum_18 : decode cX8_readSum 18 = .ok (.aload_n 0, 1) := by decide +kernel
theorem dX8_readSum_19 : decode cX8_readSum 19 = .ok (.invokevirtual 59, 3) := by decide +kernel
theorem dX8_readSum_22 : decode cX8_readSum 22 = .ok (.ifCond .ne 21, 3) := by decide +kernel
theorem dX8_readSum_25 : decode cX8_readSum 25 = .ok (.aload_n 0, 1) := by decide +kernel
theorem dX8_readSum_26 : decode cX8_readSum 26 = .ok (.invokevirtual 69, 3) := by decide +kernel
theorem dX8_readSum_29 : decode cX8_readSum 29 = .ok (.bipush 43, 2) := by decide +kernel
theorem dX8_readSum_31 : decode cX8_readSum 31 = .ok (.if_icmp .eq 13, 3) := by decide +kernel
theorem dX8_readSum_34 : decode cX8_readSum 34 = .ok (.aload_n 0, 1) := by decide +kernel
theorem dX8_readSum_35 : decode cX8_readSum 35 = .ok (.invokevirtual 69, 3) := by decide +kernel
theorem dX8_readSum_38 : decode cX8_readSum 38 = .ok (.bipush 45, 2) := by decide +kernel
theorem dX8_readSum_40 : decode cX8_readSum 40 = .ok (.if_icmp .eq 4, 3) := by decide +kernel
theorem dX8_readSum_43 : decode cX8_readSum 43 = .ok (.return_, 1) := by decide +kernel
theorem dX8_readSum_44 : decode cX8_readSum 44 = .ok (.aload_n 0, 1) := by decide +kernel
theorem dX8_readSum_45 : decode cX8_readSum 45 = .ok (.invokevirtual 69, 3) := by decide +kernel
theorem dX8_readSum_48 : decode cX8_readSum 48 = .ok (.bipush 45, 2) := by decide +kernel
theorem dX8_readSum_50 : decode cX8_readSum 50 = .ok (.if_icmp .ne 7, 3) := by decide +kernel
theorem dX8_readSum_53 : decode cX8_readSum 53 = .ok (.iconst 1, 1) := by decide +kernel
theorem dX8_readSum_54 : decode cX8_readSum 54 = .ok (.goto 4, 3) := by decide +kernel
theorem dX8_readSum_57 : decode cX8_readSum 57 = .ok (.iconst 0, 1) := by decide +kernel
theorem dX8_readSum_58 : decode cX8_readSum 58 = .ok (.istore_n 2, 1) := by decide +kernel
theorem dX8_readSum_59 : decode cX8_readSum 59 = .ok (.aload_n 0, 1) := by decide +kernel
theorem dX8_readSum_60 : decode cX8_readSum 60 = .ok (.dup, 1) := by decide +kernel
theorem dX8_readSum_61 : decode cX8_readSum 61 = .ok (.getfield 40, 3) := by decide +kernel
theorem dX8_readSum_64 : decode cX8_readSum 64 = .ok (.iconst 1, 1) := by decide +kernel
theorem dX8_readSum_65 : decode cX8_readSum 65 = .ok (.iadd, 1) := by decide +kernel
theorem dX8_readSum_66 : decode cX8_readSum 66 = .ok (.putfield 40, 3) := by decide +kernel
theorem dX8_readSum_69 : decode cX8_readSum 69 = .ok (.aload_n 0, 1) := by decide +kernel
theorem dX8_readSum_70 : decode cX8_readSum 70 = .ok (.iload_n 2, 1) := by decide +kernel
theorem dX8_readSum_71 : decode cX8_readSum 71 = .ok (.invokevirtual 88, 3) := by decide +kernel
theorem dX8_readSum_74 : decode cX8_readSum 74 = .ok (.iinc 1 1, 3) := by decide +kernel
theorem dX8_readSum_77 : decode cX8_readSum 77 = .ok (.goto (-65), 3) := by decide +kernel
theorem dX8_readSum_80 : decode cX8_readSum 80 = .ok (.return_, 1) := by decide +kernel
theorem dX8_readTerm_0 : decode cX8_readTerm 0 = .ok (.aload_n 0, 1) := by decide +kernel
theorem dX8_readTerm_1 : decode cX8_readTerm 1 = .ok (.invokevirtual 59, 3) := by decide +kernel
theorem dX8_readTerm_4 : decode cX8_readTerm 4 = .ok (.ifCond .eq 4, 3) := by decide +kernel
theorem dX8_readTerm_7 : decode cX8_readTerm 7 = .ok (.return_, 1) := by decide +kernel
theorem dX8_readTerm_8 : decode cX8_readTerm 8 = .ok (.iconst 1, 1) := by decide +kernel
theorem dX8_readTerm_9 : decode cX8_readTerm 9 = .ok (.istore_n 2, 1) := by decide +kernel
theorem dX8_readTerm_10 : decode cX8_readTerm 10 = .ok (.aload_n 0, 1) := by decide +kernel
theorem dX8_readTerm_11 : decode cX8_readTerm 11 = .ok (.invokevirtual 69, 3) := by decide +kernel
theorem dX8_readTerm_14 : decode cX8_readTerm 14 = .ok (.invokestatic 30, 3) := by decide +kernel
theorem dX8_readTerm_17 : decode cX8_readTerm 17 = .ok (.ifCond .eq 21, 3) := by decide +kernel
theorem dX8_readTerm_20 : decode cX8_readTerm 20 = .ok (.aload_n 0, 1) := by decide +kernel
theorem dX8_readTerm_21 : decode cX8_readTerm 21 = .ok (.invokevirtual 69, 3) := by decide +kernel
theorem dX8_readTerm_24 : decode cX8_readTerm 24 = .ok (.bipush 48, 2) := by decide +kernel
theorem dX8_readTerm_26 : decode cX8_readTerm 26 = .ok (.isub, 1) := by decide +kernel
theorem dX8_readTerm_27 : decode cX8_readTerm 27 = .ok (.istore_n 2, 1) := by decide +kernel
theorem dX8_readTerm_28 : decode cX8_readTerm 28 = .ok (.aload_n 0, 1) := by decide +kernel
theorem dX8_readTerm_29 : decode cX8_readTerm 29 = .ok (.dup, 1) := by decide +kernel
theorem dX8_readTerm_30 : decode cX8_readTerm 30 = .ok (.getfield 40, 3) := by decide +kernel
theorem dX8_readTerm_33 : decode cX8_readTerm 33 = .ok (.iconst 1, 1) := by decide +kernel
theorem dX8_readTerm_34 : decode cX8_readTerm 34 = .ok (.iadd, 1) := by decide +kernel
theorem dX8_readTerm_35 : decode cX8_readTerm 35 = .ok (.putfield 40, 3) := by decide +kernel
theorem dX8_readTerm_38 : decode cX8_readTerm 38 = .ok (.aload_n 0, 1) := by decide +kernel
theorem dX8_readTerm_39 : decode cX8_readTerm 39 = .ok (.invokevirtual 69, 3) := by decide +kernel
theorem dX8_readTerm_42 : decode cX8_readTerm 42 = .ok (.bipush 97, 2) := by decide +kernel
theorem dX8_readTerm_44 : decode cX8_readTerm 44 = .ok (.isub, 1) := by decide +kernel
theorem dX8_readTerm_45 : decode cX8_readTerm 45 = .ok (.istore_n 3, 1) := by decide +kernel
theorem dX8_readTerm_46 : decode cX8_readTerm 46 = .ok (.iload_n 3, 1) := by decide +kernel
theorem dX8_readTerm_47 : decode cX8_readTerm 47 = .ok (.ifCond .lt 17, 3) := by decide +kernel
theorem dX8_readTerm_50 : decode cX8_readTerm 50 = .ok (.iload_n 3, 1) := by decide +kernel
theorem dX8_readTerm_51 : decode cX8_readTerm 51 = .ok (.iconst 3, 1) := by decide +kernel
theorem dX8_readTerm_52 : decode cX8_readTerm 52 = .ok (.if_icmp .ge 12, 3) := by decide +kernel
theorem dX8_readTerm_55 : decode cX8_readTerm 55 = .ok (.iload_n 3, 1) := by decide +kernel
theorem dX8_readTerm_56 : decode cX8_readTerm 56 = .ok (.aload_n 0, 1) := by decide +kernel
theorem dX8_readTerm_57 : decode cX8_readTerm 57 = .ok (.getfield 15, 3) := by decide +kernel
theorem dX8_readTerm_60 : decode cX8_readTerm 60 = .ok (.arraylength, 1) := by decide +kernel
theorem dX8_readTerm_61 : decode cX8_readTerm 61 = .ok (.if_icmp .lt 12, 3) := by decide +kernel
theorem dX8_readTerm_64 : decode cX8_readTerm 64 = .ok (.aload_n 0, 1) := by decide +kernel
theorem dX8_readTerm_65 : decode cX8_readTerm 65 = .ok (.bipush 115, 2) := by decide +kernel
theorem dX8_readTerm_67 : decode cX8_readTerm 67 = .ok (.invokevirtual 62, 3) := by decide +kernel
theorem dX8_readTerm_70 : decode cX8_readTerm 70 = .ok (.goto 49, 3) := by decide +kernel
theorem dX8_readTerm_73 : decode cX8_readTerm 73 = .ok (.iload_n 3, 1) := by decide +kernel
theorem dX8_readTerm_74 : decode cX8_readTerm 74 = .ok (.aload_n 0, 1) := by decide +kernel
theorem dX8_readTerm_75 : decode cX8_readTerm 75 = .ok (.getfield 37, 3) := by decide +kernel
theorem dX8_readTerm_78 : decode cX8_readTerm 78 = .ok (.if_icmp .lt 12, 3) := by decide +kernel
theorem dX8_readTerm_81 : decode cX8_readTerm 81 = .ok (.aload_n 0, 1) := by decide +kernel
theorem dX8_readTerm_82 : decode cX8_readTerm 82 = .ok (.bipush 118, 2) := by decide +kernel
theorem dX8_readTerm_84 : decode cX8_readTerm 84 = .ok (.invokevirtual 62, 3) := by decide +kernel
theorem dX8_readTerm_87 : decode cX8_readTerm 87 = .ok (.goto 32, 3) := by decide +kernel
theorem dX8_readTerm_90 : decode cX8_readTerm 90 = .ok (.aload_n 0, 1) := by decide +kernel
theorem dX8_readTerm_91 : decode cX8_readTerm 91 = .ok (.getfield 15, 3) := by decide +kernel
theorem dX8_readTerm_94 : decode cX8_readTerm 94 = .ok (.iload_n 3, 1) := by decide +kernel
theorem dX8_readTerm_95 : decode cX8_readTerm 95 = .ok (.dup2, 1) := by decide +kernel
theorem dX8_readTerm_96 : decode cX8_readTerm 96 = .ok (.iaload, 1) := by decide +kernel
theorem dX8_readTerm_97 : decode cX8_readTerm 97 = .ok (.iload_n 1, 1) := by decide +kernel
theorem dX8_readTerm_98 : decode cX8_readTerm 98 = .ok (.ifCond .eq 8, 3) := by decide +kernel
theorem dX8_readTerm_101 : decode cX8_readTerm 101 = .ok (.iload_n 2, 1) := by decide +kernel
theorem dX8_readTerm_102 : decode cX8_readTerm 102 = .ok (.ineg, 1) := by decide +kernel
theorem dX8_readTerm_103 : decode cX8_readTerm 103 = .ok (.goto 4, 3) := by decide +kernel
theorem dX8_readTerm_106 : decode cX8_readTerm 106 = .ok (.iload_n 2, 1) := by decide +kernel
theorem dX8_readTerm_107 : decode cX8_readTerm 107 = .ok (.iadd, 1) := by decide +kernel
theorem dX8_readTerm_108 : decode cX8_readTerm 108 = .ok (.iastore, 1) := by decide +kernel
theorem dX8_readTerm_109 : decode cX8_readTerm 109 = .ok (.aload_n 0, 1) := by decide +kernel
theorem dX8_readTerm_110 : decode cX8_readTerm 110 = .ok (.dup, 1) := by decide +kernel
theorem dX8_readTerm_111 : decode cX8_readTerm 111 = .ok (.getfield 40, 3) := by decide +kernel
theorem dX8_readTerm_114 : decode cX8_readTerm 114 = .ok (.iconst 1, 1) := by decide +kernel
theorem dX8_readTerm_115 : decode cX8_readTerm 115 = .ok (.iadd, 1) := by decide +kernel
theorem dX8_readTerm_116 : decode cX8_readTerm 116 = .ok (.putfield 40, 3) := by decide +kernel
theorem dX8_readTerm_119 : decode cX8_readTerm 119 = .ok (.return_, 1) := by decide +kernel
theorem dX8_readRelation_0 : decode cX8_readRelation 0 = .ok (.aload_n 0, 1) := by decide +kernel
theorem dX8_readRelation_1 : decode cX8_readRelation 1 = .ok (.invokevirtual 59, 3) := by decide +kernel
theorem dX8_readRelation_4 : decode cX8_readRelation 4 = .ok (.ifCond .eq 4, 3) := by decide +kernel
theorem dX8_readRelation_7 : decode cX8_readRelation 7 = .ok (.return_, 1) := by decide +kernel
theorem dX8_readRelation_8 : decode cX8_readRelation 8 = .ok (.aload_n 0, 1) := by decide +kernel
theorem dX8_readRelation_9 : decode cX8_readRelation 9 = .ok (.aload_n 0, 1) := by decide +kernel
theorem dX8_readRelation_10 : decode cX8_readRelation 10 = .ok (.invokevirtual 69, 3) := by decide +kernel
theorem dX8_readRelation_13 : decode cX8_readRelation 13 = .ok (.putfield 27, 3) := by decide +kernel
theorem dX8_readRelation_16 : decode cX8_readRelation 16 = .ok (.aload_n 0, 1) := by decide +kernel
theorem dX8_readRelation_17 : decode cX8_readRelation 17 = .ok (.getfield 27, 3) := by decide +kernel
theorem dX8_readRelation_20 : decode cX8_readRelation 20 = .ok (.bipush 60, 2) := by decide +kernel
theorem dX8_readRelation_22 : decode cX8_readRelation 22 = .ok (.if_icmp .eq 12, 3) := by decide +kernel
theorem dX8_readRelation_25 : decode cX8_readRelation 25 = .ok (.aload_n 0, 1) := by decide +kernel
theorem dX8_readRelation_26 : decode cX8_readRelation 26 = .ok (.getfield 27, 3) := by decide +kernel
theorem dX8_readRelation_29 : decode cX8_readRelation 29 = .ok (.bipush 62, 2) := by decide +kernel
theorem dX8_readRelation_31 : decode cX8_readRelation 31 = .ok (.if_icmp .ne 13, 3) := by decide +kernel
theorem dX8_readRelation_34 : decode cX8_readRelation 34 = .ok (.aload_n 0, 1) := by decide +kernel
theorem dX8_readRelation_35 : decode cX8_readRelation 35 = .ok (.dup, 1) := by decide +kernel
theorem dX8_readRelation_36 : decode cX8_readRelation 36 = .ok (.getfield 40, 3) := by decide +kernel
theorem dX8_readRelation_39 : decode cX8_readRelation 39 = .ok (.iconst 1, 1) := by decide +kernel
theorem dX8_readRelation_40 : decode cX8_readRelation 40 = .ok (.iadd, 1) := by decide +kernel
theorem dX8_readRelation_41 : decode cX8_readRelation 41 = .ok (.putfield 40, 3) := by decide +kernel
theorem dX8_readRelation_44 : decode cX8_readRelation 44 = .ok (.aload_n 0, 1) := by decide +kernel
theorem dX8_readRelation_45 : decode cX8_readRelation 45 = .ok (.bipush 61, 2) := by decide +kernel
theorem dX8_readRelation_47 : decode cX8_readRelation 47 = .ok (.invokevirtual 73, 3) := by decide +kernel
theorem dX8_readRelation_50 : decode cX8_readRelation 50 = .ok (.return_, 1) := by decide +kernel
theorem dX8_readNumber_0 : decode cX8_readNumber 0 = .ok (.aload_n 0, 1) := by decide +kernel
theorem dX8_readNumber_1 : decode cX8_readNumber 1 = .ok (.bipush 45, 2) := by decide +kernel
theorem dX8_readNumber_3 : decode cX8_readNumber 3 = .ok (.invokevirtual 85, 3) := by decide +kernel
theorem dX8_readNumber_6 : decode cX8_readNumber 6 = .ok (.istore_n 1, 1) := by decide +kernel
theorem dX8_readNumber_7 : decode cX8_readNumber 7 = .ok (.aload_n 0, 1) := by decide +kernel
theorem dX8_readNumber_8 : decode cX8_readNumber 8 = .ok (.invokevirtual 59, 3) := by decide +kernel
theorem dX8_readNumber_11 : decode cX8_readNumber 11 = .ok (.ifCond .eq 4, 3) := by decide +kernel
theorem dX8_readNumber_14 : decode cX8_readNumber 14 = .ok (.return_, 1) := by decide +kernel
theorem dX8_readNumber_15 : decode cX8_readNumber 15 = .ok (.aload_n 0, 1) := by decide +kernel
theorem dX8_readNumber_16 : decode cX8_readNumber 16 = .ok (.invokevirtual 69, 3) := by decide +kernel
theorem dX8_readNumber_19 : decode cX8_readNumber 19 = .ok (.invokestatic 30, 3) := by decide +kernel
theorem dX8_readNumber_22 : decode cX8_readNumber 22 = .ok (.ifCond .ne 10, 3) := by decide +kernel
theorem dX8_readNumber_25 : decode cX8_readNumber 25 = .ok (.aload_n 0, 1) := by decide +kernel
theorem dX8_readNumber_26 : decode cX8_readNumber 26 = .ok (.bipush 115, 2) := by decide +kernel
theorem dX8_readNumber_28 : decode cX8_readNumber 28 = .ok (.invokevirtual 62, 3) := by decide +kernel
theorem dX8_readNumber_31 : decode cX8_readNumber 31 = .ok (.return_, 1) := by decide +kernel
theorem dX8_readNumber_32 : decode cX8_readNumber 32 = .ok (.aload_n 0, 1) := by decide +kernel
theorem dX8_readNumber_33 : decode cX8_readNumber 33 = .ok (.aload_n 0, 1) := by decide +kernel
theorem dX8_readNumber_34 : decode cX8_readNumber 34 = .ok (.invokevirtual 69, 3) := by decide +kernel
theorem dX8_readNumber_37 : decode cX8_readNumber 37 = .ok (.bipush 48, 2) := by decide +kernel
theorem dX8_readNumber_39 : decode cX8_readNumber 39 = .ok (.isub, 1) := by decide +kernel
theorem dX8_readNumber_40 : decode cX8_readNumber 40 = .ok (.putfield 46, 3) := by decide +kernel
theorem dX8_readNumber_43 : decode cX8_readNumber 43 = .ok (.aload_n 0, 1) := by decide +kernel
theorem dX8_readNumber_44 : decode cX8_readNumber 44 = .ok (.dup, 1) := by decide +kernel
theorem dX8_readNumber_45 : decode cX8_readNumber 45 = .ok (.getfield 40, 3) := by decide +kernel
theorem dX8_readNumber_48 : decode cX8_readNumber 48 = .ok (.iconst 1, 1) := by decide +kernel
theorem dX8_readNumber_49 : decode cX8_readNumber 49 = .ok (.iadd, 1) := by decide +kernel
theorem dX8_readNumber_50 : decode cX8_readNumber 50 = .ok (.putfield 40, 3) := by decide +kernel
theorem dX8_readNumber_53 : decode cX8_readNumber 53 = .ok (.aload_n 0, 1) := by decide +kernel
theorem dX8_readNumber_54 : decode cX8_readNumber 54 = .ok (.invokevirtual 69, 3) := by decide +kernel
theorem dX8_readNumber_57 : decode cX8_readNumber 57 = .ok (.invokestatic 30, 3) := by decide +kernel
theorem dX8_readNumber_60 : decode cX8_readNumber 60 = .ok (.ifCond .eq 32, 3) := by decide +kernel
theorem dX8_readNumber_63 : decode cX8_readNumber 63 = .ok (.aload_n 0, 1) := by decide +kernel
theorem dX8_readNumber_64 : decode cX8_readNumber 64 = .ok (.aload_n 0, 1) := by decide +kernel
theorem dX8_readNumber_65 : decode cX8_readNumber 65 = .ok (.getfield 46, 3) := by decide +kernel
theorem dX8_readNumber_68 : decode cX8_readNumber 68 = .ok (.bipush 10, 2) := by decide +kernel
theorem dX8_readNumber_70 : decode cX8_readNumber 70 = .ok (.imul, 1) := by decide +kernel
theorem dX8_readNumber_71 : decode cX8_readNumber 71 = .ok (.aload_n 0, 1) := by decide +kernel
theorem dX8_readNumber_72 : decode cX8_readNumber 72 = .ok (.invokevirtual 69, 3) := by decide +kernel
theorem dX8_readNumber_75 : decode cX8_readNumber 75 = .ok (.iadd, 1) := by decide +kernel
theorem dX8_readNumber_76 : decode cX8_readNumber 76 = .ok (.bipush 48, 2) := by decide +kernel
theorem dX8_readNumber_78 : decode cX8_readNumber 78 = .ok (.isub, 1) := by decide +kernel
theorem dX8_readNumber_79 : decode cX8_readNumber 79 = .ok (.putfield 46, 3) := by decide +kernel
theorem dX8_readNumber_82 : decode cX8_readNumber 82 = .ok (.aload_n 0, 1) := by decide +kernel
theorem dX8_readNumber_83 : decode cX8_readNumber 83 = .ok (.dup, 1) := by decide +kernel
theorem dX8_readNumber_84 : decode cX8_readNumber 84 = .ok (.getfield 40, 3) := by decide +kernel
theorem dX8_readNumber_87 : decode cX8_readNumber 87 = .ok (.iconst 1, 1) := by decide +kernel
theorem dX8_readNumber_88 : decode cX8_readNumber 88 = .ok (.iadd, 1) := by decide +kernel
theorem dX8_readNumber_89 : decode cX8_readNumber 89 = .ok (.putfield 40, 3) := by decide +kernel
theorem dX8_readNumber_92 : decode cX8_readNumber 92 = .ok (.iload_n 1, 1) := by decide +kernel
theorem dX8_readNumber_93 : decode cX8_readNumber 93 = .ok (.ifCond .eq 12, 3) := by decide +kernel
theorem dX8_readNumber_96 : decode cX8_readNumber 96 = .ok (.aload_n 0, 1) := by decide +kernel
theorem dX8_readNumber_97 : decode cX8_readNumber 97 = .ok (.aload_n 0, 1) := by decide +kernel
theorem dX8_readNumber_98 : decode cX8_readNumber 98 = .ok (.getfield 46, 3) := by decide +kernel
theorem dX8_readNumber_101 : decode cX8_readNumber 101 = .ok (.ineg, 1) := by decide +kernel
theorem dX8_readNumber_102 : decode cX8_readNumber 102 = .ok (.putfield 46, 3) := by decide +kernel
theorem dX8_readNumber_105 : decode cX8_readNumber 105 = .ok (.return_, 1) := by decide +kernel
theorem dX8_areCoefficientsInRange_0 : decode cX8_areCoefficientsInRange 0 = .ok (.iconst 0, 1) := by decide +kernel
theorem dX8_areCoefficientsInRange_1 : decode cX8_areCoefficientsInRange 1 = .ok (.istore_n 1, 1) := by decide +kernel
theorem dX8_areCoefficientsInRange_2 : decode cX8_areCoefficientsInRange 2 = .ok (.iload_n 1, 1) := by decide +kernel
theorem dX8_areCoefficientsInRange_3 : decode cX8_areCoefficientsInRange 3 = .ok (.aload_n 0, 1) := by decide +kernel
theorem dX8_areCoefficientsInRange_4 : decode cX8_areCoefficientsInRange 4 = .ok (.getfield 15, 3) := by decide +kernel
theorem dX8_areCoefficientsInRange_7 : decode cX8_areCoefficientsInRange 7 = .ok (.arraylength, 1) := by decide +kernel
theorem dX8_areCoefficientsInRange_8 : decode cX8_areCoefficientsInRange 8 = .ok (.if_icmp .ge 33, 3) := by decide +kernel
theorem dX8_areCoefficientsInRange_11 : decode cX8_areCoefficientsInRange 11 = .ok (.aload_n 0, 1) := by decide +kernel
theorem dX8_areCoefficientsInRange_12 : decode cX8_areCoefficientsInRange 12 = .ok (.getfield 15, 3) := by decide +kernel
theorem dX8_areCoefficientsInRange_15 : decode cX8_areCoefficientsInRange 15 = .ok (.iload_n 1, 1) := by decide +kernel
theorem dX8_areCoefficientsInRange_16 : decode cX8_areCoefficientsInRange 16 = .ok (.iaload, 1) := by decide +kernel
theorem dX8_areCoefficientsInRange_17 : decode cX8_areCoefficientsInRange 17 = .ok (.bipush (-9), 2) := by decide +kernel
theorem dX8_areCoefficientsInRange_19 : decode cX8_areCoefficientsInRange 19 = .ok (.if_icmp .lt 14, 3) := by decide +kernel
theorem dX8_areCoefficientsInRange_22 : decode cX8_areCoefficientsInRange 22 = .ok (.aload_n 0, 1) := by decide +kernel
theorem dX8_areCoefficientsInRange_23 : decode cX8_areCoefficientsInRange 23 = .ok (.getfield 15, 3) := by decide +kernel
theorem dX8_areCoefficientsInRange_26 : decode cX8_areCoefficientsInRange 26 = .ok (.iload_n 1, 1) := by decide +kernel
theorem dX8_areCoefficientsInRange_27 : decode cX8_areCoefficientsInRange 27 = .ok (.iaload, 1) := by decide +kernel
theorem dX8_areCoefficientsInRange_28 : decode cX8_areCoefficientsInRange 28 = .ok (.bipush 9, 2) := by decide +kernel
theorem dX8_areCoefficientsInRange_30 : decode cX8_areCoefficientsInRange 30 = .ok (.if_icmp .le 5, 3) := by decide +kernel
theorem dX8_areCoefficientsInRange_33 : decode cX8_areCoefficientsInRange 33 = .ok (.iconst 0, 1) := by decide +kernel
theorem dX8_areCoefficientsInRange_34 : decode cX8_areCoefficientsInRange 34 = .ok (.ireturn, 1) := by decide +kernel
theorem dX8_areCoefficientsInRange_35 : decode cX8_areCoefficientsInRange 35 = .ok (.iinc 1 1, 3) := by decide +kernel
theorem dX8_areCoefficientsInRange_38 : decode cX8_areCoefficientsInRange 38 = .ok (.goto (-36), 3) := by decide +kernel
theorem dX8_areCoefficientsInRange_41 : decode cX8_areCoefficientsInRange 41 = .ok (.iconst 1, 1) := by decide +kernel
theorem dX8_areCoefficientsInRange_42 : decode cX8_areCoefficientsInRange 42 = .ok (.ireturn, 1) := by decide +kernel
theorem dX8_here_0 : decode cX8_here 0 = .ok (.aload_n 0, 1) := by decide +kernel
theorem dX8_here_1 : decode cX8_here 1 = .ok (.getfield 40, 3) := by decide +kernel
theorem dX8_here_4 : decode cX8_here 4 = .ok (.ifCond .lt 38, 3) := by decide +kernel
theorem dX8_here_7 : decode cX8_here 7 = .ok (.aload_n 0, 1) := by decide +kernel
theorem dX8_here_8 : decode cX8_here 8 = .ok (.getfield 40, 3) := by decide +kernel
theorem dX8_here_11 : decode cX8_here 11 = .ok (.aload_n 0, 1) := by decide +kernel
theorem dX8_here_12 : decode cX8_here 12 = .ok (.getfield 34, 3) := by decide +kernel
theorem dX8_here_15 : decode cX8_here 15 = .ok (.if_icmp .ge 27, 3) := by decide +kernel
theorem dX8_here_18 : decode cX8_here 18 = .ok (.aload_n 0, 1) := by decide +kernel
theorem dX8_here_19 : decode cX8_here 19 = .ok (.getfield 40, 3) := by decide +kernel
theorem dX8_here_22 : decode cX8_here 22 = .ok (.aload_n 0, 1) := by decide +kernel
theorem dX8_here_23 : decode cX8_here 23 = .ok (.getfield 9, 3) := by decide +kernel
theorem dX8_here_26 : decode cX8_here 26 = .ok (.arraylength, 1) := by decide +kernel
theorem dX8_here_27 : decode cX8_here 27 = .ok (.if_icmp .ge 15, 3) := by decide +kernel
theorem dX8_here_30 : decode cX8_here 30 = .ok (.aload_n 0, 1) := by decide +kernel
theorem dX8_here_31 : decode cX8_here 31 = .ok (.getfield 9, 3) := by decide +kernel
theorem dX8_here_34 : decode cX8_here 34 = .ok (.aload_n 0, 1) := by decide +kernel
theorem dX8_here_35 : decode cX8_here 35 = .ok (.getfield 40, 3) := by decide +kernel
theorem dX8_here_38 : decode cX8_here 38 = .ok (.caload, 1) := by decide +kernel
theorem dX8_here_39 : decode cX8_here 39 = .ok (.goto 4, 3) := by decide +kernel
theorem dX8_here_42 : decode cX8_here 42 = .ok (.iconst 0, 1) := by decide +kernel
theorem dX8_here_43 : decode cX8_here 43 = .ok (.ireturn, 1) := by decide +kernel
theorem dX8_takes_0 : decode cX8_takes 0 = .ok (.aload_n 0, 1) := by decide +kernel
theorem dX8_takes_1 : decode cX8_takes 1 = .ok (.invokevirtual 59, 3) := by decide +kernel
theorem dX8_takes_4 : decode cX8_takes 4 = .ok (.ifCond .ne 15, 3) := by decide +kernel
theorem dX8_takes_7 : decode cX8_takes 7 = .ok (.aload_n 0, 1) := by decide +kernel
theorem dX8_takes_8 : decode cX8_takes 8 = .ok (.invokevirtual 69, 3) := by decide +kernel
theorem dX8_takes_11 : decode cX8_takes 11 = .ok (.iload_n 1, 1) := by decide +kernel
theorem dX8_takes_12 : decode cX8_takes 12 = .ok (.if_icmp .ne 7, 3) := by decide +kernel
theorem dX8_takes_15 : decode cX8_takes 15 = .ok (.iconst 1, 1) := by decide +kernel
theorem dX8_takes_16 : decode cX8_takes 16 = .ok (.goto 4, 3) := by decide +kernel
theorem dX8_takes_19 : decode cX8_takes 19 = .ok (.iconst 0, 1) := by decide +kernel
theorem dX8_takes_20 : decode cX8_takes 20 = .ok (.istore_n 2, 1) := by decide +kernel
theorem dX8_takes_21 : decode cX8_takes 21 = .ok (.iload_n 2, 1) := by decide +kernel
theorem dX8_takes_22 : decode cX8_takes 22 = .ok (.ifCond .eq 13, 3) := by decide +kernel
theorem dX8_takes_25 : decode cX8_takes 25 = .ok (.aload_n 0, 1) := by decide +kernel
theorem dX8_takes_26 : decode cX8_takes 26 = .ok (.dup, 1) := by decide +kernel
theorem dX8_takes_27 : decode cX8_takes 27 = .ok (.getfield 40, 3) := by decide +kernel
theorem dX8_takes_30 : decode cX8_takes 30 = .ok (.iconst 1, 1) := by decide +kernel
theorem dX8_takes_31 : decode cX8_takes 31 = .ok (.iadd, 1) := by decide +kernel
theorem dX8_takes_32 : decode cX8_takes 32 = .ok (.putfield 40, 3) := by decide +kernel
theorem dX8_takes_35 : decode cX8_takes 35 = .ok (.iload_n 2, 1) := by decide +kernel
theorem dX8_takes_36 : decode cX8_takes 36 = .ok (.ireturn, 1) := by decide +kernel
theorem dX8_pass_0 : decode cX8_pass 0 = .ok (.aload_n 0, 1) := by decide +kernel
theorem dX8_pass_1 : decode cX8_pass 1 = .ok (.invokevirtual 59, 3) := by decide +kernel
theorem dX8_pass_4 : decode cX8_pass 4 = .ok (.ifCond .ne 17, 3) := by decide +kernel
theorem dX8_pass_7 : decode cX8_pass 7 = .ok (.aload_n 0, 1) := by decide +kernel
theorem dX8_pass_8 : decode cX8_pass 8 = .ok (.iload_n 1, 1) := by decide +kernel
theorem dX8_pass_9 : decode cX8_pass 9 = .ok (.invokevirtual 85, 3) := by decide +kernel
theorem dX8_pass_12 : decode cX8_pass 12 = .ok (.ifCond .ne 9, 3) := by decide +kernel
theorem dX8_pass_15 : decode cX8_pass 15 = .ok (.aload_n 0, 1) := by decide +kernel
theorem dX8_pass_16 : decode cX8_pass 16 = .ok (.bipush 115, 2) := by decide +kernel
theorem dX8_pass_18 : decode cX8_pass 18 = .ok (.invokevirtual 62, 3) := by decide +kernel
theorem dX8_pass_21 : decode cX8_pass 21 = .ok (.return_, 1) := by decide +kernel
theorem dX8_blame_0 : decode cX8_blame 0 = .ok (.aload_n 0, 1) := by decide +kernel
theorem dX8_blame_1 : decode cX8_blame 1 = .ok (.iload_n 1, 1) := by decide +kernel
theorem dX8_blame_2 : decode cX8_blame 2 = .ok (.putfield 19, 3) := by decide +kernel
theorem dX8_blame_5 : decode cX8_blame 5 = .ok (.aload_n 0, 1) := by decide +kernel
theorem dX8_blame_6 : decode cX8_blame 6 = .ok (.aload_n 0, 1) := by decide +kernel
theorem dX8_blame_7 : decode cX8_blame 7 = .ok (.getfield 40, 3) := by decide +kernel
theorem dX8_blame_10 : decode cX8_blame 10 = .ok (.putfield 43, 3) := by decide +kernel
theorem dX8_blame_13 : decode cX8_blame 13 = .ok (.return_, 1) := by decide +kernel
theorem dX8_isDigit_0 : decode cX8_isDigit 0 = .ok (.iload_n 0, 1) := by decide +kernel
theorem dX8_isDigit_1 : decode cX8_isDigit 1 = .ok (.bipush 48, 2) := by decide +kernel
theorem dX8_isDigit_3 : decode cX8_isDigit 3 = .ok (.if_icmp .lt 13, 3) := by decide +kernel
theorem dX8_isDigit_6 : decode cX8_isDigit 6 = .ok (.iload_n 0, 1) := by decide +kernel
theorem dX8_isDigit_7 : decode cX8_isDigit 7 = .ok (.bipush 57, 2) := by decide +kernel
theorem dX8_isDigit_9 : decode cX8_isDigit 9 = .ok (.if_icmp .gt 7, 3) := by decide +kernel
theorem dX8_isDigit_12 : decode cX8_isDigit 12 = .ok (.iconst 1, 1) := by decide +kernel
theorem dX8_isDigit_13 : decode cX8_isDigit 13 = .ok (.goto 4, 3) := by decide +kernel
theorem dX8_isDigit_16 : decode cX8_isDigit 16 = .ok (.iconst 0, 1) := by decide +kernel
theorem dX8_isDigit_17 : decode cX8_isDigit 17 = .ok (.ireturn, 1) := by decide +kernel
theorem dX9_init_0 : decode cX9_init 0 = .ok (.aload_n 0, 1) := by decide +kernel
theorem dX9_init_1 : decode cX9_init 1 = .ok (.invokespecial 3, 3) := by decide +kernel
theorem dX9_init_4 : decode cX9_init 4 = .ok (.aload_n 0, 1) := by decide +kernel
theorem dX9_init_5 : decode cX9_init 5 = .ok (.new 9, 3) := by decide +kernel
theorem dX9_init_8 : decode cX9_init 8 = .ok (.dup, 1) := by decide +kernel
theorem dX9_init_9 : decode cX9_init 9 = .ok (.invokespecial 11, 3) := by decide +kernel
theorem dX9_init_12 : decode cX9_init 12 = .ok (.putfield 12, 3) := by decide +kernel
theorem dX9_init_15 : decode cX9_init 15 = .ok (.aload_n 0, 1) := by decide +kernel
theorem dX9_init_16 : decode cX9_init 16 = .ok (.new 18, 3) := by decide +kernel
theorem dX9_init_19 : decode cX9_init 19 = .ok (.dup, 1) := by decide +kernel
theorem dX9_init_20 : decode cX9_init 20 = .ok (.invokespecial 20, 3) := by decide +kernel
theorem dX9_init_23 : decode cX9_init 23 = .ok (.putfield 21, 3) := by decide +kernel
theorem dX9_init_26 : decode cX9_init 26 = .ok (.aload_n 0, 1) := by decide +kernel
theorem dX9_init_27 : decode cX9_init 27 = .ok (.new 25, 3) := by decide +kernel
theorem dX9_init_30 : decode cX9_init 30 = .ok (.dup, 1) := by decide +kernel
theorem dX9_init_31 : decode cX9_init 31 = .ok (.invokespecial 27, 3) := by decide +kernel
theorem dX9_init_34 : decode cX9_init 34 = .ok (.putfield 28, 3) := by decide +kernel
theorem dX9_init_37 : decode cX9_init 37 = .ok (.aload_n 0, 1) := by decide +kernel
theorem dX9_init_38 : decode cX9_init 38 = .ok (.iconst 3, 1) := by decide +kernel
theorem dX9_init_39 : decode cX9_init 39 = .ok (.newarray .boolean, 2) := by decide +kernel
theorem dX9_init_41 : decode cX9_init 41 = .ok (.putfield 32, 3) := by decide +kernel
theorem dX9_init_44 : decode cX9_init 44 = .ok (.aload_n 0, 1) := by decide +kernel
theorem dX9_init_45 : decode cX9_init 45 = .ok (.bipush 111, 2) := by decide +kernel
theorem dX9_init_47 : decode cX9_init 47 = .ok (.putfield 36, 3) := by decide +kernel
theorem dX9_init_50 : decode cX9_init 50 = .ok (.aload_n 0, 1) := by decide +kernel
theorem dX9_init_51 : decode cX9_init 51 = .ok (.iconst (-1), 1) := by decide +kernel
theorem dX9_init_52 : decode cX9_init 52 = .ok (.putfield 40, 3) := by decide +kernel
theorem dX9_init_55 : decode cX9_init 55 = .ok (.aload_n 0, 1) := by decide +kernel
theorem dX9_init_56 : decode cX9_init 56 = .ok (.iconst (-1), 1) := by decide +kernel
theorem dX9_init_57 : decode cX9_init 57 = .ok (.putfield 44, 3) := by decide +kernel
theorem dX9_init_60 : decode cX9_init 60 = .ok (.aload_n 0, 1) := by decide +kernel
theorem dX9_init_61 : decode cX9_init 61 = .ok (.iconst (-1), 1) := by decide +kernel
theorem dX9_init_62 : decode cX9_init 62 = .ok (.putfield 47, 3) := by decide +kernel
theorem dX9_init_65 : decode cX9_init 65 = .ok (.aload_n 0, 1) := by decide +kernel
theorem dX9_init_66 : decode cX9_init 66 = .ok (.aload_n 1, 1) := by decide +kernel
theorem dX9_init_67 : decode cX9_init 67 = .ok (.putfield 50, 3) := by decide +kernel
theorem dX9_init_70 : decode cX9_init 70 = .ok (.return_, 1) := by decide +kernel
theorem dX9_findAll_0 : decode cX9_findAll 0 = .ok (.aload_n 0, 1) := by decide +kernel
theorem dX9_findAll_1 : decode cX9_findAll 1 = .ok (.getfield 54, 3) := by decide +kernel
theorem dX9_findAll_4 : decode cX9_findAll 4 = .ok (.ifCond .eq 4, 3) := by decide +kernel
theorem dX9_findAll_7 : decode cX9_findAll 7 = .ok (.return_, 1) := by decide +kernel
theorem dX9_findAll_8 : decode cX9_findAll 8 = .ok (.aload_n 0, 1) := by decide +kernel
theorem dX9_findAll_9 : decode cX9_findAll 9 = .ok (.iconst 1, 1) := by decide +kernel
theorem dX9_findAll_10 : decode cX9_findAll 10 = .ok (.putfield 54, 3) := by decide +kernel
theorem dX9_findAll_13 : decode cX9_findAll 13 = .ok (.aload_n 0, 1) := by decide +kernel
theorem dX9_findAll_14 : decode cX9_findAll 14 = .ok (.iconst 0, 1) := by decide +kernel
theorem dX9_findAll_15 : decode cX9_findAll 15 = .ok (.iconst (-1), 1) := by decide +kernel
theorem dX9_findAll_16 : decode cX9_findAll 16 = .ok (.invokevirtual 58, 3) := by decide +kernel
theorem dX9_findAll_19 : decode cX9_findAll 19 = .ok (.aload_n 0, 1) := by decide +kernel
theorem dX9_findAll_20 : decode cX9_findAll 20 = .ok (.invokevirtual 62, 3) := by decide +kernel
theorem dX9_findAll_23 : decode cX9_findAll 23 = .ok (.ifCond .ne 4, 3) := by decide +kernel
theorem dX9_findAll_26 : decode cX9_findAll 26 = .ok (.return_, 1) := by decide +kernel
theorem dX9_findAll_27 : decode cX9_findAll 27 = .ok (.iconst 0, 1) := by decide +kernel
theorem dX9_findAll_28 : decode cX9_findAll 28 = .ok (.istore_n 1, 1) := by decide +kernel
theorem dX9_findAll_29 : decode cX9_findAll 29 = .ok (.iload_n 1, 1) := by decide +kernel
theorem dX9_findAll_30 : decode cX9_findAll 30 = .ok (.aload_n 0, 1) := by decide +kernel
theorem dX9_findAll_31 : decode cX9_findAll 31 = .ok (.getfield 50, 3) := by decide +kernel
theorem dX9_findAll_34 : decode cX9_findAll 34 = .ok (.getfield 66, 3) := by decide +kernel
theorem dX9_findAll_37 : decode cX9_findAll 37 = .ok (.if_icmp .ge 36, 3) := by decide +kernel
theorem dX9_findAll_40 : decode cX9_findAll 40 = .ok (.aload_n 0, 1) := by decide +kernel
theorem dX9_findAll_41 : decode cX9_findAll 41 = .ok (.iload_n 1, 1) := by decide +kernel
theorem dX9_findAll_42 : decode cX9_findAll 42 = .ok (.invokestatic 71, 3) := by decide +kernel
theorem dX9_findAll_45 : decode cX9_findAll 45 = .ok (.invokevirtual 75, 3) := by decide +kernel
theorem dX9_findAll_48 : decode cX9_findAll 48 = .ok (.ifCond .ne 19, 3) := by decide +kernel
theorem dX9_findAll_51 : decode cX9_findAll 51 = .ok (.aload_n 0, 1) := by decide +kernel
theorem dX9_findAll_52 : decode cX9_findAll 52 = .ok (.bipush 117, 2) := by decide +kernel
theorem dX9_findAll_54 : decode cX9_findAll 54 = .ok (.putfield 36, 3) := by decide +kernel
theorem dX9_findAll_57 : decode cX9_findAll 57 = .ok (.aload_n 0, 1) := by decide +kernel
theorem dX9_findAll_58 : decode cX9_findAll 58 = .ok (.iload_n 1, 1) := by decide +kernel
theorem dX9_findAll_59 : decode cX9_findAll 59 = .ok (.putfield 40, 3) := by decide +kernel
theorem dX9_findAll_62 : decode cX9_findAll 62 = .ok (.aload_n 0, 1) := by decide +kernel
theorem dX9_findAll_63 : decode cX9_findAll 63 = .ok (.invokevirtual 79, 3) := by decide +kernel
theorem dX9_findAll_66 : decode cX9_findAll 66 = .ok (.return_, 1) := by decide +kernel
theorem dX9_findAll_67 : decode cX9_findAll 67 = .ok (.iinc 1 1, 3) := by decide +kernel
theorem dX9_findAll_70 : decode cX9_findAll 70 = .ok (.goto (-41), 3) := by decide +kernel
theorem dX9_findAll_73 : decode cX9_findAll 73 = .ok (.iconst 0, 1) := by decide +kernel
theorem dX9_findAll_74 : decode cX9_findAll 74 = .ok (.istore_n 1, 1) := by decide +kernel
theorem dX9_findAll_75 : decode cX9_findAll 75 = .ok (.iload_n 1, 1) := by decide +kernel
theorem dX9_findAll_76 : decode cX9_findAll 76 = .ok (.aload_n 0, 1) := by decide +kernel
theorem dX9_findAll_77 : decode cX9_findAll 77 = .ok (.getfield 50, 3) := by decide +kernel
theorem dX9_findAll_80 : decode cX9_findAll 80 = .ok (.getfield 82, 3) := by decide +kernel
theorem dX9_findAll_83 : decode cX9_findAll 83 = .ok (.if_icmp .ge 18, 3) := by decide +kernel
theorem dX9_findAll_86 : decode cX9_findAll 86 = .ok (.aload_n 0, 1) := by decide +kernel
theorem dX9_findAll_87 : decode cX9_findAll 87 = .ok (.iload_n 1, 1) := by decide +kernel
theorem dX9_findAll_88 : decode cX9_findAll 88 = .ok (.invokestatic 85, 3) := by decide +kernel
theorem dX9_findAll_91 : decode cX9_findAll 91 = .ok (.invokevirtual 75, 3) := by decide +kernel
theorem dX9_findAll_94 : decode cX9_findAll 94 = .ok (.pop, 1) := by decide +kernel
theorem dX9_findAll_95 : decode cX9_findAll 95 = .ok (.iinc 1 1, 3) := by decide +kernel
theorem dX9_findAll_98 : decode cX9_findAll 98 = .ok (.goto (-23), 3) := by decide +kernel
theorem dX9_findAll_101 : decode cX9_findAll 101 = .ok (.aload_n 0, 1) := by decide +kernel
theorem dX9_findAll_102 : decode cX9_findAll 102 = .ok (.invokevirtual 79, 3) := by decide +kernel
theorem dX9_findAll_105 : decode cX9_findAll 105 = .ok (.return_, 1) := by decide +kernel
theorem dX9_findsFirstValue_0 : decode cX9_findsFirstValue 0 = .ok (.aload_n 0, 1) := by decide +kernel
theorem dX9_findsFirstValue_1 : decode cX9_findsFirstValue 1 = .ok (.iconst 0, 1) := by decide +kernel
theorem dX9_findsFirstValue_2 : decode cX9_findsFirstValue 2 = .ok (.iload_n 1, 1) := by decide +kernel
theorem dX9_findsFirstValue_3 : decode cX9_findsFirstValue 3 = .ok (.invokevirtual 58, 3) := by decide +kernel
theorem dX9_findsFirstValue_6 : decode cX9_findsFirstValue 6 = .ok (.aload_n 0, 1) := by decide +kernel
theorem dX9_findsFirstValue_7 : decode cX9_findsFirstValue 7 = .ok (.invokevirtual 62, 3) := by decide +kernel
theorem dX9_findsFirstValue_10 : decode cX9_findsFirstValue 10 = .ok (.ifCond .eq 18, 3) := by decide +kernel
theorem dX9_findsFirstValue_13 : decode cX9_findsFirstValue 13 = .ok (.aload_n 0, 1) := by decide +kernel
theorem dX9_findsFirstValue_14 : decode cX9_findsFirstValue 14 = .ok (.iconst 0, 1) := by decide +kernel
theorem dX9_findsFirstValue_15 : decode cX9_findsFirstValue 15 = .ok (.invokestatic 71, 3) := by decide +kernel
theorem dX9_findsFirstValue_18 : decode cX9_findsFirstValue 18 = .ok (.invokevirtual 75, 3) := by decide +kernel
theorem dX9_findsFirstValue_21 : decode cX9_findsFirstValue 21 = .ok (.ifCond .eq 7, 3) := by decide +kernel
theorem dX9_findsFirstValue_24 : decode cX9_findsFirstValue 24 = .ok (.iconst 1, 1) := by decide +kernel
theorem dX9_findsFirstValue_25 : decode cX9_findsFirstValue 25 = .ok (.goto 4, 3) := by decide +kernel
theorem dX9_findsFirstValue_28 : decode cX9_findsFirstValue 28 = .ok (.iconst 0, 1) := by decide +kernel
theorem dX9_findsFirstValue_29 : decode cX9_findsFirstValue 29 = .ok (.istore_n 2, 1) := by decide +kernel
theorem dX9_findsFirstValue_30 : decode cX9_findsFirstValue 30 = .ok (.aload_n 0, 1) := by decide +kernel
theorem dX9_findsFirstValue_31 : decode cX9_findsFirstValue 31 = .ok (.invokevirtual 79, 3) := by decide +kernel
theorem dX9_findsFirstValue_34 : decode cX9_findsFirstValue 34 = .ok (.iload_n 2, 1) := by decide +kernel
theorem dX9_findsFirstValue_35 : decode cX9_findsFirstValue 35 = .ok (.ireturn, 1) := by decide +kernel
theorem dX9_findsFit_0 : decode cX9_findsFit 0 = .ok (.aload_n 0, 1) := by decide +kernel
theorem dX9_findsFit_1 : decode cX9_findsFit 1 = .ok (.iload_n 1, 1) := by decide +kernel
theorem dX9_findsFit_2 : decode cX9_findsFit 2 = .ok (.iconst (-1), 1) := by decide +kernel
theorem dX9_findsFit_3 : decode cX9_findsFit 3 = .ok (.invokevirtual 58, 3) := by decide +kernel
theorem dX9_findsFit_6 : decode cX9_findsFit 6 = .ok (.aload_n 0, 1) := by decide +kernel
theorem dX9_findsFit_7 : decode cX9_findsFit 7 = .ok (.invokevirtual 62, 3) := by decide +kernel
theorem dX9_findsFit_10 : decode cX9_findsFit 10 = .ok (.ireturn, 1) := by decide +kernel
theorem dX9_setOut_0 : decode cX9_setOut 0 = .ok (.aload_n 0, 1) := by decide +kernel
theorem dX9_setOut_1 : decode cX9_setOut 1 = .ok (.getfield 12, 3) := by decide +kernel
theorem dX9_setOut_4 : decode cX9_setOut 4 = .ok (.aload_n 0, 1) := by decide +kernel
theorem dX9_setOut_5 : decode cX9_setOut 5 = .ok (.getfield 50, 3) := by decide +kernel
theorem dX9_setOut_8 : decode cX9_setOut 8 = .ok (.iload_n 1, 1) := by decide +kernel
theorem dX9_setOut_9 : decode cX9_setOut 9 = .ok (.iload_n 2, 1) := by decide +kernel
theorem dX9_setOut_10 : decode cX9_setOut 10 = .ok (.invokevirtual 88, 3) := by decide +kernel
theorem dX9_setOut_13 : decode cX9_setOut 13 = .ok (.aload_n 0, 1) := by decide +kernel
theorem dX9_setOut_14 : decode cX9_setOut 14 = .ok (.getfield 21, 3) := by decide +kernel
theorem dX9_setOut_17 : decode cX9_setOut 17 = .ok (.aload_n 0, 1) := by decide +kernel
theorem dX9_setOut_18 : decode cX9_setOut 18 = .ok (.getfield 50, 3) := by decide +kernel
theorem dX9_setOut_21 : decode cX9_setOut 21 = .ok (.aload_n 0, 1) := by decide +kernel
theorem dX9_setOut_22 : decode cX9_setOut 22 = .ok (.getfield 12, 3) := by decide +kernel
theorem dX9_setOut_25 : decode cX9_setOut 25 = .ok (.invokevirtual 92, 3) := by decide +kernel
theorem dX9_setOut_28 : decode cX9_setOut 28 = .ok (.iconst 0, 1) := by decide +kernel
theorem dX9_setOut_29 : decode cX9_setOut 29 = .ok (.istore_n 3, 1) := by decide +kernel
theorem dX9_setOut_30 : decode cX9_setOut 30 = .ok (.iload_n 3, 1) := by decide +kernel
theorem dX9_setOut_31 : decode cX9_setOut 31 = .ok (.aload_n 0, 1) := by decide +kernel
theorem dX9_setOut_32 : decode cX9_setOut 32 = .ok (.getfield 32, 3) := by decide +kernel
theorem dX9_setOut_35 : decode cX9_setOut 35 = .ok (.arraylength, 1) := by decide +kernel
theorem dX9_setOut_36 : decode cX9_setOut 36 = .ok (.if_icmp .ge 16, 3) := by decide +kernel
theorem dX9_setOut_39 : decode cX9_setOut 39 = .ok (.aload_n 0, 1) := by decide +kernel
theorem dX9_setOut_40 : decode cX9_setOut 40 = .ok (.getfield 32, 3) := by decide +kernel
theorem dX9_setOut_43 : decode cX9_setOut 43 = .ok (.iload_n 3, 1) := by decide +kernel
theorem dX9_setOut_44 : decode cX9_setOut 44 = .ok (.iconst 0, 1) := by decide +kernel
theorem dX9_setOut_45 : decode cX9_setOut 45 = .ok (.bastore, 1) := by decide +kernel
theorem dX9_setOut_46 : decode cX9_setOut 46 = .ok (.iinc 3 1, 3) := by decide +kernel
theorem dX9_setOut_49 : decode cX9_setOut 49 = .ok (.goto (-19), 3) := by decide +kernel
theorem dX9_setOut_52 : decode cX9_setOut 52 = .ok (.aload_n 0, 1) := by decide +kernel
theorem dX9_setOut_53 : decode cX9_setOut 53 = .ok (.iconst (-1), 1) := by decide +kernel
theorem dX9_setOut_54 : decode cX9_setOut 54 = .ok (.putfield 40, 3) := by decide +kernel
theorem dX9_setOut_57 : decode cX9_setOut 57 = .ok (.aload_n 0, 1) := by decide +kernel
theorem dX9_setOut_58 : decode cX9_setOut 58 = .ok (.iconst (-1), 1) := by decide +kernel
theorem dX9_setOut_59 : decode cX9_setOut 59 = .ok (.putfield 44, 3) := by decide +kernel
theorem dX9_setOut_62 : decode cX9_setOut 62 = .ok (.return_, 1) := by decide +kernel
theorem dX9_hasValue_0 : decode cX9_hasValue 0 = .ok (.aload_n 0, 1) := by decide +kernel
theorem dX9_hasValue_1 : decode cX9_hasValue 1 = .ok (.getfield 36, 3) := by decide +kernel
theorem dX9_hasValue_4 : decode cX9_hasValue 4 = .ok (.bipush 111, 2) := by decide +kernel
theorem dX9_hasValue_6 : decode cX9_hasValue 6 = .ok (.if_icmp .eq 20, 3) := by decide +kernel
theorem dX9_hasValue_9 : decode cX9_hasValue 9 = .ok (.aload_n 0, 1) := by decide +kernel
theorem dX9_hasValue_10 : decode cX9_hasValue 10 = .ok (.getfield 36, 3) := by decide +kernel
theorem dX9_hasValue_13 : decode cX9_hasValue 13 = .ok (.bipush 117, 2) := by decide +kernel
theorem dX9_hasValue_15 : decode cX9_hasValue 15 = .ok (.if_icmp .ne 15, 3) := by decide +kernel
theorem dX9_hasValue_18 : decode cX9_hasValue 18 = .ok (.iload_n 1, 1) := by decide +kernel
theorem dX9_hasValue_19 : decode cX9_hasValue 19 = .ok (.aload_n 0, 1) := by decide +kernel
theorem dX9_hasValue_20 : decode cX9_hasValue 20 = .ok (.getfield 40, 3) := by decide +kernel
theorem dX9_hasValue_23 : decode cX9_hasValue 23 = .ok (.if_icmp .ge 7, 3) := by decide +kernel
theorem dX9_hasValue_26 : decode cX9_hasValue 26 = .ok (.iconst 1, 1) := by decide +kernel
theorem dX9_hasValue_27 : decode cX9_hasValue 27 = .ok (.goto 4, 3) := by decide +kernel
theorem dX9_hasValue_30 : decode cX9_hasValue 30 = .ok (.iconst 0, 1) := by decide +kernel
theorem dX9_hasValue_31 : decode cX9_hasValue 31 = .ok (.ireturn, 1) := by decide +kernel
theorem dX9_mends_0 : decode cX9_mends 0 = .ok (.aload_n 0, 1) := by decide +kernel
theorem dX9_mends_1 : decode cX9_mends 1 = .ok (.bipush 105, 2) := by decide +kernel
theorem dX9_mends_3 : decode cX9_mends 3 = .ok (.putfield 36, 3) := by decide +kernel
theorem dX9_mends_6 : decode cX9_mends 6 = .ok (.iconst 0, 1) := by decide +kernel
theorem dX9_mends_7 : decode cX9_mends 7 = .ok (.istore_n 1, 1) := by decide +kernel
theorem dX9_mends_8 : decode cX9_mends 8 = .ok (.iload_n 1, 1) := by decide +kernel
theorem dX9_mends_9 : decode cX9_mends 9 = .ok (.ldc 96, 2) := by decide +kernel
theorem dX9_mends_11 : decode cX9_mends 11 = .ok (.if_icmp .ge 61, 3) := by decide +kernel
theorem dX9_mends_14 : decode cX9_mends 14 = .ok (.aload_n 0, 1) := by decide +kernel
theorem dX9_mends_15 : decode cX9_mends 15 = .ok (.aload_n 0, 1) := by decide +kernel
theorem dX9_mends_16 : decode cX9_mends 16 = .ok (.invokevirtual 97, 3) := by decide +kernel
theorem dX9_mends_19 : decode cX9_mends 19 = .ok (.putfield 47, 3) := by decide +kernel
theorem dX9_mends_22 : decode cX9_mends 22 = .ok (.aload_n 0, 1) := by decide +kernel
theorem dX9_mends_23 : decode cX9_mends 23 = .ok (.getfield 47, 3) := by decide +kernel
theorem dX9_mends_26 : decode cX9_mends 26 = .ok (.iconst (-1), 1) := by decide +kernel
theorem dX9_mends_27 : decode cX9_mends 27 = .ok (.if_icmp .ne 11, 3) := by decide +kernel
theorem dX9_mends_30 : decode cX9_mends 30 = .ok (.aload_n 0, 1) := by decide +kernel
theorem dX9_mends_31 : decode cX9_mends 31 = .ok (.bipush 111, 2) := by decide +kernel
theorem dX9_mends_33 : decode cX9_mends 33 = .ok (.putfield 36, 3) := by decide +kernel
theorem dX9_mends_36 : decode cX9_mends 36 = .ok (.iconst 1, 1) := by decide +kernel
theorem dX9_mends_37 : decode cX9_mends 37 = .ok (.ireturn, 1) := by decide +kernel
theorem dX9_mends_38 : decode cX9_mends 38 = .ok (.aload_n 0, 1) := by decide +kernel
theorem dX9_mends_39 : decode cX9_mends 39 = .ok (.aload_n 0, 1) := by decide +kernel
theorem dX9_mends_40 : decode cX9_mends 40 = .ok (.getfield 47, 3) := by decide +kernel
theorem dX9_mends_43 : decode cX9_mends 43 = .ok (.invokevirtual 101, 3) := by decide +kernel
theorem dX9_mends_46 : decode cX9_mends 46 = .ok (.istore_n 2, 1) := by decide +kernel
theorem dX9_mends_47 : decode cX9_mends 47 = .ok (.iload_n 2, 1) := by decide +kernel
theorem dX9_mends_48 : decode cX9_mends 48 = .ok (.iconst (-1), 1) := by decide +kernel
theorem dX9_mends_49 : decode cX9_mends 49 = .ok (.if_icmp .ne 5, 3) := by decide +kernel
theorem dX9_mends_52 : decode cX9_mends 52 = .ok (.iconst 0, 1) := by decide +kernel
theorem dX9_mends_53 : decode cX9_mends 53 = .ok (.ireturn, 1) := by decide +kernel
theorem dX9_mends_54 : decode cX9_mends 54 = .ok (.aload_n 0, 1) := by decide +kernel
theorem dX9_mends_55 : decode cX9_mends 55 = .ok (.getfield 21, 3) := by decide +kernel
theorem dX9_mends_58 : decode cX9_mends 58 = .ok (.aload_n 0, 1) := by decide +kernel
theorem dX9_mends_59 : decode cX9_mends 59 = .ok (.getfield 47, 3) := by decide +kernel
theorem dX9_mends_62 : decode cX9_mends 62 = .ok (.iload_n 2, 1) := by decide +kernel
theorem dX9_mends_63 : decode cX9_mends 63 = .ok (.invokevirtual 104, 3) := by decide +kernel
theorem dX9_mends_66 : decode cX9_mends 66 = .ok (.iinc 1 1, 3) := by decide +kernel
theorem dX9_mends_69 : decode cX9_mends 69 = .ok (.goto (-61), 3) := by decide +kernel
theorem dX9_mends_72 : decode cX9_mends 72 = .ok (.iconst 0, 1) := by decide +kernel
theorem dX9_mends_73 : decode cX9_mends 73 = .ok (.ireturn, 1) := by decide +kernel
theorem dX9_climbs_0 : decode cX9_climbs 0 = .ok (.iconst 0, 1) := by decide +kernel
theorem dX9_climbs_1 : decode cX9_climbs 1 = .ok (.istore_n 2, 1) := by decide +kernel
theorem dX9_climbs_2 : decode cX9_climbs 2 = .ok (.iload_n 2, 1) := by decide +kernel
theorem dX9_climbs_3 : decode cX9_climbs 3 = .ok (.ldc 96, 2) := by decide +kernel
theorem dX9_climbs_5 : decode cX9_climbs 5 = .ok (.if_icmp .ge 57, 3) := by decide +kernel
theorem dX9_climbs_8 : decode cX9_climbs 8 = .ok (.aload_n 0, 1) := by decide +kernel
theorem dX9_climbs_9 : decode cX9_climbs 9 = .ok (.iload_n 1, 1) := by decide +kernel
theorem dX9_climbs_10 : decode cX9_climbs 10 = .ok (.invokevirtual 101, 3) := by decide +kernel
theorem dX9_climbs_13 : decode cX9_climbs 13 = .ok (.istore_n 3, 1) := by decide +kernel
theorem dX9_climbs_14 : decode cX9_climbs 14 = .ok (.iload_n 3, 1) := by decide +kernel
theorem dX9_climbs_15 : decode cX9_climbs 15 = .ok (.iconst (-1), 1) := by decide +kernel
theorem dX9_climbs_16 : decode cX9_climbs 16 = .ok (.if_icmp .ne 10, 3) := by decide +kernel
theorem dX9_climbs_19 : decode cX9_climbs 19 = .ok (.aload_n 0, 1) := by decide +kernel
theorem dX9_climbs_20 : decode cX9_climbs 20 = .ok (.iload_n 1, 1) := by decide +kernel
theorem dX9_climbs_21 : decode cX9_climbs 21 = .ok (.invokevirtual 107, 3) := by decide +kernel
theorem dX9_climbs_24 : decode cX9_climbs 24 = .ok (.iconst 1, 1) := by decide +kernel
theorem dX9_climbs_25 : decode cX9_climbs 25 = .ok (.ireturn, 1) := by decide +kernel
theorem dX9_climbs_26 : decode cX9_climbs 26 = .ok (.aload_n 0, 1) := by decide +kernel
theorem dX9_climbs_27 : decode cX9_climbs 27 = .ok (.iload_n 3, 1) := by decide +kernel
theorem dX9_climbs_28 : decode cX9_climbs 28 = .ok (.invokevirtual 111, 3) := by decide +kernel
theorem dX9_climbs_31 : decode cX9_climbs 31 = .ok (.istore 4, 2) := by decide +kernel
theorem dX9_climbs_33 : decode cX9_climbs 33 = .ok (.iload 4, 2) := by decide +kernel
theorem dX9_climbs_35 : decode cX9_climbs 35 = .ok (.iconst (-1), 1) := by decide +kernel
theorem dX9_climbs_36 : decode cX9_climbs 36 = .ok (.if_icmp .ne 10, 3) := by decide +kernel
theorem dX9_climbs_39 : decode cX9_climbs 39 = .ok (.aload_n 0, 1) := by decide +kernel
theorem dX9_climbs_40 : decode cX9_climbs 40 = .ok (.iload_n 3, 1) := by decide +kernel
theorem dX9_climbs_41 : decode cX9_climbs 41 = .ok (.putfield 44, 3) := by decide +kernel
theorem dX9_climbs_44 : decode cX9_climbs 44 = .ok (.iconst 0, 1) := by decide +kernel
theorem dX9_climbs_45 : decode cX9_climbs 45 = .ok (.ireturn, 1) := by decide +kernel
theorem dX9_climbs_46 : decode cX9_climbs 46 = .ok (.aload_n 0, 1) := by decide +kernel
theorem dX9_climbs_47 : decode cX9_climbs 47 = .ok (.getfield 21, 3) := by decide +kernel
theorem dX9_climbs_50 : decode cX9_climbs 50 = .ok (.iload 4, 2) := by decide +kernel
theorem dX9_climbs_52 : decode cX9_climbs 52 = .ok (.iload_n 3, 1) := by decide +kernel
theorem dX9_climbs_53 : decode cX9_climbs 53 = .ok (.invokevirtual 104, 3) := by decide +kernel
theorem dX9_climbs_56 : decode cX9_climbs 56 = .ok (.iinc 2 1, 3) := by decide +kernel
theorem dX9_climbs_59 : decode cX9_climbs 59 = .ok (.goto (-57), 3) := by decide +kernel
theorem dX9_climbs_62 : decode cX9_climbs 62 = .ok (.iconst 0, 1) := by decide +kernel
theorem dX9_climbs_63 : decode cX9_climbs 63 = .ok (.ireturn, 1) := by decide +kernel
theorem dX9_hold_0 : decode cX9_hold 0 = .ok (.iconst 0, 1) := by decide +kernel
theorem dX9_hold_1 : decode cX9_hold 1 = .ok (.istore_n 2, 1) := by decide +kernel
theorem dX9_hold_2 : decode cX9_hold 2 = .ok (.iload_n 2, 1) := by decide +kernel
theorem dX9_hold_3 : decode cX9_hold 3 = .ok (.aload_n 0, 1) := by decide +kernel
theorem dX9_hold_4 : decode cX9_hold 4 = .ok (.getfield 32, 3) := by decide +kernel
theorem dX9_hold_7 : decode cX9_hold 7 = .ok (.arraylength, 1) := by decide +kernel
theorem dX9_hold_8 : decode cX9_hold 8 = .ok (.if_icmp .ge 30, 3) := by decide +kernel
theorem dX9_hold_11 : decode cX9_hold 11 = .ok (.aload_n 0, 1) := by decide +kernel
theorem dX9_hold_12 : decode cX9_hold 12 = .ok (.getfield 21, 3) := by decide +kernel
theorem dX9_hold_15 : decode cX9_hold 15 = .ok (.iload_n 1, 1) := by decide +kernel
theorem dX9_hold_16 : decode cX9_hold 16 = .ok (.iload_n 2, 1) := by decide +kernel
theorem dX9_hold_17 : decode cX9_hold 17 = .ok (.invokevirtual 114, 3) := by decide +kernel
theorem dX9_hold_20 : decode cX9_hold 20 = .ok (.lconst 0, 1) := by decide +kernel
theorem dX9_hold_21 : decode cX9_hold 21 = .ok (.lcmp, 1) := by decide +kernel
theorem dX9_hold_22 : decode cX9_hold 22 = .ok (.ifCond .eq 10, 3) := by decide +kernel
theorem dX9_hold_25 : decode cX9_hold 25 = .ok (.aload_n 0, 1) := by decide +kernel
theorem dX9_hold_26 : decode cX9_hold 26 = .ok (.getfield 32, 3) := by decide +kernel
theorem dX9_hold_29 : decode cX9_hold 29 = .ok (.iload_n 2, 1) := by decide +kernel
theorem dX9_hold_30 : decode cX9_hold 30 = .ok (.iconst 1, 1) := by decide +kernel
theorem dX9_hold_31 : decode cX9_hold 31 = .ok (.bastore, 1) := by decide +kernel
theorem dX9_hold_32 : decode cX9_hold 32 = .ok (.iinc 2 1, 3) := by decide +kernel
theorem dX9_hold_35 : decode cX9_hold 35 = .ok (.goto (-33), 3) := by decide +kernel
theorem dX9_hold_38 : decode cX9_hold 38 = .ok (.return_, 1) := by decide +kernel
theorem dX9_firstBrokenLine_0 : decode cX9_firstBrokenLine 0 = .ok (.iconst (-1), 1) := by decide +kernel
theorem dX9_firstBrokenLine_1 : decode cX9_firstBrokenLine 1 = .ok (.istore_n 1, 1) := by decide +kernel
theorem dX9_firstBrokenLine_2 : decode cX9_firstBrokenLine 2 = .ok (.iconst 0, 1) := by decide +kernel
theorem dX9_firstBrokenLine_3 : decode cX9_firstBrokenLine 3 = .ok (.istore_n 2, 1) := by decide +kernel
theorem dX9_firstBrokenLine_4 : decode cX9_firstBrokenLine 4 = .ok (.iload_n 2, 1) := by decide +kernel
theorem dX9_firstBrokenLine_5 : decode cX9_firstBrokenLine 5 = .ok (.aload_n 0, 1) := by decide +kernel
theorem dX9_firstBrokenLine_6 : decode cX9_firstBrokenLine 6 = .ok (.getfield 21, 3) := by decide +kernel
theorem dX9_firstBrokenLine_9 : decode cX9_firstBrokenLine 9 = .ok (.getfield 118, 3) := by decide +kernel
theorem dX9_firstBrokenLine_12 : decode cX9_firstBrokenLine 12 = .ok (.if_icmp .ge 49, 3) := by decide +kernel
theorem dX9_firstBrokenLine_15 : decode cX9_firstBrokenLine 15 = .ok (.aload_n 0, 1) := by decide +kernel
theorem dX9_firstBrokenLine_16 : decode cX9_firstBrokenLine 16 = .ok (.getfield 21, 3) := by decide +kernel
theorem dX9_firstBrokenLine_19 : decode cX9_firstBrokenLine 19 = .ok (.iload_n 2, 1) := by decide +kernel
theorem dX9_firstBrokenLine_20 : decode cX9_firstBrokenLine 20 = .ok (.iconst 3, 1) := by decide +kernel
theorem dX9_firstBrokenLine_21 : decode cX9_firstBrokenLine 21 = .ok (.invokevirtual 114, 3) := by decide +kernel
theorem dX9_firstBrokenLine_24 : decode cX9_firstBrokenLine 24 = .ok (.lconst 0, 1) := by decide +kernel
theorem dX9_firstBrokenLine_25 : decode cX9_firstBrokenLine 25 = .ok (.lcmp, 1) := by decide +kernel
theorem dX9_firstBrokenLine_26 : decode cX9_firstBrokenLine 26 = .ok (.ifCond .ge 29, 3) := by decide +kernel
theorem dX9_firstBrokenLine_29 : decode cX9_firstBrokenLine 29 = .ok (.iload_n 1, 1) := by decide +kernel
theorem dX9_firstBrokenLine_30 : decode cX9_firstBrokenLine 30 = .ok (.iconst (-1), 1) := by decide +kernel
theorem dX9_firstBrokenLine_31 : decode cX9_firstBrokenLine 31 = .ok (.if_icmp .eq 22, 3) := by decide +kernel
theorem dX9_firstBrokenLine_34 : decode cX9_firstBrokenLine 34 = .ok (.aload_n 0, 1) := by decide +kernel
theorem dX9_firstBrokenLine_35 : decode cX9_firstBrokenLine 35 = .ok (.getfield 21, 3) := by decide +kernel
theorem dX9_firstBrokenLine_38 : decode cX9_firstBrokenLine 38 = .ok (.iload_n 2, 1) := by decide +kernel
theorem dX9_firstBrokenLine_39 : decode cX9_firstBrokenLine 39 = .ok (.invokevirtual 121, 3) := by decide +kernel
theorem dX9_firstBrokenLine_42 : decode cX9_firstBrokenLine 42 = .ok (.aload_n 0, 1) := by decide +kernel
theorem dX9_firstBrokenLine_43 : decode cX9_firstBrokenLine 43 = .ok (.getfield 21, 3) := by decide +kernel
theorem dX9_firstBrokenLine_46 : decode cX9_firstBrokenLine 46 = .ok (.iload_n 1, 1) := by decide +kernel
theorem dX9_firstBrokenLine_47 : decode cX9_firstBrokenLine 47 = .ok (.invokevirtual 121, 3) := by decide +kernel
theorem dX9_firstBrokenLine_50 : decode cX9_firstBrokenLine 50 = .ok (.if_icmp .ge 5, 3) := by decide +kernel
theorem dX9_firstBrokenLine_53 : decode cX9_firstBrokenLine 53 = .ok (.iload_n 2, 1) := by decide +kernel
theorem dX9_firstBrokenLine_54 : decode cX9_firstBrokenLine 54 = .ok (.istore_n 1, 1) := by decide +kernel
theorem dX9_firstBrokenLine_55 : decode cX9_firstBrokenLine 55 = .ok (.iinc 2 1, 3) := by decide +kernel
theorem dX9_firstBrokenLine_58 : decode cX9_firstBrokenLine 58 = .ok (.goto (-54), 3) := by decide +kernel
theorem dX9_firstBrokenLine_61 : decode cX9_firstBrokenLine 61 = .ok (.iload_n 1, 1) := by decide +kernel
theorem dX9_firstBrokenLine_62 : decode cX9_firstBrokenLine 62 = .ok (.ireturn, 1) := by decide +kernel
theorem dX9_firstGrowing_0 : decode cX9_firstGrowing 0 = .ok (.iconst (-1), 1) := by decide +kernel
theorem dX9_firstGrowing_1 : decode cX9_firstGrowing 1 = .ok (.istore_n 2, 1) := by decide +kernel
theorem dX9_firstGrowing_2 : decode cX9_firstGrowing 2 = .ok (.iconst 0, 1) := by decide +kernel
theorem dX9_firstGrowing_3 : decode cX9_firstGrowing 3 = .ok (.istore_n 3, 1) := by decide +kernel
theorem dX9_firstGrowing_4 : decode cX9_firstGrowing 4 = .ok (.iload_n 3, 1) := by decide +kernel
theorem dX9_firstGrowing_5 : decode cX9_firstGrowing 5 = .ok (.aload_n 0, 1) := by decide +kernel
theorem dX9_firstGrowing_6 : decode cX9_firstGrowing 6 = .ok (.getfield 32, 3) := by decide +kernel
theorem dX9_firstGrowing_9 : decode cX9_firstGrowing 9 = .ok (.arraylength, 1) := by decide +kernel
theorem dX9_firstGrowing_10 : decode cX9_firstGrowing 10 = .ok (.if_icmp .ge 58, 3) := by decide +kernel
theorem dX9_firstGrowing_13 : decode cX9_firstGrowing 13 = .ok (.aload_n 0, 1) := by decide +kernel
theorem dX9_firstGrowing_14 : decode cX9_firstGrowing 14 = .ok (.getfield 32, 3) := by decide +kernel
theorem dX9_firstGrowing_17 : decode cX9_firstGrowing 17 = .ok (.iload_n 3, 1) := by decide +kernel
theorem dX9_firstGrowing_18 : decode cX9_firstGrowing 18 = .ok (.baload, 1) := by decide +kernel
theorem dX9_firstGrowing_19 : decode cX9_firstGrowing 19 = .ok (.ifCond .ne 43, 3) := by decide +kernel
theorem dX9_firstGrowing_22 : decode cX9_firstGrowing 22 = .ok (.aload_n 0, 1) := by decide +kernel
theorem dX9_firstGrowing_23 : decode cX9_firstGrowing 23 = .ok (.getfield 21, 3) := by decide +kernel
theorem dX9_firstGrowing_26 : decode cX9_firstGrowing 26 = .ok (.iload_n 1, 1) := by decide +kernel
theorem dX9_firstGrowing_27 : decode cX9_firstGrowing 27 = .ok (.iload_n 3, 1) := by decide +kernel
theorem dX9_firstGrowing_28 : decode cX9_firstGrowing 28 = .ok (.invokevirtual 114, 3) := by decide +kernel
theorem dX9_firstGrowing_31 : decode cX9_firstGrowing 31 = .ok (.lconst 0, 1) := by decide +kernel
theorem dX9_firstGrowing_32 : decode cX9_firstGrowing 32 = .ok (.lcmp, 1) := by decide +kernel
theorem dX9_firstGrowing_33 : decode cX9_firstGrowing 33 = .ok (.ifCond .le 29, 3) := by decide +kernel
theorem dX9_firstGrowing_36 : decode cX9_firstGrowing 36 = .ok (.iload_n 2, 1) := by decide +kernel
theorem dX9_firstGrowing_37 : decode cX9_firstGrowing 37 = .ok (.iconst (-1), 1) := by decide +kernel
theorem dX9_firstGrowing_38 : decode cX9_firstGrowing 38 = .ok (.if_icmp .eq 22, 3) := by decide +kernel
theorem dX9_firstGrowing_41 : decode cX9_firstGrowing 41 = .ok (.aload_n 0, 1) := by decide +kernel
theorem dX9_firstGrowing_42 : decode cX9_firstGrowing 42 = .ok (.getfield 21, 3) := by decide +kernel
theorem dX9_firstGrowing_45 : decode cX9_firstGrowing 45 = .ok (.iload_n 3, 1) := by decide +kernel
theorem dX9_firstGrowing_46 : decode cX9_firstGrowing 46 = .ok (.invokevirtual 124, 3) := by decide +kernel
theorem dX9_firstGrowing_49 : decode cX9_firstGrowing 49 = .ok (.aload_n 0, 1) := by decide +kernel
theorem dX9_firstGrowing_50 : decode cX9_firstGrowing 50 = .ok (.getfield 21, 3) := by decide +kernel
theorem dX9_firstGrowing_53 : decode cX9_firstGrowing 53 = .ok (.iload_n 2, 1) := by decide +kernel
theorem dX9_firstGrowing_54 : decode cX9_firstGrowing 54 = .ok (.invokevirtual 124, 3) := by decide +kernel
theorem dX9_firstGrowing_57 : decode cX9_firstGrowing 57 = .ok (.if_icmp .ge 5, 3) := by decide +kernel
theorem dX9_firstGrowing_60 : decode cX9_firstGrowing 60 = .ok (.iload_n 3, 1) := by decide +kernel
theorem dX9_firstGrowing_61 : decode cX9_firstGrowing 61 = .ok (.istore_n 2, 1) := by decide +kernel
theorem dX9_firstGrowing_62 : decode cX9_firstGrowing 62 = .ok (.iinc 3 1, 3) := by decide +kernel
theorem dX9_firstGrowing_65 : decode cX9_firstGrowing 65 = .ok (.goto (-61), 3) := by decide +kernel
theorem dX9_firstGrowing_68 : decode cX9_firstGrowing 68 = .ok (.iload_n 2, 1) := by decide +kernel
theorem dX9_firstGrowing_69 : decode cX9_firstGrowing 69 = .ok (.ireturn, 1) := by decide +kernel
theorem dX9_firstStop_0 : decode cX9_firstStop 0 = .ok (.iconst (-1), 1) := by decide +kernel
theorem dX9_firstStop_1 : decode cX9_firstStop 1 = .ok (.istore_n 2, 1) := by decide +kernel
theorem dX9_firstStop_2 : decode cX9_firstStop 2 = .ok (.iconst 0, 1) := by decide +kernel
theorem dX9_firstStop_3 : decode cX9_firstStop 3 = .ok (.istore_n 3, 1) := by decide +kernel
theorem dX9_firstStop_4 : decode cX9_firstStop 4 = .ok (.iload_n 3, 1) := by decide +kernel
theorem dX9_firstStop_5 : decode cX9_firstStop 5 = .ok (.aload_n 0, 1) := by decide +kernel
theorem dX9_firstStop_6 : decode cX9_firstStop 6 = .ok (.getfield 21, 3) := by decide +kernel
theorem dX9_firstStop_9 : decode cX9_firstStop 9 = .ok (.getfield 118, 3) := by decide +kernel
theorem dX9_firstStop_12 : decode cX9_firstStop 12 = .ok (.if_icmp .ge 40, 3) := by decide +kernel
theorem dX9_firstStop_15 : decode cX9_firstStop 15 = .ok (.aload_n 0, 1) := by decide +kernel
theorem dX9_firstStop_16 : decode cX9_firstStop 16 = .ok (.getfield 21, 3) := by decide +kernel
theorem dX9_firstStop_19 : decode cX9_firstStop 19 = .ok (.iload_n 3, 1) := by decide +kernel
theorem dX9_firstStop_20 : decode cX9_firstStop 20 = .ok (.iload_n 1, 1) := by decide +kernel
theorem dX9_firstStop_21 : decode cX9_firstStop 21 = .ok (.invokevirtual 114, 3) := by decide +kernel
theorem dX9_firstStop_24 : decode cX9_firstStop 24 = .ok (.lconst 0, 1) := by decide +kernel
theorem dX9_firstStop_25 : decode cX9_firstStop 25 = .ok (.lcmp, 1) := by decide +kernel
theorem dX9_firstStop_26 : decode cX9_firstStop 26 = .ok (.ifCond .ge 20, 3) := by decide +kernel
theorem dX9_firstStop_29 : decode cX9_firstStop 29 = .ok (.iload_n 2, 1) := by decide +kernel
theorem dX9_firstStop_30 : decode cX9_firstStop 30 = .ok (.iconst (-1), 1) := by decide +kernel
theorem dX9_firstStop_31 : decode cX9_firstStop 31 = .ok (.if_icmp .eq 13, 3) := by decide +kernel
theorem dX9_firstStop_34 : decode cX9_firstStop 34 = .ok (.aload_n 0, 1) := by decide +kernel
theorem dX9_firstStop_35 : decode cX9_firstStop 35 = .ok (.iload_n 3, 1) := by decide +kernel
theorem dX9_firstStop_36 : decode cX9_firstStop 36 = .ok (.iload_n 2, 1) := by decide +kernel
theorem dX9_firstStop_37 : decode cX9_firstStop 37 = .ok (.iload_n 1, 1) := by decide +kernel
theorem dX9_firstStop_38 : decode cX9_firstStop 38 = .ok (.invokevirtual 127, 3) := by decide +kernel
theorem dX9_firstStop_41 : decode cX9_firstStop 41 = .ok (.ifCond .eq 5, 3) := by decide +kernel
theorem dX9_firstStop_44 : decode cX9_firstStop 44 = .ok (.iload_n 3, 1) := by decide +kernel
theorem dX9_firstStop_45 : decode cX9_firstStop 45 = .ok (.istore_n 2, 1) := by decide +kernel
theorem dX9_firstStop_46 : decode cX9_firstStop 46 = .ok (.iinc 3 1, 3) := by decide +kernel
theorem dX9_firstStop_49 : decode cX9_firstStop 49 = .ok (.goto (-45), 3) := by decide +kernel
theorem dX9_firstStop_52 : decode cX9_firstStop 52 = .ok (.iload_n 2, 1) := by decide +kernel
theorem dX9_firstStop_53 : decode cX9_firstStop 53 = .ok (.ireturn, 1) := by decide +kernel
theorem dX9_stopsSooner_0 : decode cX9_stopsSooner 0 = .ok (.aload_n 0, 1) := by decide +kernel
theorem dX9_stopsSooner_1 : decode cX9_stopsSooner 1 = .ok (.getfield 21, 3) := by decide +kernel
theorem dX9_stopsSooner_4 : decode cX9_stopsSooner 4 = .ok (.iload_n 1, 1) := by decide +kernel
theorem dX9_stopsSooner_5 : decode cX9_stopsSooner 5 = .ok (.iconst 3, 1) := by decide +kernel
theorem dX9_stopsSooner_6 : decode cX9_stopsSooner 6 = .ok (.invokevirtual 114, 3) := by decide +kernel
theorem dX9_stopsSooner_9 : decode cX9_stopsSooner 9 = .ok (.aload_n 0, 1) := by decide +kernel
theorem dX9_stopsSooner_10 : decode cX9_stopsSooner 10 = .ok (.getfield 21, 3) := by decide +kernel
theorem dX9_stopsSooner_13 : decode cX9_stopsSooner 13 = .ok (.iload_n 2, 1) := by decide +kernel
theorem dX9_stopsSooner_14 : decode cX9_stopsSooner 14 = .ok (.iload_n 3, 1) := by decide +kernel
theorem dX9_stopsSooner_15 : decode cX9_stopsSooner 15 = .ok (.invokevirtual 114, 3) := by decide +kernel
theorem dX9_stopsSooner_18 : decode cX9_stopsSooner 18 = .ok (.lneg, 1) := by decide +kernel
theorem dX9_stopsSooner_19 : decode cX9_stopsSooner 19 = .ok (.lmul, 1) := by decide +kernel
theorem dX9_stopsSooner_20 : decode cX9_stopsSooner 20 = .ok (.lstore 4, 2) := by decide +kernel
theorem dX9_stopsSooner_22 : decode cX9_stopsSooner 22 = .ok (.aload_n 0, 1) := by decide +kernel
theorem dX9_stopsSooner_23 : decode cX9_stopsSooner 23 = .ok (.getfield 21, 3) := by decide +kernel
theorem dX9_stopsSooner_26 : decode cX9_stopsSooner 26 = .ok (.iload_n 2, 1) := by decide +kernel
theorem dX9_stopsSooner_27 : decode cX9_stopsSooner 27 = .ok (.iconst 3, 1) := by decide +kernel
theorem dX9_stopsSooner_28 : decode cX9_stopsSooner 28 = .ok (.invokevirtual 114, 3) := by decide +kernel
theorem dX9_stopsSooner_31 : decode cX9_stopsSooner 31 = .ok (.aload_n 0, 1) := by decide +kernel
theorem dX9_stopsSooner_32 : decode cX9_stopsSooner 32 = .ok (.getfield 21, 3) := by decide +kernel
theorem dX9_stopsSooner_35 : decode cX9_stopsSooner 35 = .ok (.iload_n 1, 1) := by decide +kernel
theorem dX9_stopsSooner_36 : decode cX9_stopsSooner 36 = .ok (.iload_n 3, 1) := by decide +kernel
theorem dX9_stopsSooner_37 : decode cX9_stopsSooner 37 = .ok (.invokevirtual 114, 3) := by decide +kernel
theorem dX9_stopsSooner_40 : decode cX9_stopsSooner 40 = .ok (.lneg, 1) := by decide +kernel
theorem dX9_stopsSooner_41 : decode cX9_stopsSooner 41 = .ok (.lmul, 1) := by decide +kernel
theorem dX9_stopsSooner_42 : decode cX9_stopsSooner 42 = .ok (.lstore 6, 2) := by decide +kernel
theorem dX9_stopsSooner_44 : decode cX9_stopsSooner 44 = .ok (.lload 4, 2) := by decide +kernel
theorem dX9_stopsSooner_46 : decode cX9_stopsSooner 46 = .ok (.lload 6, 2) := by decide +kernel
theorem dX9_stopsSooner_48 : decode cX9_stopsSooner 48 = .ok (.lcmp, 1) := by decide +kernel
theorem dX9_stopsSooner_49 : decode cX9_stopsSooner 49 = .ok (.ifCond .lt 30, 3) := by decide +kernel
theorem dX9_stopsSooner_52 : decode cX9_stopsSooner 52 = .ok (.lload 4, 2) := by decide +kernel
theorem dX9_stopsSooner_54 : decode cX9_stopsSooner 54 = .ok (.lload 6, 2) := by decide +kernel
theorem dX9_stopsSooner_56 : decode cX9_stopsSooner 56 = .ok (.lcmp, 1) := by decide +kernel
theorem dX9_stopsSooner_57 : decode cX9_stopsSooner 57 = .ok (.ifCond .ne 26, 3) := by decide +kernel
theorem dX9_stopsSooner_60 : decode cX9_stopsSooner 60 = .ok (.aload_n 0, 1) := by decide +kernel
theorem dX9_stopsSooner_61 : decode cX9_stopsSooner 61 = .ok (.getfield 21, 3) := by decide +kernel
theorem dX9_stopsSooner_64 : decode cX9_stopsSooner 64 = .ok (.iload_n 1, 1) := by decide +kernel
theorem dX9_stopsSooner_65 : decode cX9_stopsSooner 65 = .ok (.invokevirtual 121, 3) := by decide +kernel
theorem dX9_stopsSooner_68 : decode cX9_stopsSooner 68 = .ok (.aload_n 0, 1) := by decide +kernel
theorem dX9_stopsSooner_69 : decode cX9_stopsSooner 69 = .ok (.getfield 21, 3) := by decide +kernel
theorem dX9_stopsSooner_72 : decode cX9_stopsSooner 72 = .ok (.iload_n 2, 1) := by decide +kernel
theorem dX9_stopsSooner_73 : decode cX9_stopsSooner 73 = .ok (.invokevirtual 121, 3) := by decide +kernel
theorem dX9_stopsSooner_76 : decode cX9_stopsSooner 76 = .ok (.if_icmp .ge 7, 3) := by decide +kernel
theorem dX9_stopsSooner_79 : decode cX9_stopsSooner 79 = .ok (.iconst 1, 1) := by decide +kernel
theorem dX9_stopsSooner_80 : decode cX9_stopsSooner 80 = .ok (.goto 4, 3) := by decide +kernel
theorem dX9_stopsSooner_83 : decode cX9_stopsSooner 83 = .ok (.iconst 0, 1) := by decide +kernel
theorem dX9_stopsSooner_84 : decode cX9_stopsSooner 84 = .ok (.ireturn, 1) := by decide +kernel
theorem dX9_stand_0 : decode cX9_stand 0 = .ok (.aload_n 0, 1) := by decide +kernel
theorem dX9_stand_1 : decode cX9_stand 1 = .ok (.getfield 28, 3) := by decide +kernel
theorem dX9_stand_4 : decode cX9_stand 4 = .ok (.aload_n 0, 1) := by decide +kernel
theorem dX9_stand_5 : decode cX9_stand 5 = .ok (.getfield 50, 3) := by decide +kernel
theorem dX9_stand_8 : decode cX9_stand 8 = .ok (.getfield 82, 3) := by decide +kernel
theorem dX9_stand_11 : decode cX9_stand 11 = .ok (.putfield 131, 3) := by decide +kernel
theorem dX9_stand_14 : decode cX9_stand 14 = .ok (.aload_n 0, 1) := by decide +kernel
theorem dX9_stand_15 : decode cX9_stand 15 = .ok (.getfield 28, 3) := by decide +kernel
theorem dX9_stand_18 : decode cX9_stand 18 = .ok (.aload_n 0, 1) := by decide +kernel
theorem dX9_stand_19 : decode cX9_stand 19 = .ok (.getfield 21, 3) := by decide +kernel
theorem dX9_stand_22 : decode cX9_stand 22 = .ok (.getfield 134, 3) := by decide +kernel
theorem dX9_stand_25 : decode cX9_stand 25 = .ok (.putfield 138, 3) := by decide +kernel
theorem dX9_stand_28 : decode cX9_stand 28 = .ok (.iconst 0, 1) := by decide +kernel
theorem dX9_stand_29 : decode cX9_stand 29 = .ok (.istore_n 1, 1) := by decide +kernel
theorem dX9_stand_30 : decode cX9_stand 30 = .ok (.iload_n 1, 1) := by decide +kernel
theorem dX9_stand_31 : decode cX9_stand 31 = .ok (.iconst 3, 1) := by decide +kernel
theorem dX9_stand_32 : decode cX9_stand 32 = .ok (.if_icmp .ge 43, 3) := by decide +kernel
theorem dX9_stand_35 : decode cX9_stand 35 = .ok (.aload_n 0, 1) := by decide +kernel
theorem dX9_stand_36 : decode cX9_stand 36 = .ok (.getfield 28, 3) := by decide +kernel
theorem dX9_stand_39 : decode cX9_stand 39 = .ok (.iload_n 1, 1) := by decide +kernel
theorem dX9_stand_40 : decode cX9_stand 40 = .ok (.aload_n 0, 1) := by decide +kernel
theorem dX9_stand_41 : decode cX9_stand 41 = .ok (.getfield 50, 3) := by decide +kernel
theorem dX9_stand_44 : decode cX9_stand 44 = .ok (.iload_n 1, 1) := by decide +kernel
theorem dX9_stand_45 : decode cX9_stand 45 = .ok (.invokevirtual 141, 3) := by decide +kernel
theorem dX9_stand_48 : decode cX9_stand 48 = .ok (.i2l, 1) := by decide +kernel
theorem dX9_stand_49 : decode cX9_stand 49 = .ok (.aload_n 0, 1) := by decide +kernel
theorem dX9_stand_50 : decode cX9_stand 50 = .ok (.getfield 21, 3) := by decide +kernel
theorem dX9_stand_53 : decode cX9_stand 53 = .ok (.getfield 134, 3) := by decide +kernel
theorem dX9_stand_56 : decode cX9_stand 56 = .ok (.lmul, 1) := by decide +kernel
theorem dX9_stand_57 : decode cX9_stand 57 = .ok (.aload_n 0, 1) := by decide +kernel
theorem dX9_stand_58 : decode cX9_stand 58 = .ok (.getfield 21, 3) := by decide +kernel
theorem dX9_stand_61 : decode cX9_stand 61 = .ok (.iload_n 1, 1) := by decide +kernel
theorem dX9_stand_62 : decode cX9_stand 62 = .ok (.invokevirtual 144, 3) := by decide +kernel
theorem dX9_stand_65 : decode cX9_stand 65 = .ok (.ladd, 1) := by decide +kernel
theorem dX9_stand_66 : decode cX9_stand 66 = .ok (.invokevirtual 148, 3) := by decide +kernel
theorem dX9_stand_69 : decode cX9_stand 69 = .ok (.iinc 1 1, 3) := by decide +kernel
theorem dX9_stand_72 : decode cX9_stand 72 = .ok (.goto (-42), 3) := by decide +kernel
theorem dX9_stand_75 : decode cX9_stand 75 = .ok (.return_, 1) := by decide +kernel
theorem dX10_init_0 : decode cX10_init 0 = .ok (.aload_n 0, 1) := by decide +kernel
theorem dX10_init_1 : decode cX10_init 1 = .ok (.invokespecial 3, 3) := by decide +kernel
theorem dX10_init_4 : decode cX10_init 4 = .ok (.aload_n 0, 1) := by decide +kernel
theorem dX10_init_5 : decode cX10_init 5 = .ok (.new 9, 3) := by decide +kernel
theorem dX10_init_8 : decode cX10_init 8 = .ok (.dup, 1) := by decide +kernel
theorem dX10_init_9 : decode cX10_init 9 = .ok (.invokespecial 11, 3) := by decide +kernel
theorem dX10_init_12 : decode cX10_init 12 = .ok (.putfield 12, 3) := by decide +kernel
theorem dX10_init_15 : decode cX10_init 15 = .ok (.aload_n 0, 1) := by decide +kernel
theorem dX10_init_16 : decode cX10_init 16 = .ok (.new 9, 3) := by decide +kernel
theorem dX10_init_19 : decode cX10_init 19 = .ok (.dup, 1) := by decide +kernel
theorem dX10_init_20 : decode cX10_init 20 = .ok (.invokespecial 11, 3) := by decide +kernel
theorem dX10_init_23 : decode cX10_init 23 = .ok (.putfield 18, 3) := by decide +kernel
theorem dX10_init_26 : decode cX10_init 26 = .ok (.aload_n 0, 1) := by decide +kernel
theorem dX10_init_27 : decode cX10_init 27 = .ok (.aload_n 1, 1) := by decide +kernel
theorem dX10_init_28 : decode cX10_init 28 = .ok (.putfield 21, 3) := by decide +kernel
theorem dX10_init_31 : decode cX10_init 31 = .ok (.return_, 1) := by decide +kernel
theorem dX10_look_0 : decode cX10_look 0 = .ok (.aload_n 0, 1) := by decide +kernel
theorem dX10_look_1 : decode cX10_look 1 = .ok (.getfield 25, 3) := by decide +kernel
theorem dX10_look_4 : decode cX10_look 4 = .ok (.ifCond .eq 4, 3) := by decide +kernel
theorem dX10_look_7 : decode cX10_look 7 = .ok (.return_, 1) := by decide +kernel
theorem dX10_look_8 : decode cX10_look 8 = .ok (.aload_n 0, 1) := by decide +kernel
theorem dX10_look_9 : decode cX10_look 9 = .ok (.iconst 1, 1) := by decide +kernel
theorem dX10_look_10 : decode cX10_look 10 = .ok (.putfield 25, 3) := by decide +kernel
theorem dX10_look_13 : decode cX10_look 13 = .ok (.aload_n 0, 1) := by decide +kernel
theorem dX10_look_14 : decode cX10_look 14 = .ok (.iconst 0, 1) := by decide +kernel
theorem dX10_look_15 : decode cX10_look 15 = .ok (.putfield 29, 3) := by decide +kernel
theorem dX10_look_18 : decode cX10_look 18 = .ok (.aload_n 0, 1) := by decide +kernel
theorem dX10_look_19 : decode cX10_look 19 = .ok (.getfield 18, 3) := by decide +kernel
theorem dX10_look_22 : decode cX10_look 22 = .ok (.aload_n 0, 1) := by decide +kernel
theorem dX10_look_23 : decode cX10_look 23 = .ok (.getfield 21, 3) := by decide +kernel
theorem dX10_look_26 : decode cX10_look 26 = .ok (.getfield 32, 3) := by decide +kernel
theorem dX10_look_29 : decode cX10_look 29 = .ok (.putfield 38, 3) := by decide +kernel
theorem dX10_look_32 : decode cX10_look 32 = .ok (.iconst 0, 1) := by decide +kernel
theorem dX10_look_33 : decode cX10_look 33 = .ok (.istore_n 1, 1) := by decide +kernel
theorem dX10_look_34 : decode cX10_look 34 = .ok (.iload_n 1, 1) := by decide +kernel
theorem dX10_look_35 : decode cX10_look 35 = .ok (.aload_n 0, 1) := by decide +kernel
theorem dX10_look_36 : decode cX10_look 36 = .ok (.iconst 0, 1) := by decide +kernel
theorem dX10_look_37 : decode cX10_look 37 = .ok (.invokevirtual 41, 3) := by decide +kernel
theorem dX10_look_40 : decode cX10_look 40 = .ok (.if_icmp .gt 104, 3) := by decide +kernel
theorem dX10_look_43 : decode cX10_look 43 = .ok (.iconst 0, 1) := by decide +kernel
theorem dX10_look_44 : decode cX10_look 44 = .ok (.istore_n 2, 1) := by decide +kernel
theorem dX10_look_45 : decode cX10_look 45 = .ok (.iload_n 2, 1) := by decide +kernel
theorem dX10_look_46 : decode cX10_look 46 = .ok (.aload_n 0, 1) := by decide +kernel
theorem dX10_look_47 : decode cX10_look 47 = .ok (.iconst 1, 1) := by decide +kernel
theorem dX10_look_48 : decode cX10_look 48 = .ok (.invokevirtual 41, 3) := by decide +kernel
theorem dX10_look_51 : decode cX10_look 51 = .ok (.if_icmp .gt 87, 3) := by decide +kernel
theorem dX10_look_54 : decode cX10_look 54 = .ok (.iconst 0, 1) := by decide +kernel
theorem dX10_look_55 : decode cX10_look 55 = .ok (.istore_n 3, 1) := by decide +kernel
theorem dX10_look_56 : decode cX10_look 56 = .ok (.iload_n 3, 1) := by decide +kernel
theorem dX10_look_57 : decode cX10_look 57 = .ok (.aload_n 0, 1) := by decide +kernel
theorem dX10_look_58 : decode cX10_look 58 = .ok (.iconst 2, 1) := by decide +kernel
theorem dX10_look_59 : decode cX10_look 59 = .ok (.invokevirtual 41, 3) := by decide +kernel
theorem dX10_look_62 : decode cX10_look 62 = .ok (.if_icmp .gt 70, 3) := by decide +kernel
theorem dX10_look_65 : decode cX10_look 65 = .ok (.aload_n 0, 1) := by decide +kernel
theorem dX10_look_66 : decode cX10_look 66 = .ok (.getfield 18, 3) := by decide +kernel
theorem dX10_look_69 : decode cX10_look 69 = .ok (.iconst 0, 1) := by decide +kernel
theorem dX10_look_70 : decode cX10_look 70 = .ok (.aload_n 0, 1) := by decide +kernel
theorem dX10_look_71 : decode cX10_look 71 = .ok (.getfield 21, 3) := by decide +kernel
theorem dX10_look_74 : decode cX10_look 74 = .ok (.iconst 0, 1) := by decide +kernel
theorem dX10_look_75 : decode cX10_look 75 = .ok (.invokevirtual 45, 3) := by decide +kernel
theorem dX10_look_78 : decode cX10_look 78 = .ok (.iload_n 1, 1) := by decide +kernel
theorem dX10_look_79 : decode cX10_look 79 = .ok (.iadd, 1) := by decide +kernel
theorem dX10_look_80 : decode cX10_look 80 = .ok (.i2l, 1) := by decide +kernel
theorem dX10_look_81 : decode cX10_look 81 = .ok (.invokevirtual 48, 3) := by decide +kernel
theorem dX10_look_84 : decode cX10_look 84 = .ok (.aload_n 0, 1) := by decide +kernel
theorem dX10_look_85 : decode cX10_look 85 = .ok (.getfield 18, 3) := by decide +kernel
theorem dX10_look_88 : decode cX10_look 88 = .ok (.iconst 1, 1) := by decide +kernel
theorem dX10_look_89 : decode cX10_look 89 = .ok (.aload_n 0, 1) := by decide +kernel
theorem dX10_look_90 : decode cX10_look 90 = .ok (.getfield 21, 3) := by decide +kernel
theorem dX10_look_93 : decode cX10_look 93 = .ok (.iconst 1, 1) := by decide +kernel
theorem dX10_look_94 : decode cX10_look 94 = .ok (.invokevirtual 45, 3) := by decide +kernel
theorem dX10_look_97 : decode cX10_look 97 = .ok (.iload_n 2, 1) := by decide +kernel
theorem dX10_look_98 : decode cX10_look 98 = .ok (.iadd, 1) := by decide +kernel
theorem dX10_look_99 : decode cX10_look 99 = .ok (.i2l, 1) := by decide +kernel
theorem dX10_look_100 : decode cX10_look 100 = .ok (.invokevirtual 48, 3) := by decide +kernel
theorem dX10_look_103 : decode cX10_look 103 = .ok (.aload_n 0, 1) := by decide +kernel
theorem dX10_look_104 : decode cX10_look 104 = .ok (.getfield 18, 3) := by decide +kernel
theorem dX10_look_107 : decode cX10_look 107 = .ok (.iconst 2, 1) := by decide +kernel
theorem dX10_look_108 : decode cX10_look 108 = .ok (.aload_n 0, 1) := by decide +kernel
theorem dX10_look_109 : decode cX10_look 109 = .ok (.getfield 21, 3) := by decide +kernel
theorem dX10_look_112 : decode cX10_look 112 = .ok (.iconst 2, 1) := by decide +kernel
theorem dX10_look_113 : decode cX10_look 113 = .ok (.invokevirtual 45, 3) := by decide +kernel
theorem dX10_look_116 : decode cX10_look 116 = .ok (.iload_n 3, 1) := by decide +kernel
theorem dX10_look_117 : decode cX10_look 117 = .ok (.iadd, 1) := by decide +kernel
theorem dX10_look_118 : decode cX10_look 118 = .ok (.i2l, 1) := by decide +kernel
theorem dX10_look_119 : decode cX10_look 119 = .ok (.invokevirtual 48, 3) := by decide +kernel
theorem dX10_look_122 : decode cX10_look 122 = .ok (.aload_n 0, 1) := by decide +kernel
theorem dX10_look_123 : decode cX10_look 123 = .ok (.invokevirtual 52, 3) := by decide +kernel
theorem dX10_look_126 : decode cX10_look 126 = .ok (.iinc 3 1, 3) := by decide +kernel
theorem dX10_look_129 : decode cX10_look 129 = .ok (.goto (-73), 3) := by decide +kernel
theorem dX10_look_132 : decode cX10_look 132 = .ok (.iinc 2 1, 3) := by decide +kernel
theorem dX10_look_135 : decode cX10_look 135 = .ok (.goto (-90), 3) := by decide +kernel
theorem dX10_look_138 : decode cX10_look 138 = .ok (.iinc 1 1, 3) := by decide +kernel
theorem dX10_look_141 : decode cX10_look 141 = .ok (.goto (-107), 3) := by decide +kernel
theorem dX10_look_144 : decode cX10_look 144 = .ok (.return_, 1) := by decide +kernel
theorem dX10_stepsOf_0 : decode cX10_stepsOf 0 = .ok (.iload_n 1, 1) := by decide +kernel
theorem dX10_stepsOf_1 : decode cX10_stepsOf 1 = .ok (.aload_n 0, 1) := by decide +kernel
theorem dX10_stepsOf_2 : decode cX10_stepsOf 2 = .ok (.getfield 21, 3) := by decide +kernel
theorem dX10_stepsOf_5 : decode cX10_stepsOf 5 = .ok (.getfield 32, 3) := by decide +kernel
theorem dX10_stepsOf_8 : decode cX10_stepsOf 8 = .ok (.if_icmp .ge 23, 3) := by decide +kernel
theorem dX10_stepsOf_11 : decode cX10_stepsOf 11 = .ok (.aload_n 0, 1) := by decide +kernel
theorem dX10_stepsOf_12 : decode cX10_stepsOf 12 = .ok (.getfield 21, 3) := by decide +kernel
theorem dX10_stepsOf_15 : decode cX10_stepsOf 15 = .ok (.iload_n 1, 1) := by decide +kernel
theorem dX10_stepsOf_16 : decode cX10_stepsOf 16 = .ok (.invokevirtual 55, 3) := by decide +kernel
theorem dX10_stepsOf_19 : decode cX10_stepsOf 19 = .ok (.aload_n 0, 1) := by decide +kernel
theorem dX10_stepsOf_20 : decode cX10_stepsOf 20 = .ok (.getfield 21, 3) := by decide +kernel
theorem dX10_stepsOf_23 : decode cX10_stepsOf 23 = .ok (.iload_n 1, 1) := by decide +kernel
theorem dX10_stepsOf_24 : decode cX10_stepsOf 24 = .ok (.invokevirtual 45, 3) := by decide +kernel
theorem dX10_stepsOf_27 : decode cX10_stepsOf 27 = .ok (.isub, 1) := by decide +kernel
theorem dX10_stepsOf_28 : decode cX10_stepsOf 28 = .ok (.goto 4, 3) := by decide +kernel
theorem dX10_stepsOf_31 : decode cX10_stepsOf 31 = .ok (.iconst 0, 1) := by decide +kernel
theorem dX10_stepsOf_32 : decode cX10_stepsOf 32 = .ok (.istore_n 2, 1) := by decide +kernel
theorem dX10_stepsOf_33 : decode cX10_stepsOf 33 = .ok (.iload_n 2, 1) := by decide +kernel
theorem dX10_stepsOf_34 : decode cX10_stepsOf 34 = .ok (.bipush 6, 2) := by decide +kernel
theorem dX10_stepsOf_36 : decode cX10_stepsOf 36 = .ok (.if_icmp .ge 7, 3) := by decide +kernel
theorem dX10_stepsOf_39 : decode cX10_stepsOf 39 = .ok (.iload_n 2, 1) := by decide +kernel
theorem dX10_stepsOf_40 : decode cX10_stepsOf 40 = .ok (.goto 5, 3) := by decide +kernel
theorem dX10_stepsOf_43 : decode cX10_stepsOf 43 = .ok (.bipush 6, 2) := by decide +kernel
theorem dX10_stepsOf_45 : decode cX10_stepsOf 45 = .ok (.ireturn, 1) := by decide +kernel
theorem dX10_lookAt_0 : decode cX10_lookAt 0 = .ok (.aload_n 0, 1) := by decide +kernel
theorem dX10_lookAt_1 : decode cX10_lookAt 1 = .ok (.getfield 21, 3) := by decide +kernel
theorem dX10_lookAt_4 : decode cX10_lookAt 4 = .ok (.aload_n 0, 1) := by decide +kernel
theorem dX10_lookAt_5 : decode cX10_lookAt 5 = .ok (.getfield 18, 3) := by decide +kernel
theorem dX10_lookAt_8 : decode cX10_lookAt 8 = .ok (.invokevirtual 58, 3) := by decide +kernel
theorem dX10_lookAt_11 : decode cX10_lookAt 11 = .ok (.bipush 100, 2) := by decide +kernel
theorem dX10_lookAt_13 : decode cX10_lookAt 13 = .ok (.if_icmp .ne 44, 3) := by decide +kernel
theorem dX10_lookAt_16 : decode cX10_lookAt 16 = .ok (.aload_n 0, 1) := by decide +kernel
theorem dX10_lookAt_17 : decode cX10_lookAt 17 = .ok (.getfield 29, 3) := by decide +kernel
theorem dX10_lookAt_20 : decode cX10_lookAt 20 = .ok (.ifCond .eq 21, 3) := by decide +kernel
theorem dX10_lookAt_23 : decode cX10_lookAt 23 = .ok (.aload_n 0, 1) := by decide +kernel
theorem dX10_lookAt_24 : decode cX10_lookAt 24 = .ok (.getfield 21, 3) := by decide +kernel
theorem dX10_lookAt_27 : decode cX10_lookAt 27 = .ok (.aload_n 0, 1) := by decide +kernel
theorem dX10_lookAt_28 : decode cX10_lookAt 28 = .ok (.getfield 18, 3) := by decide +kernel
theorem dX10_lookAt_31 : decode cX10_lookAt 31 = .ok (.aload_n 0, 1) := by decide +kernel
theorem dX10_lookAt_32 : decode cX10_lookAt 32 = .ok (.getfield 12, 3) := by decide +kernel
theorem dX10_lookAt_35 : decode cX10_lookAt 35 = .ok (.invokevirtual 62, 3) := by decide +kernel
theorem dX10_lookAt_38 : decode cX10_lookAt 38 = .ok (.ifCond .le 19, 3) := by decide +kernel
theorem dX10_lookAt_41 : decode cX10_lookAt 41 = .ok (.aload_n 0, 1) := by decide +kernel
theorem dX10_lookAt_42 : decode cX10_lookAt 42 = .ok (.getfield 12, 3) := by decide +kernel
theorem dX10_lookAt_45 : decode cX10_lookAt 45 = .ok (.aload_n 0, 1) := by decide +kernel
theorem dX10_lookAt_46 : decode cX10_lookAt 46 = .ok (.getfield 18, 3) := by decide +kernel
theorem dX10_lookAt_49 : decode cX10_lookAt 49 = .ok (.invokevirtual 66, 3) := by decide +kernel
theorem dX10_lookAt_52 : decode cX10_lookAt 52 = .ok (.aload_n 0, 1) := by decide +kernel
theorem dX10_lookAt_53 : decode cX10_lookAt 53 = .ok (.iconst 1, 1) := by decide +kernel
theorem dX10_lookAt_54 : decode cX10_lookAt 54 = .ok (.putfield 29, 3) := by decide +kernel
theorem dX10_lookAt_57 : decode cX10_lookAt 57 = .ok (.return_, 1) := by decide +kernel
theorem dX11_init_0 : decode cX11_init 0 = .ok (.aload_n 0, 1) := by decide +kernel
theorem dX11_init_1 : decode cX11_init 1 = .ok (.invokespecial 1, 3) := by decide +kernel
theorem dX11_init_4 : decode cX11_init 4 = .ok (.aload_n 0, 1) := by decide +kernel
theorem dX11_init_5 : decode cX11_init 5 = .ok (.new 7, 3) := by decide +kernel
theorem dX11_init_8 : decode cX11_init 8 = .ok (.dup, 1) := by decide +kernel
theorem dX11_init_9 : decode cX11_init 9 = .ok (.invokespecial 9, 3) := by decide +kernel
theorem dX11_init_12 : decode cX11_init 12 = .ok (.putfield 10, 3) := by decide +kernel
theorem dX11_init_15 : decode cX11_init 15 = .ok (.aload_n 0, 1) := by decide +kernel
theorem dX11_init_16 : decode cX11_init 16 = .ok (.new 16, 3) := by decide +kernel
theorem dX11_init_19 : decode cX11_init 19 = .ok (.dup, 1) := by decide +kernel
theorem dX11_init_20 : decode cX11_init 20 = .ok (.invokespecial 18, 3) := by decide +kernel
theorem dX11_init_23 : decode cX11_init 23 = .ok (.putfield 19, 3) := by decide +kernel
theorem dX11_init_26 : decode cX11_init 26 = .ok (.aload_n 0, 1) := by decide +kernel
theorem dX11_init_27 : decode cX11_init 27 = .ok (.new 23, 3) := by decide +kernel
theorem dX11_init_30 : decode cX11_init 30 = .ok (.dup, 1) := by decide +kernel
theorem dX11_init_31 : decode cX11_init 31 = .ok (.invokespecial 25, 3) := by decide +kernel
theorem dX11_init_34 : decode cX11_init 34 = .ok (.putfield 26, 3) := by decide +kernel
theorem dX11_init_37 : decode cX11_init 37 = .ok (.aload_n 0, 1) := by decide +kernel
theorem dX11_init_38 : decode cX11_init 38 = .ok (.new 30, 3) := by decide +kernel
theorem dX11_init_41 : decode cX11_init 41 = .ok (.dup, 1) := by decide +kernel
theorem dX11_init_42 : decode cX11_init 42 = .ok (.aload_n 0, 1) := by decide +kernel
theorem dX11_init_43 : decode cX11_init 43 = .ok (.getfield 10, 3) := by decide +kernel
theorem dX11_init_46 : decode cX11_init 46 = .ok (.invokespecial 32, 3) := by decide +kernel
theorem dX11_init_49 : decode cX11_init 49 = .ok (.putfield 35, 3) := by decide +kernel
theorem dX11_init_52 : decode cX11_init 52 = .ok (.aload_n 0, 1) := by decide +kernel
theorem dX11_init_53 : decode cX11_init 53 = .ok (.new 30, 3) := by decide +kernel
theorem dX11_init_56 : decode cX11_init 56 = .ok (.dup, 1) := by decide +kernel
theorem dX11_init_57 : decode cX11_init 57 = .ok (.aload_n 0, 1) := by decide +kernel
theorem dX11_init_58 : decode cX11_init 58 = .ok (.getfield 10, 3) := by decide +kernel
theorem dX11_init_61 : decode cX11_init 61 = .ok (.invokespecial 32, 3) := by decide +kernel
theorem dX11_init_64 : decode cX11_init 64 = .ok (.putfield 39, 3) := by decide +kernel
theorem dX11_init_67 : decode cX11_init 67 = .ok (.aload_n 0, 1) := by decide +kernel
theorem dX11_init_68 : decode cX11_init 68 = .ok (.new 42, 3) := by decide +kernel
theorem dX11_init_71 : decode cX11_init 71 = .ok (.dup, 1) := by decide +kernel
theorem dX11_init_72 : decode cX11_init 72 = .ok (.aload_n 0, 1) := by decide +kernel
theorem dX11_init_73 : decode cX11_init 73 = .ok (.getfield 10, 3) := by decide +kernel
theorem dX11_init_76 : decode cX11_init 76 = .ok (.aload_n 0, 1) := by decide +kernel
theorem dX11_init_77 : decode cX11_init 77 = .ok (.getfield 35, 3) := by decide +kernel
theorem dX11_init_80 : decode cX11_init 80 = .ok (.invokespecial 44, 3) := by decide +kernel
theorem dX11_init_83 : decode cX11_init 83 = .ok (.putfield 47, 3) := by decide +kernel
theorem dX11_init_86 : decode cX11_init 86 = .ok (.aload_n 0, 1) := by decide +kernel
theorem dX11_init_87 : decode cX11_init 87 = .ok (.new 51, 3) := by decide +kernel
theorem dX11_init_90 : decode cX11_init 90 = .ok (.dup, 1) := by decide +kernel
theorem dX11_init_91 : decode cX11_init 91 = .ok (.aload_n 0, 1) := by decide +kernel
theorem dX11_init_92 : decode cX11_init 92 = .ok (.getfield 10, 3) := by decide +kernel
theorem dX11_init_95 : decode cX11_init 95 = .ok (.aload_n 0, 1) := by decide +kernel
theorem dX11_init_96 : decode cX11_init 96 = .ok (.getfield 35, 3) := by decide +kernel
theorem dX11_init_99 : decode cX11_init 99 = .ok (.invokespecial 53, 3) := by decide +kernel
theorem dX11_init_102 : decode cX11_init 102 = .ok (.putfield 54, 3) := by decide +kernel
theorem dX11_init_105 : decode cX11_init 105 = .ok (.aload_n 0, 1) := by decide +kernel
theorem dX11_init_106 : decode cX11_init 106 = .ok (.new 58, 3) := by decide +kernel
theorem dX11_init_109 : decode cX11_init 109 = .ok (.dup, 1) := by decide +kernel
theorem dX11_init_110 : decode cX11_init 110 = .ok (.aload_n 0, 1) := by decide +kernel
theorem dX11_init_111 : decode cX11_init 111 = .ok (.getfield 10, 3) := by decide +kernel
theorem dX11_init_114 : decode cX11_init 114 = .ok (.invokespecial 60, 3) := by decide +kernel
theorem dX11_init_117 : decode cX11_init 117 = .ok (.putfield 61, 3) := by decide +kernel
theorem dX11_init_120 : decode cX11_init 120 = .ok (.aload_n 0, 1) := by decide +kernel
theorem dX11_init_121 : decode cX11_init 121 = .ok (.new 65, 3) := by decide +kernel
theorem dX11_init_124 : decode cX11_init 124 = .ok (.dup, 1) := by decide +kernel
theorem dX11_init_125 : decode cX11_init 125 = .ok (.invokespecial 67, 3) := by decide +kernel
theorem dX11_init_128 : decode cX11_init 128 = .ok (.putfield 68, 3) := by decide +kernel
theorem dX11_init_131 : decode cX11_init 131 = .ok (.aload_n 0, 1) := by decide +kernel
theorem dX11_init_132 : decode cX11_init 132 = .ok (.iconst 4, 1) := by decide +kernel
theorem dX11_init_133 : decode cX11_init 133 = .ok (.anewarray 72, 3) := by decide +kernel
theorem dX11_init_136 : decode cX11_init 136 = .ok (.putfield 74, 3) := by decide +kernel
theorem dX11_init_139 : decode cX11_init 139 = .ok (.iconst 0, 1) := by decide +kernel
theorem dX11_init_140 : decode cX11_init 140 = .ok (.istore_n 1, 1) := by decide +kernel
theorem dX11_init_141 : decode cX11_init 141 = .ok (.iload_n 1, 1) := by decide +kernel
theorem dX11_init_142 : decode cX11_init 142 = .ok (.aload_n 0, 1) := by decide +kernel
theorem dX11_init_143 : decode cX11_init 143 = .ok (.getfield 74, 3) := by decide +kernel
theorem dX11_init_146 : decode cX11_init 146 = .ok (.arraylength, 1) := by decide +kernel
theorem dX11_init_147 : decode cX11_init 147 = .ok (.if_icmp .ge 22, 3) := by decide +kernel
theorem dX11_init_150 : decode cX11_init 150 = .ok (.aload_n 0, 1) := by decide +kernel
theorem dX11_init_151 : decode cX11_init 151 = .ok (.getfield 74, 3) := by decide +kernel
theorem dX11_init_154 : decode cX11_init 154 = .ok (.iload_n 1, 1) := by decide +kernel
theorem dX11_init_155 : decode cX11_init 155 = .ok (.new 72, 3) := by decide +kernel
theorem dX11_init_158 : decode cX11_init 158 = .ok (.dup, 1) := by decide +kernel
theorem dX11_init_159 : decode cX11_init 159 = .ok (.invokespecial 78, 3) := by decide +kernel
theorem dX11_init_162 : decode cX11_init 162 = .ok (.aastore, 1) := by decide +kernel
theorem dX11_init_163 : decode cX11_init 163 = .ok (.iinc 1 1, 3) := by decide +kernel
theorem dX11_init_166 : decode cX11_init 166 = .ok (.goto (-25), 3) := by decide +kernel
theorem dX11_init_169 : decode cX11_init 169 = .ok (.return_, 1) := by decide +kernel
theorem dX11_addVariable_0 : decode cX11_addVariable 0 = .ok (.iload_n 1, 1) := by decide +kernel
theorem dX11_addVariable_1 : decode cX11_addVariable 1 = .ok (.iload_n 2, 1) := by decide +kernel
theorem dX11_addVariable_2 : decode cX11_addVariable 2 = .ok (.invokestatic 79, 3) := by decide +kernel
theorem dX11_addVariable_5 : decode cX11_addVariable 5 = .ok (.ifCond .ne 13, 3) := by decide +kernel
theorem dX11_addVariable_8 : decode cX11_addVariable 8 = .ok (.new 83, 3) := by decide +kernel
theorem dX11_addVariable_11 : decode cX11_addVariable 11 = .ok (.dup, 1) := by decide +kernel
theorem dX11_addVariable_12 : decode cX11_addVariable 12 = .ok (.ldc 85, 2) := by decide +kernel
theorem dX11_addVariable_14 : decode cX11_addVariable 14 = .ok (.invokespecial 87, 3) := by decide +kernel
theorem dX11_addVariable_17 : decode cX11_addVariable 17 = .ok (.athrow, 1) := by decide +kernel
theorem dX11_addVariable_18 : decode cX11_addVariable 18 = .ok (.aload_n 0, 1) := by decide +kernel
theorem dX11_addVariable_19 : decode cX11_addVariable 19 = .ok (.getfield 10, 3) := by decide +kernel
theorem dX11_addVariable_22 : decode cX11_addVariable 22 = .ok (.getfield 90, 3) := by decide +kernel
theorem dX11_addVariable_25 : decode cX11_addVariable 25 = .ok (.iconst 3, 1) := by decide +kernel
theorem dX11_addVariable_26 : decode cX11_addVariable 26 = .ok (.if_icmp .lt 13, 3) := by decide +kernel
theorem dX11_addVariable_29 : decode cX11_addVariable 29 = .ok (.new 94, 3) := by decide +kernel
theorem dX11_addVariable_32 : decode cX11_addVariable 32 = .ok (.dup, 1) := by decide +kernel
theorem dX11_addVariable_33 : decode cX11_addVariable 33 = .ok (.ldc 96, 2) := by decide +kernel
theorem dX11_addVariable_35 : decode cX11_addVariable 35 = .ok (.invokespecial 98, 3) := by decide +kernel
theorem dX11_addVariable_38 : decode cX11_addVariable 38 = .ok (.athrow, 1) := by decide +kernel
theorem dX11_addVariable_39 : decode cX11_addVariable 39 = .ok (.aload_n 0, 1) := by decide +kernel
theorem dX11_addVariable_40 : decode cX11_addVariable 40 = .ok (.invokevirtual 99, 3) := by decide +kernel
theorem dX11_addVariable_43 : decode cX11_addVariable 43 = .ok (.aload_n 0, 1) := by decide +kernel
theorem dX11_addVariable_44 : decode cX11_addVariable 44 = .ok (.getfield 10, 3) := by decide +kernel
theorem dX11_addVariable_47 : decode cX11_addVariable 47 = .ok (.iload_n 1, 1) := by decide +kernel
theorem dX11_addVariable_48 : decode cX11_addVariable 48 = .ok (.iload_n 2, 1) := by decide +kernel
theorem dX11_addVariable_49 : decode cX11_addVariable 49 = .ok (.invokevirtual 102, 3) := by decide +kernel
theorem dX11_addVariable_52 : decode cX11_addVariable 52 = .ok (.ireturn, 1) := by decide +kernel
theorem dX11_setLeast_0 : decode cX11_setLeast 0 = .ok (.aload_n 0, 1) := by decide +kernel
theorem dX11_setLeast_1 : decode cX11_setLeast 1 = .ok (.iload_n 1, 1) := by decide +kernel
theorem dX11_setLeast_2 : decode cX11_setLeast 2 = .ok (.invokevirtual 106, 3) := by decide +kernel
theorem dX11_setLeast_5 : decode cX11_setLeast 5 = .ok (.iload_n 2, 1) := by decide +kernel
theorem dX11_setLeast_6 : decode cX11_setLeast 6 = .ok (.aload_n 0, 1) := by decide +kernel
theorem dX11_setLeast_7 : decode cX11_setLeast 7 = .ok (.getfield 10, 3) := by decide +kernel
theorem dX11_setLeast_10 : decode cX11_setLeast 10 = .ok (.iload_n 1, 1) := by decide +kernel
theorem dX11_setLeast_11 : decode cX11_setLeast 11 = .ok (.invokevirtual 110, 3) := by decide +kernel
theorem dX11_setLeast_14 : decode cX11_setLeast 14 = .ok (.invokestatic 79, 3) := by decide +kernel
theorem dX11_setLeast_17 : decode cX11_setLeast 17 = .ok (.ifCond .ne 13, 3) := by decide +kernel
theorem dX11_setLeast_20 : decode cX11_setLeast 20 = .ok (.new 83, 3) := by decide +kernel
theorem dX11_setLeast_23 : decode cX11_setLeast 23 = .ok (.dup, 1) := by decide +kernel
theorem dX11_setLeast_24 : decode cX11_setLeast 24 = .ok (.ldc 114, 2) := by decide +kernel
theorem dX11_setLeast_26 : decode cX11_setLeast 26 = .ok (.invokespecial 87, 3) := by decide +kernel
theorem dX11_setLeast_29 : decode cX11_setLeast 29 = .ok (.athrow, 1) := by decide +kernel
theorem dX11_setLeast_30 : decode cX11_setLeast 30 = .ok (.aload_n 0, 1) := by decide +kernel
theorem dX11_setLeast_31 : decode cX11_setLeast 31 = .ok (.getfield 10, 3) := by decide +kernel
theorem dX11_setLeast_34 : decode cX11_setLeast 34 = .ok (.iload_n 1, 1) := by decide +kernel
theorem dX11_setLeast_35 : decode cX11_setLeast 35 = .ok (.invokevirtual 116, 3) := by decide +kernel
theorem dX11_setLeast_38 : decode cX11_setLeast 38 = .ok (.istore_n 3, 1) := by decide +kernel
theorem dX11_setLeast_39 : decode cX11_setLeast 39 = .ok (.aload_n 0, 1) := by decide +kernel
theorem dX11_setLeast_40 : decode cX11_setLeast 40 = .ok (.getfield 10, 3) := by decide +kernel
theorem dX11_setLeast_43 : decode cX11_setLeast 43 = .ok (.iload_n 1, 1) := by decide +kernel
theorem dX11_setLeast_44 : decode cX11_setLeast 44 = .ok (.iload_n 2, 1) := by decide +kernel
theorem dX11_setLeast_45 : decode cX11_setLeast 45 = .ok (.aload_n 0, 1) := by decide +kernel
theorem dX11_setLeast_46 : decode cX11_setLeast 46 = .ok (.getfield 10, 3) := by decide +kernel
theorem dX11_setLeast_49 : decode cX11_setLeast 49 = .ok (.iload_n 1, 1) := by decide +kernel
theorem dX11_setLeast_50 : decode cX11_setLeast 50 = .ok (.invokevirtual 110, 3) := by decide +kernel
theorem dX11_setLeast_53 : decode cX11_setLeast 53 = .ok (.invokevirtual 119, 3) := by decide +kernel
theorem dX11_setLeast_56 : decode cX11_setLeast 56 = .ok (.aload_n 0, 1) := by decide +kernel
theorem dX11_setLeast_57 : decode cX11_setLeast 57 = .ok (.invokevirtual 99, 3) := by decide +kernel
theorem dX11_setLeast_60 : decode cX11_setLeast 60 = .ok (.iload_n 3, 1) := by decide +kernel
theorem dX11_setLeast_61 : decode cX11_setLeast 61 = .ok (.ireturn, 1) := by decide +kernel
theorem dX11_setGreatest_0 : decode cX11_setGreatest 0 = .ok (.aload_n 0, 1) := by decide +kernel
theorem dX11_setGreatest_1 : decode cX11_setGreatest 1 = .ok (.iload_n 1, 1) := by decide +kernel
theorem dX11_setGreatest_2 : decode cX11_setGreatest 2 = .ok (.invokevirtual 106, 3) := by decide +kernel
theorem dX11_setGreatest_5 : decode cX11_setGreatest 5 = .ok (.aload_n 0, 1) := by decide +kernel
theorem dX11_setGreatest_6 : decode cX11_setGreatest 6 = .ok (.getfield 10, 3) := by decide +kernel
theorem dX11_setGreatest_9 : decode cX11_setGreatest 9 = .ok (.iload_n 1, 1) := by decide +kernel
theorem dX11_setGreatest_10 : decode cX11_setGreatest 10 = .ok (.invokevirtual 116, 3) := by decide +kernel
theorem dX11_setGreatest_13 : decode cX11_setGreatest 13 = .ok (.iload_n 2, 1) := by decide +kernel
theorem dX11_setGreatest_14 : decode cX11_setGreatest 14 = .ok (.invokestatic 79, 3) := by decide +kernel
theorem dX11_setGreatest_17 : decode cX11_setGreatest 17 = .ok (.ifCond .ne 13, 3) := by decide +kernel
theorem dX11_setGreatest_20 : decode cX11_setGreatest 20 = .ok (.new 83, 3) := by decide +kernel
theorem dX11_setGreatest_23 : decode cX11_setGreatest 23 = .ok (.dup, 1) := by decide +kernel
theorem dX11_setGreatest_24 : decode cX11_setGreatest 24 = .ok (.ldc 123, 2) := by decide +kernel
theorem dX11_setGreatest_26 : decode cX11_setGreatest 26 = .ok (.invokespecial 87, 3) := by decide +kernel
theorem dX11_setGreatest_29 : decode cX11_setGreatest 29 = .ok (.athrow, 1) := by decide +kernel
theorem dX11_setGreatest_30 : decode cX11_setGreatest 30 = .ok (.aload_n 0, 1) := by decide +kernel
theorem dX11_setGreatest_31 : decode cX11_setGreatest 31 = .ok (.getfield 10, 3) := by decide +kernel
theorem dX11_setGreatest_34 : decode cX11_setGreatest 34 = .ok (.iload_n 1, 1) := by decide +kernel
theorem dX11_setGreatest_35 : decode cX11_setGreatest 35 = .ok (.invokevirtual 110, 3) := by decide +kernel
theorem dX11_setGreatest_38 : decode cX11_setGreatest 38 = .ok (.istore_n 3, 1) := by decide +kernel
theorem dX11_setGreatest_39 : decode cX11_setGreatest 39 = .ok (.aload_n 0, 1) := by decide +kernel
theorem dX11_setGreatest_40 : decode cX11_setGreatest 40 = .ok (.getfield 10, 3) := by decide +kernel
theorem dX11_setGreatest_43 : decode cX11_setGreatest 43 = .ok (.iload_n 1, 1) := by decide +kernel
theorem dX11_setGreatest_44 : decode cX11_setGreatest 44 = .ok (.aload_n 0, 1) := by decide +kernel
theorem dX11_setGreatest_45 : decode cX11_setGreatest 45 = .ok (.getfield 10, 3) := by decide +kernel
theorem dX11_setGreatest_48 : decode cX11_setGreatest 48 = .ok (.iload_n 1, 1) := by decide +kernel
theorem dX11_setGreatest_49 : decode cX11_setGreatest 49 = .ok (.invokevirtual 116, 3) := by decide +kernel
theorem dX11_setGreatest_52 : decode cX11_setGreatest 52 = .ok (.iload_n 2, 1) := by decide +kernel
theorem dX11_setGreatest_53 : decode cX11_setGreatest 53 = .ok (.invokevirtual 119, 3) := by decide +kernel
theorem dX11_setGreatest_56 : decode cX11_setGreatest 56 = .ok (.aload_n 0, 1) := by decide +kernel
theorem dX11_setGreatest_57 : decode cX11_setGreatest 57 = .ok (.invokevirtual 99, 3) := by decide +kernel
theorem dX11_setGreatest_60 : decode cX11_setGreatest 60 = .ok (.iload_n 3, 1) := by decide +kernel
theorem dX11_setGreatest_61 : decode cX11_setGreatest 61 = .ok (.ireturn, 1) := by decide +kernel
theorem dX11_type_0 : decode cX11_type 0 = .ok (.iload_n 1, 1) := by decide +kernel
theorem dX11_type_1 : decode cX11_type 1 = .ok (.invokestatic 125, 3) := by decide +kernel
theorem dX11_type_4 : decode cX11_type 4 = .ok (.ifCond .ne 13, 3) := by decide +kernel
theorem dX11_type_7 : decode cX11_type 7 = .ok (.new 83, 3) := by decide +kernel
theorem dX11_type_10 : decode cX11_type 10 = .ok (.dup, 1) := by decide +kernel
theorem dX11_type_11 : decode cX11_type 11 = .ok (.ldc 129, 2) := by decide +kernel
theorem dX11_type_13 : decode cX11_type 13 = .ok (.invokespecial 87, 3) := by decide +kernel
theorem dX11_type_16 : decode cX11_type 16 = .ok (.athrow, 1) := by decide +kernel
theorem dX11_type_17 : decode cX11_type 17 = .ok (.aload_n 0, 1) := by decide +kernel
theorem dX11_type_18 : decode cX11_type 18 = .ok (.getfield 19, 3) := by decide +kernel
theorem dX11_type_21 : decode cX11_type 21 = .ok (.getfield 131, 3) := by decide +kernel
theorem dX11_type_24 : decode cX11_type 24 = .ok (.bipush 30, 2) := by decide +kernel
theorem dX11_type_26 : decode cX11_type 26 = .ok (.if_icmp .lt 13, 3) := by decide +kernel
theorem dX11_type_29 : decode cX11_type 29 = .ok (.new 94, 3) := by decide +kernel
theorem dX11_type_32 : decode cX11_type 32 = .ok (.dup, 1) := by decide +kernel
theorem dX11_type_33 : decode cX11_type 33 = .ok (.ldc 134, 2) := by decide +kernel
theorem dX11_type_35 : decode cX11_type 35 = .ok (.invokespecial 98, 3) := by decide +kernel
theorem dX11_type_38 : decode cX11_type 38 = .ok (.athrow, 1) := by decide +kernel
theorem dX11_type_39 : decode cX11_type 39 = .ok (.aload_n 0, 1) := by decide +kernel
theorem dX11_type_40 : decode cX11_type 40 = .ok (.getfield 19, 3) := by decide +kernel
theorem dX11_type_43 : decode cX11_type 43 = .ok (.iload_n 1, 1) := by decide +kernel
theorem dX11_type_44 : decode cX11_type 44 = .ok (.invokevirtual 136, 3) := by decide +kernel
theorem dX11_type_47 : decode cX11_type 47 = .ok (.ireturn, 1) := by decide +kernel
theorem dX11_erase_0 : decode cX11_erase 0 = .ok (.aload_n 0, 1) := by decide +kernel
theorem dX11_erase_1 : decode cX11_erase 1 = .ok (.getfield 19, 3) := by decide +kernel
theorem dX11_erase_4 : decode cX11_erase 4 = .ok (.getfield 131, 3) := by decide +kernel
theorem dX11_erase_7 : decode cX11_erase 7 = .ok (.istore_n 1, 1) := by decide +kernel
theorem dX11_erase_8 : decode cX11_erase 8 = .ok (.aload_n 0, 1) := by decide +kernel
theorem dX11_erase_9 : decode cX11_erase 9 = .ok (.getfield 19, 3) := by decide +kernel
theorem dX11_erase_12 : decode cX11_erase 12 = .ok (.iconst 0, 1) := by decide +kernel
theorem dX11_erase_13 : decode cX11_erase 13 = .ok (.putfield 131, 3) := by decide +kernel
theorem dX11_erase_16 : decode cX11_erase 16 = .ok (.iload_n 1, 1) := by decide +kernel
theorem dX11_erase_17 : decode cX11_erase 17 = .ok (.ireturn, 1) := by decide +kernel
theorem dX11_fault_0 : decode cX11_fault 0 = .ok (.aload_n 0, 1) := by decide +kernel
theorem dX11_fault_1 : decode cX11_fault 1 = .ok (.getfield 19, 3) := by decide +kernel
theorem dX11_fault_4 : decode cX11_fault 4 = .ok (.aload_n 0, 1) := by decide +kernel
theorem dX11_fault_5 : decode cX11_fault 5 = .ok (.getfield 10, 3) := by decide +kernel
theorem dX11_fault_8 : decode cX11_fault 8 = .ok (.getfield 90, 3) := by decide +kernel
theorem dX11_fault_11 : decode cX11_fault 11 = .ok (.invokevirtual 140, 3) := by decide +kernel
theorem dX11_fault_14 : decode cX11_fault 14 = .ok (.aload_n 0, 1) := by decide +kernel
theorem dX11_fault_15 : decode cX11_fault 15 = .ok (.getfield 19, 3) := by decide +kernel
theorem dX11_fault_18 : decode cX11_fault 18 = .ok (.getfield 143, 3) := by decide +kernel
theorem dX11_fault_21 : decode cX11_fault 21 = .ok (.ireturn, 1) := by decide +kernel
theorem dX11_faultAt_0 : decode cX11_faultAt 0 = .ok (.aload_n 0, 1) := by decide +kernel
theorem dX11_faultAt_1 : decode cX11_faultAt 1 = .ok (.getfield 19, 3) := by decide +kernel
theorem dX11_faultAt_4 : decode cX11_faultAt 4 = .ok (.aload_n 0, 1) := by decide +kernel
theorem dX11_faultAt_5 : decode cX11_faultAt 5 = .ok (.getfield 10, 3) := by decide +kernel
theorem dX11_faultAt_8 : decode cX11_faultAt 8 = .ok (.getfield 90, 3) := by decide +kernel
theorem dX11_faultAt_11 : decode cX11_faultAt 11 = .ok (.invokevirtual 140, 3) := by decide +kernel
theorem dX11_faultAt_14 : decode cX11_faultAt 14 = .ok (.aload_n 0, 1) := by decide +kernel
theorem dX11_faultAt_15 : decode cX11_faultAt 15 = .ok (.getfield 19, 3) := by decide +kernel
theorem dX11_faultAt_18 : decode cX11_faultAt 18 = .ok (.invokevirtual 147, 3) := by decide +kernel
theorem dX11_faultAt_21 : decode cX11_faultAt 21 = .ok (.ifCond .ne 13, 3) := by decide +kernel
theorem dX11_faultAt_24 : decode cX11_faultAt 24 = .ok (.new 151, 3) := by decide +kernel
theorem dX11_faultAt_27 : decode cX11_faultAt 27 = .ok (.dup, 1) := by decide +kernel
theorem dX11_faultAt_28 : decode cX11_faultAt 28 = .ok (.ldc 153, 2) := by decide +kernel
theorem dX11_faultAt_30 : decode cX11_faultAt 30 = .ok (.invokespecial 155, 3) := by decide +kernel
theorem dX11_faultAt_33 : decode cX11_faultAt 33 = .ok (.athrow, 1) := by decide +kernel
theorem dX11_faultAt_34 : decode cX11_faultAt 34 = .ok (.aload_n 0, 1) := by decide +kernel
theorem dX11_faultAt_35 : decode cX11_faultAt 35 = .ok (.getfield 19, 3) := by decide +kernel
theorem dX11_faultAt_38 : decode cX11_faultAt 38 = .ok (.getfield 156, 3) := by decide +kernel
theorem dX11_faultAt_41 : decode cX11_faultAt 41 = .ok (.ireturn, 1) := by decide +kernel
theorem dX11_isAim_0 : decode cX11_isAim 0 = .ok (.aload_n 0, 1) := by decide +kernel
theorem dX11_isAim_1 : decode cX11_isAim 1 = .ok (.getfield 19, 3) := by decide +kernel
theorem dX11_isAim_4 : decode cX11_isAim 4 = .ok (.invokevirtual 159, 3) := by decide +kernel
theorem dX11_isAim_7 : decode cX11_isAim 7 = .ok (.ireturn, 1) := by decide +kernel
theorem dX11_tell_0 : decode cX11_tell 0 = .ok (.aload_n 0, 1) := by decide +kernel
theorem dX11_tell_1 : decode cX11_tell 1 = .ok (.getfield 19, 3) := by decide +kernel
theorem dX11_tell_4 : decode cX11_tell 4 = .ok (.aload_n 0, 1) := by decide +kernel
theorem dX11_tell_5 : decode cX11_tell 5 = .ok (.getfield 10, 3) := by decide +kernel
theorem dX11_tell_8 : decode cX11_tell 8 = .ok (.getfield 90, 3) := by decide +kernel
theorem dX11_tell_11 : decode cX11_tell 11 = .ok (.invokevirtual 140, 3) := by decide +kernel
theorem dX11_tell_14 : decode cX11_tell 14 = .ok (.aload_n 0, 1) := by decide +kernel
theorem dX11_tell_15 : decode cX11_tell 15 = .ok (.getfield 19, 3) := by decide +kernel
theorem dX11_tell_18 : decode cX11_tell 18 = .ok (.invokevirtual 147, 3) := by decide +kernel
theorem dX11_tell_21 : decode cX11_tell 21 = .ok (.ifCond .eq 13, 3) := by decide +kernel
theorem dX11_tell_24 : decode cX11_tell 24 = .ok (.new 162, 3) := by decide +kernel
theorem dX11_tell_27 : decode cX11_tell 27 = .ok (.dup, 1) := by decide +kernel
theorem dX11_tell_28 : decode cX11_tell 28 = .ok (.ldc 164, 2) := by decide +kernel
theorem dX11_tell_30 : decode cX11_tell 30 = .ok (.invokespecial 166, 3) := by decide +kernel
theorem dX11_tell_33 : decode cX11_tell 33 = .ok (.athrow, 1) := by decide +kernel
theorem dX11_tell_34 : decode cX11_tell 34 = .ok (.aload_n 0, 1) := by decide +kernel
theorem dX11_tell_35 : decode cX11_tell 35 = .ok (.getfield 19, 3) := by decide +kernel
theorem dX11_tell_38 : decode cX11_tell 38 = .ok (.invokevirtual 159, 3) := by decide +kernel
theorem dX11_tell_41 : decode cX11_tell 41 = .ok (.istore_n 1, 1) := by decide +kernel
theorem dX11_tell_42 : decode cX11_tell 42 = .ok (.iload_n 1, 1) := by decide +kernel
theorem dX11_tell_43 : decode cX11_tell 43 = .ok (.ifCond .eq 16, 3) := by decide +kernel
theorem dX11_tell_46 : decode cX11_tell 46 = .ok (.aload_n 0, 1) := by decide +kernel
theorem dX11_tell_47 : decode cX11_tell 47 = .ok (.getfield 10, 3) := by decide +kernel
theorem dX11_tell_50 : decode cX11_tell 50 = .ok (.invokevirtual 167, 3) := by decide +kernel
theorem dX11_tell_53 : decode cX11_tell 53 = .ok (.ifCond .eq 16, 3) := by decide +kernel
theorem dX11_tell_56 : decode cX11_tell 56 = .ok (.goto 23, 3) := by decide +kernel
theorem dX11_tell_59 : decode cX11_tell 59 = .ok (.aload_n 0, 1) := by decide +kernel
theorem dX11_tell_60 : decode cX11_tell 60 = .ok (.getfield 10, 3) := by decide +kernel
theorem dX11_tell_63 : decode cX11_tell 63 = .ok (.invokevirtual 170, 3) := by decide +kernel
theorem dX11_tell_66 : decode cX11_tell 66 = .ok (.ifCond .ne 13, 3) := by decide +kernel
theorem dX11_tell_69 : decode cX11_tell 69 = .ok (.new 94, 3) := by decide +kernel
theorem dX11_tell_72 : decode cX11_tell 72 = .ok (.dup, 1) := by decide +kernel
theorem dX11_tell_73 : decode cX11_tell 73 = .ok (.ldc 173, 2) := by decide +kernel
theorem dX11_tell_75 : decode cX11_tell 75 = .ok (.invokespecial 98, 3) := by decide +kernel
theorem dX11_tell_78 : decode cX11_tell 78 = .ok (.athrow, 1) := by decide +kernel
theorem dX11_tell_79 : decode cX11_tell 79 = .ok (.aload_n 0, 1) := by decide +kernel
theorem dX11_tell_80 : decode cX11_tell 80 = .ok (.invokevirtual 99, 3) := by decide +kernel
theorem dX11_tell_83 : decode cX11_tell 83 = .ok (.iload_n 1, 1) := by decide +kernel
theorem dX11_tell_84 : decode cX11_tell 84 = .ok (.ifCond .eq 17, 3) := by decide +kernel
theorem dX11_tell_87 : decode cX11_tell 87 = .ok (.aload_n 0, 1) := by decide +kernel
theorem dX11_tell_88 : decode cX11_tell 88 = .ok (.getfield 10, 3) := by decide +kernel
theorem dX11_tell_91 : decode cX11_tell 91 = .ok (.aload_n 0, 1) := by decide +kernel
theorem dX11_tell_92 : decode cX11_tell 92 = .ok (.getfield 19, 3) := by decide +kernel
theorem dX11_tell_95 : decode cX11_tell 95 = .ok (.invokevirtual 175, 3) := by decide +kernel
theorem dX11_tell_98 : decode cX11_tell 98 = .ok (.goto 14, 3) := by decide +kernel
theorem dX11_tell_101 : decode cX11_tell 101 = .ok (.aload_n 0, 1) := by decide +kernel
theorem dX11_tell_102 : decode cX11_tell 102 = .ok (.getfield 10, 3) := by decide +kernel
theorem dX11_tell_105 : decode cX11_tell 105 = .ok (.aload_n 0, 1) := by decide +kernel
theorem dX11_tell_106 : decode cX11_tell 106 = .ok (.getfield 19, 3) := by decide +kernel
theorem dX11_tell_109 : decode cX11_tell 109 = .ok (.invokevirtual 179, 3) := by decide +kernel
theorem dX11_tell_112 : decode cX11_tell 112 = .ok (.istore_n 2, 1) := by decide +kernel
theorem dX11_tell_113 : decode cX11_tell 113 = .ok (.aload_n 0, 1) := by decide +kernel
theorem dX11_tell_114 : decode cX11_tell 114 = .ok (.getfield 19, 3) := by decide +kernel
theorem dX11_tell_117 : decode cX11_tell 117 = .ok (.iconst 0, 1) := by decide +kernel
theorem dX11_tell_118 : decode cX11_tell 118 = .ok (.putfield 131, 3) := by decide +kernel
theorem dX11_tell_121 : decode cX11_tell 121 = .ok (.iload_n 2, 1) := by decide +kernel
theorem dX11_tell_122 : decode cX11_tell 122 = .ok (.ireturn, 1) := by decide +kernel
theorem dX11_dropRow_0 : decode cX11_dropRow 0 = .ok (.aload_n 0, 1) := by decide +kernel
theorem dX11_dropRow_1 : decode cX11_dropRow 1 = .ok (.iload_n 1, 1) := by decide +kernel
theorem dX11_dropRow_2 : decode cX11_dropRow 2 = .ok (.invokevirtual 182, 3) := by decide +kernel
theorem dX11_dropRow_5 : decode cX11_dropRow 5 = .ok (.aload_n 0, 1) := by decide +kernel
theorem dX11_dropRow_6 : decode cX11_dropRow 6 = .ok (.invokevirtual 99, 3) := by decide +kernel
theorem dX11_dropRow_9 : decode cX11_dropRow 9 = .ok (.aload_n 0, 1) := by decide +kernel
theorem dX11_dropRow_10 : decode cX11_dropRow 10 = .ok (.getfield 10, 3) := by decide +kernel
theorem dX11_dropRow_13 : decode cX11_dropRow 13 = .ok (.iload_n 1, 1) := by decide +kernel
theorem dX11_dropRow_14 : decode cX11_dropRow 14 = .ok (.invokevirtual 185, 3) := by decide +kernel
theorem dX11_dropRow_17 : decode cX11_dropRow 17 = .ok (.ireturn, 1) := by decide +kernel
theorem dX11_setNumber_0 : decode cX11_setNumber 0 = .ok (.aload_n 0, 1) := by decide +kernel
theorem dX11_setNumber_1 : decode cX11_setNumber 1 = .ok (.iload_n 1, 1) := by decide +kernel
theorem dX11_setNumber_2 : decode cX11_setNumber 2 = .ok (.invokevirtual 188, 3) := by decide +kernel
theorem dX11_setNumber_5 : decode cX11_setNumber 5 = .ok (.iload_n 2, 1) := by decide +kernel
theorem dX11_setNumber_6 : decode cX11_setNumber 6 = .ok (.bipush (-99), 2) := by decide +kernel
theorem dX11_setNumber_8 : decode cX11_setNumber 8 = .ok (.if_icmp .lt 9, 3) := by decide +kernel
theorem dX11_setNumber_11 : decode cX11_setNumber 11 = .ok (.iload_n 2, 1) := by decide +kernel
theorem dX11_setNumber_12 : decode cX11_setNumber 12 = .ok (.bipush 99, 2) := by decide +kernel
theorem dX11_setNumber_14 : decode cX11_setNumber 14 = .ok (.if_icmp .le 13, 3) := by decide +kernel
theorem dX11_setNumber_17 : decode cX11_setNumber 17 = .ok (.new 83, 3) := by decide +kernel
theorem dX11_setNumber_20 : decode cX11_setNumber 20 = .ok (.dup, 1) := by decide +kernel
theorem dX11_setNumber_21 : decode cX11_setNumber 21 = .ok (.ldc 191, 2) := by decide +kernel
theorem dX11_setNumber_23 : decode cX11_setNumber 23 = .ok (.invokespecial 87, 3) := by decide +kernel
theorem dX11_setNumber_26 : decode cX11_setNumber 26 = .ok (.athrow, 1) := by decide +kernel
theorem dX11_setNumber_27 : decode cX11_setNumber 27 = .ok (.aload_n 0, 1) := by decide +kernel
theorem dX11_setNumber_28 : decode cX11_setNumber 28 = .ok (.iload_n 1, 1) := by decide +kernel
theorem dX11_setNumber_29 : decode cX11_setNumber 29 = .ok (.invokevirtual 182, 3) := by decide +kernel
theorem dX11_setNumber_32 : decode cX11_setNumber 32 = .ok (.aload_n 0, 1) := by decide +kernel
theorem dX11_setNumber_33 : decode cX11_setNumber 33 = .ok (.getfield 10, 3) := by decide +kernel
theorem dX11_setNumber_36 : decode cX11_setNumber 36 = .ok (.iload_n 1, 1) := by decide +kernel
theorem dX11_setNumber_37 : decode cX11_setNumber 37 = .ok (.invokevirtual 193, 3) := by decide +kernel
theorem dX11_setNumber_40 : decode cX11_setNumber 40 = .ok (.istore_n 3, 1) := by decide +kernel
theorem dX11_setNumber_41 : decode cX11_setNumber 41 = .ok (.aload_n 0, 1) := by decide +kernel
theorem dX11_setNumber_42 : decode cX11_setNumber 42 = .ok (.getfield 10, 3) := by decide +kernel
theorem dX11_setNumber_45 : decode cX11_setNumber 45 = .ok (.iload_n 1, 1) := by decide +kernel
theorem dX11_setNumber_46 : decode cX11_setNumber 46 = .ok (.iload_n 2, 1) := by decide +kernel
theorem dX11_setNumber_47 : decode cX11_setNumber 47 = .ok (.invokevirtual 196, 3) := by decide +kernel
theorem dX11_setNumber_50 : decode cX11_setNumber 50 = .ok (.aload_n 0, 1) := by decide +kernel
theorem dX11_setNumber_51 : decode cX11_setNumber 51 = .ok (.invokevirtual 99, 3) := by decide +kernel
theorem dX11_setNumber_54 : decode cX11_setNumber 54 = .ok (.iload_n 3, 1) := by decide +kernel
theorem dX11_setNumber_55 : decode cX11_setNumber 55 = .ok (.ireturn, 1) := by decide +kernel
theorem dX11_dropAims_0 : decode cX11_dropAims 0 = .ok (.aload_n 0, 1) := by decide +kernel
theorem dX11_dropAims_1 : decode cX11_dropAims 1 = .ok (.getfield 10, 3) := by decide +kernel
theorem dX11_dropAims_4 : decode cX11_dropAims 4 = .ok (.getfield 200, 3) := by decide +kernel
theorem dX11_dropAims_7 : decode cX11_dropAims 7 = .ok (.istore_n 1, 1) := by decide +kernel
theorem dX11_dropAims_8 : decode cX11_dropAims 8 = .ok (.aload_n 0, 1) := by decide +kernel
theorem dX11_dropAims_9 : decode cX11_dropAims 9 = .ok (.getfield 10, 3) := by decide +kernel
theorem dX11_dropAims_12 : decode cX11_dropAims 12 = .ok (.iconst 0, 1) := by decide +kernel
theorem dX11_dropAims_13 : decode cX11_dropAims 13 = .ok (.putfield 200, 3) := by decide +kernel
theorem dX11_dropAims_16 : decode cX11_dropAims 16 = .ok (.aload_n 0, 1) := by decide +kernel
theorem dX11_dropAims_17 : decode cX11_dropAims 17 = .ok (.invokevirtual 99, 3) := by decide +kernel
theorem dX11_dropAims_20 : decode cX11_dropAims 20 = .ok (.iload_n 1, 1) := by decide +kernel
theorem dX11_dropAims_21 : decode cX11_dropAims 21 = .ok (.ireturn, 1) := by decide +kernel
theorem dX11_coefficient_0 : decode cX11_coefficient 0 = .ok (.aload_n 0, 1) := by decide +kernel
theorem dX11_coefficient_1 : decode cX11_coefficient 1 = .ok (.iload_n 1, 1) := by decide +kernel
theorem dX11_coefficient_2 : decode cX11_coefficient 2 = .ok (.invokevirtual 188, 3) := by decide +kernel
theorem dX11_coefficient_5 : decode cX11_coefficient 5 = .ok (.aload_n 0, 1) := by decide +kernel
theorem dX11_coefficient_6 : decode cX11_coefficient 6 = .ok (.iload_n 2, 1) := by decide +kernel
theorem dX11_coefficient_7 : decode cX11_coefficient 7 = .ok (.invokevirtual 106, 3) := by decide +kernel
theorem dX11_coefficient_10 : decode cX11_coefficient 10 = .ok (.aload_n 0, 1) := by decide +kernel
theorem dX11_coefficient_11 : decode cX11_coefficient 11 = .ok (.getfield 10, 3) := by decide +kernel
theorem dX11_coefficient_14 : decode cX11_coefficient 14 = .ok (.iload_n 1, 1) := by decide +kernel
theorem dX11_coefficient_15 : decode cX11_coefficient 15 = .ok (.iload_n 2, 1) := by decide +kernel
theorem dX11_coefficient_16 : decode cX11_coefficient 16 = .ok (.invokevirtual 203, 3) := by decide +kernel
theorem dX11_coefficient_19 : decode cX11_coefficient 19 = .ok (.ireturn, 1) := by decide +kernel
theorem dX11_relation_0 : decode cX11_relation 0 = .ok (.aload_n 0, 1) := by decide +kernel
theorem dX11_relation_1 : decode cX11_relation 1 = .ok (.iload_n 1, 1) := by decide +kernel
theorem dX11_relation_2 : decode cX11_relation 2 = .ok (.invokevirtual 188, 3) := by decide +kernel
theorem dX11_relation_5 : decode cX11_relation 5 = .ok (.aload_n 0, 1) := by decide +kernel
theorem dX11_relation_6 : decode cX11_relation 6 = .ok (.getfield 10, 3) := by decide +kernel
theorem dX11_relation_9 : decode cX11_relation 9 = .ok (.iload_n 1, 1) := by decide +kernel
theorem dX11_relation_10 : decode cX11_relation 10 = .ok (.invokevirtual 206, 3) := by decide +kernel
theorem dX11_relation_13 : decode cX11_relation 13 = .ok (.ireturn, 1) := by decide +kernel
theorem dX11_lineLength_0 : decode cX11_lineLength 0 = .ok (.aload_n 0, 1) := by decide +kernel
theorem dX11_lineLength_1 : decode cX11_lineLength 1 = .ok (.iload_n 1, 1) := by decide +kernel
theorem dX11_lineLength_2 : decode cX11_lineLength 2 = .ok (.invokevirtual 188, 3) := by decide +kernel
theorem dX11_lineLength_5 : decode cX11_lineLength 5 = .ok (.aload_n 0, 1) := by decide +kernel
theorem dX11_lineLength_6 : decode cX11_lineLength 6 = .ok (.getfield 26, 3) := by decide +kernel
theorem dX11_lineLength_9 : decode cX11_lineLength 9 = .ok (.aload_n 0, 1) := by decide +kernel
theorem dX11_lineLength_10 : decode cX11_lineLength 10 = .ok (.getfield 10, 3) := by decide +kernel
theorem dX11_lineLength_13 : decode cX11_lineLength 13 = .ok (.iload_n 1, 1) := by decide +kernel
theorem dX11_lineLength_14 : decode cX11_lineLength 14 = .ok (.invokevirtual 210, 3) := by decide +kernel
theorem dX11_lineLength_17 : decode cX11_lineLength 17 = .ok (.aload_n 0, 1) := by decide +kernel
theorem dX11_lineLength_18 : decode cX11_lineLength 18 = .ok (.getfield 26, 3) := by decide +kernel
theorem dX11_lineLength_21 : decode cX11_lineLength 21 = .ok (.getfield 214, 3) := by decide +kernel
theorem dX11_lineLength_24 : decode cX11_lineLength 24 = .ok (.ireturn, 1) := by decide +kernel
theorem dX11_lineAt_0 : decode cX11_lineAt 0 = .ok (.aload_n 0, 1) := by decide +kernel
theorem dX11_lineAt_1 : decode cX11_lineAt 1 = .ok (.iload_n 1, 1) := by decide +kernel
theorem dX11_lineAt_2 : decode cX11_lineAt 2 = .ok (.invokevirtual 188, 3) := by decide +kernel
theorem dX11_lineAt_5 : decode cX11_lineAt 5 = .ok (.aload_n 0, 1) := by decide +kernel
theorem dX11_lineAt_6 : decode cX11_lineAt 6 = .ok (.getfield 26, 3) := by decide +kernel
theorem dX11_lineAt_9 : decode cX11_lineAt 9 = .ok (.aload_n 0, 1) := by decide +kernel
theorem dX11_lineAt_10 : decode cX11_lineAt 10 = .ok (.getfield 10, 3) := by decide +kernel
theorem dX11_lineAt_13 : decode cX11_lineAt 13 = .ok (.iload_n 1, 1) := by decide +kernel
theorem dX11_lineAt_14 : decode cX11_lineAt 14 = .ok (.invokevirtual 210, 3) := by decide +kernel
theorem dX11_lineAt_17 : decode cX11_lineAt 17 = .ok (.iload_n 2, 1) := by decide +kernel
theorem dX11_lineAt_18 : decode cX11_lineAt 18 = .ok (.ifCond .lt 14, 3) := by decide +kernel
theorem dX11_lineAt_21 : decode cX11_lineAt 21 = .ok (.iload_n 2, 1) := by decide +kernel
theorem dX11_lineAt_22 : decode cX11_lineAt 22 = .ok (.aload_n 0, 1) := by decide +kernel
theorem dX11_lineAt_23 : decode cX11_lineAt 23 = .ok (.getfield 26, 3) := by decide +kernel
theorem dX11_lineAt_26 : decode cX11_lineAt 26 = .ok (.getfield 214, 3) := by decide +kernel
theorem dX11_lineAt_29 : decode cX11_lineAt 29 = .ok (.if_icmp .lt 13, 3) := by decide +kernel
theorem dX11_lineAt_32 : decode cX11_lineAt 32 = .ok (.new 215, 3) := by decide +kernel
theorem dX11_lineAt_35 : decode cX11_lineAt 35 = .ok (.dup, 1) := by decide +kernel
theorem dX11_lineAt_36 : decode cX11_lineAt 36 = .ok (.ldc 217, 2) := by decide +kernel
theorem dX11_lineAt_38 : decode cX11_lineAt 38 = .ok (.invokespecial 219, 3) := by decide +kernel
theorem dX11_lineAt_41 : decode cX11_lineAt 41 = .ok (.athrow, 1) := by decide +kernel
theorem dX11_lineAt_42 : decode cX11_lineAt 42 = .ok (.aload_n 0, 1) := by decide +kernel
theorem dX11_lineAt_43 : decode cX11_lineAt 43 = .ok (.getfield 26, 3) := by decide +kernel
theorem dX11_lineAt_46 : decode cX11_lineAt 46 = .ok (.iload_n 2, 1) := by decide +kernel
theorem dX11_lineAt_47 : decode cX11_lineAt 47 = .ok (.invokevirtual 220, 3) := by decide +kernel
theorem dX11_lineAt_50 : decode cX11_lineAt 50 = .ok (.ireturn, 1) := by decide +kernel
theorem dX11_state_0 : decode cX11_state 0 = .ok (.aload_n 0, 1) := by decide +kernel
theorem dX11_state_1 : decode cX11_state 1 = .ok (.getfield 35, 3) := by decide +kernel
theorem dX11_state_4 : decode cX11_state 4 = .ok (.invokevirtual 223, 3) := by decide +kernel
theorem dX11_state_7 : decode cX11_state 7 = .ok (.aload_n 0, 1) := by decide +kernel
theorem dX11_state_8 : decode cX11_state 8 = .ok (.getfield 35, 3) := by decide +kernel
theorem dX11_state_11 : decode cX11_state 11 = .ok (.getfield 226, 3) := by decide +kernel
theorem dX11_state_14 : decode cX11_state 14 = .ok (.ireturn, 1) := by decide +kernel
theorem dX11_open_0 : decode cX11_open 0 = .ok (.aload_n 0, 1) := by decide +kernel
theorem dX11_open_1 : decode cX11_open 1 = .ok (.getfield 35, 3) := by decide +kernel
theorem dX11_open_4 : decode cX11_open 4 = .ok (.invokevirtual 223, 3) := by decide +kernel
theorem dX11_open_7 : decode cX11_open 7 = .ok (.aload_n 0, 1) := by decide +kernel
theorem dX11_open_8 : decode cX11_open 8 = .ok (.getfield 35, 3) := by decide +kernel
theorem dX11_open_11 : decode cX11_open 11 = .ok (.getfield 226, 3) := by decide +kernel
theorem dX11_open_14 : decode cX11_open 14 = .ok (.bipush 117, 2) := by decide +kernel
theorem dX11_open_16 : decode cX11_open 16 = .ok (.if_icmp .eq 13, 3) := by decide +kernel
theorem dX11_open_19 : decode cX11_open 19 = .ok (.new 151, 3) := by decide +kernel
theorem dX11_open_22 : decode cX11_open 22 = .ok (.dup, 1) := by decide +kernel
theorem dX11_open_23 : decode cX11_open 23 = .ok (.ldc 229, 2) := by decide +kernel
theorem dX11_open_25 : decode cX11_open 25 = .ok (.invokespecial 155, 3) := by decide +kernel
theorem dX11_open_28 : decode cX11_open 28 = .ok (.athrow, 1) := by decide +kernel
theorem dX11_open_29 : decode cX11_open 29 = .ok (.aload_n 0, 1) := by decide +kernel
theorem dX11_open_30 : decode cX11_open 30 = .ok (.getfield 35, 3) := by decide +kernel
theorem dX11_open_33 : decode cX11_open 33 = .ok (.getfield 231, 3) := by decide +kernel
theorem dX11_open_36 : decode cX11_open 36 = .ok (.ireturn, 1) := by decide +kernel
theorem dX11_valueTop_0 : decode cX11_valueTop 0 = .ok (.aload_n 0, 1) := by decide +kernel
theorem dX11_valueTop_1 : decode cX11_valueTop 1 = .ok (.iload_n 1, 1) := by decide +kernel
theorem dX11_valueTop_2 : decode cX11_valueTop 2 = .ok (.invokevirtual 234, 3) := by decide +kernel
theorem dX11_valueTop_5 : decode cX11_valueTop 5 = .ok (.aload_n 0, 1) := by decide +kernel
theorem dX11_valueTop_6 : decode cX11_valueTop 6 = .ok (.getfield 68, 3) := by decide +kernel
theorem dX11_valueTop_9 : decode cX11_valueTop 9 = .ok (.getfield 237, 3) := by decide +kernel
theorem dX11_valueTop_12 : decode cX11_valueTop 12 = .ok (.lreturn, 1) := by decide +kernel
theorem dX11_valueBottom_0 : decode cX11_valueBottom 0 = .ok (.aload_n 0, 1) := by decide +kernel
theorem dX11_valueBottom_1 : decode cX11_valueBottom 1 = .ok (.iload_n 1, 1) := by decide +kernel
theorem dX11_valueBottom_2 : decode cX11_valueBottom 2 = .ok (.invokevirtual 234, 3) := by decide +kernel
theorem dX11_valueBottom_5 : decode cX11_valueBottom 5 = .ok (.aload_n 0, 1) := by decide +kernel
theorem dX11_valueBottom_6 : decode cX11_valueBottom 6 = .ok (.getfield 68, 3) := by decide +kernel
theorem dX11_valueBottom_9 : decode cX11_valueBottom 9 = .ok (.getfield 241, 3) := by decide +kernel
theorem dX11_valueBottom_12 : decode cX11_valueBottom 12 = .ok (.lreturn, 1) := by decide +kernel
theorem dX11_topByPoints_0 : decode cX11_topByPoints 0 = .ok (.aload_n 0, 1) := by decide +kernel
theorem dX11_topByPoints_1 : decode cX11_topByPoints 1 = .ok (.iload_n 1, 1) := by decide +kernel
theorem dX11_topByPoints_2 : decode cX11_topByPoints 2 = .ok (.invokevirtual 244, 3) := by decide +kernel
theorem dX11_topByPoints_5 : decode cX11_topByPoints 5 = .ok (.aload_n 0, 1) := by decide +kernel
theorem dX11_topByPoints_6 : decode cX11_topByPoints 6 = .ok (.invokevirtual 247, 3) := by decide +kernel
theorem dX11_topByPoints_9 : decode cX11_topByPoints 9 = .ok (.aload_n 0, 1) := by decide +kernel
theorem dX11_topByPoints_10 : decode cX11_topByPoints 10 = .ok (.getfield 54, 3) := by decide +kernel
theorem dX11_topByPoints_13 : decode cX11_topByPoints 13 = .ok (.invokevirtual 250, 3) := by decide +kernel
theorem dX11_topByPoints_16 : decode cX11_topByPoints 16 = .ok (.aload_n 0, 1) := by decide +kernel
theorem dX11_topByPoints_17 : decode cX11_topByPoints 17 = .ok (.getfield 68, 3) := by decide +kernel
theorem dX11_topByPoints_20 : decode cX11_topByPoints 20 = .ok (.aload_n 0, 1) := by decide +kernel
theorem dX11_topByPoints_21 : decode cX11_topByPoints 21 = .ok (.getfield 10, 3) := by decide +kernel
theorem dX11_topByPoints_24 : decode cX11_topByPoints 24 = .ok (.iload_n 1, 1) := by decide +kernel
theorem dX11_topByPoints_25 : decode cX11_topByPoints 25 = .ok (.aload_n 0, 1) := by decide +kernel
theorem dX11_topByPoints_26 : decode cX11_topByPoints 26 = .ok (.getfield 54, 3) := by decide +kernel
theorem dX11_topByPoints_29 : decode cX11_topByPoints 29 = .ok (.getfield 253, 3) := by decide +kernel
theorem dX11_topByPoints_32 : decode cX11_topByPoints 32 = .ok (.invokevirtual 257, 3) := by decide +kernel
theorem dX11_topByPoints_35 : decode cX11_topByPoints 35 = .ok (.aload_n 0, 1) := by decide +kernel
theorem dX11_topByPoints_36 : decode cX11_topByPoints 36 = .ok (.getfield 54, 3) := by decide +kernel
theorem dX11_topByPoints_39 : decode cX11_topByPoints 39 = .ok (.getfield 253, 3) := by decide +kernel
theorem dX11_topByPoints_42 : decode cX11_topByPoints 42 = .ok (.getfield 261, 3) := by decide +kernel
theorem dX11_topByPoints_45 : decode cX11_topByPoints 45 = .ok (.invokevirtual 262, 3) := by decide +kernel
theorem dX11_topByPoints_48 : decode cX11_topByPoints 48 = .ok (.aload_n 0, 1) := by decide +kernel
theorem dX11_topByPoints_49 : decode cX11_topByPoints 49 = .ok (.getfield 68, 3) := by decide +kernel
theorem dX11_topByPoints_52 : decode cX11_topByPoints 52 = .ok (.getfield 237, 3) := by decide +kernel
theorem dX11_topByPoints_55 : decode cX11_topByPoints 55 = .ok (.lreturn, 1) := by decide +kernel
theorem dX11_pointTop_0 : decode cX11_pointTop 0 = .ok (.aload_n 0, 1) := by decide +kernel
theorem dX11_pointTop_1 : decode cX11_pointTop 1 = .ok (.iload_n 1, 1) := by decide +kernel
theorem dX11_pointTop_2 : decode cX11_pointTop 2 = .ok (.invokevirtual 266, 3) := by decide +kernel
theorem dX11_pointTop_5 : decode cX11_pointTop 5 = .ok (.aload_n 0, 1) := by decide +kernel
theorem dX11_pointTop_6 : decode cX11_pointTop 6 = .ok (.getfield 68, 3) := by decide +kernel
theorem dX11_pointTop_9 : decode cX11_pointTop 9 = .ok (.getfield 237, 3) := by decide +kernel
theorem dX11_pointTop_12 : decode cX11_pointTop 12 = .ok (.lreturn, 1) := by decide +kernel
theorem dX11_pointBottom_0 : decode cX11_pointBottom 0 = .ok (.aload_n 0, 1) := by decide +kernel
theorem dX11_pointBottom_1 : decode cX11_pointBottom 1 = .ok (.iload_n 1, 1) := by decide +kernel
theorem dX11_pointBottom_2 : decode cX11_pointBottom 2 = .ok (.invokevirtual 266, 3) := by decide +kernel
theorem dX11_pointBottom_5 : decode cX11_pointBottom 5 = .ok (.aload_n 0, 1) := by decide +kernel
theorem dX11_pointBottom_6 : decode cX11_pointBottom 6 = .ok (.getfield 68, 3) := by decide +kernel
theorem dX11_pointBottom_9 : decode cX11_pointBottom 9 = .ok (.getfield 241, 3) := by decide +kernel
theorem dX11_pointBottom_12 : decode cX11_pointBottom 12 = .ok (.lreturn, 1) := by decide +kernel
theorem dX11_isTight_0 : decode cX11_isTight 0 = .ok (.aload_n 0, 1) := by decide +kernel
theorem dX11_isTight_1 : decode cX11_isTight 1 = .ok (.iload_n 1, 1) := by decide +kernel
theorem dX11_isTight_2 : decode cX11_isTight 2 = .ok (.invokevirtual 182, 3) := by decide +kernel
theorem dX11_isTight_5 : decode cX11_isTight 5 = .ok (.aload_n 0, 1) := by decide +kernel
theorem dX11_isTight_6 : decode cX11_isTight 6 = .ok (.invokevirtual 247, 3) := by decide +kernel
theorem dX11_isTight_9 : decode cX11_isTight 9 = .ok (.aload_n 0, 1) := by decide +kernel
theorem dX11_isTight_10 : decode cX11_isTight 10 = .ok (.getfield 10, 3) := by decide +kernel
theorem dX11_isTight_13 : decode cX11_isTight 13 = .ok (.iload_n 1, 1) := by decide +kernel
theorem dX11_isTight_14 : decode cX11_isTight 14 = .ok (.aload_n 0, 1) := by decide +kernel
theorem dX11_isTight_15 : decode cX11_isTight 15 = .ok (.getfield 35, 3) := by decide +kernel
theorem dX11_isTight_18 : decode cX11_isTight 18 = .ok (.getfield 269, 3) := by decide +kernel
theorem dX11_isTight_21 : decode cX11_isTight 21 = .ok (.invokevirtual 272, 3) := by decide +kernel
theorem dX11_isTight_24 : decode cX11_isTight 24 = .ok (.ifCond .ne 7, 3) := by decide +kernel
theorem dX11_isTight_27 : decode cX11_isTight 27 = .ok (.iconst 1, 1) := by decide +kernel
theorem dX11_isTight_28 : decode cX11_isTight 28 = .ok (.goto 4, 3) := by decide +kernel
theorem dX11_isTight_31 : decode cX11_isTight 31 = .ok (.iconst 0, 1) := by decide +kernel
theorem dX11_isTight_32 : decode cX11_isTight 32 = .ok (.ireturn, 1) := by decide +kernel
theorem dX11_tight_0 : decode cX11_tight 0 = .ok (.aload_n 0, 1) := by decide +kernel
theorem dX11_tight_1 : decode cX11_tight 1 = .ok (.invokevirtual 247, 3) := by decide +kernel
theorem dX11_tight_4 : decode cX11_tight 4 = .ok (.aload_n 0, 1) := by decide +kernel
theorem dX11_tight_5 : decode cX11_tight 5 = .ok (.getfield 10, 3) := by decide +kernel
theorem dX11_tight_8 : decode cX11_tight 8 = .ok (.aload_n 0, 1) := by decide +kernel
theorem dX11_tight_9 : decode cX11_tight 9 = .ok (.getfield 35, 3) := by decide +kernel
theorem dX11_tight_12 : decode cX11_tight 12 = .ok (.getfield 269, 3) := by decide +kernel
theorem dX11_tight_15 : decode cX11_tight 15 = .ok (.invokevirtual 276, 3) := by decide +kernel
theorem dX11_tight_18 : decode cX11_tight 18 = .ok (.aload_n 0, 1) := by decide +kernel
theorem dX11_tight_19 : decode cX11_tight 19 = .ok (.getfield 10, 3) := by decide +kernel
theorem dX11_tight_22 : decode cX11_tight 22 = .ok (.aload_n 0, 1) := by decide +kernel
theorem dX11_tight_23 : decode cX11_tight 23 = .ok (.getfield 35, 3) := by decide +kernel
theorem dX11_tight_26 : decode cX11_tight 26 = .ok (.getfield 269, 3) := by decide +kernel
theorem dX11_tight_29 : decode cX11_tight 29 = .ok (.invokevirtual 280, 3) := by decide +kernel
theorem dX11_tight_32 : decode cX11_tight 32 = .ok (.iadd, 1) := by decide +kernel
theorem dX11_tight_33 : decode cX11_tight 33 = .ok (.ireturn, 1) := by decide +kernel
theorem dX11_isProved_0 : decode cX11_isProved 0 = .ok (.aload_n 0, 1) := by decide +kernel
theorem dX11_isProved_1 : decode cX11_isProved 1 = .ok (.getfield 35, 3) := by decide +kernel
theorem dX11_isProved_4 : decode cX11_isProved 4 = .ok (.invokevirtual 223, 3) := by decide +kernel
theorem dX11_isProved_7 : decode cX11_isProved 7 = .ok (.aload_n 0, 1) := by decide +kernel
theorem dX11_isProved_8 : decode cX11_isProved 8 = .ok (.getfield 10, 3) := by decide +kernel
theorem dX11_isProved_11 : decode cX11_isProved 11 = .ok (.getfield 200, 3) := by decide +kernel
theorem dX11_isProved_14 : decode cX11_isProved 14 = .ok (.ifCond .eq 13, 3) := by decide +kernel
theorem dX11_isProved_17 : decode cX11_isProved 17 = .ok (.aload_n 0, 1) := by decide +kernel
theorem dX11_isProved_18 : decode cX11_isProved 18 = .ok (.getfield 47, 3) := by decide +kernel
theorem dX11_isProved_21 : decode cX11_isProved 21 = .ok (.invokevirtual 283, 3) := by decide +kernel
theorem dX11_isProved_24 : decode cX11_isProved 24 = .ok (.ifCond .eq 7, 3) := by decide +kernel
theorem dX11_isProved_27 : decode cX11_isProved 27 = .ok (.iconst 1, 1) := by decide +kernel
theorem dX11_isProved_28 : decode cX11_isProved 28 = .ok (.goto 4, 3) := by decide +kernel
theorem dX11_isProved_31 : decode cX11_isProved 31 = .ok (.iconst 0, 1) := by decide +kernel
theorem dX11_isProved_32 : decode cX11_isProved 32 = .ok (.ireturn, 1) := by decide +kernel
theorem dX11_worthTop_0 : decode cX11_worthTop 0 = .ok (.aload_n 0, 1) := by decide +kernel
theorem dX11_worthTop_1 : decode cX11_worthTop 1 = .ok (.iload_n 1, 1) := by decide +kernel
theorem dX11_worthTop_2 : decode cX11_worthTop 2 = .ok (.invokevirtual 286, 3) := by decide +kernel
theorem dX11_worthTop_5 : decode cX11_worthTop 5 = .ok (.aload_n 0, 1) := by decide +kernel
theorem dX11_worthTop_6 : decode cX11_worthTop 6 = .ok (.getfield 68, 3) := by decide +kernel
theorem dX11_worthTop_9 : decode cX11_worthTop 9 = .ok (.getfield 237, 3) := by decide +kernel
theorem dX11_worthTop_12 : decode cX11_worthTop 12 = .ok (.lreturn, 1) := by decide +kernel
theorem dX11_worthBottom_0 : decode cX11_worthBottom 0 = .ok (.aload_n 0, 1) := by decide +kernel
theorem dX11_worthBottom_1 : decode cX11_worthBottom 1 = .ok (.iload_n 1, 1) := by decide +kernel
theorem dX11_worthBottom_2 : decode cX11_worthBottom 2 = .ok (.invokevirtual 286, 3) := by decide +kernel
theorem dX11_worthBottom_5 : decode cX11_worthBottom 5 = .ok (.aload_n 0, 1) := by decide +kernel
theorem dX11_worthBottom_6 : decode cX11_worthBottom 6 = .ok (.getfield 68, 3) := by decide +kernel
theorem dX11_worthBottom_9 : decode cX11_worthBottom 9 = .ok (.getfield 241, 3) := by decide +kernel
theorem dX11_worthBottom_12 : decode cX11_worthBottom 12 = .ok (.lreturn, 1) := by decide +kernel
theorem dX11_conflict_0 : decode cX11_conflict 0 = .ok (.aload_n 0, 1) := by decide +kernel
theorem dX11_conflict_1 : decode cX11_conflict 1 = .ok (.getfield 35, 3) := by decide +kernel
theorem dX11_conflict_4 : decode cX11_conflict 4 = .ok (.invokevirtual 223, 3) := by decide +kernel
theorem dX11_conflict_7 : decode cX11_conflict 7 = .ok (.aload_n 0, 1) := by decide +kernel
theorem dX11_conflict_8 : decode cX11_conflict 8 = .ok (.getfield 35, 3) := by decide +kernel
theorem dX11_conflict_11 : decode cX11_conflict 11 = .ok (.getfield 226, 3) := by decide +kernel
theorem dX11_conflict_14 : decode cX11_conflict 14 = .ok (.bipush 105, 2) := by decide +kernel
theorem dX11_conflict_16 : decode cX11_conflict 16 = .ok (.if_icmp .eq 14, 3) := by decide +kernel
theorem dX11_conflict_19 : decode cX11_conflict 19 = .ok (.new 94, 3) := by decide +kernel
theorem dX11_conflict_22 : decode cX11_conflict 22 = .ok (.dup, 1) := by decide +kernel
theorem dX11_conflict_23 : decode cX11_conflict 23 = .ok (.ldc_w 289, 3) := by decide +kernel
theorem dX11_conflict_26 : decode cX11_conflict 26 = .ok (.invokespecial 98, 3) := by decide +kernel
theorem dX11_conflict_29 : decode cX11_conflict 29 = .ok (.athrow, 1) := by decide +kernel
theorem dX11_conflict_30 : decode cX11_conflict 30 = .ok (.iconst 0, 1) := by decide +kernel
theorem dX11_conflict_31 : decode cX11_conflict 31 = .ok (.istore_n 1, 1) := by decide +kernel
theorem dX11_conflict_32 : decode cX11_conflict 32 = .ok (.iconst 0, 1) := by decide +kernel
theorem dX11_conflict_33 : decode cX11_conflict 33 = .ok (.istore_n 2, 1) := by decide +kernel
theorem dX11_conflict_34 : decode cX11_conflict 34 = .ok (.iconst 0, 1) := by decide +kernel
theorem dX11_conflict_35 : decode cX11_conflict 35 = .ok (.istore_n 3, 1) := by decide +kernel
theorem dX11_conflict_36 : decode cX11_conflict 36 = .ok (.iload_n 3, 1) := by decide +kernel
theorem dX11_conflict_37 : decode cX11_conflict 37 = .ok (.aload_n 0, 1) := by decide +kernel
theorem dX11_conflict_38 : decode cX11_conflict 38 = .ok (.getfield 10, 3) := by decide +kernel
theorem dX11_conflict_41 : decode cX11_conflict 41 = .ok (.getfield 291, 3) := by decide +kernel
theorem dX11_conflict_44 : decode cX11_conflict 44 = .ok (.if_icmp .ge 52, 3) := by decide +kernel
theorem dX11_conflict_47 : decode cX11_conflict 47 = .ok (.aload_n 0, 1) := by decide +kernel
theorem dX11_conflict_48 : decode cX11_conflict 48 = .ok (.getfield 10, 3) := by decide +kernel
theorem dX11_conflict_51 : decode cX11_conflict 51 = .ok (.iload_n 3, 1) := by decide +kernel
theorem dX11_conflict_52 : decode cX11_conflict 52 = .ok (.invokevirtual 294, 3) := by decide +kernel
theorem dX11_conflict_55 : decode cX11_conflict 55 = .ok (.ifCond .eq 35, 3) := by decide +kernel
theorem dX11_conflict_58 : decode cX11_conflict 58 = .ok (.iconst 1, 1) := by decide +kernel
theorem dX11_conflict_59 : decode cX11_conflict 59 = .ok (.iload_n 3, 1) := by decide +kernel
theorem dX11_conflict_60 : decode cX11_conflict 60 = .ok (.ishl, 1) := by decide +kernel
theorem dX11_conflict_61 : decode cX11_conflict 61 = .ok (.istore 4, 2) := by decide +kernel
theorem dX11_conflict_63 : decode cX11_conflict 63 = .ok (.aload_n 0, 1) := by decide +kernel
theorem dX11_conflict_64 : decode cX11_conflict 64 = .ok (.getfield 39, 3) := by decide +kernel
theorem dX11_conflict_67 : decode cX11_conflict 67 = .ok (.iload_n 1, 1) := by decide +kernel
theorem dX11_conflict_68 : decode cX11_conflict 68 = .ok (.iload 4, 2) := by decide +kernel
theorem dX11_conflict_70 : decode cX11_conflict 70 = .ok (.ior, 1) := by decide +kernel
theorem dX11_conflict_71 : decode cX11_conflict 71 = .ok (.invokevirtual 298, 3) := by decide +kernel
theorem dX11_conflict_74 : decode cX11_conflict 74 = .ok (.ifCond .eq 11, 3) := by decide +kernel
theorem dX11_conflict_77 : decode cX11_conflict 77 = .ok (.iload_n 2, 1) := by decide +kernel
theorem dX11_conflict_78 : decode cX11_conflict 78 = .ok (.iload 4, 2) := by decide +kernel
theorem dX11_conflict_80 : decode cX11_conflict 80 = .ok (.ior, 1) := by decide +kernel
theorem dX11_conflict_81 : decode cX11_conflict 81 = .ok (.istore_n 2, 1) := by decide +kernel
theorem dX11_conflict_82 : decode cX11_conflict 82 = .ok (.goto 8, 3) := by decide +kernel
theorem dX11_conflict_85 : decode cX11_conflict 85 = .ok (.iload_n 1, 1) := by decide +kernel
theorem dX11_conflict_86 : decode cX11_conflict 86 = .ok (.iload 4, 2) := by decide +kernel
theorem dX11_conflict_88 : decode cX11_conflict 88 = .ok (.ior, 1) := by decide +kernel
theorem dX11_conflict_89 : decode cX11_conflict 89 = .ok (.istore_n 1, 1) := by decide +kernel
theorem dX11_conflict_90 : decode cX11_conflict 90 = .ok (.iinc 3 1, 3) := by decide +kernel
theorem dX11_conflict_93 : decode cX11_conflict 93 = .ok (.goto (-57), 3) := by decide +kernel
theorem dX11_conflict_96 : decode cX11_conflict 96 = .ok (.iload_n 2, 1) := by decide +kernel
theorem dX11_conflict_97 : decode cX11_conflict 97 = .ok (.ireturn, 1) := by decide +kernel
theorem dX11_wholeAt_0 : decode cX11_wholeAt 0 = .ok (.aload_n 0, 1) := by decide +kernel
theorem dX11_wholeAt_1 : decode cX11_wholeAt 1 = .ok (.iload_n 1, 1) := by decide +kernel
theorem dX11_wholeAt_2 : decode cX11_wholeAt 2 = .ok (.invokevirtual 106, 3) := by decide +kernel
theorem dX11_wholeAt_5 : decode cX11_wholeAt 5 = .ok (.aload_n 0, 1) := by decide +kernel
theorem dX11_wholeAt_6 : decode cX11_wholeAt 6 = .ok (.invokevirtual 301, 3) := by decide +kernel
theorem dX11_wholeAt_9 : decode cX11_wholeAt 9 = .ok (.aload_n 0, 1) := by decide +kernel
theorem dX11_wholeAt_10 : decode cX11_wholeAt 10 = .ok (.getfield 61, 3) := by decide +kernel
theorem dX11_wholeAt_13 : decode cX11_wholeAt 13 = .ok (.getfield 304, 3) := by decide +kernel
theorem dX11_wholeAt_16 : decode cX11_wholeAt 16 = .ok (.iload_n 1, 1) := by decide +kernel
theorem dX11_wholeAt_17 : decode cX11_wholeAt 17 = .ok (.invokevirtual 305, 3) := by decide +kernel
theorem dX11_wholeAt_20 : decode cX11_wholeAt 20 = .ok (.l2i, 1) := by decide +kernel
theorem dX11_wholeAt_21 : decode cX11_wholeAt 21 = .ok (.ireturn, 1) := by decide +kernel
theorem dX11_wholeValue_0 : decode cX11_wholeValue 0 = .ok (.aload_n 0, 1) := by decide +kernel
theorem dX11_wholeValue_1 : decode cX11_wholeValue 1 = .ok (.iload_n 1, 1) := by decide +kernel
theorem dX11_wholeValue_2 : decode cX11_wholeValue 2 = .ok (.invokevirtual 244, 3) := by decide +kernel
theorem dX11_wholeValue_5 : decode cX11_wholeValue 5 = .ok (.aload_n 0, 1) := by decide +kernel
theorem dX11_wholeValue_6 : decode cX11_wholeValue 6 = .ok (.invokevirtual 301, 3) := by decide +kernel
theorem dX11_wholeValue_9 : decode cX11_wholeValue 9 = .ok (.aload_n 0, 1) := by decide +kernel
theorem dX11_wholeValue_10 : decode cX11_wholeValue 10 = .ok (.getfield 10, 3) := by decide +kernel
theorem dX11_wholeValue_13 : decode cX11_wholeValue 13 = .ok (.iload_n 1, 1) := by decide +kernel
theorem dX11_wholeValue_14 : decode cX11_wholeValue 14 = .ok (.aload_n 0, 1) := by decide +kernel
theorem dX11_wholeValue_15 : decode cX11_wholeValue 15 = .ok (.getfield 61, 3) := by decide +kernel
theorem dX11_wholeValue_18 : decode cX11_wholeValue 18 = .ok (.getfield 304, 3) := by decide +kernel
theorem dX11_wholeValue_21 : decode cX11_wholeValue 21 = .ok (.invokevirtual 257, 3) := by decide +kernel
theorem dX11_wholeValue_24 : decode cX11_wholeValue 24 = .ok (.l2i, 1) := by decide +kernel
theorem dX11_wholeValue_25 : decode cX11_wholeValue 25 = .ok (.ireturn, 1) := by decide +kernel
theorem dX11_keep_0 : decode cX11_keep 0 = .ok (.aload_n 0, 1) := by decide +kernel
theorem dX11_keep_1 : decode cX11_keep 1 = .ok (.iload_n 1, 1) := by decide +kernel
theorem dX11_keep_2 : decode cX11_keep 2 = .ok (.invokevirtual 309, 3) := by decide +kernel
theorem dX11_keep_5 : decode cX11_keep 5 = .ok (.astore_n 2, 1) := by decide +kernel
theorem dX11_keep_6 : decode cX11_keep 6 = .ok (.aload_n 0, 1) := by decide +kernel
theorem dX11_keep_7 : decode cX11_keep 7 = .ok (.invokevirtual 247, 3) := by decide +kernel
theorem dX11_keep_10 : decode cX11_keep 10 = .ok (.aload_n 0, 1) := by decide +kernel
theorem dX11_keep_11 : decode cX11_keep 11 = .ok (.aload_n 2, 1) := by decide +kernel
theorem dX11_keep_12 : decode cX11_keep 12 = .ok (.invokevirtual 313, 3) := by decide +kernel
theorem dX11_keep_15 : decode cX11_keep 15 = .ok (.istore_n 3, 1) := by decide +kernel
theorem dX11_keep_16 : decode cX11_keep 16 = .ok (.aload_n 2, 1) := by decide +kernel
theorem dX11_keep_17 : decode cX11_keep 17 = .ok (.aload_n 0, 1) := by decide +kernel
theorem dX11_keep_18 : decode cX11_keep 18 = .ok (.getfield 35, 3) := by decide +kernel
theorem dX11_keep_21 : decode cX11_keep 21 = .ok (.getfield 269, 3) := by decide +kernel
theorem dX11_keep_24 : decode cX11_keep 24 = .ok (.invokevirtual 317, 3) := by decide +kernel
theorem dX11_keep_27 : decode cX11_keep 27 = .ok (.iload_n 3, 1) := by decide +kernel
theorem dX11_keep_28 : decode cX11_keep 28 = .ok (.ireturn, 1) := by decide +kernel
theorem dX11_kept_0 : decode cX11_kept 0 = .ok (.aload_n 0, 1) := by decide +kernel
theorem dX11_kept_1 : decode cX11_kept 1 = .ok (.aload_n 0, 1) := by decide +kernel
theorem dX11_kept_2 : decode cX11_kept 2 = .ok (.iload_n 1, 1) := by decide +kernel
theorem dX11_kept_3 : decode cX11_kept 3 = .ok (.invokevirtual 309, 3) := by decide +kernel
theorem dX11_kept_6 : decode cX11_kept 6 = .ok (.invokevirtual 313, 3) := by decide +kernel
theorem dX11_kept_9 : decode cX11_kept 9 = .ok (.ireturn, 1) := by decide +kernel
theorem dX11_brokenBy_0 : decode cX11_brokenBy 0 = .ok (.aload_n 0, 1) := by decide +kernel
theorem dX11_brokenBy_1 : decode cX11_brokenBy 1 = .ok (.iload_n 1, 1) := by decide +kernel
theorem dX11_brokenBy_2 : decode cX11_brokenBy 2 = .ok (.invokevirtual 309, 3) := by decide +kernel
theorem dX11_brokenBy_5 : decode cX11_brokenBy 5 = .ok (.astore_n 2, 1) := by decide +kernel
theorem dX11_brokenBy_6 : decode cX11_brokenBy 6 = .ok (.aload_n 0, 1) := by decide +kernel
theorem dX11_brokenBy_7 : decode cX11_brokenBy 7 = .ok (.aload_n 2, 1) := by decide +kernel
theorem dX11_brokenBy_8 : decode cX11_brokenBy 8 = .ok (.invokevirtual 313, 3) := by decide +kernel
theorem dX11_brokenBy_11 : decode cX11_brokenBy 11 = .ok (.bipush 120, 2) := by decide +kernel
theorem dX11_brokenBy_13 : decode cX11_brokenBy 13 = .ok (.if_icmp .eq 14, 3) := by decide +kernel
theorem dX11_brokenBy_16 : decode cX11_brokenBy 16 = .ok (.new 151, 3) := by decide +kernel
theorem dX11_brokenBy_19 : decode cX11_brokenBy 19 = .ok (.dup, 1) := by decide +kernel
theorem dX11_brokenBy_20 : decode cX11_brokenBy 20 = .ok (.ldc_w 321, 3) := by decide +kernel
theorem dX11_brokenBy_23 : decode cX11_brokenBy 23 = .ok (.invokespecial 155, 3) := by decide +kernel
theorem dX11_brokenBy_26 : decode cX11_brokenBy 26 = .ok (.athrow, 1) := by decide +kernel
theorem dX11_brokenBy_27 : decode cX11_brokenBy 27 = .ok (.aload_n 2, 1) := by decide +kernel
theorem dX11_brokenBy_28 : decode cX11_brokenBy 28 = .ok (.getfield 323, 3) := by decide +kernel
theorem dX11_brokenBy_31 : decode cX11_brokenBy 31 = .ok (.aload_n 0, 1) := by decide +kernel
theorem dX11_brokenBy_32 : decode cX11_brokenBy 32 = .ok (.getfield 10, 3) := by decide +kernel
theorem dX11_brokenBy_35 : decode cX11_brokenBy 35 = .ok (.getfield 90, 3) := by decide +kernel
theorem dX11_brokenBy_38 : decode cX11_brokenBy 38 = .ok (.if_icmp .eq 14, 3) := by decide +kernel
theorem dX11_brokenBy_41 : decode cX11_brokenBy 41 = .ok (.new 162, 3) := by decide +kernel
theorem dX11_brokenBy_44 : decode cX11_brokenBy 44 = .ok (.dup, 1) := by decide +kernel
theorem dX11_brokenBy_45 : decode cX11_brokenBy 45 = .ok (.ldc_w 326, 3) := by decide +kernel
theorem dX11_brokenBy_48 : decode cX11_brokenBy 48 = .ok (.invokespecial 166, 3) := by decide +kernel
theorem dX11_brokenBy_51 : decode cX11_brokenBy 51 = .ok (.athrow, 1) := by decide +kernel
theorem dX11_brokenBy_52 : decode cX11_brokenBy 52 = .ok (.aload_n 0, 1) := by decide +kernel
theorem dX11_brokenBy_53 : decode cX11_brokenBy 53 = .ok (.getfield 10, 3) := by decide +kernel
theorem dX11_brokenBy_56 : decode cX11_brokenBy 56 = .ok (.aload_n 2, 1) := by decide +kernel
theorem dX11_brokenBy_57 : decode cX11_brokenBy 57 = .ok (.invokevirtual 328, 3) := by decide +kernel
theorem dX11_brokenBy_60 : decode cX11_brokenBy 60 = .ok (.ireturn, 1) := by decide +kernel
theorem dX11_tightShare_0 : decode cX11_tightShare 0 = .ok (.aload_n 0, 1) := by decide +kernel
theorem dX11_tightShare_1 : decode cX11_tightShare 1 = .ok (.invokevirtual 247, 3) := by decide +kernel
theorem dX11_tightShare_4 : decode cX11_tightShare 4 = .ok (.aload_n 0, 1) := by decide +kernel
theorem dX11_tightShare_5 : decode cX11_tightShare 5 = .ok (.getfield 10, 3) := by decide +kernel
theorem dX11_tightShare_8 : decode cX11_tightShare 8 = .ok (.getfield 331, 3) := by decide +kernel
theorem dX11_tightShare_11 : decode cX11_tightShare 11 = .ok (.ifCond .gt 14, 3) := by decide +kernel
theorem dX11_tightShare_14 : decode cX11_tightShare 14 = .ok (.new 151, 3) := by decide +kernel
theorem dX11_tightShare_17 : decode cX11_tightShare 17 = .ok (.dup, 1) := by decide +kernel
theorem dX11_tightShare_18 : decode cX11_tightShare 18 = .ok (.ldc_w 334, 3) := by decide +kernel
theorem dX11_tightShare_21 : decode cX11_tightShare 21 = .ok (.invokespecial 155, 3) := by decide +kernel
theorem dX11_tightShare_24 : decode cX11_tightShare 24 = .ok (.athrow, 1) := by decide +kernel
theorem dX11_tightShare_25 : decode cX11_tightShare 25 = .ok (.aload_n 0, 1) := by decide +kernel
theorem dX11_tightShare_26 : decode cX11_tightShare 26 = .ok (.getfield 10, 3) := by decide +kernel
theorem dX11_tightShare_29 : decode cX11_tightShare 29 = .ok (.aload_n 0, 1) := by decide +kernel
theorem dX11_tightShare_30 : decode cX11_tightShare 30 = .ok (.getfield 35, 3) := by decide +kernel
theorem dX11_tightShare_33 : decode cX11_tightShare 33 = .ok (.getfield 269, 3) := by decide +kernel
theorem dX11_tightShare_36 : decode cX11_tightShare 36 = .ok (.invokevirtual 276, 3) := by decide +kernel
theorem dX11_tightShare_39 : decode cX11_tightShare 39 = .ok (.i2f, 1) := by decide +kernel
theorem dX11_tightShare_40 : decode cX11_tightShare 40 = .ok (.aload_n 0, 1) := by decide +kernel
theorem dX11_tightShare_41 : decode cX11_tightShare 41 = .ok (.getfield 10, 3) := by decide +kernel
theorem dX11_tightShare_44 : decode cX11_tightShare 44 = .ok (.getfield 331, 3) := by decide +kernel
theorem dX11_tightShare_47 : decode cX11_tightShare 47 = .ok (.i2f, 1) := by decide +kernel
theorem dX11_tightShare_48 : decode cX11_tightShare 48 = .ok (.fdiv, 1) := by decide +kernel
theorem dX11_tightShare_49 : decode cX11_tightShare 49 = .ok (.freturn, 1) := by decide +kernel
theorem dX11_areBounds_0 : decode cX11_areBounds 0 = .ok (.iload_n 0, 1) := by decide +kernel
theorem dX11_areBounds_1 : decode cX11_areBounds 1 = .ok (.bipush (-50), 2) := by decide +kernel
theorem dX11_areBounds_3 : decode cX11_areBounds 3 = .ok (.if_icmp .lt 24, 3) := by decide +kernel
theorem dX11_areBounds_6 : decode cX11_areBounds 6 = .ok (.iload_n 0, 1) := by decide +kernel
theorem dX11_areBounds_7 : decode cX11_areBounds 7 = .ok (.bipush 50, 2) := by decide +kernel
theorem dX11_areBounds_9 : decode cX11_areBounds 9 = .ok (.if_icmp .gt 18, 3) := by decide +kernel
theorem dX11_areBounds_12 : decode cX11_areBounds 12 = .ok (.iload_n 1, 1) := by decide +kernel
theorem dX11_areBounds_13 : decode cX11_areBounds 13 = .ok (.iload_n 0, 1) := by decide +kernel
theorem dX11_areBounds_14 : decode cX11_areBounds 14 = .ok (.if_icmp .lt 13, 3) := by decide +kernel
theorem dX11_areBounds_17 : decode cX11_areBounds 17 = .ok (.iload_n 1, 1) := by decide +kernel
theorem dX11_areBounds_18 : decode cX11_areBounds 18 = .ok (.bipush 100, 2) := by decide +kernel
theorem dX11_areBounds_20 : decode cX11_areBounds 20 = .ok (.if_icmp .gt 7, 3) := by decide +kernel
theorem dX11_areBounds_23 : decode cX11_areBounds 23 = .ok (.iconst 1, 1) := by decide +kernel
theorem dX11_areBounds_24 : decode cX11_areBounds 24 = .ok (.goto 4, 3) := by decide +kernel
theorem dX11_areBounds_27 : decode cX11_areBounds 27 = .ok (.iconst 0, 1) := by decide +kernel
theorem dX11_areBounds_28 : decode cX11_areBounds 28 = .ok (.ireturn, 1) := by decide +kernel
theorem dX11_demandVariable_0 : decode cX11_demandVariable 0 = .ok (.iload_n 1, 1) := by decide +kernel
theorem dX11_demandVariable_1 : decode cX11_demandVariable 1 = .ok (.ifCond .lt 14, 3) := by decide +kernel
theorem dX11_demandVariable_4 : decode cX11_demandVariable 4 = .ok (.iload_n 1, 1) := by decide +kernel
theorem dX11_demandVariable_5 : decode cX11_demandVariable 5 = .ok (.aload_n 0, 1) := by decide +kernel
theorem dX11_demandVariable_6 : decode cX11_demandVariable 6 = .ok (.getfield 10, 3) := by decide +kernel
theorem dX11_demandVariable_9 : decode cX11_demandVariable 9 = .ok (.getfield 90, 3) := by decide +kernel
theorem dX11_demandVariable_12 : decode cX11_demandVariable 12 = .ok (.if_icmp .lt 14, 3) := by decide +kernel
theorem dX11_demandVariable_15 : decode cX11_demandVariable 15 = .ok (.new 215, 3) := by decide +kernel
theorem dX11_demandVariable_18 : decode cX11_demandVariable 18 = .ok (.dup, 1) := by decide +kernel
theorem dX11_demandVariable_19 : decode cX11_demandVariable 19 = .ok (.ldc_w 336, 3) := by decide +kernel
theorem dX11_demandVariable_22 : decode cX11_demandVariable 22 = .ok (.invokespecial 219, 3) := by decide +kernel
theorem dX11_demandVariable_25 : decode cX11_demandVariable 25 = .ok (.athrow, 1) := by decide +kernel
theorem dX11_demandVariable_26 : decode cX11_demandVariable 26 = .ok (.return_, 1) := by decide +kernel
theorem dX11_demandRow_0 : decode cX11_demandRow 0 = .ok (.iload_n 1, 1) := by decide +kernel
theorem dX11_demandRow_1 : decode cX11_demandRow 1 = .ok (.ifCond .lt 14, 3) := by decide +kernel
theorem dX11_demandRow_4 : decode cX11_demandRow 4 = .ok (.iload_n 1, 1) := by decide +kernel
theorem dX11_demandRow_5 : decode cX11_demandRow 5 = .ok (.aload_n 0, 1) := by decide +kernel
theorem dX11_demandRow_6 : decode cX11_demandRow 6 = .ok (.getfield 10, 3) := by decide +kernel
theorem dX11_demandRow_9 : decode cX11_demandRow 9 = .ok (.getfield 291, 3) := by decide +kernel
theorem dX11_demandRow_12 : decode cX11_demandRow 12 = .ok (.if_icmp .lt 14, 3) := by decide +kernel
theorem dX11_demandRow_15 : decode cX11_demandRow 15 = .ok (.new 215, 3) := by decide +kernel
theorem dX11_demandRow_18 : decode cX11_demandRow 18 = .ok (.dup, 1) := by decide +kernel
theorem dX11_demandRow_19 : decode cX11_demandRow 19 = .ok (.ldc_w 338, 3) := by decide +kernel
theorem dX11_demandRow_22 : decode cX11_demandRow 22 = .ok (.invokespecial 219, 3) := by decide +kernel
theorem dX11_demandRow_25 : decode cX11_demandRow 25 = .ok (.athrow, 1) := by decide +kernel
theorem dX11_demandRow_26 : decode cX11_demandRow 26 = .ok (.return_, 1) := by decide +kernel
theorem dX11_demandLiveRow_0 : decode cX11_demandLiveRow 0 = .ok (.aload_n 0, 1) := by decide +kernel
theorem dX11_demandLiveRow_1 : decode cX11_demandLiveRow 1 = .ok (.iload_n 1, 1) := by decide +kernel
theorem dX11_demandLiveRow_2 : decode cX11_demandLiveRow 2 = .ok (.invokevirtual 188, 3) := by decide +kernel
theorem dX11_demandLiveRow_5 : decode cX11_demandLiveRow 5 = .ok (.aload_n 0, 1) := by decide +kernel
theorem dX11_demandLiveRow_6 : decode cX11_demandLiveRow 6 = .ok (.getfield 10, 3) := by decide +kernel
theorem dX11_demandLiveRow_9 : decode cX11_demandLiveRow 9 = .ok (.iload_n 1, 1) := by decide +kernel
theorem dX11_demandLiveRow_10 : decode cX11_demandLiveRow 10 = .ok (.invokevirtual 294, 3) := by decide +kernel
theorem dX11_demandLiveRow_13 : decode cX11_demandLiveRow 13 = .ok (.ifCond .ne 14, 3) := by decide +kernel
theorem dX11_demandLiveRow_16 : decode cX11_demandLiveRow 16 = .ok (.new 94, 3) := by decide +kernel
theorem dX11_demandLiveRow_19 : decode cX11_demandLiveRow 19 = .ok (.dup, 1) := by decide +kernel
theorem dX11_demandLiveRow_20 : decode cX11_demandLiveRow 20 = .ok (.ldc_w 340, 3) := by decide +kernel
theorem dX11_demandLiveRow_23 : decode cX11_demandLiveRow 23 = .ok (.invokespecial 98, 3) := by decide +kernel
theorem dX11_demandLiveRow_26 : decode cX11_demandLiveRow 26 = .ok (.athrow, 1) := by decide +kernel
theorem dX11_demandLiveRow_27 : decode cX11_demandLiveRow 27 = .ok (.return_, 1) := by decide +kernel
theorem dX11_demandAim_0 : decode cX11_demandAim 0 = .ok (.iload_n 1, 1) := by decide +kernel
theorem dX11_demandAim_1 : decode cX11_demandAim 1 = .ok (.ifCond .lt 14, 3) := by decide +kernel
theorem dX11_demandAim_4 : decode cX11_demandAim 4 = .ok (.iload_n 1, 1) := by decide +kernel
theorem dX11_demandAim_5 : decode cX11_demandAim 5 = .ok (.aload_n 0, 1) := by decide +kernel
theorem dX11_demandAim_6 : decode cX11_demandAim 6 = .ok (.getfield 10, 3) := by decide +kernel
theorem dX11_demandAim_9 : decode cX11_demandAim 9 = .ok (.getfield 200, 3) := by decide +kernel
theorem dX11_demandAim_12 : decode cX11_demandAim 12 = .ok (.if_icmp .lt 14, 3) := by decide +kernel
theorem dX11_demandAim_15 : decode cX11_demandAim 15 = .ok (.new 215, 3) := by decide +kernel
theorem dX11_demandAim_18 : decode cX11_demandAim 18 = .ok (.dup, 1) := by decide +kernel
theorem dX11_demandAim_19 : decode cX11_demandAim 19 = .ok (.ldc_w 342, 3) := by decide +kernel
theorem dX11_demandAim_22 : decode cX11_demandAim 22 = .ok (.invokespecial 219, 3) := by decide +kernel
theorem dX11_demandAim_25 : decode cX11_demandAim 25 = .ok (.athrow, 1) := by decide +kernel
theorem dX11_demandAim_26 : decode cX11_demandAim 26 = .ok (.return_, 1) := by decide +kernel
theorem dX11_demandBest_0 : decode cX11_demandBest 0 = .ok (.aload_n 0, 1) := by decide +kernel
theorem dX11_demandBest_1 : decode cX11_demandBest 1 = .ok (.getfield 35, 3) := by decide +kernel
theorem dX11_demandBest_4 : decode cX11_demandBest 4 = .ok (.invokevirtual 223, 3) := by decide +kernel
theorem dX11_demandBest_7 : decode cX11_demandBest 7 = .ok (.aload_n 0, 1) := by decide +kernel
theorem dX11_demandBest_8 : decode cX11_demandBest 8 = .ok (.getfield 35, 3) := by decide +kernel
theorem dX11_demandBest_11 : decode cX11_demandBest 11 = .ok (.getfield 226, 3) := by decide +kernel
theorem dX11_demandBest_14 : decode cX11_demandBest 14 = .ok (.bipush 111, 2) := by decide +kernel
theorem dX11_demandBest_16 : decode cX11_demandBest 16 = .ok (.if_icmp .eq 14, 3) := by decide +kernel
theorem dX11_demandBest_19 : decode cX11_demandBest 19 = .ok (.new 151, 3) := by decide +kernel
theorem dX11_demandBest_22 : decode cX11_demandBest 22 = .ok (.dup, 1) := by decide +kernel
theorem dX11_demandBest_23 : decode cX11_demandBest 23 = .ok (.ldc_w 344, 3) := by decide +kernel
theorem dX11_demandBest_26 : decode cX11_demandBest 26 = .ok (.invokespecial 155, 3) := by decide +kernel
theorem dX11_demandBest_29 : decode cX11_demandBest 29 = .ok (.athrow, 1) := by decide +kernel
theorem dX11_demandBest_30 : decode cX11_demandBest 30 = .ok (.return_, 1) := by decide +kernel
theorem dX11_demandWhole_0 : decode cX11_demandWhole 0 = .ok (.aload_n 0, 1) := by decide +kernel
theorem dX11_demandWhole_1 : decode cX11_demandWhole 1 = .ok (.getfield 10, 3) := by decide +kernel
theorem dX11_demandWhole_4 : decode cX11_demandWhole 4 = .ok (.invokevirtual 346, 3) := by decide +kernel
theorem dX11_demandWhole_7 : decode cX11_demandWhole 7 = .ok (.ifCond .ne 14, 3) := by decide +kernel
theorem dX11_demandWhole_10 : decode cX11_demandWhole 10 = .ok (.new 162, 3) := by decide +kernel
theorem dX11_demandWhole_13 : decode cX11_demandWhole 13 = .ok (.dup, 1) := by decide +kernel
theorem dX11_demandWhole_14 : decode cX11_demandWhole 14 = .ok (.ldc_w 349, 3) := by decide +kernel
theorem dX11_demandWhole_17 : decode cX11_demandWhole 17 = .ok (.invokespecial 166, 3) := by decide +kernel
theorem dX11_demandWhole_20 : decode cX11_demandWhole 20 = .ok (.athrow, 1) := by decide +kernel
theorem dX11_demandWhole_21 : decode cX11_demandWhole 21 = .ok (.aload_n 0, 1) := by decide +kernel
theorem dX11_demandWhole_22 : decode cX11_demandWhole 22 = .ok (.getfield 61, 3) := by decide +kernel
theorem dX11_demandWhole_25 : decode cX11_demandWhole 25 = .ok (.invokevirtual 351, 3) := by decide +kernel
theorem dX11_demandWhole_28 : decode cX11_demandWhole 28 = .ok (.aload_n 0, 1) := by decide +kernel
theorem dX11_demandWhole_29 : decode cX11_demandWhole 29 = .ok (.getfield 61, 3) := by decide +kernel
theorem dX11_demandWhole_32 : decode cX11_demandWhole 32 = .ok (.getfield 352, 3) := by decide +kernel
theorem dX11_demandWhole_35 : decode cX11_demandWhole 35 = .ok (.ifCond .ne 14, 3) := by decide +kernel
theorem dX11_demandWhole_38 : decode cX11_demandWhole 38 = .ok (.new 151, 3) := by decide +kernel
theorem dX11_demandWhole_41 : decode cX11_demandWhole 41 = .ok (.dup, 1) := by decide +kernel
theorem dX11_demandWhole_42 : decode cX11_demandWhole 42 = .ok (.ldc_w 356, 3) := by decide +kernel
theorem dX11_demandWhole_45 : decode cX11_demandWhole 45 = .ok (.invokespecial 155, 3) := by decide +kernel
theorem dX11_demandWhole_48 : decode cX11_demandWhole 48 = .ok (.athrow, 1) := by decide +kernel
theorem dX11_demandWhole_49 : decode cX11_demandWhole 49 = .ok (.return_, 1) := by decide +kernel
theorem dX11_demandSnapshot_0 : decode cX11_demandSnapshot 0 = .ok (.iload_n 1, 1) := by decide +kernel
theorem dX11_demandSnapshot_1 : decode cX11_demandSnapshot 1 = .ok (.ifCond .lt 21, 3) := by decide +kernel
theorem dX11_demandSnapshot_4 : decode cX11_demandSnapshot 4 = .ok (.iload_n 1, 1) := by decide +kernel
theorem dX11_demandSnapshot_5 : decode cX11_demandSnapshot 5 = .ok (.aload_n 0, 1) := by decide +kernel
theorem dX11_demandSnapshot_6 : decode cX11_demandSnapshot 6 = .ok (.getfield 74, 3) := by decide +kernel
theorem dX11_demandSnapshot_9 : decode cX11_demandSnapshot 9 = .ok (.arraylength, 1) := by decide +kernel
theorem dX11_demandSnapshot_10 : decode cX11_demandSnapshot 10 = .ok (.if_icmp .ge 12, 3) := by decide +kernel
theorem dX11_demandSnapshot_13 : decode cX11_demandSnapshot 13 = .ok (.aload_n 0, 1) := by decide +kernel
theorem dX11_demandSnapshot_14 : decode cX11_demandSnapshot 14 = .ok (.getfield 74, 3) := by decide +kernel
theorem dX11_demandSnapshot_17 : decode cX11_demandSnapshot 17 = .ok (.iload_n 1, 1) := by decide +kernel
theorem dX11_demandSnapshot_18 : decode cX11_demandSnapshot 18 = .ok (.aaload, 1) := by decide +kernel
theorem dX11_demandSnapshot_19 : decode cX11_demandSnapshot 19 = .ok (.goto 4, 3) := by decide +kernel
theorem dX11_demandSnapshot_22 : decode cX11_demandSnapshot 22 = .ok (.aconst_null, 1) := by decide +kernel
theorem dX11_demandSnapshot_23 : decode cX11_demandSnapshot 23 = .ok (.astore_n 2, 1) := by decide +kernel
theorem dX11_demandSnapshot_24 : decode cX11_demandSnapshot 24 = .ok (.aload_n 2, 1) := by decide +kernel
theorem dX11_demandSnapshot_25 : decode cX11_demandSnapshot 25 = .ok (.ifnonnull 14, 3) := by decide +kernel
theorem dX11_demandSnapshot_28 : decode cX11_demandSnapshot 28 = .ok (.new 83, 3) := by decide +kernel
theorem dX11_demandSnapshot_31 : decode cX11_demandSnapshot 31 = .ok (.dup, 1) := by decide +kernel
theorem dX11_demandSnapshot_32 : decode cX11_demandSnapshot 32 = .ok (.ldc_w 358, 3) := by decide +kernel
theorem dX11_demandSnapshot_35 : decode cX11_demandSnapshot 35 = .ok (.invokespecial 87, 3) := by decide +kernel
theorem dX11_demandSnapshot_38 : decode cX11_demandSnapshot 38 = .ok (.athrow, 1) := by decide +kernel
theorem dX11_demandSnapshot_39 : decode cX11_demandSnapshot 39 = .ok (.aload_n 2, 1) := by decide +kernel
theorem dX11_demandSnapshot_40 : decode cX11_demandSnapshot 40 = .ok (.areturn, 1) := by decide +kernel
theorem dX11_forgetAnswers_0 : decode cX11_forgetAnswers 0 = .ok (.aload_n 0, 1) := by decide +kernel
theorem dX11_forgetAnswers_1 : decode cX11_forgetAnswers 1 = .ok (.getfield 35, 3) := by decide +kernel
theorem dX11_forgetAnswers_4 : decode cX11_forgetAnswers 4 = .ok (.iconst 0, 1) := by decide +kernel
theorem dX11_forgetAnswers_5 : decode cX11_forgetAnswers 5 = .ok (.putfield 360, 3) := by decide +kernel
theorem dX11_forgetAnswers_8 : decode cX11_forgetAnswers 8 = .ok (.aload_n 0, 1) := by decide +kernel
theorem dX11_forgetAnswers_9 : decode cX11_forgetAnswers 9 = .ok (.getfield 54, 3) := by decide +kernel
theorem dX11_forgetAnswers_12 : decode cX11_forgetAnswers 12 = .ok (.iconst 0, 1) := by decide +kernel
theorem dX11_forgetAnswers_13 : decode cX11_forgetAnswers 13 = .ok (.putfield 363, 3) := by decide +kernel
theorem dX11_forgetAnswers_16 : decode cX11_forgetAnswers 16 = .ok (.aload_n 0, 1) := by decide +kernel
theorem dX11_forgetAnswers_17 : decode cX11_forgetAnswers 17 = .ok (.getfield 61, 3) := by decide +kernel
theorem dX11_forgetAnswers_20 : decode cX11_forgetAnswers 20 = .ok (.iconst 0, 1) := by decide +kernel
theorem dX11_forgetAnswers_21 : decode cX11_forgetAnswers 21 = .ok (.putfield 364, 3) := by decide +kernel
theorem dX11_forgetAnswers_24 : decode cX11_forgetAnswers 24 = .ok (.return_, 1) := by decide +kernel
theorem dX11_findValue_0 : decode cX11_findValue 0 = .ok (.aload_n 0, 1) := by decide +kernel
theorem dX11_findValue_1 : decode cX11_findValue 1 = .ok (.iload_n 1, 1) := by decide +kernel
theorem dX11_findValue_2 : decode cX11_findValue 2 = .ok (.invokevirtual 244, 3) := by decide +kernel
theorem dX11_findValue_5 : decode cX11_findValue 5 = .ok (.aload_n 0, 1) := by decide +kernel
theorem dX11_findValue_6 : decode cX11_findValue 6 = .ok (.getfield 35, 3) := by decide +kernel
theorem dX11_findValue_9 : decode cX11_findValue 9 = .ok (.invokevirtual 223, 3) := by decide +kernel
theorem dX11_findValue_12 : decode cX11_findValue 12 = .ok (.aload_n 0, 1) := by decide +kernel
theorem dX11_findValue_13 : decode cX11_findValue 13 = .ok (.getfield 35, 3) := by decide +kernel
theorem dX11_findValue_16 : decode cX11_findValue 16 = .ok (.iload_n 1, 1) := by decide +kernel
theorem dX11_findValue_17 : decode cX11_findValue 17 = .ok (.invokevirtual 365, 3) := by decide +kernel
theorem dX11_findValue_20 : decode cX11_findValue 20 = .ok (.ifCond .ne 14, 3) := by decide +kernel
theorem dX11_findValue_23 : decode cX11_findValue 23 = .ok (.new 151, 3) := by decide +kernel
theorem dX11_findValue_26 : decode cX11_findValue 26 = .ok (.dup, 1) := by decide +kernel
theorem dX11_findValue_27 : decode cX11_findValue 27 = .ok (.ldc_w 368, 3) := by decide +kernel
theorem dX11_findValue_30 : decode cX11_findValue 30 = .ok (.invokespecial 155, 3) := by decide +kernel
theorem dX11_findValue_33 : decode cX11_findValue 33 = .ok (.athrow, 1) := by decide +kernel
theorem dX11_findValue_34 : decode cX11_findValue 34 = .ok (.aload_n 0, 1) := by decide +kernel
theorem dX11_findValue_35 : decode cX11_findValue 35 = .ok (.getfield 68, 3) := by decide +kernel
theorem dX11_findValue_38 : decode cX11_findValue 38 = .ok (.aload_n 0, 1) := by decide +kernel
theorem dX11_findValue_39 : decode cX11_findValue 39 = .ok (.getfield 10, 3) := by decide +kernel
theorem dX11_findValue_42 : decode cX11_findValue 42 = .ok (.iload_n 1, 1) := by decide +kernel
theorem dX11_findValue_43 : decode cX11_findValue 43 = .ok (.aload_n 0, 1) := by decide +kernel
theorem dX11_findValue_44 : decode cX11_findValue 44 = .ok (.getfield 35, 3) := by decide +kernel
theorem dX11_findValue_47 : decode cX11_findValue 47 = .ok (.getfield 269, 3) := by decide +kernel
theorem dX11_findValue_50 : decode cX11_findValue 50 = .ok (.invokevirtual 257, 3) := by decide +kernel
theorem dX11_findValue_53 : decode cX11_findValue 53 = .ok (.aload_n 0, 1) := by decide +kernel
theorem dX11_findValue_54 : decode cX11_findValue 54 = .ok (.getfield 35, 3) := by decide +kernel
theorem dX11_findValue_57 : decode cX11_findValue 57 = .ok (.getfield 269, 3) := by decide +kernel
theorem dX11_findValue_60 : decode cX11_findValue 60 = .ok (.getfield 261, 3) := by decide +kernel
theorem dX11_findValue_63 : decode cX11_findValue 63 = .ok (.invokevirtual 262, 3) := by decide +kernel
theorem dX11_findValue_66 : decode cX11_findValue 66 = .ok (.return_, 1) := by decide +kernel
theorem dX11_findCoordinate_0 : decode cX11_findCoordinate 0 = .ok (.aload_n 0, 1) := by decide +kernel
theorem dX11_findCoordinate_1 : decode cX11_findCoordinate 1 = .ok (.iload_n 1, 1) := by decide +kernel
theorem dX11_findCoordinate_2 : decode cX11_findCoordinate 2 = .ok (.invokevirtual 106, 3) := by decide +kernel
theorem dX11_findCoordinate_5 : decode cX11_findCoordinate 5 = .ok (.aload_n 0, 1) := by decide +kernel
theorem dX11_findCoordinate_6 : decode cX11_findCoordinate 6 = .ok (.invokevirtual 247, 3) := by decide +kernel
theorem dX11_findCoordinate_9 : decode cX11_findCoordinate 9 = .ok (.aload_n 0, 1) := by decide +kernel
theorem dX11_findCoordinate_10 : decode cX11_findCoordinate 10 = .ok (.getfield 68, 3) := by decide +kernel
theorem dX11_findCoordinate_13 : decode cX11_findCoordinate 13 = .ok (.aload_n 0, 1) := by decide +kernel
theorem dX11_findCoordinate_14 : decode cX11_findCoordinate 14 = .ok (.getfield 35, 3) := by decide +kernel
theorem dX11_findCoordinate_17 : decode cX11_findCoordinate 17 = .ok (.getfield 269, 3) := by decide +kernel
theorem dX11_findCoordinate_20 : decode cX11_findCoordinate 20 = .ok (.iload_n 1, 1) := by decide +kernel
theorem dX11_findCoordinate_21 : decode cX11_findCoordinate 21 = .ok (.invokevirtual 305, 3) := by decide +kernel
theorem dX11_findCoordinate_24 : decode cX11_findCoordinate 24 = .ok (.aload_n 0, 1) := by decide +kernel
theorem dX11_findCoordinate_25 : decode cX11_findCoordinate 25 = .ok (.getfield 35, 3) := by decide +kernel
theorem dX11_findCoordinate_28 : decode cX11_findCoordinate 28 = .ok (.getfield 269, 3) := by decide +kernel
theorem dX11_findCoordinate_31 : decode cX11_findCoordinate 31 = .ok (.getfield 261, 3) := by decide +kernel
theorem dX11_findCoordinate_34 : decode cX11_findCoordinate 34 = .ok (.invokevirtual 262, 3) := by decide +kernel
theorem dX11_findCoordinate_37 : decode cX11_findCoordinate 37 = .ok (.return_, 1) := by decide +kernel
theorem dX11_findWorth_0 : decode cX11_findWorth 0 = .ok (.aload_n 0, 1) := by decide +kernel
theorem dX11_findWorth_1 : decode cX11_findWorth 1 = .ok (.iload_n 1, 1) := by decide +kernel
theorem dX11_findWorth_2 : decode cX11_findWorth 2 = .ok (.invokevirtual 182, 3) := by decide +kernel
theorem dX11_findWorth_5 : decode cX11_findWorth 5 = .ok (.aload_n 0, 1) := by decide +kernel
theorem dX11_findWorth_6 : decode cX11_findWorth 6 = .ok (.getfield 10, 3) := by decide +kernel
theorem dX11_findWorth_9 : decode cX11_findWorth 9 = .ok (.getfield 200, 3) := by decide +kernel
theorem dX11_findWorth_12 : decode cX11_findWorth 12 = .ok (.ifCond .ne 14, 3) := by decide +kernel
theorem dX11_findWorth_15 : decode cX11_findWorth 15 = .ok (.new 94, 3) := by decide +kernel
theorem dX11_findWorth_18 : decode cX11_findWorth 18 = .ok (.dup, 1) := by decide +kernel
theorem dX11_findWorth_19 : decode cX11_findWorth 19 = .ok (.ldc_w 370, 3) := by decide +kernel
theorem dX11_findWorth_22 : decode cX11_findWorth 22 = .ok (.invokespecial 98, 3) := by decide +kernel
theorem dX11_findWorth_25 : decode cX11_findWorth 25 = .ok (.athrow, 1) := by decide +kernel
theorem dX11_findWorth_26 : decode cX11_findWorth 26 = .ok (.aload_n 0, 1) := by decide +kernel
theorem dX11_findWorth_27 : decode cX11_findWorth 27 = .ok (.getfield 35, 3) := by decide +kernel
theorem dX11_findWorth_30 : decode cX11_findWorth 30 = .ok (.invokevirtual 223, 3) := by decide +kernel
theorem dX11_findWorth_33 : decode cX11_findWorth 33 = .ok (.aload_n 0, 1) := by decide +kernel
theorem dX11_findWorth_34 : decode cX11_findWorth 34 = .ok (.getfield 35, 3) := by decide +kernel
theorem dX11_findWorth_37 : decode cX11_findWorth 37 = .ok (.iconst 0, 1) := by decide +kernel
theorem dX11_findWorth_38 : decode cX11_findWorth 38 = .ok (.invokevirtual 365, 3) := by decide +kernel
theorem dX11_findWorth_41 : decode cX11_findWorth 41 = .ok (.ifCond .eq 14, 3) := by decide +kernel
theorem dX11_findWorth_44 : decode cX11_findWorth 44 = .ok (.aload_n 0, 1) := by decide +kernel
theorem dX11_findWorth_45 : decode cX11_findWorth 45 = .ok (.getfield 39, 3) := by decide +kernel
theorem dX11_findWorth_48 : decode cX11_findWorth 48 = .ok (.iload_n 1, 1) := by decide +kernel
theorem dX11_findWorth_49 : decode cX11_findWorth 49 = .ok (.invokevirtual 372, 3) := by decide +kernel
theorem dX11_findWorth_52 : decode cX11_findWorth 52 = .ok (.ifCond .ne 14, 3) := by decide +kernel
theorem dX11_findWorth_55 : decode cX11_findWorth 55 = .ok (.new 151, 3) := by decide +kernel
theorem dX11_findWorth_58 : decode cX11_findWorth 58 = .ok (.dup, 1) := by decide +kernel
theorem dX11_findWorth_59 : decode cX11_findWorth 59 = .ok (.ldc_w 375, 3) := by decide +kernel
theorem dX11_findWorth_62 : decode cX11_findWorth 62 = .ok (.invokespecial 155, 3) := by decide +kernel
theorem dX11_findWorth_65 : decode cX11_findWorth 65 = .ok (.athrow, 1) := by decide +kernel
theorem dX11_findWorth_66 : decode cX11_findWorth 66 = .ok (.aload_n 0, 1) := by decide +kernel
theorem dX11_findWorth_67 : decode cX11_findWorth 67 = .ok (.getfield 35, 3) := by decide +kernel
theorem dX11_findWorth_70 : decode cX11_findWorth 70 = .ok (.getfield 269, 3) := by decide +kernel
theorem dX11_findWorth_73 : decode cX11_findWorth 73 = .ok (.astore_n 2, 1) := by decide +kernel
theorem dX11_findWorth_74 : decode cX11_findWorth 74 = .ok (.aload_n 0, 1) := by decide +kernel
theorem dX11_findWorth_75 : decode cX11_findWorth 75 = .ok (.getfield 39, 3) := by decide +kernel
theorem dX11_findWorth_78 : decode cX11_findWorth 78 = .ok (.getfield 269, 3) := by decide +kernel
theorem dX11_findWorth_81 : decode cX11_findWorth 81 = .ok (.astore_n 3, 1) := by decide +kernel
theorem dX11_findWorth_82 : decode cX11_findWorth 82 = .ok (.aload_n 0, 1) := by decide +kernel
theorem dX11_findWorth_83 : decode cX11_findWorth 83 = .ok (.getfield 68, 3) := by decide +kernel
theorem dX11_findWorth_86 : decode cX11_findWorth 86 = .ok (.aload_n 0, 1) := by decide +kernel
theorem dX11_findWorth_87 : decode cX11_findWorth 87 = .ok (.getfield 10, 3) := by decide +kernel
theorem dX11_findWorth_90 : decode cX11_findWorth 90 = .ok (.iconst 0, 1) := by decide +kernel
theorem dX11_findWorth_91 : decode cX11_findWorth 91 = .ok (.aload_n 3, 1) := by decide +kernel
theorem dX11_findWorth_92 : decode cX11_findWorth 92 = .ok (.invokevirtual 257, 3) := by decide +kernel
theorem dX11_findWorth_95 : decode cX11_findWorth 95 = .ok (.aload_n 2, 1) := by decide +kernel
theorem dX11_findWorth_96 : decode cX11_findWorth 96 = .ok (.getfield 261, 3) := by decide +kernel
theorem dX11_findWorth_99 : decode cX11_findWorth 99 = .ok (.lmul, 1) := by decide +kernel
theorem dX11_findWorth_100 : decode cX11_findWorth 100 = .ok (.aload_n 0, 1) := by decide +kernel
theorem dX11_findWorth_101 : decode cX11_findWorth 101 = .ok (.getfield 10, 3) := by decide +kernel
theorem dX11_findWorth_104 : decode cX11_findWorth 104 = .ok (.iconst 0, 1) := by decide +kernel
theorem dX11_findWorth_105 : decode cX11_findWorth 105 = .ok (.aload_n 2, 1) := by decide +kernel
theorem dX11_findWorth_106 : decode cX11_findWorth 106 = .ok (.invokevirtual 257, 3) := by decide +kernel
theorem dX11_findWorth_109 : decode cX11_findWorth 109 = .ok (.aload_n 3, 1) := by decide +kernel
theorem dX11_findWorth_110 : decode cX11_findWorth 110 = .ok (.getfield 261, 3) := by decide +kernel
theorem dX11_findWorth_113 : decode cX11_findWorth 113 = .ok (.lmul, 1) := by decide +kernel
theorem dX11_findWorth_114 : decode cX11_findWorth 114 = .ok (.lsub, 1) := by decide +kernel
theorem dX11_findWorth_115 : decode cX11_findWorth 115 = .ok (.aload_n 2, 1) := by decide +kernel
theorem dX11_findWorth_116 : decode cX11_findWorth 116 = .ok (.getfield 261, 3) := by decide +kernel
theorem dX11_findWorth_119 : decode cX11_findWorth 119 = .ok (.aload_n 3, 1) := by decide +kernel
theorem dX11_findWorth_120 : decode cX11_findWorth 120 = .ok (.getfield 261, 3) := by decide +kernel
theorem dX11_findWorth_123 : decode cX11_findWorth 123 = .ok (.lmul, 1) := by decide +kernel
theorem dX11_findWorth_124 : decode cX11_findWorth 124 = .ok (.invokevirtual 262, 3) := by decide +kernel
theorem dX11_findWorth_127 : decode cX11_findWorth 127 = .ok (.return_, 1) := by decide +kernel
theorem dX11_standingOf_0 : decode cX11_standingOf 0 = .ok (.aload_n 1, 1) := by decide +kernel
theorem dX11_standingOf_1 : decode cX11_standingOf 1 = .ok (.getfield 323, 3) := by decide +kernel
theorem dX11_standingOf_4 : decode cX11_standingOf 4 = .ok (.iconst (-1), 1) := by decide +kernel
theorem dX11_standingOf_5 : decode cX11_standingOf 5 = .ok (.if_icmp .ne 6, 3) := by decide +kernel
theorem dX11_standingOf_8 : decode cX11_standingOf 8 = .ok (.bipush 45, 2) := by decide +kernel
theorem dX11_standingOf_10 : decode cX11_standingOf 10 = .ok (.ireturn, 1) := by decide +kernel
theorem dX11_standingOf_11 : decode cX11_standingOf 11 = .ok (.aload_n 1, 1) := by decide +kernel
theorem dX11_standingOf_12 : decode cX11_standingOf 12 = .ok (.getfield 323, 3) := by decide +kernel
theorem dX11_standingOf_15 : decode cX11_standingOf 15 = .ok (.aload_n 0, 1) := by decide +kernel
theorem dX11_standingOf_16 : decode cX11_standingOf 16 = .ok (.getfield 10, 3) := by decide +kernel
theorem dX11_standingOf_19 : decode cX11_standingOf 19 = .ok (.getfield 90, 3) := by decide +kernel
theorem dX11_standingOf_22 : decode cX11_standingOf 22 = .ok (.if_icmp .ne 16, 3) := by decide +kernel
theorem dX11_standingOf_25 : decode cX11_standingOf 25 = .ok (.aload_n 0, 1) := by decide +kernel
theorem dX11_standingOf_26 : decode cX11_standingOf 26 = .ok (.getfield 10, 3) := by decide +kernel
theorem dX11_standingOf_29 : decode cX11_standingOf 29 = .ok (.aload_n 1, 1) := by decide +kernel
theorem dX11_standingOf_30 : decode cX11_standingOf 30 = .ok (.invokevirtual 328, 3) := by decide +kernel
theorem dX11_standingOf_33 : decode cX11_standingOf 33 = .ok (.bipush 100, 2) := by decide +kernel
theorem dX11_standingOf_35 : decode cX11_standingOf 35 = .ok (.if_icmp .eq 6, 3) := by decide +kernel
theorem dX11_standingOf_38 : decode cX11_standingOf 38 = .ok (.bipush 120, 2) := by decide +kernel
theorem dX11_standingOf_40 : decode cX11_standingOf 40 = .ok (.ireturn, 1) := by decide +kernel
theorem dX11_standingOf_41 : decode cX11_standingOf 41 = .ok (.aload_n 0, 1) := by decide +kernel
theorem dX11_standingOf_42 : decode cX11_standingOf 42 = .ok (.getfield 35, 3) := by decide +kernel
theorem dX11_standingOf_45 : decode cX11_standingOf 45 = .ok (.invokevirtual 223, 3) := by decide +kernel
theorem dX11_standingOf_48 : decode cX11_standingOf 48 = .ok (.aload_n 0, 1) := by decide +kernel
theorem dX11_standingOf_49 : decode cX11_standingOf 49 = .ok (.getfield 35, 3) := by decide +kernel
theorem dX11_standingOf_52 : decode cX11_standingOf 52 = .ok (.getfield 226, 3) := by decide +kernel
theorem dX11_standingOf_55 : decode cX11_standingOf 55 = .ok (.bipush 111, 2) := by decide +kernel
theorem dX11_standingOf_57 : decode cX11_standingOf 57 = .ok (.if_icmp .ne 22, 3) := by decide +kernel
theorem dX11_standingOf_60 : decode cX11_standingOf 60 = .ok (.aload_n 1, 1) := by decide +kernel
theorem dX11_standingOf_61 : decode cX11_standingOf 61 = .ok (.aload_n 0, 1) := by decide +kernel
theorem dX11_standingOf_62 : decode cX11_standingOf 62 = .ok (.getfield 35, 3) := by decide +kernel
theorem dX11_standingOf_65 : decode cX11_standingOf 65 = .ok (.getfield 269, 3) := by decide +kernel
theorem dX11_standingOf_68 : decode cX11_standingOf 68 = .ok (.invokevirtual 377, 3) := by decide +kernel
theorem dX11_standingOf_71 : decode cX11_standingOf 71 = .ok (.ifCond .eq 8, 3) := by decide +kernel
theorem dX11_standingOf_74 : decode cX11_standingOf 74 = .ok (.bipush 98, 2) := by decide +kernel
theorem dX11_standingOf_76 : decode cX11_standingOf 76 = .ok (.goto 5, 3) := by decide +kernel
theorem dX11_standingOf_79 : decode cX11_standingOf 79 = .ok (.bipush 102, 2) := by decide +kernel
theorem dX11_standingOf_81 : decode cX11_standingOf 81 = .ok (.ireturn, 1) := by decide +kernel
