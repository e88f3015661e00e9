theorem dX8_init_0 : decode cX8_init 0 = .ok (.aload_n 0, 1) := by decide +kernel
theorem dX8_init_1 : decode cX8_init 1 = .ok (.invokespecial 1, 3) := by decide +kernel
theorem dX8_init_4 : decode cX8_init 4 = .ok (.aload_n 0, 1) := by decide +kernel
theorem dX8_init_5 : decode cX8_init 5 = .ok (.sipush 1008, 3) := by decide +kernel
theorem dX8_init_8 : decode cX8_init 8 = .ok (.newarray .int, 2) := by decide +kernel
theorem dX8_init_10 : decode cX8_init 10 = .ok (.putfield 7, 3) := by decide +kernel
theorem dX8_init_13 : decode cX8_init 13 = .ok (.aload_n 0, 1) := by decide +kernel
theorem dX8_init_14 : decode cX8_init 14 = .ok (.iconst 2, 1) := by decide +kernel
theorem dX8_init_15 : decode cX8_init 15 = .ok (.newarray .boolean, 2) := by decide +kernel
theorem dX8_init_17 : decode cX8_init 17 = .ok (.putfield 13, 3) := by decide +kernel
theorem dX8_init_20 : decode cX8_init 20 = .ok (.aload_n 0, 1) := by decide +kernel
theorem dX8_init_21 : decode cX8_init 21 = .ok (.bipush 7, 2) := by decide +kernel
theorem dX8_init_23 : decode cX8_init 23 = .ok (.newarray .int, 2) := by decide +kernel
theorem dX8_init_25 : decode cX8_init 25 = .ok (.putfield 17, 3) := by decide +kernel
theorem dX8_init_28 : decode cX8_init 28 = .ok (.aload_n 0, 1) := by decide +kernel
theorem dX8_init_29 : decode cX8_init 29 = .ok (.bipush 7, 2) := by decide +kernel
theorem dX8_init_31 : decode cX8_init 31 = .ok (.newarray .int, 2) := by decide +kernel
theorem dX8_init_33 : decode cX8_init 33 = .ok (.putfield 20, 3) := by decide +kernel
theorem dX8_init_36 : decode cX8_init 36 = .ok (.aload_n 0, 1) := by decide +kernel
theorem dX8_init_37 : decode cX8_init 37 = .ok (.bipush 7, 2) := by decide +kernel
theorem dX8_init_39 : decode cX8_init 39 = .ok (.newarray .int, 2) := by decide +kernel
theorem dX8_init_41 : decode cX8_init 41 = .ok (.putfield 23, 3) := by decide +kernel
theorem dX8_init_44 : decode cX8_init 44 = .ok (.aload_n 0, 1) := by decide +kernel
theorem dX8_init_45 : decode cX8_init 45 = .ok (.iconst 5, 1) := by decide +kernel
theorem dX8_init_46 : decode cX8_init 46 = .ok (.newarray .int, 2) := by decide +kernel
theorem dX8_init_48 : decode cX8_init 48 = .ok (.putfield 26, 3) := by decide +kernel
theorem dX8_init_51 : decode cX8_init 51 = .ok (.aload_n 0, 1) := by decide +kernel
theorem dX8_init_52 : decode cX8_init 52 = .ok (.iconst 5, 1) := by decide +kernel
theorem dX8_init_53 : decode cX8_init 53 = .ok (.newarray .int, 2) := by decide +kernel
theorem dX8_init_55 : decode cX8_init 55 = .ok (.putfield 29, 3) := by decide +kernel
theorem dX8_init_58 : decode cX8_init 58 = .ok (.aload_n 0, 1) := by decide +kernel
theorem dX8_init_59 : decode cX8_init 59 = .ok (.sipush 220, 3) := by decide +kernel
theorem dX8_init_62 : decode cX8_init 62 = .ok (.newarray .int, 2) := by decide +kernel
theorem dX8_init_64 : decode cX8_init 64 = .ok (.putfield 32, 3) := by decide +kernel
theorem dX8_init_67 : decode cX8_init 67 = .ok (.aload_n 0, 1) := by decide +kernel
theorem dX8_init_68 : decode cX8_init 68 = .ok (.iconst (-1), 1) := by decide +kernel
theorem dX8_init_69 : decode cX8_init 69 = .ok (.putfield 35, 3) := by decide +kernel
theorem dX8_init_72 : decode cX8_init 72 = .ok (.aload_n 0, 1) := by decide +kernel
theorem dX8_init_73 : decode cX8_init 73 = .ok (.iconst 4, 1) := by decide +kernel
theorem dX8_init_74 : decode cX8_init 74 = .ok (.newarray .int, 2) := by decide +kernel
theorem dX8_init_76 : decode cX8_init 76 = .ok (.putfield 39, 3) := by decide +kernel
theorem dX8_init_79 : decode cX8_init 79 = .ok (.aload_n 0, 1) := by decide +kernel
theorem dX8_init_80 : decode cX8_init 80 = .ok (.bipush 21, 2) := by decide +kernel
theorem dX8_init_82 : decode cX8_init 82 = .ok (.newarray .int, 2) := by decide +kernel
theorem dX8_init_84 : decode cX8_init 84 = .ok (.putfield 42, 3) := by decide +kernel
theorem dX8_init_87 : decode cX8_init 87 = .ok (.aload_n 0, 1) := by decide +kernel
theorem dX8_init_88 : decode cX8_init 88 = .ok (.bipush 10, 2) := by decide +kernel
theorem dX8_init_90 : decode cX8_init 90 = .ok (.newarray .int, 2) := by decide +kernel
theorem dX8_init_92 : decode cX8_init 92 = .ok (.putfield 45, 3) := by decide +kernel
theorem dX8_init_95 : decode cX8_init 95 = .ok (.aload_n 0, 1) := by decide +kernel
theorem dX8_init_96 : decode cX8_init 96 = .ok (.bipush 9, 2) := by decide +kernel
theorem dX8_init_98 : decode cX8_init 98 = .ok (.newarray .int, 2) := by decide +kernel
theorem dX8_init_100 : decode cX8_init 100 = .ok (.putfield 48, 3) := by decide +kernel
theorem dX8_init_103 : decode cX8_init 103 = .ok (.aload_n 0, 1) := by decide +kernel
theorem dX8_init_104 : decode cX8_init 104 = .ok (.bipush 9, 2) := by decide +kernel
theorem dX8_init_106 : decode cX8_init 106 = .ok (.newarray .int, 2) := by decide +kernel
theorem dX8_init_108 : decode cX8_init 108 = .ok (.putfield 51, 3) := by decide +kernel
theorem dX8_init_111 : decode cX8_init 111 = .ok (.aload_n 0, 1) := by decide +kernel
theorem dX8_init_112 : decode cX8_init 112 = .ok (.bipush 6, 2) := by decide +kernel
theorem dX8_init_114 : decode cX8_init 114 = .ok (.newarray .int, 2) := by decide +kernel
theorem dX8_init_116 : decode cX8_init 116 = .ok (.putfield 54, 3) := by decide +kernel
theorem dX8_init_119 : decode cX8_init 119 = .ok (.aload_n 0, 1) := by decide +kernel
theorem dX8_init_120 : decode cX8_init 120 = .ok (.bipush 6, 2) := by decide +kernel
theorem dX8_init_122 : decode cX8_init 122 = .ok (.newarray .int, 2) := by decide +kernel
theorem dX8_init_124 : decode cX8_init 124 = .ok (.putfield 57, 3) := by decide +kernel
theorem dX8_init_127 : decode cX8_init 127 = .ok (.aload_n 0, 1) := by decide +kernel
theorem dX8_init_128 : decode cX8_init 128 = .ok (.bipush 15, 2) := by decide +kernel
theorem dX8_init_130 : decode cX8_init 130 = .ok (.newarray .int, 2) := by decide +kernel
theorem dX8_init_132 : decode cX8_init 132 = .ok (.putfield 60, 3) := by decide +kernel
theorem dX8_init_135 : decode cX8_init 135 = .ok (.aload_n 0, 1) := by decide +kernel
theorem dX8_init_136 : decode cX8_init 136 = .ok (.iconst 0, 1) := by decide +kernel
theorem dX8_init_137 : decode cX8_init 137 = .ok (.putfield 63, 3) := by decide +kernel
theorem dX8_init_140 : decode cX8_init 140 = .ok (.return_, 1) := by decide +kernel
theorem dX8_in_0 : decode cX8_in 0 = .ok (.lload_n 0, 1) := by decide +kernel
theorem dX8_in_1 : decode cX8_in 1 = .ok (.lload_n 2, 1) := by decide +kernel
theorem dX8_in_2 : decode cX8_in 2 = .ok (.lcmp, 1) := by decide +kernel
theorem dX8_in_3 : decode cX8_in 3 = .ok (.ifCond .lt 14, 3) := by decide +kernel
theorem dX8_in_6 : decode cX8_in 6 = .ok (.lload_n 0, 1) := by decide +kernel
theorem dX8_in_7 : decode cX8_in 7 = .ok (.lload 4, 2) := by decide +kernel
theorem dX8_in_9 : decode cX8_in 9 = .ok (.lcmp, 1) := by decide +kernel
theorem dX8_in_10 : decode cX8_in 10 = .ok (.ifCond .gt 7, 3) := by decide +kernel
theorem dX8_in_13 : decode cX8_in 13 = .ok (.iconst 1, 1) := by decide +kernel
theorem dX8_in_14 : decode cX8_in 14 = .ok (.goto 4, 3) := by decide +kernel
theorem dX8_in_17 : decode cX8_in 17 = .ok (.iconst 0, 1) := by decide +kernel
theorem dX8_in_18 : decode cX8_in 18 = .ok (.ireturn, 1) := by decide +kernel
theorem dX8_copy_0 : decode cX8_copy 0 = .ok (.iconst 0, 1) := by decide +kernel
theorem dX8_copy_1 : decode cX8_copy 1 = .ok (.istore_n 3, 1) := by decide +kernel
theorem dX8_copy_2 : decode cX8_copy 2 = .ok (.iload_n 3, 1) := by decide +kernel
theorem dX8_copy_3 : decode cX8_copy 3 = .ok (.bipush 42, 2) := by decide +kernel
theorem dX8_copy_5 : decode cX8_copy 5 = .ok (.if_icmp .ge 25, 3) := by decide +kernel
theorem dX8_copy_8 : decode cX8_copy 8 = .ok (.aload_n 0, 1) := by decide +kernel
theorem dX8_copy_9 : decode cX8_copy 9 = .ok (.getfield 7, 3) := by decide +kernel
theorem dX8_copy_12 : decode cX8_copy 12 = .ok (.iload_n 2, 1) := by decide +kernel
theorem dX8_copy_13 : decode cX8_copy 13 = .ok (.iload_n 3, 1) := by decide +kernel
theorem dX8_copy_14 : decode cX8_copy 14 = .ok (.iadd, 1) := by decide +kernel
theorem dX8_copy_15 : decode cX8_copy 15 = .ok (.aload_n 0, 1) := by decide +kernel
theorem dX8_copy_16 : decode cX8_copy 16 = .ok (.getfield 7, 3) := by decide +kernel
theorem dX8_copy_19 : decode cX8_copy 19 = .ok (.iload_n 1, 1) := by decide +kernel
theorem dX8_copy_20 : decode cX8_copy 20 = .ok (.iload_n 3, 1) := by decide +kernel
theorem dX8_copy_21 : decode cX8_copy 21 = .ok (.iadd, 1) := by decide +kernel
theorem dX8_copy_22 : decode cX8_copy 22 = .ok (.iaload, 1) := by decide +kernel
theorem dX8_copy_23 : decode cX8_copy 23 = .ok (.iastore, 1) := by decide +kernel
theorem dX8_copy_24 : decode cX8_copy 24 = .ok (.iinc 3 1, 3) := by decide +kernel
theorem dX8_copy_27 : decode cX8_copy 27 = .ok (.goto (-25), 3) := by decide +kernel
theorem dX8_copy_30 : decode cX8_copy 30 = .ok (.return_, 1) := by decide +kernel
theorem dX8_isLeg_0 : decode cX8_isLeg 0 = .ok (.iload_n 1, 1) := by decide +kernel
theorem dX8_isLeg_1 : decode cX8_isLeg 1 = .ok (.i2l, 1) := by decide +kernel
theorem dX8_isLeg_2 : decode cX8_isLeg 2 = .ok (.lconst 0, 1) := by decide +kernel
theorem dX8_isLeg_3 : decode cX8_isLeg 3 = .ok (.aload_n 0, 1) := by decide +kernel
theorem dX8_isLeg_4 : decode cX8_isLeg 4 = .ok (.getfield 67, 3) := by decide +kernel
theorem dX8_isLeg_7 : decode cX8_isLeg 7 = .ok (.iconst 1, 1) := by decide +kernel
theorem dX8_isLeg_8 : decode cX8_isLeg 8 = .ok (.isub, 1) := by decide +kernel
theorem dX8_isLeg_9 : decode cX8_isLeg 9 = .ok (.i2l, 1) := by decide +kernel
theorem dX8_isLeg_10 : decode cX8_isLeg 10 = .ok (.invokestatic 70, 3) := by decide +kernel
theorem dX8_isLeg_13 : decode cX8_isLeg 13 = .ok (.ireturn, 1) := by decide +kernel
theorem dX8_isLender_0 : decode cX8_isLender 0 = .ok (.iload_n 1, 1) := by decide +kernel
theorem dX8_isLender_1 : decode cX8_isLender 1 = .ok (.i2l, 1) := by decide +kernel
theorem dX8_isLender_2 : decode cX8_isLender 2 = .ok (.lconst 0, 1) := by decide +kernel
theorem dX8_isLender_3 : decode cX8_isLender 3 = .ok (.aload_n 0, 1) := by decide +kernel
theorem dX8_isLender_4 : decode cX8_isLender 4 = .ok (.getfield 74, 3) := by decide +kernel
theorem dX8_isLender_7 : decode cX8_isLender 7 = .ok (.iconst 1, 1) := by decide +kernel
theorem dX8_isLender_8 : decode cX8_isLender 8 = .ok (.isub, 1) := by decide +kernel
theorem dX8_isLender_9 : decode cX8_isLender 9 = .ok (.i2l, 1) := by decide +kernel
theorem dX8_isLender_10 : decode cX8_isLender 10 = .ok (.invokestatic 70, 3) := by decide +kernel
theorem dX8_isLender_13 : decode cX8_isLender 13 = .ok (.ireturn, 1) := by decide +kernel
theorem dX8_isLoan_0 : decode cX8_isLoan 0 = .ok (.iload_n 1, 1) := by decide +kernel
theorem dX8_isLoan_1 : decode cX8_isLoan 1 = .ok (.i2l, 1) := by decide +kernel
theorem dX8_isLoan_2 : decode cX8_isLoan 2 = .ok (.lconst 0, 1) := by decide +kernel
theorem dX8_isLoan_3 : decode cX8_isLoan 3 = .ok (.aload_n 0, 1) := by decide +kernel
theorem dX8_isLoan_4 : decode cX8_isLoan 4 = .ok (.getfield 7, 3) := by decide +kernel
theorem dX8_isLoan_7 : decode cX8_isLoan 7 = .ok (.iconst 4, 1) := by decide +kernel
theorem dX8_isLoan_8 : decode cX8_isLoan 8 = .ok (.iaload, 1) := by decide +kernel
theorem dX8_isLoan_9 : decode cX8_isLoan 9 = .ok (.iconst 1, 1) := by decide +kernel
theorem dX8_isLoan_10 : decode cX8_isLoan 10 = .ok (.isub, 1) := by decide +kernel
theorem dX8_isLoan_11 : decode cX8_isLoan 11 = .ok (.i2l, 1) := by decide +kernel
theorem dX8_isLoan_12 : decode cX8_isLoan 12 = .ok (.invokestatic 70, 3) := by decide +kernel
theorem dX8_isLoan_15 : decode cX8_isLoan 15 = .ok (.ireturn, 1) := by decide +kernel
theorem dX8_feed_0 : decode cX8_feed 0 = .ok (.iload_n 1, 1) := by decide +kernel
theorem dX8_feed_1 : decode cX8_feed 1 = .ok (.i2l, 1) := by decide +kernel
theorem dX8_feed_2 : decode cX8_feed 2 = .ok (.lconst 0, 1) := by decide +kernel
theorem dX8_feed_3 : decode cX8_feed 3 = .ok (.ldc2_w 77, 3) := by decide +kernel
theorem dX8_feed_6 : decode cX8_feed 6 = .ok (.invokestatic 70, 3) := by decide +kernel
theorem dX8_feed_9 : decode cX8_feed 9 = .ok (.ifCond .ne 6, 3) := by decide +kernel
theorem dX8_feed_12 : decode cX8_feed 12 = .ok (.ldc 79, 2) := by decide +kernel
theorem dX8_feed_14 : decode cX8_feed 14 = .ok (.ireturn, 1) := by decide +kernel
theorem dX8_feed_15 : decode cX8_feed 15 = .ok (.aload_n 0, 1) := by decide +kernel
theorem dX8_feed_16 : decode cX8_feed 16 = .ok (.getfield 80, 3) := by decide +kernel
theorem dX8_feed_19 : decode cX8_feed 19 = .ok (.sipush 220, 3) := by decide +kernel
theorem dX8_feed_22 : decode cX8_feed 22 = .ok (.if_icmp .ne 6, 3) := by decide +kernel
theorem dX8_feed_25 : decode cX8_feed 25 = .ok (.ldc 83, 2) := by decide +kernel
theorem dX8_feed_27 : decode cX8_feed 27 = .ok (.ireturn, 1) := by decide +kernel
theorem dX8_feed_28 : decode cX8_feed 28 = .ok (.aload_n 0, 1) := by decide +kernel
theorem dX8_feed_29 : decode cX8_feed 29 = .ok (.getfield 32, 3) := by decide +kernel
theorem dX8_feed_32 : decode cX8_feed 32 = .ok (.aload_n 0, 1) := by decide +kernel
theorem dX8_feed_33 : decode cX8_feed 33 = .ok (.getfield 80, 3) := by decide +kernel
theorem dX8_feed_36 : decode cX8_feed 36 = .ok (.iload_n 1, 1) := by decide +kernel
theorem dX8_feed_37 : decode cX8_feed 37 = .ok (.iastore, 1) := by decide +kernel
theorem dX8_feed_38 : decode cX8_feed 38 = .ok (.aload_n 0, 1) := by decide +kernel
theorem dX8_feed_39 : decode cX8_feed 39 = .ok (.dup, 1) := by decide +kernel
theorem dX8_feed_40 : decode cX8_feed 40 = .ok (.getfield 80, 3) := by decide +kernel
theorem dX8_feed_43 : decode cX8_feed 43 = .ok (.iconst 1, 1) := by decide +kernel
theorem dX8_feed_44 : decode cX8_feed 44 = .ok (.iadd, 1) := by decide +kernel
theorem dX8_feed_45 : decode cX8_feed 45 = .ok (.putfield 80, 3) := by decide +kernel
theorem dX8_feed_48 : decode cX8_feed 48 = .ok (.aload_n 0, 1) := by decide +kernel
theorem dX8_feed_49 : decode cX8_feed 49 = .ok (.getfield 80, 3) := by decide +kernel
theorem dX8_feed_52 : decode cX8_feed 52 = .ok (.ireturn, 1) := by decide +kernel
theorem dX8_letterAt_0 : decode cX8_letterAt 0 = .ok (.iload_n 1, 1) := by decide +kernel
theorem dX8_letterAt_1 : decode cX8_letterAt 1 = .ok (.aload_n 0, 1) := by decide +kernel
theorem dX8_letterAt_2 : decode cX8_letterAt 2 = .ok (.getfield 80, 3) := by decide +kernel
theorem dX8_letterAt_5 : decode cX8_letterAt 5 = .ok (.if_icmp .ge 12, 3) := by decide +kernel
theorem dX8_letterAt_8 : decode cX8_letterAt 8 = .ok (.aload_n 0, 1) := by decide +kernel
theorem dX8_letterAt_9 : decode cX8_letterAt 9 = .ok (.getfield 32, 3) := by decide +kernel
theorem dX8_letterAt_12 : decode cX8_letterAt 12 = .ok (.iload_n 1, 1) := by decide +kernel
theorem dX8_letterAt_13 : decode cX8_letterAt 13 = .ok (.iaload, 1) := by decide +kernel
theorem dX8_letterAt_14 : decode cX8_letterAt 14 = .ok (.goto 4, 3) := by decide +kernel
theorem dX8_letterAt_17 : decode cX8_letterAt 17 = .ok (.iconst (-1), 1) := by decide +kernel
theorem dX8_letterAt_18 : decode cX8_letterAt 18 = .ok (.ireturn, 1) := by decide +kernel
theorem dX8_here_0 : decode cX8_here 0 = .ok (.aload_n 0, 1) := by decide +kernel
theorem dX8_here_1 : decode cX8_here 1 = .ok (.aload_n 0, 1) := by decide +kernel
theorem dX8_here_2 : decode cX8_here 2 = .ok (.getfield 84, 3) := by decide +kernel
theorem dX8_here_5 : decode cX8_here 5 = .ok (.invokevirtual 87, 3) := by decide +kernel
theorem dX8_here_8 : decode cX8_here 8 = .ok (.bipush 32, 2) := by decide +kernel
theorem dX8_here_10 : decode cX8_here 10 = .ok (.if_icmp .ne 16, 3) := by decide +kernel
theorem dX8_here_13 : decode cX8_here 13 = .ok (.aload_n 0, 1) := by decide +kernel
theorem dX8_here_14 : decode cX8_here 14 = .ok (.dup, 1) := by decide +kernel
theorem dX8_here_15 : decode cX8_here 15 = .ok (.getfield 84, 3) := by decide +kernel
theorem dX8_here_18 : decode cX8_here 18 = .ok (.iconst 1, 1) := by decide +kernel
theorem dX8_here_19 : decode cX8_here 19 = .ok (.iadd, 1) := by decide +kernel
theorem dX8_here_20 : decode cX8_here 20 = .ok (.putfield 84, 3) := by decide +kernel
theorem dX8_here_23 : decode cX8_here 23 = .ok (.goto (-23), 3) := by decide +kernel
theorem dX8_here_26 : decode cX8_here 26 = .ok (.aload_n 0, 1) := by decide +kernel
theorem dX8_here_27 : decode cX8_here 27 = .ok (.aload_n 0, 1) := by decide +kernel
theorem dX8_here_28 : decode cX8_here 28 = .ok (.getfield 84, 3) := by decide +kernel
theorem dX8_here_31 : decode cX8_here 31 = .ok (.putfield 91, 3) := by decide +kernel
theorem dX8_here_34 : decode cX8_here 34 = .ok (.aload_n 0, 1) := by decide +kernel
theorem dX8_here_35 : decode cX8_here 35 = .ok (.aload_n 0, 1) := by decide +kernel
theorem dX8_here_36 : decode cX8_here 36 = .ok (.getfield 84, 3) := by decide +kernel
theorem dX8_here_39 : decode cX8_here 39 = .ok (.invokevirtual 87, 3) := by decide +kernel
theorem dX8_here_42 : decode cX8_here 42 = .ok (.ireturn, 1) := by decide +kernel
theorem dX8_fails_0 : decode cX8_fails 0 = .ok (.aload_n 0, 1) := by decide +kernel
theorem dX8_fails_1 : decode cX8_fails 1 = .ok (.iload_n 1, 1) := by decide +kernel
theorem dX8_fails_2 : decode cX8_fails 2 = .ok (.putfield 94, 3) := by decide +kernel
theorem dX8_fails_5 : decode cX8_fails 5 = .ok (.aload_n 0, 1) := by decide +kernel
theorem dX8_fails_6 : decode cX8_fails 6 = .ok (.iload_n 2, 1) := by decide +kernel
theorem dX8_fails_7 : decode cX8_fails 7 = .ok (.putfield 35, 3) := by decide +kernel
theorem dX8_fails_10 : decode cX8_fails 10 = .ok (.iconst 0, 1) := by decide +kernel
theorem dX8_fails_11 : decode cX8_fails 11 = .ok (.ireturn, 1) := by decide +kernel
theorem dX8_takes_0 : decode cX8_takes 0 = .ok (.aload_n 0, 1) := by decide +kernel
theorem dX8_takes_1 : decode cX8_takes 1 = .ok (.invokevirtual 97, 3) := by decide +kernel
theorem dX8_takes_4 : decode cX8_takes 4 = .ok (.iload_n 1, 1) := by decide +kernel
theorem dX8_takes_5 : decode cX8_takes 5 = .ok (.if_icmp .eq 13, 3) := by decide +kernel
theorem dX8_takes_8 : decode cX8_takes 8 = .ok (.aload_n 0, 1) := by decide +kernel
theorem dX8_takes_9 : decode cX8_takes 9 = .ok (.iconst 1, 1) := by decide +kernel
theorem dX8_takes_10 : decode cX8_takes 10 = .ok (.aload_n 0, 1) := by decide +kernel
theorem dX8_takes_11 : decode cX8_takes 11 = .ok (.getfield 91, 3) := by decide +kernel
theorem dX8_takes_14 : decode cX8_takes 14 = .ok (.invokevirtual 101, 3) := by decide +kernel
theorem dX8_takes_17 : decode cX8_takes 17 = .ok (.ireturn, 1) := by decide +kernel
theorem dX8_takes_18 : decode cX8_takes 18 = .ok (.aload_n 0, 1) := by decide +kernel
theorem dX8_takes_19 : decode cX8_takes 19 = .ok (.dup, 1) := by decide +kernel
theorem dX8_takes_20 : decode cX8_takes 20 = .ok (.getfield 84, 3) := by decide +kernel
theorem dX8_takes_23 : decode cX8_takes 23 = .ok (.iconst 1, 1) := by decide +kernel
theorem dX8_takes_24 : decode cX8_takes 24 = .ok (.iadd, 1) := by decide +kernel
theorem dX8_takes_25 : decode cX8_takes 25 = .ok (.putfield 84, 3) := by decide +kernel
theorem dX8_takes_28 : decode cX8_takes 28 = .ok (.iconst 1, 1) := by decide +kernel
theorem dX8_takes_29 : decode cX8_takes 29 = .ok (.ireturn, 1) := by decide +kernel
theorem dX8_takesNumber_0 : decode cX8_takesNumber 0 = .ok (.aload_n 0, 1) := by decide +kernel
theorem dX8_takesNumber_1 : decode cX8_takesNumber 1 = .ok (.invokevirtual 97, 3) := by decide +kernel
theorem dX8_takesNumber_4 : decode cX8_takesNumber 4 = .ok (.i2l, 1) := by decide +kernel
theorem dX8_takesNumber_5 : decode cX8_takesNumber 5 = .ok (.ldc2_w 105, 3) := by decide +kernel
theorem dX8_takesNumber_8 : decode cX8_takesNumber 8 = .ok (.ldc2_w 107, 3) := by decide +kernel
theorem dX8_takesNumber_11 : decode cX8_takesNumber 11 = .ok (.invokestatic 70, 3) := by decide +kernel
theorem dX8_takesNumber_14 : decode cX8_takesNumber 14 = .ok (.ifCond .ne 13, 3) := by decide +kernel
theorem dX8_takesNumber_17 : decode cX8_takesNumber 17 = .ok (.aload_n 0, 1) := by decide +kernel
theorem dX8_takesNumber_18 : decode cX8_takesNumber 18 = .ok (.iconst 1, 1) := by decide +kernel
theorem dX8_takesNumber_19 : decode cX8_takesNumber 19 = .ok (.aload_n 0, 1) := by decide +kernel
theorem dX8_takesNumber_20 : decode cX8_takesNumber 20 = .ok (.getfield 91, 3) := by decide +kernel
theorem dX8_takesNumber_23 : decode cX8_takesNumber 23 = .ok (.invokevirtual 101, 3) := by decide +kernel
theorem dX8_takesNumber_26 : decode cX8_takesNumber 26 = .ok (.ireturn, 1) := by decide +kernel
theorem dX8_takesNumber_27 : decode cX8_takesNumber 27 = .ok (.aload_n 0, 1) := by decide +kernel
theorem dX8_takesNumber_28 : decode cX8_takesNumber 28 = .ok (.iconst 0, 1) := by decide +kernel
theorem dX8_takesNumber_29 : decode cX8_takesNumber 29 = .ok (.putfield 109, 3) := by decide +kernel
theorem dX8_takesNumber_32 : decode cX8_takesNumber 32 = .ok (.aload_n 0, 1) := by decide +kernel
theorem dX8_takesNumber_33 : decode cX8_takesNumber 33 = .ok (.aload_n 0, 1) := by decide +kernel
theorem dX8_takesNumber_34 : decode cX8_takesNumber 34 = .ok (.getfield 84, 3) := by decide +kernel
theorem dX8_takesNumber_37 : decode cX8_takesNumber 37 = .ok (.invokevirtual 87, 3) := by decide +kernel
theorem dX8_takesNumber_40 : decode cX8_takesNumber 40 = .ok (.i2l, 1) := by decide +kernel
theorem dX8_takesNumber_41 : decode cX8_takesNumber 41 = .ok (.ldc2_w 105, 3) := by decide +kernel
theorem dX8_takesNumber_44 : decode cX8_takesNumber 44 = .ok (.ldc2_w 107, 3) := by decide +kernel
theorem dX8_takesNumber_47 : decode cX8_takesNumber 47 = .ok (.invokestatic 70, 3) := by decide +kernel
theorem dX8_takesNumber_50 : decode cX8_takesNumber 50 = .ok (.ifCond .eq 59, 3) := by decide +kernel
theorem dX8_takesNumber_53 : decode cX8_takesNumber 53 = .ok (.aload_n 0, 1) := by decide +kernel
theorem dX8_takesNumber_54 : decode cX8_takesNumber 54 = .ok (.aload_n 0, 1) := by decide +kernel
theorem dX8_takesNumber_55 : decode cX8_takesNumber 55 = .ok (.getfield 84, 3) := by decide +kernel
theorem dX8_takesNumber_58 : decode cX8_takesNumber 58 = .ok (.aload_n 0, 1) := by decide +kernel
theorem dX8_takesNumber_59 : decode cX8_takesNumber 59 = .ok (.getfield 91, 3) := by decide +kernel
theorem dX8_takesNumber_62 : decode cX8_takesNumber 62 = .ok (.isub, 1) := by decide +kernel
theorem dX8_takesNumber_63 : decode cX8_takesNumber 63 = .ok (.iconst 3, 1) := by decide +kernel
theorem dX8_takesNumber_64 : decode cX8_takesNumber 64 = .ok (.if_icmp .ge 25, 3) := by decide +kernel
theorem dX8_takesNumber_67 : decode cX8_takesNumber 67 = .ok (.bipush 10, 2) := by decide +kernel
theorem dX8_takesNumber_69 : decode cX8_takesNumber 69 = .ok (.aload_n 0, 1) := by decide +kernel
theorem dX8_takesNumber_70 : decode cX8_takesNumber 70 = .ok (.getfield 109, 3) := by decide +kernel
theorem dX8_takesNumber_73 : decode cX8_takesNumber 73 = .ok (.imul, 1) := by decide +kernel
theorem dX8_takesNumber_74 : decode cX8_takesNumber 74 = .ok (.aload_n 0, 1) := by decide +kernel
theorem dX8_takesNumber_75 : decode cX8_takesNumber 75 = .ok (.aload_n 0, 1) := by decide +kernel
theorem dX8_takesNumber_76 : decode cX8_takesNumber 76 = .ok (.getfield 84, 3) := by decide +kernel
theorem dX8_takesNumber_79 : decode cX8_takesNumber 79 = .ok (.invokevirtual 87, 3) := by decide +kernel
theorem dX8_takesNumber_82 : decode cX8_takesNumber 82 = .ok (.iadd, 1) := by decide +kernel
theorem dX8_takesNumber_83 : decode cX8_takesNumber 83 = .ok (.bipush 48, 2) := by decide +kernel
theorem dX8_takesNumber_85 : decode cX8_takesNumber 85 = .ok (.isub, 1) := by decide +kernel
theorem dX8_takesNumber_86 : decode cX8_takesNumber 86 = .ok (.goto 7, 3) := by decide +kernel
theorem dX8_takesNumber_89 : decode cX8_takesNumber 89 = .ok (.aload_n 0, 1) := by decide +kernel
theorem dX8_takesNumber_90 : decode cX8_takesNumber 90 = .ok (.getfield 109, 3) := by decide +kernel
theorem dX8_takesNumber_93 : decode cX8_takesNumber 93 = .ok (.putfield 109, 3) := by decide +kernel
theorem dX8_takesNumber_96 : decode cX8_takesNumber 96 = .ok (.aload_n 0, 1) := by decide +kernel
theorem dX8_takesNumber_97 : decode cX8_takesNumber 97 = .ok (.dup, 1) := by decide +kernel
theorem dX8_takesNumber_98 : decode cX8_takesNumber 98 = .ok (.getfield 84, 3) := by decide +kernel
theorem dX8_takesNumber_101 : decode cX8_takesNumber 101 = .ok (.iconst 1, 1) := by decide +kernel
theorem dX8_takesNumber_102 : decode cX8_takesNumber 102 = .ok (.iadd, 1) := by decide +kernel
theorem dX8_takesNumber_103 : decode cX8_takesNumber 103 = .ok (.putfield 84, 3) := by decide +kernel
theorem dX8_takesNumber_106 : decode cX8_takesNumber 106 = .ok (.goto (-74), 3) := by decide +kernel
theorem dX8_takesNumber_109 : decode cX8_takesNumber 109 = .ok (.aload_n 0, 1) := by decide +kernel
theorem dX8_takesNumber_110 : decode cX8_takesNumber 110 = .ok (.getfield 84, 3) := by decide +kernel
theorem dX8_takesNumber_113 : decode cX8_takesNumber 113 = .ok (.aload_n 0, 1) := by decide +kernel
theorem dX8_takesNumber_114 : decode cX8_takesNumber 114 = .ok (.getfield 91, 3) := by decide +kernel
theorem dX8_takesNumber_117 : decode cX8_takesNumber 117 = .ok (.isub, 1) := by decide +kernel
theorem dX8_takesNumber_118 : decode cX8_takesNumber 118 = .ok (.iconst 4, 1) := by decide +kernel
theorem dX8_takesNumber_119 : decode cX8_takesNumber 119 = .ok (.if_icmp .ge 18, 3) := by decide +kernel
theorem dX8_takesNumber_122 : decode cX8_takesNumber 122 = .ok (.aload_n 0, 1) := by decide +kernel
theorem dX8_takesNumber_123 : decode cX8_takesNumber 123 = .ok (.getfield 109, 3) := by decide +kernel
theorem dX8_takesNumber_126 : decode cX8_takesNumber 126 = .ok (.i2l, 1) := by decide +kernel
theorem dX8_takesNumber_127 : decode cX8_takesNumber 127 = .ok (.iload_n 1, 1) := by decide +kernel
theorem dX8_takesNumber_128 : decode cX8_takesNumber 128 = .ok (.i2l, 1) := by decide +kernel
theorem dX8_takesNumber_129 : decode cX8_takesNumber 129 = .ok (.iload_n 2, 1) := by decide +kernel
theorem dX8_takesNumber_130 : decode cX8_takesNumber 130 = .ok (.i2l, 1) := by decide +kernel
theorem dX8_takesNumber_131 : decode cX8_takesNumber 131 = .ok (.invokestatic 70, 3) := by decide +kernel
theorem dX8_takesNumber_134 : decode cX8_takesNumber 134 = .ok (.ifCond .ne 15, 3) := by decide +kernel
theorem dX8_takesNumber_137 : decode cX8_takesNumber 137 = .ok (.aload_n 0, 1) := by decide +kernel
theorem dX8_takesNumber_138 : decode cX8_takesNumber 138 = .ok (.iconst 2, 1) := by decide +kernel
theorem dX8_takesNumber_139 : decode cX8_takesNumber 139 = .ok (.aload_n 0, 1) := by decide +kernel
theorem dX8_takesNumber_140 : decode cX8_takesNumber 140 = .ok (.getfield 91, 3) := by decide +kernel
theorem dX8_takesNumber_143 : decode cX8_takesNumber 143 = .ok (.invokevirtual 101, 3) := by decide +kernel
theorem dX8_takesNumber_146 : decode cX8_takesNumber 146 = .ok (.ifCond .eq 7, 3) := by decide +kernel
theorem dX8_takesNumber_149 : decode cX8_takesNumber 149 = .ok (.iconst 1, 1) := by decide +kernel
theorem dX8_takesNumber_150 : decode cX8_takesNumber 150 = .ok (.goto 4, 3) := by decide +kernel
theorem dX8_takesNumber_153 : decode cX8_takesNumber 153 = .ok (.iconst 0, 1) := by decide +kernel
theorem dX8_takesNumber_154 : decode cX8_takesNumber 154 = .ok (.ireturn, 1) := by decide +kernel
theorem dX8_takesShip_0 : decode cX8_takesShip 0 = .ok (.aload_n 0, 1) := by decide +kernel
theorem dX8_takesShip_1 : decode cX8_takesShip 1 = .ok (.iconst 1, 1) := by decide +kernel
theorem dX8_takesShip_2 : decode cX8_takesShip 2 = .ok (.putfield 112, 3) := by decide +kernel
theorem dX8_takesShip_5 : decode cX8_takesShip 5 = .ok (.iconst 0, 1) := by decide +kernel
theorem dX8_takesShip_6 : decode cX8_takesShip 6 = .ok (.istore_n 1, 1) := by decide +kernel
theorem dX8_takesShip_7 : decode cX8_takesShip 7 = .ok (.iload_n 1, 1) := by decide +kernel
theorem dX8_takesShip_8 : decode cX8_takesShip 8 = .ok (.iconst 4, 1) := by decide +kernel
theorem dX8_takesShip_9 : decode cX8_takesShip 9 = .ok (.if_icmp .ge 50, 3) := by decide +kernel
theorem dX8_takesShip_12 : decode cX8_takesShip 12 = .ok (.aload_n 0, 1) := by decide +kernel
theorem dX8_takesShip_13 : decode cX8_takesShip 13 = .ok (.iload_n 1, 1) := by decide +kernel
theorem dX8_takesShip_14 : decode cX8_takesShip 14 = .ok (.ifCond .ne 7, 3) := by decide +kernel
theorem dX8_takesShip_17 : decode cX8_takesShip 17 = .ok (.iconst 1, 1) := by decide +kernel
theorem dX8_takesShip_18 : decode cX8_takesShip 18 = .ok (.goto 4, 3) := by decide +kernel
theorem dX8_takesShip_21 : decode cX8_takesShip 21 = .ok (.iconst 0, 1) := by decide +kernel
theorem dX8_takesShip_22 : decode cX8_takesShip 22 = .ok (.iload_n 1, 1) := by decide +kernel
theorem dX8_takesShip_23 : decode cX8_takesShip 23 = .ok (.iconst 2, 1) := by decide +kernel
theorem dX8_takesShip_24 : decode cX8_takesShip 24 = .ok (.if_icmp .ne 8, 3) := by decide +kernel
theorem dX8_takesShip_27 : decode cX8_takesShip 27 = .ok (.bipush 9, 2) := by decide +kernel
theorem dX8_takesShip_29 : decode cX8_takesShip 29 = .ok (.goto 6, 3) := by decide +kernel
theorem dX8_takesShip_32 : decode cX8_takesShip 32 = .ok (.sipush 999, 3) := by decide +kernel
theorem dX8_takesShip_35 : decode cX8_takesShip 35 = .ok (.invokevirtual 115, 3) := by decide +kernel
theorem dX8_takesShip_38 : decode cX8_takesShip 38 = .ok (.ifCond .ne 5, 3) := by decide +kernel
theorem dX8_takesShip_41 : decode cX8_takesShip 41 = .ok (.iconst 0, 1) := by decide +kernel
theorem dX8_takesShip_42 : decode cX8_takesShip 42 = .ok (.ireturn, 1) := by decide +kernel
theorem dX8_takesShip_43 : decode cX8_takesShip 43 = .ok (.aload_n 0, 1) := by decide +kernel
theorem dX8_takesShip_44 : decode cX8_takesShip 44 = .ok (.getfield 39, 3) := by decide +kernel
theorem dX8_takesShip_47 : decode cX8_takesShip 47 = .ok (.iload_n 1, 1) := by decide +kernel
theorem dX8_takesShip_48 : decode cX8_takesShip 48 = .ok (.aload_n 0, 1) := by decide +kernel
theorem dX8_takesShip_49 : decode cX8_takesShip 49 = .ok (.getfield 109, 3) := by decide +kernel
theorem dX8_takesShip_52 : decode cX8_takesShip 52 = .ok (.iastore, 1) := by decide +kernel
theorem dX8_takesShip_53 : decode cX8_takesShip 53 = .ok (.iinc 1 1, 3) := by decide +kernel
theorem dX8_takesShip_56 : decode cX8_takesShip 56 = .ok (.goto (-49), 3) := by decide +kernel
theorem dX8_takesShip_59 : decode cX8_takesShip 59 = .ok (.iconst 1, 1) := by decide +kernel
theorem dX8_takesShip_60 : decode cX8_takesShip 60 = .ok (.ireturn, 1) := by decide +kernel
theorem dX8_takesLeg_0 : decode cX8_takesLeg 0 = .ok (.iconst 0, 1) := by decide +kernel
theorem dX8_takesLeg_1 : decode cX8_takesLeg 1 = .ok (.istore_n 1, 1) := by decide +kernel
theorem dX8_takesLeg_2 : decode cX8_takesLeg 2 = .ok (.iload_n 1, 1) := by decide +kernel
theorem dX8_takesLeg_3 : decode cX8_takesLeg 3 = .ok (.iconst 3, 1) := by decide +kernel
theorem dX8_takesLeg_4 : decode cX8_takesLeg 4 = .ok (.if_icmp .ge 57, 3) := by decide +kernel
theorem dX8_takesLeg_7 : decode cX8_takesLeg 7 = .ok (.aload_n 0, 1) := by decide +kernel
theorem dX8_takesLeg_8 : decode cX8_takesLeg 8 = .ok (.iload_n 1, 1) := by decide +kernel
theorem dX8_takesLeg_9 : decode cX8_takesLeg 9 = .ok (.iconst 2, 1) := by decide +kernel
theorem dX8_takesLeg_10 : decode cX8_takesLeg 10 = .ok (.if_icmp .ne 7, 3) := by decide +kernel
theorem dX8_takesLeg_13 : decode cX8_takesLeg 13 = .ok (.iconst 1, 1) := by decide +kernel
theorem dX8_takesLeg_14 : decode cX8_takesLeg 14 = .ok (.goto 4, 3) := by decide +kernel
theorem dX8_takesLeg_17 : decode cX8_takesLeg 17 = .ok (.iconst 0, 1) := by decide +kernel
theorem dX8_takesLeg_18 : decode cX8_takesLeg 18 = .ok (.iload_n 1, 1) := by decide +kernel
theorem dX8_takesLeg_19 : decode cX8_takesLeg 19 = .ok (.iconst 1, 1) := by decide +kernel
theorem dX8_takesLeg_20 : decode cX8_takesLeg 20 = .ok (.if_icmp .ne 8, 3) := by decide +kernel
theorem dX8_takesLeg_23 : decode cX8_takesLeg 23 = .ok (.bipush 9, 2) := by decide +kernel
theorem dX8_takesLeg_25 : decode cX8_takesLeg 25 = .ok (.goto 5, 3) := by decide +kernel
theorem dX8_takesLeg_28 : decode cX8_takesLeg 28 = .ok (.bipush 99, 2) := by decide +kernel
theorem dX8_takesLeg_30 : decode cX8_takesLeg 30 = .ok (.invokevirtual 115, 3) := by decide +kernel
theorem dX8_takesLeg_33 : decode cX8_takesLeg 33 = .ok (.ifCond .ne 5, 3) := by decide +kernel
theorem dX8_takesLeg_36 : decode cX8_takesLeg 36 = .ok (.iconst 0, 1) := by decide +kernel
theorem dX8_takesLeg_37 : decode cX8_takesLeg 37 = .ok (.ireturn, 1) := by decide +kernel
theorem dX8_takesLeg_38 : decode cX8_takesLeg 38 = .ok (.aload_n 0, 1) := by decide +kernel
theorem dX8_takesLeg_39 : decode cX8_takesLeg 39 = .ok (.getfield 42, 3) := by decide +kernel
theorem dX8_takesLeg_42 : decode cX8_takesLeg 42 = .ok (.iconst 3, 1) := by decide +kernel
theorem dX8_takesLeg_43 : decode cX8_takesLeg 43 = .ok (.aload_n 0, 1) := by decide +kernel
theorem dX8_takesLeg_44 : decode cX8_takesLeg 44 = .ok (.getfield 118, 3) := by decide +kernel
theorem dX8_takesLeg_47 : decode cX8_takesLeg 47 = .ok (.imul, 1) := by decide +kernel
theorem dX8_takesLeg_48 : decode cX8_takesLeg 48 = .ok (.iload_n 1, 1) := by decide +kernel
theorem dX8_takesLeg_49 : decode cX8_takesLeg 49 = .ok (.iadd, 1) := by decide +kernel
theorem dX8_takesLeg_50 : decode cX8_takesLeg 50 = .ok (.aload_n 0, 1) := by decide +kernel
theorem dX8_takesLeg_51 : decode cX8_takesLeg 51 = .ok (.getfield 109, 3) := by decide +kernel
theorem dX8_takesLeg_54 : decode cX8_takesLeg 54 = .ok (.iastore, 1) := by decide +kernel
theorem dX8_takesLeg_55 : decode cX8_takesLeg 55 = .ok (.iinc 1 1, 3) := by decide +kernel
theorem dX8_takesLeg_58 : decode cX8_takesLeg 58 = .ok (.goto (-56), 3) := by decide +kernel
theorem dX8_takesLeg_61 : decode cX8_takesLeg 61 = .ok (.aload_n 0, 1) := by decide +kernel
theorem dX8_takesLeg_62 : decode cX8_takesLeg 62 = .ok (.dup, 1) := by decide +kernel
theorem dX8_takesLeg_63 : decode cX8_takesLeg 63 = .ok (.getfield 118, 3) := by decide +kernel
theorem dX8_takesLeg_66 : decode cX8_takesLeg 66 = .ok (.iconst 1, 1) := by decide +kernel
theorem dX8_takesLeg_67 : decode cX8_takesLeg 67 = .ok (.iadd, 1) := by decide +kernel
theorem dX8_takesLeg_68 : decode cX8_takesLeg 68 = .ok (.putfield 118, 3) := by decide +kernel
theorem dX8_takesLeg_71 : decode cX8_takesLeg 71 = .ok (.iconst 1, 1) := by decide +kernel
theorem dX8_takesLeg_72 : decode cX8_takesLeg 72 = .ok (.ireturn, 1) := by decide +kernel
theorem dX8_takesLender_0 : decode cX8_takesLender 0 = .ok (.iconst 0, 1) := by decide +kernel
theorem dX8_takesLender_1 : decode cX8_takesLender 1 = .ok (.istore_n 1, 1) := by decide +kernel
theorem dX8_takesLender_2 : decode cX8_takesLender 2 = .ok (.iload_n 1, 1) := by decide +kernel
theorem dX8_takesLender_3 : decode cX8_takesLender 3 = .ok (.iconst 2, 1) := by decide +kernel
theorem dX8_takesLender_4 : decode cX8_takesLender 4 = .ok (.if_icmp .ge 49, 3) := by decide +kernel
theorem dX8_takesLender_7 : decode cX8_takesLender 7 = .ok (.aload_n 0, 1) := by decide +kernel
theorem dX8_takesLender_8 : decode cX8_takesLender 8 = .ok (.iconst 0, 1) := by decide +kernel
theorem dX8_takesLender_9 : decode cX8_takesLender 9 = .ok (.iload_n 1, 1) := by decide +kernel
theorem dX8_takesLender_10 : decode cX8_takesLender 10 = .ok (.ifCond .ne 9, 3) := by decide +kernel
theorem dX8_takesLender_13 : decode cX8_takesLender 13 = .ok (.sipush 999, 3) := by decide +kernel
theorem dX8_takesLender_16 : decode cX8_takesLender 16 = .ok (.goto 6, 3) := by decide +kernel
theorem dX8_takesLender_19 : decode cX8_takesLender 19 = .ok (.sipush 200, 3) := by decide +kernel
theorem dX8_takesLender_22 : decode cX8_takesLender 22 = .ok (.invokevirtual 115, 3) := by decide +kernel
theorem dX8_takesLender_25 : decode cX8_takesLender 25 = .ok (.ifCond .ne 5, 3) := by decide +kernel
theorem dX8_takesLender_28 : decode cX8_takesLender 28 = .ok (.iconst 0, 1) := by decide +kernel
theorem dX8_takesLender_29 : decode cX8_takesLender 29 = .ok (.ireturn, 1) := by decide +kernel
theorem dX8_takesLender_30 : decode cX8_takesLender 30 = .ok (.aload_n 0, 1) := by decide +kernel
theorem dX8_takesLender_31 : decode cX8_takesLender 31 = .ok (.getfield 45, 3) := by decide +kernel
theorem dX8_takesLender_34 : decode cX8_takesLender 34 = .ok (.iconst 2, 1) := by decide +kernel
theorem dX8_takesLender_35 : decode cX8_takesLender 35 = .ok (.aload_n 0, 1) := by decide +kernel
theorem dX8_takesLender_36 : decode cX8_takesLender 36 = .ok (.getfield 121, 3) := by decide +kernel
theorem dX8_takesLender_39 : decode cX8_takesLender 39 = .ok (.imul, 1) := by decide +kernel
theorem dX8_takesLender_40 : decode cX8_takesLender 40 = .ok (.iload_n 1, 1) := by decide +kernel
theorem dX8_takesLender_41 : decode cX8_takesLender 41 = .ok (.iadd, 1) := by decide +kernel
theorem dX8_takesLender_42 : decode cX8_takesLender 42 = .ok (.aload_n 0, 1) := by decide +kernel
theorem dX8_takesLender_43 : decode cX8_takesLender 43 = .ok (.getfield 109, 3) := by decide +kernel
theorem dX8_takesLender_46 : decode cX8_takesLender 46 = .ok (.iastore, 1) := by decide +kernel
theorem dX8_takesLender_47 : decode cX8_takesLender 47 = .ok (.iinc 1 1, 3) := by decide +kernel
theorem dX8_takesLender_50 : decode cX8_takesLender 50 = .ok (.goto (-48), 3) := by decide +kernel
theorem dX8_takesLender_53 : decode cX8_takesLender 53 = .ok (.aload_n 0, 1) := by decide +kernel
theorem dX8_takesLender_54 : decode cX8_takesLender 54 = .ok (.dup, 1) := by decide +kernel
theorem dX8_takesLender_55 : decode cX8_takesLender 55 = .ok (.getfield 121, 3) := by decide +kernel
theorem dX8_takesLender_58 : decode cX8_takesLender 58 = .ok (.iconst 1, 1) := by decide +kernel
theorem dX8_takesLender_59 : decode cX8_takesLender 59 = .ok (.iadd, 1) := by decide +kernel
theorem dX8_takesLender_60 : decode cX8_takesLender 60 = .ok (.putfield 121, 3) := by decide +kernel
theorem dX8_takesLender_63 : decode cX8_takesLender 63 = .ok (.iconst 1, 1) := by decide +kernel
theorem dX8_takesLender_64 : decode cX8_takesLender 64 = .ok (.ireturn, 1) := by decide +kernel
theorem dX8_takesClause_0 : decode cX8_takesClause 0 = .ok (.aload_n 0, 1) := by decide +kernel
theorem dX8_takesClause_1 : decode cX8_takesClause 1 = .ok (.invokevirtual 97, 3) := by decide +kernel
theorem dX8_takesClause_4 : decode cX8_takesClause 4 = .ok (.istore_n 1, 1) := by decide +kernel
theorem dX8_takesClause_5 : decode cX8_takesClause 5 = .ok (.iload_n 1, 1) := by decide +kernel
theorem dX8_takesClause_6 : decode cX8_takesClause 6 = .ok (.bipush 115, 2) := by decide +kernel
theorem dX8_takesClause_8 : decode cX8_takesClause 8 = .ok (.if_icmp .eq 22, 3) := by decide +kernel
theorem dX8_takesClause_11 : decode cX8_takesClause 11 = .ok (.aload_n 0, 1) := by decide +kernel
theorem dX8_takesClause_12 : decode cX8_takesClause 12 = .ok (.getfield 112, 3) := by decide +kernel
theorem dX8_takesClause_15 : decode cX8_takesClause 15 = .ok (.ifCond .eq 19, 3) := by decide +kernel
theorem dX8_takesClause_18 : decode cX8_takesClause 18 = .ok (.iload_n 1, 1) := by decide +kernel
theorem dX8_takesClause_19 : decode cX8_takesClause 19 = .ok (.bipush 108, 2) := by decide +kernel
theorem dX8_takesClause_21 : decode cX8_takesClause 21 = .ok (.if_icmp .eq 9, 3) := by decide +kernel
theorem dX8_takesClause_24 : decode cX8_takesClause 24 = .ok (.iload_n 1, 1) := by decide +kernel
theorem dX8_takesClause_25 : decode cX8_takesClause 25 = .ok (.bipush 109, 2) := by decide +kernel
theorem dX8_takesClause_27 : decode cX8_takesClause 27 = .ok (.if_icmp .ne 7, 3) := by decide +kernel
theorem dX8_takesClause_30 : decode cX8_takesClause 30 = .ok (.iconst 1, 1) := by decide +kernel
theorem dX8_takesClause_31 : decode cX8_takesClause 31 = .ok (.goto 4, 3) := by decide +kernel
theorem dX8_takesClause_34 : decode cX8_takesClause 34 = .ok (.iconst 0, 1) := by decide +kernel
theorem dX8_takesClause_35 : decode cX8_takesClause 35 = .ok (.istore_n 2, 1) := by decide +kernel
theorem dX8_takesClause_36 : decode cX8_takesClause 36 = .ok (.iload_n 2, 1) := by decide +kernel
theorem dX8_takesClause_37 : decode cX8_takesClause 37 = .ok (.ifCond .ne 13, 3) := by decide +kernel
theorem dX8_takesClause_40 : decode cX8_takesClause 40 = .ok (.aload_n 0, 1) := by decide +kernel
theorem dX8_takesClause_41 : decode cX8_takesClause 41 = .ok (.iconst 1, 1) := by decide +kernel
theorem dX8_takesClause_42 : decode cX8_takesClause 42 = .ok (.aload_n 0, 1) := by decide +kernel
theorem dX8_takesClause_43 : decode cX8_takesClause 43 = .ok (.getfield 91, 3) := by decide +kernel
theorem dX8_takesClause_46 : decode cX8_takesClause 46 = .ok (.invokevirtual 101, 3) := by decide +kernel
theorem dX8_takesClause_49 : decode cX8_takesClause 49 = .ok (.ireturn, 1) := by decide +kernel
theorem dX8_takesClause_50 : decode cX8_takesClause 50 = .ok (.iload_n 1, 1) := by decide +kernel
theorem dX8_takesClause_51 : decode cX8_takesClause 51 = .ok (.bipush 115, 2) := by decide +kernel
theorem dX8_takesClause_53 : decode cX8_takesClause 53 = .ok (.if_icmp .ne 10, 3) := by decide +kernel
theorem dX8_takesClause_56 : decode cX8_takesClause 56 = .ok (.aload_n 0, 1) := by decide +kernel
theorem dX8_takesClause_57 : decode cX8_takesClause 57 = .ok (.getfield 112, 3) := by decide +kernel
theorem dX8_takesClause_60 : decode cX8_takesClause 60 = .ok (.goto 39, 3) := by decide +kernel
theorem dX8_takesClause_63 : decode cX8_takesClause 63 = .ok (.iload_n 1, 1) := by decide +kernel
theorem dX8_takesClause_64 : decode cX8_takesClause 64 = .ok (.bipush 108, 2) := by decide +kernel
theorem dX8_takesClause_66 : decode cX8_takesClause 66 = .ok (.if_icmp .ne 20, 3) := by decide +kernel
theorem dX8_takesClause_69 : decode cX8_takesClause 69 = .ok (.aload_n 0, 1) := by decide +kernel
theorem dX8_takesClause_70 : decode cX8_takesClause 70 = .ok (.getfield 118, 3) := by decide +kernel
theorem dX8_takesClause_73 : decode cX8_takesClause 73 = .ok (.bipush 7, 2) := by decide +kernel
theorem dX8_takesClause_75 : decode cX8_takesClause 75 = .ok (.if_icmp .ne 7, 3) := by decide +kernel
theorem dX8_takesClause_78 : decode cX8_takesClause 78 = .ok (.iconst 1, 1) := by decide +kernel
theorem dX8_takesClause_79 : decode cX8_takesClause 79 = .ok (.goto 20, 3) := by decide +kernel
theorem dX8_takesClause_82 : decode cX8_takesClause 82 = .ok (.iconst 0, 1) := by decide +kernel
theorem dX8_takesClause_83 : decode cX8_takesClause 83 = .ok (.goto 16, 3) := by decide +kernel
theorem dX8_takesClause_86 : decode cX8_takesClause 86 = .ok (.aload_n 0, 1) := by decide +kernel
theorem dX8_takesClause_87 : decode cX8_takesClause 87 = .ok (.getfield 121, 3) := by decide +kernel
theorem dX8_takesClause_90 : decode cX8_takesClause 90 = .ok (.iconst 5, 1) := by decide +kernel
theorem dX8_takesClause_91 : decode cX8_takesClause 91 = .ok (.if_icmp .ne 7, 3) := by decide +kernel
theorem dX8_takesClause_94 : decode cX8_takesClause 94 = .ok (.iconst 1, 1) := by decide +kernel
theorem dX8_takesClause_95 : decode cX8_takesClause 95 = .ok (.goto 4, 3) := by decide +kernel
theorem dX8_takesClause_98 : decode cX8_takesClause 98 = .ok (.iconst 0, 1) := by decide +kernel
theorem dX8_takesClause_99 : decode cX8_takesClause 99 = .ok (.istore_n 3, 1) := by decide +kernel
theorem dX8_takesClause_100 : decode cX8_takesClause 100 = .ok (.iload_n 3, 1) := by decide +kernel
theorem dX8_takesClause_101 : decode cX8_takesClause 101 = .ok (.ifCond .eq 13, 3) := by decide +kernel
theorem dX8_takesClause_104 : decode cX8_takesClause 104 = .ok (.aload_n 0, 1) := by decide +kernel
theorem dX8_takesClause_105 : decode cX8_takesClause 105 = .ok (.iconst 3, 1) := by decide +kernel
theorem dX8_takesClause_106 : decode cX8_takesClause 106 = .ok (.aload_n 0, 1) := by decide +kernel
theorem dX8_takesClause_107 : decode cX8_takesClause 107 = .ok (.getfield 91, 3) := by decide +kernel
theorem dX8_takesClause_110 : decode cX8_takesClause 110 = .ok (.invokevirtual 101, 3) := by decide +kernel
theorem dX8_takesClause_113 : decode cX8_takesClause 113 = .ok (.ireturn, 1) := by decide +kernel
theorem dX8_takesClause_114 : decode cX8_takesClause 114 = .ok (.aload_n 0, 1) := by decide +kernel
theorem dX8_takesClause_115 : decode cX8_takesClause 115 = .ok (.dup, 1) := by decide +kernel
theorem dX8_takesClause_116 : decode cX8_takesClause 116 = .ok (.getfield 84, 3) := by decide +kernel
theorem dX8_takesClause_119 : decode cX8_takesClause 119 = .ok (.iconst 1, 1) := by decide +kernel
theorem dX8_takesClause_120 : decode cX8_takesClause 120 = .ok (.iadd, 1) := by decide +kernel
theorem dX8_takesClause_121 : decode cX8_takesClause 121 = .ok (.putfield 84, 3) := by decide +kernel
theorem dX8_takesClause_124 : decode cX8_takesClause 124 = .ok (.iload_n 1, 1) := by decide +kernel
theorem dX8_takesClause_125 : decode cX8_takesClause 125 = .ok (.bipush 115, 2) := by decide +kernel
theorem dX8_takesClause_127 : decode cX8_takesClause 127 = .ok (.if_icmp .ne 10, 3) := by decide +kernel
theorem dX8_takesClause_130 : decode cX8_takesClause 130 = .ok (.aload_n 0, 1) := by decide +kernel
theorem dX8_takesClause_131 : decode cX8_takesClause 131 = .ok (.invokevirtual 124, 3) := by decide +kernel
theorem dX8_takesClause_134 : decode cX8_takesClause 134 = .ok (.goto 20, 3) := by decide +kernel
theorem dX8_takesClause_137 : decode cX8_takesClause 137 = .ok (.iload_n 1, 1) := by decide +kernel
theorem dX8_takesClause_138 : decode cX8_takesClause 138 = .ok (.bipush 108, 2) := by decide +kernel
theorem dX8_takesClause_140 : decode cX8_takesClause 140 = .ok (.if_icmp .ne 10, 3) := by decide +kernel
theorem dX8_takesClause_143 : decode cX8_takesClause 143 = .ok (.aload_n 0, 1) := by decide +kernel
theorem dX8_takesClause_144 : decode cX8_takesClause 144 = .ok (.invokevirtual 128, 3) := by decide +kernel
theorem dX8_takesClause_147 : decode cX8_takesClause 147 = .ok (.goto 7, 3) := by decide +kernel
theorem dX8_takesClause_150 : decode cX8_takesClause 150 = .ok (.aload_n 0, 1) := by decide +kernel
theorem dX8_takesClause_151 : decode cX8_takesClause 151 = .ok (.invokevirtual 131, 3) := by decide +kernel
theorem dX8_takesClause_154 : decode cX8_takesClause 154 = .ok (.istore 4, 2) := by decide +kernel
theorem dX8_takesClause_156 : decode cX8_takesClause 156 = .ok (.iload 4, 2) := by decide +kernel
theorem dX8_takesClause_158 : decode cX8_takesClause 158 = .ok (.ifCond .eq 16, 3) := by decide +kernel
theorem dX8_takesClause_161 : decode cX8_takesClause 161 = .ok (.aload_n 0, 1) := by decide +kernel
theorem dX8_takesClause_162 : decode cX8_takesClause 162 = .ok (.bipush 59, 2) := by decide +kernel
theorem dX8_takesClause_164 : decode cX8_takesClause 164 = .ok (.invokevirtual 134, 3) := by decide +kernel
theorem dX8_takesClause_167 : decode cX8_takesClause 167 = .ok (.ifCond .eq 7, 3) := by decide +kernel
theorem dX8_takesClause_170 : decode cX8_takesClause 170 = .ok (.iconst 1, 1) := by decide +kernel
theorem dX8_takesClause_171 : decode cX8_takesClause 171 = .ok (.goto 4, 3) := by decide +kernel
theorem dX8_takesClause_174 : decode cX8_takesClause 174 = .ok (.iconst 0, 1) := by decide +kernel
theorem dX8_takesClause_175 : decode cX8_takesClause 175 = .ok (.ireturn, 1) := by decide +kernel
theorem dX8_voyage_0 : decode cX8_voyage 0 = .ok (.aload_n 0, 1) := by decide +kernel
theorem dX8_voyage_1 : decode cX8_voyage 1 = .ok (.iconst 0, 1) := by decide +kernel
theorem dX8_voyage_2 : decode cX8_voyage 2 = .ok (.putfield 84, 3) := by decide +kernel
theorem dX8_voyage_5 : decode cX8_voyage 5 = .ok (.aload_n 0, 1) := by decide +kernel
theorem dX8_voyage_6 : decode cX8_voyage 6 = .ok (.iconst 0, 1) := by decide +kernel
theorem dX8_voyage_7 : decode cX8_voyage 7 = .ok (.putfield 94, 3) := by decide +kernel
theorem dX8_voyage_10 : decode cX8_voyage 10 = .ok (.aload_n 0, 1) := by decide +kernel
theorem dX8_voyage_11 : decode cX8_voyage 11 = .ok (.iconst (-1), 1) := by decide +kernel
theorem dX8_voyage_12 : decode cX8_voyage 12 = .ok (.putfield 35, 3) := by decide +kernel
theorem dX8_voyage_15 : decode cX8_voyage 15 = .ok (.aload_n 0, 1) := by decide +kernel
theorem dX8_voyage_16 : decode cX8_voyage 16 = .ok (.iconst 0, 1) := by decide +kernel
theorem dX8_voyage_17 : decode cX8_voyage 17 = .ok (.putfield 112, 3) := by decide +kernel
theorem dX8_voyage_20 : decode cX8_voyage 20 = .ok (.aload_n 0, 1) := by decide +kernel
theorem dX8_voyage_21 : decode cX8_voyage 21 = .ok (.iconst 0, 1) := by decide +kernel
theorem dX8_voyage_22 : decode cX8_voyage 22 = .ok (.putfield 118, 3) := by decide +kernel
theorem dX8_voyage_25 : decode cX8_voyage 25 = .ok (.aload_n 0, 1) := by decide +kernel
theorem dX8_voyage_26 : decode cX8_voyage 26 = .ok (.iconst 0, 1) := by decide +kernel
theorem dX8_voyage_27 : decode cX8_voyage 27 = .ok (.putfield 121, 3) := by decide +kernel
theorem dX8_voyage_30 : decode cX8_voyage 30 = .ok (.iconst 1, 1) := by decide +kernel
theorem dX8_voyage_31 : decode cX8_voyage 31 = .ok (.istore_n 1, 1) := by decide +kernel
theorem dX8_voyage_32 : decode cX8_voyage 32 = .ok (.iload_n 1, 1) := by decide +kernel
theorem dX8_voyage_33 : decode cX8_voyage 33 = .ok (.ifCond .eq 19, 3) := by decide +kernel
theorem dX8_voyage_36 : decode cX8_voyage 36 = .ok (.aload_n 0, 1) := by decide +kernel
theorem dX8_voyage_37 : decode cX8_voyage 37 = .ok (.invokevirtual 97, 3) := by decide +kernel
theorem dX8_voyage_40 : decode cX8_voyage 40 = .ok (.iconst (-1), 1) := by decide +kernel
theorem dX8_voyage_41 : decode cX8_voyage 41 = .ok (.if_icmp .eq 11, 3) := by decide +kernel
theorem dX8_voyage_44 : decode cX8_voyage 44 = .ok (.aload_n 0, 1) := by decide +kernel
theorem dX8_voyage_45 : decode cX8_voyage 45 = .ok (.invokevirtual 138, 3) := by decide +kernel
theorem dX8_voyage_48 : decode cX8_voyage 48 = .ok (.istore_n 1, 1) := by decide +kernel
theorem dX8_voyage_49 : decode cX8_voyage 49 = .ok (.goto (-17), 3) := by decide +kernel
theorem dX8_voyage_52 : decode cX8_voyage 52 = .ok (.aload_n 0, 1) := by decide +kernel
theorem dX8_voyage_53 : decode cX8_voyage 53 = .ok (.iconst 0, 1) := by decide +kernel
theorem dX8_voyage_54 : decode cX8_voyage 54 = .ok (.putfield 80, 3) := by decide +kernel
theorem dX8_voyage_57 : decode cX8_voyage 57 = .ok (.iload_n 1, 1) := by decide +kernel
theorem dX8_voyage_58 : decode cX8_voyage 58 = .ok (.ifCond .ne 11, 3) := by decide +kernel
theorem dX8_voyage_61 : decode cX8_voyage 61 = .ok (.bipush (-10), 2) := by decide +kernel
theorem dX8_voyage_63 : decode cX8_voyage 63 = .ok (.aload_n 0, 1) := by decide +kernel
theorem dX8_voyage_64 : decode cX8_voyage 64 = .ok (.getfield 94, 3) := by decide +kernel
theorem dX8_voyage_67 : decode cX8_voyage 67 = .ok (.isub, 1) := by decide +kernel
theorem dX8_voyage_68 : decode cX8_voyage 68 = .ok (.ireturn, 1) := by decide +kernel
theorem dX8_voyage_69 : decode cX8_voyage 69 = .ok (.aload_n 0, 1) := by decide +kernel
theorem dX8_voyage_70 : decode cX8_voyage 70 = .ok (.aload_n 0, 1) := by decide +kernel
theorem dX8_voyage_71 : decode cX8_voyage 71 = .ok (.getfield 112, 3) := by decide +kernel
theorem dX8_voyage_74 : decode cX8_voyage 74 = .ok (.putfield 63, 3) := by decide +kernel
theorem dX8_voyage_77 : decode cX8_voyage 77 = .ok (.aload_n 0, 1) := by decide +kernel
theorem dX8_voyage_78 : decode cX8_voyage 78 = .ok (.aload_n 0, 1) := by decide +kernel
theorem dX8_voyage_79 : decode cX8_voyage 79 = .ok (.getfield 63, 3) := by decide +kernel
theorem dX8_voyage_82 : decode cX8_voyage 82 = .ok (.ifCond .eq 12, 3) := by decide +kernel
theorem dX8_voyage_85 : decode cX8_voyage 85 = .ok (.aload_n 0, 1) := by decide +kernel
theorem dX8_voyage_86 : decode cX8_voyage 86 = .ok (.getfield 39, 3) := by decide +kernel
theorem dX8_voyage_89 : decode cX8_voyage 89 = .ok (.iconst 0, 1) := by decide +kernel
theorem dX8_voyage_90 : decode cX8_voyage 90 = .ok (.iaload, 1) := by decide +kernel
theorem dX8_voyage_91 : decode cX8_voyage 91 = .ok (.goto 4, 3) := by decide +kernel
theorem dX8_voyage_94 : decode cX8_voyage 94 = .ok (.iconst 0, 1) := by decide +kernel
theorem dX8_voyage_95 : decode cX8_voyage 95 = .ok (.putfield 141, 3) := by decide +kernel
theorem dX8_voyage_98 : decode cX8_voyage 98 = .ok (.aload_n 0, 1) := by decide +kernel
theorem dX8_voyage_99 : decode cX8_voyage 99 = .ok (.aload_n 0, 1) := by decide +kernel
theorem dX8_voyage_100 : decode cX8_voyage 100 = .ok (.getfield 63, 3) := by decide +kernel
theorem dX8_voyage_103 : decode cX8_voyage 103 = .ok (.ifCond .eq 12, 3) := by decide +kernel
theorem dX8_voyage_106 : decode cX8_voyage 106 = .ok (.aload_n 0, 1) := by decide +kernel
theorem dX8_voyage_107 : decode cX8_voyage 107 = .ok (.getfield 39, 3) := by decide +kernel
theorem dX8_voyage_110 : decode cX8_voyage 110 = .ok (.iconst 1, 1) := by decide +kernel
theorem dX8_voyage_111 : decode cX8_voyage 111 = .ok (.iaload, 1) := by decide +kernel
theorem dX8_voyage_112 : decode cX8_voyage 112 = .ok (.goto 4, 3) := by decide +kernel
theorem dX8_voyage_115 : decode cX8_voyage 115 = .ok (.iconst 0, 1) := by decide +kernel
theorem dX8_voyage_116 : decode cX8_voyage 116 = .ok (.putfield 144, 3) := by decide +kernel
theorem dX8_voyage_119 : decode cX8_voyage 119 = .ok (.aload_n 0, 1) := by decide +kernel
theorem dX8_voyage_120 : decode cX8_voyage 120 = .ok (.aload_n 0, 1) := by decide +kernel
theorem dX8_voyage_121 : decode cX8_voyage 121 = .ok (.getfield 118, 3) := by decide +kernel
theorem dX8_voyage_124 : decode cX8_voyage 124 = .ok (.putfield 67, 3) := by decide +kernel
theorem dX8_voyage_127 : decode cX8_voyage 127 = .ok (.aload_n 0, 1) := by decide +kernel
theorem dX8_voyage_128 : decode cX8_voyage 128 = .ok (.aload_n 0, 1) := by decide +kernel
theorem dX8_voyage_129 : decode cX8_voyage 129 = .ok (.getfield 121, 3) := by decide +kernel
theorem dX8_voyage_132 : decode cX8_voyage 132 = .ok (.putfield 74, 3) := by decide +kernel
theorem dX8_voyage_135 : decode cX8_voyage 135 = .ok (.iconst 0, 1) := by decide +kernel
theorem dX8_voyage_136 : decode cX8_voyage 136 = .ok (.istore_n 2, 1) := by decide +kernel
theorem dX8_voyage_137 : decode cX8_voyage 137 = .ok (.iload_n 2, 1) := by decide +kernel
theorem dX8_voyage_138 : decode cX8_voyage 138 = .ok (.aload_n 0, 1) := by decide +kernel
theorem dX8_voyage_139 : decode cX8_voyage 139 = .ok (.getfield 67, 3) := by decide +kernel
theorem dX8_voyage_142 : decode cX8_voyage 142 = .ok (.if_icmp .ge 55, 3) := by decide +kernel
theorem dX8_voyage_145 : decode cX8_voyage 145 = .ok (.aload_n 0, 1) := by decide +kernel
theorem dX8_voyage_146 : decode cX8_voyage 146 = .ok (.getfield 17, 3) := by decide +kernel
theorem dX8_voyage_149 : decode cX8_voyage 149 = .ok (.iload_n 2, 1) := by decide +kernel
theorem dX8_voyage_150 : decode cX8_voyage 150 = .ok (.aload_n 0, 1) := by decide +kernel
theorem dX8_voyage_151 : decode cX8_voyage 151 = .ok (.getfield 42, 3) := by decide +kernel
theorem dX8_voyage_154 : decode cX8_voyage 154 = .ok (.iconst 3, 1) := by decide +kernel
theorem dX8_voyage_155 : decode cX8_voyage 155 = .ok (.iload_n 2, 1) := by decide +kernel
theorem dX8_voyage_156 : decode cX8_voyage 156 = .ok (.imul, 1) := by decide +kernel
theorem dX8_voyage_157 : decode cX8_voyage 157 = .ok (.iaload, 1) := by decide +kernel
theorem dX8_voyage_158 : decode cX8_voyage 158 = .ok (.iastore, 1) := by decide +kernel
theorem dX8_voyage_159 : decode cX8_voyage 159 = .ok (.aload_n 0, 1) := by decide +kernel
theorem dX8_voyage_160 : decode cX8_voyage 160 = .ok (.getfield 20, 3) := by decide +kernel
theorem dX8_voyage_163 : decode cX8_voyage 163 = .ok (.iload_n 2, 1) := by decide +kernel
theorem dX8_voyage_164 : decode cX8_voyage 164 = .ok (.aload_n 0, 1) := by decide +kernel
theorem dX8_voyage_165 : decode cX8_voyage 165 = .ok (.getfield 42, 3) := by decide +kernel
theorem dX8_voyage_168 : decode cX8_voyage 168 = .ok (.iconst 3, 1) := by decide +kernel
theorem dX8_voyage_169 : decode cX8_voyage 169 = .ok (.iload_n 2, 1) := by decide +kernel
theorem dX8_voyage_170 : decode cX8_voyage 170 = .ok (.imul, 1) := by decide +kernel
theorem dX8_voyage_171 : decode cX8_voyage 171 = .ok (.iconst 1, 1) := by decide +kernel
theorem dX8_voyage_172 : decode cX8_voyage 172 = .ok (.iadd, 1) := by decide +kernel
theorem dX8_voyage_173 : decode cX8_voyage 173 = .ok (.iaload, 1) := by decide +kernel
theorem dX8_voyage_174 : decode cX8_voyage 174 = .ok (.iastore, 1) := by decide +kernel
theorem dX8_voyage_175 : decode cX8_voyage 175 = .ok (.aload_n 0, 1) := by decide +kernel
theorem dX8_voyage_176 : decode cX8_voyage 176 = .ok (.getfield 23, 3) := by decide +kernel
theorem dX8_voyage_179 : decode cX8_voyage 179 = .ok (.iload_n 2, 1) := by decide +kernel
theorem dX8_voyage_180 : decode cX8_voyage 180 = .ok (.aload_n 0, 1) := by decide +kernel
theorem dX8_voyage_181 : decode cX8_voyage 181 = .ok (.getfield 42, 3) := by decide +kernel
theorem dX8_voyage_184 : decode cX8_voyage 184 = .ok (.iconst 3, 1) := by decide +kernel
theorem dX8_voyage_185 : decode cX8_voyage 185 = .ok (.iload_n 2, 1) := by decide +kernel
theorem dX8_voyage_186 : decode cX8_voyage 186 = .ok (.imul, 1) := by decide +kernel
theorem dX8_voyage_187 : decode cX8_voyage 187 = .ok (.iconst 2, 1) := by decide +kernel
theorem dX8_voyage_188 : decode cX8_voyage 188 = .ok (.iadd, 1) := by decide +kernel
theorem dX8_voyage_189 : decode cX8_voyage 189 = .ok (.iaload, 1) := by decide +kernel
theorem dX8_voyage_190 : decode cX8_voyage 190 = .ok (.iastore, 1) := by decide +kernel
theorem dX8_voyage_191 : decode cX8_voyage 191 = .ok (.iinc 2 1, 3) := by decide +kernel
theorem dX8_voyage_194 : decode cX8_voyage 194 = .ok (.goto (-57), 3) := by decide +kernel
theorem dX8_voyage_197 : decode cX8_voyage 197 = .ok (.iconst 0, 1) := by decide +kernel
theorem dX8_voyage_198 : decode cX8_voyage 198 = .ok (.istore_n 2, 1) := by decide +kernel
theorem dX8_voyage_199 : decode cX8_voyage 199 = .ok (.iload_n 2, 1) := by decide +kernel
theorem dX8_voyage_200 : decode cX8_voyage 200 = .ok (.aload_n 0, 1) := by decide +kernel
theorem dX8_voyage_201 : decode cX8_voyage 201 = .ok (.getfield 74, 3) := by decide +kernel
theorem dX8_voyage_204 : decode cX8_voyage 204 = .ok (.if_icmp .ge 39, 3) := by decide +kernel
theorem dX8_voyage_207 : decode cX8_voyage 207 = .ok (.aload_n 0, 1) := by decide +kernel
theorem dX8_voyage_208 : decode cX8_voyage 208 = .ok (.getfield 26, 3) := by decide +kernel
theorem dX8_voyage_211 : decode cX8_voyage 211 = .ok (.iload_n 2, 1) := by decide +kernel
theorem dX8_voyage_212 : decode cX8_voyage 212 = .ok (.aload_n 0, 1) := by decide +kernel
theorem dX8_voyage_213 : decode cX8_voyage 213 = .ok (.getfield 45, 3) := by decide +kernel
theorem dX8_voyage_216 : decode cX8_voyage 216 = .ok (.iconst 2, 1) := by decide +kernel
theorem dX8_voyage_217 : decode cX8_voyage 217 = .ok (.iload_n 2, 1) := by decide +kernel
theorem dX8_voyage_218 : decode cX8_voyage 218 = .ok (.imul, 1) := by decide +kernel
theorem dX8_voyage_219 : decode cX8_voyage 219 = .ok (.iaload, 1) := by decide +kernel
theorem dX8_voyage_220 : decode cX8_voyage 220 = .ok (.iastore, 1) := by decide +kernel
theorem dX8_voyage_221 : decode cX8_voyage 221 = .ok (.aload_n 0, 1) := by decide +kernel
theorem dX8_voyage_222 : decode cX8_voyage 222 = .ok (.getfield 29, 3) := by decide +kernel
theorem dX8_voyage_225 : decode cX8_voyage 225 = .ok (.iload_n 2, 1) := by decide +kernel
theorem dX8_voyage_226 : decode cX8_voyage 226 = .ok (.aload_n 0, 1) := by decide +kernel
theorem dX8_voyage_227 : decode cX8_voyage 227 = .ok (.getfield 45, 3) := by decide +kernel
theorem dX8_voyage_230 : decode cX8_voyage 230 = .ok (.iconst 2, 1) := by decide +kernel
theorem dX8_voyage_231 : decode cX8_voyage 231 = .ok (.iload_n 2, 1) := by decide +kernel
theorem dX8_voyage_232 : decode cX8_voyage 232 = .ok (.imul, 1) := by decide +kernel
theorem dX8_voyage_233 : decode cX8_voyage 233 = .ok (.iconst 1, 1) := by decide +kernel
theorem dX8_voyage_234 : decode cX8_voyage 234 = .ok (.iadd, 1) := by decide +kernel
theorem dX8_voyage_235 : decode cX8_voyage 235 = .ok (.iaload, 1) := by decide +kernel
theorem dX8_voyage_236 : decode cX8_voyage 236 = .ok (.iastore, 1) := by decide +kernel
theorem dX8_voyage_237 : decode cX8_voyage 237 = .ok (.iinc 2 1, 3) := by decide +kernel
theorem dX8_voyage_240 : decode cX8_voyage 240 = .ok (.goto (-41), 3) := by decide +kernel
theorem dX8_voyage_243 : decode cX8_voyage 243 = .ok (.aload_n 0, 1) := by decide +kernel
theorem dX8_voyage_244 : decode cX8_voyage 244 = .ok (.getfield 7, 3) := by decide +kernel
theorem dX8_voyage_247 : decode cX8_voyage 247 = .ok (.bipush 41, 2) := by decide +kernel
theorem dX8_voyage_249 : decode cX8_voyage 249 = .ok (.iaload, 1) := by decide +kernel
theorem dX8_voyage_250 : decode cX8_voyage 250 = .ok (.istore_n 2, 1) := by decide +kernel
theorem dX8_voyage_251 : decode cX8_voyage 251 = .ok (.iconst 0, 1) := by decide +kernel
theorem dX8_voyage_252 : decode cX8_voyage 252 = .ok (.istore_n 3, 1) := by decide +kernel
theorem dX8_voyage_253 : decode cX8_voyage 253 = .ok (.iload_n 3, 1) := by decide +kernel
theorem dX8_voyage_254 : decode cX8_voyage 254 = .ok (.bipush 42, 2) := by decide +kernel
theorem dX8_voyage_256 : decode cX8_voyage 256 = .ok (.if_icmp .ge 16, 3) := by decide +kernel
theorem dX8_voyage_259 : decode cX8_voyage 259 = .ok (.aload_n 0, 1) := by decide +kernel
theorem dX8_voyage_260 : decode cX8_voyage 260 = .ok (.getfield 7, 3) := by decide +kernel
theorem dX8_voyage_263 : decode cX8_voyage 263 = .ok (.iload_n 3, 1) := by decide +kernel
theorem dX8_voyage_264 : decode cX8_voyage 264 = .ok (.iconst 0, 1) := by decide +kernel
theorem dX8_voyage_265 : decode cX8_voyage 265 = .ok (.iastore, 1) := by decide +kernel
theorem dX8_voyage_266 : decode cX8_voyage 266 = .ok (.iinc 3 1, 3) := by decide +kernel
theorem dX8_voyage_269 : decode cX8_voyage 269 = .ok (.goto (-16), 3) := by decide +kernel
theorem dX8_voyage_272 : decode cX8_voyage 272 = .ok (.aload_n 0, 1) := by decide +kernel
theorem dX8_voyage_273 : decode cX8_voyage 273 = .ok (.getfield 7, 3) := by decide +kernel
theorem dX8_voyage_276 : decode cX8_voyage 276 = .ok (.iconst 2, 1) := by decide +kernel
theorem dX8_voyage_277 : decode cX8_voyage 277 = .ok (.aload_n 0, 1) := by decide +kernel
theorem dX8_voyage_278 : decode cX8_voyage 278 = .ok (.getfield 63, 3) := by decide +kernel
theorem dX8_voyage_281 : decode cX8_voyage 281 = .ok (.ifCond .eq 12, 3) := by decide +kernel
theorem dX8_voyage_284 : decode cX8_voyage 284 = .ok (.aload_n 0, 1) := by decide +kernel
theorem dX8_voyage_285 : decode cX8_voyage 285 = .ok (.getfield 39, 3) := by decide +kernel
theorem dX8_voyage_288 : decode cX8_voyage 288 = .ok (.iconst 2, 1) := by decide +kernel
theorem dX8_voyage_289 : decode cX8_voyage 289 = .ok (.iaload, 1) := by decide +kernel
theorem dX8_voyage_290 : decode cX8_voyage 290 = .ok (.goto 4, 3) := by decide +kernel
theorem dX8_voyage_293 : decode cX8_voyage 293 = .ok (.iconst 0, 1) := by decide +kernel
theorem dX8_voyage_294 : decode cX8_voyage 294 = .ok (.iastore, 1) := by decide +kernel
theorem dX8_voyage_295 : decode cX8_voyage 295 = .ok (.aload_n 0, 1) := by decide +kernel
theorem dX8_voyage_296 : decode cX8_voyage 296 = .ok (.getfield 7, 3) := by decide +kernel
theorem dX8_voyage_299 : decode cX8_voyage 299 = .ok (.iconst 3, 1) := by decide +kernel
theorem dX8_voyage_300 : decode cX8_voyage 300 = .ok (.aload_n 0, 1) := by decide +kernel
theorem dX8_voyage_301 : decode cX8_voyage 301 = .ok (.getfield 63, 3) := by decide +kernel
theorem dX8_voyage_304 : decode cX8_voyage 304 = .ok (.ifCond .eq 12, 3) := by decide +kernel
theorem dX8_voyage_307 : decode cX8_voyage 307 = .ok (.aload_n 0, 1) := by decide +kernel
theorem dX8_voyage_308 : decode cX8_voyage 308 = .ok (.getfield 39, 3) := by decide +kernel
theorem dX8_voyage_311 : decode cX8_voyage 311 = .ok (.iconst 3, 1) := by decide +kernel
theorem dX8_voyage_312 : decode cX8_voyage 312 = .ok (.iaload, 1) := by decide +kernel
theorem dX8_voyage_313 : decode cX8_voyage 313 = .ok (.goto 4, 3) := by decide +kernel
theorem dX8_voyage_316 : decode cX8_voyage 316 = .ok (.iconst 0, 1) := by decide +kernel
theorem dX8_voyage_317 : decode cX8_voyage 317 = .ok (.iastore, 1) := by decide +kernel
theorem dX8_voyage_318 : decode cX8_voyage 318 = .ok (.aload_n 0, 1) := by decide +kernel
theorem dX8_voyage_319 : decode cX8_voyage 319 = .ok (.getfield 7, 3) := by decide +kernel
theorem dX8_voyage_322 : decode cX8_voyage 322 = .ok (.bipush 41, 2) := by decide +kernel
theorem dX8_voyage_324 : decode cX8_voyage 324 = .ok (.iload_n 2, 1) := by decide +kernel
theorem dX8_voyage_325 : decode cX8_voyage 325 = .ok (.iastore, 1) := by decide +kernel
theorem dX8_voyage_326 : decode cX8_voyage 326 = .ok (.aload_n 0, 1) := by decide +kernel
theorem dX8_voyage_327 : decode cX8_voyage 327 = .ok (.iconst 0, 1) := by decide +kernel
theorem dX8_voyage_328 : decode cX8_voyage 328 = .ok (.putfield 147, 3) := by decide +kernel
theorem dX8_voyage_331 : decode cX8_voyage 331 = .ok (.aload_n 0, 1) := by decide +kernel
theorem dX8_voyage_332 : decode cX8_voyage 332 = .ok (.iconst 0, 1) := by decide +kernel
theorem dX8_voyage_333 : decode cX8_voyage 333 = .ok (.putfield 150, 3) := by decide +kernel
theorem dX8_voyage_336 : decode cX8_voyage 336 = .ok (.aload_n 0, 1) := by decide +kernel
theorem dX8_voyage_337 : decode cX8_voyage 337 = .ok (.iconst 0, 1) := by decide +kernel
theorem dX8_voyage_338 : decode cX8_voyage 338 = .ok (.putfield 153, 3) := by decide +kernel
theorem dX8_voyage_341 : decode cX8_voyage 341 = .ok (.aload_n 0, 1) := by decide +kernel
theorem dX8_voyage_342 : decode cX8_voyage 342 = .ok (.getfield 13, 3) := by decide +kernel
theorem dX8_voyage_345 : decode cX8_voyage 345 = .ok (.iconst 0, 1) := by decide +kernel
theorem dX8_voyage_346 : decode cX8_voyage 346 = .ok (.iconst 0, 1) := by decide +kernel
theorem dX8_voyage_347 : decode cX8_voyage 347 = .ok (.bastore, 1) := by decide +kernel
theorem dX8_voyage_348 : decode cX8_voyage 348 = .ok (.aload_n 0, 1) := by decide +kernel
theorem dX8_voyage_349 : decode cX8_voyage 349 = .ok (.getfield 13, 3) := by decide +kernel
theorem dX8_voyage_352 : decode cX8_voyage 352 = .ok (.iconst 1, 1) := by decide +kernel
theorem dX8_voyage_353 : decode cX8_voyage 353 = .ok (.iconst 0, 1) := by decide +kernel
theorem dX8_voyage_354 : decode cX8_voyage 354 = .ok (.bastore, 1) := by decide +kernel
theorem dX8_voyage_355 : decode cX8_voyage 355 = .ok (.aload_n 0, 1) := by decide +kernel
theorem dX8_voyage_356 : decode cX8_voyage 356 = .ok (.getfield 67, 3) := by decide +kernel
theorem dX8_voyage_359 : decode cX8_voyage 359 = .ok (.ireturn, 1) := by decide +kernel
theorem dX8_fault_0 : decode cX8_fault 0 = .ok (.aload_n 0, 1) := by decide +kernel
theorem dX8_fault_1 : decode cX8_fault 1 = .ok (.getfield 35, 3) := by decide +kernel
theorem dX8_fault_4 : decode cX8_fault 4 = .ok (.ireturn, 1) := by decide +kernel
theorem dX8_where_0 : decode cX8_where 0 = .ok (.aload_n 0, 1) := by decide +kernel
theorem dX8_where_1 : decode cX8_where 1 = .ok (.getfield 7, 3) := by decide +kernel
theorem dX8_where_4 : decode cX8_where 4 = .ok (.iconst 1, 1) := by decide +kernel
theorem dX8_where_5 : decode cX8_where 5 = .ok (.iaload, 1) := by decide +kernel
theorem dX8_where_6 : decode cX8_where 6 = .ok (.iconst 1, 1) := by decide +kernel
theorem dX8_where_7 : decode cX8_where 7 = .ok (.if_icmp .ne 7, 3) := by decide +kernel
theorem dX8_where_10 : decode cX8_where 10 = .ok (.iconst 2, 1) := by decide +kernel
theorem dX8_where_11 : decode cX8_where 11 = .ok (.goto 28, 3) := by decide +kernel
theorem dX8_where_14 : decode cX8_where 14 = .ok (.aload_n 0, 1) := by decide +kernel
theorem dX8_where_15 : decode cX8_where 15 = .ok (.getfield 63, 3) := by decide +kernel
theorem dX8_where_18 : decode cX8_where 18 = .ok (.ifCond .eq 16, 3) := by decide +kernel
theorem dX8_where_21 : decode cX8_where 21 = .ok (.aload_n 0, 1) := by decide +kernel
theorem dX8_where_22 : decode cX8_where 22 = .ok (.getfield 7, 3) := by decide +kernel
theorem dX8_where_25 : decode cX8_where 25 = .ok (.iconst 0, 1) := by decide +kernel
theorem dX8_where_26 : decode cX8_where 26 = .ok (.iaload, 1) := by decide +kernel
theorem dX8_where_27 : decode cX8_where 27 = .ok (.aload_n 0, 1) := by decide +kernel
theorem dX8_where_28 : decode cX8_where 28 = .ok (.getfield 67, 3) := by decide +kernel
theorem dX8_where_31 : decode cX8_where 31 = .ok (.if_icmp .ne 7, 3) := by decide +kernel
theorem dX8_where_34 : decode cX8_where 34 = .ok (.iconst 1, 1) := by decide +kernel
theorem dX8_where_35 : decode cX8_where 35 = .ok (.goto 4, 3) := by decide +kernel
theorem dX8_where_38 : decode cX8_where 38 = .ok (.iconst 0, 1) := by decide +kernel
theorem dX8_where_39 : decode cX8_where 39 = .ok (.ireturn, 1) := by decide +kernel
theorem dX8_dueOf_0 : decode cX8_dueOf 0 = .ok (.aload_n 0, 1) := by decide +kernel
theorem dX8_dueOf_1 : decode cX8_dueOf 1 = .ok (.getfield 7, 3) := by decide +kernel
theorem dX8_dueOf_4 : decode cX8_dueOf 4 = .ok (.iload_n 1, 1) := by decide +kernel
theorem dX8_dueOf_5 : decode cX8_dueOf 5 = .ok (.bipush 14, 2) := by decide +kernel
theorem dX8_dueOf_7 : decode cX8_dueOf 7 = .ok (.iadd, 1) := by decide +kernel
theorem dX8_dueOf_8 : decode cX8_dueOf 8 = .ok (.iload_n 2, 1) := by decide +kernel
theorem dX8_dueOf_9 : decode cX8_dueOf 9 = .ok (.iadd, 1) := by decide +kernel
theorem dX8_dueOf_10 : decode cX8_dueOf 10 = .ok (.iaload, 1) := by decide +kernel
theorem dX8_dueOf_11 : decode cX8_dueOf 11 = .ok (.istore_n 3, 1) := by decide +kernel
theorem dX8_dueOf_12 : decode cX8_dueOf 12 = .ok (.iload_n 3, 1) := by decide +kernel
theorem dX8_dueOf_13 : decode cX8_dueOf 13 = .ok (.iload_n 3, 1) := by decide +kernel
theorem dX8_dueOf_14 : decode cX8_dueOf 14 = .ok (.aload_n 0, 1) := by decide +kernel
theorem dX8_dueOf_15 : decode cX8_dueOf 15 = .ok (.getfield 29, 3) := by decide +kernel
theorem dX8_dueOf_18 : decode cX8_dueOf 18 = .ok (.aload_n 0, 1) := by decide +kernel
theorem dX8_dueOf_19 : decode cX8_dueOf 19 = .ok (.getfield 7, 3) := by decide +kernel
theorem dX8_dueOf_22 : decode cX8_dueOf 22 = .ok (.iload_n 1, 1) := by decide +kernel
theorem dX8_dueOf_23 : decode cX8_dueOf 23 = .ok (.iconst 5, 1) := by decide +kernel
theorem dX8_dueOf_24 : decode cX8_dueOf 24 = .ok (.iadd, 1) := by decide +kernel
theorem dX8_dueOf_25 : decode cX8_dueOf 25 = .ok (.iload_n 2, 1) := by decide +kernel
theorem dX8_dueOf_26 : decode cX8_dueOf 26 = .ok (.iadd, 1) := by decide +kernel
theorem dX8_dueOf_27 : decode cX8_dueOf 27 = .ok (.iaload, 1) := by decide +kernel
theorem dX8_dueOf_28 : decode cX8_dueOf 28 = .ok (.iaload, 1) := by decide +kernel
theorem dX8_dueOf_29 : decode cX8_dueOf 29 = .ok (.imul, 1) := by decide +kernel
theorem dX8_dueOf_30 : decode cX8_dueOf 30 = .ok (.bipush 100, 2) := by decide +kernel
theorem dX8_dueOf_32 : decode cX8_dueOf 32 = .ok (.idiv, 1) := by decide +kernel
theorem dX8_dueOf_33 : decode cX8_dueOf 33 = .ok (.iadd, 1) := by decide +kernel
theorem dX8_dueOf_34 : decode cX8_dueOf 34 = .ok (.ireturn, 1) := by decide +kernel
theorem dX8_paysOf_0 : decode cX8_paysOf 0 = .ok (.iload_n 3, 1) := by decide +kernel
theorem dX8_paysOf_1 : decode cX8_paysOf 1 = .ok (.istore 4, 2) := by decide +kernel
theorem dX8_paysOf_3 : decode cX8_paysOf 3 = .ok (.aload_n 0, 1) := by decide +kernel
theorem dX8_paysOf_4 : decode cX8_paysOf 4 = .ok (.getfield 7, 3) := by decide +kernel
theorem dX8_paysOf_7 : decode cX8_paysOf 7 = .ok (.iload_n 1, 1) := by decide +kernel
theorem dX8_paysOf_8 : decode cX8_paysOf 8 = .ok (.iconst 4, 1) := by decide +kernel
theorem dX8_paysOf_9 : decode cX8_paysOf 9 = .ok (.iadd, 1) := by decide +kernel
theorem dX8_paysOf_10 : decode cX8_paysOf 10 = .ok (.iaload, 1) := by decide +kernel
theorem dX8_paysOf_11 : decode cX8_paysOf 11 = .ok (.iconst 1, 1) := by decide +kernel
theorem dX8_paysOf_12 : decode cX8_paysOf 12 = .ok (.isub, 1) := by decide +kernel
theorem dX8_paysOf_13 : decode cX8_paysOf 13 = .ok (.istore 5, 2) := by decide +kernel
theorem dX8_paysOf_15 : decode cX8_paysOf 15 = .ok (.iload 5, 2) := by decide +kernel
theorem dX8_paysOf_17 : decode cX8_paysOf 17 = .ok (.ifCond .lt 67, 3) := by decide +kernel
theorem dX8_paysOf_20 : decode cX8_paysOf 20 = .ok (.aload_n 0, 1) := by decide +kernel
theorem dX8_paysOf_21 : decode cX8_paysOf 21 = .ok (.getfield 7, 3) := by decide +kernel
theorem dX8_paysOf_24 : decode cX8_paysOf 24 = .ok (.iload_n 1, 1) := by decide +kernel
theorem dX8_paysOf_25 : decode cX8_paysOf 25 = .ok (.bipush 23, 2) := by decide +kernel
theorem dX8_paysOf_27 : decode cX8_paysOf 27 = .ok (.iadd, 1) := by decide +kernel
theorem dX8_paysOf_28 : decode cX8_paysOf 28 = .ok (.iload 5, 2) := by decide +kernel
theorem dX8_paysOf_30 : decode cX8_paysOf 30 = .ok (.iadd, 1) := by decide +kernel
theorem dX8_paysOf_31 : decode cX8_paysOf 31 = .ok (.iaload, 1) := by decide +kernel
theorem dX8_paysOf_32 : decode cX8_paysOf 32 = .ok (.iload_n 2, 1) := by decide +kernel
theorem dX8_paysOf_33 : decode cX8_paysOf 33 = .ok (.if_icmp .ne 45, 3) := by decide +kernel
theorem dX8_paysOf_36 : decode cX8_paysOf 36 = .ok (.aload_n 0, 1) := by decide +kernel
theorem dX8_paysOf_37 : decode cX8_paysOf 37 = .ok (.iload_n 1, 1) := by decide +kernel
theorem dX8_paysOf_38 : decode cX8_paysOf 38 = .ok (.iload 5, 2) := by decide +kernel
theorem dX8_paysOf_40 : decode cX8_paysOf 40 = .ok (.invokevirtual 156, 3) := by decide +kernel
theorem dX8_paysOf_43 : decode cX8_paysOf 43 = .ok (.istore 6, 2) := by decide +kernel
theorem dX8_paysOf_45 : decode cX8_paysOf 45 = .ok (.aload_n 0, 1) := by decide +kernel
theorem dX8_paysOf_46 : decode cX8_paysOf 46 = .ok (.getfield 48, 3) := by decide +kernel
theorem dX8_paysOf_49 : decode cX8_paysOf 49 = .ok (.iload 5, 2) := by decide +kernel
theorem dX8_paysOf_51 : decode cX8_paysOf 51 = .ok (.iload 6, 2) := by decide +kernel
theorem dX8_paysOf_53 : decode cX8_paysOf 53 = .ok (.iload 4, 2) := by decide +kernel
theorem dX8_paysOf_55 : decode cX8_paysOf 55 = .ok (.if_icmp .ge 8, 3) := by decide +kernel
theorem dX8_paysOf_58 : decode cX8_paysOf 58 = .ok (.iload 6, 2) := by decide +kernel
theorem dX8_paysOf_60 : decode cX8_paysOf 60 = .ok (.goto 5, 3) := by decide +kernel
theorem dX8_paysOf_63 : decode cX8_paysOf 63 = .ok (.iload 4, 2) := by decide +kernel
theorem dX8_paysOf_65 : decode cX8_paysOf 65 = .ok (.iastore, 1) := by decide +kernel
theorem dX8_paysOf_66 : decode cX8_paysOf 66 = .ok (.iload 4, 2) := by decide +kernel
theorem dX8_paysOf_68 : decode cX8_paysOf 68 = .ok (.aload_n 0, 1) := by decide +kernel
theorem dX8_paysOf_69 : decode cX8_paysOf 69 = .ok (.getfield 48, 3) := by decide +kernel
theorem dX8_paysOf_72 : decode cX8_paysOf 72 = .ok (.iload 5, 2) := by decide +kernel
theorem dX8_paysOf_74 : decode cX8_paysOf 74 = .ok (.iaload, 1) := by decide +kernel
theorem dX8_paysOf_75 : decode cX8_paysOf 75 = .ok (.isub, 1) := by decide +kernel
theorem dX8_paysOf_76 : decode cX8_paysOf 76 = .ok (.istore 4, 2) := by decide +kernel
theorem dX8_paysOf_78 : decode cX8_paysOf 78 = .ok (.iinc 5 (-1), 3) := by decide +kernel
theorem dX8_paysOf_81 : decode cX8_paysOf 81 = .ok (.goto (-66), 3) := by decide +kernel
theorem dX8_paysOf_84 : decode cX8_paysOf 84 = .ok (.iload 4, 2) := by decide +kernel
theorem dX8_paysOf_86 : decode cX8_paysOf 86 = .ok (.ireturn, 1) := by decide +kernel
theorem dX8_paysHome_0 : decode cX8_paysHome 0 = .ok (.aload_n 0, 1) := by decide +kernel
theorem dX8_paysHome_1 : decode cX8_paysHome 1 = .ok (.iload_n 1, 1) := by decide +kernel
theorem dX8_paysHome_2 : decode cX8_paysHome 2 = .ok (.iconst 1, 1) := by decide +kernel
theorem dX8_paysHome_3 : decode cX8_paysHome 3 = .ok (.aload_n 0, 1) := by decide +kernel
theorem dX8_paysHome_4 : decode cX8_paysHome 4 = .ok (.getfield 144, 3) := by decide +kernel
theorem dX8_paysHome_7 : decode cX8_paysHome 7 = .ok (.invokevirtual 160, 3) := by decide +kernel
theorem dX8_paysHome_10 : decode cX8_paysHome 10 = .ok (.istore_n 3, 1) := by decide +kernel
theorem dX8_paysHome_11 : decode cX8_paysHome 11 = .ok (.aload_n 0, 1) := by decide +kernel
theorem dX8_paysHome_12 : decode cX8_paysHome 12 = .ok (.aload_n 0, 1) := by decide +kernel
theorem dX8_paysHome_13 : decode cX8_paysHome 13 = .ok (.iload_n 1, 1) := by decide +kernel
theorem dX8_paysHome_14 : decode cX8_paysHome 14 = .ok (.iconst 0, 1) := by decide +kernel
theorem dX8_paysHome_15 : decode cX8_paysHome 15 = .ok (.iload_n 2, 1) := by decide +kernel
theorem dX8_paysHome_16 : decode cX8_paysHome 16 = .ok (.aload_n 0, 1) := by decide +kernel
theorem dX8_paysHome_17 : decode cX8_paysHome 17 = .ok (.getfield 7, 3) := by decide +kernel
theorem dX8_paysHome_20 : decode cX8_paysHome 20 = .ok (.iload_n 1, 1) := by decide +kernel
theorem dX8_paysHome_21 : decode cX8_paysHome 21 = .ok (.iconst 3, 1) := by decide +kernel
theorem dX8_paysHome_22 : decode cX8_paysHome 22 = .ok (.iadd, 1) := by decide +kernel
theorem dX8_paysHome_23 : decode cX8_paysHome 23 = .ok (.iaload, 1) := by decide +kernel
theorem dX8_paysHome_24 : decode cX8_paysHome 24 = .ok (.iadd, 1) := by decide +kernel
theorem dX8_paysHome_25 : decode cX8_paysHome 25 = .ok (.iload_n 3, 1) := by decide +kernel
theorem dX8_paysHome_26 : decode cX8_paysHome 26 = .ok (.iadd, 1) := by decide +kernel
theorem dX8_paysHome_27 : decode cX8_paysHome 27 = .ok (.invokevirtual 160, 3) := by decide +kernel
theorem dX8_paysHome_30 : decode cX8_paysHome 30 = .ok (.putfield 164, 3) := by decide +kernel
theorem dX8_paysHome_33 : decode cX8_paysHome 33 = .ok (.return_, 1) := by decide +kernel
theorem dX8_owed_0 : decode cX8_owed 0 = .ok (.iconst 0, 1) := by decide +kernel
theorem dX8_owed_1 : decode cX8_owed 1 = .ok (.istore_n 1, 1) := by decide +kernel
theorem dX8_owed_2 : decode cX8_owed 2 = .ok (.iconst 0, 1) := by decide +kernel
theorem dX8_owed_3 : decode cX8_owed 3 = .ok (.istore_n 2, 1) := by decide +kernel
theorem dX8_owed_4 : decode cX8_owed 4 = .ok (.iload_n 2, 1) := by decide +kernel
theorem dX8_owed_5 : decode cX8_owed 5 = .ok (.aload_n 0, 1) := by decide +kernel
theorem dX8_owed_6 : decode cX8_owed 6 = .ok (.getfield 7, 3) := by decide +kernel
theorem dX8_owed_9 : decode cX8_owed 9 = .ok (.iconst 4, 1) := by decide +kernel
theorem dX8_owed_10 : decode cX8_owed 10 = .ok (.iaload, 1) := by decide +kernel
theorem dX8_owed_11 : decode cX8_owed 11 = .ok (.if_icmp .ge 18, 3) := by decide +kernel
theorem dX8_owed_14 : decode cX8_owed 14 = .ok (.iload_n 1, 1) := by decide +kernel
theorem dX8_owed_15 : decode cX8_owed 15 = .ok (.aload_n 0, 1) := by decide +kernel
theorem dX8_owed_16 : decode cX8_owed 16 = .ok (.iconst 0, 1) := by decide +kernel
theorem dX8_owed_17 : decode cX8_owed 17 = .ok (.iload_n 2, 1) := by decide +kernel
theorem dX8_owed_18 : decode cX8_owed 18 = .ok (.invokevirtual 156, 3) := by decide +kernel
theorem dX8_owed_21 : decode cX8_owed 21 = .ok (.iadd, 1) := by decide +kernel
theorem dX8_owed_22 : decode cX8_owed 22 = .ok (.istore_n 1, 1) := by decide +kernel
theorem dX8_owed_23 : decode cX8_owed 23 = .ok (.iinc 2 1, 3) := by decide +kernel
theorem dX8_owed_26 : decode cX8_owed 26 = .ok (.goto (-22), 3) := by decide +kernel
theorem dX8_owed_29 : decode cX8_owed 29 = .ok (.iload_n 1, 1) := by decide +kernel
theorem dX8_owed_30 : decode cX8_owed 30 = .ok (.ireturn, 1) := by decide +kernel
theorem dX8_leftNow_0 : decode cX8_leftNow 0 = .ok (.aload_n 0, 1) := by decide +kernel
theorem dX8_leftNow_1 : decode cX8_leftNow 1 = .ok (.iconst 0, 1) := by decide +kernel
theorem dX8_leftNow_2 : decode cX8_leftNow 2 = .ok (.aload_n 0, 1) := by decide +kernel
theorem dX8_leftNow_3 : decode cX8_leftNow 3 = .ok (.getfield 141, 3) := by decide +kernel
theorem dX8_leftNow_6 : decode cX8_leftNow 6 = .ok (.invokevirtual 167, 3) := by decide +kernel
theorem dX8_leftNow_9 : decode cX8_leftNow 9 = .ok (.aload_n 0, 1) := by decide +kernel
theorem dX8_leftNow_10 : decode cX8_leftNow 10 = .ok (.getfield 7, 3) := by decide +kernel
theorem dX8_leftNow_13 : decode cX8_leftNow 13 = .ok (.iconst 1, 1) := by decide +kernel
theorem dX8_leftNow_14 : decode cX8_leftNow 14 = .ok (.iaload, 1) := by decide +kernel
theorem dX8_leftNow_15 : decode cX8_leftNow 15 = .ok (.iconst 1, 1) := by decide +kernel
theorem dX8_leftNow_16 : decode cX8_leftNow 16 = .ok (.if_icmp .ne 7, 3) := by decide +kernel
theorem dX8_leftNow_19 : decode cX8_leftNow 19 = .ok (.iconst 0, 1) := by decide +kernel
theorem dX8_leftNow_20 : decode cX8_leftNow 20 = .ok (.goto 7, 3) := by decide +kernel
theorem dX8_leftNow_23 : decode cX8_leftNow 23 = .ok (.aload_n 0, 1) := by decide +kernel
theorem dX8_leftNow_24 : decode cX8_leftNow 24 = .ok (.getfield 164, 3) := by decide +kernel
theorem dX8_leftNow_27 : decode cX8_leftNow 27 = .ok (.ireturn, 1) := by decide +kernel
theorem dX8_told_0 : decode cX8_told 0 = .ok (.iload_n 1, 1) := by decide +kernel
theorem dX8_told_1 : decode cX8_told 1 = .ok (.tableswitch 158 0 14 #[75, 80, 85, 92, 99, 104, 109, 116, 121, 128, 133, 138, 143, 148, 153], 75) := by decide +kernel
theorem dX8_told_76 : decode cX8_told 76 = .ok (.aload_n 0, 1) := by decide +kernel
theorem dX8_told_77 : decode cX8_told 77 = .ok (.getfield 141, 3) := by decide +kernel
theorem dX8_told_80 : decode cX8_told 80 = .ok (.ireturn, 1) := by decide +kernel
theorem dX8_told_81 : decode cX8_told 81 = .ok (.aload_n 0, 1) := by decide +kernel
theorem dX8_told_82 : decode cX8_told 82 = .ok (.getfield 144, 3) := by decide +kernel
theorem dX8_told_85 : decode cX8_told 85 = .ok (.ireturn, 1) := by decide +kernel
theorem dX8_told_86 : decode cX8_told 86 = .ok (.aload_n 0, 1) := by decide +kernel
theorem dX8_told_87 : decode cX8_told 87 = .ok (.getfield 7, 3) := by decide +kernel
theorem dX8_told_90 : decode cX8_told 90 = .ok (.iconst 2, 1) := by decide +kernel
theorem dX8_told_91 : decode cX8_told 91 = .ok (.iaload, 1) := by decide +kernel
theorem dX8_told_92 : decode cX8_told 92 = .ok (.ireturn, 1) := by decide +kernel
theorem dX8_told_93 : decode cX8_told 93 = .ok (.aload_n 0, 1) := by decide +kernel
theorem dX8_told_94 : decode cX8_told 94 = .ok (.getfield 7, 3) := by decide +kernel
theorem dX8_told_97 : decode cX8_told 97 = .ok (.iconst 3, 1) := by decide +kernel
theorem dX8_told_98 : decode cX8_told 98 = .ok (.iaload, 1) := by decide +kernel
theorem dX8_told_99 : decode cX8_told 99 = .ok (.ireturn, 1) := by decide +kernel
theorem dX8_told_100 : decode cX8_told 100 = .ok (.aload_n 0, 1) := by decide +kernel
theorem dX8_told_101 : decode cX8_told 101 = .ok (.getfield 67, 3) := by decide +kernel
theorem dX8_told_104 : decode cX8_told 104 = .ok (.ireturn, 1) := by decide +kernel
theorem dX8_told_105 : decode cX8_told 105 = .ok (.aload_n 0, 1) := by decide +kernel
theorem dX8_told_106 : decode cX8_told 106 = .ok (.getfield 74, 3) := by decide +kernel
theorem dX8_told_109 : decode cX8_told 109 = .ok (.ireturn, 1) := by decide +kernel
theorem dX8_told_110 : decode cX8_told 110 = .ok (.aload_n 0, 1) := by decide +kernel
theorem dX8_told_111 : decode cX8_told 111 = .ok (.getfield 7, 3) := by decide +kernel
theorem dX8_told_114 : decode cX8_told 114 = .ok (.iconst 4, 1) := by decide +kernel
theorem dX8_told_115 : decode cX8_told 115 = .ok (.iaload, 1) := by decide +kernel
theorem dX8_told_116 : decode cX8_told 116 = .ok (.ireturn, 1) := by decide +kernel
theorem dX8_told_117 : decode cX8_told 117 = .ok (.aload_n 0, 1) := by decide +kernel
theorem dX8_told_118 : decode cX8_told 118 = .ok (.getfield 80, 3) := by decide +kernel
theorem dX8_told_121 : decode cX8_told 121 = .ok (.ireturn, 1) := by decide +kernel
theorem dX8_told_122 : decode cX8_told 122 = .ok (.aload_n 0, 1) := by decide +kernel
theorem dX8_told_123 : decode cX8_told 123 = .ok (.getfield 7, 3) := by decide +kernel
theorem dX8_told_126 : decode cX8_told 126 = .ok (.iconst 0, 1) := by decide +kernel
theorem dX8_told_127 : decode cX8_told 127 = .ok (.iaload, 1) := by decide +kernel
theorem dX8_told_128 : decode cX8_told 128 = .ok (.ireturn, 1) := by decide +kernel
theorem dX8_told_129 : decode cX8_told 129 = .ok (.aload_n 0, 1) := by decide +kernel
theorem dX8_told_130 : decode cX8_told 130 = .ok (.invokevirtual 171, 3) := by decide +kernel
theorem dX8_told_133 : decode cX8_told 133 = .ok (.ireturn, 1) := by decide +kernel
theorem dX8_told_134 : decode cX8_told 134 = .ok (.aload_n 0, 1) := by decide +kernel
theorem dX8_told_135 : decode cX8_told 135 = .ok (.invokevirtual 174, 3) := by decide +kernel
theorem dX8_told_138 : decode cX8_told 138 = .ok (.ireturn, 1) := by decide +kernel
theorem dX8_told_139 : decode cX8_told 139 = .ok (.aload_n 0, 1) := by decide +kernel
theorem dX8_told_140 : decode cX8_told 140 = .ok (.invokevirtual 177, 3) := by decide +kernel
theorem dX8_told_143 : decode cX8_told 143 = .ok (.ireturn, 1) := by decide +kernel
theorem dX8_told_144 : decode cX8_told 144 = .ok (.aload_n 0, 1) := by decide +kernel
theorem dX8_told_145 : decode cX8_told 145 = .ok (.getfield 147, 3) := by decide +kernel
theorem dX8_told_148 : decode cX8_told 148 = .ok (.ireturn, 1) := by decide +kernel
theorem dX8_told_149 : decode cX8_told 149 = .ok (.aload_n 0, 1) := by decide +kernel
theorem dX8_told_150 : decode cX8_told 150 = .ok (.getfield 150, 3) := by decide +kernel
theorem dX8_told_153 : decode cX8_told 153 = .ok (.ireturn, 1) := by decide +kernel
theorem dX8_told_154 : decode cX8_told 154 = .ok (.aload_n 0, 1) := by decide +kernel
theorem dX8_told_155 : decode cX8_told 155 = .ok (.getfield 153, 3) := by decide +kernel
theorem dX8_told_158 : decode cX8_told 158 = .ok (.ireturn, 1) := by decide +kernel
theorem dX8_told_159 : decode cX8_told 159 = .ok (.ldc 79, 2) := by decide +kernel
theorem dX8_told_161 : decode cX8_told 161 = .ok (.ireturn, 1) := by decide +kernel
theorem dX8_oddsOf_0 : decode cX8_oddsOf 0 = .ok (.aload_n 0, 1) := by decide +kernel
theorem dX8_oddsOf_1 : decode cX8_oddsOf 1 = .ok (.getfield 17, 3) := by decide +kernel
theorem dX8_oddsOf_4 : decode cX8_oddsOf 4 = .ok (.iload_n 1, 1) := by decide +kernel
theorem dX8_oddsOf_5 : decode cX8_oddsOf 5 = .ok (.iaload, 1) := by decide +kernel
theorem dX8_oddsOf_6 : decode cX8_oddsOf 6 = .ok (.aload_n 0, 1) := by decide +kernel
theorem dX8_oddsOf_7 : decode cX8_oddsOf 7 = .ok (.getfield 20, 3) := by decide +kernel
theorem dX8_oddsOf_10 : decode cX8_oddsOf 10 = .ok (.iload_n 1, 1) := by decide +kernel
theorem dX8_oddsOf_11 : decode cX8_oddsOf 11 = .ok (.iaload, 1) := by decide +kernel
theorem dX8_oddsOf_12 : decode cX8_oddsOf 12 = .ok (.bipush 9, 2) := by decide +kernel
theorem dX8_oddsOf_14 : decode cX8_oddsOf 14 = .ok (.iload_n 2, 1) := by decide +kernel
theorem dX8_oddsOf_15 : decode cX8_oddsOf 15 = .ok (.isub, 1) := by decide +kernel
theorem dX8_oddsOf_16 : decode cX8_oddsOf 16 = .ok (.imul, 1) := by decide +kernel
theorem dX8_oddsOf_17 : decode cX8_oddsOf 17 = .ok (.iadd, 1) := by decide +kernel
theorem dX8_oddsOf_18 : decode cX8_oddsOf 18 = .ok (.istore_n 3, 1) := by decide +kernel
theorem dX8_oddsOf_19 : decode cX8_oddsOf 19 = .ok (.iload_n 3, 1) := by decide +kernel
theorem dX8_oddsOf_20 : decode cX8_oddsOf 20 = .ok (.bipush 100, 2) := by decide +kernel
theorem dX8_oddsOf_22 : decode cX8_oddsOf 22 = .ok (.if_icmp .le 8, 3) := by decide +kernel
theorem dX8_oddsOf_25 : decode cX8_oddsOf 25 = .ok (.bipush 100, 2) := by decide +kernel
theorem dX8_oddsOf_27 : decode cX8_oddsOf 27 = .ok (.goto 4, 3) := by decide +kernel
theorem dX8_oddsOf_30 : decode cX8_oddsOf 30 = .ok (.iload_n 3, 1) := by decide +kernel
theorem dX8_oddsOf_31 : decode cX8_oddsOf 31 = .ok (.ireturn, 1) := by decide +kernel
theorem dX8_leg_0 : decode cX8_leg 0 = .ok (.aload_n 0, 1) := by decide +kernel
theorem dX8_leg_1 : decode cX8_leg 1 = .ok (.iload_n 1, 1) := by decide +kernel
theorem dX8_leg_2 : decode cX8_leg 2 = .ok (.invokevirtual 180, 3) := by decide +kernel
theorem dX8_leg_5 : decode cX8_leg 5 = .ok (.ifCond .ne 6, 3) := by decide +kernel
theorem dX8_leg_8 : decode cX8_leg 8 = .ok (.ldc 183, 2) := by decide +kernel
theorem dX8_leg_10 : decode cX8_leg 10 = .ok (.ireturn, 1) := by decide +kernel
theorem dX8_leg_11 : decode cX8_leg 11 = .ok (.iload_n 2, 1) := by decide +kernel
theorem dX8_leg_12 : decode cX8_leg 12 = .ok (.tableswitch 65 0 3 #[32, 39, 46, 53], 32) := by decide +kernel
theorem dX8_leg_44 : decode cX8_leg 44 = .ok (.aload_n 0, 1) := by decide +kernel
theorem dX8_leg_45 : decode cX8_leg 45 = .ok (.getfield 17, 3) := by decide +kernel
theorem dX8_leg_48 : decode cX8_leg 48 = .ok (.iload_n 1, 1) := by decide +kernel
theorem dX8_leg_49 : decode cX8_leg 49 = .ok (.iaload, 1) := by decide +kernel
theorem dX8_leg_50 : decode cX8_leg 50 = .ok (.ireturn, 1) := by decide +kernel
theorem dX8_leg_51 : decode cX8_leg 51 = .ok (.aload_n 0, 1) := by decide +kernel
theorem dX8_leg_52 : decode cX8_leg 52 = .ok (.getfield 20, 3) := by decide +kernel
theorem dX8_leg_55 : decode cX8_leg 55 = .ok (.iload_n 1, 1) := by decide +kernel
theorem dX8_leg_56 : decode cX8_leg 56 = .ok (.iaload, 1) := by decide +kernel
theorem dX8_leg_57 : decode cX8_leg 57 = .ok (.ireturn, 1) := by decide +kernel
theorem dX8_leg_58 : decode cX8_leg 58 = .ok (.aload_n 0, 1) := by decide +kernel
theorem dX8_leg_59 : decode cX8_leg 59 = .ok (.getfield 23, 3) := by decide +kernel
theorem dX8_leg_62 : decode cX8_leg 62 = .ok (.iload_n 1, 1) := by decide +kernel
theorem dX8_leg_63 : decode cX8_leg 63 = .ok (.iaload, 1) := by decide +kernel
theorem dX8_leg_64 : decode cX8_leg 64 = .ok (.ireturn, 1) := by decide +kernel
theorem dX8_leg_65 : decode cX8_leg 65 = .ok (.aload_n 0, 1) := by decide +kernel
theorem dX8_leg_66 : decode cX8_leg 66 = .ok (.iload_n 1, 1) := by decide +kernel
theorem dX8_leg_67 : decode cX8_leg 67 = .ok (.aload_n 0, 1) := by decide +kernel
theorem dX8_leg_68 : decode cX8_leg 68 = .ok (.getfield 7, 3) := by decide +kernel
theorem dX8_leg_71 : decode cX8_leg 71 = .ok (.iconst 2, 1) := by decide +kernel
theorem dX8_leg_72 : decode cX8_leg 72 = .ok (.iaload, 1) := by decide +kernel
theorem dX8_leg_73 : decode cX8_leg 73 = .ok (.invokevirtual 184, 3) := by decide +kernel
theorem dX8_leg_76 : decode cX8_leg 76 = .ok (.ireturn, 1) := by decide +kernel
theorem dX8_leg_77 : decode cX8_leg 77 = .ok (.ldc 79, 2) := by decide +kernel
theorem dX8_leg_79 : decode cX8_leg 79 = .ok (.ireturn, 1) := by decide +kernel
theorem dX8_yetOf_0 : decode cX8_yetOf 0 = .ok (.aload_n 0, 1) := by decide +kernel
theorem dX8_yetOf_1 : decode cX8_yetOf 1 = .ok (.getfield 26, 3) := by decide +kernel
theorem dX8_yetOf_4 : decode cX8_yetOf 4 = .ok (.iload_n 1, 1) := by decide +kernel
theorem dX8_yetOf_5 : decode cX8_yetOf 5 = .ok (.iaload, 1) := by decide +kernel
theorem dX8_yetOf_6 : decode cX8_yetOf 6 = .ok (.istore_n 2, 1) := by decide +kernel
theorem dX8_yetOf_7 : decode cX8_yetOf 7 = .ok (.iconst 0, 1) := by decide +kernel
theorem dX8_yetOf_8 : decode cX8_yetOf 8 = .ok (.istore_n 3, 1) := by decide +kernel
theorem dX8_yetOf_9 : decode cX8_yetOf 9 = .ok (.iload_n 3, 1) := by decide +kernel
theorem dX8_yetOf_10 : decode cX8_yetOf 10 = .ok (.aload_n 0, 1) := by decide +kernel
theorem dX8_yetOf_11 : decode cX8_yetOf 11 = .ok (.getfield 7, 3) := by decide +kernel
theorem dX8_yetOf_14 : decode cX8_yetOf 14 = .ok (.iconst 4, 1) := by decide +kernel
theorem dX8_yetOf_15 : decode cX8_yetOf 15 = .ok (.iaload, 1) := by decide +kernel
theorem dX8_yetOf_16 : decode cX8_yetOf 16 = .ok (.if_icmp .ge 37, 3) := by decide +kernel
theorem dX8_yetOf_19 : decode cX8_yetOf 19 = .ok (.iload_n 2, 1) := by decide +kernel
theorem dX8_yetOf_20 : decode cX8_yetOf 20 = .ok (.aload_n 0, 1) := by decide +kernel
theorem dX8_yetOf_21 : decode cX8_yetOf 21 = .ok (.getfield 7, 3) := by decide +kernel
theorem dX8_yetOf_24 : decode cX8_yetOf 24 = .ok (.iconst 5, 1) := by decide +kernel
theorem dX8_yetOf_25 : decode cX8_yetOf 25 = .ok (.iload_n 3, 1) := by decide +kernel
theorem dX8_yetOf_26 : decode cX8_yetOf 26 = .ok (.iadd, 1) := by decide +kernel
theorem dX8_yetOf_27 : decode cX8_yetOf 27 = .ok (.iaload, 1) := by decide +kernel
theorem dX8_yetOf_28 : decode cX8_yetOf 28 = .ok (.iload_n 1, 1) := by decide +kernel
theorem dX8_yetOf_29 : decode cX8_yetOf 29 = .ok (.if_icmp .ne 15, 3) := by decide +kernel
theorem dX8_yetOf_32 : decode cX8_yetOf 32 = .ok (.aload_n 0, 1) := by decide +kernel
theorem dX8_yetOf_33 : decode cX8_yetOf 33 = .ok (.getfield 7, 3) := by decide +kernel
theorem dX8_yetOf_36 : decode cX8_yetOf 36 = .ok (.bipush 14, 2) := by decide +kernel
theorem dX8_yetOf_38 : decode cX8_yetOf 38 = .ok (.iload_n 3, 1) := by decide +kernel
theorem dX8_yetOf_39 : decode cX8_yetOf 39 = .ok (.iadd, 1) := by decide +kernel
theorem dX8_yetOf_40 : decode cX8_yetOf 40 = .ok (.iaload, 1) := by decide +kernel
theorem dX8_yetOf_41 : decode cX8_yetOf 41 = .ok (.goto 4, 3) := by decide +kernel
theorem dX8_yetOf_44 : decode cX8_yetOf 44 = .ok (.iconst 0, 1) := by decide +kernel
theorem dX8_yetOf_45 : decode cX8_yetOf 45 = .ok (.isub, 1) := by decide +kernel
theorem dX8_yetOf_46 : decode cX8_yetOf 46 = .ok (.istore_n 2, 1) := by decide +kernel
theorem dX8_yetOf_47 : decode cX8_yetOf 47 = .ok (.iinc 3 1, 3) := by decide +kernel
theorem dX8_yetOf_50 : decode cX8_yetOf 50 = .ok (.goto (-41), 3) := by decide +kernel
theorem dX8_yetOf_53 : decode cX8_yetOf 53 = .ok (.iload_n 2, 1) := by decide +kernel
theorem dX8_yetOf_54 : decode cX8_yetOf 54 = .ok (.ireturn, 1) := by decide +kernel
theorem dX8_lender_0 : decode cX8_lender 0 = .ok (.aload_n 0, 1) := by decide +kernel
theorem dX8_lender_1 : decode cX8_lender 1 = .ok (.iload_n 1, 1) := by decide +kernel
theorem dX8_lender_2 : decode cX8_lender 2 = .ok (.invokevirtual 187, 3) := by decide +kernel
theorem dX8_lender_5 : decode cX8_lender 5 = .ok (.ifCond .ne 6, 3) := by decide +kernel
theorem dX8_lender_8 : decode cX8_lender 8 = .ok (.ldc 183, 2) := by decide +kernel
theorem dX8_lender_10 : decode cX8_lender 10 = .ok (.ireturn, 1) := by decide +kernel
theorem dX8_lender_11 : decode cX8_lender 11 = .ok (.iload_n 2, 1) := by decide +kernel
theorem dX8_lender_12 : decode cX8_lender 12 = .ok (.ifCond .ne 12, 3) := by decide +kernel
theorem dX8_lender_15 : decode cX8_lender 15 = .ok (.aload_n 0, 1) := by decide +kernel
theorem dX8_lender_16 : decode cX8_lender 16 = .ok (.getfield 26, 3) := by decide +kernel
theorem dX8_lender_19 : decode cX8_lender 19 = .ok (.iload_n 1, 1) := by decide +kernel
theorem dX8_lender_20 : decode cX8_lender 20 = .ok (.iaload, 1) := by decide +kernel
theorem dX8_lender_21 : decode cX8_lender 21 = .ok (.goto 32, 3) := by decide +kernel
theorem dX8_lender_24 : decode cX8_lender 24 = .ok (.iload_n 2, 1) := by decide +kernel
theorem dX8_lender_25 : decode cX8_lender 25 = .ok (.iconst 1, 1) := by decide +kernel
theorem dX8_lender_26 : decode cX8_lender 26 = .ok (.if_icmp .ne 12, 3) := by decide +kernel
theorem dX8_lender_29 : decode cX8_lender 29 = .ok (.aload_n 0, 1) := by decide +kernel
theorem dX8_lender_30 : decode cX8_lender 30 = .ok (.getfield 29, 3) := by decide +kernel
theorem dX8_lender_33 : decode cX8_lender 33 = .ok (.iload_n 1, 1) := by decide +kernel
theorem dX8_lender_34 : decode cX8_lender 34 = .ok (.iaload, 1) := by decide +kernel
theorem dX8_lender_35 : decode cX8_lender 35 = .ok (.goto 18, 3) := by decide +kernel
theorem dX8_lender_38 : decode cX8_lender 38 = .ok (.iload_n 2, 1) := by decide +kernel
theorem dX8_lender_39 : decode cX8_lender 39 = .ok (.iconst 2, 1) := by decide +kernel
theorem dX8_lender_40 : decode cX8_lender 40 = .ok (.if_icmp .ne 11, 3) := by decide +kernel
theorem dX8_lender_43 : decode cX8_lender 43 = .ok (.aload_n 0, 1) := by decide +kernel
theorem dX8_lender_44 : decode cX8_lender 44 = .ok (.iload_n 1, 1) := by decide +kernel
theorem dX8_lender_45 : decode cX8_lender 45 = .ok (.invokevirtual 190, 3) := by decide +kernel
theorem dX8_lender_48 : decode cX8_lender 48 = .ok (.goto 5, 3) := by decide +kernel
theorem dX8_lender_51 : decode cX8_lender 51 = .ok (.ldc 79, 2) := by decide +kernel
theorem dX8_lender_53 : decode cX8_lender 53 = .ok (.ireturn, 1) := by decide +kernel
theorem dX8_rankOf_0 : decode cX8_rankOf 0 = .ok (.iconst 0, 1) := by decide +kernel
theorem dX8_rankOf_1 : decode cX8_rankOf 1 = .ok (.istore_n 2, 1) := by decide +kernel
theorem dX8_rankOf_2 : decode cX8_rankOf 2 = .ok (.iconst 0, 1) := by decide +kernel
theorem dX8_rankOf_3 : decode cX8_rankOf 3 = .ok (.istore_n 3, 1) := by decide +kernel
theorem dX8_rankOf_4 : decode cX8_rankOf 4 = .ok (.iload_n 3, 1) := by decide +kernel
theorem dX8_rankOf_5 : decode cX8_rankOf 5 = .ok (.aload_n 0, 1) := by decide +kernel
theorem dX8_rankOf_6 : decode cX8_rankOf 6 = .ok (.getfield 7, 3) := by decide +kernel
theorem dX8_rankOf_9 : decode cX8_rankOf 9 = .ok (.iconst 4, 1) := by decide +kernel
theorem dX8_rankOf_10 : decode cX8_rankOf 10 = .ok (.iaload, 1) := by decide +kernel
theorem dX8_rankOf_11 : decode cX8_rankOf 11 = .ok (.if_icmp .ge 76, 3) := by decide +kernel
theorem dX8_rankOf_14 : decode cX8_rankOf 14 = .ok (.aload_n 0, 1) := by decide +kernel
theorem dX8_rankOf_15 : decode cX8_rankOf 15 = .ok (.getfield 7, 3) := by decide +kernel
theorem dX8_rankOf_18 : decode cX8_rankOf 18 = .ok (.bipush 23, 2) := by decide +kernel
theorem dX8_rankOf_20 : decode cX8_rankOf 20 = .ok (.iload_n 3, 1) := by decide +kernel
theorem dX8_rankOf_21 : decode cX8_rankOf 21 = .ok (.iadd, 1) := by decide +kernel
theorem dX8_rankOf_22 : decode cX8_rankOf 22 = .ok (.iaload, 1) := by decide +kernel
theorem dX8_rankOf_23 : decode cX8_rankOf 23 = .ok (.aload_n 0, 1) := by decide +kernel
theorem dX8_rankOf_24 : decode cX8_rankOf 24 = .ok (.getfield 7, 3) := by decide +kernel
theorem dX8_rankOf_27 : decode cX8_rankOf 27 = .ok (.bipush 23, 2) := by decide +kernel
theorem dX8_rankOf_29 : decode cX8_rankOf 29 = .ok (.iload_n 1, 1) := by decide +kernel
theorem dX8_rankOf_30 : decode cX8_rankOf 30 = .ok (.iadd, 1) := by decide +kernel
theorem dX8_rankOf_31 : decode cX8_rankOf 31 = .ok (.iaload, 1) := by decide +kernel
theorem dX8_rankOf_32 : decode cX8_rankOf 32 = .ok (.if_icmp .ne 16, 3) := by decide +kernel
theorem dX8_rankOf_35 : decode cX8_rankOf 35 = .ok (.iload_n 3, 1) := by decide +kernel
theorem dX8_rankOf_36 : decode cX8_rankOf 36 = .ok (.iload_n 1, 1) := by decide +kernel
theorem dX8_rankOf_37 : decode cX8_rankOf 37 = .ok (.if_icmp .le 7, 3) := by decide +kernel
theorem dX8_rankOf_40 : decode cX8_rankOf 40 = .ok (.iconst 1, 1) := by decide +kernel
theorem dX8_rankOf_41 : decode cX8_rankOf 41 = .ok (.goto 25, 3) := by decide +kernel
theorem dX8_rankOf_44 : decode cX8_rankOf 44 = .ok (.iconst 0, 1) := by decide +kernel
theorem dX8_rankOf_45 : decode cX8_rankOf 45 = .ok (.goto 21, 3) := by decide +kernel
theorem dX8_rankOf_48 : decode cX8_rankOf 48 = .ok (.aload_n 0, 1) := by decide +kernel
theorem dX8_rankOf_49 : decode cX8_rankOf 49 = .ok (.getfield 7, 3) := by decide +kernel
theorem dX8_rankOf_52 : decode cX8_rankOf 52 = .ok (.bipush 23, 2) := by decide +kernel
theorem dX8_rankOf_54 : decode cX8_rankOf 54 = .ok (.iload_n 3, 1) := by decide +kernel
theorem dX8_rankOf_55 : decode cX8_rankOf 55 = .ok (.iadd, 1) := by decide +kernel
theorem dX8_rankOf_56 : decode cX8_rankOf 56 = .ok (.iaload, 1) := by decide +kernel
theorem dX8_rankOf_57 : decode cX8_rankOf 57 = .ok (.iconst 1, 1) := by decide +kernel
theorem dX8_rankOf_58 : decode cX8_rankOf 58 = .ok (.if_icmp .ne 7, 3) := by decide +kernel
theorem dX8_rankOf_61 : decode cX8_rankOf 61 = .ok (.iconst 1, 1) := by decide +kernel
theorem dX8_rankOf_62 : decode cX8_rankOf 62 = .ok (.goto 4, 3) := by decide +kernel
theorem dX8_rankOf_65 : decode cX8_rankOf 65 = .ok (.iconst 0, 1) := by decide +kernel
theorem dX8_rankOf_66 : decode cX8_rankOf 66 = .ok (.istore 4, 2) := by decide +kernel
theorem dX8_rankOf_68 : decode cX8_rankOf 68 = .ok (.iload_n 2, 1) := by decide +kernel
theorem dX8_rankOf_69 : decode cX8_rankOf 69 = .ok (.iload 4, 2) := by decide +kernel
theorem dX8_rankOf_71 : decode cX8_rankOf 71 = .ok (.ifCond .eq 7, 3) := by decide +kernel
theorem dX8_rankOf_74 : decode cX8_rankOf 74 = .ok (.iconst 1, 1) := by decide +kernel
theorem dX8_rankOf_75 : decode cX8_rankOf 75 = .ok (.goto 4, 3) := by decide +kernel
theorem dX8_rankOf_78 : decode cX8_rankOf 78 = .ok (.iconst 0, 1) := by decide +kernel
theorem dX8_rankOf_79 : decode cX8_rankOf 79 = .ok (.iadd, 1) := by decide +kernel
theorem dX8_rankOf_80 : decode cX8_rankOf 80 = .ok (.istore_n 2, 1) := by decide +kernel
theorem dX8_rankOf_81 : decode cX8_rankOf 81 = .ok (.iinc 3 1, 3) := by decide +kernel
theorem dX8_rankOf_84 : decode cX8_rankOf 84 = .ok (.goto (-80), 3) := by decide +kernel
theorem dX8_rankOf_87 : decode cX8_rankOf 87 = .ok (.iload_n 2, 1) := by decide +kernel
theorem dX8_rankOf_88 : decode cX8_rankOf 88 = .ok (.ireturn, 1) := by decide +kernel
theorem dX8_loan_0 : decode cX8_loan 0 = .ok (.aload_n 0, 1) := by decide +kernel
theorem dX8_loan_1 : decode cX8_loan 1 = .ok (.iload_n 1, 1) := by decide +kernel
theorem dX8_loan_2 : decode cX8_loan 2 = .ok (.invokevirtual 193, 3) := by decide +kernel
theorem dX8_loan_5 : decode cX8_loan 5 = .ok (.ifCond .ne 6, 3) := by decide +kernel
theorem dX8_loan_8 : decode cX8_loan 8 = .ok (.ldc 183, 2) := by decide +kernel
theorem dX8_loan_10 : decode cX8_loan 10 = .ok (.ireturn, 1) := by decide +kernel
theorem dX8_loan_11 : decode cX8_loan 11 = .ok (.iload_n 2, 1) := by decide +kernel
theorem dX8_loan_12 : decode cX8_loan 12 = .ok (.tableswitch 92 0 5 #[40, 49, 59, 69, 76, 86], 40) := by decide +kernel
theorem dX8_loan_52 : decode cX8_loan 52 = .ok (.aload_n 0, 1) := by decide +kernel
theorem dX8_loan_53 : decode cX8_loan 53 = .ok (.getfield 7, 3) := by decide +kernel
theorem dX8_loan_56 : decode cX8_loan 56 = .ok (.iconst 5, 1) := by decide +kernel
theorem dX8_loan_57 : decode cX8_loan 57 = .ok (.iload_n 1, 1) := by decide +kernel
theorem dX8_loan_58 : decode cX8_loan 58 = .ok (.iadd, 1) := by decide +kernel
theorem dX8_loan_59 : decode cX8_loan 59 = .ok (.iaload, 1) := by decide +kernel
theorem dX8_loan_60 : decode cX8_loan 60 = .ok (.ireturn, 1) := by decide +kernel
theorem dX8_loan_61 : decode cX8_loan 61 = .ok (.aload_n 0, 1) := by decide +kernel
theorem dX8_loan_62 : decode cX8_loan 62 = .ok (.getfield 7, 3) := by decide +kernel
theorem dX8_loan_65 : decode cX8_loan 65 = .ok (.bipush 14, 2) := by decide +kernel
theorem dX8_loan_67 : decode cX8_loan 67 = .ok (.iload_n 1, 1) := by decide +kernel
theorem dX8_loan_68 : decode cX8_loan 68 = .ok (.iadd, 1) := by decide +kernel
theorem dX8_loan_69 : decode cX8_loan 69 = .ok (.iaload, 1) := by decide +kernel
theorem dX8_loan_70 : decode cX8_loan 70 = .ok (.ireturn, 1) := by decide +kernel
theorem dX8_loan_71 : decode cX8_loan 71 = .ok (.aload_n 0, 1) := by decide +kernel
theorem dX8_loan_72 : decode cX8_loan 72 = .ok (.getfield 7, 3) := by decide +kernel
theorem dX8_loan_75 : decode cX8_loan 75 = .ok (.bipush 23, 2) := by decide +kernel
theorem dX8_loan_77 : decode cX8_loan 77 = .ok (.iload_n 1, 1) := by decide +kernel
theorem dX8_loan_78 : decode cX8_loan 78 = .ok (.iadd, 1) := by decide +kernel
theorem dX8_loan_79 : decode cX8_loan 79 = .ok (.iaload, 1) := by decide +kernel
theorem dX8_loan_80 : decode cX8_loan 80 = .ok (.ireturn, 1) := by decide +kernel
theorem dX8_loan_81 : decode cX8_loan 81 = .ok (.aload_n 0, 1) := by decide +kernel
theorem dX8_loan_82 : decode cX8_loan 82 = .ok (.iconst 0, 1) := by decide +kernel
theorem dX8_loan_83 : decode cX8_loan 83 = .ok (.iload_n 1, 1) := by decide +kernel
theorem dX8_loan_84 : decode cX8_loan 84 = .ok (.invokevirtual 156, 3) := by decide +kernel
theorem dX8_loan_87 : decode cX8_loan 87 = .ok (.ireturn, 1) := by decide +kernel
theorem dX8_loan_88 : decode cX8_loan 88 = .ok (.aload_n 0, 1) := by decide +kernel
theorem dX8_loan_89 : decode cX8_loan 89 = .ok (.getfield 7, 3) := by decide +kernel
theorem dX8_loan_92 : decode cX8_loan 92 = .ok (.bipush 32, 2) := by decide +kernel
theorem dX8_loan_94 : decode cX8_loan 94 = .ok (.iload_n 1, 1) := by decide +kernel
theorem dX8_loan_95 : decode cX8_loan 95 = .ok (.iadd, 1) := by decide +kernel
theorem dX8_loan_96 : decode cX8_loan 96 = .ok (.iaload, 1) := by decide +kernel
theorem dX8_loan_97 : decode cX8_loan 97 = .ok (.ireturn, 1) := by decide +kernel
theorem dX8_loan_98 : decode cX8_loan 98 = .ok (.aload_n 0, 1) := by decide +kernel
theorem dX8_loan_99 : decode cX8_loan 99 = .ok (.iload_n 1, 1) := by decide +kernel
theorem dX8_loan_100 : decode cX8_loan 100 = .ok (.invokevirtual 196, 3) := by decide +kernel
theorem dX8_loan_103 : decode cX8_loan 103 = .ok (.ireturn, 1) := by decide +kernel
theorem dX8_loan_104 : decode cX8_loan 104 = .ok (.ldc 79, 2) := by decide +kernel
theorem dX8_loan_106 : decode cX8_loan 106 = .ok (.ireturn, 1) := by decide +kernel
theorem dX8_minds_0 : decode cX8_minds 0 = .ok (.aload_n 0, 1) := by decide +kernel
theorem dX8_minds_1 : decode cX8_minds 1 = .ok (.getfield 153, 3) := by decide +kernel
theorem dX8_minds_4 : decode cX8_minds 4 = .ok (.bipush 20, 2) := by decide +kernel
theorem dX8_minds_6 : decode cX8_minds 6 = .ok (.if_icmp .ne 51, 3) := by decide +kernel
theorem dX8_minds_9 : decode cX8_minds 9 = .ok (.iconst 0, 1) := by decide +kernel
theorem dX8_minds_10 : decode cX8_minds 10 = .ok (.istore_n 1, 1) := by decide +kernel
theorem dX8_minds_11 : decode cX8_minds 11 = .ok (.iload_n 1, 1) := by decide +kernel
theorem dX8_minds_12 : decode cX8_minds 12 = .ok (.sipush 798, 3) := by decide +kernel
theorem dX8_minds_15 : decode cX8_minds 15 = .ok (.if_icmp .ge 32, 3) := by decide +kernel
theorem dX8_minds_18 : decode cX8_minds 18 = .ok (.aload_n 0, 1) := by decide +kernel
theorem dX8_minds_19 : decode cX8_minds 19 = .ok (.getfield 7, 3) := by decide +kernel
theorem dX8_minds_22 : decode cX8_minds 22 = .ok (.sipush 168, 3) := by decide +kernel
theorem dX8_minds_25 : decode cX8_minds 25 = .ok (.iload_n 1, 1) := by decide +kernel
theorem dX8_minds_26 : decode cX8_minds 26 = .ok (.iadd, 1) := by decide +kernel
theorem dX8_minds_27 : decode cX8_minds 27 = .ok (.aload_n 0, 1) := by decide +kernel
theorem dX8_minds_28 : decode cX8_minds 28 = .ok (.getfield 7, 3) := by decide +kernel
theorem dX8_minds_31 : decode cX8_minds 31 = .ok (.sipush 168, 3) := by decide +kernel
theorem dX8_minds_34 : decode cX8_minds 34 = .ok (.iload_n 1, 1) := by decide +kernel
theorem dX8_minds_35 : decode cX8_minds 35 = .ok (.iadd, 1) := by decide +kernel
theorem dX8_minds_36 : decode cX8_minds 36 = .ok (.bipush 42, 2) := by decide +kernel
theorem dX8_minds_38 : decode cX8_minds 38 = .ok (.iadd, 1) := by decide +kernel
theorem dX8_minds_39 : decode cX8_minds 39 = .ok (.iaload, 1) := by decide +kernel
theorem dX8_minds_40 : decode cX8_minds 40 = .ok (.iastore, 1) := by decide +kernel
theorem dX8_minds_41 : decode cX8_minds 41 = .ok (.iinc 1 1, 3) := by decide +kernel
theorem dX8_minds_44 : decode cX8_minds 44 = .ok (.goto (-33), 3) := by decide +kernel
theorem dX8_minds_47 : decode cX8_minds 47 = .ok (.aload_n 0, 1) := by decide +kernel
theorem dX8_minds_48 : decode cX8_minds 48 = .ok (.dup, 1) := by decide +kernel
theorem dX8_minds_49 : decode cX8_minds 49 = .ok (.getfield 153, 3) := by decide +kernel
theorem dX8_minds_52 : decode cX8_minds 52 = .ok (.iconst 1, 1) := by decide +kernel
theorem dX8_minds_53 : decode cX8_minds 53 = .ok (.isub, 1) := by decide +kernel
theorem dX8_minds_54 : decode cX8_minds 54 = .ok (.putfield 153, 3) := by decide +kernel
theorem dX8_minds_57 : decode cX8_minds 57 = .ok (.aload_n 0, 1) := by decide +kernel
theorem dX8_minds_58 : decode cX8_minds 58 = .ok (.iconst 0, 1) := by decide +kernel
theorem dX8_minds_59 : decode cX8_minds 59 = .ok (.sipush 168, 3) := by decide +kernel
theorem dX8_minds_62 : decode cX8_minds 62 = .ok (.bipush 42, 2) := by decide +kernel
theorem dX8_minds_64 : decode cX8_minds 64 = .ok (.aload_n 0, 1) := by decide +kernel
theorem dX8_minds_65 : decode cX8_minds 65 = .ok (.getfield 153, 3) := by decide +kernel
theorem dX8_minds_68 : decode cX8_minds 68 = .ok (.imul, 1) := by decide +kernel
theorem dX8_minds_69 : decode cX8_minds 69 = .ok (.iadd, 1) := by decide +kernel
theorem dX8_minds_70 : decode cX8_minds 70 = .ok (.invokevirtual 199, 3) := by decide +kernel
theorem dX8_minds_73 : decode cX8_minds 73 = .ok (.aload_n 0, 1) := by decide +kernel
theorem dX8_minds_74 : decode cX8_minds 74 = .ok (.dup, 1) := by decide +kernel
theorem dX8_minds_75 : decode cX8_minds 75 = .ok (.getfield 153, 3) := by decide +kernel
theorem dX8_minds_78 : decode cX8_minds 78 = .ok (.iconst 1, 1) := by decide +kernel
theorem dX8_minds_79 : decode cX8_minds 79 = .ok (.iadd, 1) := by decide +kernel
theorem dX8_minds_80 : decode cX8_minds 80 = .ok (.putfield 153, 3) := by decide +kernel
theorem dX8_minds_83 : decode cX8_minds 83 = .ok (.return_, 1) := by decide +kernel
theorem dX8_undo_0 : decode cX8_undo 0 = .ok (.aload_n 0, 1) := by decide +kernel
theorem dX8_undo_1 : decode cX8_undo 1 = .ok (.getfield 153, 3) := by decide +kernel
theorem dX8_undo_4 : decode cX8_undo 4 = .ok (.ifCond .ne 6, 3) := by decide +kernel
theorem dX8_undo_7 : decode cX8_undo 7 = .ok (.ldc 202, 2) := by decide +kernel
theorem dX8_undo_9 : decode cX8_undo 9 = .ok (.ireturn, 1) := by decide +kernel
theorem dX8_undo_10 : decode cX8_undo 10 = .ok (.aload_n 0, 1) := by decide +kernel
theorem dX8_undo_11 : decode cX8_undo 11 = .ok (.getfield 7, 3) := by decide +kernel
theorem dX8_undo_14 : decode cX8_undo 14 = .ok (.bipush 41, 2) := by decide +kernel
theorem dX8_undo_16 : decode cX8_undo 16 = .ok (.iaload, 1) := by decide +kernel
theorem dX8_undo_17 : decode cX8_undo 17 = .ok (.istore_n 1, 1) := by decide +kernel
theorem dX8_undo_18 : decode cX8_undo 18 = .ok (.aload_n 0, 1) := by decide +kernel
theorem dX8_undo_19 : decode cX8_undo 19 = .ok (.dup, 1) := by decide +kernel
theorem dX8_undo_20 : decode cX8_undo 20 = .ok (.getfield 153, 3) := by decide +kernel
theorem dX8_undo_23 : decode cX8_undo 23 = .ok (.iconst 1, 1) := by decide +kernel
theorem dX8_undo_24 : decode cX8_undo 24 = .ok (.isub, 1) := by decide +kernel
theorem dX8_undo_25 : decode cX8_undo 25 = .ok (.putfield 153, 3) := by decide +kernel
theorem dX8_undo_28 : decode cX8_undo 28 = .ok (.aload_n 0, 1) := by decide +kernel
theorem dX8_undo_29 : decode cX8_undo 29 = .ok (.sipush 168, 3) := by decide +kernel
theorem dX8_undo_32 : decode cX8_undo 32 = .ok (.bipush 42, 2) := by decide +kernel
theorem dX8_undo_34 : decode cX8_undo 34 = .ok (.aload_n 0, 1) := by decide +kernel
theorem dX8_undo_35 : decode cX8_undo 35 = .ok (.getfield 153, 3) := by decide +kernel
theorem dX8_undo_38 : decode cX8_undo 38 = .ok (.imul, 1) := by decide +kernel
theorem dX8_undo_39 : decode cX8_undo 39 = .ok (.iadd, 1) := by decide +kernel
theorem dX8_undo_40 : decode cX8_undo 40 = .ok (.iconst 0, 1) := by decide +kernel
theorem dX8_undo_41 : decode cX8_undo 41 = .ok (.invokevirtual 199, 3) := by decide +kernel
theorem dX8_undo_44 : decode cX8_undo 44 = .ok (.aload_n 0, 1) := by decide +kernel
theorem dX8_undo_45 : decode cX8_undo 45 = .ok (.getfield 7, 3) := by decide +kernel
theorem dX8_undo_48 : decode cX8_undo 48 = .ok (.bipush 41, 2) := by decide +kernel
theorem dX8_undo_50 : decode cX8_undo 50 = .ok (.iload_n 1, 1) := by decide +kernel
theorem dX8_undo_51 : decode cX8_undo 51 = .ok (.iastore, 1) := by decide +kernel
theorem dX8_undo_52 : decode cX8_undo 52 = .ok (.aload_n 0, 1) := by decide +kernel
theorem dX8_undo_53 : decode cX8_undo 53 = .ok (.getfield 153, 3) := by decide +kernel
theorem dX8_undo_56 : decode cX8_undo 56 = .ok (.ireturn, 1) := by decide +kernel
theorem dX8_takesLoan_0 : decode cX8_takesLoan 0 = .ok (.aload_n 0, 1) := by decide +kernel
theorem dX8_takesLoan_1 : decode cX8_takesLoan 1 = .ok (.getfield 7, 3) := by decide +kernel
theorem dX8_takesLoan_4 : decode cX8_takesLoan 4 = .ok (.iload_n 1, 1) := by decide +kernel
theorem dX8_takesLoan_5 : decode cX8_takesLoan 5 = .ok (.iconst 4, 1) := by decide +kernel
theorem dX8_takesLoan_6 : decode cX8_takesLoan 6 = .ok (.iadd, 1) := by decide +kernel
theorem dX8_takesLoan_7 : decode cX8_takesLoan 7 = .ok (.iaload, 1) := by decide +kernel
theorem dX8_takesLoan_8 : decode cX8_takesLoan 8 = .ok (.istore 5, 2) := by decide +kernel
theorem dX8_takesLoan_10 : decode cX8_takesLoan 10 = .ok (.aload_n 0, 1) := by decide +kernel
theorem dX8_takesLoan_11 : decode cX8_takesLoan 11 = .ok (.getfield 7, 3) := by decide +kernel
theorem dX8_takesLoan_14 : decode cX8_takesLoan 14 = .ok (.iload_n 1, 1) := by decide +kernel
theorem dX8_takesLoan_15 : decode cX8_takesLoan 15 = .ok (.iconst 5, 1) := by decide +kernel
theorem dX8_takesLoan_16 : decode cX8_takesLoan 16 = .ok (.iadd, 1) := by decide +kernel
theorem dX8_takesLoan_17 : decode cX8_takesLoan 17 = .ok (.iload 5, 2) := by decide +kernel
theorem dX8_takesLoan_19 : decode cX8_takesLoan 19 = .ok (.iadd, 1) := by decide +kernel
theorem dX8_takesLoan_20 : decode cX8_takesLoan 20 = .ok (.iload_n 2, 1) := by decide +kernel
theorem dX8_takesLoan_21 : decode cX8_takesLoan 21 = .ok (.iastore, 1) := by decide +kernel
theorem dX8_takesLoan_22 : decode cX8_takesLoan 22 = .ok (.aload_n 0, 1) := by decide +kernel
theorem dX8_takesLoan_23 : decode cX8_takesLoan 23 = .ok (.getfield 7, 3) := by decide +kernel
theorem dX8_takesLoan_26 : decode cX8_takesLoan 26 = .ok (.iload_n 1, 1) := by decide +kernel
theorem dX8_takesLoan_27 : decode cX8_takesLoan 27 = .ok (.bipush 14, 2) := by decide +kernel
theorem dX8_takesLoan_29 : decode cX8_takesLoan 29 = .ok (.iadd, 1) := by decide +kernel
theorem dX8_takesLoan_30 : decode cX8_takesLoan 30 = .ok (.iload 5, 2) := by decide +kernel
theorem dX8_takesLoan_32 : decode cX8_takesLoan 32 = .ok (.iadd, 1) := by decide +kernel
theorem dX8_takesLoan_33 : decode cX8_takesLoan 33 = .ok (.iload_n 3, 1) := by decide +kernel
theorem dX8_takesLoan_34 : decode cX8_takesLoan 34 = .ok (.iastore, 1) := by decide +kernel
theorem dX8_takesLoan_35 : decode cX8_takesLoan 35 = .ok (.aload_n 0, 1) := by decide +kernel
theorem dX8_takesLoan_36 : decode cX8_takesLoan 36 = .ok (.getfield 7, 3) := by decide +kernel
theorem dX8_takesLoan_39 : decode cX8_takesLoan 39 = .ok (.iload_n 1, 1) := by decide +kernel
theorem dX8_takesLoan_40 : decode cX8_takesLoan 40 = .ok (.bipush 23, 2) := by decide +kernel
theorem dX8_takesLoan_42 : decode cX8_takesLoan 42 = .ok (.iadd, 1) := by decide +kernel
theorem dX8_takesLoan_43 : decode cX8_takesLoan 43 = .ok (.iload 5, 2) := by decide +kernel
theorem dX8_takesLoan_45 : decode cX8_takesLoan 45 = .ok (.iadd, 1) := by decide +kernel
theorem dX8_takesLoan_46 : decode cX8_takesLoan 46 = .ok (.iload 4, 2) := by decide +kernel
theorem dX8_takesLoan_48 : decode cX8_takesLoan 48 = .ok (.ifCond .eq 7, 3) := by decide +kernel
theorem dX8_takesLoan_51 : decode cX8_takesLoan 51 = .ok (.iconst 1, 1) := by decide +kernel
theorem dX8_takesLoan_52 : decode cX8_takesLoan 52 = .ok (.goto 4, 3) := by decide +kernel
theorem dX8_takesLoan_55 : decode cX8_takesLoan 55 = .ok (.iconst 0, 1) := by decide +kernel
theorem dX8_takesLoan_56 : decode cX8_takesLoan 56 = .ok (.iastore, 1) := by decide +kernel
theorem dX8_takesLoan_57 : decode cX8_takesLoan 57 = .ok (.aload_n 0, 1) := by decide +kernel
theorem dX8_takesLoan_58 : decode cX8_takesLoan 58 = .ok (.getfield 7, 3) := by decide +kernel
theorem dX8_takesLoan_61 : decode cX8_takesLoan 61 = .ok (.iload_n 1, 1) := by decide +kernel
theorem dX8_takesLoan_62 : decode cX8_takesLoan 62 = .ok (.bipush 32, 2) := by decide +kernel
theorem dX8_takesLoan_64 : decode cX8_takesLoan 64 = .ok (.iadd, 1) := by decide +kernel
theorem dX8_takesLoan_65 : decode cX8_takesLoan 65 = .ok (.iload 5, 2) := by decide +kernel
theorem dX8_takesLoan_67 : decode cX8_takesLoan 67 = .ok (.iadd, 1) := by decide +kernel
theorem dX8_takesLoan_68 : decode cX8_takesLoan 68 = .ok (.aload_n 0, 1) := by decide +kernel
theorem dX8_takesLoan_69 : decode cX8_takesLoan 69 = .ok (.getfield 7, 3) := by decide +kernel
theorem dX8_takesLoan_72 : decode cX8_takesLoan 72 = .ok (.iload_n 1, 1) := by decide +kernel
theorem dX8_takesLoan_73 : decode cX8_takesLoan 73 = .ok (.iconst 0, 1) := by decide +kernel
theorem dX8_takesLoan_74 : decode cX8_takesLoan 74 = .ok (.iadd, 1) := by decide +kernel
theorem dX8_takesLoan_75 : decode cX8_takesLoan 75 = .ok (.iaload, 1) := by decide +kernel
theorem dX8_takesLoan_76 : decode cX8_takesLoan 76 = .ok (.iastore, 1) := by decide +kernel
theorem dX8_takesLoan_77 : decode cX8_takesLoan 77 = .ok (.aload_n 0, 1) := by decide +kernel
theorem dX8_takesLoan_78 : decode cX8_takesLoan 78 = .ok (.getfield 7, 3) := by decide +kernel
theorem dX8_takesLoan_81 : decode cX8_takesLoan 81 = .ok (.iload_n 1, 1) := by decide +kernel
theorem dX8_takesLoan_82 : decode cX8_takesLoan 82 = .ok (.iconst 4, 1) := by decide +kernel
theorem dX8_takesLoan_83 : decode cX8_takesLoan 83 = .ok (.iadd, 1) := by decide +kernel
theorem dX8_takesLoan_84 : decode cX8_takesLoan 84 = .ok (.dup2, 1) := by decide +kernel
theorem dX8_takesLoan_85 : decode cX8_takesLoan 85 = .ok (.iaload, 1) := by decide +kernel
theorem dX8_takesLoan_86 : decode cX8_takesLoan 86 = .ok (.iconst 1, 1) := by decide +kernel
theorem dX8_takesLoan_87 : decode cX8_takesLoan 87 = .ok (.iadd, 1) := by decide +kernel
theorem dX8_takesLoan_88 : decode cX8_takesLoan 88 = .ok (.iastore, 1) := by decide +kernel
theorem dX8_takesLoan_89 : decode cX8_takesLoan 89 = .ok (.aload_n 0, 1) := by decide +kernel
theorem dX8_takesLoan_90 : decode cX8_takesLoan 90 = .ok (.getfield 7, 3) := by decide +kernel
theorem dX8_takesLoan_93 : decode cX8_takesLoan 93 = .ok (.iload_n 1, 1) := by decide +kernel
theorem dX8_takesLoan_94 : decode cX8_takesLoan 94 = .ok (.iconst 3, 1) := by decide +kernel
theorem dX8_takesLoan_95 : decode cX8_takesLoan 95 = .ok (.iadd, 1) := by decide +kernel
theorem dX8_takesLoan_96 : decode cX8_takesLoan 96 = .ok (.dup2, 1) := by decide +kernel
theorem dX8_takesLoan_97 : decode cX8_takesLoan 97 = .ok (.iaload, 1) := by decide +kernel
theorem dX8_takesLoan_98 : decode cX8_takesLoan 98 = .ok (.iload_n 3, 1) := by decide +kernel
theorem dX8_takesLoan_99 : decode cX8_takesLoan 99 = .ok (.iadd, 1) := by decide +kernel
theorem dX8_takesLoan_100 : decode cX8_takesLoan 100 = .ok (.iastore, 1) := by decide +kernel
theorem dX8_takesLoan_101 : decode cX8_takesLoan 101 = .ok (.return_, 1) := by decide +kernel
theorem dX8_borrow_0 : decode cX8_borrow 0 = .ok (.aload_n 0, 1) := by decide +kernel
theorem dX8_borrow_1 : decode cX8_borrow 1 = .ok (.iload_n 1, 1) := by decide +kernel
theorem dX8_borrow_2 : decode cX8_borrow 2 = .ok (.invokevirtual 187, 3) := by decide +kernel
theorem dX8_borrow_5 : decode cX8_borrow 5 = .ok (.ifCond .ne 6, 3) := by decide +kernel
theorem dX8_borrow_8 : decode cX8_borrow 8 = .ok (.ldc 183, 2) := by decide +kernel
theorem dX8_borrow_10 : decode cX8_borrow 10 = .ok (.ireturn, 1) := by decide +kernel
theorem dX8_borrow_11 : decode cX8_borrow 11 = .ok (.iload_n 2, 1) := by decide +kernel
theorem dX8_borrow_12 : decode cX8_borrow 12 = .ok (.i2l, 1) := by decide +kernel
theorem dX8_borrow_13 : decode cX8_borrow 13 = .ok (.lconst 1, 1) := by decide +kernel
theorem dX8_borrow_14 : decode cX8_borrow 14 = .ok (.ldc2_w 203, 3) := by decide +kernel
theorem dX8_borrow_17 : decode cX8_borrow 17 = .ok (.invokestatic 70, 3) := by decide +kernel
theorem dX8_borrow_20 : decode cX8_borrow 20 = .ok (.ifCond .ne 6, 3) := by decide +kernel
theorem dX8_borrow_23 : decode cX8_borrow 23 = .ok (.ldc 79, 2) := by decide +kernel
theorem dX8_borrow_25 : decode cX8_borrow 25 = .ok (.ireturn, 1) := by decide +kernel
theorem dX8_borrow_26 : decode cX8_borrow 26 = .ok (.aload_n 0, 1) := by decide +kernel
theorem dX8_borrow_27 : decode cX8_borrow 27 = .ok (.invokevirtual 171, 3) := by decide +kernel
theorem dX8_borrow_30 : decode cX8_borrow 30 = .ok (.ifCond .ne 12, 3) := by decide +kernel
theorem dX8_borrow_33 : decode cX8_borrow 33 = .ok (.aload_n 0, 1) := by decide +kernel
theorem dX8_borrow_34 : decode cX8_borrow 34 = .ok (.iload_n 1, 1) := by decide +kernel
theorem dX8_borrow_35 : decode cX8_borrow 35 = .ok (.invokevirtual 190, 3) := by decide +kernel
theorem dX8_borrow_38 : decode cX8_borrow 38 = .ok (.iload_n 2, 1) := by decide +kernel
theorem dX8_borrow_39 : decode cX8_borrow 39 = .ok (.if_icmp .ge 6, 3) := by decide +kernel
theorem dX8_borrow_42 : decode cX8_borrow 42 = .ok (.ldc 202, 2) := by decide +kernel
theorem dX8_borrow_44 : decode cX8_borrow 44 = .ok (.ireturn, 1) := by decide +kernel
theorem dX8_borrow_45 : decode cX8_borrow 45 = .ok (.aload_n 0, 1) := by decide +kernel
theorem dX8_borrow_46 : decode cX8_borrow 46 = .ok (.getfield 7, 3) := by decide +kernel
theorem dX8_borrow_49 : decode cX8_borrow 49 = .ok (.iconst 4, 1) := by decide +kernel
theorem dX8_borrow_50 : decode cX8_borrow 50 = .ok (.iaload, 1) := by decide +kernel
theorem dX8_borrow_51 : decode cX8_borrow 51 = .ok (.bipush 8, 2) := by decide +kernel
theorem dX8_borrow_53 : decode cX8_borrow 53 = .ok (.if_icmp .ne 6, 3) := by decide +kernel
theorem dX8_borrow_56 : decode cX8_borrow 56 = .ok (.ldc 83, 2) := by decide +kernel
theorem dX8_borrow_58 : decode cX8_borrow 58 = .ok (.ireturn, 1) := by decide +kernel
theorem dX8_borrow_59 : decode cX8_borrow 59 = .ok (.aload_n 0, 1) := by decide +kernel
theorem dX8_borrow_60 : decode cX8_borrow 60 = .ok (.invokevirtual 205, 3) := by decide +kernel
theorem dX8_borrow_63 : decode cX8_borrow 63 = .ok (.aload_n 0, 1) := by decide +kernel
theorem dX8_borrow_64 : decode cX8_borrow 64 = .ok (.iconst 0, 1) := by decide +kernel
theorem dX8_borrow_65 : decode cX8_borrow 65 = .ok (.iload_n 1, 1) := by decide +kernel
theorem dX8_borrow_66 : decode cX8_borrow 66 = .ok (.iload_n 2, 1) := by decide +kernel
theorem dX8_borrow_67 : decode cX8_borrow 67 = .ok (.iload_n 3, 1) := by decide +kernel
theorem dX8_borrow_68 : decode cX8_borrow 68 = .ok (.invokevirtual 208, 3) := by decide +kernel
theorem dX8_borrow_71 : decode cX8_borrow 71 = .ok (.aload_n 0, 1) := by decide +kernel
theorem dX8_borrow_72 : decode cX8_borrow 72 = .ok (.getfield 7, 3) := by decide +kernel
theorem dX8_borrow_75 : decode cX8_borrow 75 = .ok (.iconst 4, 1) := by decide +kernel
theorem dX8_borrow_76 : decode cX8_borrow 76 = .ok (.iaload, 1) := by decide +kernel
theorem dX8_borrow_77 : decode cX8_borrow 77 = .ok (.iconst 1, 1) := by decide +kernel
theorem dX8_borrow_78 : decode cX8_borrow 78 = .ok (.isub, 1) := by decide +kernel
theorem dX8_borrow_79 : decode cX8_borrow 79 = .ok (.ireturn, 1) := by decide +kernel
theorem dX8_repair_0 : decode cX8_repair 0 = .ok (.iload_n 1, 1) := by decide +kernel
theorem dX8_repair_1 : decode cX8_repair 1 = .ok (.i2l, 1) := by decide +kernel
theorem dX8_repair_2 : decode cX8_repair 2 = .ok (.lconst 1, 1) := by decide +kernel
theorem dX8_repair_3 : decode cX8_repair 3 = .ok (.ldc2_w 212, 3) := by decide +kernel
theorem dX8_repair_6 : decode cX8_repair 6 = .ok (.invokestatic 70, 3) := by decide +kernel
theorem dX8_repair_9 : decode cX8_repair 9 = .ok (.ifCond .ne 6, 3) := by decide +kernel
theorem dX8_repair_12 : decode cX8_repair 12 = .ok (.ldc 79, 2) := by decide +kernel
theorem dX8_repair_14 : decode cX8_repair 14 = .ok (.ireturn, 1) := by decide +kernel
theorem dX8_repair_15 : decode cX8_repair 15 = .ok (.aload_n 0, 1) := by decide +kernel
theorem dX8_repair_16 : decode cX8_repair 16 = .ok (.invokevirtual 171, 3) := by decide +kernel
theorem dX8_repair_19 : decode cX8_repair 19 = .ok (.ifCond .ne 38, 3) := by decide +kernel
theorem dX8_repair_22 : decode cX8_repair 22 = .ok (.aload_n 0, 1) := by decide +kernel
theorem dX8_repair_23 : decode cX8_repair 23 = .ok (.getfield 7, 3) := by decide +kernel
theorem dX8_repair_26 : decode cX8_repair 26 = .ok (.iconst 2, 1) := by decide +kernel
theorem dX8_repair_27 : decode cX8_repair 27 = .ok (.iaload, 1) := by decide +kernel
theorem dX8_repair_28 : decode cX8_repair 28 = .ok (.iload_n 1, 1) := by decide +kernel
theorem dX8_repair_29 : decode cX8_repair 29 = .ok (.iadd, 1) := by decide +kernel
theorem dX8_repair_30 : decode cX8_repair 30 = .ok (.bipush 9, 2) := by decide +kernel
theorem dX8_repair_32 : decode cX8_repair 32 = .ok (.if_icmp .gt 25, 3) := by decide +kernel
theorem dX8_repair_35 : decode cX8_repair 35 = .ok (.aload_n 0, 1) := by decide +kernel
theorem dX8_repair_36 : decode cX8_repair 36 = .ok (.getfield 7, 3) := by decide +kernel
theorem dX8_repair_39 : decode cX8_repair 39 = .ok (.iconst 3, 1) := by decide +kernel
theorem dX8_repair_40 : decode cX8_repair 40 = .ok (.iaload, 1) := by decide +kernel
theorem dX8_repair_41 : decode cX8_repair 41 = .ok (.iload_n 1, 1) := by decide +kernel
theorem dX8_repair_42 : decode cX8_repair 42 = .ok (.aload_n 0, 1) := by decide +kernel
theorem dX8_repair_43 : decode cX8_repair 43 = .ok (.getfield 23, 3) := by decide +kernel
theorem dX8_repair_46 : decode cX8_repair 46 = .ok (.aload_n 0, 1) := by decide +kernel
theorem dX8_repair_47 : decode cX8_repair 47 = .ok (.getfield 7, 3) := by decide +kernel
theorem dX8_repair_50 : decode cX8_repair 50 = .ok (.iconst 0, 1) := by decide +kernel
theorem dX8_repair_51 : decode cX8_repair 51 = .ok (.iaload, 1) := by decide +kernel
theorem dX8_repair_52 : decode cX8_repair 52 = .ok (.iaload, 1) := by decide +kernel
theorem dX8_repair_53 : decode cX8_repair 53 = .ok (.imul, 1) := by decide +kernel
theorem dX8_repair_54 : decode cX8_repair 54 = .ok (.if_icmp .ge 6, 3) := by decide +kernel
theorem dX8_repair_57 : decode cX8_repair 57 = .ok (.ldc 202, 2) := by decide +kernel
theorem dX8_repair_59 : decode cX8_repair 59 = .ok (.ireturn, 1) := by decide +kernel
theorem dX8_repair_60 : decode cX8_repair 60 = .ok (.aload_n 0, 1) := by decide +kernel
theorem dX8_repair_61 : decode cX8_repair 61 = .ok (.invokevirtual 205, 3) := by decide +kernel
theorem dX8_repair_64 : decode cX8_repair 64 = .ok (.aload_n 0, 1) := by decide +kernel
theorem dX8_repair_65 : decode cX8_repair 65 = .ok (.getfield 7, 3) := by decide +kernel
theorem dX8_repair_68 : decode cX8_repair 68 = .ok (.iconst 3, 1) := by decide +kernel
theorem dX8_repair_69 : decode cX8_repair 69 = .ok (.dup2, 1) := by decide +kernel
theorem dX8_repair_70 : decode cX8_repair 70 = .ok (.iaload, 1) := by decide +kernel
theorem dX8_repair_71 : decode cX8_repair 71 = .ok (.iload_n 1, 1) := by decide +kernel
theorem dX8_repair_72 : decode cX8_repair 72 = .ok (.aload_n 0, 1) := by decide +kernel
theorem dX8_repair_73 : decode cX8_repair 73 = .ok (.getfield 23, 3) := by decide +kernel
theorem dX8_repair_76 : decode cX8_repair 76 = .ok (.aload_n 0, 1) := by decide +kernel
theorem dX8_repair_77 : decode cX8_repair 77 = .ok (.getfield 7, 3) := by decide +kernel
theorem dX8_repair_80 : decode cX8_repair 80 = .ok (.iconst 0, 1) := by decide +kernel
theorem dX8_repair_81 : decode cX8_repair 81 = .ok (.iaload, 1) := by decide +kernel
theorem dX8_repair_82 : decode cX8_repair 82 = .ok (.iaload, 1) := by decide +kernel
theorem dX8_repair_83 : decode cX8_repair 83 = .ok (.imul, 1) := by decide +kernel
theorem dX8_repair_84 : decode cX8_repair 84 = .ok (.isub, 1) := by decide +kernel
theorem dX8_repair_85 : decode cX8_repair 85 = .ok (.iastore, 1) := by decide +kernel
theorem dX8_repair_86 : decode cX8_repair 86 = .ok (.aload_n 0, 1) := by decide +kernel
theorem dX8_repair_87 : decode cX8_repair 87 = .ok (.getfield 7, 3) := by decide +kernel
theorem dX8_repair_90 : decode cX8_repair 90 = .ok (.iconst 2, 1) := by decide +kernel
theorem dX8_repair_91 : decode cX8_repair 91 = .ok (.dup2, 1) := by decide +kernel
theorem dX8_repair_92 : decode cX8_repair 92 = .ok (.iaload, 1) := by decide +kernel
theorem dX8_repair_93 : decode cX8_repair 93 = .ok (.iload_n 1, 1) := by decide +kernel
theorem dX8_repair_94 : decode cX8_repair 94 = .ok (.iadd, 1) := by decide +kernel
theorem dX8_repair_95 : decode cX8_repair 95 = .ok (.iastore, 1) := by decide +kernel
theorem dX8_repair_96 : decode cX8_repair 96 = .ok (.aload_n 0, 1) := by decide +kernel
theorem dX8_repair_97 : decode cX8_repair 97 = .ok (.getfield 7, 3) := by decide +kernel
theorem dX8_repair_100 : decode cX8_repair 100 = .ok (.iconst 2, 1) := by decide +kernel
theorem dX8_repair_101 : decode cX8_repair 101 = .ok (.iaload, 1) := by decide +kernel
theorem dX8_repair_102 : decode cX8_repair 102 = .ok (.ireturn, 1) := by decide +kernel
theorem dX8_sails_0 : decode cX8_sails 0 = .ok (.iload_n 1, 1) := by decide +kernel
theorem dX8_sails_1 : decode cX8_sails 1 = .ok (.ifCond .eq 39, 3) := by decide +kernel
theorem dX8_sails_4 : decode cX8_sails 4 = .ok (.aload_n 0, 1) := by decide +kernel
theorem dX8_sails_5 : decode cX8_sails 5 = .ok (.getfield 7, 3) := by decide +kernel
theorem dX8_sails_8 : decode cX8_sails 8 = .ok (.iconst 0, 1) := by decide +kernel
theorem dX8_sails_9 : decode cX8_sails 9 = .ok (.dup2, 1) := by decide +kernel
theorem dX8_sails_10 : decode cX8_sails 10 = .ok (.iaload, 1) := by decide +kernel
theorem dX8_sails_11 : decode cX8_sails 11 = .ok (.iconst 1, 1) := by decide +kernel
theorem dX8_sails_12 : decode cX8_sails 12 = .ok (.iadd, 1) := by decide +kernel
theorem dX8_sails_13 : decode cX8_sails 13 = .ok (.iastore, 1) := by decide +kernel
theorem dX8_sails_14 : decode cX8_sails 14 = .ok (.aload_n 0, 1) := by decide +kernel
theorem dX8_sails_15 : decode cX8_sails 15 = .ok (.getfield 7, 3) := by decide +kernel
theorem dX8_sails_18 : decode cX8_sails 18 = .ok (.iconst 2, 1) := by decide +kernel
theorem dX8_sails_19 : decode cX8_sails 19 = .ok (.dup2, 1) := by decide +kernel
theorem dX8_sails_20 : decode cX8_sails 20 = .ok (.iaload, 1) := by decide +kernel
theorem dX8_sails_21 : decode cX8_sails 21 = .ok (.aload_n 0, 1) := by decide +kernel
theorem dX8_sails_22 : decode cX8_sails 22 = .ok (.getfield 7, 3) := by decide +kernel
theorem dX8_sails_25 : decode cX8_sails 25 = .ok (.iconst 2, 1) := by decide +kernel
theorem dX8_sails_26 : decode cX8_sails 26 = .ok (.iaload, 1) := by decide +kernel
theorem dX8_sails_27 : decode cX8_sails 27 = .ok (.ifCond .le 7, 3) := by decide +kernel
theorem dX8_sails_30 : decode cX8_sails 30 = .ok (.iconst 1, 1) := by decide +kernel
theorem dX8_sails_31 : decode cX8_sails 31 = .ok (.goto 4, 3) := by decide +kernel
theorem dX8_sails_34 : decode cX8_sails 34 = .ok (.iconst 0, 1) := by decide +kernel
theorem dX8_sails_35 : decode cX8_sails 35 = .ok (.isub, 1) := by decide +kernel
theorem dX8_sails_36 : decode cX8_sails 36 = .ok (.iastore, 1) := by decide +kernel
theorem dX8_sails_37 : decode cX8_sails 37 = .ok (.goto 10, 3) := by decide +kernel
theorem dX8_sails_40 : decode cX8_sails 40 = .ok (.aload_n 0, 1) := by decide +kernel
theorem dX8_sails_41 : decode cX8_sails 41 = .ok (.getfield 7, 3) := by decide +kernel
theorem dX8_sails_44 : decode cX8_sails 44 = .ok (.iconst 1, 1) := by decide +kernel
theorem dX8_sails_45 : decode cX8_sails 45 = .ok (.iconst 1, 1) := by decide +kernel
theorem dX8_sails_46 : decode cX8_sails 46 = .ok (.iastore, 1) := by decide +kernel
theorem dX8_sails_47 : decode cX8_sails 47 = .ok (.return_, 1) := by decide +kernel
theorem dX8_sail_0 : decode cX8_sail 0 = .ok (.aload_n 0, 1) := by decide +kernel
theorem dX8_sail_1 : decode cX8_sail 1 = .ok (.invokevirtual 171, 3) := by decide +kernel
theorem dX8_sail_4 : decode cX8_sail 4 = .ok (.ifCond .eq 6, 3) := by decide +kernel
theorem dX8_sail_7 : decode cX8_sail 7 = .ok (.ldc 202, 2) := by decide +kernel
theorem dX8_sail_9 : decode cX8_sail 9 = .ok (.ireturn, 1) := by decide +kernel
theorem dX8_sail_10 : decode cX8_sail 10 = .ok (.aload_n 0, 1) := by decide +kernel
theorem dX8_sail_11 : decode cX8_sail 11 = .ok (.invokevirtual 205, 3) := by decide +kernel
theorem dX8_sail_14 : decode cX8_sail 14 = .ok (.aload_n 0, 1) := by decide +kernel
theorem dX8_sail_15 : decode cX8_sail 15 = .ok (.iload_n 1, 1) := by decide +kernel
theorem dX8_sail_16 : decode cX8_sail 16 = .ok (.invokevirtual 214, 3) := by decide +kernel
theorem dX8_sail_19 : decode cX8_sail 19 = .ok (.aload_n 0, 1) := by decide +kernel
theorem dX8_sail_20 : decode cX8_sail 20 = .ok (.getfield 7, 3) := by decide +kernel
theorem dX8_sail_23 : decode cX8_sail 23 = .ok (.iconst 0, 1) := by decide +kernel
theorem dX8_sail_24 : decode cX8_sail 24 = .ok (.iaload, 1) := by decide +kernel
theorem dX8_sail_25 : decode cX8_sail 25 = .ok (.ireturn, 1) := by decide +kernel
theorem dX8_draw_0 : decode cX8_draw 0 = .ok (.aload_n 0, 1) := by decide +kernel
theorem dX8_draw_1 : decode cX8_draw 1 = .ok (.getfield 7, 3) := by decide +kernel
theorem dX8_draw_4 : decode cX8_draw 4 = .ok (.bipush 41, 2) := by decide +kernel
theorem dX8_draw_6 : decode cX8_draw 6 = .ok (.aload_n 0, 1) := by decide +kernel
theorem dX8_draw_7 : decode cX8_draw 7 = .ok (.getfield 7, 3) := by decide +kernel
theorem dX8_draw_10 : decode cX8_draw 10 = .ok (.bipush 41, 2) := by decide +kernel
theorem dX8_draw_12 : decode cX8_draw 12 = .ok (.iaload, 1) := by decide +kernel
theorem dX8_draw_13 : decode cX8_draw 13 = .ok (.i2l, 1) := by decide +kernel
theorem dX8_draw_14 : decode cX8_draw 14 = .ok (.ldc2_w 218, 3) := by decide +kernel
theorem dX8_draw_17 : decode cX8_draw 17 = .ok (.lmul, 1) := by decide +kernel
theorem dX8_draw_18 : decode cX8_draw 18 = .ok (.ldc2_w 220, 3) := by decide +kernel
theorem dX8_draw_21 : decode cX8_draw 21 = .ok (.ladd, 1) := by decide +kernel
theorem dX8_draw_22 : decode cX8_draw 22 = .ok (.ldc2_w 222, 3) := by decide +kernel
theorem dX8_draw_25 : decode cX8_draw 25 = .ok (.lrem, 1) := by decide +kernel
theorem dX8_draw_26 : decode cX8_draw 26 = .ok (.l2i, 1) := by decide +kernel
theorem dX8_draw_27 : decode cX8_draw 27 = .ok (.iastore, 1) := by decide +kernel
theorem dX8_draw_28 : decode cX8_draw 28 = .ok (.aload_n 0, 1) := by decide +kernel
theorem dX8_draw_29 : decode cX8_draw 29 = .ok (.getfield 7, 3) := by decide +kernel
theorem dX8_draw_32 : decode cX8_draw 32 = .ok (.bipush 41, 2) := by decide +kernel
theorem dX8_draw_34 : decode cX8_draw 34 = .ok (.iaload, 1) := by decide +kernel
theorem dX8_draw_35 : decode cX8_draw 35 = .ok (.ldc 224, 2) := by decide +kernel
theorem dX8_draw_37 : decode cX8_draw 37 = .ok (.idiv, 1) := by decide +kernel
theorem dX8_draw_38 : decode cX8_draw 38 = .ok (.iload_n 1, 1) := by decide +kernel
theorem dX8_draw_39 : decode cX8_draw 39 = .ok (.irem, 1) := by decide +kernel
theorem dX8_draw_40 : decode cX8_draw 40 = .ok (.ireturn, 1) := by decide +kernel
theorem dX8_drift_0 : decode cX8_drift 0 = .ok (.iload_n 1, 1) := by decide +kernel
theorem dX8_drift_1 : decode cX8_drift 1 = .ok (.i2l, 1) := by decide +kernel
theorem dX8_drift_2 : decode cX8_drift 2 = .ok (.lconst 1, 1) := by decide +kernel
theorem dX8_drift_3 : decode cX8_drift 3 = .ok (.ldc2_w 225, 3) := by decide +kernel
theorem dX8_drift_6 : decode cX8_drift 6 = .ok (.invokestatic 70, 3) := by decide +kernel
theorem dX8_drift_9 : decode cX8_drift 9 = .ok (.ifCond .ne 6, 3) := by decide +kernel
theorem dX8_drift_12 : decode cX8_drift 12 = .ok (.ldc 79, 2) := by decide +kernel
theorem dX8_drift_14 : decode cX8_drift 14 = .ok (.ireturn, 1) := by decide +kernel
theorem dX8_drift_15 : decode cX8_drift 15 = .ok (.aload_n 0, 1) := by decide +kernel
theorem dX8_drift_16 : decode cX8_drift 16 = .ok (.invokevirtual 171, 3) := by decide +kernel
theorem dX8_drift_19 : decode cX8_drift 19 = .ok (.ifCond .eq 6, 3) := by decide +kernel
theorem dX8_drift_22 : decode cX8_drift 22 = .ok (.ldc 202, 2) := by decide +kernel
theorem dX8_drift_24 : decode cX8_drift 24 = .ok (.ireturn, 1) := by decide +kernel
theorem dX8_drift_25 : decode cX8_drift 25 = .ok (.aload_n 0, 1) := by decide +kernel
theorem dX8_drift_26 : decode cX8_drift 26 = .ok (.invokevirtual 205, 3) := by decide +kernel
theorem dX8_drift_29 : decode cX8_drift 29 = .ok (.iconst 0, 1) := by decide +kernel
theorem dX8_drift_30 : decode cX8_drift 30 = .ok (.istore_n 2, 1) := by decide +kernel
theorem dX8_drift_31 : decode cX8_drift 31 = .ok (.iload_n 2, 1) := by decide +kernel
theorem dX8_drift_32 : decode cX8_drift 32 = .ok (.iload_n 1, 1) := by decide +kernel
theorem dX8_drift_33 : decode cX8_drift 33 = .ok (.if_icmp .ge 52, 3) := by decide +kernel
theorem dX8_drift_36 : decode cX8_drift 36 = .ok (.aload_n 0, 1) := by decide +kernel
theorem dX8_drift_37 : decode cX8_drift 37 = .ok (.invokevirtual 171, 3) := by decide +kernel
theorem dX8_drift_40 : decode cX8_drift 40 = .ok (.ifCond .ne 45, 3) := by decide +kernel
theorem dX8_drift_43 : decode cX8_drift 43 = .ok (.aload_n 0, 1) := by decide +kernel
theorem dX8_drift_44 : decode cX8_drift 44 = .ok (.aload_n 0, 1) := by decide +kernel
theorem dX8_drift_45 : decode cX8_drift 45 = .ok (.getfield 7, 3) := by decide +kernel
theorem dX8_drift_48 : decode cX8_drift 48 = .ok (.iconst 0, 1) := by decide +kernel
theorem dX8_drift_49 : decode cX8_drift 49 = .ok (.iaload, 1) := by decide +kernel
theorem dX8_drift_50 : decode cX8_drift 50 = .ok (.aload_n 0, 1) := by decide +kernel
theorem dX8_drift_51 : decode cX8_drift 51 = .ok (.getfield 7, 3) := by decide +kernel
theorem dX8_drift_54 : decode cX8_drift 54 = .ok (.iconst 2, 1) := by decide +kernel
theorem dX8_drift_55 : decode cX8_drift 55 = .ok (.iaload, 1) := by decide +kernel
theorem dX8_drift_56 : decode cX8_drift 56 = .ok (.invokevirtual 184, 3) := by decide +kernel
theorem dX8_drift_59 : decode cX8_drift 59 = .ok (.istore_n 3, 1) := by decide +kernel
theorem dX8_drift_60 : decode cX8_drift 60 = .ok (.aload_n 0, 1) := by decide +kernel
theorem dX8_drift_61 : decode cX8_drift 61 = .ok (.aload_n 0, 1) := by decide +kernel
theorem dX8_drift_62 : decode cX8_drift 62 = .ok (.bipush 100, 2) := by decide +kernel
theorem dX8_drift_64 : decode cX8_drift 64 = .ok (.invokevirtual 227, 3) := by decide +kernel
theorem dX8_drift_67 : decode cX8_drift 67 = .ok (.iload_n 3, 1) := by decide +kernel
theorem dX8_drift_68 : decode cX8_drift 68 = .ok (.if_icmp .lt 7, 3) := by decide +kernel
theorem dX8_drift_71 : decode cX8_drift 71 = .ok (.iconst 1, 1) := by decide +kernel
theorem dX8_drift_72 : decode cX8_drift 72 = .ok (.goto 4, 3) := by decide +kernel
theorem dX8_drift_75 : decode cX8_drift 75 = .ok (.iconst 0, 1) := by decide +kernel
theorem dX8_drift_76 : decode cX8_drift 76 = .ok (.invokevirtual 214, 3) := by decide +kernel
theorem dX8_drift_79 : decode cX8_drift 79 = .ok (.iinc 2 1, 3) := by decide +kernel
theorem dX8_drift_82 : decode cX8_drift 82 = .ok (.goto (-51), 3) := by decide +kernel
theorem dX8_drift_85 : decode cX8_drift 85 = .ok (.aload_n 0, 1) := by decide +kernel
theorem dX8_drift_86 : decode cX8_drift 86 = .ok (.invokevirtual 171, 3) := by decide +kernel
theorem dX8_drift_89 : decode cX8_drift 89 = .ok (.ireturn, 1) := by decide +kernel
theorem dX8_isGone_0 : decode cX8_isGone 0 = .ok (.aload_n 0, 1) := by decide +kernel
theorem dX8_isGone_1 : decode cX8_isGone 1 = .ok (.getfield 63, 3) := by decide +kernel
theorem dX8_isGone_4 : decode cX8_isGone 4 = .ok (.ifCond .eq 13, 3) := by decide +kernel
theorem dX8_isGone_7 : decode cX8_isGone 7 = .ok (.aload_n 0, 1) := by decide +kernel
theorem dX8_isGone_8 : decode cX8_isGone 8 = .ok (.getfield 7, 3) := by decide +kernel
theorem dX8_isGone_11 : decode cX8_isGone 11 = .ok (.iconst 1, 1) := by decide +kernel
theorem dX8_isGone_12 : decode cX8_isGone 12 = .ok (.iaload, 1) := by decide +kernel
theorem dX8_isGone_13 : decode cX8_isGone 13 = .ok (.iconst 1, 1) := by decide +kernel
theorem dX8_isGone_14 : decode cX8_isGone 14 = .ok (.if_icmp .ne 7, 3) := by decide +kernel
theorem dX8_isGone_17 : decode cX8_isGone 17 = .ok (.iconst 1, 1) := by decide +kernel
theorem dX8_isGone_18 : decode cX8_isGone 18 = .ok (.goto 4, 3) := by decide +kernel
theorem dX8_isGone_21 : decode cX8_isGone 21 = .ok (.iconst 0, 1) := by decide +kernel
theorem dX8_isGone_22 : decode cX8_isGone 22 = .ok (.ireturn, 1) := by decide +kernel
theorem dX8_through_0 : decode cX8_through 0 = .ok (.ldc2_w 230, 3) := by decide +kernel
theorem dX8_through_3 : decode cX8_through 3 = .ok (.lstore 4, 2) := by decide +kernel
theorem dX8_through_5 : decode cX8_through 5 = .ok (.iload_n 3, 1) := by decide +kernel
theorem dX8_through_6 : decode cX8_through 6 = .ok (.istore 6, 2) := by decide +kernel
theorem dX8_through_8 : decode cX8_through 8 = .ok (.iload_n 1, 1) := by decide +kernel
theorem dX8_through_9 : decode cX8_through 9 = .ok (.istore 7, 2) := by decide +kernel
theorem dX8_through_11 : decode cX8_through 11 = .ok (.iload 7, 2) := by decide +kernel
theorem dX8_through_13 : decode cX8_through 13 = .ok (.iload_n 2, 1) := by decide +kernel
theorem dX8_through_14 : decode cX8_through 14 = .ok (.if_icmp .ge 45, 3) := by decide +kernel
theorem dX8_through_17 : decode cX8_through 17 = .ok (.lload 4, 2) := by decide +kernel
theorem dX8_through_19 : decode cX8_through 19 = .ok (.bipush 100, 2) := by decide +kernel
theorem dX8_through_21 : decode cX8_through 21 = .ok (.aload_n 0, 1) := by decide +kernel
theorem dX8_through_22 : decode cX8_through 22 = .ok (.iload 7, 2) := by decide +kernel
theorem dX8_through_24 : decode cX8_through 24 = .ok (.iload 6, 2) := by decide +kernel
theorem dX8_through_26 : decode cX8_through 26 = .ok (.invokevirtual 184, 3) := by decide +kernel
theorem dX8_through_29 : decode cX8_through 29 = .ok (.isub, 1) := by decide +kernel
theorem dX8_through_30 : decode cX8_through 30 = .ok (.i2l, 1) := by decide +kernel
theorem dX8_through_31 : decode cX8_through 31 = .ok (.lmul, 1) := by decide +kernel
theorem dX8_through_32 : decode cX8_through 32 = .ok (.ldc2_w 232, 3) := by decide +kernel
theorem dX8_through_35 : decode cX8_through 35 = .ok (.ldiv, 1) := by decide +kernel
theorem dX8_through_36 : decode cX8_through 36 = .ok (.lstore 4, 2) := by decide +kernel
theorem dX8_through_38 : decode cX8_through 38 = .ok (.iload 6, 2) := by decide +kernel
theorem dX8_through_40 : decode cX8_through 40 = .ok (.iload 6, 2) := by decide +kernel
theorem dX8_through_42 : decode cX8_through 42 = .ok (.ifCond .le 7, 3) := by decide +kernel
theorem dX8_through_45 : decode cX8_through 45 = .ok (.iconst 1, 1) := by decide +kernel
theorem dX8_through_46 : decode cX8_through 46 = .ok (.goto 4, 3) := by decide +kernel
theorem dX8_through_49 : decode cX8_through 49 = .ok (.iconst 0, 1) := by decide +kernel
theorem dX8_through_50 : decode cX8_through 50 = .ok (.isub, 1) := by decide +kernel
theorem dX8_through_51 : decode cX8_through 51 = .ok (.istore 6, 2) := by decide +kernel
theorem dX8_through_53 : decode cX8_through 53 = .ok (.iinc 7 1, 3) := by decide +kernel
theorem dX8_through_56 : decode cX8_through 56 = .ok (.goto (-45), 3) := by decide +kernel
theorem dX8_through_59 : decode cX8_through 59 = .ok (.lload 4, 2) := by decide +kernel
theorem dX8_through_61 : decode cX8_through 61 = .ok (.lreturn, 1) := by decide +kernel
theorem dX8_homeNow_0 : decode cX8_homeNow 0 = .ok (.aload_n 0, 1) := by decide +kernel
theorem dX8_homeNow_1 : decode cX8_homeNow 1 = .ok (.aload_n 0, 1) := by decide +kernel
theorem dX8_homeNow_2 : decode cX8_homeNow 2 = .ok (.getfield 7, 3) := by decide +kernel
theorem dX8_homeNow_5 : decode cX8_homeNow 5 = .ok (.iconst 0, 1) := by decide +kernel
theorem dX8_homeNow_6 : decode cX8_homeNow 6 = .ok (.iaload, 1) := by decide +kernel
theorem dX8_homeNow_7 : decode cX8_homeNow 7 = .ok (.aload_n 0, 1) := by decide +kernel
theorem dX8_homeNow_8 : decode cX8_homeNow 8 = .ok (.getfield 67, 3) := by decide +kernel
theorem dX8_homeNow_11 : decode cX8_homeNow 11 = .ok (.aload_n 0, 1) := by decide +kernel
theorem dX8_homeNow_12 : decode cX8_homeNow 12 = .ok (.getfield 7, 3) := by decide +kernel
theorem dX8_homeNow_15 : decode cX8_homeNow 15 = .ok (.iconst 2, 1) := by decide +kernel
theorem dX8_homeNow_16 : decode cX8_homeNow 16 = .ok (.iaload, 1) := by decide +kernel
theorem dX8_homeNow_17 : decode cX8_homeNow 17 = .ok (.invokevirtual 234, 3) := by decide +kernel
theorem dX8_homeNow_20 : decode cX8_homeNow 20 = .ok (.lreturn, 1) := by decide +kernel
theorem dX8_comesHome_0 : decode cX8_comesHome 0 = .ok (.aload_n 0, 1) := by decide +kernel
theorem dX8_comesHome_1 : decode cX8_comesHome 1 = .ok (.invokevirtual 238, 3) := by decide +kernel
theorem dX8_comesHome_4 : decode cX8_comesHome 4 = .ok (.ifCond .eq 8, 3) := by decide +kernel
theorem dX8_comesHome_7 : decode cX8_comesHome 7 = .ok (.ldc 202, 2) := by decide +kernel
theorem dX8_comesHome_9 : decode cX8_comesHome 9 = .ok (.goto 8, 3) := by decide +kernel
theorem dX8_comesHome_12 : decode cX8_comesHome 12 = .ok (.aload_n 0, 1) := by decide +kernel
theorem dX8_comesHome_13 : decode cX8_comesHome 13 = .ok (.invokevirtual 241, 3) := by decide +kernel
theorem dX8_comesHome_16 : decode cX8_comesHome 16 = .ok (.l2i, 1) := by decide +kernel
theorem dX8_comesHome_17 : decode cX8_comesHome 17 = .ok (.ireturn, 1) := by decide +kernel
theorem dX8_rateNow_0 : decode cX8_rateNow 0 = .ok (.aload_n 0, 1) := by decide +kernel
theorem dX8_rateNow_1 : decode cX8_rateNow 1 = .ok (.invokevirtual 241, 3) := by decide +kernel
theorem dX8_rateNow_4 : decode cX8_rateNow 4 = .ok (.lstore_n 1, 1) := by decide +kernel
theorem dX8_rateNow_5 : decode cX8_rateNow 5 = .ok (.iconst 0, 1) := by decide +kernel
theorem dX8_rateNow_6 : decode cX8_rateNow 6 = .ok (.istore_n 3, 1) := by decide +kernel
theorem dX8_rateNow_7 : decode cX8_rateNow 7 = .ok (.iload_n 3, 1) := by decide +kernel
theorem dX8_rateNow_8 : decode cX8_rateNow 8 = .ok (.sipush 999, 3) := by decide +kernel
theorem dX8_rateNow_11 : decode cX8_rateNow 11 = .ok (.if_icmp .gt 25, 3) := by decide +kernel
theorem dX8_rateNow_14 : decode cX8_rateNow 14 = .ok (.bipush 100, 2) := by decide +kernel
theorem dX8_rateNow_16 : decode cX8_rateNow 16 = .ok (.iload_n 3, 1) := by decide +kernel
theorem dX8_rateNow_17 : decode cX8_rateNow 17 = .ok (.iadd, 1) := by decide +kernel
theorem dX8_rateNow_18 : decode cX8_rateNow 18 = .ok (.i2l, 1) := by decide +kernel
theorem dX8_rateNow_19 : decode cX8_rateNow 19 = .ok (.lload_n 1, 1) := by decide +kernel
theorem dX8_rateNow_20 : decode cX8_rateNow 20 = .ok (.lmul, 1) := by decide +kernel
theorem dX8_rateNow_21 : decode cX8_rateNow 21 = .ok (.ldc2_w 245, 3) := by decide +kernel
theorem dX8_rateNow_24 : decode cX8_rateNow 24 = .ok (.lcmp, 1) := by decide +kernel
theorem dX8_rateNow_25 : decode cX8_rateNow 25 = .ok (.ifCond .lt 5, 3) := by decide +kernel
theorem dX8_rateNow_28 : decode cX8_rateNow 28 = .ok (.iload_n 3, 1) := by decide +kernel
theorem dX8_rateNow_29 : decode cX8_rateNow 29 = .ok (.ireturn, 1) := by decide +kernel
theorem dX8_rateNow_30 : decode cX8_rateNow 30 = .ok (.iinc 3 1, 3) := by decide +kernel
theorem dX8_rateNow_33 : decode cX8_rateNow 33 = .ok (.goto (-26), 3) := by decide +kernel
theorem dX8_rateNow_36 : decode cX8_rateNow 36 = .ok (.iconst (-1), 1) := by decide +kernel
theorem dX8_rateNow_37 : decode cX8_rateNow 37 = .ok (.ireturn, 1) := by decide +kernel
theorem dX8_rate_0 : decode cX8_rate 0 = .ok (.aload_n 0, 1) := by decide +kernel
theorem dX8_rate_1 : decode cX8_rate 1 = .ok (.invokevirtual 238, 3) := by decide +kernel
theorem dX8_rate_4 : decode cX8_rate 4 = .ok (.ifCond .eq 8, 3) := by decide +kernel
theorem dX8_rate_7 : decode cX8_rate 7 = .ok (.ldc 202, 2) := by decide +kernel
theorem dX8_rate_9 : decode cX8_rate 9 = .ok (.goto 7, 3) := by decide +kernel
theorem dX8_rate_12 : decode cX8_rate 12 = .ok (.aload_n 0, 1) := by decide +kernel
theorem dX8_rate_13 : decode cX8_rate 13 = .ok (.invokevirtual 247, 3) := by decide +kernel
theorem dX8_rate_16 : decode cX8_rate 16 = .ok (.ireturn, 1) := by decide +kernel
theorem dX8_willing_0 : decode cX8_willing 0 = .ok (.aload_n 0, 1) := by decide +kernel
theorem dX8_willing_1 : decode cX8_willing 1 = .ok (.invokevirtual 238, 3) := by decide +kernel
theorem dX8_willing_4 : decode cX8_willing 4 = .ok (.ifCond .eq 6, 3) := by decide +kernel
theorem dX8_willing_7 : decode cX8_willing 7 = .ok (.ldc 202, 2) := by decide +kernel
theorem dX8_willing_9 : decode cX8_willing 9 = .ok (.ireturn, 1) := by decide +kernel
theorem dX8_willing_10 : decode cX8_willing 10 = .ok (.aload_n 0, 1) := by decide +kernel
theorem dX8_willing_11 : decode cX8_willing 11 = .ok (.invokevirtual 247, 3) := by decide +kernel
theorem dX8_willing_14 : decode cX8_willing 14 = .ok (.istore_n 1, 1) := by decide +kernel
theorem dX8_willing_15 : decode cX8_willing 15 = .ok (.iconst 0, 1) := by decide +kernel
theorem dX8_willing_16 : decode cX8_willing 16 = .ok (.istore_n 2, 1) := by decide +kernel
theorem dX8_willing_17 : decode cX8_willing 17 = .ok (.iconst 0, 1) := by decide +kernel
theorem dX8_willing_18 : decode cX8_willing 18 = .ok (.istore_n 3, 1) := by decide +kernel
theorem dX8_willing_19 : decode cX8_willing 19 = .ok (.iload_n 3, 1) := by decide +kernel
theorem dX8_willing_20 : decode cX8_willing 20 = .ok (.aload_n 0, 1) := by decide +kernel
theorem dX8_willing_21 : decode cX8_willing 21 = .ok (.getfield 74, 3) := by decide +kernel
theorem dX8_willing_24 : decode cX8_willing 24 = .ok (.if_icmp .ge 34, 3) := by decide +kernel
theorem dX8_willing_27 : decode cX8_willing 27 = .ok (.iload_n 1, 1) := by decide +kernel
theorem dX8_willing_28 : decode cX8_willing 28 = .ok (.iconst (-1), 1) := by decide +kernel
theorem dX8_willing_29 : decode cX8_willing 29 = .ok (.if_icmp .eq 29, 3) := by decide +kernel
theorem dX8_willing_32 : decode cX8_willing 32 = .ok (.iload_n 2, 1) := by decide +kernel
theorem dX8_willing_33 : decode cX8_willing 33 = .ok (.aload_n 0, 1) := by decide +kernel
theorem dX8_willing_34 : decode cX8_willing 34 = .ok (.getfield 29, 3) := by decide +kernel
theorem dX8_willing_37 : decode cX8_willing 37 = .ok (.iload_n 3, 1) := by decide +kernel
theorem dX8_willing_38 : decode cX8_willing 38 = .ok (.iaload, 1) := by decide +kernel
theorem dX8_willing_39 : decode cX8_willing 39 = .ok (.iload_n 1, 1) := by decide +kernel
theorem dX8_willing_40 : decode cX8_willing 40 = .ok (.if_icmp .lt 9, 3) := by decide +kernel
theorem dX8_willing_43 : decode cX8_willing 43 = .ok (.iconst 1, 1) := by decide +kernel
theorem dX8_willing_44 : decode cX8_willing 44 = .ok (.iload_n 3, 1) := by decide +kernel
theorem dX8_willing_45 : decode cX8_willing 45 = .ok (.ishl, 1) := by decide +kernel
theorem dX8_willing_46 : decode cX8_willing 46 = .ok (.goto 4, 3) := by decide +kernel
theorem dX8_willing_49 : decode cX8_willing 49 = .ok (.iconst 0, 1) := by decide +kernel
theorem dX8_willing_50 : decode cX8_willing 50 = .ok (.ior, 1) := by decide +kernel
theorem dX8_willing_51 : decode cX8_willing 51 = .ok (.istore_n 2, 1) := by decide +kernel
theorem dX8_willing_52 : decode cX8_willing 52 = .ok (.iinc 3 1, 3) := by decide +kernel
theorem dX8_willing_55 : decode cX8_willing 55 = .ok (.goto (-36), 3) := by decide +kernel
theorem dX8_willing_58 : decode cX8_willing 58 = .ok (.iload_n 2, 1) := by decide +kernel
theorem dX8_willing_59 : decode cX8_willing 59 = .ok (.ireturn, 1) := by decide +kernel
theorem dX8_paid_0 : decode cX8_paid 0 = .ok (.aload_n 0, 1) := by decide +kernel
theorem dX8_paid_1 : decode cX8_paid 1 = .ok (.iload_n 1, 1) := by decide +kernel
theorem dX8_paid_2 : decode cX8_paid 2 = .ok (.invokevirtual 193, 3) := by decide +kernel
theorem dX8_paid_5 : decode cX8_paid 5 = .ok (.ifCond .ne 6, 3) := by decide +kernel
theorem dX8_paid_8 : decode cX8_paid 8 = .ok (.ldc 183, 2) := by decide +kernel
theorem dX8_paid_10 : decode cX8_paid 10 = .ok (.ireturn, 1) := by decide +kernel
theorem dX8_paid_11 : decode cX8_paid 11 = .ok (.aload_n 0, 1) := by decide +kernel
theorem dX8_paid_12 : decode cX8_paid 12 = .ok (.invokevirtual 238, 3) := by decide +kernel
theorem dX8_paid_15 : decode cX8_paid 15 = .ok (.ifCond .eq 6, 3) := by decide +kernel
theorem dX8_paid_18 : decode cX8_paid 18 = .ok (.ldc 202, 2) := by decide +kernel
theorem dX8_paid_20 : decode cX8_paid 20 = .ok (.ireturn, 1) := by decide +kernel
theorem dX8_paid_21 : decode cX8_paid 21 = .ok (.aload_n 0, 1) := by decide +kernel
theorem dX8_paid_22 : decode cX8_paid 22 = .ok (.iconst 0, 1) := by decide +kernel
theorem dX8_paid_23 : decode cX8_paid 23 = .ok (.aload_n 0, 1) := by decide +kernel
theorem dX8_paid_24 : decode cX8_paid 24 = .ok (.getfield 141, 3) := by decide +kernel
theorem dX8_paid_27 : decode cX8_paid 27 = .ok (.invokevirtual 167, 3) := by decide +kernel
theorem dX8_paid_30 : decode cX8_paid 30 = .ok (.aload_n 0, 1) := by decide +kernel
theorem dX8_paid_31 : decode cX8_paid 31 = .ok (.getfield 48, 3) := by decide +kernel
theorem dX8_paid_34 : decode cX8_paid 34 = .ok (.iload_n 1, 1) := by decide +kernel
theorem dX8_paid_35 : decode cX8_paid 35 = .ok (.iaload, 1) := by decide +kernel
theorem dX8_paid_36 : decode cX8_paid 36 = .ok (.ireturn, 1) := by decide +kernel
theorem dX8_hurt_0 : decode cX8_hurt 0 = .ok (.aload_n 0, 1) := by decide +kernel
theorem dX8_hurt_1 : decode cX8_hurt 1 = .ok (.iload_n 1, 1) := by decide +kernel
theorem dX8_hurt_2 : decode cX8_hurt 2 = .ok (.invokevirtual 187, 3) := by decide +kernel
theorem dX8_hurt_5 : decode cX8_hurt 5 = .ok (.ifCond .ne 6, 3) := by decide +kernel
theorem dX8_hurt_8 : decode cX8_hurt 8 = .ok (.ldc 183, 2) := by decide +kernel
theorem dX8_hurt_10 : decode cX8_hurt 10 = .ok (.ireturn, 1) := by decide +kernel
theorem dX8_hurt_11 : decode cX8_hurt 11 = .ok (.iload_n 2, 1) := by decide +kernel
theorem dX8_hurt_12 : decode cX8_hurt 12 = .ok (.i2l, 1) := by decide +kernel
theorem dX8_hurt_13 : decode cX8_hurt 13 = .ok (.lconst 1, 1) := by decide +kernel
theorem dX8_hurt_14 : decode cX8_hurt 14 = .ok (.ldc2_w 203, 3) := by decide +kernel
theorem dX8_hurt_17 : decode cX8_hurt 17 = .ok (.invokestatic 70, 3) := by decide +kernel
theorem dX8_hurt_20 : decode cX8_hurt 20 = .ok (.ifCond .ne 6, 3) := by decide +kernel
theorem dX8_hurt_23 : decode cX8_hurt 23 = .ok (.ldc 79, 2) := by decide +kernel
theorem dX8_hurt_25 : decode cX8_hurt 25 = .ok (.ireturn, 1) := by decide +kernel
theorem dX8_hurt_26 : decode cX8_hurt 26 = .ok (.aload_n 0, 1) := by decide +kernel
theorem dX8_hurt_27 : decode cX8_hurt 27 = .ok (.invokevirtual 238, 3) := by decide +kernel
theorem dX8_hurt_30 : decode cX8_hurt 30 = .ok (.ifCond .eq 6, 3) := by decide +kernel
theorem dX8_hurt_33 : decode cX8_hurt 33 = .ok (.ldc 202, 2) := by decide +kernel
theorem dX8_hurt_35 : decode cX8_hurt 35 = .ok (.ireturn, 1) := by decide +kernel
theorem dX8_hurt_36 : decode cX8_hurt 36 = .ok (.aload_n 0, 1) := by decide +kernel
theorem dX8_hurt_37 : decode cX8_hurt 37 = .ok (.iconst 0, 1) := by decide +kernel
theorem dX8_hurt_38 : decode cX8_hurt 38 = .ok (.aload_n 0, 1) := by decide +kernel
theorem dX8_hurt_39 : decode cX8_hurt 39 = .ok (.getfield 141, 3) := by decide +kernel
theorem dX8_hurt_42 : decode cX8_hurt 42 = .ok (.invokevirtual 167, 3) := by decide +kernel
theorem dX8_hurt_45 : decode cX8_hurt 45 = .ok (.iconst 0, 1) := by decide +kernel
theorem dX8_hurt_46 : decode cX8_hurt 46 = .ok (.istore 4, 2) := by decide +kernel
theorem dX8_hurt_48 : decode cX8_hurt 48 = .ok (.iload 4, 2) := by decide +kernel
theorem dX8_hurt_50 : decode cX8_hurt 50 = .ok (.aload_n 0, 1) := by decide +kernel
theorem dX8_hurt_51 : decode cX8_hurt 51 = .ok (.getfield 7, 3) := by decide +kernel
theorem dX8_hurt_54 : decode cX8_hurt 54 = .ok (.iconst 4, 1) := by decide +kernel
theorem dX8_hurt_55 : decode cX8_hurt 55 = .ok (.iaload, 1) := by decide +kernel
theorem dX8_hurt_56 : decode cX8_hurt 56 = .ok (.if_icmp .ge 23, 3) := by decide +kernel
theorem dX8_hurt_59 : decode cX8_hurt 59 = .ok (.aload_n 0, 1) := by decide +kernel
theorem dX8_hurt_60 : decode cX8_hurt 60 = .ok (.getfield 51, 3) := by decide +kernel
theorem dX8_hurt_63 : decode cX8_hurt 63 = .ok (.iload 4, 2) := by decide +kernel
theorem dX8_hurt_65 : decode cX8_hurt 65 = .ok (.aload_n 0, 1) := by decide +kernel
theorem dX8_hurt_66 : decode cX8_hurt 66 = .ok (.getfield 48, 3) := by decide +kernel
theorem dX8_hurt_69 : decode cX8_hurt 69 = .ok (.iload 4, 2) := by decide +kernel
theorem dX8_hurt_71 : decode cX8_hurt 71 = .ok (.iaload, 1) := by decide +kernel
theorem dX8_hurt_72 : decode cX8_hurt 72 = .ok (.iastore, 1) := by decide +kernel
theorem dX8_hurt_73 : decode cX8_hurt 73 = .ok (.iinc 4 1, 3) := by decide +kernel
theorem dX8_hurt_76 : decode cX8_hurt 76 = .ok (.goto (-28), 3) := by decide +kernel
theorem dX8_hurt_79 : decode cX8_hurt 79 = .ok (.aload_n 0, 1) := by decide +kernel
theorem dX8_hurt_80 : decode cX8_hurt 80 = .ok (.iconst 0, 1) := by decide +kernel
theorem dX8_hurt_81 : decode cX8_hurt 81 = .ok (.bipush 42, 2) := by decide +kernel
theorem dX8_hurt_83 : decode cX8_hurt 83 = .ok (.invokevirtual 199, 3) := by decide +kernel
theorem dX8_hurt_86 : decode cX8_hurt 86 = .ok (.aload_n 0, 1) := by decide +kernel
theorem dX8_hurt_87 : decode cX8_hurt 87 = .ok (.bipush 42, 2) := by decide +kernel
theorem dX8_hurt_89 : decode cX8_hurt 89 = .ok (.iload_n 1, 1) := by decide +kernel
theorem dX8_hurt_90 : decode cX8_hurt 90 = .ok (.iload_n 2, 1) := by decide +kernel
theorem dX8_hurt_91 : decode cX8_hurt 91 = .ok (.iload_n 3, 1) := by decide +kernel
theorem dX8_hurt_92 : decode cX8_hurt 92 = .ok (.invokevirtual 208, 3) := by decide +kernel
theorem dX8_hurt_95 : decode cX8_hurt 95 = .ok (.aload_n 0, 1) := by decide +kernel
theorem dX8_hurt_96 : decode cX8_hurt 96 = .ok (.bipush 42, 2) := by decide +kernel
theorem dX8_hurt_98 : decode cX8_hurt 98 = .ok (.aload_n 0, 1) := by decide +kernel
theorem dX8_hurt_99 : decode cX8_hurt 99 = .ok (.getfield 141, 3) := by decide +kernel
theorem dX8_hurt_102 : decode cX8_hurt 102 = .ok (.invokevirtual 167, 3) := by decide +kernel
theorem dX8_hurt_105 : decode cX8_hurt 105 = .ok (.iconst 0, 1) := by decide +kernel
theorem dX8_hurt_106 : decode cX8_hurt 106 = .ok (.istore 4, 2) := by decide +kernel
theorem dX8_hurt_108 : decode cX8_hurt 108 = .ok (.iconst 0, 1) := by decide +kernel
theorem dX8_hurt_109 : decode cX8_hurt 109 = .ok (.istore 5, 2) := by decide +kernel
theorem dX8_hurt_111 : decode cX8_hurt 111 = .ok (.iload 5, 2) := by decide +kernel
theorem dX8_hurt_113 : decode cX8_hurt 113 = .ok (.aload_n 0, 1) := by decide +kernel
theorem dX8_hurt_114 : decode cX8_hurt 114 = .ok (.getfield 7, 3) := by decide +kernel
theorem dX8_hurt_117 : decode cX8_hurt 117 = .ok (.iconst 4, 1) := by decide +kernel
theorem dX8_hurt_118 : decode cX8_hurt 118 = .ok (.iaload, 1) := by decide +kernel
theorem dX8_hurt_119 : decode cX8_hurt 119 = .ok (.if_icmp .ge 39, 3) := by decide +kernel
theorem dX8_hurt_122 : decode cX8_hurt 122 = .ok (.iload 4, 2) := by decide +kernel
theorem dX8_hurt_124 : decode cX8_hurt 124 = .ok (.aload_n 0, 1) := by decide +kernel
theorem dX8_hurt_125 : decode cX8_hurt 125 = .ok (.getfield 48, 3) := by decide +kernel
theorem dX8_hurt_128 : decode cX8_hurt 128 = .ok (.iload 5, 2) := by decide +kernel
theorem dX8_hurt_130 : decode cX8_hurt 130 = .ok (.iaload, 1) := by decide +kernel
theorem dX8_hurt_131 : decode cX8_hurt 131 = .ok (.aload_n 0, 1) := by decide +kernel
theorem dX8_hurt_132 : decode cX8_hurt 132 = .ok (.getfield 51, 3) := by decide +kernel
theorem dX8_hurt_135 : decode cX8_hurt 135 = .ok (.iload 5, 2) := by decide +kernel
theorem dX8_hurt_137 : decode cX8_hurt 137 = .ok (.iaload, 1) := by decide +kernel
theorem dX8_hurt_138 : decode cX8_hurt 138 = .ok (.if_icmp .ge 10, 3) := by decide +kernel
theorem dX8_hurt_141 : decode cX8_hurt 141 = .ok (.iconst 1, 1) := by decide +kernel
theorem dX8_hurt_142 : decode cX8_hurt 142 = .ok (.iload 5, 2) := by decide +kernel
theorem dX8_hurt_144 : decode cX8_hurt 144 = .ok (.ishl, 1) := by decide +kernel
theorem dX8_hurt_145 : decode cX8_hurt 145 = .ok (.goto 4, 3) := by decide +kernel
theorem dX8_hurt_148 : decode cX8_hurt 148 = .ok (.iconst 0, 1) := by decide +kernel
theorem dX8_hurt_149 : decode cX8_hurt 149 = .ok (.ior, 1) := by decide +kernel
theorem dX8_hurt_150 : decode cX8_hurt 150 = .ok (.istore 4, 2) := by decide +kernel
theorem dX8_hurt_152 : decode cX8_hurt 152 = .ok (.iinc 5 1, 3) := by decide +kernel
theorem dX8_hurt_155 : decode cX8_hurt 155 = .ok (.goto (-44), 3) := by decide +kernel
theorem dX8_hurt_158 : decode cX8_hurt 158 = .ok (.iload 4, 2) := by decide +kernel
theorem dX8_hurt_160 : decode cX8_hurt 160 = .ok (.ireturn, 1) := by decide +kernel
theorem dX8_share_0 : decode cX8_share 0 = .ok (.aload_n 0, 1) := by decide +kernel
theorem dX8_share_1 : decode cX8_share 1 = .ok (.iload_n 1, 1) := by decide +kernel
theorem dX8_share_2 : decode cX8_share 2 = .ok (.invokevirtual 193, 3) := by decide +kernel
theorem dX8_share_5 : decode cX8_share 5 = .ok (.ifCond .ne 6, 3) := by decide +kernel
theorem dX8_share_8 : decode cX8_share 8 = .ok (.ldc 183, 2) := by decide +kernel
theorem dX8_share_10 : decode cX8_share 10 = .ok (.ireturn, 1) := by decide +kernel
theorem dX8_share_11 : decode cX8_share 11 = .ok (.iload_n 2, 1) := by decide +kernel
theorem dX8_share_12 : decode cX8_share 12 = .ok (.i2l, 1) := by decide +kernel
theorem dX8_share_13 : decode cX8_share 13 = .ok (.lconst 0, 1) := by decide +kernel
theorem dX8_share_14 : decode cX8_share 14 = .ok (.ldc2_w 203, 3) := by decide +kernel
theorem dX8_share_17 : decode cX8_share 17 = .ok (.invokestatic 70, 3) := by decide +kernel
theorem dX8_share_20 : decode cX8_share 20 = .ok (.ifCond .ne 6, 3) := by decide +kernel
theorem dX8_share_23 : decode cX8_share 23 = .ok (.ldc 79, 2) := by decide +kernel
theorem dX8_share_25 : decode cX8_share 25 = .ok (.ireturn, 1) := by decide +kernel
theorem dX8_share_26 : decode cX8_share 26 = .ok (.aload_n 0, 1) := by decide +kernel
theorem dX8_share_27 : decode cX8_share 27 = .ok (.iconst 0, 1) := by decide +kernel
theorem dX8_share_28 : decode cX8_share 28 = .ok (.iconst 0, 1) := by decide +kernel
theorem dX8_share_29 : decode cX8_share 29 = .ok (.iload_n 2, 1) := by decide +kernel
theorem dX8_share_30 : decode cX8_share 30 = .ok (.invokevirtual 160, 3) := by decide +kernel
theorem dX8_share_33 : decode cX8_share 33 = .ok (.pop, 1) := by decide +kernel
theorem dX8_share_34 : decode cX8_share 34 = .ok (.aload_n 0, 1) := by decide +kernel
theorem dX8_share_35 : decode cX8_share 35 = .ok (.getfield 7, 3) := by decide +kernel
theorem dX8_share_38 : decode cX8_share 38 = .ok (.bipush 23, 2) := by decide +kernel
theorem dX8_share_40 : decode cX8_share 40 = .ok (.iload_n 1, 1) := by decide +kernel
theorem dX8_share_41 : decode cX8_share 41 = .ok (.iadd, 1) := by decide +kernel
theorem dX8_share_42 : decode cX8_share 42 = .ok (.iaload, 1) := by decide +kernel
theorem dX8_share_43 : decode cX8_share 43 = .ok (.iconst 1, 1) := by decide +kernel
theorem dX8_share_44 : decode cX8_share 44 = .ok (.if_icmp .ne 7, 3) := by decide +kernel
theorem dX8_share_47 : decode cX8_share 47 = .ok (.iconst 0, 1) := by decide +kernel
theorem dX8_share_48 : decode cX8_share 48 = .ok (.goto 9, 3) := by decide +kernel
theorem dX8_share_51 : decode cX8_share 51 = .ok (.aload_n 0, 1) := by decide +kernel
theorem dX8_share_52 : decode cX8_share 52 = .ok (.getfield 48, 3) := by decide +kernel
theorem dX8_share_55 : decode cX8_share 55 = .ok (.iload_n 1, 1) := by decide +kernel
theorem dX8_share_56 : decode cX8_share 56 = .ok (.iaload, 1) := by decide +kernel
theorem dX8_share_57 : decode cX8_share 57 = .ok (.ireturn, 1) := by decide +kernel
theorem dX8_findPlan_0 : decode cX8_findPlan 0 = .ok (.aload_n 0, 1) := by decide +kernel
theorem dX8_findPlan_1 : decode cX8_findPlan 1 = .ok (.getfield 67, 3) := by decide +kernel
theorem dX8_findPlan_4 : decode cX8_findPlan 4 = .ok (.aload_n 0, 1) := by decide +kernel
theorem dX8_findPlan_5 : decode cX8_findPlan 5 = .ok (.getfield 7, 3) := by decide +kernel
theorem dX8_findPlan_8 : decode cX8_findPlan 8 = .ok (.iconst 0, 1) := by decide +kernel
theorem dX8_findPlan_9 : decode cX8_findPlan 9 = .ok (.iaload, 1) := by decide +kernel
theorem dX8_findPlan_10 : decode cX8_findPlan 10 = .ok (.isub, 1) := by decide +kernel
theorem dX8_findPlan_11 : decode cX8_findPlan 11 = .ok (.istore_n 1, 1) := by decide +kernel
theorem dX8_findPlan_12 : decode cX8_findPlan 12 = .ok (.iconst 1, 1) := by decide +kernel
theorem dX8_findPlan_13 : decode cX8_findPlan 13 = .ok (.istore_n 2, 1) := by decide +kernel
theorem dX8_findPlan_14 : decode cX8_findPlan 14 = .ok (.iconst 0, 1) := by decide +kernel
theorem dX8_findPlan_15 : decode cX8_findPlan 15 = .ok (.istore_n 3, 1) := by decide +kernel
theorem dX8_findPlan_16 : decode cX8_findPlan 16 = .ok (.iload_n 3, 1) := by decide +kernel
theorem dX8_findPlan_17 : decode cX8_findPlan 17 = .ok (.iload_n 1, 1) := by decide +kernel
theorem dX8_findPlan_18 : decode cX8_findPlan 18 = .ok (.if_icmp .ge 13, 3) := by decide +kernel
theorem dX8_findPlan_21 : decode cX8_findPlan 21 = .ok (.iload_n 2, 1) := by decide +kernel
theorem dX8_findPlan_22 : decode cX8_findPlan 22 = .ok (.iconst 3, 1) := by decide +kernel
theorem dX8_findPlan_23 : decode cX8_findPlan 23 = .ok (.imul, 1) := by decide +kernel
theorem dX8_findPlan_24 : decode cX8_findPlan 24 = .ok (.istore_n 2, 1) := by decide +kernel
theorem dX8_findPlan_25 : decode cX8_findPlan 25 = .ok (.iinc 3 1, 3) := by decide +kernel
theorem dX8_findPlan_28 : decode cX8_findPlan 28 = .ok (.goto (-12), 3) := by decide +kernel
theorem dX8_findPlan_31 : decode cX8_findPlan 31 = .ok (.aload_n 0, 1) := by decide +kernel
theorem dX8_findPlan_32 : decode cX8_findPlan 32 = .ok (.iconst 0, 1) := by decide +kernel
theorem dX8_findPlan_33 : decode cX8_findPlan 33 = .ok (.putfield 250, 3) := by decide +kernel
theorem dX8_findPlan_36 : decode cX8_findPlan 36 = .ok (.aload_n 0, 1) := by decide +kernel
theorem dX8_findPlan_37 : decode cX8_findPlan 37 = .ok (.ldc2_w 253, 3) := by decide +kernel
theorem dX8_findPlan_40 : decode cX8_findPlan 40 = .ok (.putfield 255, 3) := by decide +kernel
theorem dX8_findPlan_43 : decode cX8_findPlan 43 = .ok (.iconst 0, 1) := by decide +kernel
theorem dX8_findPlan_44 : decode cX8_findPlan 44 = .ok (.istore_n 3, 1) := by decide +kernel
theorem dX8_findPlan_45 : decode cX8_findPlan 45 = .ok (.iload_n 3, 1) := by decide +kernel
theorem dX8_findPlan_46 : decode cX8_findPlan 46 = .ok (.iload_n 2, 1) := by decide +kernel
theorem dX8_findPlan_47 : decode cX8_findPlan 47 = .ok (.if_icmp .ge 254, 3) := by decide +kernel
theorem dX8_findPlan_50 : decode cX8_findPlan 50 = .ok (.iload_n 2, 1) := by decide +kernel
theorem dX8_findPlan_51 : decode cX8_findPlan 51 = .ok (.istore 4, 2) := by decide +kernel
theorem dX8_findPlan_53 : decode cX8_findPlan 53 = .ok (.aload_n 0, 1) := by decide +kernel
theorem dX8_findPlan_54 : decode cX8_findPlan 54 = .ok (.getfield 7, 3) := by decide +kernel
theorem dX8_findPlan_57 : decode cX8_findPlan 57 = .ok (.iconst 2, 1) := by decide +kernel
theorem dX8_findPlan_58 : decode cX8_findPlan 58 = .ok (.iaload, 1) := by decide +kernel
theorem dX8_findPlan_59 : decode cX8_findPlan 59 = .ok (.istore 5, 2) := by decide +kernel
theorem dX8_findPlan_61 : decode cX8_findPlan 61 = .ok (.aload_n 0, 1) := by decide +kernel
theorem dX8_findPlan_62 : decode cX8_findPlan 62 = .ok (.getfield 7, 3) := by decide +kernel
theorem dX8_findPlan_65 : decode cX8_findPlan 65 = .ok (.iconst 3, 1) := by decide +kernel
theorem dX8_findPlan_66 : decode cX8_findPlan 66 = .ok (.iaload, 1) := by decide +kernel
theorem dX8_findPlan_67 : decode cX8_findPlan 67 = .ok (.istore 6, 2) := by decide +kernel
theorem dX8_findPlan_69 : decode cX8_findPlan 69 = .ok (.ldc2_w 230, 3) := by decide +kernel
theorem dX8_findPlan_72 : decode cX8_findPlan 72 = .ok (.lstore 7, 2) := by decide +kernel
theorem dX8_findPlan_74 : decode cX8_findPlan 74 = .ok (.iconst 1, 1) := by decide +kernel
theorem dX8_findPlan_75 : decode cX8_findPlan 75 = .ok (.istore 9, 2) := by decide +kernel
theorem dX8_findPlan_77 : decode cX8_findPlan 77 = .ok (.aload_n 0, 1) := by decide +kernel
theorem dX8_findPlan_78 : decode cX8_findPlan 78 = .ok (.getfield 7, 3) := by decide +kernel
theorem dX8_findPlan_81 : decode cX8_findPlan 81 = .ok (.iconst 0, 1) := by decide +kernel
theorem dX8_findPlan_82 : decode cX8_findPlan 82 = .ok (.iaload, 1) := by decide +kernel
theorem dX8_findPlan_83 : decode cX8_findPlan 83 = .ok (.istore 10, 2) := by decide +kernel
theorem dX8_findPlan_85 : decode cX8_findPlan 85 = .ok (.iload 10, 2) := by decide +kernel
theorem dX8_findPlan_87 : decode cX8_findPlan 87 = .ok (.aload_n 0, 1) := by decide +kernel
theorem dX8_findPlan_88 : decode cX8_findPlan 88 = .ok (.getfield 67, 3) := by decide +kernel
theorem dX8_findPlan_91 : decode cX8_findPlan 91 = .ok (.if_icmp .ge 114, 3) := by decide +kernel
theorem dX8_findPlan_94 : decode cX8_findPlan 94 = .ok (.iload 9, 2) := by decide +kernel
theorem dX8_findPlan_96 : decode cX8_findPlan 96 = .ok (.ifCond .eq 109, 3) := by decide +kernel
theorem dX8_findPlan_99 : decode cX8_findPlan 99 = .ok (.iload 4, 2) := by decide +kernel
theorem dX8_findPlan_101 : decode cX8_findPlan 101 = .ok (.iconst 3, 1) := by decide +kernel
theorem dX8_findPlan_102 : decode cX8_findPlan 102 = .ok (.idiv, 1) := by decide +kernel
theorem dX8_findPlan_103 : decode cX8_findPlan 103 = .ok (.istore 4, 2) := by decide +kernel
theorem dX8_findPlan_105 : decode cX8_findPlan 105 = .ok (.iload_n 3, 1) := by decide +kernel
theorem dX8_findPlan_106 : decode cX8_findPlan 106 = .ok (.iload 4, 2) := by decide +kernel
theorem dX8_findPlan_108 : decode cX8_findPlan 108 = .ok (.idiv, 1) := by decide +kernel
theorem dX8_findPlan_109 : decode cX8_findPlan 109 = .ok (.iconst 3, 1) := by decide +kernel
theorem dX8_findPlan_110 : decode cX8_findPlan 110 = .ok (.irem, 1) := by decide +kernel
theorem dX8_findPlan_111 : decode cX8_findPlan 111 = .ok (.istore 11, 2) := by decide +kernel
theorem dX8_findPlan_113 : decode cX8_findPlan 113 = .ok (.iload 6, 2) := by decide +kernel
theorem dX8_findPlan_115 : decode cX8_findPlan 115 = .ok (.iload 11, 2) := by decide +kernel
theorem dX8_findPlan_117 : decode cX8_findPlan 117 = .ok (.aload_n 0, 1) := by decide +kernel
theorem dX8_findPlan_118 : decode cX8_findPlan 118 = .ok (.getfield 23, 3) := by decide +kernel
theorem dX8_findPlan_121 : decode cX8_findPlan 121 = .ok (.iload 10, 2) := by decide +kernel
theorem dX8_findPlan_123 : decode cX8_findPlan 123 = .ok (.iaload, 1) := by decide +kernel
theorem dX8_findPlan_124 : decode cX8_findPlan 124 = .ok (.imul, 1) := by decide +kernel
theorem dX8_findPlan_125 : decode cX8_findPlan 125 = .ok (.isub, 1) := by decide +kernel
theorem dX8_findPlan_126 : decode cX8_findPlan 126 = .ok (.istore 6, 2) := by decide +kernel
theorem dX8_findPlan_128 : decode cX8_findPlan 128 = .ok (.iload 5, 2) := by decide +kernel
theorem dX8_findPlan_130 : decode cX8_findPlan 130 = .ok (.iload 11, 2) := by decide +kernel
theorem dX8_findPlan_132 : decode cX8_findPlan 132 = .ok (.iadd, 1) := by decide +kernel
theorem dX8_findPlan_133 : decode cX8_findPlan 133 = .ok (.istore 5, 2) := by decide +kernel
theorem dX8_findPlan_135 : decode cX8_findPlan 135 = .ok (.iload 6, 2) := by decide +kernel
theorem dX8_findPlan_137 : decode cX8_findPlan 137 = .ok (.ifCond .lt 14, 3) := by decide +kernel
theorem dX8_findPlan_140 : decode cX8_findPlan 140 = .ok (.iload 5, 2) := by decide +kernel
theorem dX8_findPlan_142 : decode cX8_findPlan 142 = .ok (.bipush 9, 2) := by decide +kernel
theorem dX8_findPlan_144 : decode cX8_findPlan 144 = .ok (.if_icmp .gt 7, 3) := by decide +kernel
theorem dX8_findPlan_147 : decode cX8_findPlan 147 = .ok (.iconst 1, 1) := by decide +kernel
theorem dX8_findPlan_148 : decode cX8_findPlan 148 = .ok (.goto 4, 3) := by decide +kernel
theorem dX8_findPlan_151 : decode cX8_findPlan 151 = .ok (.iconst 0, 1) := by decide +kernel
theorem dX8_findPlan_152 : decode cX8_findPlan 152 = .ok (.istore 9, 2) := by decide +kernel
theorem dX8_findPlan_154 : decode cX8_findPlan 154 = .ok (.iload 9, 2) := by decide +kernel
theorem dX8_findPlan_156 : decode cX8_findPlan 156 = .ok (.ifCond .eq 25, 3) := by decide +kernel
theorem dX8_findPlan_159 : decode cX8_findPlan 159 = .ok (.lload 7, 2) := by decide +kernel
theorem dX8_findPlan_161 : decode cX8_findPlan 161 = .ok (.bipush 100, 2) := by decide +kernel
theorem dX8_findPlan_163 : decode cX8_findPlan 163 = .ok (.aload_n 0, 1) := by decide +kernel
theorem dX8_findPlan_164 : decode cX8_findPlan 164 = .ok (.iload 10, 2) := by decide +kernel
theorem dX8_findPlan_166 : decode cX8_findPlan 166 = .ok (.iload 5, 2) := by decide +kernel
theorem dX8_findPlan_168 : decode cX8_findPlan 168 = .ok (.invokevirtual 184, 3) := by decide +kernel
theorem dX8_findPlan_171 : decode cX8_findPlan 171 = .ok (.isub, 1) := by decide +kernel
theorem dX8_findPlan_172 : decode cX8_findPlan 172 = .ok (.i2l, 1) := by decide +kernel
theorem dX8_findPlan_173 : decode cX8_findPlan 173 = .ok (.lmul, 1) := by decide +kernel
theorem dX8_findPlan_174 : decode cX8_findPlan 174 = .ok (.ldc2_w 232, 3) := by decide +kernel
theorem dX8_findPlan_177 : decode cX8_findPlan 177 = .ok (.ldiv, 1) := by decide +kernel
theorem dX8_findPlan_178 : decode cX8_findPlan 178 = .ok (.goto 4, 3) := by decide +kernel
theorem dX8_findPlan_181 : decode cX8_findPlan 181 = .ok (.lconst 0, 1) := by decide +kernel
theorem dX8_findPlan_182 : decode cX8_findPlan 182 = .ok (.lstore 7, 2) := by decide +kernel
theorem dX8_findPlan_184 : decode cX8_findPlan 184 = .ok (.iload 5, 2) := by decide +kernel
theorem dX8_findPlan_186 : decode cX8_findPlan 186 = .ok (.iload 5, 2) := by decide +kernel
theorem dX8_findPlan_188 : decode cX8_findPlan 188 = .ok (.ifCond .le 7, 3) := by decide +kernel
theorem dX8_findPlan_191 : decode cX8_findPlan 191 = .ok (.iconst 1, 1) := by decide +kernel
theorem dX8_findPlan_192 : decode cX8_findPlan 192 = .ok (.goto 4, 3) := by decide +kernel
theorem dX8_findPlan_195 : decode cX8_findPlan 195 = .ok (.iconst 0, 1) := by decide +kernel
theorem dX8_findPlan_196 : decode cX8_findPlan 196 = .ok (.isub, 1) := by decide +kernel
theorem dX8_findPlan_197 : decode cX8_findPlan 197 = .ok (.istore 5, 2) := by decide +kernel
theorem dX8_findPlan_199 : decode cX8_findPlan 199 = .ok (.iinc 10 1, 3) := by decide +kernel
theorem dX8_findPlan_202 : decode cX8_findPlan 202 = .ok (.goto (-117), 3) := by decide +kernel
theorem dX8_findPlan_205 : decode cX8_findPlan 205 = .ok (.iload 9, 2) := by decide +kernel
theorem dX8_findPlan_207 : decode cX8_findPlan 207 = .ok (.ifCond .eq 88, 3) := by decide +kernel
theorem dX8_findPlan_210 : decode cX8_findPlan 210 = .ok (.aload_n 0, 1) := by decide +kernel
theorem dX8_findPlan_211 : decode cX8_findPlan 211 = .ok (.iconst 0, 1) := by decide +kernel
theorem dX8_findPlan_212 : decode cX8_findPlan 212 = .ok (.bipush 42, 2) := by decide +kernel
theorem dX8_findPlan_214 : decode cX8_findPlan 214 = .ok (.invokevirtual 199, 3) := by decide +kernel
theorem dX8_findPlan_217 : decode cX8_findPlan 217 = .ok (.aload_n 0, 1) := by decide +kernel
theorem dX8_findPlan_218 : decode cX8_findPlan 218 = .ok (.getfield 7, 3) := by decide +kernel
theorem dX8_findPlan_221 : decode cX8_findPlan 221 = .ok (.bipush 45, 2) := by decide +kernel
theorem dX8_findPlan_223 : decode cX8_findPlan 223 = .ok (.iload 6, 2) := by decide +kernel
theorem dX8_findPlan_225 : decode cX8_findPlan 225 = .ok (.iastore, 1) := by decide +kernel
theorem dX8_findPlan_226 : decode cX8_findPlan 226 = .ok (.aload_n 0, 1) := by decide +kernel
theorem dX8_findPlan_227 : decode cX8_findPlan 227 = .ok (.bipush 42, 2) := by decide +kernel
theorem dX8_findPlan_229 : decode cX8_findPlan 229 = .ok (.aload_n 0, 1) := by decide +kernel
theorem dX8_findPlan_230 : decode cX8_findPlan 230 = .ok (.getfield 141, 3) := by decide +kernel
theorem dX8_findPlan_233 : decode cX8_findPlan 233 = .ok (.invokevirtual 167, 3) := by decide +kernel
theorem dX8_findPlan_236 : decode cX8_findPlan 236 = .ok (.lload 7, 2) := by decide +kernel
theorem dX8_findPlan_238 : decode cX8_findPlan 238 = .ok (.aload_n 0, 1) := by decide +kernel
theorem dX8_findPlan_239 : decode cX8_findPlan 239 = .ok (.getfield 164, 3) := by decide +kernel
theorem dX8_findPlan_242 : decode cX8_findPlan 242 = .ok (.i2l, 1) := by decide +kernel
theorem dX8_findPlan_243 : decode cX8_findPlan 243 = .ok (.lmul, 1) := by decide +kernel
theorem dX8_findPlan_244 : decode cX8_findPlan 244 = .ok (.ldc2_w 259, 3) := by decide +kernel
theorem dX8_findPlan_247 : decode cX8_findPlan 247 = .ok (.ldiv, 1) := by decide +kernel
theorem dX8_findPlan_248 : decode cX8_findPlan 248 = .ok (.lstore 10, 2) := by decide +kernel
theorem dX8_findPlan_250 : decode cX8_findPlan 250 = .ok (.aload_n 0, 1) := by decide +kernel
theorem dX8_findPlan_251 : decode cX8_findPlan 251 = .ok (.lload 10, 2) := by decide +kernel
theorem dX8_findPlan_253 : decode cX8_findPlan 253 = .ok (.aload_n 0, 1) := by decide +kernel
theorem dX8_findPlan_254 : decode cX8_findPlan 254 = .ok (.getfield 255, 3) := by decide +kernel
theorem dX8_findPlan_257 : decode cX8_findPlan 257 = .ok (.lcmp, 1) := by decide +kernel
theorem dX8_findPlan_258 : decode cX8_findPlan 258 = .ok (.ifCond .le 7, 3) := by decide +kernel
theorem dX8_findPlan_261 : decode cX8_findPlan 261 = .ok (.iload_n 3, 1) := by decide +kernel
theorem dX8_findPlan_262 : decode cX8_findPlan 262 = .ok (.goto 7, 3) := by decide +kernel
theorem dX8_findPlan_265 : decode cX8_findPlan 265 = .ok (.aload_n 0, 1) := by decide +kernel
theorem dX8_findPlan_266 : decode cX8_findPlan 266 = .ok (.getfield 250, 3) := by decide +kernel
theorem dX8_findPlan_269 : decode cX8_findPlan 269 = .ok (.putfield 250, 3) := by decide +kernel
theorem dX8_findPlan_272 : decode cX8_findPlan 272 = .ok (.aload_n 0, 1) := by decide +kernel
theorem dX8_findPlan_273 : decode cX8_findPlan 273 = .ok (.lload 10, 2) := by decide +kernel
theorem dX8_findPlan_275 : decode cX8_findPlan 275 = .ok (.aload_n 0, 1) := by decide +kernel
theorem dX8_findPlan_276 : decode cX8_findPlan 276 = .ok (.getfield 255, 3) := by decide +kernel
theorem dX8_findPlan_279 : decode cX8_findPlan 279 = .ok (.lcmp, 1) := by decide +kernel
theorem dX8_findPlan_280 : decode cX8_findPlan 280 = .ok (.ifCond .le 8, 3) := by decide +kernel
theorem dX8_findPlan_283 : decode cX8_findPlan 283 = .ok (.lload 10, 2) := by decide +kernel
theorem dX8_findPlan_285 : decode cX8_findPlan 285 = .ok (.goto 7, 3) := by decide +kernel
theorem dX8_findPlan_288 : decode cX8_findPlan 288 = .ok (.aload_n 0, 1) := by decide +kernel
theorem dX8_findPlan_289 : decode cX8_findPlan 289 = .ok (.getfield 255, 3) := by decide +kernel
theorem dX8_findPlan_292 : decode cX8_findPlan 292 = .ok (.putfield 255, 3) := by decide +kernel
theorem dX8_findPlan_295 : decode cX8_findPlan 295 = .ok (.iinc 3 1, 3) := by decide +kernel
theorem dX8_findPlan_298 : decode cX8_findPlan 298 = .ok (.goto (-253), 3) := by decide +kernel
theorem dX8_findPlan_301 : decode cX8_findPlan 301 = .ok (.return_, 1) := by decide +kernel
theorem dX8_plan_0 : decode cX8_plan 0 = .ok (.aload_n 0, 1) := by decide +kernel
theorem dX8_plan_1 : decode cX8_plan 1 = .ok (.invokevirtual 238, 3) := by decide +kernel
theorem dX8_plan_4 : decode cX8_plan 4 = .ok (.ifCond .eq 6, 3) := by decide +kernel
theorem dX8_plan_7 : decode cX8_plan 7 = .ok (.ldc 202, 2) := by decide +kernel
theorem dX8_plan_9 : decode cX8_plan 9 = .ok (.ireturn, 1) := by decide +kernel
theorem dX8_plan_10 : decode cX8_plan 10 = .ok (.aload_n 0, 1) := by decide +kernel
theorem dX8_plan_11 : decode cX8_plan 11 = .ok (.invokevirtual 261, 3) := by decide +kernel
theorem dX8_plan_14 : decode cX8_plan 14 = .ok (.aload_n 0, 1) := by decide +kernel
theorem dX8_plan_15 : decode cX8_plan 15 = .ok (.getfield 67, 3) := by decide +kernel
theorem dX8_plan_18 : decode cX8_plan 18 = .ok (.aload_n 0, 1) := by decide +kernel
theorem dX8_plan_19 : decode cX8_plan 19 = .ok (.getfield 7, 3) := by decide +kernel
theorem dX8_plan_22 : decode cX8_plan 22 = .ok (.iconst 0, 1) := by decide +kernel
theorem dX8_plan_23 : decode cX8_plan 23 = .ok (.iaload, 1) := by decide +kernel
theorem dX8_plan_24 : decode cX8_plan 24 = .ok (.isub, 1) := by decide +kernel
theorem dX8_plan_25 : decode cX8_plan 25 = .ok (.istore_n 2, 1) := by decide +kernel
theorem dX8_plan_26 : decode cX8_plan 26 = .ok (.iload_n 1, 1) := by decide +kernel
theorem dX8_plan_27 : decode cX8_plan 27 = .ok (.iconst (-1), 1) := by decide +kernel
theorem dX8_plan_28 : decode cX8_plan 28 = .ok (.if_icmp .ne 9, 3) := by decide +kernel
theorem dX8_plan_31 : decode cX8_plan 31 = .ok (.aload_n 0, 1) := by decide +kernel
theorem dX8_plan_32 : decode cX8_plan 32 = .ok (.getfield 255, 3) := by decide +kernel
theorem dX8_plan_35 : decode cX8_plan 35 = .ok (.l2i, 1) := by decide +kernel
theorem dX8_plan_36 : decode cX8_plan 36 = .ok (.ireturn, 1) := by decide +kernel
theorem dX8_plan_37 : decode cX8_plan 37 = .ok (.iload_n 1, 1) := by decide +kernel
theorem dX8_plan_38 : decode cX8_plan 38 = .ok (.i2l, 1) := by decide +kernel
theorem dX8_plan_39 : decode cX8_plan 39 = .ok (.lconst 0, 1) := by decide +kernel
theorem dX8_plan_40 : decode cX8_plan 40 = .ok (.iload_n 2, 1) := by decide +kernel
theorem dX8_plan_41 : decode cX8_plan 41 = .ok (.iconst 1, 1) := by decide +kernel
theorem dX8_plan_42 : decode cX8_plan 42 = .ok (.isub, 1) := by decide +kernel
theorem dX8_plan_43 : decode cX8_plan 43 = .ok (.i2l, 1) := by decide +kernel
theorem dX8_plan_44 : decode cX8_plan 44 = .ok (.invokestatic 70, 3) := by decide +kernel
theorem dX8_plan_47 : decode cX8_plan 47 = .ok (.ifCond .ne 5, 3) := by decide +kernel
theorem dX8_plan_50 : decode cX8_plan 50 = .ok (.iconst (-1), 1) := by decide +kernel
theorem dX8_plan_51 : decode cX8_plan 51 = .ok (.ireturn, 1) := by decide +kernel
theorem dX8_plan_52 : decode cX8_plan 52 = .ok (.aload_n 0, 1) := by decide +kernel
theorem dX8_plan_53 : decode cX8_plan 53 = .ok (.getfield 250, 3) := by decide +kernel
theorem dX8_plan_56 : decode cX8_plan 56 = .ok (.istore_n 3, 1) := by decide +kernel
theorem dX8_plan_57 : decode cX8_plan 57 = .ok (.iload_n 2, 1) := by decide +kernel
theorem dX8_plan_58 : decode cX8_plan 58 = .ok (.iconst 1, 1) := by decide +kernel
theorem dX8_plan_59 : decode cX8_plan 59 = .ok (.isub, 1) := by decide +kernel
theorem dX8_plan_60 : decode cX8_plan 60 = .ok (.istore 4, 2) := by decide +kernel
theorem dX8_plan_62 : decode cX8_plan 62 = .ok (.iload 4, 2) := by decide +kernel
theorem dX8_plan_64 : decode cX8_plan 64 = .ok (.iload_n 1, 1) := by decide +kernel
theorem dX8_plan_65 : decode cX8_plan 65 = .ok (.if_icmp .le 13, 3) := by decide +kernel
theorem dX8_plan_68 : decode cX8_plan 68 = .ok (.iload_n 3, 1) := by decide +kernel
theorem dX8_plan_69 : decode cX8_plan 69 = .ok (.iconst 3, 1) := by decide +kernel
theorem dX8_plan_70 : decode cX8_plan 70 = .ok (.idiv, 1) := by decide +kernel
theorem dX8_plan_71 : decode cX8_plan 71 = .ok (.istore_n 3, 1) := by decide +kernel
theorem dX8_plan_72 : decode cX8_plan 72 = .ok (.iinc 4 (-1), 3) := by decide +kernel
theorem dX8_plan_75 : decode cX8_plan 75 = .ok (.goto (-13), 3) := by decide +kernel
theorem dX8_plan_78 : decode cX8_plan 78 = .ok (.iload_n 3, 1) := by decide +kernel
theorem dX8_plan_79 : decode cX8_plan 79 = .ok (.iconst 3, 1) := by decide +kernel
theorem dX8_plan_80 : decode cX8_plan 80 = .ok (.irem, 1) := by decide +kernel
theorem dX8_plan_81 : decode cX8_plan 81 = .ok (.ireturn, 1) := by decide +kernel
theorem dX8_belief_0 : decode cX8_belief 0 = .ok (.iload_n 1, 1) := by decide +kernel
theorem dX8_belief_1 : decode cX8_belief 1 = .ok (.i2l, 1) := by decide +kernel
theorem dX8_belief_2 : decode cX8_belief 2 = .ok (.lconst 0, 1) := by decide +kernel
theorem dX8_belief_3 : decode cX8_belief 3 = .ok (.ldc2_w 225, 3) := by decide +kernel
theorem dX8_belief_6 : decode cX8_belief 6 = .ok (.invokestatic 70, 3) := by decide +kernel
theorem dX8_belief_9 : decode cX8_belief 9 = .ok (.ifCond .eq 15, 3) := by decide +kernel
theorem dX8_belief_12 : decode cX8_belief 12 = .ok (.iload_n 2, 1) := by decide +kernel
theorem dX8_belief_13 : decode cX8_belief 13 = .ok (.i2l, 1) := by decide +kernel
theorem dX8_belief_14 : decode cX8_belief 14 = .ok (.lconst 0, 1) := by decide +kernel
theorem dX8_belief_15 : decode cX8_belief 15 = .ok (.ldc2_w 212, 3) := by decide +kernel
theorem dX8_belief_18 : decode cX8_belief 18 = .ok (.invokestatic 70, 3) := by decide +kernel
theorem dX8_belief_21 : decode cX8_belief 21 = .ok (.ifCond .ne 6, 3) := by decide +kernel
theorem dX8_belief_24 : decode cX8_belief 24 = .ok (.ldc 79, 2) := by decide +kernel
theorem dX8_belief_26 : decode cX8_belief 26 = .ok (.ireturn, 1) := by decide +kernel
theorem dX8_belief_27 : decode cX8_belief 27 = .ok (.aload_n 0, 1) := by decide +kernel
theorem dX8_belief_28 : decode cX8_belief 28 = .ok (.getfield 7, 3) := by decide +kernel
theorem dX8_belief_31 : decode cX8_belief 31 = .ok (.iconst 0, 1) := by decide +kernel
theorem dX8_belief_32 : decode cX8_belief 32 = .ok (.iaload, 1) := by decide +kernel
theorem dX8_belief_33 : decode cX8_belief 33 = .ok (.iload_n 1, 1) := by decide +kernel
theorem dX8_belief_34 : decode cX8_belief 34 = .ok (.isub, 1) := by decide +kernel
theorem dX8_belief_35 : decode cX8_belief 35 = .ok (.istore_n 3, 1) := by decide +kernel
theorem dX8_belief_36 : decode cX8_belief 36 = .ok (.aload_n 0, 1) := by decide +kernel
theorem dX8_belief_37 : decode cX8_belief 37 = .ok (.iload_n 3, 1) := by decide +kernel
theorem dX8_belief_38 : decode cX8_belief 38 = .ok (.ifCond .ge 7, 3) := by decide +kernel
theorem dX8_belief_41 : decode cX8_belief 41 = .ok (.iconst 0, 1) := by decide +kernel
theorem dX8_belief_42 : decode cX8_belief 42 = .ok (.goto 4, 3) := by decide +kernel
theorem dX8_belief_45 : decode cX8_belief 45 = .ok (.iload_n 3, 1) := by decide +kernel
theorem dX8_belief_46 : decode cX8_belief 46 = .ok (.aload_n 0, 1) := by decide +kernel
theorem dX8_belief_47 : decode cX8_belief 47 = .ok (.getfield 7, 3) := by decide +kernel
theorem dX8_belief_50 : decode cX8_belief 50 = .ok (.iconst 0, 1) := by decide +kernel
theorem dX8_belief_51 : decode cX8_belief 51 = .ok (.iaload, 1) := by decide +kernel
theorem dX8_belief_52 : decode cX8_belief 52 = .ok (.iload_n 2, 1) := by decide +kernel
theorem dX8_belief_53 : decode cX8_belief 53 = .ok (.invokevirtual 234, 3) := by decide +kernel
theorem dX8_belief_56 : decode cX8_belief 56 = .ok (.l2i, 1) := by decide +kernel
theorem dX8_belief_57 : decode cX8_belief 57 = .ok (.ireturn, 1) := by decide +kernel
theorem dX8_need_0 : decode cX8_need 0 = .ok (.iload_n 1, 1) := by decide +kernel
theorem dX8_need_1 : decode cX8_need 1 = .ok (.i2l, 1) := by decide +kernel
theorem dX8_need_2 : decode cX8_need 2 = .ok (.lconst 0, 1) := by decide +kernel
theorem dX8_need_3 : decode cX8_need 3 = .ok (.ldc2_w 212, 3) := by decide +kernel
theorem dX8_need_6 : decode cX8_need 6 = .ok (.invokestatic 70, 3) := by decide +kernel
theorem dX8_need_9 : decode cX8_need 9 = .ok (.ifCond .eq 13, 3) := by decide +kernel
theorem dX8_need_12 : decode cX8_need 12 = .ok (.iload_n 2, 1) := by decide +kernel
theorem dX8_need_13 : decode cX8_need 13 = .ok (.i2l, 1) := by decide +kernel
theorem dX8_need_14 : decode cX8_need 14 = .ok (.lconst 0, 1) := by decide +kernel
theorem dX8_need_15 : decode cX8_need 15 = .ok (.lconst 1, 1) := by decide +kernel
theorem dX8_need_16 : decode cX8_need 16 = .ok (.invokestatic 70, 3) := by decide +kernel
theorem dX8_need_19 : decode cX8_need 19 = .ok (.ifCond .ne 6, 3) := by decide +kernel
theorem dX8_need_22 : decode cX8_need 22 = .ok (.ldc 79, 2) := by decide +kernel
theorem dX8_need_24 : decode cX8_need 24 = .ok (.ireturn, 1) := by decide +kernel
theorem dX8_need_25 : decode cX8_need 25 = .ok (.aload_n 0, 1) := by decide +kernel
theorem dX8_need_26 : decode cX8_need 26 = .ok (.invokevirtual 171, 3) := by decide +kernel
theorem dX8_need_29 : decode cX8_need 29 = .ok (.ifCond .eq 6, 3) := by decide +kernel
theorem dX8_need_32 : decode cX8_need 32 = .ok (.ldc 202, 2) := by decide +kernel
theorem dX8_need_34 : decode cX8_need 34 = .ok (.ireturn, 1) := by decide +kernel
theorem dX8_need_35 : decode cX8_need 35 = .ok (.iload_n 1, 1) := by decide +kernel
theorem dX8_need_36 : decode cX8_need 36 = .ok (.aload_n 0, 1) := by decide +kernel
theorem dX8_need_37 : decode cX8_need 37 = .ok (.getfield 7, 3) := by decide +kernel
theorem dX8_need_40 : decode cX8_need 40 = .ok (.iconst 2, 1) := by decide +kernel
theorem dX8_need_41 : decode cX8_need 41 = .ok (.iaload, 1) := by decide +kernel
theorem dX8_need_42 : decode cX8_need 42 = .ok (.if_icmp .le 14, 3) := by decide +kernel
theorem dX8_need_45 : decode cX8_need 45 = .ok (.iload_n 1, 1) := by decide +kernel
theorem dX8_need_46 : decode cX8_need 46 = .ok (.aload_n 0, 1) := by decide +kernel
theorem dX8_need_47 : decode cX8_need 47 = .ok (.getfield 7, 3) := by decide +kernel
theorem dX8_need_50 : decode cX8_need 50 = .ok (.iconst 2, 1) := by decide +kernel
theorem dX8_need_51 : decode cX8_need 51 = .ok (.iaload, 1) := by decide +kernel
theorem dX8_need_52 : decode cX8_need 52 = .ok (.isub, 1) := by decide +kernel
theorem dX8_need_53 : decode cX8_need 53 = .ok (.goto 4, 3) := by decide +kernel
theorem dX8_need_56 : decode cX8_need 56 = .ok (.iconst 0, 1) := by decide +kernel
theorem dX8_need_57 : decode cX8_need 57 = .ok (.istore_n 3, 1) := by decide +kernel
theorem dX8_need_58 : decode cX8_need 58 = .ok (.iload_n 3, 1) := by decide +kernel
theorem dX8_need_59 : decode cX8_need 59 = .ok (.aload_n 0, 1) := by decide +kernel
theorem dX8_need_60 : decode cX8_need 60 = .ok (.getfield 23, 3) := by decide +kernel
theorem dX8_need_63 : decode cX8_need 63 = .ok (.aload_n 0, 1) := by decide +kernel
theorem dX8_need_64 : decode cX8_need 64 = .ok (.getfield 7, 3) := by decide +kernel
theorem dX8_need_67 : decode cX8_need 67 = .ok (.iconst 0, 1) := by decide +kernel
theorem dX8_need_68 : decode cX8_need 68 = .ok (.iaload, 1) := by decide +kernel
theorem dX8_need_69 : decode cX8_need 69 = .ok (.iaload, 1) := by decide +kernel
theorem dX8_need_70 : decode cX8_need 70 = .ok (.imul, 1) := by decide +kernel
theorem dX8_need_71 : decode cX8_need 71 = .ok (.aload_n 0, 1) := by decide +kernel
theorem dX8_need_72 : decode cX8_need 72 = .ok (.getfield 7, 3) := by decide +kernel
theorem dX8_need_75 : decode cX8_need 75 = .ok (.iconst 3, 1) := by decide +kernel
theorem dX8_need_76 : decode cX8_need 76 = .ok (.iaload, 1) := by decide +kernel
theorem dX8_need_77 : decode cX8_need 77 = .ok (.isub, 1) := by decide +kernel
theorem dX8_need_78 : decode cX8_need 78 = .ok (.istore 4, 2) := by decide +kernel
theorem dX8_need_80 : decode cX8_need 80 = .ok (.iload 4, 2) := by decide +kernel
theorem dX8_need_82 : decode cX8_need 82 = .ok (.ifCond .le 8, 3) := by decide +kernel
theorem dX8_need_85 : decode cX8_need 85 = .ok (.iload 4, 2) := by decide +kernel
theorem dX8_need_87 : decode cX8_need 87 = .ok (.goto 4, 3) := by decide +kernel
theorem dX8_need_90 : decode cX8_need 90 = .ok (.iconst 0, 1) := by decide +kernel
theorem dX8_need_91 : decode cX8_need 91 = .ok (.istore 4, 2) := by decide +kernel
theorem dX8_need_93 : decode cX8_need 93 = .ok (.iconst (-1), 1) := by decide +kernel
theorem dX8_need_94 : decode cX8_need 94 = .ok (.istore 5, 2) := by decide +kernel
theorem dX8_need_96 : decode cX8_need 96 = .ok (.iconst 0, 1) := by decide +kernel
theorem dX8_need_97 : decode cX8_need 97 = .ok (.istore 6, 2) := by decide +kernel
theorem dX8_need_99 : decode cX8_need 99 = .ok (.iload 6, 2) := by decide +kernel
theorem dX8_need_101 : decode cX8_need 101 = .ok (.aload_n 0, 1) := by decide +kernel
theorem dX8_need_102 : decode cX8_need 102 = .ok (.getfield 74, 3) := by decide +kernel
theorem dX8_need_105 : decode cX8_need 105 = .ok (.if_icmp .ge 64, 3) := by decide +kernel
theorem dX8_need_108 : decode cX8_need 108 = .ok (.aload_n 0, 1) := by decide +kernel
theorem dX8_need_109 : decode cX8_need 109 = .ok (.iload 6, 2) := by decide +kernel
theorem dX8_need_111 : decode cX8_need 111 = .ok (.invokevirtual 190, 3) := by decide +kernel
theorem dX8_need_114 : decode cX8_need 114 = .ok (.iload 4, 2) := by decide +kernel
theorem dX8_need_116 : decode cX8_need 116 = .ok (.if_icmp .lt 7, 3) := by decide +kernel
theorem dX8_need_119 : decode cX8_need 119 = .ok (.iconst 1, 1) := by decide +kernel
theorem dX8_need_120 : decode cX8_need 120 = .ok (.goto 4, 3) := by decide +kernel
theorem dX8_need_123 : decode cX8_need 123 = .ok (.iconst 0, 1) := by decide +kernel
theorem dX8_need_124 : decode cX8_need 124 = .ok (.istore 7, 2) := by decide +kernel
theorem dX8_need_126 : decode cX8_need 126 = .ok (.iload 7, 2) := by decide +kernel
theorem dX8_need_128 : decode cX8_need 128 = .ok (.ifCond .eq 31, 3) := by decide +kernel
theorem dX8_need_131 : decode cX8_need 131 = .ok (.iload 5, 2) := by decide +kernel
theorem dX8_need_133 : decode cX8_need 133 = .ok (.iconst (-1), 1) := by decide +kernel
theorem dX8_need_134 : decode cX8_need 134 = .ok (.if_icmp .eq 20, 3) := by decide +kernel
theorem dX8_need_137 : decode cX8_need 137 = .ok (.aload_n 0, 1) := by decide +kernel
theorem dX8_need_138 : decode cX8_need 138 = .ok (.getfield 29, 3) := by decide +kernel
theorem dX8_need_141 : decode cX8_need 141 = .ok (.iload 6, 2) := by decide +kernel
theorem dX8_need_143 : decode cX8_need 143 = .ok (.iaload, 1) := by decide +kernel
theorem dX8_need_144 : decode cX8_need 144 = .ok (.aload_n 0, 1) := by decide +kernel
theorem dX8_need_145 : decode cX8_need 145 = .ok (.getfield 29, 3) := by decide +kernel
theorem dX8_need_148 : decode cX8_need 148 = .ok (.iload 5, 2) := by decide +kernel
theorem dX8_need_150 : decode cX8_need 150 = .ok (.iaload, 1) := by decide +kernel
theorem dX8_need_151 : decode cX8_need 151 = .ok (.if_icmp .ge 8, 3) := by decide +kernel
theorem dX8_need_154 : decode cX8_need 154 = .ok (.iload 6, 2) := by decide +kernel
theorem dX8_need_156 : decode cX8_need 156 = .ok (.goto 5, 3) := by decide +kernel
theorem dX8_need_159 : decode cX8_need 159 = .ok (.iload 5, 2) := by decide +kernel
theorem dX8_need_161 : decode cX8_need 161 = .ok (.istore 5, 2) := by decide +kernel
theorem dX8_need_163 : decode cX8_need 163 = .ok (.iinc 6 1, 3) := by decide +kernel
theorem dX8_need_166 : decode cX8_need 166 = .ok (.goto (-67), 3) := by decide +kernel
theorem dX8_need_169 : decode cX8_need 169 = .ok (.iload_n 2, 1) := by decide +kernel
theorem dX8_need_170 : decode cX8_need 170 = .ok (.ifCond .ne 8, 3) := by decide +kernel
theorem dX8_need_173 : decode cX8_need 173 = .ok (.iload 4, 2) := by decide +kernel
theorem dX8_need_175 : decode cX8_need 175 = .ok (.goto 5, 3) := by decide +kernel
theorem dX8_need_178 : decode cX8_need 178 = .ok (.iload 5, 2) := by decide +kernel
theorem dX8_need_180 : decode cX8_need 180 = .ok (.ireturn, 1) := by decide +kernel
theorem dX8_tell_0 : decode cX8_tell 0 = .ok (.aload_n 0, 1) := by decide +kernel
theorem dX8_tell_1 : decode cX8_tell 1 = .ok (.iload_n 1, 1) := by decide +kernel
theorem dX8_tell_2 : decode cX8_tell 2 = .ok (.invokevirtual 193, 3) := by decide +kernel
theorem dX8_tell_5 : decode cX8_tell 5 = .ok (.ifCond .ne 6, 3) := by decide +kernel
theorem dX8_tell_8 : decode cX8_tell 8 = .ok (.ldc 183, 2) := by decide +kernel
theorem dX8_tell_10 : decode cX8_tell 10 = .ok (.ireturn, 1) := by decide +kernel
theorem dX8_tell_11 : decode cX8_tell 11 = .ok (.iload_n 2, 1) := by decide +kernel
theorem dX8_tell_12 : decode cX8_tell 12 = .ok (.i2l, 1) := by decide +kernel
theorem dX8_tell_13 : decode cX8_tell 13 = .ok (.lconst 0, 1) := by decide +kernel
theorem dX8_tell_14 : decode cX8_tell 14 = .ok (.ldc2_w 264, 3) := by decide +kernel
theorem dX8_tell_17 : decode cX8_tell 17 = .ok (.invokestatic 70, 3) := by decide +kernel
theorem dX8_tell_20 : decode cX8_tell 20 = .ok (.ifCond .ne 6, 3) := by decide +kernel
theorem dX8_tell_23 : decode cX8_tell 23 = .ok (.ldc 79, 2) := by decide +kernel
theorem dX8_tell_25 : decode cX8_tell 25 = .ok (.ireturn, 1) := by decide +kernel
theorem dX8_tell_26 : decode cX8_tell 26 = .ok (.aload_n 0, 1) := by decide +kernel
theorem dX8_tell_27 : decode cX8_tell 27 = .ok (.getfield 147, 3) := by decide +kernel
theorem dX8_tell_30 : decode cX8_tell 30 = .ok (.bipush 6, 2) := by decide +kernel
theorem dX8_tell_32 : decode cX8_tell 32 = .ok (.if_icmp .ne 6, 3) := by decide +kernel
theorem dX8_tell_35 : decode cX8_tell 35 = .ok (.ldc 83, 2) := by decide +kernel
theorem dX8_tell_37 : decode cX8_tell 37 = .ok (.ireturn, 1) := by decide +kernel
theorem dX8_tell_38 : decode cX8_tell 38 = .ok (.aload_n 0, 1) := by decide +kernel
theorem dX8_tell_39 : decode cX8_tell 39 = .ok (.getfield 54, 3) := by decide +kernel
theorem dX8_tell_42 : decode cX8_tell 42 = .ok (.aload_n 0, 1) := by decide +kernel
theorem dX8_tell_43 : decode cX8_tell 43 = .ok (.getfield 147, 3) := by decide +kernel
theorem dX8_tell_46 : decode cX8_tell 46 = .ok (.iload_n 1, 1) := by decide +kernel
theorem dX8_tell_47 : decode cX8_tell 47 = .ok (.iastore, 1) := by decide +kernel
theorem dX8_tell_48 : decode cX8_tell 48 = .ok (.aload_n 0, 1) := by decide +kernel
theorem dX8_tell_49 : decode cX8_tell 49 = .ok (.getfield 57, 3) := by decide +kernel
theorem dX8_tell_52 : decode cX8_tell 52 = .ok (.aload_n 0, 1) := by decide +kernel
theorem dX8_tell_53 : decode cX8_tell 53 = .ok (.getfield 147, 3) := by decide +kernel
theorem dX8_tell_56 : decode cX8_tell 56 = .ok (.iload_n 2, 1) := by decide +kernel
theorem dX8_tell_57 : decode cX8_tell 57 = .ok (.iastore, 1) := by decide +kernel
theorem dX8_tell_58 : decode cX8_tell 58 = .ok (.aload_n 0, 1) := by decide +kernel
theorem dX8_tell_59 : decode cX8_tell 59 = .ok (.dup, 1) := by decide +kernel
theorem dX8_tell_60 : decode cX8_tell 60 = .ok (.getfield 147, 3) := by decide +kernel
theorem dX8_tell_63 : decode cX8_tell 63 = .ok (.iconst 1, 1) := by decide +kernel
theorem dX8_tell_64 : decode cX8_tell 64 = .ok (.iadd, 1) := by decide +kernel
theorem dX8_tell_65 : decode cX8_tell 65 = .ok (.putfield 147, 3) := by decide +kernel
theorem dX8_tell_68 : decode cX8_tell 68 = .ok (.aload_n 0, 1) := by decide +kernel
theorem dX8_tell_69 : decode cX8_tell 69 = .ok (.getfield 147, 3) := by decide +kernel
theorem dX8_tell_72 : decode cX8_tell 72 = .ok (.ireturn, 1) := by decide +kernel
theorem dX8_worth_0 : decode cX8_worth 0 = .ok (.iload_n 1, 1) := by decide +kernel
theorem dX8_worth_1 : decode cX8_worth 1 = .ok (.i2l, 1) := by decide +kernel
theorem dX8_worth_2 : decode cX8_worth 2 = .ok (.lconst 0, 1) := by decide +kernel
theorem dX8_worth_3 : decode cX8_worth 3 = .ok (.ldc2_w 266, 3) := by decide +kernel
theorem dX8_worth_6 : decode cX8_worth 6 = .ok (.invokestatic 70, 3) := by decide +kernel
theorem dX8_worth_9 : decode cX8_worth 9 = .ok (.ifCond .ne 6, 3) := by decide +kernel
theorem dX8_worth_12 : decode cX8_worth 12 = .ok (.ldc 79, 2) := by decide +kernel
theorem dX8_worth_14 : decode cX8_worth 14 = .ok (.ireturn, 1) := by decide +kernel
theorem dX8_worth_15 : decode cX8_worth 15 = .ok (.aload_n 0, 1) := by decide +kernel
theorem dX8_worth_16 : decode cX8_worth 16 = .ok (.invokevirtual 238, 3) := by decide +kernel
theorem dX8_worth_19 : decode cX8_worth 19 = .ok (.ifCond .eq 6, 3) := by decide +kernel
theorem dX8_worth_22 : decode cX8_worth 22 = .ok (.ldc 202, 2) := by decide +kernel
theorem dX8_worth_24 : decode cX8_worth 24 = .ok (.ireturn, 1) := by decide +kernel
theorem dX8_worth_25 : decode cX8_worth 25 = .ok (.iconst 0, 1) := by decide +kernel
theorem dX8_worth_26 : decode cX8_worth 26 = .ok (.istore_n 2, 1) := by decide +kernel
theorem dX8_worth_27 : decode cX8_worth 27 = .ok (.iconst (-1), 1) := by decide +kernel
theorem dX8_worth_28 : decode cX8_worth 28 = .ok (.istore_n 3, 1) := by decide +kernel
theorem dX8_worth_29 : decode cX8_worth 29 = .ok (.iconst (-1), 1) := by decide +kernel
theorem dX8_worth_30 : decode cX8_worth 30 = .ok (.istore 4, 2) := by decide +kernel
theorem dX8_worth_32 : decode cX8_worth 32 = .ok (.iconst 0, 1) := by decide +kernel
theorem dX8_worth_33 : decode cX8_worth 33 = .ok (.istore 5, 2) := by decide +kernel
theorem dX8_worth_35 : decode cX8_worth 35 = .ok (.iload 5, 2) := by decide +kernel
theorem dX8_worth_37 : decode cX8_worth 37 = .ok (.sipush 999, 3) := by decide +kernel
theorem dX8_worth_40 : decode cX8_worth 40 = .ok (.if_icmp .gt 128, 3) := by decide +kernel
theorem dX8_worth_43 : decode cX8_worth 43 = .ok (.aload_n 0, 1) := by decide +kernel
theorem dX8_worth_44 : decode cX8_worth 44 = .ok (.iconst 0, 1) := by decide +kernel
theorem dX8_worth_45 : decode cX8_worth 45 = .ok (.iload 5, 2) := by decide +kernel
theorem dX8_worth_47 : decode cX8_worth 47 = .ok (.invokevirtual 167, 3) := by decide +kernel
theorem dX8_worth_50 : decode cX8_worth 50 = .ok (.iconst 1, 1) := by decide +kernel
theorem dX8_worth_51 : decode cX8_worth 51 = .ok (.istore 6, 2) := by decide +kernel
theorem dX8_worth_53 : decode cX8_worth 53 = .ok (.iconst 0, 1) := by decide +kernel
theorem dX8_worth_54 : decode cX8_worth 54 = .ok (.istore 7, 2) := by decide +kernel
theorem dX8_worth_56 : decode cX8_worth 56 = .ok (.iload 7, 2) := by decide +kernel
theorem dX8_worth_58 : decode cX8_worth 58 = .ok (.aload_n 0, 1) := by decide +kernel
theorem dX8_worth_59 : decode cX8_worth 59 = .ok (.getfield 147, 3) := by decide +kernel
theorem dX8_worth_62 : decode cX8_worth 62 = .ok (.if_icmp .ge 57, 3) := by decide +kernel
theorem dX8_worth_65 : decode cX8_worth 65 = .ok (.iload 6, 2) := by decide +kernel
theorem dX8_worth_67 : decode cX8_worth 67 = .ok (.ifCond .eq 43, 3) := by decide +kernel
theorem dX8_worth_70 : decode cX8_worth 70 = .ok (.aload_n 0, 1) := by decide +kernel
theorem dX8_worth_71 : decode cX8_worth 71 = .ok (.aload_n 0, 1) := by decide +kernel
theorem dX8_worth_72 : decode cX8_worth 72 = .ok (.getfield 54, 3) := by decide +kernel
theorem dX8_worth_75 : decode cX8_worth 75 = .ok (.iload 7, 2) := by decide +kernel
theorem dX8_worth_77 : decode cX8_worth 77 = .ok (.iaload, 1) := by decide +kernel
theorem dX8_worth_78 : decode cX8_worth 78 = .ok (.invokevirtual 193, 3) := by decide +kernel
theorem dX8_worth_81 : decode cX8_worth 81 = .ok (.ifCond .eq 29, 3) := by decide +kernel
theorem dX8_worth_84 : decode cX8_worth 84 = .ok (.aload_n 0, 1) := by decide +kernel
theorem dX8_worth_85 : decode cX8_worth 85 = .ok (.getfield 48, 3) := by decide +kernel
theorem dX8_worth_88 : decode cX8_worth 88 = .ok (.aload_n 0, 1) := by decide +kernel
theorem dX8_worth_89 : decode cX8_worth 89 = .ok (.getfield 54, 3) := by decide +kernel
theorem dX8_worth_92 : decode cX8_worth 92 = .ok (.iload 7, 2) := by decide +kernel
theorem dX8_worth_94 : decode cX8_worth 94 = .ok (.iaload, 1) := by decide +kernel
theorem dX8_worth_95 : decode cX8_worth 95 = .ok (.iaload, 1) := by decide +kernel
theorem dX8_worth_96 : decode cX8_worth 96 = .ok (.aload_n 0, 1) := by decide +kernel
theorem dX8_worth_97 : decode cX8_worth 97 = .ok (.getfield 57, 3) := by decide +kernel
theorem dX8_worth_100 : decode cX8_worth 100 = .ok (.iload 7, 2) := by decide +kernel
theorem dX8_worth_102 : decode cX8_worth 102 = .ok (.iaload, 1) := by decide +kernel
theorem dX8_worth_103 : decode cX8_worth 103 = .ok (.if_icmp .ne 7, 3) := by decide +kernel
theorem dX8_worth_106 : decode cX8_worth 106 = .ok (.iconst 1, 1) := by decide +kernel
theorem dX8_worth_107 : decode cX8_worth 107 = .ok (.goto 4, 3) := by decide +kernel
theorem dX8_worth_110 : decode cX8_worth 110 = .ok (.iconst 0, 1) := by decide +kernel
theorem dX8_worth_111 : decode cX8_worth 111 = .ok (.istore 6, 2) := by decide +kernel
theorem dX8_worth_113 : decode cX8_worth 113 = .ok (.iinc 7 1, 3) := by decide +kernel
theorem dX8_worth_116 : decode cX8_worth 116 = .ok (.goto (-60), 3) := by decide +kernel
theorem dX8_worth_119 : decode cX8_worth 119 = .ok (.iload 6, 2) := by decide +kernel
theorem dX8_worth_121 : decode cX8_worth 121 = .ok (.ifCond .eq 12, 3) := by decide +kernel
theorem dX8_worth_124 : decode cX8_worth 124 = .ok (.iload_n 2, 1) := by decide +kernel
theorem dX8_worth_125 : decode cX8_worth 125 = .ok (.ifCond .ne 8, 3) := by decide +kernel
theorem dX8_worth_128 : decode cX8_worth 128 = .ok (.iload 5, 2) := by decide +kernel
theorem dX8_worth_130 : decode cX8_worth 130 = .ok (.goto 4, 3) := by decide +kernel
theorem dX8_worth_133 : decode cX8_worth 133 = .ok (.iload_n 3, 1) := by decide +kernel
theorem dX8_worth_134 : decode cX8_worth 134 = .ok (.istore_n 3, 1) := by decide +kernel
theorem dX8_worth_135 : decode cX8_worth 135 = .ok (.iload 6, 2) := by decide +kernel
theorem dX8_worth_137 : decode cX8_worth 137 = .ok (.ifCond .eq 8, 3) := by decide +kernel
theorem dX8_worth_140 : decode cX8_worth 140 = .ok (.iload 5, 2) := by decide +kernel
theorem dX8_worth_142 : decode cX8_worth 142 = .ok (.goto 5, 3) := by decide +kernel
theorem dX8_worth_145 : decode cX8_worth 145 = .ok (.iload 4, 2) := by decide +kernel
theorem dX8_worth_147 : decode cX8_worth 147 = .ok (.istore 4, 2) := by decide +kernel
theorem dX8_worth_149 : decode cX8_worth 149 = .ok (.iload_n 2, 1) := by decide +kernel
theorem dX8_worth_150 : decode cX8_worth 150 = .ok (.iload 6, 2) := by decide +kernel
theorem dX8_worth_152 : decode cX8_worth 152 = .ok (.ifCond .eq 7, 3) := by decide +kernel
theorem dX8_worth_155 : decode cX8_worth 155 = .ok (.iconst 1, 1) := by decide +kernel
theorem dX8_worth_156 : decode cX8_worth 156 = .ok (.goto 4, 3) := by decide +kernel
theorem dX8_worth_159 : decode cX8_worth 159 = .ok (.iconst 0, 1) := by decide +kernel
theorem dX8_worth_160 : decode cX8_worth 160 = .ok (.iadd, 1) := by decide +kernel
theorem dX8_worth_161 : decode cX8_worth 161 = .ok (.istore_n 2, 1) := by decide +kernel
theorem dX8_worth_162 : decode cX8_worth 162 = .ok (.iinc 5 1, 3) := by decide +kernel
theorem dX8_worth_165 : decode cX8_worth 165 = .ok (.goto (-130), 3) := by decide +kernel
theorem dX8_worth_168 : decode cX8_worth 168 = .ok (.iload_n 1, 1) := by decide +kernel
theorem dX8_worth_169 : decode cX8_worth 169 = .ok (.ifCond .ne 7, 3) := by decide +kernel
theorem dX8_worth_172 : decode cX8_worth 172 = .ok (.iload_n 2, 1) := by decide +kernel
theorem dX8_worth_173 : decode cX8_worth 173 = .ok (.goto 14, 3) := by decide +kernel
theorem dX8_worth_176 : decode cX8_worth 176 = .ok (.iload_n 1, 1) := by decide +kernel
theorem dX8_worth_177 : decode cX8_worth 177 = .ok (.iconst 1, 1) := by decide +kernel
theorem dX8_worth_178 : decode cX8_worth 178 = .ok (.if_icmp .ne 7, 3) := by decide +kernel
theorem dX8_worth_181 : decode cX8_worth 181 = .ok (.iload_n 3, 1) := by decide +kernel
theorem dX8_worth_182 : decode cX8_worth 182 = .ok (.goto 5, 3) := by decide +kernel
theorem dX8_worth_185 : decode cX8_worth 185 = .ok (.iload 4, 2) := by decide +kernel
theorem dX8_worth_187 : decode cX8_worth 187 = .ok (.ireturn, 1) := by decide +kernel
theorem dX8_write_0 : decode cX8_write 0 = .ok (.iload_n 1, 1) := by decide +kernel
theorem dX8_write_1 : decode cX8_write 1 = .ok (.i2l, 1) := by decide +kernel
theorem dX8_write_2 : decode cX8_write 2 = .ok (.lconst 0, 1) := by decide +kernel
theorem dX8_write_3 : decode cX8_write 3 = .ok (.ldc2_w 264, 3) := by decide +kernel
theorem dX8_write_6 : decode cX8_write 6 = .ok (.invokestatic 70, 3) := by decide +kernel
theorem dX8_write_9 : decode cX8_write 9 = .ok (.ifCond .ne 6, 3) := by decide +kernel
theorem dX8_write_12 : decode cX8_write 12 = .ok (.ldc 79, 2) := by decide +kernel
theorem dX8_write_14 : decode cX8_write 14 = .ok (.ireturn, 1) := by decide +kernel
theorem dX8_write_15 : decode cX8_write 15 = .ok (.aload_n 0, 1) := by decide +kernel
theorem dX8_write_16 : decode cX8_write 16 = .ok (.getfield 150, 3) := by decide +kernel
theorem dX8_write_19 : decode cX8_write 19 = .ok (.bipush 15, 2) := by decide +kernel
theorem dX8_write_21 : decode cX8_write 21 = .ok (.if_icmp .ne 6, 3) := by decide +kernel
theorem dX8_write_24 : decode cX8_write 24 = .ok (.ldc 83, 2) := by decide +kernel
theorem dX8_write_26 : decode cX8_write 26 = .ok (.ireturn, 1) := by decide +kernel
theorem dX8_write_27 : decode cX8_write 27 = .ok (.aload_n 0, 1) := by decide +kernel
theorem dX8_write_28 : decode cX8_write 28 = .ok (.getfield 60, 3) := by decide +kernel
theorem dX8_write_31 : decode cX8_write 31 = .ok (.aload_n 0, 1) := by decide +kernel
theorem dX8_write_32 : decode cX8_write 32 = .ok (.getfield 150, 3) := by decide +kernel
theorem dX8_write_35 : decode cX8_write 35 = .ok (.iload_n 1, 1) := by decide +kernel
theorem dX8_write_36 : decode cX8_write 36 = .ok (.iastore, 1) := by decide +kernel
theorem dX8_write_37 : decode cX8_write 37 = .ok (.aload_n 0, 1) := by decide +kernel
theorem dX8_write_38 : decode cX8_write 38 = .ok (.dup, 1) := by decide +kernel
theorem dX8_write_39 : decode cX8_write 39 = .ok (.getfield 150, 3) := by decide +kernel
theorem dX8_write_42 : decode cX8_write 42 = .ok (.iconst 1, 1) := by decide +kernel
theorem dX8_write_43 : decode cX8_write 43 = .ok (.iadd, 1) := by decide +kernel
theorem dX8_write_44 : decode cX8_write 44 = .ok (.putfield 150, 3) := by decide +kernel
theorem dX8_write_47 : decode cX8_write 47 = .ok (.aload_n 0, 1) := by decide +kernel
theorem dX8_write_48 : decode cX8_write 48 = .ok (.getfield 150, 3) := by decide +kernel
theorem dX8_write_51 : decode cX8_write 51 = .ok (.ireturn, 1) := by decide +kernel
theorem dX8_tear_0 : decode cX8_tear 0 = .ok (.aload_n 0, 1) := by decide +kernel
theorem dX8_tear_1 : decode cX8_tear 1 = .ok (.getfield 147, 3) := by decide +kernel
theorem dX8_tear_4 : decode cX8_tear 4 = .ok (.aload_n 0, 1) := by decide +kernel
theorem dX8_tear_5 : decode cX8_tear 5 = .ok (.getfield 150, 3) := by decide +kernel
theorem dX8_tear_8 : decode cX8_tear 8 = .ok (.iadd, 1) := by decide +kernel
theorem dX8_tear_9 : decode cX8_tear 9 = .ok (.istore_n 1, 1) := by decide +kernel
theorem dX8_tear_10 : decode cX8_tear 10 = .ok (.aload_n 0, 1) := by decide +kernel
theorem dX8_tear_11 : decode cX8_tear 11 = .ok (.iconst 0, 1) := by decide +kernel
theorem dX8_tear_12 : decode cX8_tear 12 = .ok (.putfield 147, 3) := by decide +kernel
theorem dX8_tear_15 : decode cX8_tear 15 = .ok (.aload_n 0, 1) := by decide +kernel
theorem dX8_tear_16 : decode cX8_tear 16 = .ok (.iconst 0, 1) := by decide +kernel
theorem dX8_tear_17 : decode cX8_tear 17 = .ok (.putfield 150, 3) := by decide +kernel
theorem dX8_tear_20 : decode cX8_tear 20 = .ok (.iload_n 1, 1) := by decide +kernel
theorem dX8_tear_21 : decode cX8_tear 21 = .ok (.ireturn, 1) := by decide +kernel
theorem dX8_judge_0 : decode cX8_judge 0 = .ok (.iconst 0, 1) := by decide +kernel
theorem dX8_judge_1 : decode cX8_judge 1 = .ok (.istore_n 1, 1) := by decide +kernel
theorem dX8_judge_2 : decode cX8_judge 2 = .ok (.iload_n 1, 1) := by decide +kernel
theorem dX8_judge_3 : decode cX8_judge 3 = .ok (.aload_n 0, 1) := by decide +kernel
theorem dX8_judge_4 : decode cX8_judge 4 = .ok (.getfield 150, 3) := by decide +kernel
theorem dX8_judge_7 : decode cX8_judge 7 = .ok (.if_icmp .ge 26, 3) := by decide +kernel
theorem dX8_judge_10 : decode cX8_judge 10 = .ok (.aload_n 0, 1) := by decide +kernel
theorem dX8_judge_11 : decode cX8_judge 11 = .ok (.getfield 60, 3) := by decide +kernel
theorem dX8_judge_14 : decode cX8_judge 14 = .ok (.iload_n 1, 1) := by decide +kernel
theorem dX8_judge_15 : decode cX8_judge 15 = .ok (.iaload, 1) := by decide +kernel
theorem dX8_judge_16 : decode cX8_judge 16 = .ok (.aload_n 0, 1) := by decide +kernel
theorem dX8_judge_17 : decode cX8_judge 17 = .ok (.getfield 7, 3) := by decide +kernel
theorem dX8_judge_20 : decode cX8_judge 20 = .ok (.iconst 3, 1) := by decide +kernel
theorem dX8_judge_21 : decode cX8_judge 21 = .ok (.iaload, 1) := by decide +kernel
theorem dX8_judge_22 : decode cX8_judge 22 = .ok (.if_icmp .eq 5, 3) := by decide +kernel
theorem dX8_judge_25 : decode cX8_judge 25 = .ok (.iload_n 1, 1) := by decide +kernel
theorem dX8_judge_26 : decode cX8_judge 26 = .ok (.ireturn, 1) := by decide +kernel
theorem dX8_judge_27 : decode cX8_judge 27 = .ok (.iinc 1 1, 3) := by decide +kernel
theorem dX8_judge_30 : decode cX8_judge 30 = .ok (.goto (-28), 3) := by decide +kernel
theorem dX8_judge_33 : decode cX8_judge 33 = .ok (.iconst (-1), 1) := by decide +kernel
theorem dX8_judge_34 : decode cX8_judge 34 = .ok (.ireturn, 1) := by decide +kernel
theorem dX8_seed_0 : decode cX8_seed 0 = .ok (.iload_n 1, 1) := by decide +kernel
theorem dX8_seed_1 : decode cX8_seed 1 = .ok (.ifCond .ge 6, 3) := by decide +kernel
theorem dX8_seed_4 : decode cX8_seed 4 = .ok (.ldc 79, 2) := by decide +kernel
theorem dX8_seed_6 : decode cX8_seed 6 = .ok (.ireturn, 1) := by decide +kernel
theorem dX8_seed_7 : decode cX8_seed 7 = .ok (.aload_n 0, 1) := by decide +kernel
theorem dX8_seed_8 : decode cX8_seed 8 = .ok (.getfield 7, 3) := by decide +kernel
theorem dX8_seed_11 : decode cX8_seed 11 = .ok (.bipush 41, 2) := by decide +kernel
theorem dX8_seed_13 : decode cX8_seed 13 = .ok (.iaload, 1) := by decide +kernel
theorem dX8_seed_14 : decode cX8_seed 14 = .ok (.istore_n 2, 1) := by decide +kernel
theorem dX8_seed_15 : decode cX8_seed 15 = .ok (.aload_n 0, 1) := by decide +kernel
theorem dX8_seed_16 : decode cX8_seed 16 = .ok (.getfield 7, 3) := by decide +kernel
theorem dX8_seed_19 : decode cX8_seed 19 = .ok (.bipush 41, 2) := by decide +kernel
theorem dX8_seed_21 : decode cX8_seed 21 = .ok (.iload_n 1, 1) := by decide +kernel
theorem dX8_seed_22 : decode cX8_seed 22 = .ok (.iastore, 1) := by decide +kernel
theorem dX8_seed_23 : decode cX8_seed 23 = .ok (.iload_n 2, 1) := by decide +kernel
theorem dX8_seed_24 : decode cX8_seed 24 = .ok (.ireturn, 1) := by decide +kernel
theorem dX8_keep_0 : decode cX8_keep 0 = .ok (.iload_n 1, 1) := by decide +kernel
theorem dX8_keep_1 : decode cX8_keep 1 = .ok (.i2l, 1) := by decide +kernel
theorem dX8_keep_2 : decode cX8_keep 2 = .ok (.lconst 0, 1) := by decide +kernel
theorem dX8_keep_3 : decode cX8_keep 3 = .ok (.lconst 1, 1) := by decide +kernel
theorem dX8_keep_4 : decode cX8_keep 4 = .ok (.invokestatic 70, 3) := by decide +kernel
theorem dX8_keep_7 : decode cX8_keep 7 = .ok (.ifCond .ne 6, 3) := by decide +kernel
theorem dX8_keep_10 : decode cX8_keep 10 = .ok (.ldc 183, 2) := by decide +kernel
theorem dX8_keep_12 : decode cX8_keep 12 = .ok (.ireturn, 1) := by decide +kernel
theorem dX8_keep_13 : decode cX8_keep 13 = .ok (.aload_n 0, 1) := by decide +kernel
theorem dX8_keep_14 : decode cX8_keep 14 = .ok (.iconst 0, 1) := by decide +kernel
theorem dX8_keep_15 : decode cX8_keep 15 = .ok (.bipush 84, 2) := by decide +kernel
theorem dX8_keep_17 : decode cX8_keep 17 = .ok (.bipush 42, 2) := by decide +kernel
theorem dX8_keep_19 : decode cX8_keep 19 = .ok (.iload_n 1, 1) := by decide +kernel
theorem dX8_keep_20 : decode cX8_keep 20 = .ok (.imul, 1) := by decide +kernel
theorem dX8_keep_21 : decode cX8_keep 21 = .ok (.iadd, 1) := by decide +kernel
theorem dX8_keep_22 : decode cX8_keep 22 = .ok (.invokevirtual 199, 3) := by decide +kernel
theorem dX8_keep_25 : decode cX8_keep 25 = .ok (.aload_n 0, 1) := by decide +kernel
theorem dX8_keep_26 : decode cX8_keep 26 = .ok (.getfield 13, 3) := by decide +kernel
theorem dX8_keep_29 : decode cX8_keep 29 = .ok (.iload_n 1, 1) := by decide +kernel
theorem dX8_keep_30 : decode cX8_keep 30 = .ok (.iconst 1, 1) := by decide +kernel
theorem dX8_keep_31 : decode cX8_keep 31 = .ok (.bastore, 1) := by decide +kernel
theorem dX8_keep_32 : decode cX8_keep 32 = .ok (.aload_n 0, 1) := by decide +kernel
theorem dX8_keep_33 : decode cX8_keep 33 = .ok (.iconst 0, 1) := by decide +kernel
theorem dX8_keep_34 : decode cX8_keep 34 = .ok (.putfield 153, 3) := by decide +kernel
theorem dX8_keep_37 : decode cX8_keep 37 = .ok (.iconst 1, 1) := by decide +kernel
theorem dX8_keep_38 : decode cX8_keep 38 = .ok (.ireturn, 1) := by decide +kernel
theorem dX8_goBack_0 : decode cX8_goBack 0 = .ok (.iload_n 1, 1) := by decide +kernel
theorem dX8_goBack_1 : decode cX8_goBack 1 = .ok (.i2l, 1) := by decide +kernel
theorem dX8_goBack_2 : decode cX8_goBack 2 = .ok (.lconst 0, 1) := by decide +kernel
theorem dX8_goBack_3 : decode cX8_goBack 3 = .ok (.lconst 1, 1) := by decide +kernel
theorem dX8_goBack_4 : decode cX8_goBack 4 = .ok (.invokestatic 70, 3) := by decide +kernel
theorem dX8_goBack_7 : decode cX8_goBack 7 = .ok (.ifCond .ne 6, 3) := by decide +kernel
theorem dX8_goBack_10 : decode cX8_goBack 10 = .ok (.ldc 183, 2) := by decide +kernel
theorem dX8_goBack_12 : decode cX8_goBack 12 = .ok (.ireturn, 1) := by decide +kernel
theorem dX8_goBack_13 : decode cX8_goBack 13 = .ok (.aload_n 0, 1) := by decide +kernel
theorem dX8_goBack_14 : decode cX8_goBack 14 = .ok (.getfield 13, 3) := by decide +kernel
theorem dX8_goBack_17 : decode cX8_goBack 17 = .ok (.iload_n 1, 1) := by decide +kernel
theorem dX8_goBack_18 : decode cX8_goBack 18 = .ok (.baload, 1) := by decide +kernel
theorem dX8_goBack_19 : decode cX8_goBack 19 = .ok (.ifCond .ne 6, 3) := by decide +kernel
theorem dX8_goBack_22 : decode cX8_goBack 22 = .ok (.ldc 202, 2) := by decide +kernel
theorem dX8_goBack_24 : decode cX8_goBack 24 = .ok (.ireturn, 1) := by decide +kernel
theorem dX8_goBack_25 : decode cX8_goBack 25 = .ok (.aload_n 0, 1) := by decide +kernel
theorem dX8_goBack_26 : decode cX8_goBack 26 = .ok (.bipush 84, 2) := by decide +kernel
theorem dX8_goBack_28 : decode cX8_goBack 28 = .ok (.bipush 42, 2) := by decide +kernel
theorem dX8_goBack_30 : decode cX8_goBack 30 = .ok (.iload_n 1, 1) := by decide +kernel
theorem dX8_goBack_31 : decode cX8_goBack 31 = .ok (.imul, 1) := by decide +kernel
theorem dX8_goBack_32 : decode cX8_goBack 32 = .ok (.iadd, 1) := by decide +kernel
theorem dX8_goBack_33 : decode cX8_goBack 33 = .ok (.iconst 0, 1) := by decide +kernel
theorem dX8_goBack_34 : decode cX8_goBack 34 = .ok (.invokevirtual 199, 3) := by decide +kernel
theorem dX8_goBack_37 : decode cX8_goBack 37 = .ok (.aload_n 0, 1) := by decide +kernel
theorem dX8_goBack_38 : decode cX8_goBack 38 = .ok (.iconst 0, 1) := by decide +kernel
theorem dX8_goBack_39 : decode cX8_goBack 39 = .ok (.putfield 153, 3) := by decide +kernel
theorem dX8_goBack_42 : decode cX8_goBack 42 = .ok (.iconst 1, 1) := by decide +kernel
theorem dX8_goBack_43 : decode cX8_goBack 43 = .ok (.ireturn, 1) := by decide +kernel
