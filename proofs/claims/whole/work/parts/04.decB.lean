theorem dX7_init_0 : decode cX7_init 0 = .ok (.aload_n 0, 1) := by decide +kernel
theorem dX7_init_1 : decode cX7_init 1 = .ok (.invokespecial 1, 3) := by decide +kernel
theorem dX7_init_4 : decode cX7_init 4 = .ok (.aload_n 0, 1) := by decide +kernel
theorem dX7_init_5 : decode cX7_init 5 = .ok (.new 7, 3) := by decide +kernel
theorem dX7_init_8 : decode cX7_init 8 = .ok (.dup, 1) := by decide +kernel
theorem dX7_init_9 : decode cX7_init 9 = .ok (.iconst 1, 1) := by decide +kernel
theorem dX7_init_10 : decode cX7_init 10 = .ok (.sipush 220, 3) := by decide +kernel
theorem dX7_init_13 : decode cX7_init 13 = .ok (.invokespecial 11, 3) := by decide +kernel
theorem dX7_init_16 : decode cX7_init 16 = .ok (.putfield 14, 3) := by decide +kernel
theorem dX7_init_19 : decode cX7_init 19 = .ok (.aload_n 0, 1) := by decide +kernel
theorem dX7_init_20 : decode cX7_init 20 = .ok (.new 18, 3) := by decide +kernel
theorem dX7_init_23 : decode cX7_init 23 = .ok (.dup, 1) := by decide +kernel
theorem dX7_init_24 : decode cX7_init 24 = .ok (.aload_n 0, 1) := by decide +kernel
theorem dX7_init_25 : decode cX7_init 25 = .ok (.getfield 14, 3) := by decide +kernel
theorem dX7_init_28 : decode cX7_init 28 = .ok (.invokespecial 20, 3) := by decide +kernel
theorem dX7_init_31 : decode cX7_init 31 = .ok (.putfield 23, 3) := by decide +kernel
theorem dX7_init_34 : decode cX7_init 34 = .ok (.aload_n 0, 1) := by decide +kernel
theorem dX7_init_35 : decode cX7_init 35 = .ok (.new 27, 3) := by decide +kernel
theorem dX7_init_38 : decode cX7_init 38 = .ok (.dup, 1) := by decide +kernel
theorem dX7_init_39 : decode cX7_init 39 = .ok (.invokespecial 29, 3) := by decide +kernel
theorem dX7_init_42 : decode cX7_init 42 = .ok (.putfield 30, 3) := by decide +kernel
theorem dX7_init_45 : decode cX7_init 45 = .ok (.aload_n 0, 1) := by decide +kernel
theorem dX7_init_46 : decode cX7_init 46 = .ok (.new 34, 3) := by decide +kernel
theorem dX7_init_49 : decode cX7_init 49 = .ok (.dup, 1) := by decide +kernel
theorem dX7_init_50 : decode cX7_init 50 = .ok (.invokespecial 36, 3) := by decide +kernel
theorem dX7_init_53 : decode cX7_init 53 = .ok (.putfield 37, 3) := by decide +kernel
theorem dX7_init_56 : decode cX7_init 56 = .ok (.aload_n 0, 1) := by decide +kernel
theorem dX7_init_57 : decode cX7_init 57 = .ok (.new 41, 3) := by decide +kernel
theorem dX7_init_60 : decode cX7_init 60 = .ok (.dup, 1) := by decide +kernel
theorem dX7_init_61 : decode cX7_init 61 = .ok (.invokespecial 43, 3) := by decide +kernel
theorem dX7_init_64 : decode cX7_init 64 = .ok (.putfield 44, 3) := by decide +kernel
theorem dX7_init_67 : decode cX7_init 67 = .ok (.aload_n 0, 1) := by decide +kernel
theorem dX7_init_68 : decode cX7_init 68 = .ok (.new 48, 3) := by decide +kernel
theorem dX7_init_71 : decode cX7_init 71 = .ok (.dup, 1) := by decide +kernel
theorem dX7_init_72 : decode cX7_init 72 = .ok (.invokespecial 50, 3) := by decide +kernel
theorem dX7_init_75 : decode cX7_init 75 = .ok (.putfield 51, 3) := by decide +kernel
theorem dX7_init_78 : decode cX7_init 78 = .ok (.aload_n 0, 1) := by decide +kernel
theorem dX7_init_79 : decode cX7_init 79 = .ok (.new 48, 3) := by decide +kernel
theorem dX7_init_82 : decode cX7_init 82 = .ok (.dup, 1) := by decide +kernel
theorem dX7_init_83 : decode cX7_init 83 = .ok (.invokespecial 50, 3) := by decide +kernel
theorem dX7_init_86 : decode cX7_init 86 = .ok (.putfield 55, 3) := by decide +kernel
theorem dX7_init_89 : decode cX7_init 89 = .ok (.aload_n 0, 1) := by decide +kernel
theorem dX7_init_90 : decode cX7_init 90 = .ok (.new 58, 3) := by decide +kernel
theorem dX7_init_93 : decode cX7_init 93 = .ok (.dup, 1) := by decide +kernel
theorem dX7_init_94 : decode cX7_init 94 = .ok (.aload_n 0, 1) := by decide +kernel
theorem dX7_init_95 : decode cX7_init 95 = .ok (.getfield 30, 3) := by decide +kernel
theorem dX7_init_98 : decode cX7_init 98 = .ok (.invokespecial 60, 3) := by decide +kernel
theorem dX7_init_101 : decode cX7_init 101 = .ok (.putfield 63, 3) := by decide +kernel
theorem dX7_init_104 : decode cX7_init 104 = .ok (.aload_n 0, 1) := by decide +kernel
theorem dX7_init_105 : decode cX7_init 105 = .ok (.new 7, 3) := by decide +kernel
theorem dX7_init_108 : decode cX7_init 108 = .ok (.dup, 1) := by decide +kernel
theorem dX7_init_109 : decode cX7_init 109 = .ok (.iconst 2, 1) := by decide +kernel
theorem dX7_init_110 : decode cX7_init 110 = .ok (.bipush 6, 2) := by decide +kernel
theorem dX7_init_112 : decode cX7_init 112 = .ok (.invokespecial 11, 3) := by decide +kernel
theorem dX7_init_115 : decode cX7_init 115 = .ok (.putfield 67, 3) := by decide +kernel
theorem dX7_init_118 : decode cX7_init 118 = .ok (.aload_n 0, 1) := by decide +kernel
theorem dX7_init_119 : decode cX7_init 119 = .ok (.new 7, 3) := by decide +kernel
theorem dX7_init_122 : decode cX7_init 122 = .ok (.dup, 1) := by decide +kernel
theorem dX7_init_123 : decode cX7_init 123 = .ok (.iconst 1, 1) := by decide +kernel
theorem dX7_init_124 : decode cX7_init 124 = .ok (.bipush 15, 2) := by decide +kernel
theorem dX7_init_126 : decode cX7_init 126 = .ok (.invokespecial 11, 3) := by decide +kernel
theorem dX7_init_129 : decode cX7_init 129 = .ok (.putfield 70, 3) := by decide +kernel
theorem dX7_init_132 : decode cX7_init 132 = .ok (.aload_n 0, 1) := by decide +kernel
theorem dX7_init_133 : decode cX7_init 133 = .ok (.iconst (-1), 1) := by decide +kernel
theorem dX7_init_134 : decode cX7_init 134 = .ok (.putfield 73, 3) := by decide +kernel
theorem dX7_init_137 : decode cX7_init 137 = .ok (.aload_n 0, 1) := by decide +kernel
theorem dX7_init_138 : decode cX7_init 138 = .ok (.iconst 0, 1) := by decide +kernel
theorem dX7_init_139 : decode cX7_init 139 = .ok (.putfield 77, 3) := by decide +kernel
theorem dX7_init_142 : decode cX7_init 142 = .ok (.return_, 1) := by decide +kernel
theorem dX7_feed_0 : decode cX7_feed 0 = .ok (.iload_n 1, 1) := by decide +kernel
theorem dX7_feed_1 : decode cX7_feed 1 = .ok (.ifCond .lt 10, 3) := by decide +kernel
theorem dX7_feed_4 : decode cX7_feed 4 = .ok (.iload_n 1, 1) := by decide +kernel
theorem dX7_feed_5 : decode cX7_feed 5 = .ok (.sipush 255, 3) := by decide +kernel
theorem dX7_feed_8 : decode cX7_feed 8 = .ok (.if_icmp .le 6, 3) := by decide +kernel
theorem dX7_feed_11 : decode cX7_feed 11 = .ok (.ldc 80, 2) := by decide +kernel
theorem dX7_feed_13 : decode cX7_feed 13 = .ok (.ireturn, 1) := by decide +kernel
theorem dX7_feed_14 : decode cX7_feed 14 = .ok (.aload_n 0, 1) := by decide +kernel
theorem dX7_feed_15 : decode cX7_feed 15 = .ok (.getfield 14, 3) := by decide +kernel
theorem dX7_feed_18 : decode cX7_feed 18 = .ok (.invokevirtual 81, 3) := by decide +kernel
theorem dX7_feed_21 : decode cX7_feed 21 = .ok (.ifCond .eq 6, 3) := by decide +kernel
theorem dX7_feed_24 : decode cX7_feed 24 = .ok (.ldc 85, 2) := by decide +kernel
theorem dX7_feed_26 : decode cX7_feed 26 = .ok (.ireturn, 1) := by decide +kernel
theorem dX7_feed_27 : decode cX7_feed 27 = .ok (.aload_n 0, 1) := by decide +kernel
theorem dX7_feed_28 : decode cX7_feed 28 = .ok (.getfield 14, 3) := by decide +kernel
theorem dX7_feed_31 : decode cX7_feed 31 = .ok (.iload_n 1, 1) := by decide +kernel
theorem dX7_feed_32 : decode cX7_feed 32 = .ok (.invokevirtual 86, 3) := by decide +kernel
theorem dX7_feed_35 : decode cX7_feed 35 = .ok (.aload_n 0, 1) := by decide +kernel
theorem dX7_feed_36 : decode cX7_feed 36 = .ok (.getfield 14, 3) := by decide +kernel
theorem dX7_feed_39 : decode cX7_feed 39 = .ok (.invokevirtual 90, 3) := by decide +kernel
theorem dX7_feed_42 : decode cX7_feed 42 = .ok (.ireturn, 1) := by decide +kernel
theorem dX7_voyage_0 : decode cX7_voyage 0 = .ok (.aload_n 0, 1) := by decide +kernel
theorem dX7_voyage_1 : decode cX7_voyage 1 = .ok (.getfield 23, 3) := by decide +kernel
theorem dX7_voyage_4 : decode cX7_voyage 4 = .ok (.invokevirtual 94, 3) := by decide +kernel
theorem dX7_voyage_7 : decode cX7_voyage 7 = .ok (.istore_n 1, 1) := by decide +kernel
theorem dX7_voyage_8 : decode cX7_voyage 8 = .ok (.aload_n 0, 1) := by decide +kernel
theorem dX7_voyage_9 : decode cX7_voyage 9 = .ok (.aload_n 0, 1) := by decide +kernel
theorem dX7_voyage_10 : decode cX7_voyage 10 = .ok (.getfield 23, 3) := by decide +kernel
theorem dX7_voyage_13 : decode cX7_voyage 13 = .ok (.invokevirtual 97, 3) := by decide +kernel
theorem dX7_voyage_16 : decode cX7_voyage 16 = .ok (.putfield 73, 3) := by decide +kernel
theorem dX7_voyage_19 : decode cX7_voyage 19 = .ok (.aload_n 0, 1) := by decide +kernel
theorem dX7_voyage_20 : decode cX7_voyage 20 = .ok (.getfield 14, 3) := by decide +kernel
theorem dX7_voyage_23 : decode cX7_voyage 23 = .ok (.invokevirtual 100, 3) := by decide +kernel
theorem dX7_voyage_26 : decode cX7_voyage 26 = .ok (.iload_n 1, 1) := by decide +kernel
theorem dX7_voyage_27 : decode cX7_voyage 27 = .ok (.ifCond .eq 8, 3) := by decide +kernel
theorem dX7_voyage_30 : decode cX7_voyage 30 = .ok (.bipush (-10), 2) := by decide +kernel
theorem dX7_voyage_32 : decode cX7_voyage 32 = .ok (.iload_n 1, 1) := by decide +kernel
theorem dX7_voyage_33 : decode cX7_voyage 33 = .ok (.isub, 1) := by decide +kernel
theorem dX7_voyage_34 : decode cX7_voyage 34 = .ok (.ireturn, 1) := by decide +kernel
theorem dX7_voyage_35 : decode cX7_voyage 35 = .ok (.aload_n 0, 1) := by decide +kernel
theorem dX7_voyage_36 : decode cX7_voyage 36 = .ok (.getfield 30, 3) := by decide +kernel
theorem dX7_voyage_39 : decode cX7_voyage 39 = .ok (.aload_n 0, 1) := by decide +kernel
theorem dX7_voyage_40 : decode cX7_voyage 40 = .ok (.getfield 23, 3) := by decide +kernel
theorem dX7_voyage_43 : decode cX7_voyage 43 = .ok (.invokevirtual 103, 3) := by decide +kernel
theorem dX7_voyage_46 : decode cX7_voyage 46 = .ok (.invokevirtual 107, 3) := by decide +kernel
theorem dX7_voyage_49 : decode cX7_voyage 49 = .ok (.aload_n 0, 1) := by decide +kernel
theorem dX7_voyage_50 : decode cX7_voyage 50 = .ok (.getfield 37, 3) := by decide +kernel
theorem dX7_voyage_53 : decode cX7_voyage 53 = .ok (.aload_n 0, 1) := by decide +kernel
theorem dX7_voyage_54 : decode cX7_voyage 54 = .ok (.getfield 30, 3) := by decide +kernel
theorem dX7_voyage_57 : decode cX7_voyage 57 = .ok (.invokevirtual 110, 3) := by decide +kernel
theorem dX7_voyage_60 : decode cX7_voyage 60 = .ok (.aload_n 0, 1) := by decide +kernel
theorem dX7_voyage_61 : decode cX7_voyage 61 = .ok (.getfield 67, 3) := by decide +kernel
theorem dX7_voyage_64 : decode cX7_voyage 64 = .ok (.invokevirtual 100, 3) := by decide +kernel
theorem dX7_voyage_67 : decode cX7_voyage 67 = .ok (.aload_n 0, 1) := by decide +kernel
theorem dX7_voyage_68 : decode cX7_voyage 68 = .ok (.getfield 70, 3) := by decide +kernel
theorem dX7_voyage_71 : decode cX7_voyage 71 = .ok (.invokevirtual 100, 3) := by decide +kernel
theorem dX7_voyage_74 : decode cX7_voyage 74 = .ok (.aload_n 0, 1) := by decide +kernel
theorem dX7_voyage_75 : decode cX7_voyage 75 = .ok (.getfield 51, 3) := by decide +kernel
theorem dX7_voyage_78 : decode cX7_voyage 78 = .ok (.iconst 0, 1) := by decide +kernel
theorem dX7_voyage_79 : decode cX7_voyage 79 = .ok (.putfield 113, 3) := by decide +kernel
theorem dX7_voyage_82 : decode cX7_voyage 82 = .ok (.aload_n 0, 1) := by decide +kernel
theorem dX7_voyage_83 : decode cX7_voyage 83 = .ok (.getfield 55, 3) := by decide +kernel
theorem dX7_voyage_86 : decode cX7_voyage 86 = .ok (.iconst 0, 1) := by decide +kernel
theorem dX7_voyage_87 : decode cX7_voyage 87 = .ok (.putfield 113, 3) := by decide +kernel
theorem dX7_voyage_90 : decode cX7_voyage 90 = .ok (.aload_n 0, 1) := by decide +kernel
theorem dX7_voyage_91 : decode cX7_voyage 91 = .ok (.getfield 44, 3) := by decide +kernel
theorem dX7_voyage_94 : decode cX7_voyage 94 = .ok (.invokevirtual 117, 3) := by decide +kernel
theorem dX7_voyage_97 : decode cX7_voyage 97 = .ok (.aload_n 0, 1) := by decide +kernel
theorem dX7_voyage_98 : decode cX7_voyage 98 = .ok (.getfield 63, 3) := by decide +kernel
theorem dX7_voyage_101 : decode cX7_voyage 101 = .ok (.invokevirtual 118, 3) := by decide +kernel
theorem dX7_voyage_104 : decode cX7_voyage 104 = .ok (.aload_n 0, 1) := by decide +kernel
theorem dX7_voyage_105 : decode cX7_voyage 105 = .ok (.getfield 30, 3) := by decide +kernel
theorem dX7_voyage_108 : decode cX7_voyage 108 = .ok (.getfield 121, 3) := by decide +kernel
theorem dX7_voyage_111 : decode cX7_voyage 111 = .ok (.invokevirtual 90, 3) := by decide +kernel
theorem dX7_voyage_114 : decode cX7_voyage 114 = .ok (.ireturn, 1) := by decide +kernel
theorem dX7_fault_0 : decode cX7_fault 0 = .ok (.aload_n 0, 1) := by decide +kernel
theorem dX7_fault_1 : decode cX7_fault 1 = .ok (.getfield 73, 3) := by decide +kernel
theorem dX7_fault_4 : decode cX7_fault 4 = .ok (.ireturn, 1) := by decide +kernel
theorem dX7_told_0 : decode cX7_told 0 = .ok (.iload_n 1, 1) := by decide +kernel
theorem dX7_told_1 : decode cX7_told 1 = .ok (.tableswitch 243 0 14 #[75, 88, 101, 109, 117, 128, 139, 150, 158, 166, 171, 191, 219, 227, 235], 75) := by decide +kernel
theorem dX7_told_76 : decode cX7_told 76 = .ok (.aload_n 0, 1) := by decide +kernel
theorem dX7_told_77 : decode cX7_told 77 = .ok (.getfield 30, 3) := by decide +kernel
theorem dX7_told_80 : decode cX7_told 80 = .ok (.getfield 124, 3) := by decide +kernel
theorem dX7_told_83 : decode cX7_told 83 = .ok (.iconst 0, 1) := by decide +kernel
theorem dX7_told_84 : decode cX7_told 84 = .ok (.iconst 0, 1) := by decide +kernel
theorem dX7_told_85 : decode cX7_told 85 = .ok (.invokevirtual 127, 3) := by decide +kernel
theorem dX7_told_88 : decode cX7_told 88 = .ok (.ireturn, 1) := by decide +kernel
theorem dX7_told_89 : decode cX7_told 89 = .ok (.aload_n 0, 1) := by decide +kernel
theorem dX7_told_90 : decode cX7_told 90 = .ok (.getfield 30, 3) := by decide +kernel
theorem dX7_told_93 : decode cX7_told 93 = .ok (.getfield 124, 3) := by decide +kernel
theorem dX7_told_96 : decode cX7_told 96 = .ok (.iconst 0, 1) := by decide +kernel
theorem dX7_told_97 : decode cX7_told 97 = .ok (.iconst 1, 1) := by decide +kernel
theorem dX7_told_98 : decode cX7_told 98 = .ok (.invokevirtual 127, 3) := by decide +kernel
theorem dX7_told_101 : decode cX7_told 101 = .ok (.ireturn, 1) := by decide +kernel
theorem dX7_told_102 : decode cX7_told 102 = .ok (.aload_n 0, 1) := by decide +kernel
theorem dX7_told_103 : decode cX7_told 103 = .ok (.getfield 37, 3) := by decide +kernel
theorem dX7_told_106 : decode cX7_told 106 = .ok (.getfield 131, 3) := by decide +kernel
theorem dX7_told_109 : decode cX7_told 109 = .ok (.ireturn, 1) := by decide +kernel
theorem dX7_told_110 : decode cX7_told 110 = .ok (.aload_n 0, 1) := by decide +kernel
theorem dX7_told_111 : decode cX7_told 111 = .ok (.getfield 37, 3) := by decide +kernel
theorem dX7_told_114 : decode cX7_told 114 = .ok (.getfield 134, 3) := by decide +kernel
theorem dX7_told_117 : decode cX7_told 117 = .ok (.ireturn, 1) := by decide +kernel
theorem dX7_told_118 : decode cX7_told 118 = .ok (.aload_n 0, 1) := by decide +kernel
theorem dX7_told_119 : decode cX7_told 119 = .ok (.getfield 30, 3) := by decide +kernel
theorem dX7_told_122 : decode cX7_told 122 = .ok (.getfield 121, 3) := by decide +kernel
theorem dX7_told_125 : decode cX7_told 125 = .ok (.invokevirtual 90, 3) := by decide +kernel
theorem dX7_told_128 : decode cX7_told 128 = .ok (.ireturn, 1) := by decide +kernel
theorem dX7_told_129 : decode cX7_told 129 = .ok (.aload_n 0, 1) := by decide +kernel
theorem dX7_told_130 : decode cX7_told 130 = .ok (.getfield 30, 3) := by decide +kernel
theorem dX7_told_133 : decode cX7_told 133 = .ok (.getfield 137, 3) := by decide +kernel
theorem dX7_told_136 : decode cX7_told 136 = .ok (.invokevirtual 90, 3) := by decide +kernel
theorem dX7_told_139 : decode cX7_told 139 = .ok (.ireturn, 1) := by decide +kernel
theorem dX7_told_140 : decode cX7_told 140 = .ok (.aload_n 0, 1) := by decide +kernel
theorem dX7_told_141 : decode cX7_told 141 = .ok (.getfield 37, 3) := by decide +kernel
theorem dX7_told_144 : decode cX7_told 144 = .ok (.getfield 140, 3) := by decide +kernel
theorem dX7_told_147 : decode cX7_told 147 = .ok (.invokevirtual 90, 3) := by decide +kernel
theorem dX7_told_150 : decode cX7_told 150 = .ok (.ireturn, 1) := by decide +kernel
theorem dX7_told_151 : decode cX7_told 151 = .ok (.aload_n 0, 1) := by decide +kernel
theorem dX7_told_152 : decode cX7_told 152 = .ok (.getfield 14, 3) := by decide +kernel
theorem dX7_told_155 : decode cX7_told 155 = .ok (.invokevirtual 90, 3) := by decide +kernel
theorem dX7_told_158 : decode cX7_told 158 = .ok (.ireturn, 1) := by decide +kernel
theorem dX7_told_159 : decode cX7_told 159 = .ok (.aload_n 0, 1) := by decide +kernel
theorem dX7_told_160 : decode cX7_told 160 = .ok (.getfield 37, 3) := by decide +kernel
theorem dX7_told_163 : decode cX7_told 163 = .ok (.getfield 143, 3) := by decide +kernel
theorem dX7_told_166 : decode cX7_told 166 = .ok (.ireturn, 1) := by decide +kernel
theorem dX7_told_167 : decode cX7_told 167 = .ok (.aload_n 0, 1) := by decide +kernel
theorem dX7_told_168 : decode cX7_told 168 = .ok (.invokevirtual 146, 3) := by decide +kernel
theorem dX7_told_171 : decode cX7_told 171 = .ok (.ireturn, 1) := by decide +kernel
theorem dX7_told_172 : decode cX7_told 172 = .ok (.aload_n 0, 1) := by decide +kernel
theorem dX7_told_173 : decode cX7_told 173 = .ok (.getfield 37, 3) := by decide +kernel
theorem dX7_told_176 : decode cX7_told 176 = .ok (.iconst 0, 1) := by decide +kernel
theorem dX7_told_177 : decode cX7_told 177 = .ok (.iconst 1, 1) := by decide +kernel
theorem dX7_told_178 : decode cX7_told 178 = .ok (.invokevirtual 149, 3) := by decide +kernel
theorem dX7_told_181 : decode cX7_told 181 = .ok (.aload_n 0, 1) := by decide +kernel
theorem dX7_told_182 : decode cX7_told 182 = .ok (.getfield 37, 3) := by decide +kernel
theorem dX7_told_185 : decode cX7_told 185 = .ok (.iconst 0, 1) := by decide +kernel
theorem dX7_told_186 : decode cX7_told 186 = .ok (.iconst 0, 1) := by decide +kernel
theorem dX7_told_187 : decode cX7_told 187 = .ok (.invokevirtual 149, 3) := by decide +kernel
theorem dX7_told_190 : decode cX7_told 190 = .ok (.iadd, 1) := by decide +kernel
theorem dX7_told_191 : decode cX7_told 191 = .ok (.ireturn, 1) := by decide +kernel
theorem dX7_told_192 : decode cX7_told 192 = .ok (.aload_n 0, 1) := by decide +kernel
theorem dX7_told_193 : decode cX7_told 193 = .ok (.invokevirtual 152, 3) := by decide +kernel
theorem dX7_told_196 : decode cX7_told 196 = .ok (.ifCond .eq 7, 3) := by decide +kernel
theorem dX7_told_199 : decode cX7_told 199 = .ok (.iconst 0, 1) := by decide +kernel
theorem dX7_told_200 : decode cX7_told 200 = .ok (.goto 19, 3) := by decide +kernel
theorem dX7_told_203 : decode cX7_told 203 = .ok (.iconst 0, 1) := by decide +kernel
theorem dX7_told_204 : decode cX7_told 204 = .ok (.aload_n 0, 1) := by decide +kernel
theorem dX7_told_205 : decode cX7_told 205 = .ok (.invokevirtual 155, 3) := by decide +kernel
theorem dX7_told_208 : decode cX7_told 208 = .ok (.aload_n 0, 1) := by decide +kernel
theorem dX7_told_209 : decode cX7_told 209 = .ok (.getfield 37, 3) := by decide +kernel
theorem dX7_told_212 : decode cX7_told 212 = .ok (.getfield 134, 3) := by decide +kernel
theorem dX7_told_215 : decode cX7_told 215 = .ok (.iadd, 1) := by decide +kernel
theorem dX7_told_216 : decode cX7_told 216 = .ok (.invokestatic 158, 3) := by decide +kernel
theorem dX7_told_219 : decode cX7_told 219 = .ok (.ireturn, 1) := by decide +kernel
theorem dX7_told_220 : decode cX7_told 220 = .ok (.aload_n 0, 1) := by decide +kernel
theorem dX7_told_221 : decode cX7_told 221 = .ok (.getfield 67, 3) := by decide +kernel
theorem dX7_told_224 : decode cX7_told 224 = .ok (.invokevirtual 90, 3) := by decide +kernel
theorem dX7_told_227 : decode cX7_told 227 = .ok (.ireturn, 1) := by decide +kernel
theorem dX7_told_228 : decode cX7_told 228 = .ok (.aload_n 0, 1) := by decide +kernel
theorem dX7_told_229 : decode cX7_told 229 = .ok (.getfield 70, 3) := by decide +kernel
theorem dX7_told_232 : decode cX7_told 232 = .ok (.invokevirtual 90, 3) := by decide +kernel
theorem dX7_told_235 : decode cX7_told 235 = .ok (.ireturn, 1) := by decide +kernel
theorem dX7_told_236 : decode cX7_told 236 = .ok (.aload_n 0, 1) := by decide +kernel
theorem dX7_told_237 : decode cX7_told 237 = .ok (.getfield 44, 3) := by decide +kernel
theorem dX7_told_240 : decode cX7_told 240 = .ok (.invokevirtual 163, 3) := by decide +kernel
theorem dX7_told_243 : decode cX7_told 243 = .ok (.ireturn, 1) := by decide +kernel
theorem dX7_told_244 : decode cX7_told 244 = .ok (.ldc 80, 2) := by decide +kernel
theorem dX7_told_246 : decode cX7_told 246 = .ok (.ireturn, 1) := by decide +kernel
theorem dX7_leg_0 : decode cX7_leg 0 = .ok (.aload_n 0, 1) := by decide +kernel
theorem dX7_leg_1 : decode cX7_leg 1 = .ok (.getfield 30, 3) := by decide +kernel
theorem dX7_leg_4 : decode cX7_leg 4 = .ok (.getfield 121, 3) := by decide +kernel
theorem dX7_leg_7 : decode cX7_leg 7 = .ok (.iload_n 1, 1) := by decide +kernel
theorem dX7_leg_8 : decode cX7_leg 8 = .ok (.invokevirtual 166, 3) := by decide +kernel
theorem dX7_leg_11 : decode cX7_leg 11 = .ok (.ifCond .ne 6, 3) := by decide +kernel
theorem dX7_leg_14 : decode cX7_leg 14 = .ok (.ldc 170, 2) := by decide +kernel
theorem dX7_leg_16 : decode cX7_leg 16 = .ok (.ireturn, 1) := by decide +kernel
theorem dX7_leg_17 : decode cX7_leg 17 = .ok (.iload_n 2, 1) := by decide +kernel
theorem dX7_leg_18 : decode cX7_leg 18 = .ok (.ifCond .lt 8, 3) := by decide +kernel
theorem dX7_leg_21 : decode cX7_leg 21 = .ok (.iload_n 2, 1) := by decide +kernel
theorem dX7_leg_22 : decode cX7_leg 22 = .ok (.iconst 3, 1) := by decide +kernel
theorem dX7_leg_23 : decode cX7_leg 23 = .ok (.if_icmp .le 6, 3) := by decide +kernel
theorem dX7_leg_26 : decode cX7_leg 26 = .ok (.ldc 80, 2) := by decide +kernel
theorem dX7_leg_28 : decode cX7_leg 28 = .ok (.ireturn, 1) := by decide +kernel
theorem dX7_leg_29 : decode cX7_leg 29 = .ok (.iload_n 2, 1) := by decide +kernel
theorem dX7_leg_30 : decode cX7_leg 30 = .ok (.iconst 3, 1) := by decide +kernel
theorem dX7_leg_31 : decode cX7_leg 31 = .ok (.if_icmp .ne 21, 3) := by decide +kernel
theorem dX7_leg_34 : decode cX7_leg 34 = .ok (.aload_n 0, 1) := by decide +kernel
theorem dX7_leg_35 : decode cX7_leg 35 = .ok (.getfield 30, 3) := by decide +kernel
theorem dX7_leg_38 : decode cX7_leg 38 = .ok (.iload_n 1, 1) := by decide +kernel
theorem dX7_leg_39 : decode cX7_leg 39 = .ok (.aload_n 0, 1) := by decide +kernel
theorem dX7_leg_40 : decode cX7_leg 40 = .ok (.getfield 37, 3) := by decide +kernel
theorem dX7_leg_43 : decode cX7_leg 43 = .ok (.getfield 131, 3) := by decide +kernel
theorem dX7_leg_46 : decode cX7_leg 46 = .ok (.invokevirtual 171, 3) := by decide +kernel
theorem dX7_leg_49 : decode cX7_leg 49 = .ok (.goto 15, 3) := by decide +kernel
theorem dX7_leg_52 : decode cX7_leg 52 = .ok (.aload_n 0, 1) := by decide +kernel
theorem dX7_leg_53 : decode cX7_leg 53 = .ok (.getfield 30, 3) := by decide +kernel
theorem dX7_leg_56 : decode cX7_leg 56 = .ok (.getfield 121, 3) := by decide +kernel
theorem dX7_leg_59 : decode cX7_leg 59 = .ok (.iload_n 1, 1) := by decide +kernel
theorem dX7_leg_60 : decode cX7_leg 60 = .ok (.iload_n 2, 1) := by decide +kernel
theorem dX7_leg_61 : decode cX7_leg 61 = .ok (.invokevirtual 127, 3) := by decide +kernel
theorem dX7_leg_64 : decode cX7_leg 64 = .ok (.ireturn, 1) := by decide +kernel
theorem dX7_lender_0 : decode cX7_lender 0 = .ok (.aload_n 0, 1) := by decide +kernel
theorem dX7_lender_1 : decode cX7_lender 1 = .ok (.getfield 30, 3) := by decide +kernel
theorem dX7_lender_4 : decode cX7_lender 4 = .ok (.getfield 137, 3) := by decide +kernel
theorem dX7_lender_7 : decode cX7_lender 7 = .ok (.iload_n 1, 1) := by decide +kernel
theorem dX7_lender_8 : decode cX7_lender 8 = .ok (.invokevirtual 166, 3) := by decide +kernel
theorem dX7_lender_11 : decode cX7_lender 11 = .ok (.ifCond .ne 6, 3) := by decide +kernel
theorem dX7_lender_14 : decode cX7_lender 14 = .ok (.ldc 170, 2) := by decide +kernel
theorem dX7_lender_16 : decode cX7_lender 16 = .ok (.ireturn, 1) := by decide +kernel
theorem dX7_lender_17 : decode cX7_lender 17 = .ok (.iload_n 2, 1) := by decide +kernel
theorem dX7_lender_18 : decode cX7_lender 18 = .ok (.ifCond .lt 8, 3) := by decide +kernel
theorem dX7_lender_21 : decode cX7_lender 21 = .ok (.iload_n 2, 1) := by decide +kernel
theorem dX7_lender_22 : decode cX7_lender 22 = .ok (.iconst 2, 1) := by decide +kernel
theorem dX7_lender_23 : decode cX7_lender 23 = .ok (.if_icmp .le 6, 3) := by decide +kernel
theorem dX7_lender_26 : decode cX7_lender 26 = .ok (.ldc 80, 2) := by decide +kernel
theorem dX7_lender_28 : decode cX7_lender 28 = .ok (.ireturn, 1) := by decide +kernel
theorem dX7_lender_29 : decode cX7_lender 29 = .ok (.iload_n 2, 1) := by decide +kernel
theorem dX7_lender_30 : decode cX7_lender 30 = .ok (.iconst 2, 1) := by decide +kernel
theorem dX7_lender_31 : decode cX7_lender 31 = .ok (.if_icmp .ne 11, 3) := by decide +kernel
theorem dX7_lender_34 : decode cX7_lender 34 = .ok (.aload_n 0, 1) := by decide +kernel
theorem dX7_lender_35 : decode cX7_lender 35 = .ok (.iload_n 1, 1) := by decide +kernel
theorem dX7_lender_36 : decode cX7_lender 36 = .ok (.invokevirtual 174, 3) := by decide +kernel
theorem dX7_lender_39 : decode cX7_lender 39 = .ok (.goto 15, 3) := by decide +kernel
theorem dX7_lender_42 : decode cX7_lender 42 = .ok (.aload_n 0, 1) := by decide +kernel
theorem dX7_lender_43 : decode cX7_lender 43 = .ok (.getfield 30, 3) := by decide +kernel
theorem dX7_lender_46 : decode cX7_lender 46 = .ok (.getfield 137, 3) := by decide +kernel
theorem dX7_lender_49 : decode cX7_lender 49 = .ok (.iload_n 1, 1) := by decide +kernel
theorem dX7_lender_50 : decode cX7_lender 50 = .ok (.iload_n 2, 1) := by decide +kernel
theorem dX7_lender_51 : decode cX7_lender 51 = .ok (.invokevirtual 127, 3) := by decide +kernel
theorem dX7_lender_54 : decode cX7_lender 54 = .ok (.ireturn, 1) := by decide +kernel
theorem dX7_loan_0 : decode cX7_loan 0 = .ok (.aload_n 0, 1) := by decide +kernel
theorem dX7_loan_1 : decode cX7_loan 1 = .ok (.getfield 37, 3) := by decide +kernel
theorem dX7_loan_4 : decode cX7_loan 4 = .ok (.getfield 140, 3) := by decide +kernel
theorem dX7_loan_7 : decode cX7_loan 7 = .ok (.iload_n 1, 1) := by decide +kernel
theorem dX7_loan_8 : decode cX7_loan 8 = .ok (.invokevirtual 166, 3) := by decide +kernel
theorem dX7_loan_11 : decode cX7_loan 11 = .ok (.ifCond .ne 6, 3) := by decide +kernel
theorem dX7_loan_14 : decode cX7_loan 14 = .ok (.ldc 170, 2) := by decide +kernel
theorem dX7_loan_16 : decode cX7_loan 16 = .ok (.ireturn, 1) := by decide +kernel
theorem dX7_loan_17 : decode cX7_loan 17 = .ok (.iload_n 2, 1) := by decide +kernel
theorem dX7_loan_18 : decode cX7_loan 18 = .ok (.ifCond .lt 8, 3) := by decide +kernel
theorem dX7_loan_21 : decode cX7_loan 21 = .ok (.iload_n 2, 1) := by decide +kernel
theorem dX7_loan_22 : decode cX7_loan 22 = .ok (.iconst 5, 1) := by decide +kernel
theorem dX7_loan_23 : decode cX7_loan 23 = .ok (.if_icmp .le 6, 3) := by decide +kernel
theorem dX7_loan_26 : decode cX7_loan 26 = .ok (.ldc 80, 2) := by decide +kernel
theorem dX7_loan_28 : decode cX7_loan 28 = .ok (.ireturn, 1) := by decide +kernel
theorem dX7_loan_29 : decode cX7_loan 29 = .ok (.iload_n 2, 1) := by decide +kernel
theorem dX7_loan_30 : decode cX7_loan 30 = .ok (.iconst 5, 1) := by decide +kernel
theorem dX7_loan_31 : decode cX7_loan 31 = .ok (.if_icmp .ne 14, 3) := by decide +kernel
theorem dX7_loan_34 : decode cX7_loan 34 = .ok (.aload_n 0, 1) := by decide +kernel
theorem dX7_loan_35 : decode cX7_loan 35 = .ok (.getfield 37, 3) := by decide +kernel
theorem dX7_loan_38 : decode cX7_loan 38 = .ok (.iload_n 1, 1) := by decide +kernel
theorem dX7_loan_39 : decode cX7_loan 39 = .ok (.invokevirtual 178, 3) := by decide +kernel
theorem dX7_loan_42 : decode cX7_loan 42 = .ok (.goto 15, 3) := by decide +kernel
theorem dX7_loan_45 : decode cX7_loan 45 = .ok (.aload_n 0, 1) := by decide +kernel
theorem dX7_loan_46 : decode cX7_loan 46 = .ok (.getfield 37, 3) := by decide +kernel
theorem dX7_loan_49 : decode cX7_loan 49 = .ok (.getfield 140, 3) := by decide +kernel
theorem dX7_loan_52 : decode cX7_loan 52 = .ok (.iload_n 1, 1) := by decide +kernel
theorem dX7_loan_53 : decode cX7_loan 53 = .ok (.iload_n 2, 1) := by decide +kernel
theorem dX7_loan_54 : decode cX7_loan 54 = .ok (.invokevirtual 127, 3) := by decide +kernel
theorem dX7_loan_57 : decode cX7_loan 57 = .ok (.ireturn, 1) := by decide +kernel
theorem dX7_borrow_0 : decode cX7_borrow 0 = .ok (.aload_n 0, 1) := by decide +kernel
theorem dX7_borrow_1 : decode cX7_borrow 1 = .ok (.getfield 30, 3) := by decide +kernel
theorem dX7_borrow_4 : decode cX7_borrow 4 = .ok (.getfield 137, 3) := by decide +kernel
theorem dX7_borrow_7 : decode cX7_borrow 7 = .ok (.iload_n 1, 1) := by decide +kernel
theorem dX7_borrow_8 : decode cX7_borrow 8 = .ok (.invokevirtual 166, 3) := by decide +kernel
theorem dX7_borrow_11 : decode cX7_borrow 11 = .ok (.ifCond .ne 6, 3) := by decide +kernel
theorem dX7_borrow_14 : decode cX7_borrow 14 = .ok (.ldc 170, 2) := by decide +kernel
theorem dX7_borrow_16 : decode cX7_borrow 16 = .ok (.ireturn, 1) := by decide +kernel
theorem dX7_borrow_17 : decode cX7_borrow 17 = .ok (.iload_n 2, 1) := by decide +kernel
theorem dX7_borrow_18 : decode cX7_borrow 18 = .ok (.iconst 1, 1) := by decide +kernel
theorem dX7_borrow_19 : decode cX7_borrow 19 = .ok (.if_icmp .lt 10, 3) := by decide +kernel
theorem dX7_borrow_22 : decode cX7_borrow 22 = .ok (.iload_n 2, 1) := by decide +kernel
theorem dX7_borrow_23 : decode cX7_borrow 23 = .ok (.sipush 999, 3) := by decide +kernel
theorem dX7_borrow_26 : decode cX7_borrow 26 = .ok (.if_icmp .le 6, 3) := by decide +kernel
theorem dX7_borrow_29 : decode cX7_borrow 29 = .ok (.ldc 80, 2) := by decide +kernel
theorem dX7_borrow_31 : decode cX7_borrow 31 = .ok (.ireturn, 1) := by decide +kernel
theorem dX7_borrow_32 : decode cX7_borrow 32 = .ok (.aload_n 0, 1) := by decide +kernel
theorem dX7_borrow_33 : decode cX7_borrow 33 = .ok (.invokevirtual 181, 3) := by decide +kernel
theorem dX7_borrow_36 : decode cX7_borrow 36 = .ok (.ifCond .eq 12, 3) := by decide +kernel
theorem dX7_borrow_39 : decode cX7_borrow 39 = .ok (.aload_n 0, 1) := by decide +kernel
theorem dX7_borrow_40 : decode cX7_borrow 40 = .ok (.iload_n 1, 1) := by decide +kernel
theorem dX7_borrow_41 : decode cX7_borrow 41 = .ok (.invokevirtual 174, 3) := by decide +kernel
theorem dX7_borrow_44 : decode cX7_borrow 44 = .ok (.iload_n 2, 1) := by decide +kernel
theorem dX7_borrow_45 : decode cX7_borrow 45 = .ok (.if_icmp .ge 6, 3) := by decide +kernel
theorem dX7_borrow_48 : decode cX7_borrow 48 = .ok (.ldc 184, 2) := by decide +kernel
theorem dX7_borrow_50 : decode cX7_borrow 50 = .ok (.ireturn, 1) := by decide +kernel
theorem dX7_borrow_51 : decode cX7_borrow 51 = .ok (.aload_n 0, 1) := by decide +kernel
theorem dX7_borrow_52 : decode cX7_borrow 52 = .ok (.getfield 37, 3) := by decide +kernel
theorem dX7_borrow_55 : decode cX7_borrow 55 = .ok (.getfield 140, 3) := by decide +kernel
theorem dX7_borrow_58 : decode cX7_borrow 58 = .ok (.invokevirtual 81, 3) := by decide +kernel
theorem dX7_borrow_61 : decode cX7_borrow 61 = .ok (.ifCond .eq 6, 3) := by decide +kernel
theorem dX7_borrow_64 : decode cX7_borrow 64 = .ok (.ldc 85, 2) := by decide +kernel
theorem dX7_borrow_66 : decode cX7_borrow 66 = .ok (.ireturn, 1) := by decide +kernel
theorem dX7_borrow_67 : decode cX7_borrow 67 = .ok (.aload_n 0, 1) := by decide +kernel
theorem dX7_borrow_68 : decode cX7_borrow 68 = .ok (.invokevirtual 185, 3) := by decide +kernel
theorem dX7_borrow_71 : decode cX7_borrow 71 = .ok (.aload_n 0, 1) := by decide +kernel
theorem dX7_borrow_72 : decode cX7_borrow 72 = .ok (.getfield 37, 3) := by decide +kernel
theorem dX7_borrow_75 : decode cX7_borrow 75 = .ok (.getfield 140, 3) := by decide +kernel
theorem dX7_borrow_78 : decode cX7_borrow 78 = .ok (.invokevirtual 188, 3) := by decide +kernel
theorem dX7_borrow_81 : decode cX7_borrow 81 = .ok (.istore 4, 2) := by decide +kernel
theorem dX7_borrow_83 : decode cX7_borrow 83 = .ok (.aload_n 0, 1) := by decide +kernel
theorem dX7_borrow_84 : decode cX7_borrow 84 = .ok (.getfield 37, 3) := by decide +kernel
theorem dX7_borrow_87 : decode cX7_borrow 87 = .ok (.getfield 140, 3) := by decide +kernel
theorem dX7_borrow_90 : decode cX7_borrow 90 = .ok (.iload 4, 2) := by decide +kernel
theorem dX7_borrow_92 : decode cX7_borrow 92 = .ok (.iconst 0, 1) := by decide +kernel
theorem dX7_borrow_93 : decode cX7_borrow 93 = .ok (.iload_n 1, 1) := by decide +kernel
theorem dX7_borrow_94 : decode cX7_borrow 94 = .ok (.invokevirtual 191, 3) := by decide +kernel
theorem dX7_borrow_97 : decode cX7_borrow 97 = .ok (.aload_n 0, 1) := by decide +kernel
theorem dX7_borrow_98 : decode cX7_borrow 98 = .ok (.getfield 37, 3) := by decide +kernel
theorem dX7_borrow_101 : decode cX7_borrow 101 = .ok (.getfield 140, 3) := by decide +kernel
theorem dX7_borrow_104 : decode cX7_borrow 104 = .ok (.iload 4, 2) := by decide +kernel
theorem dX7_borrow_106 : decode cX7_borrow 106 = .ok (.iconst 1, 1) := by decide +kernel
theorem dX7_borrow_107 : decode cX7_borrow 107 = .ok (.iload_n 2, 1) := by decide +kernel
theorem dX7_borrow_108 : decode cX7_borrow 108 = .ok (.invokevirtual 191, 3) := by decide +kernel
theorem dX7_borrow_111 : decode cX7_borrow 111 = .ok (.aload_n 0, 1) := by decide +kernel
theorem dX7_borrow_112 : decode cX7_borrow 112 = .ok (.getfield 37, 3) := by decide +kernel
theorem dX7_borrow_115 : decode cX7_borrow 115 = .ok (.getfield 140, 3) := by decide +kernel
theorem dX7_borrow_118 : decode cX7_borrow 118 = .ok (.iload 4, 2) := by decide +kernel
theorem dX7_borrow_120 : decode cX7_borrow 120 = .ok (.iconst 2, 1) := by decide +kernel
theorem dX7_borrow_121 : decode cX7_borrow 121 = .ok (.iload_n 3, 1) := by decide +kernel
theorem dX7_borrow_122 : decode cX7_borrow 122 = .ok (.ifCond .eq 7, 3) := by decide +kernel
theorem dX7_borrow_125 : decode cX7_borrow 125 = .ok (.iconst 1, 1) := by decide +kernel
theorem dX7_borrow_126 : decode cX7_borrow 126 = .ok (.goto 4, 3) := by decide +kernel
theorem dX7_borrow_129 : decode cX7_borrow 129 = .ok (.iconst 0, 1) := by decide +kernel
theorem dX7_borrow_130 : decode cX7_borrow 130 = .ok (.invokevirtual 191, 3) := by decide +kernel
theorem dX7_borrow_133 : decode cX7_borrow 133 = .ok (.aload_n 0, 1) := by decide +kernel
theorem dX7_borrow_134 : decode cX7_borrow 134 = .ok (.getfield 37, 3) := by decide +kernel
theorem dX7_borrow_137 : decode cX7_borrow 137 = .ok (.getfield 140, 3) := by decide +kernel
theorem dX7_borrow_140 : decode cX7_borrow 140 = .ok (.iload 4, 2) := by decide +kernel
theorem dX7_borrow_142 : decode cX7_borrow 142 = .ok (.iconst 3, 1) := by decide +kernel
theorem dX7_borrow_143 : decode cX7_borrow 143 = .ok (.aload_n 0, 1) := by decide +kernel
theorem dX7_borrow_144 : decode cX7_borrow 144 = .ok (.getfield 30, 3) := by decide +kernel
theorem dX7_borrow_147 : decode cX7_borrow 147 = .ok (.iload_n 1, 1) := by decide +kernel
theorem dX7_borrow_148 : decode cX7_borrow 148 = .ok (.iload_n 2, 1) := by decide +kernel
theorem dX7_borrow_149 : decode cX7_borrow 149 = .ok (.invokevirtual 195, 3) := by decide +kernel
theorem dX7_borrow_152 : decode cX7_borrow 152 = .ok (.invokevirtual 191, 3) := by decide +kernel
theorem dX7_borrow_155 : decode cX7_borrow 155 = .ok (.aload_n 0, 1) := by decide +kernel
theorem dX7_borrow_156 : decode cX7_borrow 156 = .ok (.getfield 37, 3) := by decide +kernel
theorem dX7_borrow_159 : decode cX7_borrow 159 = .ok (.getfield 140, 3) := by decide +kernel
theorem dX7_borrow_162 : decode cX7_borrow 162 = .ok (.iload 4, 2) := by decide +kernel
theorem dX7_borrow_164 : decode cX7_borrow 164 = .ok (.iconst 4, 1) := by decide +kernel
theorem dX7_borrow_165 : decode cX7_borrow 165 = .ok (.aload_n 0, 1) := by decide +kernel
theorem dX7_borrow_166 : decode cX7_borrow 166 = .ok (.getfield 37, 3) := by decide +kernel
theorem dX7_borrow_169 : decode cX7_borrow 169 = .ok (.getfield 143, 3) := by decide +kernel
theorem dX7_borrow_172 : decode cX7_borrow 172 = .ok (.invokevirtual 191, 3) := by decide +kernel
theorem dX7_borrow_175 : decode cX7_borrow 175 = .ok (.aload_n 0, 1) := by decide +kernel
theorem dX7_borrow_176 : decode cX7_borrow 176 = .ok (.getfield 37, 3) := by decide +kernel
theorem dX7_borrow_179 : decode cX7_borrow 179 = .ok (.dup, 1) := by decide +kernel
theorem dX7_borrow_180 : decode cX7_borrow 180 = .ok (.getfield 134, 3) := by decide +kernel
theorem dX7_borrow_183 : decode cX7_borrow 183 = .ok (.iload_n 2, 1) := by decide +kernel
theorem dX7_borrow_184 : decode cX7_borrow 184 = .ok (.iadd, 1) := by decide +kernel
theorem dX7_borrow_185 : decode cX7_borrow 185 = .ok (.putfield 134, 3) := by decide +kernel
theorem dX7_borrow_188 : decode cX7_borrow 188 = .ok (.iload 4, 2) := by decide +kernel
theorem dX7_borrow_190 : decode cX7_borrow 190 = .ok (.ireturn, 1) := by decide +kernel
theorem dX7_repair_0 : decode cX7_repair 0 = .ok (.iload_n 1, 1) := by decide +kernel
theorem dX7_repair_1 : decode cX7_repair 1 = .ok (.iconst 1, 1) := by decide +kernel
theorem dX7_repair_2 : decode cX7_repair 2 = .ok (.if_icmp .lt 9, 3) := by decide +kernel
theorem dX7_repair_5 : decode cX7_repair 5 = .ok (.iload_n 1, 1) := by decide +kernel
theorem dX7_repair_6 : decode cX7_repair 6 = .ok (.bipush 9, 2) := by decide +kernel
theorem dX7_repair_8 : decode cX7_repair 8 = .ok (.if_icmp .le 6, 3) := by decide +kernel
theorem dX7_repair_11 : decode cX7_repair 11 = .ok (.ldc 80, 2) := by decide +kernel
theorem dX7_repair_13 : decode cX7_repair 13 = .ok (.ireturn, 1) := by decide +kernel
theorem dX7_repair_14 : decode cX7_repair 14 = .ok (.iload_n 1, 1) := by decide +kernel
theorem dX7_repair_15 : decode cX7_repair 15 = .ok (.aload_n 0, 1) := by decide +kernel
theorem dX7_repair_16 : decode cX7_repair 16 = .ok (.invokevirtual 198, 3) := by decide +kernel
theorem dX7_repair_19 : decode cX7_repair 19 = .ok (.imul, 1) := by decide +kernel
theorem dX7_repair_20 : decode cX7_repair 20 = .ok (.istore_n 2, 1) := by decide +kernel
theorem dX7_repair_21 : decode cX7_repair 21 = .ok (.aload_n 0, 1) := by decide +kernel
theorem dX7_repair_22 : decode cX7_repair 22 = .ok (.invokevirtual 181, 3) := by decide +kernel
theorem dX7_repair_25 : decode cX7_repair 25 = .ok (.ifCond .eq 28, 3) := by decide +kernel
theorem dX7_repair_28 : decode cX7_repair 28 = .ok (.aload_n 0, 1) := by decide +kernel
theorem dX7_repair_29 : decode cX7_repair 29 = .ok (.getfield 37, 3) := by decide +kernel
theorem dX7_repair_32 : decode cX7_repair 32 = .ok (.getfield 131, 3) := by decide +kernel
theorem dX7_repair_35 : decode cX7_repair 35 = .ok (.iload_n 1, 1) := by decide +kernel
theorem dX7_repair_36 : decode cX7_repair 36 = .ok (.iadd, 1) := by decide +kernel
theorem dX7_repair_37 : decode cX7_repair 37 = .ok (.bipush 9, 2) := by decide +kernel
theorem dX7_repair_39 : decode cX7_repair 39 = .ok (.if_icmp .gt 14, 3) := by decide +kernel
theorem dX7_repair_42 : decode cX7_repair 42 = .ok (.aload_n 0, 1) := by decide +kernel
theorem dX7_repair_43 : decode cX7_repair 43 = .ok (.getfield 37, 3) := by decide +kernel
theorem dX7_repair_46 : decode cX7_repair 46 = .ok (.getfield 134, 3) := by decide +kernel
theorem dX7_repair_49 : decode cX7_repair 49 = .ok (.iload_n 2, 1) := by decide +kernel
theorem dX7_repair_50 : decode cX7_repair 50 = .ok (.if_icmp .ge 6, 3) := by decide +kernel
theorem dX7_repair_53 : decode cX7_repair 53 = .ok (.ldc 184, 2) := by decide +kernel
theorem dX7_repair_55 : decode cX7_repair 55 = .ok (.ireturn, 1) := by decide +kernel
theorem dX7_repair_56 : decode cX7_repair 56 = .ok (.aload_n 0, 1) := by decide +kernel
theorem dX7_repair_57 : decode cX7_repair 57 = .ok (.invokevirtual 185, 3) := by decide +kernel
theorem dX7_repair_60 : decode cX7_repair 60 = .ok (.aload_n 0, 1) := by decide +kernel
theorem dX7_repair_61 : decode cX7_repair 61 = .ok (.getfield 37, 3) := by decide +kernel
theorem dX7_repair_64 : decode cX7_repair 64 = .ok (.dup, 1) := by decide +kernel
theorem dX7_repair_65 : decode cX7_repair 65 = .ok (.getfield 131, 3) := by decide +kernel
theorem dX7_repair_68 : decode cX7_repair 68 = .ok (.iload_n 1, 1) := by decide +kernel
theorem dX7_repair_69 : decode cX7_repair 69 = .ok (.iadd, 1) := by decide +kernel
theorem dX7_repair_70 : decode cX7_repair 70 = .ok (.putfield 131, 3) := by decide +kernel
theorem dX7_repair_73 : decode cX7_repair 73 = .ok (.aload_n 0, 1) := by decide +kernel
theorem dX7_repair_74 : decode cX7_repair 74 = .ok (.getfield 37, 3) := by decide +kernel
theorem dX7_repair_77 : decode cX7_repair 77 = .ok (.dup, 1) := by decide +kernel
theorem dX7_repair_78 : decode cX7_repair 78 = .ok (.getfield 134, 3) := by decide +kernel
theorem dX7_repair_81 : decode cX7_repair 81 = .ok (.iload_n 2, 1) := by decide +kernel
theorem dX7_repair_82 : decode cX7_repair 82 = .ok (.isub, 1) := by decide +kernel
theorem dX7_repair_83 : decode cX7_repair 83 = .ok (.putfield 134, 3) := by decide +kernel
theorem dX7_repair_86 : decode cX7_repair 86 = .ok (.aload_n 0, 1) := by decide +kernel
theorem dX7_repair_87 : decode cX7_repair 87 = .ok (.getfield 37, 3) := by decide +kernel
theorem dX7_repair_90 : decode cX7_repair 90 = .ok (.getfield 131, 3) := by decide +kernel
theorem dX7_repair_93 : decode cX7_repair 93 = .ok (.ireturn, 1) := by decide +kernel
theorem dX7_sail_0 : decode cX7_sail 0 = .ok (.aload_n 0, 1) := by decide +kernel
theorem dX7_sail_1 : decode cX7_sail 1 = .ok (.invokevirtual 181, 3) := by decide +kernel
theorem dX7_sail_4 : decode cX7_sail 4 = .ok (.ifCond .ne 6, 3) := by decide +kernel
theorem dX7_sail_7 : decode cX7_sail 7 = .ok (.ldc 184, 2) := by decide +kernel
theorem dX7_sail_9 : decode cX7_sail 9 = .ok (.ireturn, 1) := by decide +kernel
theorem dX7_sail_10 : decode cX7_sail 10 = .ok (.aload_n 0, 1) := by decide +kernel
theorem dX7_sail_11 : decode cX7_sail 11 = .ok (.invokevirtual 185, 3) := by decide +kernel
theorem dX7_sail_14 : decode cX7_sail 14 = .ok (.aload_n 0, 1) := by decide +kernel
theorem dX7_sail_15 : decode cX7_sail 15 = .ok (.getfield 37, 3) := by decide +kernel
theorem dX7_sail_18 : decode cX7_sail 18 = .ok (.iload_n 1, 1) := by decide +kernel
theorem dX7_sail_19 : decode cX7_sail 19 = .ok (.invokevirtual 201, 3) := by decide +kernel
theorem dX7_sail_22 : decode cX7_sail 22 = .ok (.aload_n 0, 1) := by decide +kernel
theorem dX7_sail_23 : decode cX7_sail 23 = .ok (.getfield 37, 3) := by decide +kernel
theorem dX7_sail_26 : decode cX7_sail 26 = .ok (.getfield 143, 3) := by decide +kernel
theorem dX7_sail_29 : decode cX7_sail 29 = .ok (.ireturn, 1) := by decide +kernel
theorem dX7_drift_0 : decode cX7_drift 0 = .ok (.iload_n 1, 1) := by decide +kernel
theorem dX7_drift_1 : decode cX7_drift 1 = .ok (.iconst 1, 1) := by decide +kernel
theorem dX7_drift_2 : decode cX7_drift 2 = .ok (.if_icmp .lt 9, 3) := by decide +kernel
theorem dX7_drift_5 : decode cX7_drift 5 = .ok (.iload_n 1, 1) := by decide +kernel
theorem dX7_drift_6 : decode cX7_drift 6 = .ok (.bipush 7, 2) := by decide +kernel
theorem dX7_drift_8 : decode cX7_drift 8 = .ok (.if_icmp .le 6, 3) := by decide +kernel
theorem dX7_drift_11 : decode cX7_drift 11 = .ok (.ldc 80, 2) := by decide +kernel
theorem dX7_drift_13 : decode cX7_drift 13 = .ok (.ireturn, 1) := by decide +kernel
theorem dX7_drift_14 : decode cX7_drift 14 = .ok (.aload_n 0, 1) := by decide +kernel
theorem dX7_drift_15 : decode cX7_drift 15 = .ok (.invokevirtual 181, 3) := by decide +kernel
theorem dX7_drift_18 : decode cX7_drift 18 = .ok (.ifCond .ne 6, 3) := by decide +kernel
theorem dX7_drift_21 : decode cX7_drift 21 = .ok (.ldc 184, 2) := by decide +kernel
theorem dX7_drift_23 : decode cX7_drift 23 = .ok (.ireturn, 1) := by decide +kernel
theorem dX7_drift_24 : decode cX7_drift 24 = .ok (.aload_n 0, 1) := by decide +kernel
theorem dX7_drift_25 : decode cX7_drift 25 = .ok (.invokevirtual 185, 3) := by decide +kernel
theorem dX7_drift_28 : decode cX7_drift 28 = .ok (.iconst 0, 1) := by decide +kernel
theorem dX7_drift_29 : decode cX7_drift 29 = .ok (.istore_n 2, 1) := by decide +kernel
theorem dX7_drift_30 : decode cX7_drift 30 = .ok (.iload_n 2, 1) := by decide +kernel
theorem dX7_drift_31 : decode cX7_drift 31 = .ok (.iload_n 1, 1) := by decide +kernel
theorem dX7_drift_32 : decode cX7_drift 32 = .ok (.if_icmp .ge 58, 3) := by decide +kernel
theorem dX7_drift_35 : decode cX7_drift 35 = .ok (.aload_n 0, 1) := by decide +kernel
theorem dX7_drift_36 : decode cX7_drift 36 = .ok (.invokevirtual 181, 3) := by decide +kernel
theorem dX7_drift_39 : decode cX7_drift 39 = .ok (.ifCond .eq 51, 3) := by decide +kernel
theorem dX7_drift_42 : decode cX7_drift 42 = .ok (.aload_n 0, 1) := by decide +kernel
theorem dX7_drift_43 : decode cX7_drift 43 = .ok (.getfield 30, 3) := by decide +kernel
theorem dX7_drift_46 : decode cX7_drift 46 = .ok (.aload_n 0, 1) := by decide +kernel
theorem dX7_drift_47 : decode cX7_drift 47 = .ok (.getfield 37, 3) := by decide +kernel
theorem dX7_drift_50 : decode cX7_drift 50 = .ok (.getfield 143, 3) := by decide +kernel
theorem dX7_drift_53 : decode cX7_drift 53 = .ok (.aload_n 0, 1) := by decide +kernel
theorem dX7_drift_54 : decode cX7_drift 54 = .ok (.getfield 37, 3) := by decide +kernel
theorem dX7_drift_57 : decode cX7_drift 57 = .ok (.getfield 131, 3) := by decide +kernel
theorem dX7_drift_60 : decode cX7_drift 60 = .ok (.invokevirtual 171, 3) := by decide +kernel
theorem dX7_drift_63 : decode cX7_drift 63 = .ok (.istore_n 3, 1) := by decide +kernel
theorem dX7_drift_64 : decode cX7_drift 64 = .ok (.aload_n 0, 1) := by decide +kernel
theorem dX7_drift_65 : decode cX7_drift 65 = .ok (.getfield 37, 3) := by decide +kernel
theorem dX7_drift_68 : decode cX7_drift 68 = .ok (.aload_n 0, 1) := by decide +kernel
theorem dX7_drift_69 : decode cX7_drift 69 = .ok (.invokevirtual 205, 3) := by decide +kernel
theorem dX7_drift_72 : decode cX7_drift 72 = .ok (.iload_n 3, 1) := by decide +kernel
theorem dX7_drift_73 : decode cX7_drift 73 = .ok (.if_icmp .lt 7, 3) := by decide +kernel
theorem dX7_drift_76 : decode cX7_drift 76 = .ok (.iconst 1, 1) := by decide +kernel
theorem dX7_drift_77 : decode cX7_drift 77 = .ok (.goto 4, 3) := by decide +kernel
theorem dX7_drift_80 : decode cX7_drift 80 = .ok (.iconst 0, 1) := by decide +kernel
theorem dX7_drift_81 : decode cX7_drift 81 = .ok (.invokevirtual 201, 3) := by decide +kernel
theorem dX7_drift_84 : decode cX7_drift 84 = .ok (.iinc 2 1, 3) := by decide +kernel
theorem dX7_drift_87 : decode cX7_drift 87 = .ok (.goto (-57), 3) := by decide +kernel
theorem dX7_drift_90 : decode cX7_drift 90 = .ok (.aload_n 0, 1) := by decide +kernel
theorem dX7_drift_91 : decode cX7_drift 91 = .ok (.invokevirtual 146, 3) := by decide +kernel
theorem dX7_drift_94 : decode cX7_drift 94 = .ok (.ireturn, 1) := by decide +kernel
theorem dX7_undo_0 : decode cX7_undo 0 = .ok (.aload_n 0, 1) := by decide +kernel
theorem dX7_undo_1 : decode cX7_undo 1 = .ok (.getfield 44, 3) := by decide +kernel
theorem dX7_undo_4 : decode cX7_undo 4 = .ok (.invokevirtual 163, 3) := by decide +kernel
theorem dX7_undo_7 : decode cX7_undo 7 = .ok (.ifCond .ne 6, 3) := by decide +kernel
theorem dX7_undo_10 : decode cX7_undo 10 = .ok (.ldc 184, 2) := by decide +kernel
theorem dX7_undo_12 : decode cX7_undo 12 = .ok (.ireturn, 1) := by decide +kernel
theorem dX7_undo_13 : decode cX7_undo 13 = .ok (.aload_n 0, 1) := by decide +kernel
theorem dX7_undo_14 : decode cX7_undo 14 = .ok (.getfield 44, 3) := by decide +kernel
theorem dX7_undo_17 : decode cX7_undo 17 = .ok (.aload_n 0, 1) := by decide +kernel
theorem dX7_undo_18 : decode cX7_undo 18 = .ok (.getfield 37, 3) := by decide +kernel
theorem dX7_undo_21 : decode cX7_undo 21 = .ok (.invokevirtual 208, 3) := by decide +kernel
theorem dX7_undo_24 : decode cX7_undo 24 = .ok (.aload_n 0, 1) := by decide +kernel
theorem dX7_undo_25 : decode cX7_undo 25 = .ok (.getfield 63, 3) := by decide +kernel
theorem dX7_undo_28 : decode cX7_undo 28 = .ok (.invokevirtual 118, 3) := by decide +kernel
theorem dX7_undo_31 : decode cX7_undo 31 = .ok (.aload_n 0, 1) := by decide +kernel
theorem dX7_undo_32 : decode cX7_undo 32 = .ok (.getfield 44, 3) := by decide +kernel
theorem dX7_undo_35 : decode cX7_undo 35 = .ok (.invokevirtual 163, 3) := by decide +kernel
theorem dX7_undo_38 : decode cX7_undo 38 = .ok (.ireturn, 1) := by decide +kernel
theorem dX7_comesHome_0 : decode cX7_comesHome 0 = .ok (.aload_n 0, 1) := by decide +kernel
theorem dX7_comesHome_1 : decode cX7_comesHome 1 = .ok (.invokevirtual 152, 3) := by decide +kernel
theorem dX7_comesHome_4 : decode cX7_comesHome 4 = .ok (.ifCond .eq 8, 3) := by decide +kernel
theorem dX7_comesHome_7 : decode cX7_comesHome 7 = .ok (.ldc 184, 2) := by decide +kernel
theorem dX7_comesHome_9 : decode cX7_comesHome 9 = .ok (.goto 34, 3) := by decide +kernel
theorem dX7_comesHome_12 : decode cX7_comesHome 12 = .ok (.aload_n 0, 1) := by decide +kernel
theorem dX7_comesHome_13 : decode cX7_comesHome 13 = .ok (.getfield 30, 3) := by decide +kernel
theorem dX7_comesHome_16 : decode cX7_comesHome 16 = .ok (.aload_n 0, 1) := by decide +kernel
theorem dX7_comesHome_17 : decode cX7_comesHome 17 = .ok (.getfield 37, 3) := by decide +kernel
theorem dX7_comesHome_20 : decode cX7_comesHome 20 = .ok (.getfield 143, 3) := by decide +kernel
theorem dX7_comesHome_23 : decode cX7_comesHome 23 = .ok (.aload_n 0, 1) := by decide +kernel
theorem dX7_comesHome_24 : decode cX7_comesHome 24 = .ok (.getfield 30, 3) := by decide +kernel
theorem dX7_comesHome_27 : decode cX7_comesHome 27 = .ok (.getfield 121, 3) := by decide +kernel
theorem dX7_comesHome_30 : decode cX7_comesHome 30 = .ok (.invokevirtual 90, 3) := by decide +kernel
theorem dX7_comesHome_33 : decode cX7_comesHome 33 = .ok (.aload_n 0, 1) := by decide +kernel
theorem dX7_comesHome_34 : decode cX7_comesHome 34 = .ok (.getfield 37, 3) := by decide +kernel
theorem dX7_comesHome_37 : decode cX7_comesHome 37 = .ok (.getfield 131, 3) := by decide +kernel
theorem dX7_comesHome_40 : decode cX7_comesHome 40 = .ok (.invokevirtual 212, 3) := by decide +kernel
theorem dX7_comesHome_43 : decode cX7_comesHome 43 = .ok (.ireturn, 1) := by decide +kernel
theorem dX7_rate_0 : decode cX7_rate 0 = .ok (.aload_n 0, 1) := by decide +kernel
theorem dX7_rate_1 : decode cX7_rate 1 = .ok (.invokevirtual 152, 3) := by decide +kernel
theorem dX7_rate_4 : decode cX7_rate 4 = .ok (.ifCond .eq 8, 3) := by decide +kernel
theorem dX7_rate_7 : decode cX7_rate 7 = .ok (.ldc 184, 2) := by decide +kernel
theorem dX7_rate_9 : decode cX7_rate 9 = .ok (.goto 10, 3) := by decide +kernel
theorem dX7_rate_12 : decode cX7_rate 12 = .ok (.aload_n 0, 1) := by decide +kernel
theorem dX7_rate_13 : decode cX7_rate 13 = .ok (.invokevirtual 216, 3) := by decide +kernel
theorem dX7_rate_16 : decode cX7_rate 16 = .ok (.invokestatic 219, 3) := by decide +kernel
theorem dX7_rate_19 : decode cX7_rate 19 = .ok (.ireturn, 1) := by decide +kernel
theorem dX7_willing_0 : decode cX7_willing 0 = .ok (.aload_n 0, 1) := by decide +kernel
theorem dX7_willing_1 : decode cX7_willing 1 = .ok (.invokevirtual 152, 3) := by decide +kernel
theorem dX7_willing_4 : decode cX7_willing 4 = .ok (.ifCond .eq 6, 3) := by decide +kernel
theorem dX7_willing_7 : decode cX7_willing 7 = .ok (.ldc 184, 2) := by decide +kernel
theorem dX7_willing_9 : decode cX7_willing 9 = .ok (.ireturn, 1) := by decide +kernel
theorem dX7_willing_10 : decode cX7_willing 10 = .ok (.aload_n 0, 1) := by decide +kernel
theorem dX7_willing_11 : decode cX7_willing 11 = .ok (.invokevirtual 216, 3) := by decide +kernel
theorem dX7_willing_14 : decode cX7_willing 14 = .ok (.invokestatic 219, 3) := by decide +kernel
theorem dX7_willing_17 : decode cX7_willing 17 = .ok (.istore_n 1, 1) := by decide +kernel
theorem dX7_willing_18 : decode cX7_willing 18 = .ok (.iconst 0, 1) := by decide +kernel
theorem dX7_willing_19 : decode cX7_willing 19 = .ok (.istore_n 2, 1) := by decide +kernel
theorem dX7_willing_20 : decode cX7_willing 20 = .ok (.iconst 0, 1) := by decide +kernel
theorem dX7_willing_21 : decode cX7_willing 21 = .ok (.istore_n 3, 1) := by decide +kernel
theorem dX7_willing_22 : decode cX7_willing 22 = .ok (.iload_n 3, 1) := by decide +kernel
theorem dX7_willing_23 : decode cX7_willing 23 = .ok (.aload_n 0, 1) := by decide +kernel
theorem dX7_willing_24 : decode cX7_willing 24 = .ok (.getfield 30, 3) := by decide +kernel
theorem dX7_willing_27 : decode cX7_willing 27 = .ok (.getfield 137, 3) := by decide +kernel
theorem dX7_willing_30 : decode cX7_willing 30 = .ok (.invokevirtual 90, 3) := by decide +kernel
theorem dX7_willing_33 : decode cX7_willing 33 = .ok (.if_icmp .ge 36, 3) := by decide +kernel
theorem dX7_willing_36 : decode cX7_willing 36 = .ok (.iload_n 1, 1) := by decide +kernel
theorem dX7_willing_37 : decode cX7_willing 37 = .ok (.iconst (-1), 1) := by decide +kernel
theorem dX7_willing_38 : decode cX7_willing 38 = .ok (.if_icmp .eq 25, 3) := by decide +kernel
theorem dX7_willing_41 : decode cX7_willing 41 = .ok (.aload_n 0, 1) := by decide +kernel
theorem dX7_willing_42 : decode cX7_willing 42 = .ok (.getfield 30, 3) := by decide +kernel
theorem dX7_willing_45 : decode cX7_willing 45 = .ok (.getfield 137, 3) := by decide +kernel
theorem dX7_willing_48 : decode cX7_willing 48 = .ok (.iload_n 3, 1) := by decide +kernel
theorem dX7_willing_49 : decode cX7_willing 49 = .ok (.iconst 1, 1) := by decide +kernel
theorem dX7_willing_50 : decode cX7_willing 50 = .ok (.invokevirtual 127, 3) := by decide +kernel
theorem dX7_willing_53 : decode cX7_willing 53 = .ok (.iload_n 1, 1) := by decide +kernel
theorem dX7_willing_54 : decode cX7_willing 54 = .ok (.if_icmp .lt 9, 3) := by decide +kernel
theorem dX7_willing_57 : decode cX7_willing 57 = .ok (.iload_n 2, 1) := by decide +kernel
theorem dX7_willing_58 : decode cX7_willing 58 = .ok (.iconst 1, 1) := by decide +kernel
theorem dX7_willing_59 : decode cX7_willing 59 = .ok (.iload_n 3, 1) := by decide +kernel
theorem dX7_willing_60 : decode cX7_willing 60 = .ok (.ishl, 1) := by decide +kernel
theorem dX7_willing_61 : decode cX7_willing 61 = .ok (.ior, 1) := by decide +kernel
theorem dX7_willing_62 : decode cX7_willing 62 = .ok (.istore_n 2, 1) := by decide +kernel
theorem dX7_willing_63 : decode cX7_willing 63 = .ok (.iinc 3 1, 3) := by decide +kernel
theorem dX7_willing_66 : decode cX7_willing 66 = .ok (.goto (-44), 3) := by decide +kernel
theorem dX7_willing_69 : decode cX7_willing 69 = .ok (.iload_n 2, 1) := by decide +kernel
theorem dX7_willing_70 : decode cX7_willing 70 = .ok (.ireturn, 1) := by decide +kernel
theorem dX7_paid_0 : decode cX7_paid 0 = .ok (.aload_n 0, 1) := by decide +kernel
theorem dX7_paid_1 : decode cX7_paid 1 = .ok (.getfield 37, 3) := by decide +kernel
theorem dX7_paid_4 : decode cX7_paid 4 = .ok (.getfield 140, 3) := by decide +kernel
theorem dX7_paid_7 : decode cX7_paid 7 = .ok (.iload_n 1, 1) := by decide +kernel
theorem dX7_paid_8 : decode cX7_paid 8 = .ok (.invokevirtual 166, 3) := by decide +kernel
theorem dX7_paid_11 : decode cX7_paid 11 = .ok (.ifCond .ne 6, 3) := by decide +kernel
theorem dX7_paid_14 : decode cX7_paid 14 = .ok (.ldc 170, 2) := by decide +kernel
theorem dX7_paid_16 : decode cX7_paid 16 = .ok (.ireturn, 1) := by decide +kernel
theorem dX7_paid_17 : decode cX7_paid 17 = .ok (.aload_n 0, 1) := by decide +kernel
theorem dX7_paid_18 : decode cX7_paid 18 = .ok (.invokevirtual 152, 3) := by decide +kernel
theorem dX7_paid_21 : decode cX7_paid 21 = .ok (.ifCond .eq 8, 3) := by decide +kernel
theorem dX7_paid_24 : decode cX7_paid 24 = .ok (.ldc 184, 2) := by decide +kernel
theorem dX7_paid_26 : decode cX7_paid 26 = .ok (.goto 8, 3) := by decide +kernel
theorem dX7_paid_29 : decode cX7_paid 29 = .ok (.aload_n 0, 1) := by decide +kernel
theorem dX7_paid_30 : decode cX7_paid 30 = .ok (.iload_n 1, 1) := by decide +kernel
theorem dX7_paid_31 : decode cX7_paid 31 = .ok (.invokevirtual 222, 3) := by decide +kernel
theorem dX7_paid_34 : decode cX7_paid 34 = .ok (.ireturn, 1) := by decide +kernel
theorem dX7_hurt_0 : decode cX7_hurt 0 = .ok (.aload_n 0, 1) := by decide +kernel
theorem dX7_hurt_1 : decode cX7_hurt 1 = .ok (.getfield 30, 3) := by decide +kernel
theorem dX7_hurt_4 : decode cX7_hurt 4 = .ok (.getfield 137, 3) := by decide +kernel
theorem dX7_hurt_7 : decode cX7_hurt 7 = .ok (.iload_n 1, 1) := by decide +kernel
theorem dX7_hurt_8 : decode cX7_hurt 8 = .ok (.invokevirtual 166, 3) := by decide +kernel
theorem dX7_hurt_11 : decode cX7_hurt 11 = .ok (.ifCond .ne 6, 3) := by decide +kernel
theorem dX7_hurt_14 : decode cX7_hurt 14 = .ok (.ldc 170, 2) := by decide +kernel
theorem dX7_hurt_16 : decode cX7_hurt 16 = .ok (.ireturn, 1) := by decide +kernel
theorem dX7_hurt_17 : decode cX7_hurt 17 = .ok (.iload_n 2, 1) := by decide +kernel
theorem dX7_hurt_18 : decode cX7_hurt 18 = .ok (.iconst 1, 1) := by decide +kernel
theorem dX7_hurt_19 : decode cX7_hurt 19 = .ok (.if_icmp .lt 10, 3) := by decide +kernel
theorem dX7_hurt_22 : decode cX7_hurt 22 = .ok (.iload_n 2, 1) := by decide +kernel
theorem dX7_hurt_23 : decode cX7_hurt 23 = .ok (.sipush 999, 3) := by decide +kernel
theorem dX7_hurt_26 : decode cX7_hurt 26 = .ok (.if_icmp .le 6, 3) := by decide +kernel
theorem dX7_hurt_29 : decode cX7_hurt 29 = .ok (.ldc 80, 2) := by decide +kernel
theorem dX7_hurt_31 : decode cX7_hurt 31 = .ok (.ireturn, 1) := by decide +kernel
theorem dX7_hurt_32 : decode cX7_hurt 32 = .ok (.aload_n 0, 1) := by decide +kernel
theorem dX7_hurt_33 : decode cX7_hurt 33 = .ok (.invokevirtual 152, 3) := by decide +kernel
theorem dX7_hurt_36 : decode cX7_hurt 36 = .ok (.ifCond .eq 6, 3) := by decide +kernel
theorem dX7_hurt_39 : decode cX7_hurt 39 = .ok (.ldc 184, 2) := by decide +kernel
theorem dX7_hurt_41 : decode cX7_hurt 41 = .ok (.ireturn, 1) := by decide +kernel
theorem dX7_hurt_42 : decode cX7_hurt 42 = .ok (.aload_n 0, 1) := by decide +kernel
theorem dX7_hurt_43 : decode cX7_hurt 43 = .ok (.getfield 30, 3) := by decide +kernel
theorem dX7_hurt_46 : decode cX7_hurt 46 = .ok (.iload_n 1, 1) := by decide +kernel
theorem dX7_hurt_47 : decode cX7_hurt 47 = .ok (.iload_n 2, 1) := by decide +kernel
theorem dX7_hurt_48 : decode cX7_hurt 48 = .ok (.invokevirtual 195, 3) := by decide +kernel
theorem dX7_hurt_51 : decode cX7_hurt 51 = .ok (.istore 4, 2) := by decide +kernel
theorem dX7_hurt_53 : decode cX7_hurt 53 = .ok (.aload_n 0, 1) := by decide +kernel
theorem dX7_hurt_54 : decode cX7_hurt 54 = .ok (.getfield 30, 3) := by decide +kernel
theorem dX7_hurt_57 : decode cX7_hurt 57 = .ok (.getfield 124, 3) := by decide +kernel
theorem dX7_hurt_60 : decode cX7_hurt 60 = .ok (.iconst 0, 1) := by decide +kernel
theorem dX7_hurt_61 : decode cX7_hurt 61 = .ok (.iconst 1, 1) := by decide +kernel
theorem dX7_hurt_62 : decode cX7_hurt 62 = .ok (.invokevirtual 127, 3) := by decide +kernel
theorem dX7_hurt_65 : decode cX7_hurt 65 = .ok (.iload_n 3, 1) := by decide +kernel
theorem dX7_hurt_66 : decode cX7_hurt 66 = .ok (.ifCond .eq 8, 3) := by decide +kernel
theorem dX7_hurt_69 : decode cX7_hurt 69 = .ok (.iload 4, 2) := by decide +kernel
theorem dX7_hurt_71 : decode cX7_hurt 71 = .ok (.goto 4, 3) := by decide +kernel
theorem dX7_hurt_74 : decode cX7_hurt 74 = .ok (.iconst 0, 1) := by decide +kernel
theorem dX7_hurt_75 : decode cX7_hurt 75 = .ok (.isub, 1) := by decide +kernel
theorem dX7_hurt_76 : decode cX7_hurt 76 = .ok (.istore 5, 2) := by decide +kernel
theorem dX7_hurt_78 : decode cX7_hurt 78 = .ok (.aload_n 0, 1) := by decide +kernel
theorem dX7_hurt_79 : decode cX7_hurt 79 = .ok (.iload 5, 2) := by decide +kernel
theorem dX7_hurt_81 : decode cX7_hurt 81 = .ok (.invokevirtual 225, 3) := by decide +kernel
theorem dX7_hurt_84 : decode cX7_hurt 84 = .ok (.iload_n 2, 1) := by decide +kernel
theorem dX7_hurt_85 : decode cX7_hurt 85 = .ok (.iadd, 1) := by decide +kernel
theorem dX7_hurt_86 : decode cX7_hurt 86 = .ok (.iload_n 3, 1) := by decide +kernel
theorem dX7_hurt_87 : decode cX7_hurt 87 = .ok (.ifCond .eq 7, 3) := by decide +kernel
theorem dX7_hurt_90 : decode cX7_hurt 90 = .ok (.iconst 0, 1) := by decide +kernel
theorem dX7_hurt_91 : decode cX7_hurt 91 = .ok (.goto 5, 3) := by decide +kernel
theorem dX7_hurt_94 : decode cX7_hurt 94 = .ok (.iload 4, 2) := by decide +kernel
theorem dX7_hurt_96 : decode cX7_hurt 96 = .ok (.isub, 1) := by decide +kernel
theorem dX7_hurt_97 : decode cX7_hurt 97 = .ok (.istore 6, 2) := by decide +kernel
theorem dX7_hurt_99 : decode cX7_hurt 99 = .ok (.iconst 0, 1) := by decide +kernel
theorem dX7_hurt_100 : decode cX7_hurt 100 = .ok (.istore 7, 2) := by decide +kernel
theorem dX7_hurt_102 : decode cX7_hurt 102 = .ok (.iconst 0, 1) := by decide +kernel
theorem dX7_hurt_103 : decode cX7_hurt 103 = .ok (.istore 8, 2) := by decide +kernel
theorem dX7_hurt_105 : decode cX7_hurt 105 = .ok (.iload 8, 2) := by decide +kernel
theorem dX7_hurt_107 : decode cX7_hurt 107 = .ok (.aload_n 0, 1) := by decide +kernel
theorem dX7_hurt_108 : decode cX7_hurt 108 = .ok (.getfield 37, 3) := by decide +kernel
theorem dX7_hurt_111 : decode cX7_hurt 111 = .ok (.getfield 140, 3) := by decide +kernel
theorem dX7_hurt_114 : decode cX7_hurt 114 = .ok (.invokevirtual 90, 3) := by decide +kernel
theorem dX7_hurt_117 : decode cX7_hurt 117 = .ok (.if_icmp .ge 40, 3) := by decide +kernel
theorem dX7_hurt_120 : decode cX7_hurt 120 = .ok (.aload_n 0, 1) := by decide +kernel
theorem dX7_hurt_121 : decode cX7_hurt 121 = .ok (.getfield 37, 3) := by decide +kernel
theorem dX7_hurt_124 : decode cX7_hurt 124 = .ok (.iload 8, 2) := by decide +kernel
theorem dX7_hurt_126 : decode cX7_hurt 126 = .ok (.iload 6, 2) := by decide +kernel
theorem dX7_hurt_128 : decode cX7_hurt 128 = .ok (.iload 5, 2) := by decide +kernel
theorem dX7_hurt_130 : decode cX7_hurt 130 = .ok (.invokevirtual 228, 3) := by decide +kernel
theorem dX7_hurt_133 : decode cX7_hurt 133 = .ok (.aload_n 0, 1) := by decide +kernel
theorem dX7_hurt_134 : decode cX7_hurt 134 = .ok (.iload 8, 2) := by decide +kernel
theorem dX7_hurt_136 : decode cX7_hurt 136 = .ok (.invokevirtual 222, 3) := by decide +kernel
theorem dX7_hurt_139 : decode cX7_hurt 139 = .ok (.if_icmp .ge 12, 3) := by decide +kernel
theorem dX7_hurt_142 : decode cX7_hurt 142 = .ok (.iload 7, 2) := by decide +kernel
theorem dX7_hurt_144 : decode cX7_hurt 144 = .ok (.iconst 1, 1) := by decide +kernel
theorem dX7_hurt_145 : decode cX7_hurt 145 = .ok (.iload 8, 2) := by decide +kernel
theorem dX7_hurt_147 : decode cX7_hurt 147 = .ok (.ishl, 1) := by decide +kernel
theorem dX7_hurt_148 : decode cX7_hurt 148 = .ok (.ior, 1) := by decide +kernel
theorem dX7_hurt_149 : decode cX7_hurt 149 = .ok (.istore 7, 2) := by decide +kernel
theorem dX7_hurt_151 : decode cX7_hurt 151 = .ok (.iinc 8 1, 3) := by decide +kernel
theorem dX7_hurt_154 : decode cX7_hurt 154 = .ok (.goto (-49), 3) := by decide +kernel
theorem dX7_hurt_157 : decode cX7_hurt 157 = .ok (.iload 7, 2) := by decide +kernel
theorem dX7_hurt_159 : decode cX7_hurt 159 = .ok (.ireturn, 1) := by decide +kernel
theorem dX7_share_0 : decode cX7_share 0 = .ok (.aload_n 0, 1) := by decide +kernel
theorem dX7_share_1 : decode cX7_share 1 = .ok (.getfield 37, 3) := by decide +kernel
theorem dX7_share_4 : decode cX7_share 4 = .ok (.getfield 140, 3) := by decide +kernel
theorem dX7_share_7 : decode cX7_share 7 = .ok (.iload_n 1, 1) := by decide +kernel
theorem dX7_share_8 : decode cX7_share 8 = .ok (.invokevirtual 166, 3) := by decide +kernel
theorem dX7_share_11 : decode cX7_share 11 = .ok (.ifCond .ne 6, 3) := by decide +kernel
theorem dX7_share_14 : decode cX7_share 14 = .ok (.ldc 170, 2) := by decide +kernel
theorem dX7_share_16 : decode cX7_share 16 = .ok (.ireturn, 1) := by decide +kernel
theorem dX7_share_17 : decode cX7_share 17 = .ok (.iload_n 2, 1) := by decide +kernel
theorem dX7_share_18 : decode cX7_share 18 = .ok (.ifCond .lt 10, 3) := by decide +kernel
theorem dX7_share_21 : decode cX7_share 21 = .ok (.iload_n 2, 1) := by decide +kernel
theorem dX7_share_22 : decode cX7_share 22 = .ok (.sipush 999, 3) := by decide +kernel
theorem dX7_share_25 : decode cX7_share 25 = .ok (.if_icmp .le 6, 3) := by decide +kernel
theorem dX7_share_28 : decode cX7_share 28 = .ok (.ldc 80, 2) := by decide +kernel
theorem dX7_share_30 : decode cX7_share 30 = .ok (.ireturn, 1) := by decide +kernel
theorem dX7_share_31 : decode cX7_share 31 = .ok (.aload_n 0, 1) := by decide +kernel
theorem dX7_share_32 : decode cX7_share 32 = .ok (.getfield 37, 3) := by decide +kernel
theorem dX7_share_35 : decode cX7_share 35 = .ok (.iload_n 1, 1) := by decide +kernel
theorem dX7_share_36 : decode cX7_share 36 = .ok (.iload_n 2, 1) := by decide +kernel
theorem dX7_share_37 : decode cX7_share 37 = .ok (.iconst 0, 1) := by decide +kernel
theorem dX7_share_38 : decode cX7_share 38 = .ok (.invokevirtual 228, 3) := by decide +kernel
theorem dX7_share_41 : decode cX7_share 41 = .ok (.ireturn, 1) := by decide +kernel
theorem dX7_plan_0 : decode cX7_plan 0 = .ok (.aload_n 0, 1) := by decide +kernel
theorem dX7_plan_1 : decode cX7_plan 1 = .ok (.invokevirtual 152, 3) := by decide +kernel
theorem dX7_plan_4 : decode cX7_plan 4 = .ok (.ifCond .eq 6, 3) := by decide +kernel
theorem dX7_plan_7 : decode cX7_plan 7 = .ok (.ldc 184, 2) := by decide +kernel
theorem dX7_plan_9 : decode cX7_plan 9 = .ok (.ireturn, 1) := by decide +kernel
theorem dX7_plan_10 : decode cX7_plan 10 = .ok (.aload_n 0, 1) := by decide +kernel
theorem dX7_plan_11 : decode cX7_plan 11 = .ok (.getfield 63, 3) := by decide +kernel
theorem dX7_plan_14 : decode cX7_plan 14 = .ok (.invokevirtual 231, 3) := by decide +kernel
theorem dX7_plan_17 : decode cX7_plan 17 = .ok (.ifCond .ne 18, 3) := by decide +kernel
theorem dX7_plan_20 : decode cX7_plan 20 = .ok (.aload_n 0, 1) := by decide +kernel
theorem dX7_plan_21 : decode cX7_plan 21 = .ok (.getfield 63, 3) := by decide +kernel
theorem dX7_plan_24 : decode cX7_plan 24 = .ok (.aload_n 0, 1) := by decide +kernel
theorem dX7_plan_25 : decode cX7_plan 25 = .ok (.getfield 37, 3) := by decide +kernel
theorem dX7_plan_28 : decode cX7_plan 28 = .ok (.aload_n 0, 1) := by decide +kernel
theorem dX7_plan_29 : decode cX7_plan 29 = .ok (.invokevirtual 155, 3) := by decide +kernel
theorem dX7_plan_32 : decode cX7_plan 32 = .ok (.invokevirtual 234, 3) := by decide +kernel
theorem dX7_plan_35 : decode cX7_plan 35 = .ok (.iload_n 1, 1) := by decide +kernel
theorem dX7_plan_36 : decode cX7_plan 36 = .ok (.iconst (-1), 1) := by decide +kernel
theorem dX7_plan_37 : decode cX7_plan 37 = .ok (.if_icmp .ne 13, 3) := by decide +kernel
theorem dX7_plan_40 : decode cX7_plan 40 = .ok (.aload_n 0, 1) := by decide +kernel
theorem dX7_plan_41 : decode cX7_plan 41 = .ok (.getfield 63, 3) := by decide +kernel
theorem dX7_plan_44 : decode cX7_plan 44 = .ok (.invokevirtual 238, 3) := by decide +kernel
theorem dX7_plan_47 : decode cX7_plan 47 = .ok (.goto 11, 3) := by decide +kernel
theorem dX7_plan_50 : decode cX7_plan 50 = .ok (.aload_n 0, 1) := by decide +kernel
theorem dX7_plan_51 : decode cX7_plan 51 = .ok (.getfield 63, 3) := by decide +kernel
theorem dX7_plan_54 : decode cX7_plan 54 = .ok (.iload_n 1, 1) := by decide +kernel
theorem dX7_plan_55 : decode cX7_plan 55 = .ok (.invokevirtual 241, 3) := by decide +kernel
theorem dX7_plan_58 : decode cX7_plan 58 = .ok (.ireturn, 1) := by decide +kernel
theorem dX7_belief_0 : decode cX7_belief 0 = .ok (.iload_n 1, 1) := by decide +kernel
theorem dX7_belief_1 : decode cX7_belief 1 = .ok (.ifCond .lt 19, 3) := by decide +kernel
theorem dX7_belief_4 : decode cX7_belief 4 = .ok (.iload_n 1, 1) := by decide +kernel
theorem dX7_belief_5 : decode cX7_belief 5 = .ok (.bipush 7, 2) := by decide +kernel
theorem dX7_belief_7 : decode cX7_belief 7 = .ok (.if_icmp .gt 13, 3) := by decide +kernel
theorem dX7_belief_10 : decode cX7_belief 10 = .ok (.iload_n 2, 1) := by decide +kernel
theorem dX7_belief_11 : decode cX7_belief 11 = .ok (.ifCond .lt 9, 3) := by decide +kernel
theorem dX7_belief_14 : decode cX7_belief 14 = .ok (.iload_n 2, 1) := by decide +kernel
theorem dX7_belief_15 : decode cX7_belief 15 = .ok (.bipush 9, 2) := by decide +kernel
theorem dX7_belief_17 : decode cX7_belief 17 = .ok (.if_icmp .le 6, 3) := by decide +kernel
theorem dX7_belief_20 : decode cX7_belief 20 = .ok (.ldc 80, 2) := by decide +kernel
theorem dX7_belief_22 : decode cX7_belief 22 = .ok (.ireturn, 1) := by decide +kernel
theorem dX7_belief_23 : decode cX7_belief 23 = .ok (.aload_n 0, 1) := by decide +kernel
theorem dX7_belief_24 : decode cX7_belief 24 = .ok (.getfield 30, 3) := by decide +kernel
theorem dX7_belief_27 : decode cX7_belief 27 = .ok (.iconst 0, 1) := by decide +kernel
theorem dX7_belief_28 : decode cX7_belief 28 = .ok (.aload_n 0, 1) := by decide +kernel
theorem dX7_belief_29 : decode cX7_belief 29 = .ok (.getfield 37, 3) := by decide +kernel
theorem dX7_belief_32 : decode cX7_belief 32 = .ok (.getfield 143, 3) := by decide +kernel
theorem dX7_belief_35 : decode cX7_belief 35 = .ok (.iload_n 1, 1) := by decide +kernel
theorem dX7_belief_36 : decode cX7_belief 36 = .ok (.isub, 1) := by decide +kernel
theorem dX7_belief_37 : decode cX7_belief 37 = .ok (.invokestatic 158, 3) := by decide +kernel
theorem dX7_belief_40 : decode cX7_belief 40 = .ok (.aload_n 0, 1) := by decide +kernel
theorem dX7_belief_41 : decode cX7_belief 41 = .ok (.getfield 37, 3) := by decide +kernel
theorem dX7_belief_44 : decode cX7_belief 44 = .ok (.getfield 143, 3) := by decide +kernel
theorem dX7_belief_47 : decode cX7_belief 47 = .ok (.iload_n 2, 1) := by decide +kernel
theorem dX7_belief_48 : decode cX7_belief 48 = .ok (.invokevirtual 212, 3) := by decide +kernel
theorem dX7_belief_51 : decode cX7_belief 51 = .ok (.ireturn, 1) := by decide +kernel
theorem dX7_need_0 : decode cX7_need 0 = .ok (.iload_n 1, 1) := by decide +kernel
theorem dX7_need_1 : decode cX7_need 1 = .ok (.ifCond .lt 18, 3) := by decide +kernel
theorem dX7_need_4 : decode cX7_need 4 = .ok (.iload_n 1, 1) := by decide +kernel
theorem dX7_need_5 : decode cX7_need 5 = .ok (.bipush 9, 2) := by decide +kernel
theorem dX7_need_7 : decode cX7_need 7 = .ok (.if_icmp .gt 12, 3) := by decide +kernel
theorem dX7_need_10 : decode cX7_need 10 = .ok (.iload_n 2, 1) := by decide +kernel
theorem dX7_need_11 : decode cX7_need 11 = .ok (.ifCond .lt 8, 3) := by decide +kernel
theorem dX7_need_14 : decode cX7_need 14 = .ok (.iload_n 2, 1) := by decide +kernel
theorem dX7_need_15 : decode cX7_need 15 = .ok (.iconst 1, 1) := by decide +kernel
theorem dX7_need_16 : decode cX7_need 16 = .ok (.if_icmp .le 6, 3) := by decide +kernel
theorem dX7_need_19 : decode cX7_need 19 = .ok (.ldc 80, 2) := by decide +kernel
theorem dX7_need_21 : decode cX7_need 21 = .ok (.ireturn, 1) := by decide +kernel
theorem dX7_need_22 : decode cX7_need 22 = .ok (.aload_n 0, 1) := by decide +kernel
theorem dX7_need_23 : decode cX7_need 23 = .ok (.invokevirtual 181, 3) := by decide +kernel
theorem dX7_need_26 : decode cX7_need 26 = .ok (.ifCond .ne 6, 3) := by decide +kernel
theorem dX7_need_29 : decode cX7_need 29 = .ok (.ldc 184, 2) := by decide +kernel
theorem dX7_need_31 : decode cX7_need 31 = .ok (.ireturn, 1) := by decide +kernel
theorem dX7_need_32 : decode cX7_need 32 = .ok (.iconst 0, 1) := by decide +kernel
theorem dX7_need_33 : decode cX7_need 33 = .ok (.iload_n 1, 1) := by decide +kernel
theorem dX7_need_34 : decode cX7_need 34 = .ok (.aload_n 0, 1) := by decide +kernel
theorem dX7_need_35 : decode cX7_need 35 = .ok (.getfield 37, 3) := by decide +kernel
theorem dX7_need_38 : decode cX7_need 38 = .ok (.getfield 131, 3) := by decide +kernel
theorem dX7_need_41 : decode cX7_need 41 = .ok (.isub, 1) := by decide +kernel
theorem dX7_need_42 : decode cX7_need 42 = .ok (.invokestatic 158, 3) := by decide +kernel
theorem dX7_need_45 : decode cX7_need 45 = .ok (.aload_n 0, 1) := by decide +kernel
theorem dX7_need_46 : decode cX7_need 46 = .ok (.invokevirtual 198, 3) := by decide +kernel
theorem dX7_need_49 : decode cX7_need 49 = .ok (.imul, 1) := by decide +kernel
theorem dX7_need_50 : decode cX7_need 50 = .ok (.istore_n 3, 1) := by decide +kernel
theorem dX7_need_51 : decode cX7_need 51 = .ok (.iconst 0, 1) := by decide +kernel
theorem dX7_need_52 : decode cX7_need 52 = .ok (.iload_n 3, 1) := by decide +kernel
theorem dX7_need_53 : decode cX7_need 53 = .ok (.aload_n 0, 1) := by decide +kernel
theorem dX7_need_54 : decode cX7_need 54 = .ok (.getfield 37, 3) := by decide +kernel
theorem dX7_need_57 : decode cX7_need 57 = .ok (.getfield 134, 3) := by decide +kernel
theorem dX7_need_60 : decode cX7_need 60 = .ok (.isub, 1) := by decide +kernel
theorem dX7_need_61 : decode cX7_need 61 = .ok (.invokestatic 158, 3) := by decide +kernel
theorem dX7_need_64 : decode cX7_need 64 = .ok (.istore 4, 2) := by decide +kernel
theorem dX7_need_66 : decode cX7_need 66 = .ok (.iload_n 2, 1) := by decide +kernel
theorem dX7_need_67 : decode cX7_need 67 = .ok (.ifCond .ne 8, 3) := by decide +kernel
theorem dX7_need_70 : decode cX7_need 70 = .ok (.iload 4, 2) := by decide +kernel
theorem dX7_need_72 : decode cX7_need 72 = .ok (.goto 9, 3) := by decide +kernel
theorem dX7_need_75 : decode cX7_need 75 = .ok (.aload_n 0, 1) := by decide +kernel
theorem dX7_need_76 : decode cX7_need 76 = .ok (.iload 4, 2) := by decide +kernel
theorem dX7_need_78 : decode cX7_need 78 = .ok (.invokevirtual 244, 3) := by decide +kernel
theorem dX7_need_81 : decode cX7_need 81 = .ok (.ireturn, 1) := by decide +kernel
theorem dX7_tell_0 : decode cX7_tell 0 = .ok (.aload_n 0, 1) := by decide +kernel
theorem dX7_tell_1 : decode cX7_tell 1 = .ok (.getfield 37, 3) := by decide +kernel
theorem dX7_tell_4 : decode cX7_tell 4 = .ok (.getfield 140, 3) := by decide +kernel
theorem dX7_tell_7 : decode cX7_tell 7 = .ok (.iload_n 1, 1) := by decide +kernel
theorem dX7_tell_8 : decode cX7_tell 8 = .ok (.invokevirtual 166, 3) := by decide +kernel
theorem dX7_tell_11 : decode cX7_tell 11 = .ok (.ifCond .ne 6, 3) := by decide +kernel
theorem dX7_tell_14 : decode cX7_tell 14 = .ok (.ldc 170, 2) := by decide +kernel
theorem dX7_tell_16 : decode cX7_tell 16 = .ok (.ireturn, 1) := by decide +kernel
theorem dX7_tell_17 : decode cX7_tell 17 = .ok (.iload_n 2, 1) := by decide +kernel
theorem dX7_tell_18 : decode cX7_tell 18 = .ok (.ifCond .lt 10, 3) := by decide +kernel
theorem dX7_tell_21 : decode cX7_tell 21 = .ok (.iload_n 2, 1) := by decide +kernel
theorem dX7_tell_22 : decode cX7_tell 22 = .ok (.sipush 9999, 3) := by decide +kernel
theorem dX7_tell_25 : decode cX7_tell 25 = .ok (.if_icmp .le 6, 3) := by decide +kernel
theorem dX7_tell_28 : decode cX7_tell 28 = .ok (.ldc 80, 2) := by decide +kernel
theorem dX7_tell_30 : decode cX7_tell 30 = .ok (.ireturn, 1) := by decide +kernel
theorem dX7_tell_31 : decode cX7_tell 31 = .ok (.aload_n 0, 1) := by decide +kernel
theorem dX7_tell_32 : decode cX7_tell 32 = .ok (.getfield 67, 3) := by decide +kernel
theorem dX7_tell_35 : decode cX7_tell 35 = .ok (.invokevirtual 81, 3) := by decide +kernel
theorem dX7_tell_38 : decode cX7_tell 38 = .ok (.ifCond .eq 6, 3) := by decide +kernel
theorem dX7_tell_41 : decode cX7_tell 41 = .ok (.ldc 85, 2) := by decide +kernel
theorem dX7_tell_43 : decode cX7_tell 43 = .ok (.ireturn, 1) := by decide +kernel
theorem dX7_tell_44 : decode cX7_tell 44 = .ok (.aload_n 0, 1) := by decide +kernel
theorem dX7_tell_45 : decode cX7_tell 45 = .ok (.getfield 67, 3) := by decide +kernel
theorem dX7_tell_48 : decode cX7_tell 48 = .ok (.invokevirtual 188, 3) := by decide +kernel
theorem dX7_tell_51 : decode cX7_tell 51 = .ok (.istore_n 3, 1) := by decide +kernel
theorem dX7_tell_52 : decode cX7_tell 52 = .ok (.aload_n 0, 1) := by decide +kernel
theorem dX7_tell_53 : decode cX7_tell 53 = .ok (.getfield 67, 3) := by decide +kernel
theorem dX7_tell_56 : decode cX7_tell 56 = .ok (.iload_n 3, 1) := by decide +kernel
theorem dX7_tell_57 : decode cX7_tell 57 = .ok (.iconst 0, 1) := by decide +kernel
theorem dX7_tell_58 : decode cX7_tell 58 = .ok (.iload_n 1, 1) := by decide +kernel
theorem dX7_tell_59 : decode cX7_tell 59 = .ok (.invokevirtual 191, 3) := by decide +kernel
theorem dX7_tell_62 : decode cX7_tell 62 = .ok (.aload_n 0, 1) := by decide +kernel
theorem dX7_tell_63 : decode cX7_tell 63 = .ok (.getfield 67, 3) := by decide +kernel
theorem dX7_tell_66 : decode cX7_tell 66 = .ok (.iload_n 3, 1) := by decide +kernel
theorem dX7_tell_67 : decode cX7_tell 67 = .ok (.iconst 1, 1) := by decide +kernel
theorem dX7_tell_68 : decode cX7_tell 68 = .ok (.iload_n 2, 1) := by decide +kernel
theorem dX7_tell_69 : decode cX7_tell 69 = .ok (.invokevirtual 191, 3) := by decide +kernel
theorem dX7_tell_72 : decode cX7_tell 72 = .ok (.aload_n 0, 1) := by decide +kernel
theorem dX7_tell_73 : decode cX7_tell 73 = .ok (.getfield 67, 3) := by decide +kernel
theorem dX7_tell_76 : decode cX7_tell 76 = .ok (.invokevirtual 90, 3) := by decide +kernel
theorem dX7_tell_79 : decode cX7_tell 79 = .ok (.ireturn, 1) := by decide +kernel
theorem dX7_worth_0 : decode cX7_worth 0 = .ok (.iload_n 1, 1) := by decide +kernel
theorem dX7_worth_1 : decode cX7_worth 1 = .ok (.ifCond .lt 8, 3) := by decide +kernel
theorem dX7_worth_4 : decode cX7_worth 4 = .ok (.iload_n 1, 1) := by decide +kernel
theorem dX7_worth_5 : decode cX7_worth 5 = .ok (.iconst 2, 1) := by decide +kernel
theorem dX7_worth_6 : decode cX7_worth 6 = .ok (.if_icmp .le 6, 3) := by decide +kernel
theorem dX7_worth_9 : decode cX7_worth 9 = .ok (.ldc 80, 2) := by decide +kernel
theorem dX7_worth_11 : decode cX7_worth 11 = .ok (.ireturn, 1) := by decide +kernel
theorem dX7_worth_12 : decode cX7_worth 12 = .ok (.aload_n 0, 1) := by decide +kernel
theorem dX7_worth_13 : decode cX7_worth 13 = .ok (.invokevirtual 152, 3) := by decide +kernel
theorem dX7_worth_16 : decode cX7_worth 16 = .ok (.ifCond .eq 6, 3) := by decide +kernel
theorem dX7_worth_19 : decode cX7_worth 19 = .ok (.ldc 184, 2) := by decide +kernel
theorem dX7_worth_21 : decode cX7_worth 21 = .ok (.ireturn, 1) := by decide +kernel
theorem dX7_worth_22 : decode cX7_worth 22 = .ok (.iconst 0, 1) := by decide +kernel
theorem dX7_worth_23 : decode cX7_worth 23 = .ok (.istore_n 2, 1) := by decide +kernel
theorem dX7_worth_24 : decode cX7_worth 24 = .ok (.sipush 999, 3) := by decide +kernel
theorem dX7_worth_27 : decode cX7_worth 27 = .ok (.istore_n 3, 1) := by decide +kernel
theorem dX7_worth_28 : decode cX7_worth 28 = .ok (.iconst 0, 1) := by decide +kernel
theorem dX7_worth_29 : decode cX7_worth 29 = .ok (.istore 4, 2) := by decide +kernel
theorem dX7_worth_31 : decode cX7_worth 31 = .ok (.iload 4, 2) := by decide +kernel
theorem dX7_worth_33 : decode cX7_worth 33 = .ok (.aload_n 0, 1) := by decide +kernel
theorem dX7_worth_34 : decode cX7_worth 34 = .ok (.getfield 67, 3) := by decide +kernel
theorem dX7_worth_37 : decode cX7_worth 37 = .ok (.invokevirtual 90, 3) := by decide +kernel
theorem dX7_worth_40 : decode cX7_worth 40 = .ok (.if_icmp .ge 31, 3) := by decide +kernel
theorem dX7_worth_43 : decode cX7_worth 43 = .ok (.iload_n 2, 1) := by decide +kernel
theorem dX7_worth_44 : decode cX7_worth 44 = .ok (.aload_n 0, 1) := by decide +kernel
theorem dX7_worth_45 : decode cX7_worth 45 = .ok (.iload 4, 2) := by decide +kernel
theorem dX7_worth_47 : decode cX7_worth 47 = .ok (.invokevirtual 247, 3) := by decide +kernel
theorem dX7_worth_50 : decode cX7_worth 50 = .ok (.invokestatic 158, 3) := by decide +kernel
theorem dX7_worth_53 : decode cX7_worth 53 = .ok (.istore_n 2, 1) := by decide +kernel
theorem dX7_worth_54 : decode cX7_worth 54 = .ok (.iload_n 3, 1) := by decide +kernel
theorem dX7_worth_55 : decode cX7_worth 55 = .ok (.aload_n 0, 1) := by decide +kernel
theorem dX7_worth_56 : decode cX7_worth 56 = .ok (.iload 4, 2) := by decide +kernel
theorem dX7_worth_58 : decode cX7_worth 58 = .ok (.invokevirtual 250, 3) := by decide +kernel
theorem dX7_worth_61 : decode cX7_worth 61 = .ok (.invokestatic 253, 3) := by decide +kernel
theorem dX7_worth_64 : decode cX7_worth 64 = .ok (.istore_n 3, 1) := by decide +kernel
theorem dX7_worth_65 : decode cX7_worth 65 = .ok (.iinc 4 1, 3) := by decide +kernel
theorem dX7_worth_68 : decode cX7_worth 68 = .ok (.goto (-37), 3) := by decide +kernel
theorem dX7_worth_71 : decode cX7_worth 71 = .ok (.iconst 0, 1) := by decide +kernel
theorem dX7_worth_72 : decode cX7_worth 72 = .ok (.iload_n 3, 1) := by decide +kernel
theorem dX7_worth_73 : decode cX7_worth 73 = .ok (.iload_n 2, 1) := by decide +kernel
theorem dX7_worth_74 : decode cX7_worth 74 = .ok (.isub, 1) := by decide +kernel
theorem dX7_worth_75 : decode cX7_worth 75 = .ok (.iconst 1, 1) := by decide +kernel
theorem dX7_worth_76 : decode cX7_worth 76 = .ok (.iadd, 1) := by decide +kernel
theorem dX7_worth_77 : decode cX7_worth 77 = .ok (.invokestatic 158, 3) := by decide +kernel
theorem dX7_worth_80 : decode cX7_worth 80 = .ok (.istore 4, 2) := by decide +kernel
theorem dX7_worth_82 : decode cX7_worth 82 = .ok (.iload_n 1, 1) := by decide +kernel
theorem dX7_worth_83 : decode cX7_worth 83 = .ok (.ifCond .ne 6, 3) := by decide +kernel
theorem dX7_worth_86 : decode cX7_worth 86 = .ok (.iload 4, 2) := by decide +kernel
theorem dX7_worth_88 : decode cX7_worth 88 = .ok (.ireturn, 1) := by decide +kernel
theorem dX7_worth_89 : decode cX7_worth 89 = .ok (.iload 4, 2) := by decide +kernel
theorem dX7_worth_91 : decode cX7_worth 91 = .ok (.ifCond .ne 5, 3) := by decide +kernel
theorem dX7_worth_94 : decode cX7_worth 94 = .ok (.iconst (-1), 1) := by decide +kernel
theorem dX7_worth_95 : decode cX7_worth 95 = .ok (.ireturn, 1) := by decide +kernel
theorem dX7_worth_96 : decode cX7_worth 96 = .ok (.iload_n 1, 1) := by decide +kernel
theorem dX7_worth_97 : decode cX7_worth 97 = .ok (.iconst 1, 1) := by decide +kernel
theorem dX7_worth_98 : decode cX7_worth 98 = .ok (.if_icmp .ne 7, 3) := by decide +kernel
theorem dX7_worth_101 : decode cX7_worth 101 = .ok (.iload_n 2, 1) := by decide +kernel
theorem dX7_worth_102 : decode cX7_worth 102 = .ok (.goto 4, 3) := by decide +kernel
theorem dX7_worth_105 : decode cX7_worth 105 = .ok (.iload_n 3, 1) := by decide +kernel
theorem dX7_worth_106 : decode cX7_worth 106 = .ok (.ireturn, 1) := by decide +kernel
theorem dX7_write_0 : decode cX7_write 0 = .ok (.iload_n 1, 1) := by decide +kernel
theorem dX7_write_1 : decode cX7_write 1 = .ok (.ifCond .lt 10, 3) := by decide +kernel
theorem dX7_write_4 : decode cX7_write 4 = .ok (.iload_n 1, 1) := by decide +kernel
theorem dX7_write_5 : decode cX7_write 5 = .ok (.sipush 9999, 3) := by decide +kernel
theorem dX7_write_8 : decode cX7_write 8 = .ok (.if_icmp .le 6, 3) := by decide +kernel
theorem dX7_write_11 : decode cX7_write 11 = .ok (.ldc 80, 2) := by decide +kernel
theorem dX7_write_13 : decode cX7_write 13 = .ok (.ireturn, 1) := by decide +kernel
theorem dX7_write_14 : decode cX7_write 14 = .ok (.aload_n 0, 1) := by decide +kernel
theorem dX7_write_15 : decode cX7_write 15 = .ok (.getfield 70, 3) := by decide +kernel
theorem dX7_write_18 : decode cX7_write 18 = .ok (.invokevirtual 81, 3) := by decide +kernel
theorem dX7_write_21 : decode cX7_write 21 = .ok (.ifCond .eq 6, 3) := by decide +kernel
theorem dX7_write_24 : decode cX7_write 24 = .ok (.ldc 85, 2) := by decide +kernel
theorem dX7_write_26 : decode cX7_write 26 = .ok (.ireturn, 1) := by decide +kernel
theorem dX7_write_27 : decode cX7_write 27 = .ok (.aload_n 0, 1) := by decide +kernel
theorem dX7_write_28 : decode cX7_write 28 = .ok (.getfield 70, 3) := by decide +kernel
theorem dX7_write_31 : decode cX7_write 31 = .ok (.iload_n 1, 1) := by decide +kernel
theorem dX7_write_32 : decode cX7_write 32 = .ok (.invokevirtual 86, 3) := by decide +kernel
theorem dX7_write_35 : decode cX7_write 35 = .ok (.aload_n 0, 1) := by decide +kernel
theorem dX7_write_36 : decode cX7_write 36 = .ok (.getfield 70, 3) := by decide +kernel
theorem dX7_write_39 : decode cX7_write 39 = .ok (.invokevirtual 90, 3) := by decide +kernel
theorem dX7_write_42 : decode cX7_write 42 = .ok (.ireturn, 1) := by decide +kernel
theorem dX7_tear_0 : decode cX7_tear 0 = .ok (.aload_n 0, 1) := by decide +kernel
theorem dX7_tear_1 : decode cX7_tear 1 = .ok (.getfield 67, 3) := by decide +kernel
theorem dX7_tear_4 : decode cX7_tear 4 = .ok (.invokevirtual 90, 3) := by decide +kernel
theorem dX7_tear_7 : decode cX7_tear 7 = .ok (.aload_n 0, 1) := by decide +kernel
theorem dX7_tear_8 : decode cX7_tear 8 = .ok (.getfield 70, 3) := by decide +kernel
theorem dX7_tear_11 : decode cX7_tear 11 = .ok (.invokevirtual 90, 3) := by decide +kernel
theorem dX7_tear_14 : decode cX7_tear 14 = .ok (.iadd, 1) := by decide +kernel
theorem dX7_tear_15 : decode cX7_tear 15 = .ok (.istore_n 1, 1) := by decide +kernel
theorem dX7_tear_16 : decode cX7_tear 16 = .ok (.aload_n 0, 1) := by decide +kernel
theorem dX7_tear_17 : decode cX7_tear 17 = .ok (.getfield 67, 3) := by decide +kernel
theorem dX7_tear_20 : decode cX7_tear 20 = .ok (.invokevirtual 100, 3) := by decide +kernel
theorem dX7_tear_23 : decode cX7_tear 23 = .ok (.aload_n 0, 1) := by decide +kernel
theorem dX7_tear_24 : decode cX7_tear 24 = .ok (.getfield 70, 3) := by decide +kernel
theorem dX7_tear_27 : decode cX7_tear 27 = .ok (.invokevirtual 100, 3) := by decide +kernel
theorem dX7_tear_30 : decode cX7_tear 30 = .ok (.iload_n 1, 1) := by decide +kernel
theorem dX7_tear_31 : decode cX7_tear 31 = .ok (.ireturn, 1) := by decide +kernel
theorem dX7_judge_0 : decode cX7_judge 0 = .ok (.iconst 0, 1) := by decide +kernel
theorem dX7_judge_1 : decode cX7_judge 1 = .ok (.istore_n 1, 1) := by decide +kernel
theorem dX7_judge_2 : decode cX7_judge 2 = .ok (.iload_n 1, 1) := by decide +kernel
theorem dX7_judge_3 : decode cX7_judge 3 = .ok (.aload_n 0, 1) := by decide +kernel
theorem dX7_judge_4 : decode cX7_judge 4 = .ok (.getfield 70, 3) := by decide +kernel
theorem dX7_judge_7 : decode cX7_judge 7 = .ok (.invokevirtual 90, 3) := by decide +kernel
theorem dX7_judge_10 : decode cX7_judge 10 = .ok (.if_icmp .ge 30, 3) := by decide +kernel
theorem dX7_judge_13 : decode cX7_judge 13 = .ok (.aload_n 0, 1) := by decide +kernel
theorem dX7_judge_14 : decode cX7_judge 14 = .ok (.getfield 70, 3) := by decide +kernel
theorem dX7_judge_17 : decode cX7_judge 17 = .ok (.iload_n 1, 1) := by decide +kernel
theorem dX7_judge_18 : decode cX7_judge 18 = .ok (.iconst 0, 1) := by decide +kernel
theorem dX7_judge_19 : decode cX7_judge 19 = .ok (.invokevirtual 127, 3) := by decide +kernel
theorem dX7_judge_22 : decode cX7_judge 22 = .ok (.aload_n 0, 1) := by decide +kernel
theorem dX7_judge_23 : decode cX7_judge 23 = .ok (.getfield 37, 3) := by decide +kernel
theorem dX7_judge_26 : decode cX7_judge 26 = .ok (.getfield 134, 3) := by decide +kernel
theorem dX7_judge_29 : decode cX7_judge 29 = .ok (.if_icmp .eq 5, 3) := by decide +kernel
theorem dX7_judge_32 : decode cX7_judge 32 = .ok (.iload_n 1, 1) := by decide +kernel
theorem dX7_judge_33 : decode cX7_judge 33 = .ok (.ireturn, 1) := by decide +kernel
theorem dX7_judge_34 : decode cX7_judge 34 = .ok (.iinc 1 1, 3) := by decide +kernel
theorem dX7_judge_37 : decode cX7_judge 37 = .ok (.goto (-35), 3) := by decide +kernel
theorem dX7_judge_40 : decode cX7_judge 40 = .ok (.iconst (-1), 1) := by decide +kernel
theorem dX7_judge_41 : decode cX7_judge 41 = .ok (.ireturn, 1) := by decide +kernel
theorem dX7_seed_0 : decode cX7_seed 0 = .ok (.iload_n 1, 1) := by decide +kernel
theorem dX7_seed_1 : decode cX7_seed 1 = .ok (.ifCond .ge 6, 3) := by decide +kernel
theorem dX7_seed_4 : decode cX7_seed 4 = .ok (.ldc 80, 2) := by decide +kernel
theorem dX7_seed_6 : decode cX7_seed 6 = .ok (.ireturn, 1) := by decide +kernel
theorem dX7_seed_7 : decode cX7_seed 7 = .ok (.aload_n 0, 1) := by decide +kernel
theorem dX7_seed_8 : decode cX7_seed 8 = .ok (.getfield 77, 3) := by decide +kernel
theorem dX7_seed_11 : decode cX7_seed 11 = .ok (.istore_n 2, 1) := by decide +kernel
theorem dX7_seed_12 : decode cX7_seed 12 = .ok (.aload_n 0, 1) := by decide +kernel
theorem dX7_seed_13 : decode cX7_seed 13 = .ok (.iload_n 1, 1) := by decide +kernel
theorem dX7_seed_14 : decode cX7_seed 14 = .ok (.putfield 77, 3) := by decide +kernel
theorem dX7_seed_17 : decode cX7_seed 17 = .ok (.iload_n 2, 1) := by decide +kernel
theorem dX7_seed_18 : decode cX7_seed 18 = .ok (.ireturn, 1) := by decide +kernel
theorem dX7_keep_0 : decode cX7_keep 0 = .ok (.aload_n 0, 1) := by decide +kernel
theorem dX7_keep_1 : decode cX7_keep 1 = .ok (.iload_n 1, 1) := by decide +kernel
theorem dX7_keep_2 : decode cX7_keep 2 = .ok (.invokevirtual 256, 3) := by decide +kernel
theorem dX7_keep_5 : decode cX7_keep 5 = .ok (.astore_n 2, 1) := by decide +kernel
theorem dX7_keep_6 : decode cX7_keep 6 = .ok (.aload_n 2, 1) := by decide +kernel
theorem dX7_keep_7 : decode cX7_keep 7 = .ok (.ifnonnull 6, 3) := by decide +kernel
theorem dX7_keep_10 : decode cX7_keep 10 = .ok (.ldc 170, 2) := by decide +kernel
theorem dX7_keep_12 : decode cX7_keep 12 = .ok (.ireturn, 1) := by decide +kernel
theorem dX7_keep_13 : decode cX7_keep 13 = .ok (.aload_n 2, 1) := by decide +kernel
theorem dX7_keep_14 : decode cX7_keep 14 = .ok (.getfield 260, 3) := by decide +kernel
theorem dX7_keep_17 : decode cX7_keep 17 = .ok (.aload_n 0, 1) := by decide +kernel
theorem dX7_keep_18 : decode cX7_keep 18 = .ok (.getfield 37, 3) := by decide +kernel
theorem dX7_keep_21 : decode cX7_keep 21 = .ok (.invokevirtual 262, 3) := by decide +kernel
theorem dX7_keep_24 : decode cX7_keep 24 = .ok (.aload_n 2, 1) := by decide +kernel
theorem dX7_keep_25 : decode cX7_keep 25 = .ok (.aload_n 0, 1) := by decide +kernel
theorem dX7_keep_26 : decode cX7_keep 26 = .ok (.getfield 77, 3) := by decide +kernel
theorem dX7_keep_29 : decode cX7_keep 29 = .ok (.putfield 264, 3) := by decide +kernel
theorem dX7_keep_32 : decode cX7_keep 32 = .ok (.aload_n 2, 1) := by decide +kernel
theorem dX7_keep_33 : decode cX7_keep 33 = .ok (.iconst 1, 1) := by decide +kernel
theorem dX7_keep_34 : decode cX7_keep 34 = .ok (.putfield 113, 3) := by decide +kernel
theorem dX7_keep_37 : decode cX7_keep 37 = .ok (.aload_n 0, 1) := by decide +kernel
theorem dX7_keep_38 : decode cX7_keep 38 = .ok (.getfield 44, 3) := by decide +kernel
theorem dX7_keep_41 : decode cX7_keep 41 = .ok (.invokevirtual 117, 3) := by decide +kernel
theorem dX7_keep_44 : decode cX7_keep 44 = .ok (.iconst 1, 1) := by decide +kernel
theorem dX7_keep_45 : decode cX7_keep 45 = .ok (.ireturn, 1) := by decide +kernel
theorem dX7_goBack_0 : decode cX7_goBack 0 = .ok (.aload_n 0, 1) := by decide +kernel
theorem dX7_goBack_1 : decode cX7_goBack 1 = .ok (.iload_n 1, 1) := by decide +kernel
theorem dX7_goBack_2 : decode cX7_goBack 2 = .ok (.invokevirtual 256, 3) := by decide +kernel
theorem dX7_goBack_5 : decode cX7_goBack 5 = .ok (.astore_n 2, 1) := by decide +kernel
theorem dX7_goBack_6 : decode cX7_goBack 6 = .ok (.aload_n 2, 1) := by decide +kernel
theorem dX7_goBack_7 : decode cX7_goBack 7 = .ok (.ifnonnull 6, 3) := by decide +kernel
theorem dX7_goBack_10 : decode cX7_goBack 10 = .ok (.ldc 170, 2) := by decide +kernel
theorem dX7_goBack_12 : decode cX7_goBack 12 = .ok (.ireturn, 1) := by decide +kernel
theorem dX7_goBack_13 : decode cX7_goBack 13 = .ok (.aload_n 2, 1) := by decide +kernel
theorem dX7_goBack_14 : decode cX7_goBack 14 = .ok (.getfield 113, 3) := by decide +kernel
theorem dX7_goBack_17 : decode cX7_goBack 17 = .ok (.ifCond .ne 6, 3) := by decide +kernel
theorem dX7_goBack_20 : decode cX7_goBack 20 = .ok (.ldc 184, 2) := by decide +kernel
theorem dX7_goBack_22 : decode cX7_goBack 22 = .ok (.ireturn, 1) := by decide +kernel
theorem dX7_goBack_23 : decode cX7_goBack 23 = .ok (.aload_n 0, 1) := by decide +kernel
theorem dX7_goBack_24 : decode cX7_goBack 24 = .ok (.getfield 37, 3) := by decide +kernel
theorem dX7_goBack_27 : decode cX7_goBack 27 = .ok (.aload_n 2, 1) := by decide +kernel
theorem dX7_goBack_28 : decode cX7_goBack 28 = .ok (.getfield 260, 3) := by decide +kernel
theorem dX7_goBack_31 : decode cX7_goBack 31 = .ok (.invokevirtual 262, 3) := by decide +kernel
theorem dX7_goBack_34 : decode cX7_goBack 34 = .ok (.aload_n 0, 1) := by decide +kernel
theorem dX7_goBack_35 : decode cX7_goBack 35 = .ok (.aload_n 2, 1) := by decide +kernel
theorem dX7_goBack_36 : decode cX7_goBack 36 = .ok (.getfield 264, 3) := by decide +kernel
theorem dX7_goBack_39 : decode cX7_goBack 39 = .ok (.putfield 77, 3) := by decide +kernel
theorem dX7_goBack_42 : decode cX7_goBack 42 = .ok (.aload_n 0, 1) := by decide +kernel
theorem dX7_goBack_43 : decode cX7_goBack 43 = .ok (.getfield 44, 3) := by decide +kernel
theorem dX7_goBack_46 : decode cX7_goBack 46 = .ok (.invokevirtual 117, 3) := by decide +kernel
theorem dX7_goBack_49 : decode cX7_goBack 49 = .ok (.aload_n 0, 1) := by decide +kernel
theorem dX7_goBack_50 : decode cX7_goBack 50 = .ok (.getfield 63, 3) := by decide +kernel
theorem dX7_goBack_53 : decode cX7_goBack 53 = .ok (.invokevirtual 118, 3) := by decide +kernel
theorem dX7_goBack_56 : decode cX7_goBack 56 = .ok (.iconst 1, 1) := by decide +kernel
theorem dX7_goBack_57 : decode cX7_goBack 57 = .ok (.ireturn, 1) := by decide +kernel
theorem dX7_whereSheIs_0 : decode cX7_whereSheIs 0 = .ok (.aload_n 0, 1) := by decide +kernel
theorem dX7_whereSheIs_1 : decode cX7_whereSheIs 1 = .ok (.getfield 37, 3) := by decide +kernel
theorem dX7_whereSheIs_4 : decode cX7_whereSheIs 4 = .ok (.getfield 267, 3) := by decide +kernel
theorem dX7_whereSheIs_7 : decode cX7_whereSheIs 7 = .ok (.ifCond .eq 5, 3) := by decide +kernel
theorem dX7_whereSheIs_10 : decode cX7_whereSheIs 10 = .ok (.iconst 2, 1) := by decide +kernel
theorem dX7_whereSheIs_11 : decode cX7_whereSheIs 11 = .ok (.ireturn, 1) := by decide +kernel
theorem dX7_whereSheIs_12 : decode cX7_whereSheIs 12 = .ok (.aload_n 0, 1) := by decide +kernel
theorem dX7_whereSheIs_13 : decode cX7_whereSheIs 13 = .ok (.getfield 30, 3) := by decide +kernel
theorem dX7_whereSheIs_16 : decode cX7_whereSheIs 16 = .ok (.getfield 121, 3) := by decide +kernel
theorem dX7_whereSheIs_19 : decode cX7_whereSheIs 19 = .ok (.aload_n 0, 1) := by decide +kernel
theorem dX7_whereSheIs_20 : decode cX7_whereSheIs 20 = .ok (.getfield 37, 3) := by decide +kernel
theorem dX7_whereSheIs_23 : decode cX7_whereSheIs 23 = .ok (.getfield 143, 3) := by decide +kernel
theorem dX7_whereSheIs_26 : decode cX7_whereSheIs 26 = .ok (.invokevirtual 166, 3) := by decide +kernel
theorem dX7_whereSheIs_29 : decode cX7_whereSheIs 29 = .ok (.ifCond .eq 7, 3) := by decide +kernel
theorem dX7_whereSheIs_32 : decode cX7_whereSheIs 32 = .ok (.iconst 0, 1) := by decide +kernel
theorem dX7_whereSheIs_33 : decode cX7_whereSheIs 33 = .ok (.goto 4, 3) := by decide +kernel
theorem dX7_whereSheIs_36 : decode cX7_whereSheIs 36 = .ok (.iconst 1, 1) := by decide +kernel
theorem dX7_whereSheIs_37 : decode cX7_whereSheIs 37 = .ok (.ireturn, 1) := by decide +kernel
theorem dX7_isInPort_0 : decode cX7_isInPort 0 = .ok (.aload_n 0, 1) := by decide +kernel
theorem dX7_isInPort_1 : decode cX7_isInPort 1 = .ok (.invokevirtual 146, 3) := by decide +kernel
theorem dX7_isInPort_4 : decode cX7_isInPort 4 = .ok (.ifCond .ne 7, 3) := by decide +kernel
theorem dX7_isInPort_7 : decode cX7_isInPort 7 = .ok (.iconst 1, 1) := by decide +kernel
theorem dX7_isInPort_8 : decode cX7_isInPort 8 = .ok (.goto 4, 3) := by decide +kernel
theorem dX7_isInPort_11 : decode cX7_isInPort 11 = .ok (.iconst 0, 1) := by decide +kernel
theorem dX7_isInPort_12 : decode cX7_isInPort 12 = .ok (.ireturn, 1) := by decide +kernel
theorem dX7_cannotTry_0 : decode cX7_cannotTry 0 = .ok (.aload_n 0, 1) := by decide +kernel
theorem dX7_cannotTry_1 : decode cX7_cannotTry 1 = .ok (.getfield 37, 3) := by decide +kernel
theorem dX7_cannotTry_4 : decode cX7_cannotTry 4 = .ok (.getfield 267, 3) := by decide +kernel
theorem dX7_cannotTry_7 : decode cX7_cannotTry 7 = .ok (.ifCond .ne 16, 3) := by decide +kernel
theorem dX7_cannotTry_10 : decode cX7_cannotTry 10 = .ok (.aload_n 0, 1) := by decide +kernel
theorem dX7_cannotTry_11 : decode cX7_cannotTry 11 = .ok (.getfield 30, 3) := by decide +kernel
theorem dX7_cannotTry_14 : decode cX7_cannotTry 14 = .ok (.getfield 124, 3) := by decide +kernel
theorem dX7_cannotTry_17 : decode cX7_cannotTry 17 = .ok (.invokevirtual 90, 3) := by decide +kernel
theorem dX7_cannotTry_20 : decode cX7_cannotTry 20 = .ok (.ifCond .ne 7, 3) := by decide +kernel
theorem dX7_cannotTry_23 : decode cX7_cannotTry 23 = .ok (.iconst 1, 1) := by decide +kernel
theorem dX7_cannotTry_24 : decode cX7_cannotTry 24 = .ok (.goto 4, 3) := by decide +kernel
theorem dX7_cannotTry_27 : decode cX7_cannotTry 27 = .ok (.iconst 0, 1) := by decide +kernel
theorem dX7_cannotTry_28 : decode cX7_cannotTry 28 = .ok (.ireturn, 1) := by decide +kernel
theorem dX7_costHere_0 : decode cX7_costHere 0 = .ok (.aload_n 0, 1) := by decide +kernel
theorem dX7_costHere_1 : decode cX7_costHere 1 = .ok (.getfield 30, 3) := by decide +kernel
theorem dX7_costHere_4 : decode cX7_costHere 4 = .ok (.getfield 121, 3) := by decide +kernel
theorem dX7_costHere_7 : decode cX7_costHere 7 = .ok (.aload_n 0, 1) := by decide +kernel
theorem dX7_costHere_8 : decode cX7_costHere 8 = .ok (.getfield 37, 3) := by decide +kernel
theorem dX7_costHere_11 : decode cX7_costHere 11 = .ok (.getfield 143, 3) := by decide +kernel
theorem dX7_costHere_14 : decode cX7_costHere 14 = .ok (.iconst 2, 1) := by decide +kernel
theorem dX7_costHere_15 : decode cX7_costHere 15 = .ok (.invokevirtual 127, 3) := by decide +kernel
theorem dX7_costHere_18 : decode cX7_costHere 18 = .ok (.ireturn, 1) := by decide +kernel
theorem dX7_remember_0 : decode cX7_remember 0 = .ok (.aload_n 0, 1) := by decide +kernel
theorem dX7_remember_1 : decode cX7_remember 1 = .ok (.getfield 44, 3) := by decide +kernel
theorem dX7_remember_4 : decode cX7_remember 4 = .ok (.aload_n 0, 1) := by decide +kernel
theorem dX7_remember_5 : decode cX7_remember 5 = .ok (.getfield 37, 3) := by decide +kernel
theorem dX7_remember_8 : decode cX7_remember 8 = .ok (.invokevirtual 270, 3) := by decide +kernel
theorem dX7_remember_11 : decode cX7_remember 11 = .ok (.aload_n 0, 1) := by decide +kernel
theorem dX7_remember_12 : decode cX7_remember 12 = .ok (.getfield 63, 3) := by decide +kernel
theorem dX7_remember_15 : decode cX7_remember 15 = .ok (.invokevirtual 118, 3) := by decide +kernel
theorem dX7_remember_18 : decode cX7_remember 18 = .ok (.return_, 1) := by decide +kernel
theorem dX7_drawOfHundred_0 : decode cX7_drawOfHundred 0 = .ok (.aload_n 0, 1) := by decide +kernel
theorem dX7_drawOfHundred_1 : decode cX7_drawOfHundred 1 = .ok (.getfield 77, 3) := by decide +kernel
theorem dX7_drawOfHundred_4 : decode cX7_drawOfHundred 4 = .ok (.i2l, 1) := by decide +kernel
theorem dX7_drawOfHundred_5 : decode cX7_drawOfHundred 5 = .ok (.ldc2_w 273, 3) := by decide +kernel
theorem dX7_drawOfHundred_8 : decode cX7_drawOfHundred 8 = .ok (.lmul, 1) := by decide +kernel
theorem dX7_drawOfHundred_9 : decode cX7_drawOfHundred 9 = .ok (.ldc2_w 275, 3) := by decide +kernel
theorem dX7_drawOfHundred_12 : decode cX7_drawOfHundred 12 = .ok (.ladd, 1) := by decide +kernel
theorem dX7_drawOfHundred_13 : decode cX7_drawOfHundred 13 = .ok (.lstore_n 1, 1) := by decide +kernel
theorem dX7_drawOfHundred_14 : decode cX7_drawOfHundred 14 = .ok (.aload_n 0, 1) := by decide +kernel
theorem dX7_drawOfHundred_15 : decode cX7_drawOfHundred 15 = .ok (.lload_n 1, 1) := by decide +kernel
theorem dX7_drawOfHundred_16 : decode cX7_drawOfHundred 16 = .ok (.ldc2_w 277, 3) := by decide +kernel
theorem dX7_drawOfHundred_19 : decode cX7_drawOfHundred 19 = .ok (.land, 1) := by decide +kernel
theorem dX7_drawOfHundred_20 : decode cX7_drawOfHundred 20 = .ok (.l2i, 1) := by decide +kernel
theorem dX7_drawOfHundred_21 : decode cX7_drawOfHundred 21 = .ok (.putfield 77, 3) := by decide +kernel
theorem dX7_drawOfHundred_24 : decode cX7_drawOfHundred 24 = .ok (.aload_n 0, 1) := by decide +kernel
theorem dX7_drawOfHundred_25 : decode cX7_drawOfHundred 25 = .ok (.getfield 77, 3) := by decide +kernel
theorem dX7_drawOfHundred_28 : decode cX7_drawOfHundred 28 = .ok (.ldc_w 279, 3) := by decide +kernel
theorem dX7_drawOfHundred_31 : decode cX7_drawOfHundred 31 = .ok (.idiv, 1) := by decide +kernel
theorem dX7_drawOfHundred_32 : decode cX7_drawOfHundred 32 = .ok (.bipush 100, 2) := by decide +kernel
theorem dX7_drawOfHundred_34 : decode cX7_drawOfHundred 34 = .ok (.irem, 1) := by decide +kernel
theorem dX7_drawOfHundred_35 : decode cX7_drawOfHundred 35 = .ok (.ireturn, 1) := by decide +kernel
theorem dX7_imageOf_0 : decode cX7_imageOf 0 = .ok (.iload_n 1, 1) := by decide +kernel
theorem dX7_imageOf_1 : decode cX7_imageOf 1 = .ok (.ifCond .ne 8, 3) := by decide +kernel
theorem dX7_imageOf_4 : decode cX7_imageOf 4 = .ok (.aload_n 0, 1) := by decide +kernel
theorem dX7_imageOf_5 : decode cX7_imageOf 5 = .ok (.getfield 51, 3) := by decide +kernel
theorem dX7_imageOf_8 : decode cX7_imageOf 8 = .ok (.areturn, 1) := by decide +kernel
theorem dX7_imageOf_9 : decode cX7_imageOf 9 = .ok (.iload_n 1, 1) := by decide +kernel
theorem dX7_imageOf_10 : decode cX7_imageOf 10 = .ok (.iconst 1, 1) := by decide +kernel
theorem dX7_imageOf_11 : decode cX7_imageOf 11 = .ok (.if_icmp .ne 10, 3) := by decide +kernel
theorem dX7_imageOf_14 : decode cX7_imageOf 14 = .ok (.aload_n 0, 1) := by decide +kernel
theorem dX7_imageOf_15 : decode cX7_imageOf 15 = .ok (.getfield 55, 3) := by decide +kernel
theorem dX7_imageOf_18 : decode cX7_imageOf 18 = .ok (.goto 4, 3) := by decide +kernel
theorem dX7_imageOf_21 : decode cX7_imageOf 21 = .ok (.aconst_null, 1) := by decide +kernel
theorem dX7_imageOf_22 : decode cX7_imageOf 22 = .ok (.areturn, 1) := by decide +kernel
theorem dX7_hasYet_0 : decode cX7_hasYet 0 = .ok (.aload_n 0, 1) := by decide +kernel
theorem dX7_hasYet_1 : decode cX7_hasYet 1 = .ok (.getfield 30, 3) := by decide +kernel
theorem dX7_hasYet_4 : decode cX7_hasYet 4 = .ok (.getfield 137, 3) := by decide +kernel
theorem dX7_hasYet_7 : decode cX7_hasYet 7 = .ok (.iload_n 1, 1) := by decide +kernel
theorem dX7_hasYet_8 : decode cX7_hasYet 8 = .ok (.iconst 0, 1) := by decide +kernel
theorem dX7_hasYet_9 : decode cX7_hasYet 9 = .ok (.invokevirtual 127, 3) := by decide +kernel
theorem dX7_hasYet_12 : decode cX7_hasYet 12 = .ok (.aload_n 0, 1) := by decide +kernel
theorem dX7_hasYet_13 : decode cX7_hasYet 13 = .ok (.getfield 37, 3) := by decide +kernel
theorem dX7_hasYet_16 : decode cX7_hasYet 16 = .ok (.iload_n 1, 1) := by decide +kernel
theorem dX7_hasYet_17 : decode cX7_hasYet 17 = .ok (.invokevirtual 280, 3) := by decide +kernel
theorem dX7_hasYet_20 : decode cX7_hasYet 20 = .ok (.isub, 1) := by decide +kernel
theorem dX7_hasYet_21 : decode cX7_hasYet 21 = .ok (.ireturn, 1) := by decide +kernel
theorem dX7_cheapestLender_0 : decode cX7_cheapestLender 0 = .ok (.iconst (-1), 1) := by decide +kernel
theorem dX7_cheapestLender_1 : decode cX7_cheapestLender 1 = .ok (.istore_n 2, 1) := by decide +kernel
theorem dX7_cheapestLender_2 : decode cX7_cheapestLender 2 = .ok (.iconst 0, 1) := by decide +kernel
theorem dX7_cheapestLender_3 : decode cX7_cheapestLender 3 = .ok (.istore_n 3, 1) := by decide +kernel
theorem dX7_cheapestLender_4 : decode cX7_cheapestLender 4 = .ok (.iload_n 3, 1) := by decide +kernel
theorem dX7_cheapestLender_5 : decode cX7_cheapestLender 5 = .ok (.aload_n 0, 1) := by decide +kernel
theorem dX7_cheapestLender_6 : decode cX7_cheapestLender 6 = .ok (.getfield 30, 3) := by decide +kernel
theorem dX7_cheapestLender_9 : decode cX7_cheapestLender 9 = .ok (.getfield 137, 3) := by decide +kernel
theorem dX7_cheapestLender_12 : decode cX7_cheapestLender 12 = .ok (.invokevirtual 90, 3) := by decide +kernel
theorem dX7_cheapestLender_15 : decode cX7_cheapestLender 15 = .ok (.if_icmp .ge 64, 3) := by decide +kernel
theorem dX7_cheapestLender_18 : decode cX7_cheapestLender 18 = .ok (.iload_n 2, 1) := by decide +kernel
theorem dX7_cheapestLender_19 : decode cX7_cheapestLender 19 = .ok (.iconst (-1), 1) := by decide +kernel
theorem dX7_cheapestLender_20 : decode cX7_cheapestLender 20 = .ok (.if_icmp .eq 30, 3) := by decide +kernel
theorem dX7_cheapestLender_23 : decode cX7_cheapestLender 23 = .ok (.aload_n 0, 1) := by decide +kernel
theorem dX7_cheapestLender_24 : decode cX7_cheapestLender 24 = .ok (.getfield 30, 3) := by decide +kernel
theorem dX7_cheapestLender_27 : decode cX7_cheapestLender 27 = .ok (.getfield 137, 3) := by decide +kernel
theorem dX7_cheapestLender_30 : decode cX7_cheapestLender 30 = .ok (.iload_n 3, 1) := by decide +kernel
theorem dX7_cheapestLender_31 : decode cX7_cheapestLender 31 = .ok (.iconst 1, 1) := by decide +kernel
theorem dX7_cheapestLender_32 : decode cX7_cheapestLender 32 = .ok (.invokevirtual 127, 3) := by decide +kernel
theorem dX7_cheapestLender_35 : decode cX7_cheapestLender 35 = .ok (.aload_n 0, 1) := by decide +kernel
theorem dX7_cheapestLender_36 : decode cX7_cheapestLender 36 = .ok (.getfield 30, 3) := by decide +kernel
theorem dX7_cheapestLender_39 : decode cX7_cheapestLender 39 = .ok (.getfield 137, 3) := by decide +kernel
theorem dX7_cheapestLender_42 : decode cX7_cheapestLender 42 = .ok (.iload_n 2, 1) := by decide +kernel
theorem dX7_cheapestLender_43 : decode cX7_cheapestLender 43 = .ok (.iconst 1, 1) := by decide +kernel
theorem dX7_cheapestLender_44 : decode cX7_cheapestLender 44 = .ok (.invokevirtual 127, 3) := by decide +kernel
theorem dX7_cheapestLender_47 : decode cX7_cheapestLender 47 = .ok (.if_icmp .ge 7, 3) := by decide +kernel
theorem dX7_cheapestLender_50 : decode cX7_cheapestLender 50 = .ok (.iconst 1, 1) := by decide +kernel
theorem dX7_cheapestLender_51 : decode cX7_cheapestLender 51 = .ok (.goto 4, 3) := by decide +kernel
theorem dX7_cheapestLender_54 : decode cX7_cheapestLender 54 = .ok (.iconst 0, 1) := by decide +kernel
theorem dX7_cheapestLender_55 : decode cX7_cheapestLender 55 = .ok (.istore 4, 2) := by decide +kernel
theorem dX7_cheapestLender_57 : decode cX7_cheapestLender 57 = .ok (.iload 4, 2) := by decide +kernel
theorem dX7_cheapestLender_59 : decode cX7_cheapestLender 59 = .ok (.ifCond .eq 14, 3) := by decide +kernel
theorem dX7_cheapestLender_62 : decode cX7_cheapestLender 62 = .ok (.aload_n 0, 1) := by decide +kernel
theorem dX7_cheapestLender_63 : decode cX7_cheapestLender 63 = .ok (.iload_n 3, 1) := by decide +kernel
theorem dX7_cheapestLender_64 : decode cX7_cheapestLender 64 = .ok (.invokevirtual 174, 3) := by decide +kernel
theorem dX7_cheapestLender_67 : decode cX7_cheapestLender 67 = .ok (.iload_n 1, 1) := by decide +kernel
theorem dX7_cheapestLender_68 : decode cX7_cheapestLender 68 = .ok (.if_icmp .lt 5, 3) := by decide +kernel
theorem dX7_cheapestLender_71 : decode cX7_cheapestLender 71 = .ok (.iload_n 3, 1) := by decide +kernel
theorem dX7_cheapestLender_72 : decode cX7_cheapestLender 72 = .ok (.istore_n 2, 1) := by decide +kernel
theorem dX7_cheapestLender_73 : decode cX7_cheapestLender 73 = .ok (.iinc 3 1, 3) := by decide +kernel
theorem dX7_cheapestLender_76 : decode cX7_cheapestLender 76 = .ok (.goto (-72), 3) := by decide +kernel
theorem dX7_cheapestLender_79 : decode cX7_cheapestLender 79 = .ok (.iload_n 2, 1) := by decide +kernel
theorem dX7_cheapestLender_80 : decode cX7_cheapestLender 80 = .ok (.ireturn, 1) := by decide +kernel
theorem dX7_rateFor_0 : decode cX7_rateFor 0 = .ok (.iload_n 0, 1) := by decide +kernel
theorem dX7_rateFor_1 : decode cX7_rateFor 1 = .ok (.ifCond .gt 5, 3) := by decide +kernel
theorem dX7_rateFor_4 : decode cX7_rateFor 4 = .ok (.iconst (-1), 1) := by decide +kernel
theorem dX7_rateFor_5 : decode cX7_rateFor 5 = .ok (.ireturn, 1) := by decide +kernel
theorem dX7_rateFor_6 : decode cX7_rateFor 6 = .ok (.ldc_w 283, 3) := by decide +kernel
theorem dX7_rateFor_9 : decode cX7_rateFor 9 = .ok (.iload_n 0, 1) := by decide +kernel
theorem dX7_rateFor_10 : decode cX7_rateFor 10 = .ok (.iadd, 1) := by decide +kernel
theorem dX7_rateFor_11 : decode cX7_rateFor 11 = .ok (.iconst 1, 1) := by decide +kernel
theorem dX7_rateFor_12 : decode cX7_rateFor 12 = .ok (.isub, 1) := by decide +kernel
theorem dX7_rateFor_13 : decode cX7_rateFor 13 = .ok (.iload_n 0, 1) := by decide +kernel
theorem dX7_rateFor_14 : decode cX7_rateFor 14 = .ok (.idiv, 1) := by decide +kernel
theorem dX7_rateFor_15 : decode cX7_rateFor 15 = .ok (.istore_n 1, 1) := by decide +kernel
theorem dX7_rateFor_16 : decode cX7_rateFor 16 = .ok (.iload_n 1, 1) := by decide +kernel
theorem dX7_rateFor_17 : decode cX7_rateFor 17 = .ok (.bipush 100, 2) := by decide +kernel
theorem dX7_rateFor_19 : decode cX7_rateFor 19 = .ok (.isub, 1) := by decide +kernel
theorem dX7_rateFor_20 : decode cX7_rateFor 20 = .ok (.sipush 999, 3) := by decide +kernel
theorem dX7_rateFor_23 : decode cX7_rateFor 23 = .ok (.if_icmp .gt 10, 3) := by decide +kernel
theorem dX7_rateFor_26 : decode cX7_rateFor 26 = .ok (.iload_n 1, 1) := by decide +kernel
theorem dX7_rateFor_27 : decode cX7_rateFor 27 = .ok (.bipush 100, 2) := by decide +kernel
theorem dX7_rateFor_29 : decode cX7_rateFor 29 = .ok (.isub, 1) := by decide +kernel
theorem dX7_rateFor_30 : decode cX7_rateFor 30 = .ok (.goto 4, 3) := by decide +kernel
theorem dX7_rateFor_33 : decode cX7_rateFor 33 = .ok (.iconst (-1), 1) := by decide +kernel
theorem dX7_rateFor_34 : decode cX7_rateFor 34 = .ok (.ireturn, 1) := by decide +kernel
theorem dX7_shipMoney_0 : decode cX7_shipMoney 0 = .ok (.aload_n 0, 1) := by decide +kernel
theorem dX7_shipMoney_1 : decode cX7_shipMoney 1 = .ok (.getfield 30, 3) := by decide +kernel
theorem dX7_shipMoney_4 : decode cX7_shipMoney 4 = .ok (.getfield 124, 3) := by decide +kernel
theorem dX7_shipMoney_7 : decode cX7_shipMoney 7 = .ok (.iconst 0, 1) := by decide +kernel
theorem dX7_shipMoney_8 : decode cX7_shipMoney 8 = .ok (.iconst 0, 1) := by decide +kernel
theorem dX7_shipMoney_9 : decode cX7_shipMoney 9 = .ok (.invokevirtual 127, 3) := by decide +kernel
theorem dX7_shipMoney_12 : decode cX7_shipMoney 12 = .ok (.aload_n 0, 1) := by decide +kernel
theorem dX7_shipMoney_13 : decode cX7_shipMoney 13 = .ok (.getfield 37, 3) := by decide +kernel
theorem dX7_shipMoney_16 : decode cX7_shipMoney 16 = .ok (.getfield 134, 3) := by decide +kernel
theorem dX7_shipMoney_19 : decode cX7_shipMoney 19 = .ok (.iadd, 1) := by decide +kernel
theorem dX7_shipMoney_20 : decode cX7_shipMoney 20 = .ok (.iconst 0, 1) := by decide +kernel
theorem dX7_shipMoney_21 : decode cX7_shipMoney 21 = .ok (.iload_n 1, 1) := by decide +kernel
theorem dX7_shipMoney_22 : decode cX7_shipMoney 22 = .ok (.aload_n 0, 1) := by decide +kernel
theorem dX7_shipMoney_23 : decode cX7_shipMoney 23 = .ok (.getfield 37, 3) := by decide +kernel
theorem dX7_shipMoney_26 : decode cX7_shipMoney 26 = .ok (.iconst 0, 1) := by decide +kernel
theorem dX7_shipMoney_27 : decode cX7_shipMoney 27 = .ok (.iconst 1, 1) := by decide +kernel
theorem dX7_shipMoney_28 : decode cX7_shipMoney 28 = .ok (.invokevirtual 149, 3) := by decide +kernel
theorem dX7_shipMoney_31 : decode cX7_shipMoney 31 = .ok (.isub, 1) := by decide +kernel
theorem dX7_shipMoney_32 : decode cX7_shipMoney 32 = .ok (.invokestatic 158, 3) := by decide +kernel
theorem dX7_shipMoney_35 : decode cX7_shipMoney 35 = .ok (.iadd, 1) := by decide +kernel
theorem dX7_shipMoney_36 : decode cX7_shipMoney 36 = .ok (.ireturn, 1) := by decide +kernel
theorem dX7_paidNow_0 : decode cX7_paidNow 0 = .ok (.aload_n 0, 1) := by decide +kernel
theorem dX7_paidNow_1 : decode cX7_paidNow 1 = .ok (.getfield 30, 3) := by decide +kernel
theorem dX7_paidNow_4 : decode cX7_paidNow 4 = .ok (.getfield 124, 3) := by decide +kernel
theorem dX7_paidNow_7 : decode cX7_paidNow 7 = .ok (.iconst 0, 1) := by decide +kernel
theorem dX7_paidNow_8 : decode cX7_paidNow 8 = .ok (.iconst 1, 1) := by decide +kernel
theorem dX7_paidNow_9 : decode cX7_paidNow 9 = .ok (.invokevirtual 127, 3) := by decide +kernel
theorem dX7_paidNow_12 : decode cX7_paidNow 12 = .ok (.istore_n 2, 1) := by decide +kernel
theorem dX7_paidNow_13 : decode cX7_paidNow 13 = .ok (.aload_n 0, 1) := by decide +kernel
theorem dX7_paidNow_14 : decode cX7_paidNow 14 = .ok (.getfield 37, 3) := by decide +kernel
theorem dX7_paidNow_17 : decode cX7_paidNow 17 = .ok (.iload_n 1, 1) := by decide +kernel
theorem dX7_paidNow_18 : decode cX7_paidNow 18 = .ok (.aload_n 0, 1) := by decide +kernel
theorem dX7_paidNow_19 : decode cX7_paidNow 19 = .ok (.iload_n 2, 1) := by decide +kernel
theorem dX7_paidNow_20 : decode cX7_paidNow 20 = .ok (.invokevirtual 225, 3) := by decide +kernel
theorem dX7_paidNow_23 : decode cX7_paidNow 23 = .ok (.iload_n 2, 1) := by decide +kernel
theorem dX7_paidNow_24 : decode cX7_paidNow 24 = .ok (.invokevirtual 228, 3) := by decide +kernel
theorem dX7_paidNow_27 : decode cX7_paidNow 27 = .ok (.ireturn, 1) := by decide +kernel
theorem dX7_leftBesidesPurse_0 : decode cX7_leftBesidesPurse 0 = .ok (.aload_n 0, 1) := by decide +kernel
theorem dX7_leftBesidesPurse_1 : decode cX7_leftBesidesPurse 1 = .ok (.aload_n 0, 1) := by decide +kernel
theorem dX7_leftBesidesPurse_2 : decode cX7_leftBesidesPurse 2 = .ok (.getfield 30, 3) := by decide +kernel
theorem dX7_leftBesidesPurse_5 : decode cX7_leftBesidesPurse 5 = .ok (.getfield 124, 3) := by decide +kernel
theorem dX7_leftBesidesPurse_8 : decode cX7_leftBesidesPurse 8 = .ok (.iconst 0, 1) := by decide +kernel
theorem dX7_leftBesidesPurse_9 : decode cX7_leftBesidesPurse 9 = .ok (.iconst 1, 1) := by decide +kernel
theorem dX7_leftBesidesPurse_10 : decode cX7_leftBesidesPurse 10 = .ok (.invokevirtual 127, 3) := by decide +kernel
theorem dX7_leftBesidesPurse_13 : decode cX7_leftBesidesPurse 13 = .ok (.invokevirtual 225, 3) := by decide +kernel
theorem dX7_leftBesidesPurse_16 : decode cX7_leftBesidesPurse 16 = .ok (.aload_n 0, 1) := by decide +kernel
theorem dX7_leftBesidesPurse_17 : decode cX7_leftBesidesPurse 17 = .ok (.getfield 37, 3) := by decide +kernel
theorem dX7_leftBesidesPurse_20 : decode cX7_leftBesidesPurse 20 = .ok (.getfield 134, 3) := by decide +kernel
theorem dX7_leftBesidesPurse_23 : decode cX7_leftBesidesPurse 23 = .ok (.isub, 1) := by decide +kernel
theorem dX7_leftBesidesPurse_24 : decode cX7_leftBesidesPurse 24 = .ok (.aload_n 0, 1) := by decide +kernel
theorem dX7_leftBesidesPurse_25 : decode cX7_leftBesidesPurse 25 = .ok (.getfield 37, 3) := by decide +kernel
theorem dX7_leftBesidesPurse_28 : decode cX7_leftBesidesPurse 28 = .ok (.iconst 0, 1) := by decide +kernel
theorem dX7_leftBesidesPurse_29 : decode cX7_leftBesidesPurse 29 = .ok (.iconst 0, 1) := by decide +kernel
theorem dX7_leftBesidesPurse_30 : decode cX7_leftBesidesPurse 30 = .ok (.invokevirtual 149, 3) := by decide +kernel
theorem dX7_leftBesidesPurse_33 : decode cX7_leftBesidesPurse 33 = .ok (.isub, 1) := by decide +kernel
theorem dX7_leftBesidesPurse_34 : decode cX7_leftBesidesPurse 34 = .ok (.ireturn, 1) := by decide +kernel
theorem dX7_canBeSo_0 : decode cX7_canBeSo 0 = .ok (.aload_n 0, 1) := by decide +kernel
theorem dX7_canBeSo_1 : decode cX7_canBeSo 1 = .ok (.getfield 67, 3) := by decide +kernel
theorem dX7_canBeSo_4 : decode cX7_canBeSo 4 = .ok (.iload_n 1, 1) := by decide +kernel
theorem dX7_canBeSo_5 : decode cX7_canBeSo 5 = .ok (.iconst 0, 1) := by decide +kernel
theorem dX7_canBeSo_6 : decode cX7_canBeSo 6 = .ok (.invokevirtual 127, 3) := by decide +kernel
theorem dX7_canBeSo_9 : decode cX7_canBeSo 9 = .ok (.istore_n 2, 1) := by decide +kernel
theorem dX7_canBeSo_10 : decode cX7_canBeSo 10 = .ok (.aload_n 0, 1) := by decide +kernel
theorem dX7_canBeSo_11 : decode cX7_canBeSo 11 = .ok (.getfield 67, 3) := by decide +kernel
theorem dX7_canBeSo_14 : decode cX7_canBeSo 14 = .ok (.iload_n 1, 1) := by decide +kernel
theorem dX7_canBeSo_15 : decode cX7_canBeSo 15 = .ok (.iconst 1, 1) := by decide +kernel
theorem dX7_canBeSo_16 : decode cX7_canBeSo 16 = .ok (.invokevirtual 127, 3) := by decide +kernel
theorem dX7_canBeSo_19 : decode cX7_canBeSo 19 = .ok (.istore_n 3, 1) := by decide +kernel
theorem dX7_canBeSo_20 : decode cX7_canBeSo 20 = .ok (.aload_n 0, 1) := by decide +kernel
theorem dX7_canBeSo_21 : decode cX7_canBeSo 21 = .ok (.getfield 37, 3) := by decide +kernel
theorem dX7_canBeSo_24 : decode cX7_canBeSo 24 = .ok (.getfield 140, 3) := by decide +kernel
theorem dX7_canBeSo_27 : decode cX7_canBeSo 27 = .ok (.iload_n 2, 1) := by decide +kernel
theorem dX7_canBeSo_28 : decode cX7_canBeSo 28 = .ok (.invokevirtual 166, 3) := by decide +kernel
theorem dX7_canBeSo_31 : decode cX7_canBeSo 31 = .ok (.ifCond .ne 5, 3) := by decide +kernel
theorem dX7_canBeSo_34 : decode cX7_canBeSo 34 = .ok (.iconst 0, 1) := by decide +kernel
theorem dX7_canBeSo_35 : decode cX7_canBeSo 35 = .ok (.ireturn, 1) := by decide +kernel
theorem dX7_canBeSo_36 : decode cX7_canBeSo 36 = .ok (.aload_n 0, 1) := by decide +kernel
theorem dX7_canBeSo_37 : decode cX7_canBeSo 37 = .ok (.getfield 30, 3) := by decide +kernel
theorem dX7_canBeSo_40 : decode cX7_canBeSo 40 = .ok (.getfield 124, 3) := by decide +kernel
theorem dX7_canBeSo_43 : decode cX7_canBeSo 43 = .ok (.iconst 0, 1) := by decide +kernel
theorem dX7_canBeSo_44 : decode cX7_canBeSo 44 = .ok (.iconst 1, 1) := by decide +kernel
theorem dX7_canBeSo_45 : decode cX7_canBeSo 45 = .ok (.invokevirtual 127, 3) := by decide +kernel
theorem dX7_canBeSo_48 : decode cX7_canBeSo 48 = .ok (.istore 4, 2) := by decide +kernel
theorem dX7_canBeSo_50 : decode cX7_canBeSo 50 = .ok (.aload_n 0, 1) := by decide +kernel
theorem dX7_canBeSo_51 : decode cX7_canBeSo 51 = .ok (.iload_n 1, 1) := by decide +kernel
theorem dX7_canBeSo_52 : decode cX7_canBeSo 52 = .ok (.invokevirtual 284, 3) := by decide +kernel
theorem dX7_canBeSo_55 : decode cX7_canBeSo 55 = .ok (.ifCond .eq 26, 3) := by decide +kernel
theorem dX7_canBeSo_58 : decode cX7_canBeSo 58 = .ok (.aload_n 0, 1) := by decide +kernel
theorem dX7_canBeSo_59 : decode cX7_canBeSo 59 = .ok (.getfield 37, 3) := by decide +kernel
theorem dX7_canBeSo_62 : decode cX7_canBeSo 62 = .ok (.iload_n 2, 1) := by decide +kernel
theorem dX7_canBeSo_63 : decode cX7_canBeSo 63 = .ok (.iconst 0, 1) := by decide +kernel
theorem dX7_canBeSo_64 : decode cX7_canBeSo 64 = .ok (.iload 4, 2) := by decide +kernel
theorem dX7_canBeSo_66 : decode cX7_canBeSo 66 = .ok (.invokevirtual 228, 3) := by decide +kernel
theorem dX7_canBeSo_69 : decode cX7_canBeSo 69 = .ok (.iload_n 3, 1) := by decide +kernel
theorem dX7_canBeSo_70 : decode cX7_canBeSo 70 = .ok (.if_icmp .ne 7, 3) := by decide +kernel
theorem dX7_canBeSo_73 : decode cX7_canBeSo 73 = .ok (.iconst 1, 1) := by decide +kernel
theorem dX7_canBeSo_74 : decode cX7_canBeSo 74 = .ok (.goto 28, 3) := by decide +kernel
theorem dX7_canBeSo_77 : decode cX7_canBeSo 77 = .ok (.iconst 0, 1) := by decide +kernel
theorem dX7_canBeSo_78 : decode cX7_canBeSo 78 = .ok (.goto 24, 3) := by decide +kernel
theorem dX7_canBeSo_81 : decode cX7_canBeSo 81 = .ok (.iload_n 3, 1) := by decide +kernel
theorem dX7_canBeSo_82 : decode cX7_canBeSo 82 = .ok (.aload_n 0, 1) := by decide +kernel
theorem dX7_canBeSo_83 : decode cX7_canBeSo 83 = .ok (.getfield 37, 3) := by decide +kernel
theorem dX7_canBeSo_86 : decode cX7_canBeSo 86 = .ok (.getfield 140, 3) := by decide +kernel
theorem dX7_canBeSo_89 : decode cX7_canBeSo 89 = .ok (.iload_n 2, 1) := by decide +kernel
theorem dX7_canBeSo_90 : decode cX7_canBeSo 90 = .ok (.iconst 3, 1) := by decide +kernel
theorem dX7_canBeSo_91 : decode cX7_canBeSo 91 = .ok (.invokevirtual 127, 3) := by decide +kernel
theorem dX7_canBeSo_94 : decode cX7_canBeSo 94 = .ok (.if_icmp .gt 7, 3) := by decide +kernel
theorem dX7_canBeSo_97 : decode cX7_canBeSo 97 = .ok (.iconst 1, 1) := by decide +kernel
theorem dX7_canBeSo_98 : decode cX7_canBeSo 98 = .ok (.goto 4, 3) := by decide +kernel
theorem dX7_canBeSo_101 : decode cX7_canBeSo 101 = .ok (.iconst 0, 1) := by decide +kernel
theorem dX7_canBeSo_102 : decode cX7_canBeSo 102 = .ok (.ireturn, 1) := by decide +kernel
theorem dX7_isFreightTold_0 : decode cX7_isFreightTold 0 = .ok (.aload_n 0, 1) := by decide +kernel
theorem dX7_isFreightTold_1 : decode cX7_isFreightTold 1 = .ok (.getfield 37, 3) := by decide +kernel
theorem dX7_isFreightTold_4 : decode cX7_isFreightTold 4 = .ok (.getfield 140, 3) := by decide +kernel
theorem dX7_isFreightTold_7 : decode cX7_isFreightTold 7 = .ok (.aload_n 0, 1) := by decide +kernel
theorem dX7_isFreightTold_8 : decode cX7_isFreightTold 8 = .ok (.getfield 67, 3) := by decide +kernel
theorem dX7_isFreightTold_11 : decode cX7_isFreightTold 11 = .ok (.iload_n 1, 1) := by decide +kernel
theorem dX7_isFreightTold_12 : decode cX7_isFreightTold 12 = .ok (.iconst 0, 1) := by decide +kernel
theorem dX7_isFreightTold_13 : decode cX7_isFreightTold 13 = .ok (.invokevirtual 127, 3) := by decide +kernel
theorem dX7_isFreightTold_16 : decode cX7_isFreightTold 16 = .ok (.iconst 2, 1) := by decide +kernel
theorem dX7_isFreightTold_17 : decode cX7_isFreightTold 17 = .ok (.invokevirtual 127, 3) := by decide +kernel
theorem dX7_isFreightTold_20 : decode cX7_isFreightTold 20 = .ok (.iconst 1, 1) := by decide +kernel
theorem dX7_isFreightTold_21 : decode cX7_isFreightTold 21 = .ok (.if_icmp .ne 7, 3) := by decide +kernel
theorem dX7_isFreightTold_24 : decode cX7_isFreightTold 24 = .ok (.iconst 1, 1) := by decide +kernel
theorem dX7_isFreightTold_25 : decode cX7_isFreightTold 25 = .ok (.goto 4, 3) := by decide +kernel
theorem dX7_isFreightTold_28 : decode cX7_isFreightTold 28 = .ok (.iconst 0, 1) := by decide +kernel
theorem dX7_isFreightTold_29 : decode cX7_isFreightTold 29 = .ok (.ireturn, 1) := by decide +kernel
theorem dX7_leastWorthFor_0 : decode cX7_leastWorthFor 0 = .ok (.aload_n 0, 1) := by decide +kernel
theorem dX7_leastWorthFor_1 : decode cX7_leastWorthFor 1 = .ok (.iload_n 1, 1) := by decide +kernel
theorem dX7_leastWorthFor_2 : decode cX7_leastWorthFor 2 = .ok (.invokevirtual 287, 3) := by decide +kernel
theorem dX7_leastWorthFor_5 : decode cX7_leastWorthFor 5 = .ok (.ifCond .ne 7, 3) := by decide +kernel
theorem dX7_leastWorthFor_8 : decode cX7_leastWorthFor 8 = .ok (.sipush 1000, 3) := by decide +kernel
theorem dX7_leastWorthFor_11 : decode cX7_leastWorthFor 11 = .ok (.ireturn, 1) := by decide +kernel
theorem dX7_leastWorthFor_12 : decode cX7_leastWorthFor 12 = .ok (.aload_n 0, 1) := by decide +kernel
theorem dX7_leastWorthFor_13 : decode cX7_leastWorthFor 13 = .ok (.iload_n 1, 1) := by decide +kernel
theorem dX7_leastWorthFor_14 : decode cX7_leastWorthFor 14 = .ok (.invokevirtual 284, 3) := by decide +kernel
theorem dX7_leastWorthFor_17 : decode cX7_leastWorthFor 17 = .ok (.ifCond .ne 15, 3) := by decide +kernel
theorem dX7_leastWorthFor_20 : decode cX7_leastWorthFor 20 = .ok (.aload_n 0, 1) := by decide +kernel
theorem dX7_leastWorthFor_21 : decode cX7_leastWorthFor 21 = .ok (.getfield 67, 3) := by decide +kernel
theorem dX7_leastWorthFor_24 : decode cX7_leastWorthFor 24 = .ok (.iload_n 1, 1) := by decide +kernel
theorem dX7_leastWorthFor_25 : decode cX7_leastWorthFor 25 = .ok (.iconst 1, 1) := by decide +kernel
theorem dX7_leastWorthFor_26 : decode cX7_leastWorthFor 26 = .ok (.invokevirtual 127, 3) := by decide +kernel
theorem dX7_leastWorthFor_29 : decode cX7_leastWorthFor 29 = .ok (.ifCond .ne 7, 3) := by decide +kernel
theorem dX7_leastWorthFor_32 : decode cX7_leastWorthFor 32 = .ok (.iconst 0, 1) := by decide +kernel
theorem dX7_leastWorthFor_33 : decode cX7_leastWorthFor 33 = .ok (.goto 8, 3) := by decide +kernel
theorem dX7_leastWorthFor_36 : decode cX7_leastWorthFor 36 = .ok (.aload_n 0, 1) := by decide +kernel
theorem dX7_leastWorthFor_37 : decode cX7_leastWorthFor 37 = .ok (.iload_n 1, 1) := by decide +kernel
theorem dX7_leastWorthFor_38 : decode cX7_leastWorthFor 38 = .ok (.invokevirtual 290, 3) := by decide +kernel
theorem dX7_leastWorthFor_41 : decode cX7_leastWorthFor 41 = .ok (.ireturn, 1) := by decide +kernel
theorem dX7_greatestWorthFor_0 : decode cX7_greatestWorthFor 0 = .ok (.aload_n 0, 1) := by decide +kernel
theorem dX7_greatestWorthFor_1 : decode cX7_greatestWorthFor 1 = .ok (.iload_n 1, 1) := by decide +kernel
theorem dX7_greatestWorthFor_2 : decode cX7_greatestWorthFor 2 = .ok (.invokevirtual 287, 3) := by decide +kernel
theorem dX7_greatestWorthFor_5 : decode cX7_greatestWorthFor 5 = .ok (.ifCond .ne 5, 3) := by decide +kernel
theorem dX7_greatestWorthFor_8 : decode cX7_greatestWorthFor 8 = .ok (.iconst (-1), 1) := by decide +kernel
theorem dX7_greatestWorthFor_9 : decode cX7_greatestWorthFor 9 = .ok (.ireturn, 1) := by decide +kernel
theorem dX7_greatestWorthFor_10 : decode cX7_greatestWorthFor 10 = .ok (.aload_n 0, 1) := by decide +kernel
theorem dX7_greatestWorthFor_11 : decode cX7_greatestWorthFor 11 = .ok (.getfield 67, 3) := by decide +kernel
theorem dX7_greatestWorthFor_14 : decode cX7_greatestWorthFor 14 = .ok (.iload_n 1, 1) := by decide +kernel
theorem dX7_greatestWorthFor_15 : decode cX7_greatestWorthFor 15 = .ok (.iconst 1, 1) := by decide +kernel
theorem dX7_greatestWorthFor_16 : decode cX7_greatestWorthFor 16 = .ok (.invokevirtual 127, 3) := by decide +kernel
theorem dX7_greatestWorthFor_19 : decode cX7_greatestWorthFor 19 = .ok (.aload_n 0, 1) := by decide +kernel
theorem dX7_greatestWorthFor_20 : decode cX7_greatestWorthFor 20 = .ok (.getfield 37, 3) := by decide +kernel
theorem dX7_greatestWorthFor_23 : decode cX7_greatestWorthFor 23 = .ok (.getfield 140, 3) := by decide +kernel
theorem dX7_greatestWorthFor_26 : decode cX7_greatestWorthFor 26 = .ok (.aload_n 0, 1) := by decide +kernel
theorem dX7_greatestWorthFor_27 : decode cX7_greatestWorthFor 27 = .ok (.getfield 67, 3) := by decide +kernel
theorem dX7_greatestWorthFor_30 : decode cX7_greatestWorthFor 30 = .ok (.iload_n 1, 1) := by decide +kernel
theorem dX7_greatestWorthFor_31 : decode cX7_greatestWorthFor 31 = .ok (.iconst 0, 1) := by decide +kernel
theorem dX7_greatestWorthFor_32 : decode cX7_greatestWorthFor 32 = .ok (.invokevirtual 127, 3) := by decide +kernel
theorem dX7_greatestWorthFor_35 : decode cX7_greatestWorthFor 35 = .ok (.iconst 3, 1) := by decide +kernel
theorem dX7_greatestWorthFor_36 : decode cX7_greatestWorthFor 36 = .ok (.invokevirtual 127, 3) := by decide +kernel
theorem dX7_greatestWorthFor_39 : decode cX7_greatestWorthFor 39 = .ok (.if_icmp .ne 7, 3) := by decide +kernel
theorem dX7_greatestWorthFor_42 : decode cX7_greatestWorthFor 42 = .ok (.iconst 1, 1) := by decide +kernel
theorem dX7_greatestWorthFor_43 : decode cX7_greatestWorthFor 43 = .ok (.goto 4, 3) := by decide +kernel
theorem dX7_greatestWorthFor_46 : decode cX7_greatestWorthFor 46 = .ok (.iconst 0, 1) := by decide +kernel
theorem dX7_greatestWorthFor_47 : decode cX7_greatestWorthFor 47 = .ok (.istore_n 2, 1) := by decide +kernel
theorem dX7_greatestWorthFor_48 : decode cX7_greatestWorthFor 48 = .ok (.aload_n 0, 1) := by decide +kernel
theorem dX7_greatestWorthFor_49 : decode cX7_greatestWorthFor 49 = .ok (.iload_n 1, 1) := by decide +kernel
theorem dX7_greatestWorthFor_50 : decode cX7_greatestWorthFor 50 = .ok (.invokevirtual 284, 3) := by decide +kernel
theorem dX7_greatestWorthFor_53 : decode cX7_greatestWorthFor 53 = .ok (.ifCond .ne 7, 3) := by decide +kernel
theorem dX7_greatestWorthFor_56 : decode cX7_greatestWorthFor 56 = .ok (.iload_n 2, 1) := by decide +kernel
theorem dX7_greatestWorthFor_57 : decode cX7_greatestWorthFor 57 = .ok (.ifCond .eq 9, 3) := by decide +kernel
theorem dX7_greatestWorthFor_60 : decode cX7_greatestWorthFor 60 = .ok (.sipush 999, 3) := by decide +kernel
theorem dX7_greatestWorthFor_63 : decode cX7_greatestWorthFor 63 = .ok (.goto 8, 3) := by decide +kernel
theorem dX7_greatestWorthFor_66 : decode cX7_greatestWorthFor 66 = .ok (.aload_n 0, 1) := by decide +kernel
theorem dX7_greatestWorthFor_67 : decode cX7_greatestWorthFor 67 = .ok (.iload_n 1, 1) := by decide +kernel
theorem dX7_greatestWorthFor_68 : decode cX7_greatestWorthFor 68 = .ok (.invokevirtual 290, 3) := by decide +kernel
theorem dX7_greatestWorthFor_71 : decode cX7_greatestWorthFor 71 = .ok (.ireturn, 1) := by decide +kernel
theorem dX7_worthJustFor_0 : decode cX7_worthJustFor 0 = .ok (.aload_n 0, 1) := by decide +kernel
theorem dX7_worthJustFor_1 : decode cX7_worthJustFor 1 = .ok (.aload_n 0, 1) := by decide +kernel
theorem dX7_worthJustFor_2 : decode cX7_worthJustFor 2 = .ok (.getfield 30, 3) := by decide +kernel
theorem dX7_worthJustFor_5 : decode cX7_worthJustFor 5 = .ok (.getfield 124, 3) := by decide +kernel
theorem dX7_worthJustFor_8 : decode cX7_worthJustFor 8 = .ok (.iconst 0, 1) := by decide +kernel
theorem dX7_worthJustFor_9 : decode cX7_worthJustFor 9 = .ok (.iconst 1, 1) := by decide +kernel
theorem dX7_worthJustFor_10 : decode cX7_worthJustFor 10 = .ok (.invokevirtual 127, 3) := by decide +kernel
theorem dX7_worthJustFor_13 : decode cX7_worthJustFor 13 = .ok (.invokevirtual 225, 3) := by decide +kernel
theorem dX7_worthJustFor_16 : decode cX7_worthJustFor 16 = .ok (.aload_n 0, 1) := by decide +kernel
theorem dX7_worthJustFor_17 : decode cX7_worthJustFor 17 = .ok (.getfield 30, 3) := by decide +kernel
theorem dX7_worthJustFor_20 : decode cX7_worthJustFor 20 = .ok (.getfield 124, 3) := by decide +kernel
theorem dX7_worthJustFor_23 : decode cX7_worthJustFor 23 = .ok (.iconst 0, 1) := by decide +kernel
theorem dX7_worthJustFor_24 : decode cX7_worthJustFor 24 = .ok (.iconst 0, 1) := by decide +kernel
theorem dX7_worthJustFor_25 : decode cX7_worthJustFor 25 = .ok (.invokevirtual 127, 3) := by decide +kernel
theorem dX7_worthJustFor_28 : decode cX7_worthJustFor 28 = .ok (.isub, 1) := by decide +kernel
theorem dX7_worthJustFor_29 : decode cX7_worthJustFor 29 = .ok (.istore_n 2, 1) := by decide +kernel
theorem dX7_worthJustFor_30 : decode cX7_worthJustFor 30 = .ok (.aload_n 0, 1) := by decide +kernel
theorem dX7_worthJustFor_31 : decode cX7_worthJustFor 31 = .ok (.getfield 37, 3) := by decide +kernel
theorem dX7_worthJustFor_34 : decode cX7_worthJustFor 34 = .ok (.aload_n 0, 1) := by decide +kernel
theorem dX7_worthJustFor_35 : decode cX7_worthJustFor 35 = .ok (.getfield 67, 3) := by decide +kernel
theorem dX7_worthJustFor_38 : decode cX7_worthJustFor 38 = .ok (.iload_n 1, 1) := by decide +kernel
theorem dX7_worthJustFor_39 : decode cX7_worthJustFor 39 = .ok (.iconst 0, 1) := by decide +kernel
theorem dX7_worthJustFor_40 : decode cX7_worthJustFor 40 = .ok (.invokevirtual 127, 3) := by decide +kernel
theorem dX7_worthJustFor_43 : decode cX7_worthJustFor 43 = .ok (.iconst 1, 1) := by decide +kernel
theorem dX7_worthJustFor_44 : decode cX7_worthJustFor 44 = .ok (.iadd, 1) := by decide +kernel
theorem dX7_worthJustFor_45 : decode cX7_worthJustFor 45 = .ok (.iconst 0, 1) := by decide +kernel
theorem dX7_worthJustFor_46 : decode cX7_worthJustFor 46 = .ok (.invokevirtual 149, 3) := by decide +kernel
theorem dX7_worthJustFor_49 : decode cX7_worthJustFor 49 = .ok (.istore_n 3, 1) := by decide +kernel
theorem dX7_worthJustFor_50 : decode cX7_worthJustFor 50 = .ok (.aload_n 0, 1) := by decide +kernel
theorem dX7_worthJustFor_51 : decode cX7_worthJustFor 51 = .ok (.getfield 67, 3) := by decide +kernel
theorem dX7_worthJustFor_54 : decode cX7_worthJustFor 54 = .ok (.iload_n 1, 1) := by decide +kernel
theorem dX7_worthJustFor_55 : decode cX7_worthJustFor 55 = .ok (.iconst 1, 1) := by decide +kernel
theorem dX7_worthJustFor_56 : decode cX7_worthJustFor 56 = .ok (.invokevirtual 127, 3) := by decide +kernel
theorem dX7_worthJustFor_59 : decode cX7_worthJustFor 59 = .ok (.iload_n 3, 1) := by decide +kernel
theorem dX7_worthJustFor_60 : decode cX7_worthJustFor 60 = .ok (.iadd, 1) := by decide +kernel
theorem dX7_worthJustFor_61 : decode cX7_worthJustFor 61 = .ok (.iload_n 2, 1) := by decide +kernel
theorem dX7_worthJustFor_62 : decode cX7_worthJustFor 62 = .ok (.isub, 1) := by decide +kernel
theorem dX7_worthJustFor_63 : decode cX7_worthJustFor 63 = .ok (.ireturn, 1) := by decide +kernel
