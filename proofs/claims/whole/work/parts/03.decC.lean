theorem dX6_init_0 : decode cX6_init 0 = .ok (.aload_n 0, 1) := by decide +kernel
theorem dX6_init_1 : decode cX6_init 1 = .ok (.invokespecial 1, 3) := by decide +kernel
theorem dX6_init_4 : decode cX6_init 4 = .ok (.aload_n 0, 1) := by decide +kernel
theorem dX6_init_5 : decode cX6_init 5 = .ok (.sipush 129, 3) := by decide +kernel
theorem dX6_init_8 : decode cX6_init 8 = .ok (.newarray .int, 2) := by decide +kernel
theorem dX6_init_10 : decode cX6_init 10 = .ok (.putfield 7, 3) := by decide +kernel
theorem dX6_init_13 : decode cX6_init 13 = .ok (.aload_n 0, 1) := by decide +kernel
theorem dX6_init_14 : decode cX6_init 14 = .ok (.sipush 129, 3) := by decide +kernel
theorem dX6_init_17 : decode cX6_init 17 = .ok (.newarray .int, 2) := by decide +kernel
theorem dX6_init_19 : decode cX6_init 19 = .ok (.putfield 13, 3) := by decide +kernel
theorem dX6_init_22 : decode cX6_init 22 = .ok (.aload_n 0, 1) := by decide +kernel
theorem dX6_init_23 : decode cX6_init 23 = .ok (.sipush 129, 3) := by decide +kernel
theorem dX6_init_26 : decode cX6_init 26 = .ok (.newarray .int, 2) := by decide +kernel
theorem dX6_init_28 : decode cX6_init 28 = .ok (.putfield 16, 3) := by decide +kernel
theorem dX6_init_31 : decode cX6_init 31 = .ok (.aload_n 0, 1) := by decide +kernel
theorem dX6_init_32 : decode cX6_init 32 = .ok (.sipush 774, 3) := by decide +kernel
theorem dX6_init_35 : decode cX6_init 35 = .ok (.newarray .int, 2) := by decide +kernel
theorem dX6_init_37 : decode cX6_init 37 = .ok (.putfield 19, 3) := by decide +kernel
theorem dX6_init_40 : decode cX6_init 40 = .ok (.aload_n 0, 1) := by decide +kernel
theorem dX6_init_41 : decode cX6_init 41 = .ok (.bipush 8, 2) := by decide +kernel
theorem dX6_init_43 : decode cX6_init 43 = .ok (.newarray .int, 2) := by decide +kernel
theorem dX6_init_45 : decode cX6_init 45 = .ok (.putfield 22, 3) := by decide +kernel
theorem dX6_init_48 : decode cX6_init 48 = .ok (.aload_n 0, 1) := by decide +kernel
theorem dX6_init_49 : decode cX6_init 49 = .ok (.bipush 8, 2) := by decide +kernel
theorem dX6_init_51 : decode cX6_init 51 = .ok (.newarray .int, 2) := by decide +kernel
theorem dX6_init_53 : decode cX6_init 53 = .ok (.putfield 25, 3) := by decide +kernel
theorem dX6_init_56 : decode cX6_init 56 = .ok (.aload_n 0, 1) := by decide +kernel
theorem dX6_init_57 : decode cX6_init 57 = .ok (.bipush 60, 2) := by decide +kernel
theorem dX6_init_59 : decode cX6_init 59 = .ok (.newarray .int, 2) := by decide +kernel
theorem dX6_init_61 : decode cX6_init 61 = .ok (.putfield 28, 3) := by decide +kernel
theorem dX6_init_64 : decode cX6_init 64 = .ok (.iconst 0, 1) := by decide +kernel
theorem dX6_init_65 : decode cX6_init 65 = .ok (.istore_n 1, 1) := by decide +kernel
theorem dX6_init_66 : decode cX6_init 66 = .ok (.iload_n 1, 1) := by decide +kernel
theorem dX6_init_67 : decode cX6_init 67 = .ok (.iconst 3, 1) := by decide +kernel
theorem dX6_init_68 : decode cX6_init 68 = .ok (.if_icmp .ge 18, 3) := by decide +kernel
theorem dX6_init_71 : decode cX6_init 71 = .ok (.aload_n 0, 1) := by decide +kernel
theorem dX6_init_72 : decode cX6_init 72 = .ok (.getfield 7, 3) := by decide +kernel
theorem dX6_init_75 : decode cX6_init 75 = .ok (.iconst 0, 1) := by decide +kernel
theorem dX6_init_76 : decode cX6_init 76 = .ok (.iload_n 1, 1) := by decide +kernel
theorem dX6_init_77 : decode cX6_init 77 = .ok (.iadd, 1) := by decide +kernel
theorem dX6_init_78 : decode cX6_init 78 = .ok (.iconst 4, 1) := by decide +kernel
theorem dX6_init_79 : decode cX6_init 79 = .ok (.iastore, 1) := by decide +kernel
theorem dX6_init_80 : decode cX6_init 80 = .ok (.iinc 1 1, 3) := by decide +kernel
theorem dX6_init_83 : decode cX6_init 83 = .ok (.goto (-17), 3) := by decide +kernel
theorem dX6_init_86 : decode cX6_init 86 = .ok (.aload_n 0, 1) := by decide +kernel
theorem dX6_init_87 : decode cX6_init 87 = .ok (.getfield 7, 3) := by decide +kernel
theorem dX6_init_90 : decode cX6_init 90 = .ok (.iconst 3, 1) := by decide +kernel
theorem dX6_init_91 : decode cX6_init 91 = .ok (.bipush 9, 2) := by decide +kernel
theorem dX6_init_93 : decode cX6_init 93 = .ok (.iastore, 1) := by decide +kernel
theorem dX6_init_94 : decode cX6_init 94 = .ok (.aload_n 0, 1) := by decide +kernel
theorem dX6_init_95 : decode cX6_init 95 = .ok (.getfield 7, 3) := by decide +kernel
theorem dX6_init_98 : decode cX6_init 98 = .ok (.iconst 4, 1) := by decide +kernel
theorem dX6_init_99 : decode cX6_init 99 = .ok (.bipush 40, 2) := by decide +kernel
theorem dX6_init_101 : decode cX6_init 101 = .ok (.iastore, 1) := by decide +kernel
theorem dX6_init_102 : decode cX6_init 102 = .ok (.aload_n 0, 1) := by decide +kernel
theorem dX6_init_103 : decode cX6_init 103 = .ok (.getfield 7, 3) := by decide +kernel
theorem dX6_init_106 : decode cX6_init 106 = .ok (.iconst 5, 1) := by decide +kernel
theorem dX6_init_107 : decode cX6_init 107 = .ok (.bipush 8, 2) := by decide +kernel
theorem dX6_init_109 : decode cX6_init 109 = .ok (.iastore, 1) := by decide +kernel
theorem dX6_init_110 : decode cX6_init 110 = .ok (.iconst 0, 1) := by decide +kernel
theorem dX6_init_111 : decode cX6_init 111 = .ok (.istore_n 1, 1) := by decide +kernel
theorem dX6_init_112 : decode cX6_init 112 = .ok (.iload_n 1, 1) := by decide +kernel
theorem dX6_init_113 : decode cX6_init 113 = .ok (.bipush 8, 2) := by decide +kernel
theorem dX6_init_115 : decode cX6_init 115 = .ok (.if_icmp .ge 62, 3) := by decide +kernel
theorem dX6_init_118 : decode cX6_init 118 = .ok (.bipush 6, 2) := by decide +kernel
theorem dX6_init_120 : decode cX6_init 120 = .ok (.bipush 7, 2) := by decide +kernel
theorem dX6_init_122 : decode cX6_init 122 = .ok (.iload_n 1, 1) := by decide +kernel
theorem dX6_init_123 : decode cX6_init 123 = .ok (.imul, 1) := by decide +kernel
theorem dX6_init_124 : decode cX6_init 124 = .ok (.iadd, 1) := by decide +kernel
theorem dX6_init_125 : decode cX6_init 125 = .ok (.istore_n 2, 1) := by decide +kernel
theorem dX6_init_126 : decode cX6_init 126 = .ok (.aload_n 0, 1) := by decide +kernel
theorem dX6_init_127 : decode cX6_init 127 = .ok (.getfield 7, 3) := by decide +kernel
theorem dX6_init_130 : decode cX6_init 130 = .ok (.iload_n 2, 1) := by decide +kernel
theorem dX6_init_131 : decode cX6_init 131 = .ok (.iconst 0, 1) := by decide +kernel
theorem dX6_init_132 : decode cX6_init 132 = .ok (.iadd, 1) := by decide +kernel
theorem dX6_init_133 : decode cX6_init 133 = .ok (.iload_n 1, 1) := by decide +kernel
theorem dX6_init_134 : decode cX6_init 134 = .ok (.iconst 3, 1) := by decide +kernel
theorem dX6_init_135 : decode cX6_init 135 = .ok (.irem, 1) := by decide +kernel
theorem dX6_init_136 : decode cX6_init 136 = .ok (.iastore, 1) := by decide +kernel
theorem dX6_init_137 : decode cX6_init 137 = .ok (.aload_n 0, 1) := by decide +kernel
theorem dX6_init_138 : decode cX6_init 138 = .ok (.getfield 7, 3) := by decide +kernel
theorem dX6_init_141 : decode cX6_init 141 = .ok (.iload_n 2, 1) := by decide +kernel
theorem dX6_init_142 : decode cX6_init 142 = .ok (.iconst 1, 1) := by decide +kernel
theorem dX6_init_143 : decode cX6_init 143 = .ok (.iadd, 1) := by decide +kernel
theorem dX6_init_144 : decode cX6_init 144 = .ok (.bipush 30, 2) := by decide +kernel
theorem dX6_init_146 : decode cX6_init 146 = .ok (.iload_n 1, 1) := by decide +kernel
theorem dX6_init_147 : decode cX6_init 147 = .ok (.iadd, 1) := by decide +kernel
theorem dX6_init_148 : decode cX6_init 148 = .ok (.iastore, 1) := by decide +kernel
theorem dX6_init_149 : decode cX6_init 149 = .ok (.aload_n 0, 1) := by decide +kernel
theorem dX6_init_150 : decode cX6_init 150 = .ok (.getfield 7, 3) := by decide +kernel
theorem dX6_init_153 : decode cX6_init 153 = .ok (.iload_n 2, 1) := by decide +kernel
theorem dX6_init_154 : decode cX6_init 154 = .ok (.iconst 2, 1) := by decide +kernel
theorem dX6_init_155 : decode cX6_init 155 = .ok (.iadd, 1) := by decide +kernel
theorem dX6_init_156 : decode cX6_init 156 = .ok (.bipush 100, 2) := by decide +kernel
theorem dX6_init_158 : decode cX6_init 158 = .ok (.iload_n 1, 1) := by decide +kernel
theorem dX6_init_159 : decode cX6_init 159 = .ok (.imul, 1) := by decide +kernel
theorem dX6_init_160 : decode cX6_init 160 = .ok (.iastore, 1) := by decide +kernel
theorem dX6_init_161 : decode cX6_init 161 = .ok (.aload_n 0, 1) := by decide +kernel
theorem dX6_init_162 : decode cX6_init 162 = .ok (.getfield 7, 3) := by decide +kernel
theorem dX6_init_165 : decode cX6_init 165 = .ok (.iload_n 2, 1) := by decide +kernel
theorem dX6_init_166 : decode cX6_init 166 = .ok (.iconst 3, 1) := by decide +kernel
theorem dX6_init_167 : decode cX6_init 167 = .ok (.iadd, 1) := by decide +kernel
theorem dX6_init_168 : decode cX6_init 168 = .ok (.bipush 50, 2) := by decide +kernel
theorem dX6_init_170 : decode cX6_init 170 = .ok (.iastore, 1) := by decide +kernel
theorem dX6_init_171 : decode cX6_init 171 = .ok (.iinc 1 1, 3) := by decide +kernel
theorem dX6_init_174 : decode cX6_init 174 = .ok (.goto (-62), 3) := by decide +kernel
theorem dX6_init_177 : decode cX6_init 177 = .ok (.return_, 1) := by decide +kernel
theorem dX6_thrown_0 : decode cX6_thrown 0 = .ok (.aload_n 0, 1) := by decide +kernel
theorem dX6_thrown_1 : decode cX6_thrown 1 = .ok (.getfield 31, 3) := by decide +kernel
theorem dX6_thrown_4 : decode cX6_thrown 4 = .ok (.ireturn, 1) := by decide +kernel
theorem dX6_refused_0 : decode cX6_refused 0 = .ok (.aload_n 0, 1) := by decide +kernel
theorem dX6_refused_1 : decode cX6_refused 1 = .ok (.iload_n 1, 1) := by decide +kernel
theorem dX6_refused_2 : decode cX6_refused 2 = .ok (.putfield 31, 3) := by decide +kernel
theorem dX6_refused_5 : decode cX6_refused 5 = .ok (.iload_n 1, 1) := by decide +kernel
theorem dX6_refused_6 : decode cX6_refused 6 = .ok (.ifCond .eq 7, 3) := by decide +kernel
theorem dX6_refused_9 : decode cX6_refused 9 = .ok (.iconst 1, 1) := by decide +kernel
theorem dX6_refused_10 : decode cX6_refused 10 = .ok (.goto 4, 3) := by decide +kernel
theorem dX6_refused_13 : decode cX6_refused 13 = .ok (.iconst 0, 1) := by decide +kernel
theorem dX6_refused_14 : decode cX6_refused 14 = .ok (.ireturn, 1) := by decide +kernel
theorem dX6_in_0 : decode cX6_in 0 = .ok (.lload_n 0, 1) := by decide +kernel
theorem dX6_in_1 : decode cX6_in 1 = .ok (.lload_n 2, 1) := by decide +kernel
theorem dX6_in_2 : decode cX6_in 2 = .ok (.lcmp, 1) := by decide +kernel
theorem dX6_in_3 : decode cX6_in 3 = .ok (.ifCond .lt 14, 3) := by decide +kernel
theorem dX6_in_6 : decode cX6_in 6 = .ok (.lload_n 0, 1) := by decide +kernel
theorem dX6_in_7 : decode cX6_in 7 = .ok (.lload 4, 2) := by decide +kernel
theorem dX6_in_9 : decode cX6_in 9 = .ok (.lcmp, 1) := by decide +kernel
theorem dX6_in_10 : decode cX6_in 10 = .ok (.ifCond .gt 7, 3) := by decide +kernel
theorem dX6_in_13 : decode cX6_in 13 = .ok (.iconst 1, 1) := by decide +kernel
theorem dX6_in_14 : decode cX6_in 14 = .ok (.goto 4, 3) := by decide +kernel
theorem dX6_in_17 : decode cX6_in 17 = .ok (.iconst 0, 1) := by decide +kernel
theorem dX6_in_18 : decode cX6_in 18 = .ok (.ireturn, 1) := by decide +kernel
theorem dX6_copy_0 : decode cX6_copy 0 = .ok (.iconst 0, 1) := by decide +kernel
theorem dX6_copy_1 : decode cX6_copy 1 = .ok (.istore_n 2, 1) := by decide +kernel
theorem dX6_copy_2 : decode cX6_copy 2 = .ok (.iload_n 2, 1) := by decide +kernel
theorem dX6_copy_3 : decode cX6_copy 3 = .ok (.sipush 129, 3) := by decide +kernel
theorem dX6_copy_6 : decode cX6_copy 6 = .ok (.if_icmp .ge 15, 3) := by decide +kernel
theorem dX6_copy_9 : decode cX6_copy 9 = .ok (.aload_n 1, 1) := by decide +kernel
theorem dX6_copy_10 : decode cX6_copy 10 = .ok (.iload_n 2, 1) := by decide +kernel
theorem dX6_copy_11 : decode cX6_copy 11 = .ok (.aload_n 0, 1) := by decide +kernel
theorem dX6_copy_12 : decode cX6_copy 12 = .ok (.iload_n 2, 1) := by decide +kernel
theorem dX6_copy_13 : decode cX6_copy 13 = .ok (.iaload, 1) := by decide +kernel
theorem dX6_copy_14 : decode cX6_copy 14 = .ok (.iastore, 1) := by decide +kernel
theorem dX6_copy_15 : decode cX6_copy 15 = .ok (.iinc 2 1, 3) := by decide +kernel
theorem dX6_copy_18 : decode cX6_copy 18 = .ok (.goto (-16), 3) := by decide +kernel
theorem dX6_copy_21 : decode cX6_copy 21 = .ok (.return_, 1) := by decide +kernel
theorem dX6_isClock_0 : decode cX6_isClock 0 = .ok (.iload_n 0, 1) := by decide +kernel
theorem dX6_isClock_1 : decode cX6_isClock 1 = .ok (.i2l, 1) := by decide +kernel
theorem dX6_isClock_2 : decode cX6_isClock 2 = .ok (.lconst 0, 1) := by decide +kernel
theorem dX6_isClock_3 : decode cX6_isClock 3 = .ok (.ldc2_w 35, 3) := by decide +kernel
theorem dX6_isClock_6 : decode cX6_isClock 6 = .ok (.invokestatic 37, 3) := by decide +kernel
theorem dX6_isClock_9 : decode cX6_isClock 9 = .ok (.ireturn, 1) := by decide +kernel
theorem dX6_isBeam_0 : decode cX6_isBeam 0 = .ok (.iload_n 0, 1) := by decide +kernel
theorem dX6_isBeam_1 : decode cX6_isBeam 1 = .ok (.i2l, 1) := by decide +kernel
theorem dX6_isBeam_2 : decode cX6_isBeam 2 = .ok (.lconst 0, 1) := by decide +kernel
theorem dX6_isBeam_3 : decode cX6_isBeam 3 = .ok (.ldc2_w 41, 3) := by decide +kernel
theorem dX6_isBeam_6 : decode cX6_isBeam 6 = .ok (.invokestatic 37, 3) := by decide +kernel
theorem dX6_isBeam_9 : decode cX6_isBeam 9 = .ok (.ireturn, 1) := by decide +kernel
theorem dX6_isSet_0 : decode cX6_isSet 0 = .ok (.iload_n 0, 1) := by decide +kernel
theorem dX6_isSet_1 : decode cX6_isSet 1 = .ok (.ifCond .ne 15, 3) := by decide +kernel
theorem dX6_isSet_4 : decode cX6_isSet 4 = .ok (.iload_n 1, 1) := by decide +kernel
theorem dX6_isSet_5 : decode cX6_isSet 5 = .ok (.i2l, 1) := by decide +kernel
theorem dX6_isSet_6 : decode cX6_isSet 6 = .ok (.lconst 0, 1) := by decide +kernel
theorem dX6_isSet_7 : decode cX6_isSet 7 = .ok (.ldc2_w 43, 3) := by decide +kernel
theorem dX6_isSet_10 : decode cX6_isSet 10 = .ok (.invokestatic 37, 3) := by decide +kernel
theorem dX6_isSet_13 : decode cX6_isSet 13 = .ok (.goto 29, 3) := by decide +kernel
theorem dX6_isSet_16 : decode cX6_isSet 16 = .ok (.iload_n 0, 1) := by decide +kernel
theorem dX6_isSet_17 : decode cX6_isSet 17 = .ok (.iconst 1, 1) := by decide +kernel
theorem dX6_isSet_18 : decode cX6_isSet 18 = .ok (.if_icmp .ne 15, 3) := by decide +kernel
theorem dX6_isSet_21 : decode cX6_isSet 21 = .ok (.iload_n 1, 1) := by decide +kernel
theorem dX6_isSet_22 : decode cX6_isSet 22 = .ok (.i2l, 1) := by decide +kernel
theorem dX6_isSet_23 : decode cX6_isSet 23 = .ok (.lconst 0, 1) := by decide +kernel
theorem dX6_isSet_24 : decode cX6_isSet 24 = .ok (.ldc2_w 45, 3) := by decide +kernel
theorem dX6_isSet_27 : decode cX6_isSet 27 = .ok (.invokestatic 37, 3) := by decide +kernel
theorem dX6_isSet_30 : decode cX6_isSet 30 = .ok (.goto 12, 3) := by decide +kernel
theorem dX6_isSet_33 : decode cX6_isSet 33 = .ok (.iload_n 1, 1) := by decide +kernel
theorem dX6_isSet_34 : decode cX6_isSet 34 = .ok (.i2l, 1) := by decide +kernel
theorem dX6_isSet_35 : decode cX6_isSet 35 = .ok (.lconst 1, 1) := by decide +kernel
theorem dX6_isSet_36 : decode cX6_isSet 36 = .ok (.ldc2_w 43, 3) := by decide +kernel
theorem dX6_isSet_39 : decode cX6_isSet 39 = .ok (.invokestatic 37, 3) := by decide +kernel
theorem dX6_isSet_42 : decode cX6_isSet 42 = .ok (.ireturn, 1) := by decide +kernel
theorem dX6_spot_0 : decode cX6_spot 0 = .ok (.bipush 6, 2) := by decide +kernel
theorem dX6_spot_2 : decode cX6_spot 2 = .ok (.bipush 7, 2) := by decide +kernel
theorem dX6_spot_4 : decode cX6_spot 4 = .ok (.iload_n 0, 1) := by decide +kernel
theorem dX6_spot_5 : decode cX6_spot 5 = .ok (.imul, 1) := by decide +kernel
theorem dX6_spot_6 : decode cX6_spot 6 = .ok (.iadd, 1) := by decide +kernel
theorem dX6_spot_7 : decode cX6_spot 7 = .ok (.ireturn, 1) := by decide +kernel
theorem dX6_goes_0 : decode cX6_goes 0 = .ok (.aload_n 0, 1) := by decide +kernel
theorem dX6_goes_1 : decode cX6_goes 1 = .ok (.iload_n 1, 1) := by decide +kernel
theorem dX6_goes_2 : decode cX6_goes 2 = .ok (.invokestatic 47, 3) := by decide +kernel
theorem dX6_goes_5 : decode cX6_goes 5 = .ok (.iconst 3, 1) := by decide +kernel
theorem dX6_goes_6 : decode cX6_goes 6 = .ok (.iadd, 1) := by decide +kernel
theorem dX6_goes_7 : decode cX6_goes 7 = .ok (.iaload, 1) := by decide +kernel
theorem dX6_goes_8 : decode cX6_goes 8 = .ok (.ifCond .le 7, 3) := by decide +kernel
theorem dX6_goes_11 : decode cX6_goes 11 = .ok (.iconst 1, 1) := by decide +kernel
theorem dX6_goes_12 : decode cX6_goes 12 = .ok (.goto 4, 3) := by decide +kernel
theorem dX6_goes_15 : decode cX6_goes 15 = .ok (.iconst 0, 1) := by decide +kernel
theorem dX6_goes_16 : decode cX6_goes 16 = .ok (.ireturn, 1) := by decide +kernel
theorem dX6_beamOf_0 : decode cX6_beamOf 0 = .ok (.aload_n 0, 1) := by decide +kernel
theorem dX6_beamOf_1 : decode cX6_beamOf 1 = .ok (.iload_n 1, 1) := by decide +kernel
theorem dX6_beamOf_2 : decode cX6_beamOf 2 = .ok (.invokestatic 47, 3) := by decide +kernel
theorem dX6_beamOf_5 : decode cX6_beamOf 5 = .ok (.iconst 0, 1) := by decide +kernel
theorem dX6_beamOf_6 : decode cX6_beamOf 6 = .ok (.iadd, 1) := by decide +kernel
theorem dX6_beamOf_7 : decode cX6_beamOf 7 = .ok (.iaload, 1) := by decide +kernel
theorem dX6_beamOf_8 : decode cX6_beamOf 8 = .ok (.ireturn, 1) := by decide +kernel
theorem dX6_size_0 : decode cX6_size 0 = .ok (.iload_n 0, 1) := by decide +kernel
theorem dX6_size_1 : decode cX6_size 1 = .ok (.ifCond .ge 8, 3) := by decide +kernel
theorem dX6_size_4 : decode cX6_size 4 = .ok (.iload_n 0, 1) := by decide +kernel
theorem dX6_size_5 : decode cX6_size 5 = .ok (.ineg, 1) := by decide +kernel
theorem dX6_size_6 : decode cX6_size 6 = .ok (.goto 4, 3) := by decide +kernel
theorem dX6_size_9 : decode cX6_size 9 = .ok (.iload_n 0, 1) := by decide +kernel
theorem dX6_size_10 : decode cX6_size 10 = .ok (.ireturn, 1) := by decide +kernel
theorem dX6_gap_0 : decode cX6_gap 0 = .ok (.aload_n 0, 1) := by decide +kernel
theorem dX6_gap_1 : decode cX6_gap 1 = .ok (.iload_n 2, 1) := by decide +kernel
theorem dX6_gap_2 : decode cX6_gap 2 = .ok (.invokestatic 47, 3) := by decide +kernel
theorem dX6_gap_5 : decode cX6_gap 5 = .ok (.iconst 2, 1) := by decide +kernel
theorem dX6_gap_6 : decode cX6_gap 6 = .ok (.iadd, 1) := by decide +kernel
theorem dX6_gap_7 : decode cX6_gap 7 = .ok (.iaload, 1) := by decide +kernel
theorem dX6_gap_8 : decode cX6_gap 8 = .ok (.aload_n 0, 1) := by decide +kernel
theorem dX6_gap_9 : decode cX6_gap 9 = .ok (.iload_n 1, 1) := by decide +kernel
theorem dX6_gap_10 : decode cX6_gap 10 = .ok (.invokestatic 47, 3) := by decide +kernel
theorem dX6_gap_13 : decode cX6_gap 13 = .ok (.iconst 2, 1) := by decide +kernel
theorem dX6_gap_14 : decode cX6_gap 14 = .ok (.iadd, 1) := by decide +kernel
theorem dX6_gap_15 : decode cX6_gap 15 = .ok (.iaload, 1) := by decide +kernel
theorem dX6_gap_16 : decode cX6_gap 16 = .ok (.isub, 1) := by decide +kernel
theorem dX6_gap_17 : decode cX6_gap 17 = .ok (.istore_n 3, 1) := by decide +kernel
theorem dX6_gap_18 : decode cX6_gap 18 = .ok (.iload_n 3, 1) := by decide +kernel
theorem dX6_gap_19 : decode cX6_gap 19 = .ok (.sipush 500, 3) := by decide +kernel
theorem dX6_gap_22 : decode cX6_gap 22 = .ok (.if_icmp .lt 11, 3) := by decide +kernel
theorem dX6_gap_25 : decode cX6_gap 25 = .ok (.iload_n 3, 1) := by decide +kernel
theorem dX6_gap_26 : decode cX6_gap 26 = .ok (.sipush 1000, 3) := by decide +kernel
theorem dX6_gap_29 : decode cX6_gap 29 = .ok (.isub, 1) := by decide +kernel
theorem dX6_gap_30 : decode cX6_gap 30 = .ok (.goto 19, 3) := by decide +kernel
theorem dX6_gap_33 : decode cX6_gap 33 = .ok (.iload_n 3, 1) := by decide +kernel
theorem dX6_gap_34 : decode cX6_gap 34 = .ok (.sipush (-500), 3) := by decide +kernel
theorem dX6_gap_37 : decode cX6_gap 37 = .ok (.if_icmp .ge 11, 3) := by decide +kernel
theorem dX6_gap_40 : decode cX6_gap 40 = .ok (.iload_n 3, 1) := by decide +kernel
theorem dX6_gap_41 : decode cX6_gap 41 = .ok (.sipush 1000, 3) := by decide +kernel
theorem dX6_gap_44 : decode cX6_gap 44 = .ok (.iadd, 1) := by decide +kernel
theorem dX6_gap_45 : decode cX6_gap 45 = .ok (.goto 4, 3) := by decide +kernel
theorem dX6_gap_48 : decode cX6_gap 48 = .ok (.iload_n 3, 1) := by decide +kernel
theorem dX6_gap_49 : decode cX6_gap 49 = .ok (.ireturn, 1) := by decide +kernel
theorem dX6_pull_0 : decode cX6_pull 0 = .ok (.iconst 0, 1) := by decide +kernel
theorem dX6_pull_1 : decode cX6_pull 1 = .ok (.istore_n 2, 1) := by decide +kernel
theorem dX6_pull_2 : decode cX6_pull 2 = .ok (.aload_n 0, 1) := by decide +kernel
theorem dX6_pull_3 : decode cX6_pull 3 = .ok (.iload_n 1, 1) := by decide +kernel
theorem dX6_pull_4 : decode cX6_pull 4 = .ok (.invokestatic 51, 3) := by decide +kernel
theorem dX6_pull_7 : decode cX6_pull 7 = .ok (.ifCond .ne 5, 3) := by decide +kernel
theorem dX6_pull_10 : decode cX6_pull 10 = .ok (.iconst 0, 1) := by decide +kernel
theorem dX6_pull_11 : decode cX6_pull 11 = .ok (.ireturn, 1) := by decide +kernel
theorem dX6_pull_12 : decode cX6_pull 12 = .ok (.iconst 0, 1) := by decide +kernel
theorem dX6_pull_13 : decode cX6_pull 13 = .ok (.istore_n 3, 1) := by decide +kernel
theorem dX6_pull_14 : decode cX6_pull 14 = .ok (.iload_n 3, 1) := by decide +kernel
theorem dX6_pull_15 : decode cX6_pull 15 = .ok (.bipush 8, 2) := by decide +kernel
theorem dX6_pull_17 : decode cX6_pull 17 = .ok (.if_icmp .ge 58, 3) := by decide +kernel
theorem dX6_pull_20 : decode cX6_pull 20 = .ok (.iload_n 3, 1) := by decide +kernel
theorem dX6_pull_21 : decode cX6_pull 21 = .ok (.iload_n 1, 1) := by decide +kernel
theorem dX6_pull_22 : decode cX6_pull 22 = .ok (.if_icmp .eq 47, 3) := by decide +kernel
theorem dX6_pull_25 : decode cX6_pull 25 = .ok (.aload_n 0, 1) := by decide +kernel
theorem dX6_pull_26 : decode cX6_pull 26 = .ok (.iload_n 3, 1) := by decide +kernel
theorem dX6_pull_27 : decode cX6_pull 27 = .ok (.invokestatic 51, 3) := by decide +kernel
theorem dX6_pull_30 : decode cX6_pull 30 = .ok (.ifCond .eq 39, 3) := by decide +kernel
theorem dX6_pull_33 : decode cX6_pull 33 = .ok (.aload_n 0, 1) := by decide +kernel
theorem dX6_pull_34 : decode cX6_pull 34 = .ok (.iload_n 3, 1) := by decide +kernel
theorem dX6_pull_35 : decode cX6_pull 35 = .ok (.invokestatic 55, 3) := by decide +kernel
theorem dX6_pull_38 : decode cX6_pull 38 = .ok (.aload_n 0, 1) := by decide +kernel
theorem dX6_pull_39 : decode cX6_pull 39 = .ok (.iload_n 1, 1) := by decide +kernel
theorem dX6_pull_40 : decode cX6_pull 40 = .ok (.invokestatic 55, 3) := by decide +kernel
theorem dX6_pull_43 : decode cX6_pull 43 = .ok (.if_icmp .ne 26, 3) := by decide +kernel
theorem dX6_pull_46 : decode cX6_pull 46 = .ok (.iload_n 2, 1) := by decide +kernel
theorem dX6_pull_47 : decode cX6_pull 47 = .ok (.aload_n 0, 1) := by decide +kernel
theorem dX6_pull_48 : decode cX6_pull 48 = .ok (.iload_n 1, 1) := by decide +kernel
theorem dX6_pull_49 : decode cX6_pull 49 = .ok (.iload_n 3, 1) := by decide +kernel
theorem dX6_pull_50 : decode cX6_pull 50 = .ok (.invokestatic 59, 3) := by decide +kernel
theorem dX6_pull_53 : decode cX6_pull 53 = .ok (.aload_n 0, 1) := by decide +kernel
theorem dX6_pull_54 : decode cX6_pull 54 = .ok (.iconst 0, 1) := by decide +kernel
theorem dX6_pull_55 : decode cX6_pull 55 = .ok (.aload_n 0, 1) := by decide +kernel
theorem dX6_pull_56 : decode cX6_pull 56 = .ok (.iload_n 1, 1) := by decide +kernel
theorem dX6_pull_57 : decode cX6_pull 57 = .ok (.invokestatic 55, 3) := by decide +kernel
theorem dX6_pull_60 : decode cX6_pull 60 = .ok (.iadd, 1) := by decide +kernel
theorem dX6_pull_61 : decode cX6_pull 61 = .ok (.iaload, 1) := by decide +kernel
theorem dX6_pull_62 : decode cX6_pull 62 = .ok (.imul, 1) := by decide +kernel
theorem dX6_pull_63 : decode cX6_pull 63 = .ok (.sipush 200, 3) := by decide +kernel
theorem dX6_pull_66 : decode cX6_pull 66 = .ok (.idiv, 1) := by decide +kernel
theorem dX6_pull_67 : decode cX6_pull 67 = .ok (.iadd, 1) := by decide +kernel
theorem dX6_pull_68 : decode cX6_pull 68 = .ok (.istore_n 2, 1) := by decide +kernel
theorem dX6_pull_69 : decode cX6_pull 69 = .ok (.iinc 3 1, 3) := by decide +kernel
theorem dX6_pull_72 : decode cX6_pull 72 = .ok (.goto (-58), 3) := by decide +kernel
theorem dX6_pull_75 : decode cX6_pull 75 = .ok (.aload_n 0, 1) := by decide +kernel
theorem dX6_pull_76 : decode cX6_pull 76 = .ok (.iconst 3, 1) := by decide +kernel
theorem dX6_pull_77 : decode cX6_pull 77 = .ok (.iaload, 1) := by decide +kernel
theorem dX6_pull_78 : decode cX6_pull 78 = .ok (.istore_n 3, 1) := by decide +kernel
theorem dX6_pull_79 : decode cX6_pull 79 = .ok (.iload_n 2, 1) := by decide +kernel
theorem dX6_pull_80 : decode cX6_pull 80 = .ok (.iload_n 3, 1) := by decide +kernel
theorem dX6_pull_81 : decode cX6_pull 81 = .ok (.if_icmp .le 7, 3) := by decide +kernel
theorem dX6_pull_84 : decode cX6_pull 84 = .ok (.iload_n 3, 1) := by decide +kernel
theorem dX6_pull_85 : decode cX6_pull 85 = .ok (.goto 15, 3) := by decide +kernel
theorem dX6_pull_88 : decode cX6_pull 88 = .ok (.iload_n 2, 1) := by decide +kernel
theorem dX6_pull_89 : decode cX6_pull 89 = .ok (.iload_n 3, 1) := by decide +kernel
theorem dX6_pull_90 : decode cX6_pull 90 = .ok (.ineg, 1) := by decide +kernel
theorem dX6_pull_91 : decode cX6_pull 91 = .ok (.if_icmp .ge 8, 3) := by decide +kernel
theorem dX6_pull_94 : decode cX6_pull 94 = .ok (.iload_n 3, 1) := by decide +kernel
theorem dX6_pull_95 : decode cX6_pull 95 = .ok (.ineg, 1) := by decide +kernel
theorem dX6_pull_96 : decode cX6_pull 96 = .ok (.goto 4, 3) := by decide +kernel
theorem dX6_pull_99 : decode cX6_pull 99 = .ok (.iload_n 2, 1) := by decide +kernel
theorem dX6_pull_100 : decode cX6_pull 100 = .ok (.ireturn, 1) := by decide +kernel
theorem dX6_near_0 : decode cX6_near 0 = .ok (.bipush 62, 2) := by decide +kernel
theorem dX6_near_2 : decode cX6_near 2 = .ok (.iload_n 0, 1) := by decide +kernel
theorem dX6_near_3 : decode cX6_near 3 = .ok (.iload_n 1, 1) := by decide +kernel
theorem dX6_near_4 : decode cX6_near 4 = .ok (.if_icmp .ge 12, 3) := by decide +kernel
theorem dX6_near_7 : decode cX6_near 7 = .ok (.bipush 8, 2) := by decide +kernel
theorem dX6_near_9 : decode cX6_near 9 = .ok (.iload_n 0, 1) := by decide +kernel
theorem dX6_near_10 : decode cX6_near 10 = .ok (.imul, 1) := by decide +kernel
theorem dX6_near_11 : decode cX6_near 11 = .ok (.iload_n 1, 1) := by decide +kernel
theorem dX6_near_12 : decode cX6_near 12 = .ok (.iadd, 1) := by decide +kernel
theorem dX6_near_13 : decode cX6_near 13 = .ok (.goto 9, 3) := by decide +kernel
theorem dX6_near_16 : decode cX6_near 16 = .ok (.bipush 8, 2) := by decide +kernel
theorem dX6_near_18 : decode cX6_near 18 = .ok (.iload_n 1, 1) := by decide +kernel
theorem dX6_near_19 : decode cX6_near 19 = .ok (.imul, 1) := by decide +kernel
theorem dX6_near_20 : decode cX6_near 20 = .ok (.iload_n 0, 1) := by decide +kernel
theorem dX6_near_21 : decode cX6_near 21 = .ok (.iadd, 1) := by decide +kernel
theorem dX6_near_22 : decode cX6_near 22 = .ok (.iadd, 1) := by decide +kernel
theorem dX6_near_23 : decode cX6_near 23 = .ok (.ireturn, 1) := by decide +kernel
theorem dX6_isNear_0 : decode cX6_isNear 0 = .ok (.iload_n 1, 1) := by decide +kernel
theorem dX6_isNear_1 : decode cX6_isNear 1 = .ok (.iload_n 2, 1) := by decide +kernel
theorem dX6_isNear_2 : decode cX6_isNear 2 = .ok (.if_icmp .ge 12, 3) := by decide +kernel
theorem dX6_isNear_5 : decode cX6_isNear 5 = .ok (.aload_n 0, 1) := by decide +kernel
theorem dX6_isNear_6 : decode cX6_isNear 6 = .ok (.iload_n 1, 1) := by decide +kernel
theorem dX6_isNear_7 : decode cX6_isNear 7 = .ok (.iload_n 2, 1) := by decide +kernel
theorem dX6_isNear_8 : decode cX6_isNear 8 = .ok (.invokestatic 59, 3) := by decide +kernel
theorem dX6_isNear_11 : decode cX6_isNear 11 = .ok (.goto 9, 3) := by decide +kernel
theorem dX6_isNear_14 : decode cX6_isNear 14 = .ok (.aload_n 0, 1) := by decide +kernel
theorem dX6_isNear_15 : decode cX6_isNear 15 = .ok (.iload_n 2, 1) := by decide +kernel
theorem dX6_isNear_16 : decode cX6_isNear 16 = .ok (.iload_n 1, 1) := by decide +kernel
theorem dX6_isNear_17 : decode cX6_isNear 17 = .ok (.invokestatic 59, 3) := by decide +kernel
theorem dX6_isNear_20 : decode cX6_isNear 20 = .ok (.invokestatic 63, 3) := by decide +kernel
theorem dX6_isNear_23 : decode cX6_isNear 23 = .ok (.aload_n 0, 1) := by decide +kernel
theorem dX6_isNear_24 : decode cX6_isNear 24 = .ok (.iconst 4, 1) := by decide +kernel
theorem dX6_isNear_25 : decode cX6_isNear 25 = .ok (.iaload, 1) := by decide +kernel
theorem dX6_isNear_26 : decode cX6_isNear 26 = .ok (.if_icmp .gt 7, 3) := by decide +kernel
theorem dX6_isNear_29 : decode cX6_isNear 29 = .ok (.iconst 1, 1) := by decide +kernel
theorem dX6_isNear_30 : decode cX6_isNear 30 = .ok (.goto 4, 3) := by decide +kernel
theorem dX6_isNear_33 : decode cX6_isNear 33 = .ok (.iconst 0, 1) := by decide +kernel
theorem dX6_isNear_34 : decode cX6_isNear 34 = .ok (.ireturn, 1) := by decide +kernel
theorem dX6_isLocked_0 : decode cX6_isLocked 0 = .ok (.iload_n 1, 1) := by decide +kernel
theorem dX6_isLocked_1 : decode cX6_isLocked 1 = .ok (.iload_n 2, 1) := by decide +kernel
theorem dX6_isLocked_2 : decode cX6_isLocked 2 = .ok (.if_icmp .eq 20, 3) := by decide +kernel
theorem dX6_isLocked_5 : decode cX6_isLocked 5 = .ok (.aload_n 0, 1) := by decide +kernel
theorem dX6_isLocked_6 : decode cX6_isLocked 6 = .ok (.iload_n 1, 1) := by decide +kernel
theorem dX6_isLocked_7 : decode cX6_isLocked 7 = .ok (.iload_n 2, 1) := by decide +kernel
theorem dX6_isLocked_8 : decode cX6_isLocked 8 = .ok (.invokestatic 66, 3) := by decide +kernel
theorem dX6_isLocked_11 : decode cX6_isLocked 11 = .ok (.iaload, 1) := by decide +kernel
theorem dX6_isLocked_12 : decode cX6_isLocked 12 = .ok (.aload_n 0, 1) := by decide +kernel
theorem dX6_isLocked_13 : decode cX6_isLocked 13 = .ok (.iconst 5, 1) := by decide +kernel
theorem dX6_isLocked_14 : decode cX6_isLocked 14 = .ok (.iaload, 1) := by decide +kernel
theorem dX6_isLocked_15 : decode cX6_isLocked 15 = .ok (.if_icmp .lt 7, 3) := by decide +kernel
theorem dX6_isLocked_18 : decode cX6_isLocked 18 = .ok (.iconst 1, 1) := by decide +kernel
theorem dX6_isLocked_19 : decode cX6_isLocked 19 = .ok (.goto 4, 3) := by decide +kernel
theorem dX6_isLocked_22 : decode cX6_isLocked 22 = .ok (.iconst 0, 1) := by decide +kernel
theorem dX6_isLocked_23 : decode cX6_isLocked 23 = .ok (.ireturn, 1) := by decide +kernel
theorem dX6_tick_0 : decode cX6_tick 0 = .ok (.iconst 0, 1) := by decide +kernel
theorem dX6_tick_1 : decode cX6_tick 1 = .ok (.istore_n 2, 1) := by decide +kernel
theorem dX6_tick_2 : decode cX6_tick 2 = .ok (.iconst 0, 1) := by decide +kernel
theorem dX6_tick_3 : decode cX6_tick 3 = .ok (.istore_n 3, 1) := by decide +kernel
theorem dX6_tick_4 : decode cX6_tick 4 = .ok (.iload_n 3, 1) := by decide +kernel
theorem dX6_tick_5 : decode cX6_tick 5 = .ok (.bipush 8, 2) := by decide +kernel
theorem dX6_tick_7 : decode cX6_tick 7 = .ok (.if_icmp .ge 20, 3) := by decide +kernel
theorem dX6_tick_10 : decode cX6_tick 10 = .ok (.aload_n 0, 1) := by decide +kernel
theorem dX6_tick_11 : decode cX6_tick 11 = .ok (.getfield 22, 3) := by decide +kernel
theorem dX6_tick_14 : decode cX6_tick 14 = .ok (.iload_n 3, 1) := by decide +kernel
theorem dX6_tick_15 : decode cX6_tick 15 = .ok (.aload_n 1, 1) := by decide +kernel
theorem dX6_tick_16 : decode cX6_tick 16 = .ok (.iload_n 3, 1) := by decide +kernel
theorem dX6_tick_17 : decode cX6_tick 17 = .ok (.invokestatic 70, 3) := by decide +kernel
theorem dX6_tick_20 : decode cX6_tick 20 = .ok (.iastore, 1) := by decide +kernel
theorem dX6_tick_21 : decode cX6_tick 21 = .ok (.iinc 3 1, 3) := by decide +kernel
theorem dX6_tick_24 : decode cX6_tick 24 = .ok (.goto (-20), 3) := by decide +kernel
theorem dX6_tick_27 : decode cX6_tick 27 = .ok (.iconst 0, 1) := by decide +kernel
theorem dX6_tick_28 : decode cX6_tick 28 = .ok (.istore_n 3, 1) := by decide +kernel
theorem dX6_tick_29 : decode cX6_tick 29 = .ok (.iload_n 3, 1) := by decide +kernel
theorem dX6_tick_30 : decode cX6_tick 30 = .ok (.bipush 8, 2) := by decide +kernel
theorem dX6_tick_32 : decode cX6_tick 32 = .ok (.if_icmp .ge 120, 3) := by decide +kernel
theorem dX6_tick_35 : decode cX6_tick 35 = .ok (.iload_n 3, 1) := by decide +kernel
theorem dX6_tick_36 : decode cX6_tick 36 = .ok (.invokestatic 47, 3) := by decide +kernel
theorem dX6_tick_39 : decode cX6_tick 39 = .ok (.istore 4, 2) := by decide +kernel
theorem dX6_tick_41 : decode cX6_tick 41 = .ok (.aload_n 1, 1) := by decide +kernel
theorem dX6_tick_42 : decode cX6_tick 42 = .ok (.iload_n 3, 1) := by decide +kernel
theorem dX6_tick_43 : decode cX6_tick 43 = .ok (.invokestatic 51, 3) := by decide +kernel
theorem dX6_tick_46 : decode cX6_tick 46 = .ok (.ifCond .eq 100, 3) := by decide +kernel
theorem dX6_tick_49 : decode cX6_tick 49 = .ok (.aload_n 1, 1) := by decide +kernel
theorem dX6_tick_50 : decode cX6_tick 50 = .ok (.iload 4, 2) := by decide +kernel
theorem dX6_tick_52 : decode cX6_tick 52 = .ok (.iconst 1, 1) := by decide +kernel
theorem dX6_tick_53 : decode cX6_tick 53 = .ok (.iadd, 1) := by decide +kernel
theorem dX6_tick_54 : decode cX6_tick 54 = .ok (.iaload, 1) := by decide +kernel
theorem dX6_tick_55 : decode cX6_tick 55 = .ok (.aload_n 0, 1) := by decide +kernel
theorem dX6_tick_56 : decode cX6_tick 56 = .ok (.getfield 22, 3) := by decide +kernel
theorem dX6_tick_59 : decode cX6_tick 59 = .ok (.iload_n 3, 1) := by decide +kernel
theorem dX6_tick_60 : decode cX6_tick 60 = .ok (.iaload, 1) := by decide +kernel
theorem dX6_tick_61 : decode cX6_tick 61 = .ok (.iadd, 1) := by decide +kernel
theorem dX6_tick_62 : decode cX6_tick 62 = .ok (.istore 5, 2) := by decide +kernel
theorem dX6_tick_64 : decode cX6_tick 64 = .ok (.iload 5, 2) := by decide +kernel
theorem dX6_tick_66 : decode cX6_tick 66 = .ok (.ifCond .ge 7, 3) := by decide +kernel
theorem dX6_tick_69 : decode cX6_tick 69 = .ok (.iconst 0, 1) := by decide +kernel
theorem dX6_tick_70 : decode cX6_tick 70 = .ok (.goto 5, 3) := by decide +kernel
theorem dX6_tick_73 : decode cX6_tick 73 = .ok (.iload 5, 2) := by decide +kernel
theorem dX6_tick_75 : decode cX6_tick 75 = .ok (.istore 5, 2) := by decide +kernel
theorem dX6_tick_77 : decode cX6_tick 77 = .ok (.aload_n 1, 1) := by decide +kernel
theorem dX6_tick_78 : decode cX6_tick 78 = .ok (.iload 4, 2) := by decide +kernel
theorem dX6_tick_80 : decode cX6_tick 80 = .ok (.iconst 2, 1) := by decide +kernel
theorem dX6_tick_81 : decode cX6_tick 81 = .ok (.iadd, 1) := by decide +kernel
theorem dX6_tick_82 : decode cX6_tick 82 = .ok (.dup2, 1) := by decide +kernel
theorem dX6_tick_83 : decode cX6_tick 83 = .ok (.iaload, 1) := by decide +kernel
theorem dX6_tick_84 : decode cX6_tick 84 = .ok (.iload 5, 2) := by decide +kernel
theorem dX6_tick_86 : decode cX6_tick 86 = .ok (.iadd, 1) := by decide +kernel
theorem dX6_tick_87 : decode cX6_tick 87 = .ok (.iastore, 1) := by decide +kernel
theorem dX6_tick_88 : decode cX6_tick 88 = .ok (.aload_n 1, 1) := by decide +kernel
theorem dX6_tick_89 : decode cX6_tick 89 = .ok (.iload 4, 2) := by decide +kernel
theorem dX6_tick_91 : decode cX6_tick 91 = .ok (.iconst 5, 1) := by decide +kernel
theorem dX6_tick_92 : decode cX6_tick 92 = .ok (.iadd, 1) := by decide +kernel
theorem dX6_tick_93 : decode cX6_tick 93 = .ok (.dup2, 1) := by decide +kernel
theorem dX6_tick_94 : decode cX6_tick 94 = .ok (.iaload, 1) := by decide +kernel
theorem dX6_tick_95 : decode cX6_tick 95 = .ok (.iload 5, 2) := by decide +kernel
theorem dX6_tick_97 : decode cX6_tick 97 = .ok (.iadd, 1) := by decide +kernel
theorem dX6_tick_98 : decode cX6_tick 98 = .ok (.iastore, 1) := by decide +kernel
theorem dX6_tick_99 : decode cX6_tick 99 = .ok (.aload_n 1, 1) := by decide +kernel
theorem dX6_tick_100 : decode cX6_tick 100 = .ok (.iload 4, 2) := by decide +kernel
theorem dX6_tick_102 : decode cX6_tick 102 = .ok (.iconst 2, 1) := by decide +kernel
theorem dX6_tick_103 : decode cX6_tick 103 = .ok (.iadd, 1) := by decide +kernel
theorem dX6_tick_104 : decode cX6_tick 104 = .ok (.iaload, 1) := by decide +kernel
theorem dX6_tick_105 : decode cX6_tick 105 = .ok (.sipush 1000, 3) := by decide +kernel
theorem dX6_tick_108 : decode cX6_tick 108 = .ok (.if_icmp .lt 38, 3) := by decide +kernel
theorem dX6_tick_111 : decode cX6_tick 111 = .ok (.aload_n 1, 1) := by decide +kernel
theorem dX6_tick_112 : decode cX6_tick 112 = .ok (.iload 4, 2) := by decide +kernel
theorem dX6_tick_114 : decode cX6_tick 114 = .ok (.iconst 2, 1) := by decide +kernel
theorem dX6_tick_115 : decode cX6_tick 115 = .ok (.iadd, 1) := by decide +kernel
theorem dX6_tick_116 : decode cX6_tick 116 = .ok (.dup2, 1) := by decide +kernel
theorem dX6_tick_117 : decode cX6_tick 117 = .ok (.iaload, 1) := by decide +kernel
theorem dX6_tick_118 : decode cX6_tick 118 = .ok (.sipush 1000, 3) := by decide +kernel
theorem dX6_tick_121 : decode cX6_tick 121 = .ok (.isub, 1) := by decide +kernel
theorem dX6_tick_122 : decode cX6_tick 122 = .ok (.iastore, 1) := by decide +kernel
theorem dX6_tick_123 : decode cX6_tick 123 = .ok (.aload_n 1, 1) := by decide +kernel
theorem dX6_tick_124 : decode cX6_tick 124 = .ok (.iload 4, 2) := by decide +kernel
theorem dX6_tick_126 : decode cX6_tick 126 = .ok (.iconst 3, 1) := by decide +kernel
theorem dX6_tick_127 : decode cX6_tick 127 = .ok (.iadd, 1) := by decide +kernel
theorem dX6_tick_128 : decode cX6_tick 128 = .ok (.dup2, 1) := by decide +kernel
theorem dX6_tick_129 : decode cX6_tick 129 = .ok (.iaload, 1) := by decide +kernel
theorem dX6_tick_130 : decode cX6_tick 130 = .ok (.iconst 1, 1) := by decide +kernel
theorem dX6_tick_131 : decode cX6_tick 131 = .ok (.isub, 1) := by decide +kernel
theorem dX6_tick_132 : decode cX6_tick 132 = .ok (.iastore, 1) := by decide +kernel
theorem dX6_tick_133 : decode cX6_tick 133 = .ok (.aload_n 1, 1) := by decide +kernel
theorem dX6_tick_134 : decode cX6_tick 134 = .ok (.iload 4, 2) := by decide +kernel
theorem dX6_tick_136 : decode cX6_tick 136 = .ok (.iconst 4, 1) := by decide +kernel
theorem dX6_tick_137 : decode cX6_tick 137 = .ok (.iadd, 1) := by decide +kernel
theorem dX6_tick_138 : decode cX6_tick 138 = .ok (.dup2, 1) := by decide +kernel
theorem dX6_tick_139 : decode cX6_tick 139 = .ok (.iaload, 1) := by decide +kernel
theorem dX6_tick_140 : decode cX6_tick 140 = .ok (.iconst 1, 1) := by decide +kernel
theorem dX6_tick_141 : decode cX6_tick 141 = .ok (.iadd, 1) := by decide +kernel
theorem dX6_tick_142 : decode cX6_tick 142 = .ok (.iastore, 1) := by decide +kernel
theorem dX6_tick_143 : decode cX6_tick 143 = .ok (.iinc 2 1, 3) := by decide +kernel
theorem dX6_tick_146 : decode cX6_tick 146 = .ok (.iinc 3 1, 3) := by decide +kernel
theorem dX6_tick_149 : decode cX6_tick 149 = .ok (.goto (-120), 3) := by decide +kernel
theorem dX6_tick_152 : decode cX6_tick 152 = .ok (.iconst 0, 1) := by decide +kernel
theorem dX6_tick_153 : decode cX6_tick 153 = .ok (.istore_n 3, 1) := by decide +kernel
theorem dX6_tick_154 : decode cX6_tick 154 = .ok (.iload_n 3, 1) := by decide +kernel
theorem dX6_tick_155 : decode cX6_tick 155 = .ok (.bipush 8, 2) := by decide +kernel
theorem dX6_tick_157 : decode cX6_tick 157 = .ok (.if_icmp .ge 102, 3) := by decide +kernel
theorem dX6_tick_160 : decode cX6_tick 160 = .ok (.iload_n 3, 1) := by decide +kernel
theorem dX6_tick_161 : decode cX6_tick 161 = .ok (.iconst 1, 1) := by decide +kernel
theorem dX6_tick_162 : decode cX6_tick 162 = .ok (.iadd, 1) := by decide +kernel
theorem dX6_tick_163 : decode cX6_tick 163 = .ok (.istore 4, 2) := by decide +kernel
theorem dX6_tick_165 : decode cX6_tick 165 = .ok (.iload 4, 2) := by decide +kernel
theorem dX6_tick_167 : decode cX6_tick 167 = .ok (.bipush 8, 2) := by decide +kernel
theorem dX6_tick_169 : decode cX6_tick 169 = .ok (.if_icmp .ge 84, 3) := by decide +kernel
theorem dX6_tick_172 : decode cX6_tick 172 = .ok (.aload_n 1, 1) := by decide +kernel
theorem dX6_tick_173 : decode cX6_tick 173 = .ok (.iload_n 3, 1) := by decide +kernel
theorem dX6_tick_174 : decode cX6_tick 174 = .ok (.invokestatic 51, 3) := by decide +kernel
theorem dX6_tick_177 : decode cX6_tick 177 = .ok (.ifCond .eq 30, 3) := by decide +kernel
theorem dX6_tick_180 : decode cX6_tick 180 = .ok (.aload_n 1, 1) := by decide +kernel
theorem dX6_tick_181 : decode cX6_tick 181 = .ok (.iload 4, 2) := by decide +kernel
theorem dX6_tick_183 : decode cX6_tick 183 = .ok (.invokestatic 51, 3) := by decide +kernel
theorem dX6_tick_186 : decode cX6_tick 186 = .ok (.ifCond .eq 21, 3) := by decide +kernel
theorem dX6_tick_189 : decode cX6_tick 189 = .ok (.aload_n 1, 1) := by decide +kernel
theorem dX6_tick_190 : decode cX6_tick 190 = .ok (.iload_n 3, 1) := by decide +kernel
theorem dX6_tick_191 : decode cX6_tick 191 = .ok (.invokestatic 55, 3) := by decide +kernel
theorem dX6_tick_194 : decode cX6_tick 194 = .ok (.aload_n 1, 1) := by decide +kernel
theorem dX6_tick_195 : decode cX6_tick 195 = .ok (.iload 4, 2) := by decide +kernel
theorem dX6_tick_197 : decode cX6_tick 197 = .ok (.invokestatic 55, 3) := by decide +kernel
theorem dX6_tick_200 : decode cX6_tick 200 = .ok (.if_icmp .ne 7, 3) := by decide +kernel
theorem dX6_tick_203 : decode cX6_tick 203 = .ok (.iconst 1, 1) := by decide +kernel
theorem dX6_tick_204 : decode cX6_tick 204 = .ok (.goto 4, 3) := by decide +kernel
theorem dX6_tick_207 : decode cX6_tick 207 = .ok (.iconst 0, 1) := by decide +kernel
theorem dX6_tick_208 : decode cX6_tick 208 = .ok (.istore 5, 2) := by decide +kernel
theorem dX6_tick_210 : decode cX6_tick 210 = .ok (.iload_n 3, 1) := by decide +kernel
theorem dX6_tick_211 : decode cX6_tick 211 = .ok (.iload 4, 2) := by decide +kernel
theorem dX6_tick_213 : decode cX6_tick 213 = .ok (.invokestatic 66, 3) := by decide +kernel
theorem dX6_tick_216 : decode cX6_tick 216 = .ok (.istore 6, 2) := by decide +kernel
theorem dX6_tick_218 : decode cX6_tick 218 = .ok (.aload_n 1, 1) := by decide +kernel
theorem dX6_tick_219 : decode cX6_tick 219 = .ok (.iload 6, 2) := by decide +kernel
theorem dX6_tick_221 : decode cX6_tick 221 = .ok (.iload 5, 2) := by decide +kernel
theorem dX6_tick_223 : decode cX6_tick 223 = .ok (.ifCond .eq 22, 3) := by decide +kernel
theorem dX6_tick_226 : decode cX6_tick 226 = .ok (.aload_n 1, 1) := by decide +kernel
theorem dX6_tick_227 : decode cX6_tick 227 = .ok (.iload_n 3, 1) := by decide +kernel
theorem dX6_tick_228 : decode cX6_tick 228 = .ok (.iload 4, 2) := by decide +kernel
theorem dX6_tick_230 : decode cX6_tick 230 = .ok (.invokestatic 73, 3) := by decide +kernel
theorem dX6_tick_233 : decode cX6_tick 233 = .ok (.ifCond .eq 12, 3) := by decide +kernel
theorem dX6_tick_236 : decode cX6_tick 236 = .ok (.aload_n 1, 1) := by decide +kernel
theorem dX6_tick_237 : decode cX6_tick 237 = .ok (.iload 6, 2) := by decide +kernel
theorem dX6_tick_239 : decode cX6_tick 239 = .ok (.iaload, 1) := by decide +kernel
theorem dX6_tick_240 : decode cX6_tick 240 = .ok (.iconst 1, 1) := by decide +kernel
theorem dX6_tick_241 : decode cX6_tick 241 = .ok (.iadd, 1) := by decide +kernel
theorem dX6_tick_242 : decode cX6_tick 242 = .ok (.goto 4, 3) := by decide +kernel
theorem dX6_tick_245 : decode cX6_tick 245 = .ok (.iconst 0, 1) := by decide +kernel
theorem dX6_tick_246 : decode cX6_tick 246 = .ok (.iastore, 1) := by decide +kernel
theorem dX6_tick_247 : decode cX6_tick 247 = .ok (.iinc 4 1, 3) := by decide +kernel
theorem dX6_tick_250 : decode cX6_tick 250 = .ok (.goto (-85), 3) := by decide +kernel
theorem dX6_tick_253 : decode cX6_tick 253 = .ok (.iinc 3 1, 3) := by decide +kernel
theorem dX6_tick_256 : decode cX6_tick 256 = .ok (.goto (-102), 3) := by decide +kernel
theorem dX6_tick_259 : decode cX6_tick 259 = .ok (.aload_n 1, 1) := by decide +kernel
theorem dX6_tick_260 : decode cX6_tick 260 = .ok (.bipush 126, 2) := by decide +kernel
theorem dX6_tick_262 : decode cX6_tick 262 = .ok (.dup2, 1) := by decide +kernel
theorem dX6_tick_263 : decode cX6_tick 263 = .ok (.iaload, 1) := by decide +kernel
theorem dX6_tick_264 : decode cX6_tick 264 = .ok (.iconst 1, 1) := by decide +kernel
theorem dX6_tick_265 : decode cX6_tick 265 = .ok (.iadd, 1) := by decide +kernel
theorem dX6_tick_266 : decode cX6_tick 266 = .ok (.iastore, 1) := by decide +kernel
theorem dX6_tick_267 : decode cX6_tick 267 = .ok (.aload_n 1, 1) := by decide +kernel
theorem dX6_tick_268 : decode cX6_tick 268 = .ok (.sipush 128, 3) := by decide +kernel
theorem dX6_tick_271 : decode cX6_tick 271 = .ok (.dup2, 1) := by decide +kernel
theorem dX6_tick_272 : decode cX6_tick 272 = .ok (.iaload, 1) := by decide +kernel
theorem dX6_tick_273 : decode cX6_tick 273 = .ok (.iload_n 2, 1) := by decide +kernel
theorem dX6_tick_274 : decode cX6_tick 274 = .ok (.ifCond .le 7, 3) := by decide +kernel
theorem dX6_tick_277 : decode cX6_tick 277 = .ok (.iconst 1, 1) := by decide +kernel
theorem dX6_tick_278 : decode cX6_tick 278 = .ok (.goto 4, 3) := by decide +kernel
theorem dX6_tick_281 : decode cX6_tick 281 = .ok (.iconst 0, 1) := by decide +kernel
theorem dX6_tick_282 : decode cX6_tick 282 = .ok (.iadd, 1) := by decide +kernel
theorem dX6_tick_283 : decode cX6_tick 283 = .ok (.iastore, 1) := by decide +kernel
theorem dX6_tick_284 : decode cX6_tick 284 = .ok (.iload_n 2, 1) := by decide +kernel
theorem dX6_tick_285 : decode cX6_tick 285 = .ok (.ireturn, 1) := by decide +kernel
theorem dX6_goTicks_0 : decode cX6_goTicks 0 = .ok (.iconst 0, 1) := by decide +kernel
theorem dX6_goTicks_1 : decode cX6_goTicks 1 = .ok (.istore_n 3, 1) := by decide +kernel
theorem dX6_goTicks_2 : decode cX6_goTicks 2 = .ok (.iconst 0, 1) := by decide +kernel
theorem dX6_goTicks_3 : decode cX6_goTicks 3 = .ok (.istore 4, 2) := by decide +kernel
theorem dX6_goTicks_5 : decode cX6_goTicks 5 = .ok (.iload 4, 2) := by decide +kernel
theorem dX6_goTicks_7 : decode cX6_goTicks 7 = .ok (.iload_n 2, 1) := by decide +kernel
theorem dX6_goTicks_8 : decode cX6_goTicks 8 = .ok (.if_icmp .ge 17, 3) := by decide +kernel
theorem dX6_goTicks_11 : decode cX6_goTicks 11 = .ok (.iload_n 3, 1) := by decide +kernel
theorem dX6_goTicks_12 : decode cX6_goTicks 12 = .ok (.aload_n 0, 1) := by decide +kernel
theorem dX6_goTicks_13 : decode cX6_goTicks 13 = .ok (.aload_n 1, 1) := by decide +kernel
theorem dX6_goTicks_14 : decode cX6_goTicks 14 = .ok (.invokevirtual 77, 3) := by decide +kernel
theorem dX6_goTicks_17 : decode cX6_goTicks 17 = .ok (.iadd, 1) := by decide +kernel
theorem dX6_goTicks_18 : decode cX6_goTicks 18 = .ok (.istore_n 3, 1) := by decide +kernel
theorem dX6_goTicks_19 : decode cX6_goTicks 19 = .ok (.iinc 4 1, 3) := by decide +kernel
theorem dX6_goTicks_22 : decode cX6_goTicks 22 = .ok (.goto (-17), 3) := by decide +kernel
theorem dX6_goTicks_25 : decode cX6_goTicks 25 = .ok (.iload_n 3, 1) := by decide +kernel
theorem dX6_goTicks_26 : decode cX6_goTicks 26 = .ok (.ireturn, 1) := by decide +kernel
theorem dX6_layGroups_0 : decode cX6_layGroups 0 = .ok (.iconst 0, 1) := by decide +kernel
theorem dX6_layGroups_1 : decode cX6_layGroups 1 = .ok (.istore_n 2, 1) := by decide +kernel
theorem dX6_layGroups_2 : decode cX6_layGroups 2 = .ok (.iload_n 2, 1) := by decide +kernel
theorem dX6_layGroups_3 : decode cX6_layGroups 3 = .ok (.bipush 8, 2) := by decide +kernel
theorem dX6_layGroups_5 : decode cX6_layGroups 5 = .ok (.if_icmp .ge 16, 3) := by decide +kernel
theorem dX6_layGroups_8 : decode cX6_layGroups 8 = .ok (.aload_n 0, 1) := by decide +kernel
theorem dX6_layGroups_9 : decode cX6_layGroups 9 = .ok (.getfield 25, 3) := by decide +kernel
theorem dX6_layGroups_12 : decode cX6_layGroups 12 = .ok (.iload_n 2, 1) := by decide +kernel
theorem dX6_layGroups_13 : decode cX6_layGroups 13 = .ok (.iload_n 2, 1) := by decide +kernel
theorem dX6_layGroups_14 : decode cX6_layGroups 14 = .ok (.iastore, 1) := by decide +kernel
theorem dX6_layGroups_15 : decode cX6_layGroups 15 = .ok (.iinc 2 1, 3) := by decide +kernel
theorem dX6_layGroups_18 : decode cX6_layGroups 18 = .ok (.goto (-16), 3) := by decide +kernel
theorem dX6_layGroups_21 : decode cX6_layGroups 21 = .ok (.iconst 0, 1) := by decide +kernel
theorem dX6_layGroups_22 : decode cX6_layGroups 22 = .ok (.istore_n 2, 1) := by decide +kernel
theorem dX6_layGroups_23 : decode cX6_layGroups 23 = .ok (.iload_n 2, 1) := by decide +kernel
theorem dX6_layGroups_24 : decode cX6_layGroups 24 = .ok (.bipush 8, 2) := by decide +kernel
theorem dX6_layGroups_26 : decode cX6_layGroups 26 = .ok (.if_icmp .ge 160, 3) := by decide +kernel
theorem dX6_layGroups_29 : decode cX6_layGroups 29 = .ok (.iload_n 2, 1) := by decide +kernel
theorem dX6_layGroups_30 : decode cX6_layGroups 30 = .ok (.iconst 1, 1) := by decide +kernel
theorem dX6_layGroups_31 : decode cX6_layGroups 31 = .ok (.iadd, 1) := by decide +kernel
theorem dX6_layGroups_32 : decode cX6_layGroups 32 = .ok (.istore_n 3, 1) := by decide +kernel
theorem dX6_layGroups_33 : decode cX6_layGroups 33 = .ok (.iload_n 3, 1) := by decide +kernel
theorem dX6_layGroups_34 : decode cX6_layGroups 34 = .ok (.bipush 8, 2) := by decide +kernel
theorem dX6_layGroups_36 : decode cX6_layGroups 36 = .ok (.if_icmp .ge 144, 3) := by decide +kernel
theorem dX6_layGroups_39 : decode cX6_layGroups 39 = .ok (.aload_n 1, 1) := by decide +kernel
theorem dX6_layGroups_40 : decode cX6_layGroups 40 = .ok (.iload_n 2, 1) := by decide +kernel
theorem dX6_layGroups_41 : decode cX6_layGroups 41 = .ok (.iload_n 3, 1) := by decide +kernel
theorem dX6_layGroups_42 : decode cX6_layGroups 42 = .ok (.invokestatic 81, 3) := by decide +kernel
theorem dX6_layGroups_45 : decode cX6_layGroups 45 = .ok (.ifCond .eq 129, 3) := by decide +kernel
theorem dX6_layGroups_48 : decode cX6_layGroups 48 = .ok (.aload_n 0, 1) := by decide +kernel
theorem dX6_layGroups_49 : decode cX6_layGroups 49 = .ok (.getfield 25, 3) := by decide +kernel
theorem dX6_layGroups_52 : decode cX6_layGroups 52 = .ok (.iload_n 2, 1) := by decide +kernel
theorem dX6_layGroups_53 : decode cX6_layGroups 53 = .ok (.iaload, 1) := by decide +kernel
theorem dX6_layGroups_54 : decode cX6_layGroups 54 = .ok (.aload_n 0, 1) := by decide +kernel
theorem dX6_layGroups_55 : decode cX6_layGroups 55 = .ok (.getfield 25, 3) := by decide +kernel
theorem dX6_layGroups_58 : decode cX6_layGroups 58 = .ok (.iload_n 3, 1) := by decide +kernel
theorem dX6_layGroups_59 : decode cX6_layGroups 59 = .ok (.iaload, 1) := by decide +kernel
theorem dX6_layGroups_60 : decode cX6_layGroups 60 = .ok (.if_icmp .eq 114, 3) := by decide +kernel
theorem dX6_layGroups_63 : decode cX6_layGroups 63 = .ok (.aload_n 0, 1) := by decide +kernel
theorem dX6_layGroups_64 : decode cX6_layGroups 64 = .ok (.getfield 25, 3) := by decide +kernel
theorem dX6_layGroups_67 : decode cX6_layGroups 67 = .ok (.iload_n 2, 1) := by decide +kernel
theorem dX6_layGroups_68 : decode cX6_layGroups 68 = .ok (.iaload, 1) := by decide +kernel
theorem dX6_layGroups_69 : decode cX6_layGroups 69 = .ok (.aload_n 0, 1) := by decide +kernel
theorem dX6_layGroups_70 : decode cX6_layGroups 70 = .ok (.getfield 25, 3) := by decide +kernel
theorem dX6_layGroups_73 : decode cX6_layGroups 73 = .ok (.iload_n 3, 1) := by decide +kernel
theorem dX6_layGroups_74 : decode cX6_layGroups 74 = .ok (.iaload, 1) := by decide +kernel
theorem dX6_layGroups_75 : decode cX6_layGroups 75 = .ok (.if_icmp .ge 12, 3) := by decide +kernel
theorem dX6_layGroups_78 : decode cX6_layGroups 78 = .ok (.aload_n 0, 1) := by decide +kernel
theorem dX6_layGroups_79 : decode cX6_layGroups 79 = .ok (.getfield 25, 3) := by decide +kernel
theorem dX6_layGroups_82 : decode cX6_layGroups 82 = .ok (.iload_n 2, 1) := by decide +kernel
theorem dX6_layGroups_83 : decode cX6_layGroups 83 = .ok (.iaload, 1) := by decide +kernel
theorem dX6_layGroups_84 : decode cX6_layGroups 84 = .ok (.goto 9, 3) := by decide +kernel
theorem dX6_layGroups_87 : decode cX6_layGroups 87 = .ok (.aload_n 0, 1) := by decide +kernel
theorem dX6_layGroups_88 : decode cX6_layGroups 88 = .ok (.getfield 25, 3) := by decide +kernel
theorem dX6_layGroups_91 : decode cX6_layGroups 91 = .ok (.iload_n 3, 1) := by decide +kernel
theorem dX6_layGroups_92 : decode cX6_layGroups 92 = .ok (.iaload, 1) := by decide +kernel
theorem dX6_layGroups_93 : decode cX6_layGroups 93 = .ok (.istore 4, 2) := by decide +kernel
theorem dX6_layGroups_95 : decode cX6_layGroups 95 = .ok (.aload_n 0, 1) := by decide +kernel
theorem dX6_layGroups_96 : decode cX6_layGroups 96 = .ok (.getfield 25, 3) := by decide +kernel
theorem dX6_layGroups_99 : decode cX6_layGroups 99 = .ok (.iload_n 2, 1) := by decide +kernel
theorem dX6_layGroups_100 : decode cX6_layGroups 100 = .ok (.iaload, 1) := by decide +kernel
theorem dX6_layGroups_101 : decode cX6_layGroups 101 = .ok (.aload_n 0, 1) := by decide +kernel
theorem dX6_layGroups_102 : decode cX6_layGroups 102 = .ok (.getfield 25, 3) := by decide +kernel
theorem dX6_layGroups_105 : decode cX6_layGroups 105 = .ok (.iload_n 3, 1) := by decide +kernel
theorem dX6_layGroups_106 : decode cX6_layGroups 106 = .ok (.iaload, 1) := by decide +kernel
theorem dX6_layGroups_107 : decode cX6_layGroups 107 = .ok (.if_icmp .ge 12, 3) := by decide +kernel
theorem dX6_layGroups_110 : decode cX6_layGroups 110 = .ok (.aload_n 0, 1) := by decide +kernel
theorem dX6_layGroups_111 : decode cX6_layGroups 111 = .ok (.getfield 25, 3) := by decide +kernel
theorem dX6_layGroups_114 : decode cX6_layGroups 114 = .ok (.iload_n 3, 1) := by decide +kernel
theorem dX6_layGroups_115 : decode cX6_layGroups 115 = .ok (.iaload, 1) := by decide +kernel
theorem dX6_layGroups_116 : decode cX6_layGroups 116 = .ok (.goto 9, 3) := by decide +kernel
theorem dX6_layGroups_119 : decode cX6_layGroups 119 = .ok (.aload_n 0, 1) := by decide +kernel
theorem dX6_layGroups_120 : decode cX6_layGroups 120 = .ok (.getfield 25, 3) := by decide +kernel
theorem dX6_layGroups_123 : decode cX6_layGroups 123 = .ok (.iload_n 2, 1) := by decide +kernel
theorem dX6_layGroups_124 : decode cX6_layGroups 124 = .ok (.iaload, 1) := by decide +kernel
theorem dX6_layGroups_125 : decode cX6_layGroups 125 = .ok (.istore 5, 2) := by decide +kernel
theorem dX6_layGroups_127 : decode cX6_layGroups 127 = .ok (.iconst 0, 1) := by decide +kernel
theorem dX6_layGroups_128 : decode cX6_layGroups 128 = .ok (.istore 6, 2) := by decide +kernel
theorem dX6_layGroups_130 : decode cX6_layGroups 130 = .ok (.iload 6, 2) := by decide +kernel
theorem dX6_layGroups_132 : decode cX6_layGroups 132 = .ok (.bipush 8, 2) := by decide +kernel
theorem dX6_layGroups_134 : decode cX6_layGroups 134 = .ok (.if_icmp .ge 40, 3) := by decide +kernel
theorem dX6_layGroups_137 : decode cX6_layGroups 137 = .ok (.aload_n 0, 1) := by decide +kernel
theorem dX6_layGroups_138 : decode cX6_layGroups 138 = .ok (.getfield 25, 3) := by decide +kernel
theorem dX6_layGroups_141 : decode cX6_layGroups 141 = .ok (.iload 6, 2) := by decide +kernel
theorem dX6_layGroups_143 : decode cX6_layGroups 143 = .ok (.aload_n 0, 1) := by decide +kernel
theorem dX6_layGroups_144 : decode cX6_layGroups 144 = .ok (.getfield 25, 3) := by decide +kernel
theorem dX6_layGroups_147 : decode cX6_layGroups 147 = .ok (.iload 6, 2) := by decide +kernel
theorem dX6_layGroups_149 : decode cX6_layGroups 149 = .ok (.iaload, 1) := by decide +kernel
theorem dX6_layGroups_150 : decode cX6_layGroups 150 = .ok (.iload 5, 2) := by decide +kernel
theorem dX6_layGroups_152 : decode cX6_layGroups 152 = .ok (.if_icmp .ne 8, 3) := by decide +kernel
theorem dX6_layGroups_155 : decode cX6_layGroups 155 = .ok (.iload 4, 2) := by decide +kernel
theorem dX6_layGroups_157 : decode cX6_layGroups 157 = .ok (.goto 10, 3) := by decide +kernel
theorem dX6_layGroups_160 : decode cX6_layGroups 160 = .ok (.aload_n 0, 1) := by decide +kernel
theorem dX6_layGroups_161 : decode cX6_layGroups 161 = .ok (.getfield 25, 3) := by decide +kernel
theorem dX6_layGroups_164 : decode cX6_layGroups 164 = .ok (.iload 6, 2) := by decide +kernel
theorem dX6_layGroups_166 : decode cX6_layGroups 166 = .ok (.iaload, 1) := by decide +kernel
theorem dX6_layGroups_167 : decode cX6_layGroups 167 = .ok (.iastore, 1) := by decide +kernel
theorem dX6_layGroups_168 : decode cX6_layGroups 168 = .ok (.iinc 6 1, 3) := by decide +kernel
theorem dX6_layGroups_171 : decode cX6_layGroups 171 = .ok (.goto (-41), 3) := by decide +kernel
theorem dX6_layGroups_174 : decode cX6_layGroups 174 = .ok (.iinc 3 1, 3) := by decide +kernel
theorem dX6_layGroups_177 : decode cX6_layGroups 177 = .ok (.goto (-144), 3) := by decide +kernel
theorem dX6_layGroups_180 : decode cX6_layGroups 180 = .ok (.iinc 2 1, 3) := by decide +kernel
theorem dX6_layGroups_183 : decode cX6_layGroups 183 = .ok (.goto (-160), 3) := by decide +kernel
theorem dX6_layGroups_186 : decode cX6_layGroups 186 = .ok (.return_, 1) := by decide +kernel
theorem dX6_groupSet_0 : decode cX6_groupSet 0 = .ok (.aload_n 0, 1) := by decide +kernel
theorem dX6_groupSet_1 : decode cX6_groupSet 1 = .ok (.aload_n 1, 1) := by decide +kernel
theorem dX6_groupSet_2 : decode cX6_groupSet 2 = .ok (.invokevirtual 84, 3) := by decide +kernel
theorem dX6_groupSet_5 : decode cX6_groupSet 5 = .ok (.iconst 0, 1) := by decide +kernel
theorem dX6_groupSet_6 : decode cX6_groupSet 6 = .ok (.istore_n 3, 1) := by decide +kernel
theorem dX6_groupSet_7 : decode cX6_groupSet 7 = .ok (.iconst 0, 1) := by decide +kernel
theorem dX6_groupSet_8 : decode cX6_groupSet 8 = .ok (.istore 4, 2) := by decide +kernel
theorem dX6_groupSet_10 : decode cX6_groupSet 10 = .ok (.iload 4, 2) := by decide +kernel
theorem dX6_groupSet_12 : decode cX6_groupSet 12 = .ok (.bipush 8, 2) := by decide +kernel
theorem dX6_groupSet_14 : decode cX6_groupSet 14 = .ok (.if_icmp .ge 36, 3) := by decide +kernel
theorem dX6_groupSet_17 : decode cX6_groupSet 17 = .ok (.iload_n 3, 1) := by decide +kernel
theorem dX6_groupSet_18 : decode cX6_groupSet 18 = .ok (.aload_n 0, 1) := by decide +kernel
theorem dX6_groupSet_19 : decode cX6_groupSet 19 = .ok (.getfield 25, 3) := by decide +kernel
theorem dX6_groupSet_22 : decode cX6_groupSet 22 = .ok (.iload 4, 2) := by decide +kernel
theorem dX6_groupSet_24 : decode cX6_groupSet 24 = .ok (.iaload, 1) := by decide +kernel
theorem dX6_groupSet_25 : decode cX6_groupSet 25 = .ok (.aload_n 0, 1) := by decide +kernel
theorem dX6_groupSet_26 : decode cX6_groupSet 26 = .ok (.getfield 25, 3) := by decide +kernel
theorem dX6_groupSet_29 : decode cX6_groupSet 29 = .ok (.iload_n 2, 1) := by decide +kernel
theorem dX6_groupSet_30 : decode cX6_groupSet 30 = .ok (.iaload, 1) := by decide +kernel
theorem dX6_groupSet_31 : decode cX6_groupSet 31 = .ok (.if_icmp .ne 10, 3) := by decide +kernel
theorem dX6_groupSet_34 : decode cX6_groupSet 34 = .ok (.iconst 1, 1) := by decide +kernel
theorem dX6_groupSet_35 : decode cX6_groupSet 35 = .ok (.iload 4, 2) := by decide +kernel
theorem dX6_groupSet_37 : decode cX6_groupSet 37 = .ok (.ishl, 1) := by decide +kernel
theorem dX6_groupSet_38 : decode cX6_groupSet 38 = .ok (.goto 4, 3) := by decide +kernel
theorem dX6_groupSet_41 : decode cX6_groupSet 41 = .ok (.iconst 0, 1) := by decide +kernel
theorem dX6_groupSet_42 : decode cX6_groupSet 42 = .ok (.ior, 1) := by decide +kernel
theorem dX6_groupSet_43 : decode cX6_groupSet 43 = .ok (.istore_n 3, 1) := by decide +kernel
theorem dX6_groupSet_44 : decode cX6_groupSet 44 = .ok (.iinc 4 1, 3) := by decide +kernel
theorem dX6_groupSet_47 : decode cX6_groupSet 47 = .ok (.goto (-37), 3) := by decide +kernel
theorem dX6_groupSet_50 : decode cX6_groupSet 50 = .ok (.iload_n 3, 1) := by decide +kernel
theorem dX6_groupSet_51 : decode cX6_groupSet 51 = .ok (.ireturn, 1) := by decide +kernel
theorem dX6_groups_0 : decode cX6_groups 0 = .ok (.aload_n 0, 1) := by decide +kernel
theorem dX6_groups_1 : decode cX6_groups 1 = .ok (.aload_n 1, 1) := by decide +kernel
theorem dX6_groups_2 : decode cX6_groups 2 = .ok (.invokevirtual 84, 3) := by decide +kernel
theorem dX6_groups_5 : decode cX6_groups 5 = .ok (.iconst 0, 1) := by decide +kernel
theorem dX6_groups_6 : decode cX6_groups 6 = .ok (.istore_n 2, 1) := by decide +kernel
theorem dX6_groups_7 : decode cX6_groups 7 = .ok (.iconst 0, 1) := by decide +kernel
theorem dX6_groups_8 : decode cX6_groups 8 = .ok (.istore_n 3, 1) := by decide +kernel
theorem dX6_groups_9 : decode cX6_groups 9 = .ok (.iload_n 3, 1) := by decide +kernel
theorem dX6_groups_10 : decode cX6_groups 10 = .ok (.bipush 8, 2) := by decide +kernel
theorem dX6_groups_12 : decode cX6_groups 12 = .ok (.if_icmp .ge 27, 3) := by decide +kernel
theorem dX6_groups_15 : decode cX6_groups 15 = .ok (.iload_n 2, 1) := by decide +kernel
theorem dX6_groups_16 : decode cX6_groups 16 = .ok (.aload_n 0, 1) := by decide +kernel
theorem dX6_groups_17 : decode cX6_groups 17 = .ok (.getfield 25, 3) := by decide +kernel
theorem dX6_groups_20 : decode cX6_groups 20 = .ok (.iload_n 3, 1) := by decide +kernel
theorem dX6_groups_21 : decode cX6_groups 21 = .ok (.iaload, 1) := by decide +kernel
theorem dX6_groups_22 : decode cX6_groups 22 = .ok (.iload_n 3, 1) := by decide +kernel
theorem dX6_groups_23 : decode cX6_groups 23 = .ok (.if_icmp .ne 7, 3) := by decide +kernel
theorem dX6_groups_26 : decode cX6_groups 26 = .ok (.iconst 1, 1) := by decide +kernel
theorem dX6_groups_27 : decode cX6_groups 27 = .ok (.goto 4, 3) := by decide +kernel
theorem dX6_groups_30 : decode cX6_groups 30 = .ok (.iconst 0, 1) := by decide +kernel
theorem dX6_groups_31 : decode cX6_groups 31 = .ok (.iadd, 1) := by decide +kernel
theorem dX6_groups_32 : decode cX6_groups 32 = .ok (.istore_n 2, 1) := by decide +kernel
theorem dX6_groups_33 : decode cX6_groups 33 = .ok (.iinc 3 1, 3) := by decide +kernel
theorem dX6_groups_36 : decode cX6_groups 36 = .ok (.goto (-27), 3) := by decide +kernel
theorem dX6_groups_39 : decode cX6_groups 39 = .ok (.iload_n 2, 1) := by decide +kernel
theorem dX6_groups_40 : decode cX6_groups 40 = .ok (.ireturn, 1) := by decide +kernel
theorem dX6_walked_0 : decode cX6_walked 0 = .ok (.iconst 0, 1) := by decide +kernel
theorem dX6_walked_1 : decode cX6_walked 1 = .ok (.istore_n 1, 1) := by decide +kernel
theorem dX6_walked_2 : decode cX6_walked 2 = .ok (.iconst 0, 1) := by decide +kernel
theorem dX6_walked_3 : decode cX6_walked 3 = .ok (.istore_n 2, 1) := by decide +kernel
theorem dX6_walked_4 : decode cX6_walked 4 = .ok (.iconst 0, 1) := by decide +kernel
theorem dX6_walked_5 : decode cX6_walked 5 = .ok (.istore_n 3, 1) := by decide +kernel
theorem dX6_walked_6 : decode cX6_walked 6 = .ok (.iload_n 3, 1) := by decide +kernel
theorem dX6_walked_7 : decode cX6_walked 7 = .ok (.bipush 8, 2) := by decide +kernel
theorem dX6_walked_9 : decode cX6_walked 9 = .ok (.if_icmp .ge 113, 3) := by decide +kernel
theorem dX6_walked_12 : decode cX6_walked 12 = .ok (.iload_n 1, 1) := by decide +kernel
theorem dX6_walked_13 : decode cX6_walked 13 = .ok (.iload_n 3, 1) := by decide +kernel
theorem dX6_walked_14 : decode cX6_walked 14 = .ok (.ishr, 1) := by decide +kernel
theorem dX6_walked_15 : decode cX6_walked 15 = .ok (.iconst 1, 1) := by decide +kernel
theorem dX6_walked_16 : decode cX6_walked 16 = .ok (.iand, 1) := by decide +kernel
theorem dX6_walked_17 : decode cX6_walked 17 = .ok (.ifCond .ne 99, 3) := by decide +kernel
theorem dX6_walked_20 : decode cX6_walked 20 = .ok (.iinc 2 1, 3) := by decide +kernel
theorem dX6_walked_23 : decode cX6_walked 23 = .ok (.iconst 1, 1) := by decide +kernel
theorem dX6_walked_24 : decode cX6_walked 24 = .ok (.iload_n 3, 1) := by decide +kernel
theorem dX6_walked_25 : decode cX6_walked 25 = .ok (.ishl, 1) := by decide +kernel
theorem dX6_walked_26 : decode cX6_walked 26 = .ok (.istore 4, 2) := by decide +kernel
theorem dX6_walked_28 : decode cX6_walked 28 = .ok (.iconst 0, 1) := by decide +kernel
theorem dX6_walked_29 : decode cX6_walked 29 = .ok (.istore 5, 2) := by decide +kernel
theorem dX6_walked_31 : decode cX6_walked 31 = .ok (.iload 5, 2) := by decide +kernel
theorem dX6_walked_33 : decode cX6_walked 33 = .ok (.bipush 8, 2) := by decide +kernel
theorem dX6_walked_35 : decode cX6_walked 35 = .ok (.if_icmp .ge 76, 3) := by decide +kernel
theorem dX6_walked_38 : decode cX6_walked 38 = .ok (.iconst 0, 1) := by decide +kernel
theorem dX6_walked_39 : decode cX6_walked 39 = .ok (.istore 6, 2) := by decide +kernel
theorem dX6_walked_41 : decode cX6_walked 41 = .ok (.iload 6, 2) := by decide +kernel
theorem dX6_walked_43 : decode cX6_walked 43 = .ok (.bipush 8, 2) := by decide +kernel
theorem dX6_walked_45 : decode cX6_walked 45 = .ok (.if_icmp .ge 60, 3) := by decide +kernel
theorem dX6_walked_48 : decode cX6_walked 48 = .ok (.iconst 0, 1) := by decide +kernel
theorem dX6_walked_49 : decode cX6_walked 49 = .ok (.istore 7, 2) := by decide +kernel
theorem dX6_walked_51 : decode cX6_walked 51 = .ok (.iload 7, 2) := by decide +kernel
theorem dX6_walked_53 : decode cX6_walked 53 = .ok (.bipush 8, 2) := by decide +kernel
theorem dX6_walked_55 : decode cX6_walked 55 = .ok (.if_icmp .ge 44, 3) := by decide +kernel
theorem dX6_walked_58 : decode cX6_walked 58 = .ok (.iload 4, 2) := by decide +kernel
theorem dX6_walked_60 : decode cX6_walked 60 = .ok (.iload 4, 2) := by decide +kernel
theorem dX6_walked_62 : decode cX6_walked 62 = .ok (.iload 6, 2) := by decide +kernel
theorem dX6_walked_64 : decode cX6_walked 64 = .ok (.ishr, 1) := by decide +kernel
theorem dX6_walked_65 : decode cX6_walked 65 = .ok (.iconst 1, 1) := by decide +kernel
theorem dX6_walked_66 : decode cX6_walked 66 = .ok (.iand, 1) := by decide +kernel
theorem dX6_walked_67 : decode cX6_walked 67 = .ok (.iconst 1, 1) := by decide +kernel
theorem dX6_walked_68 : decode cX6_walked 68 = .ok (.if_icmp .ne 21, 3) := by decide +kernel
theorem dX6_walked_71 : decode cX6_walked 71 = .ok (.aload_n 0, 1) := by decide +kernel
theorem dX6_walked_72 : decode cX6_walked 72 = .ok (.iload 6, 2) := by decide +kernel
theorem dX6_walked_74 : decode cX6_walked 74 = .ok (.iload 7, 2) := by decide +kernel
theorem dX6_walked_76 : decode cX6_walked 76 = .ok (.invokestatic 81, 3) := by decide +kernel
theorem dX6_walked_79 : decode cX6_walked 79 = .ok (.ifCond .eq 10, 3) := by decide +kernel
theorem dX6_walked_82 : decode cX6_walked 82 = .ok (.iconst 1, 1) := by decide +kernel
theorem dX6_walked_83 : decode cX6_walked 83 = .ok (.iload 7, 2) := by decide +kernel
theorem dX6_walked_85 : decode cX6_walked 85 = .ok (.ishl, 1) := by decide +kernel
theorem dX6_walked_86 : decode cX6_walked 86 = .ok (.goto 4, 3) := by decide +kernel
theorem dX6_walked_89 : decode cX6_walked 89 = .ok (.iconst 0, 1) := by decide +kernel
theorem dX6_walked_90 : decode cX6_walked 90 = .ok (.ior, 1) := by decide +kernel
theorem dX6_walked_91 : decode cX6_walked 91 = .ok (.istore 4, 2) := by decide +kernel
theorem dX6_walked_93 : decode cX6_walked 93 = .ok (.iinc 7 1, 3) := by decide +kernel
theorem dX6_walked_96 : decode cX6_walked 96 = .ok (.goto (-45), 3) := by decide +kernel
theorem dX6_walked_99 : decode cX6_walked 99 = .ok (.iinc 6 1, 3) := by decide +kernel
theorem dX6_walked_102 : decode cX6_walked 102 = .ok (.goto (-61), 3) := by decide +kernel
theorem dX6_walked_105 : decode cX6_walked 105 = .ok (.iinc 5 1, 3) := by decide +kernel
theorem dX6_walked_108 : decode cX6_walked 108 = .ok (.goto (-77), 3) := by decide +kernel
theorem dX6_walked_111 : decode cX6_walked 111 = .ok (.iload_n 1, 1) := by decide +kernel
theorem dX6_walked_112 : decode cX6_walked 112 = .ok (.iload 4, 2) := by decide +kernel
theorem dX6_walked_114 : decode cX6_walked 114 = .ok (.ior, 1) := by decide +kernel
theorem dX6_walked_115 : decode cX6_walked 115 = .ok (.istore_n 1, 1) := by decide +kernel
theorem dX6_walked_116 : decode cX6_walked 116 = .ok (.iinc 3 1, 3) := by decide +kernel
theorem dX6_walked_119 : decode cX6_walked 119 = .ok (.goto (-113), 3) := by decide +kernel
theorem dX6_walked_122 : decode cX6_walked 122 = .ok (.iload_n 2, 1) := by decide +kernel
theorem dX6_walked_123 : decode cX6_walked 123 = .ok (.ireturn, 1) := by decide +kernel
theorem dX6_greatest_0 : decode cX6_greatest 0 = .ok (.iconst 0, 1) := by decide +kernel
theorem dX6_greatest_1 : decode cX6_greatest 1 = .ok (.istore_n 2, 1) := by decide +kernel
theorem dX6_greatest_2 : decode cX6_greatest 2 = .ok (.iconst 0, 1) := by decide +kernel
theorem dX6_greatest_3 : decode cX6_greatest 3 = .ok (.istore_n 3, 1) := by decide +kernel
theorem dX6_greatest_4 : decode cX6_greatest 4 = .ok (.iload_n 3, 1) := by decide +kernel
theorem dX6_greatest_5 : decode cX6_greatest 5 = .ok (.bipush 8, 2) := by decide +kernel
theorem dX6_greatest_7 : decode cX6_greatest 7 = .ok (.if_icmp .ge 61, 3) := by decide +kernel
theorem dX6_greatest_10 : decode cX6_greatest 10 = .ok (.aload_n 0, 1) := by decide +kernel
theorem dX6_greatest_11 : decode cX6_greatest 11 = .ok (.aload_n 1, 1) := by decide +kernel
theorem dX6_greatest_12 : decode cX6_greatest 12 = .ok (.iload_n 3, 1) := by decide +kernel
theorem dX6_greatest_13 : decode cX6_greatest 13 = .ok (.invokevirtual 88, 3) := by decide +kernel
theorem dX6_greatest_16 : decode cX6_greatest 16 = .ok (.istore 4, 2) := by decide +kernel
theorem dX6_greatest_18 : decode cX6_greatest 18 = .ok (.iconst 0, 1) := by decide +kernel
theorem dX6_greatest_19 : decode cX6_greatest 19 = .ok (.istore 5, 2) := by decide +kernel
theorem dX6_greatest_21 : decode cX6_greatest 21 = .ok (.iconst 0, 1) := by decide +kernel
theorem dX6_greatest_22 : decode cX6_greatest 22 = .ok (.istore 6, 2) := by decide +kernel
theorem dX6_greatest_24 : decode cX6_greatest 24 = .ok (.iload 6, 2) := by decide +kernel
theorem dX6_greatest_26 : decode cX6_greatest 26 = .ok (.bipush 8, 2) := by decide +kernel
theorem dX6_greatest_28 : decode cX6_greatest 28 = .ok (.if_icmp .ge 21, 3) := by decide +kernel
theorem dX6_greatest_31 : decode cX6_greatest 31 = .ok (.iload 5, 2) := by decide +kernel
theorem dX6_greatest_33 : decode cX6_greatest 33 = .ok (.iload 4, 2) := by decide +kernel
theorem dX6_greatest_35 : decode cX6_greatest 35 = .ok (.iload 6, 2) := by decide +kernel
theorem dX6_greatest_37 : decode cX6_greatest 37 = .ok (.ishr, 1) := by decide +kernel
theorem dX6_greatest_38 : decode cX6_greatest 38 = .ok (.iconst 1, 1) := by decide +kernel
theorem dX6_greatest_39 : decode cX6_greatest 39 = .ok (.iand, 1) := by decide +kernel
theorem dX6_greatest_40 : decode cX6_greatest 40 = .ok (.iadd, 1) := by decide +kernel
theorem dX6_greatest_41 : decode cX6_greatest 41 = .ok (.istore 5, 2) := by decide +kernel
theorem dX6_greatest_43 : decode cX6_greatest 43 = .ok (.iinc 6 1, 3) := by decide +kernel
theorem dX6_greatest_46 : decode cX6_greatest 46 = .ok (.goto (-22), 3) := by decide +kernel
theorem dX6_greatest_49 : decode cX6_greatest 49 = .ok (.iload 5, 2) := by decide +kernel
theorem dX6_greatest_51 : decode cX6_greatest 51 = .ok (.iload_n 2, 1) := by decide +kernel
theorem dX6_greatest_52 : decode cX6_greatest 52 = .ok (.if_icmp .le 8, 3) := by decide +kernel
theorem dX6_greatest_55 : decode cX6_greatest 55 = .ok (.iload 5, 2) := by decide +kernel
theorem dX6_greatest_57 : decode cX6_greatest 57 = .ok (.goto 4, 3) := by decide +kernel
theorem dX6_greatest_60 : decode cX6_greatest 60 = .ok (.iload_n 2, 1) := by decide +kernel
theorem dX6_greatest_61 : decode cX6_greatest 61 = .ok (.istore_n 2, 1) := by decide +kernel
theorem dX6_greatest_62 : decode cX6_greatest 62 = .ok (.iinc 3 1, 3) := by decide +kernel
theorem dX6_greatest_65 : decode cX6_greatest 65 = .ok (.goto (-61), 3) := by decide +kernel
theorem dX6_greatest_68 : decode cX6_greatest 68 = .ok (.iload_n 2, 1) := by decide +kernel
theorem dX6_greatest_69 : decode cX6_greatest 69 = .ok (.ireturn, 1) := by decide +kernel
theorem dX6_save_0 : decode cX6_save 0 = .ok (.aload_n 0, 1) := by decide +kernel
theorem dX6_save_1 : decode cX6_save 1 = .ok (.getfield 91, 3) := by decide +kernel
theorem dX6_save_4 : decode cX6_save 4 = .ok (.bipush 6, 2) := by decide +kernel
theorem dX6_save_6 : decode cX6_save 6 = .ok (.if_icmp .ne 44, 3) := by decide +kernel
theorem dX6_save_9 : decode cX6_save 9 = .ok (.iconst 0, 1) := by decide +kernel
theorem dX6_save_10 : decode cX6_save 10 = .ok (.istore_n 1, 1) := by decide +kernel
theorem dX6_save_11 : decode cX6_save 11 = .ok (.iload_n 1, 1) := by decide +kernel
theorem dX6_save_12 : decode cX6_save 12 = .ok (.sipush 645, 3) := by decide +kernel
theorem dX6_save_15 : decode cX6_save 15 = .ok (.if_icmp .ge 25, 3) := by decide +kernel
theorem dX6_save_18 : decode cX6_save 18 = .ok (.aload_n 0, 1) := by decide +kernel
theorem dX6_save_19 : decode cX6_save 19 = .ok (.getfield 19, 3) := by decide +kernel
theorem dX6_save_22 : decode cX6_save 22 = .ok (.iload_n 1, 1) := by decide +kernel
theorem dX6_save_23 : decode cX6_save 23 = .ok (.aload_n 0, 1) := by decide +kernel
theorem dX6_save_24 : decode cX6_save 24 = .ok (.getfield 19, 3) := by decide +kernel
theorem dX6_save_27 : decode cX6_save 27 = .ok (.sipush 129, 3) := by decide +kernel
theorem dX6_save_30 : decode cX6_save 30 = .ok (.iload_n 1, 1) := by decide +kernel
theorem dX6_save_31 : decode cX6_save 31 = .ok (.iadd, 1) := by decide +kernel
theorem dX6_save_32 : decode cX6_save 32 = .ok (.iaload, 1) := by decide +kernel
theorem dX6_save_33 : decode cX6_save 33 = .ok (.iastore, 1) := by decide +kernel
theorem dX6_save_34 : decode cX6_save 34 = .ok (.iinc 1 1, 3) := by decide +kernel
theorem dX6_save_37 : decode cX6_save 37 = .ok (.goto (-26), 3) := by decide +kernel
theorem dX6_save_40 : decode cX6_save 40 = .ok (.aload_n 0, 1) := by decide +kernel
theorem dX6_save_41 : decode cX6_save 41 = .ok (.dup, 1) := by decide +kernel
theorem dX6_save_42 : decode cX6_save 42 = .ok (.getfield 91, 3) := by decide +kernel
theorem dX6_save_45 : decode cX6_save 45 = .ok (.iconst 1, 1) := by decide +kernel
theorem dX6_save_46 : decode cX6_save 46 = .ok (.isub, 1) := by decide +kernel
theorem dX6_save_47 : decode cX6_save 47 = .ok (.putfield 91, 3) := by decide +kernel
theorem dX6_save_50 : decode cX6_save 50 = .ok (.iconst 0, 1) := by decide +kernel
theorem dX6_save_51 : decode cX6_save 51 = .ok (.istore_n 1, 1) := by decide +kernel
theorem dX6_save_52 : decode cX6_save 52 = .ok (.iload_n 1, 1) := by decide +kernel
theorem dX6_save_53 : decode cX6_save 53 = .ok (.sipush 129, 3) := by decide +kernel
theorem dX6_save_56 : decode cX6_save 56 = .ok (.if_icmp .ge 30, 3) := by decide +kernel
theorem dX6_save_59 : decode cX6_save 59 = .ok (.aload_n 0, 1) := by decide +kernel
theorem dX6_save_60 : decode cX6_save 60 = .ok (.getfield 19, 3) := by decide +kernel
theorem dX6_save_63 : decode cX6_save 63 = .ok (.sipush 129, 3) := by decide +kernel
theorem dX6_save_66 : decode cX6_save 66 = .ok (.aload_n 0, 1) := by decide +kernel
theorem dX6_save_67 : decode cX6_save 67 = .ok (.getfield 91, 3) := by decide +kernel
theorem dX6_save_70 : decode cX6_save 70 = .ok (.imul, 1) := by decide +kernel
theorem dX6_save_71 : decode cX6_save 71 = .ok (.iload_n 1, 1) := by decide +kernel
theorem dX6_save_72 : decode cX6_save 72 = .ok (.iadd, 1) := by decide +kernel
theorem dX6_save_73 : decode cX6_save 73 = .ok (.aload_n 0, 1) := by decide +kernel
theorem dX6_save_74 : decode cX6_save 74 = .ok (.getfield 7, 3) := by decide +kernel
theorem dX6_save_77 : decode cX6_save 77 = .ok (.iload_n 1, 1) := by decide +kernel
theorem dX6_save_78 : decode cX6_save 78 = .ok (.iaload, 1) := by decide +kernel
theorem dX6_save_79 : decode cX6_save 79 = .ok (.iastore, 1) := by decide +kernel
theorem dX6_save_80 : decode cX6_save 80 = .ok (.iinc 1 1, 3) := by decide +kernel
theorem dX6_save_83 : decode cX6_save 83 = .ok (.goto (-31), 3) := by decide +kernel
theorem dX6_save_86 : decode cX6_save 86 = .ok (.aload_n 0, 1) := by decide +kernel
theorem dX6_save_87 : decode cX6_save 87 = .ok (.dup, 1) := by decide +kernel
theorem dX6_save_88 : decode cX6_save 88 = .ok (.getfield 91, 3) := by decide +kernel
theorem dX6_save_91 : decode cX6_save 91 = .ok (.iconst 1, 1) := by decide +kernel
theorem dX6_save_92 : decode cX6_save 92 = .ok (.iadd, 1) := by decide +kernel
theorem dX6_save_93 : decode cX6_save 93 = .ok (.putfield 91, 3) := by decide +kernel
theorem dX6_save_96 : decode cX6_save 96 = .ok (.return_, 1) := by decide +kernel
theorem dX6_pass_0 : decode cX6_pass 0 = .ok (.aload_n 0, 1) := by decide +kernel
theorem dX6_pass_1 : decode cX6_pass 1 = .ok (.iload_n 1, 1) := by decide +kernel
theorem dX6_pass_2 : decode cX6_pass 2 = .ok (.i2l, 1) := by decide +kernel
theorem dX6_pass_3 : decode cX6_pass 3 = .ok (.lconst 1, 1) := by decide +kernel
theorem dX6_pass_4 : decode cX6_pass 4 = .ok (.ldc2_w 45, 3) := by decide +kernel
theorem dX6_pass_7 : decode cX6_pass 7 = .ok (.invokestatic 37, 3) := by decide +kernel
theorem dX6_pass_10 : decode cX6_pass 10 = .ok (.ifCond .eq 7, 3) := by decide +kernel
theorem dX6_pass_13 : decode cX6_pass 13 = .ok (.iconst 0, 1) := by decide +kernel
theorem dX6_pass_14 : decode cX6_pass 14 = .ok (.goto 4, 3) := by decide +kernel
theorem dX6_pass_17 : decode cX6_pass 17 = .ok (.iconst 1, 1) := by decide +kernel
theorem dX6_pass_18 : decode cX6_pass 18 = .ok (.invokevirtual 94, 3) := by decide +kernel
theorem dX6_pass_21 : decode cX6_pass 21 = .ok (.ifCond .eq 5, 3) := by decide +kernel
theorem dX6_pass_24 : decode cX6_pass 24 = .ok (.iconst 0, 1) := by decide +kernel
theorem dX6_pass_25 : decode cX6_pass 25 = .ok (.ireturn, 1) := by decide +kernel
theorem dX6_pass_26 : decode cX6_pass 26 = .ok (.aload_n 0, 1) := by decide +kernel
theorem dX6_pass_27 : decode cX6_pass 27 = .ok (.invokevirtual 98, 3) := by decide +kernel
theorem dX6_pass_30 : decode cX6_pass 30 = .ok (.aload_n 0, 1) := by decide +kernel
theorem dX6_pass_31 : decode cX6_pass 31 = .ok (.aload_n 0, 1) := by decide +kernel
theorem dX6_pass_32 : decode cX6_pass 32 = .ok (.getfield 7, 3) := by decide +kernel
theorem dX6_pass_35 : decode cX6_pass 35 = .ok (.iload_n 1, 1) := by decide +kernel
theorem dX6_pass_36 : decode cX6_pass 36 = .ok (.invokevirtual 101, 3) := by decide +kernel
theorem dX6_pass_39 : decode cX6_pass 39 = .ok (.ireturn, 1) := by decide +kernel
theorem dX6_doKick_0 : decode cX6_doKick 0 = .ok (.iload_n 1, 1) := by decide +kernel
theorem dX6_doKick_1 : decode cX6_doKick 1 = .ok (.invokestatic 47, 3) := by decide +kernel
theorem dX6_doKick_4 : decode cX6_doKick 4 = .ok (.istore_n 3, 1) := by decide +kernel
theorem dX6_doKick_5 : decode cX6_doKick 5 = .ok (.aload_n 0, 1) := by decide +kernel
theorem dX6_doKick_6 : decode cX6_doKick 6 = .ok (.getfield 7, 3) := by decide +kernel
theorem dX6_doKick_9 : decode cX6_doKick 9 = .ok (.iload_n 3, 1) := by decide +kernel
theorem dX6_doKick_10 : decode cX6_doKick 10 = .ok (.iconst 2, 1) := by decide +kernel
theorem dX6_doKick_11 : decode cX6_doKick 11 = .ok (.iadd, 1) := by decide +kernel
theorem dX6_doKick_12 : decode cX6_doKick 12 = .ok (.iaload, 1) := by decide +kernel
theorem dX6_doKick_13 : decode cX6_doKick 13 = .ok (.iload_n 2, 1) := by decide +kernel
theorem dX6_doKick_14 : decode cX6_doKick 14 = .ok (.iadd, 1) := by decide +kernel
theorem dX6_doKick_15 : decode cX6_doKick 15 = .ok (.sipush 1000, 3) := by decide +kernel
theorem dX6_doKick_18 : decode cX6_doKick 18 = .ok (.irem, 1) := by decide +kernel
theorem dX6_doKick_19 : decode cX6_doKick 19 = .ok (.istore 4, 2) := by decide +kernel
theorem dX6_doKick_21 : decode cX6_doKick 21 = .ok (.aload_n 0, 1) := by decide +kernel
theorem dX6_doKick_22 : decode cX6_doKick 22 = .ok (.getfield 7, 3) := by decide +kernel
theorem dX6_doKick_25 : decode cX6_doKick 25 = .ok (.iload_n 3, 1) := by decide +kernel
theorem dX6_doKick_26 : decode cX6_doKick 26 = .ok (.iconst 2, 1) := by decide +kernel
theorem dX6_doKick_27 : decode cX6_doKick 27 = .ok (.iadd, 1) := by decide +kernel
theorem dX6_doKick_28 : decode cX6_doKick 28 = .ok (.iload 4, 2) := by decide +kernel
theorem dX6_doKick_30 : decode cX6_doKick 30 = .ok (.ifCond .ge 12, 3) := by decide +kernel
theorem dX6_doKick_33 : decode cX6_doKick 33 = .ok (.iload 4, 2) := by decide +kernel
theorem dX6_doKick_35 : decode cX6_doKick 35 = .ok (.sipush 1000, 3) := by decide +kernel
theorem dX6_doKick_38 : decode cX6_doKick 38 = .ok (.iadd, 1) := by decide +kernel
theorem dX6_doKick_39 : decode cX6_doKick 39 = .ok (.goto 5, 3) := by decide +kernel
theorem dX6_doKick_42 : decode cX6_doKick 42 = .ok (.iload 4, 2) := by decide +kernel
theorem dX6_doKick_44 : decode cX6_doKick 44 = .ok (.iastore, 1) := by decide +kernel
theorem dX6_doKick_45 : decode cX6_doKick 45 = .ok (.aload_n 0, 1) := by decide +kernel
theorem dX6_doKick_46 : decode cX6_doKick 46 = .ok (.getfield 7, 3) := by decide +kernel
theorem dX6_doKick_49 : decode cX6_doKick 49 = .ok (.iload_n 3, 1) := by decide +kernel
theorem dX6_doKick_50 : decode cX6_doKick 50 = .ok (.bipush 6, 2) := by decide +kernel
theorem dX6_doKick_52 : decode cX6_doKick 52 = .ok (.iadd, 1) := by decide +kernel
theorem dX6_doKick_53 : decode cX6_doKick 53 = .ok (.dup2, 1) := by decide +kernel
theorem dX6_doKick_54 : decode cX6_doKick 54 = .ok (.iaload, 1) := by decide +kernel
theorem dX6_doKick_55 : decode cX6_doKick 55 = .ok (.iload_n 2, 1) := by decide +kernel
theorem dX6_doKick_56 : decode cX6_doKick 56 = .ok (.iadd, 1) := by decide +kernel
theorem dX6_doKick_57 : decode cX6_doKick 57 = .ok (.iastore, 1) := by decide +kernel
theorem dX6_doKick_58 : decode cX6_doKick 58 = .ok (.aload_n 0, 1) := by decide +kernel
theorem dX6_doKick_59 : decode cX6_doKick 59 = .ok (.getfield 7, 3) := by decide +kernel
theorem dX6_doKick_62 : decode cX6_doKick 62 = .ok (.bipush 127, 2) := by decide +kernel
theorem dX6_doKick_64 : decode cX6_doKick 64 = .ok (.dup2, 1) := by decide +kernel
theorem dX6_doKick_65 : decode cX6_doKick 65 = .ok (.iaload, 1) := by decide +kernel
theorem dX6_doKick_66 : decode cX6_doKick 66 = .ok (.iconst 1, 1) := by decide +kernel
theorem dX6_doKick_67 : decode cX6_doKick 67 = .ok (.iadd, 1) := by decide +kernel
theorem dX6_doKick_68 : decode cX6_doKick 68 = .ok (.iastore, 1) := by decide +kernel
theorem dX6_doKick_69 : decode cX6_doKick 69 = .ok (.aload_n 0, 1) := by decide +kernel
theorem dX6_doKick_70 : decode cX6_doKick 70 = .ok (.getfield 7, 3) := by decide +kernel
theorem dX6_doKick_73 : decode cX6_doKick 73 = .ok (.iload_n 3, 1) := by decide +kernel
theorem dX6_doKick_74 : decode cX6_doKick 74 = .ok (.iconst 2, 1) := by decide +kernel
theorem dX6_doKick_75 : decode cX6_doKick 75 = .ok (.iadd, 1) := by decide +kernel
theorem dX6_doKick_76 : decode cX6_doKick 76 = .ok (.iaload, 1) := by decide +kernel
theorem dX6_doKick_77 : decode cX6_doKick 77 = .ok (.ireturn, 1) := by decide +kernel
theorem dX6_kick_0 : decode cX6_kick 0 = .ok (.aload_n 0, 1) := by decide +kernel
theorem dX6_kick_1 : decode cX6_kick 1 = .ok (.iload_n 1, 1) := by decide +kernel
theorem dX6_kick_2 : decode cX6_kick 2 = .ok (.invokestatic 104, 3) := by decide +kernel
theorem dX6_kick_5 : decode cX6_kick 5 = .ok (.ifCond .ne 7, 3) := by decide +kernel
theorem dX6_kick_8 : decode cX6_kick 8 = .ok (.iconst 1, 1) := by decide +kernel
theorem dX6_kick_9 : decode cX6_kick 9 = .ok (.goto 26, 3) := by decide +kernel
theorem dX6_kick_12 : decode cX6_kick 12 = .ok (.iload_n 2, 1) := by decide +kernel
theorem dX6_kick_13 : decode cX6_kick 13 = .ok (.ifCond .eq 17, 3) := by decide +kernel
theorem dX6_kick_16 : decode cX6_kick 16 = .ok (.iload_n 2, 1) := by decide +kernel
theorem dX6_kick_17 : decode cX6_kick 17 = .ok (.i2l, 1) := by decide +kernel
theorem dX6_kick_18 : decode cX6_kick 18 = .ok (.ldc2_w 107, 3) := by decide +kernel
theorem dX6_kick_21 : decode cX6_kick 21 = .ok (.ldc2_w 109, 3) := by decide +kernel
theorem dX6_kick_24 : decode cX6_kick 24 = .ok (.invokestatic 37, 3) := by decide +kernel
theorem dX6_kick_27 : decode cX6_kick 27 = .ok (.ifCond .ne 7, 3) := by decide +kernel
theorem dX6_kick_30 : decode cX6_kick 30 = .ok (.iconst 2, 1) := by decide +kernel
theorem dX6_kick_31 : decode cX6_kick 31 = .ok (.goto 4, 3) := by decide +kernel
theorem dX6_kick_34 : decode cX6_kick 34 = .ok (.iconst 0, 1) := by decide +kernel
theorem dX6_kick_35 : decode cX6_kick 35 = .ok (.invokevirtual 94, 3) := by decide +kernel
theorem dX6_kick_38 : decode cX6_kick 38 = .ok (.ifCond .eq 5, 3) := by decide +kernel
theorem dX6_kick_41 : decode cX6_kick 41 = .ok (.iconst 0, 1) := by decide +kernel
theorem dX6_kick_42 : decode cX6_kick 42 = .ok (.ireturn, 1) := by decide +kernel
theorem dX6_kick_43 : decode cX6_kick 43 = .ok (.aload_n 0, 1) := by decide +kernel
theorem dX6_kick_44 : decode cX6_kick 44 = .ok (.invokevirtual 98, 3) := by decide +kernel
theorem dX6_kick_47 : decode cX6_kick 47 = .ok (.aload_n 0, 1) := by decide +kernel
theorem dX6_kick_48 : decode cX6_kick 48 = .ok (.iload_n 1, 1) := by decide +kernel
theorem dX6_kick_49 : decode cX6_kick 49 = .ok (.iload_n 2, 1) := by decide +kernel
theorem dX6_kick_50 : decode cX6_kick 50 = .ok (.invokevirtual 111, 3) := by decide +kernel
theorem dX6_kick_53 : decode cX6_kick 53 = .ok (.ireturn, 1) := by decide +kernel
theorem dX6_doMove_0 : decode cX6_doMove 0 = .ok (.iconst 0, 1) := by decide +kernel
theorem dX6_doMove_1 : decode cX6_doMove 1 = .ok (.istore_n 3, 1) := by decide +kernel
theorem dX6_doMove_2 : decode cX6_doMove 2 = .ok (.aload_n 0, 1) := by decide +kernel
theorem dX6_doMove_3 : decode cX6_doMove 3 = .ok (.getfield 7, 3) := by decide +kernel
theorem dX6_doMove_6 : decode cX6_doMove 6 = .ok (.iload_n 1, 1) := by decide +kernel
theorem dX6_doMove_7 : decode cX6_doMove 7 = .ok (.invokestatic 47, 3) := by decide +kernel
theorem dX6_doMove_10 : decode cX6_doMove 10 = .ok (.iconst 0, 1) := by decide +kernel
theorem dX6_doMove_11 : decode cX6_doMove 11 = .ok (.iadd, 1) := by decide +kernel
theorem dX6_doMove_12 : decode cX6_doMove 12 = .ok (.iload_n 2, 1) := by decide +kernel
theorem dX6_doMove_13 : decode cX6_doMove 13 = .ok (.iastore, 1) := by decide +kernel
theorem dX6_doMove_14 : decode cX6_doMove 14 = .ok (.iconst 0, 1) := by decide +kernel
theorem dX6_doMove_15 : decode cX6_doMove 15 = .ok (.istore 4, 2) := by decide +kernel
theorem dX6_doMove_17 : decode cX6_doMove 17 = .ok (.iload 4, 2) := by decide +kernel
theorem dX6_doMove_19 : decode cX6_doMove 19 = .ok (.bipush 8, 2) := by decide +kernel
theorem dX6_doMove_21 : decode cX6_doMove 21 = .ok (.if_icmp .ge 48, 3) := by decide +kernel
theorem dX6_doMove_24 : decode cX6_doMove 24 = .ok (.iload 4, 2) := by decide +kernel
theorem dX6_doMove_26 : decode cX6_doMove 26 = .ok (.iload_n 1, 1) := by decide +kernel
theorem dX6_doMove_27 : decode cX6_doMove 27 = .ok (.if_icmp .eq 36, 3) := by decide +kernel
theorem dX6_doMove_30 : decode cX6_doMove 30 = .ok (.aload_n 0, 1) := by decide +kernel
theorem dX6_doMove_31 : decode cX6_doMove 31 = .ok (.getfield 7, 3) := by decide +kernel
theorem dX6_doMove_34 : decode cX6_doMove 34 = .ok (.iload_n 1, 1) := by decide +kernel
theorem dX6_doMove_35 : decode cX6_doMove 35 = .ok (.iload 4, 2) := by decide +kernel
theorem dX6_doMove_37 : decode cX6_doMove 37 = .ok (.invokestatic 66, 3) := by decide +kernel
theorem dX6_doMove_40 : decode cX6_doMove 40 = .ok (.iconst 0, 1) := by decide +kernel
theorem dX6_doMove_41 : decode cX6_doMove 41 = .ok (.iastore, 1) := by decide +kernel
theorem dX6_doMove_42 : decode cX6_doMove 42 = .ok (.iload_n 3, 1) := by decide +kernel
theorem dX6_doMove_43 : decode cX6_doMove 43 = .ok (.aload_n 0, 1) := by decide +kernel
theorem dX6_doMove_44 : decode cX6_doMove 44 = .ok (.getfield 7, 3) := by decide +kernel
theorem dX6_doMove_47 : decode cX6_doMove 47 = .ok (.iload 4, 2) := by decide +kernel
theorem dX6_doMove_49 : decode cX6_doMove 49 = .ok (.invokestatic 55, 3) := by decide +kernel
theorem dX6_doMove_52 : decode cX6_doMove 52 = .ok (.iload_n 2, 1) := by decide +kernel
theorem dX6_doMove_53 : decode cX6_doMove 53 = .ok (.if_icmp .ne 7, 3) := by decide +kernel
theorem dX6_doMove_56 : decode cX6_doMove 56 = .ok (.iconst 1, 1) := by decide +kernel
theorem dX6_doMove_57 : decode cX6_doMove 57 = .ok (.goto 4, 3) := by decide +kernel
theorem dX6_doMove_60 : decode cX6_doMove 60 = .ok (.iconst 0, 1) := by decide +kernel
theorem dX6_doMove_61 : decode cX6_doMove 61 = .ok (.iadd, 1) := by decide +kernel
theorem dX6_doMove_62 : decode cX6_doMove 62 = .ok (.istore_n 3, 1) := by decide +kernel
theorem dX6_doMove_63 : decode cX6_doMove 63 = .ok (.iinc 4 1, 3) := by decide +kernel
theorem dX6_doMove_66 : decode cX6_doMove 66 = .ok (.goto (-49), 3) := by decide +kernel
theorem dX6_doMove_69 : decode cX6_doMove 69 = .ok (.iload_n 3, 1) := by decide +kernel
theorem dX6_doMove_70 : decode cX6_doMove 70 = .ok (.ireturn, 1) := by decide +kernel
theorem dX6_move_0 : decode cX6_move 0 = .ok (.iload_n 1, 1) := by decide +kernel
theorem dX6_move_1 : decode cX6_move 1 = .ok (.invokestatic 104, 3) := by decide +kernel
theorem dX6_move_4 : decode cX6_move 4 = .ok (.ifCond .eq 14, 3) := by decide +kernel
theorem dX6_move_7 : decode cX6_move 7 = .ok (.iload_n 2, 1) := by decide +kernel
theorem dX6_move_8 : decode cX6_move 8 = .ok (.invokestatic 114, 3) := by decide +kernel
theorem dX6_move_11 : decode cX6_move 11 = .ok (.ifCond .eq 7, 3) := by decide +kernel
theorem dX6_move_14 : decode cX6_move 14 = .ok (.iconst 1, 1) := by decide +kernel
theorem dX6_move_15 : decode cX6_move 15 = .ok (.goto 4, 3) := by decide +kernel
theorem dX6_move_18 : decode cX6_move 18 = .ok (.iconst 0, 1) := by decide +kernel
theorem dX6_move_19 : decode cX6_move 19 = .ok (.istore_n 3, 1) := by decide +kernel
theorem dX6_move_20 : decode cX6_move 20 = .ok (.aload_n 0, 1) := by decide +kernel
theorem dX6_move_21 : decode cX6_move 21 = .ok (.iload_n 3, 1) := by decide +kernel
theorem dX6_move_22 : decode cX6_move 22 = .ok (.ifCond .ne 7, 3) := by decide +kernel
theorem dX6_move_25 : decode cX6_move 25 = .ok (.iconst 1, 1) := by decide +kernel
theorem dX6_move_26 : decode cX6_move 26 = .ok (.goto 20, 3) := by decide +kernel
theorem dX6_move_29 : decode cX6_move 29 = .ok (.aload_n 0, 1) := by decide +kernel
theorem dX6_move_30 : decode cX6_move 30 = .ok (.getfield 7, 3) := by decide +kernel
theorem dX6_move_33 : decode cX6_move 33 = .ok (.iload_n 1, 1) := by decide +kernel
theorem dX6_move_34 : decode cX6_move 34 = .ok (.invokestatic 55, 3) := by decide +kernel
theorem dX6_move_37 : decode cX6_move 37 = .ok (.iload_n 2, 1) := by decide +kernel
theorem dX6_move_38 : decode cX6_move 38 = .ok (.if_icmp .ne 7, 3) := by decide +kernel
theorem dX6_move_41 : decode cX6_move 41 = .ok (.iconst 2, 1) := by decide +kernel
theorem dX6_move_42 : decode cX6_move 42 = .ok (.goto 4, 3) := by decide +kernel
theorem dX6_move_45 : decode cX6_move 45 = .ok (.iconst 0, 1) := by decide +kernel
theorem dX6_move_46 : decode cX6_move 46 = .ok (.invokevirtual 94, 3) := by decide +kernel
theorem dX6_move_49 : decode cX6_move 49 = .ok (.ifCond .eq 5, 3) := by decide +kernel
theorem dX6_move_52 : decode cX6_move 52 = .ok (.iconst 0, 1) := by decide +kernel
theorem dX6_move_53 : decode cX6_move 53 = .ok (.ireturn, 1) := by decide +kernel
theorem dX6_move_54 : decode cX6_move 54 = .ok (.aload_n 0, 1) := by decide +kernel
theorem dX6_move_55 : decode cX6_move 55 = .ok (.invokevirtual 98, 3) := by decide +kernel
theorem dX6_move_58 : decode cX6_move 58 = .ok (.aload_n 0, 1) := by decide +kernel
theorem dX6_move_59 : decode cX6_move 59 = .ok (.iload_n 1, 1) := by decide +kernel
theorem dX6_move_60 : decode cX6_move 60 = .ok (.iload_n 2, 1) := by decide +kernel
theorem dX6_move_61 : decode cX6_move 61 = .ok (.invokevirtual 117, 3) := by decide +kernel
theorem dX6_move_64 : decode cX6_move 64 = .ok (.ireturn, 1) := by decide +kernel
theorem dX6_doWind_0 : decode cX6_doWind 0 = .ok (.bipush 99, 2) := by decide +kernel
theorem dX6_doWind_2 : decode cX6_doWind 2 = .ok (.aload_n 0, 1) := by decide +kernel
theorem dX6_doWind_3 : decode cX6_doWind 3 = .ok (.getfield 7, 3) := by decide +kernel
theorem dX6_doWind_6 : decode cX6_doWind 6 = .ok (.iload_n 1, 1) := by decide +kernel
theorem dX6_doWind_7 : decode cX6_doWind 7 = .ok (.invokestatic 47, 3) := by decide +kernel
theorem dX6_doWind_10 : decode cX6_doWind 10 = .ok (.iconst 3, 1) := by decide +kernel
theorem dX6_doWind_11 : decode cX6_doWind 11 = .ok (.iadd, 1) := by decide +kernel
theorem dX6_doWind_12 : decode cX6_doWind 12 = .ok (.iaload, 1) := by decide +kernel
theorem dX6_doWind_13 : decode cX6_doWind 13 = .ok (.isub, 1) := by decide +kernel
theorem dX6_doWind_14 : decode cX6_doWind 14 = .ok (.istore_n 2, 1) := by decide +kernel
theorem dX6_doWind_15 : decode cX6_doWind 15 = .ok (.aload_n 0, 1) := by decide +kernel
theorem dX6_doWind_16 : decode cX6_doWind 16 = .ok (.getfield 7, 3) := by decide +kernel
theorem dX6_doWind_19 : decode cX6_doWind 19 = .ok (.iload_n 1, 1) := by decide +kernel
theorem dX6_doWind_20 : decode cX6_doWind 20 = .ok (.invokestatic 47, 3) := by decide +kernel
theorem dX6_doWind_23 : decode cX6_doWind 23 = .ok (.iconst 3, 1) := by decide +kernel
theorem dX6_doWind_24 : decode cX6_doWind 24 = .ok (.iadd, 1) := by decide +kernel
theorem dX6_doWind_25 : decode cX6_doWind 25 = .ok (.bipush 99, 2) := by decide +kernel
theorem dX6_doWind_27 : decode cX6_doWind 27 = .ok (.iastore, 1) := by decide +kernel
theorem dX6_doWind_28 : decode cX6_doWind 28 = .ok (.iload_n 2, 1) := by decide +kernel
theorem dX6_doWind_29 : decode cX6_doWind 29 = .ok (.ireturn, 1) := by decide +kernel
theorem dX6_wind_0 : decode cX6_wind 0 = .ok (.aload_n 0, 1) := by decide +kernel
theorem dX6_wind_1 : decode cX6_wind 1 = .ok (.iload_n 1, 1) := by decide +kernel
theorem dX6_wind_2 : decode cX6_wind 2 = .ok (.invokestatic 104, 3) := by decide +kernel
theorem dX6_wind_5 : decode cX6_wind 5 = .ok (.ifCond .eq 7, 3) := by decide +kernel
theorem dX6_wind_8 : decode cX6_wind 8 = .ok (.iconst 0, 1) := by decide +kernel
theorem dX6_wind_9 : decode cX6_wind 9 = .ok (.goto 4, 3) := by decide +kernel
theorem dX6_wind_12 : decode cX6_wind 12 = .ok (.iconst 1, 1) := by decide +kernel
theorem dX6_wind_13 : decode cX6_wind 13 = .ok (.invokevirtual 94, 3) := by decide +kernel
theorem dX6_wind_16 : decode cX6_wind 16 = .ok (.ifCond .eq 5, 3) := by decide +kernel
theorem dX6_wind_19 : decode cX6_wind 19 = .ok (.iconst 0, 1) := by decide +kernel
theorem dX6_wind_20 : decode cX6_wind 20 = .ok (.ireturn, 1) := by decide +kernel
theorem dX6_wind_21 : decode cX6_wind 21 = .ok (.aload_n 0, 1) := by decide +kernel
theorem dX6_wind_22 : decode cX6_wind 22 = .ok (.invokevirtual 98, 3) := by decide +kernel
theorem dX6_wind_25 : decode cX6_wind 25 = .ok (.aload_n 0, 1) := by decide +kernel
theorem dX6_wind_26 : decode cX6_wind 26 = .ok (.iload_n 1, 1) := by decide +kernel
theorem dX6_wind_27 : decode cX6_wind 27 = .ok (.invokevirtual 120, 3) := by decide +kernel
theorem dX6_wind_30 : decode cX6_wind 30 = .ok (.ireturn, 1) := by decide +kernel
theorem dX6_put_0 : decode cX6_put 0 = .ok (.aload_n 0, 1) := by decide +kernel
theorem dX6_put_1 : decode cX6_put 1 = .ok (.getfield 7, 3) := by decide +kernel
theorem dX6_put_4 : decode cX6_put 4 = .ok (.iload_n 1, 1) := by decide +kernel
theorem dX6_put_5 : decode cX6_put 5 = .ok (.iaload, 1) := by decide +kernel
theorem dX6_put_6 : decode cX6_put 6 = .ok (.istore_n 3, 1) := by decide +kernel
theorem dX6_put_7 : decode cX6_put 7 = .ok (.aload_n 0, 1) := by decide +kernel
theorem dX6_put_8 : decode cX6_put 8 = .ok (.getfield 7, 3) := by decide +kernel
theorem dX6_put_11 : decode cX6_put 11 = .ok (.iload_n 1, 1) := by decide +kernel
theorem dX6_put_12 : decode cX6_put 12 = .ok (.iload_n 2, 1) := by decide +kernel
theorem dX6_put_13 : decode cX6_put 13 = .ok (.iastore, 1) := by decide +kernel
theorem dX6_put_14 : decode cX6_put 14 = .ok (.iload_n 3, 1) := by decide +kernel
theorem dX6_put_15 : decode cX6_put 15 = .ok (.ireturn, 1) := by decide +kernel
theorem dX6_speed_0 : decode cX6_speed 0 = .ok (.aload_n 0, 1) := by decide +kernel
theorem dX6_speed_1 : decode cX6_speed 1 = .ok (.iload_n 1, 1) := by decide +kernel
theorem dX6_speed_2 : decode cX6_speed 2 = .ok (.invokestatic 104, 3) := by decide +kernel
theorem dX6_speed_5 : decode cX6_speed 5 = .ok (.ifCond .ne 7, 3) := by decide +kernel
theorem dX6_speed_8 : decode cX6_speed 8 = .ok (.iconst 1, 1) := by decide +kernel
theorem dX6_speed_9 : decode cX6_speed 9 = .ok (.goto 22, 3) := by decide +kernel
theorem dX6_speed_12 : decode cX6_speed 12 = .ok (.iload_n 2, 1) := by decide +kernel
theorem dX6_speed_13 : decode cX6_speed 13 = .ok (.i2l, 1) := by decide +kernel
theorem dX6_speed_14 : decode cX6_speed 14 = .ok (.ldc2_w 123, 3) := by decide +kernel
theorem dX6_speed_17 : decode cX6_speed 17 = .ok (.ldc2_w 125, 3) := by decide +kernel
theorem dX6_speed_20 : decode cX6_speed 20 = .ok (.invokestatic 37, 3) := by decide +kernel
theorem dX6_speed_23 : decode cX6_speed 23 = .ok (.ifCond .ne 7, 3) := by decide +kernel
theorem dX6_speed_26 : decode cX6_speed 26 = .ok (.iconst 2, 1) := by decide +kernel
theorem dX6_speed_27 : decode cX6_speed 27 = .ok (.goto 4, 3) := by decide +kernel
theorem dX6_speed_30 : decode cX6_speed 30 = .ok (.iconst 0, 1) := by decide +kernel
theorem dX6_speed_31 : decode cX6_speed 31 = .ok (.invokevirtual 94, 3) := by decide +kernel
theorem dX6_speed_34 : decode cX6_speed 34 = .ok (.ifCond .eq 5, 3) := by decide +kernel
theorem dX6_speed_37 : decode cX6_speed 37 = .ok (.iconst 0, 1) := by decide +kernel
theorem dX6_speed_38 : decode cX6_speed 38 = .ok (.ireturn, 1) := by decide +kernel
theorem dX6_speed_39 : decode cX6_speed 39 = .ok (.aload_n 0, 1) := by decide +kernel
theorem dX6_speed_40 : decode cX6_speed 40 = .ok (.invokevirtual 98, 3) := by decide +kernel
theorem dX6_speed_43 : decode cX6_speed 43 = .ok (.aload_n 0, 1) := by decide +kernel
theorem dX6_speed_44 : decode cX6_speed 44 = .ok (.iload_n 1, 1) := by decide +kernel
theorem dX6_speed_45 : decode cX6_speed 45 = .ok (.invokestatic 47, 3) := by decide +kernel
theorem dX6_speed_48 : decode cX6_speed 48 = .ok (.iconst 1, 1) := by decide +kernel
theorem dX6_speed_49 : decode cX6_speed 49 = .ok (.iadd, 1) := by decide +kernel
theorem dX6_speed_50 : decode cX6_speed 50 = .ok (.iload_n 2, 1) := by decide +kernel
theorem dX6_speed_51 : decode cX6_speed 51 = .ok (.invokevirtual 127, 3) := by decide +kernel
theorem dX6_speed_54 : decode cX6_speed 54 = .ok (.ireturn, 1) := by decide +kernel
theorem dX6_give_0 : decode cX6_give 0 = .ok (.aload_n 0, 1) := by decide +kernel
theorem dX6_give_1 : decode cX6_give 1 = .ok (.iload_n 1, 1) := by decide +kernel
theorem dX6_give_2 : decode cX6_give 2 = .ok (.invokestatic 114, 3) := by decide +kernel
theorem dX6_give_5 : decode cX6_give 5 = .ok (.ifCond .ne 7, 3) := by decide +kernel
theorem dX6_give_8 : decode cX6_give 8 = .ok (.iconst 1, 1) := by decide +kernel
theorem dX6_give_9 : decode cX6_give 9 = .ok (.goto 20, 3) := by decide +kernel
theorem dX6_give_12 : decode cX6_give 12 = .ok (.iload_n 2, 1) := by decide +kernel
theorem dX6_give_13 : decode cX6_give 13 = .ok (.i2l, 1) := by decide +kernel
theorem dX6_give_14 : decode cX6_give 14 = .ok (.lconst 0, 1) := by decide +kernel
theorem dX6_give_15 : decode cX6_give 15 = .ok (.ldc2_w 130, 3) := by decide +kernel
theorem dX6_give_18 : decode cX6_give 18 = .ok (.invokestatic 37, 3) := by decide +kernel
theorem dX6_give_21 : decode cX6_give 21 = .ok (.ifCond .ne 7, 3) := by decide +kernel
theorem dX6_give_24 : decode cX6_give 24 = .ok (.iconst 2, 1) := by decide +kernel
theorem dX6_give_25 : decode cX6_give 25 = .ok (.goto 4, 3) := by decide +kernel
theorem dX6_give_28 : decode cX6_give 28 = .ok (.iconst 0, 1) := by decide +kernel
theorem dX6_give_29 : decode cX6_give 29 = .ok (.invokevirtual 94, 3) := by decide +kernel
theorem dX6_give_32 : decode cX6_give 32 = .ok (.ifCond .eq 5, 3) := by decide +kernel
theorem dX6_give_35 : decode cX6_give 35 = .ok (.iconst 0, 1) := by decide +kernel
theorem dX6_give_36 : decode cX6_give 36 = .ok (.ireturn, 1) := by decide +kernel
theorem dX6_give_37 : decode cX6_give 37 = .ok (.aload_n 0, 1) := by decide +kernel
theorem dX6_give_38 : decode cX6_give 38 = .ok (.invokevirtual 98, 3) := by decide +kernel
theorem dX6_give_41 : decode cX6_give 41 = .ok (.aload_n 0, 1) := by decide +kernel
theorem dX6_give_42 : decode cX6_give 42 = .ok (.iconst 0, 1) := by decide +kernel
theorem dX6_give_43 : decode cX6_give 43 = .ok (.iload_n 1, 1) := by decide +kernel
theorem dX6_give_44 : decode cX6_give 44 = .ok (.iadd, 1) := by decide +kernel
theorem dX6_give_45 : decode cX6_give 45 = .ok (.iload_n 2, 1) := by decide +kernel
theorem dX6_give_46 : decode cX6_give 46 = .ok (.invokevirtual 127, 3) := by decide +kernel
theorem dX6_give_49 : decode cX6_give 49 = .ok (.ireturn, 1) := by decide +kernel
theorem dX6_set_0 : decode cX6_set 0 = .ok (.aload_n 0, 1) := by decide +kernel
theorem dX6_set_1 : decode cX6_set 1 = .ok (.iload_n 1, 1) := by decide +kernel
theorem dX6_set_2 : decode cX6_set 2 = .ok (.i2l, 1) := by decide +kernel
theorem dX6_set_3 : decode cX6_set 3 = .ok (.lconst 0, 1) := by decide +kernel
theorem dX6_set_4 : decode cX6_set 4 = .ok (.ldc2_w 41, 3) := by decide +kernel
theorem dX6_set_7 : decode cX6_set 7 = .ok (.invokestatic 37, 3) := by decide +kernel
theorem dX6_set_10 : decode cX6_set 10 = .ok (.ifCond .ne 7, 3) := by decide +kernel
theorem dX6_set_13 : decode cX6_set 13 = .ok (.iconst 1, 1) := by decide +kernel
theorem dX6_set_14 : decode cX6_set 14 = .ok (.goto 16, 3) := by decide +kernel
theorem dX6_set_17 : decode cX6_set 17 = .ok (.iload_n 1, 1) := by decide +kernel
theorem dX6_set_18 : decode cX6_set 18 = .ok (.iload_n 2, 1) := by decide +kernel
theorem dX6_set_19 : decode cX6_set 19 = .ok (.invokestatic 132, 3) := by decide +kernel
theorem dX6_set_22 : decode cX6_set 22 = .ok (.ifCond .ne 7, 3) := by decide +kernel
theorem dX6_set_25 : decode cX6_set 25 = .ok (.iconst 2, 1) := by decide +kernel
theorem dX6_set_26 : decode cX6_set 26 = .ok (.goto 4, 3) := by decide +kernel
theorem dX6_set_29 : decode cX6_set 29 = .ok (.iconst 0, 1) := by decide +kernel
theorem dX6_set_30 : decode cX6_set 30 = .ok (.invokevirtual 94, 3) := by decide +kernel
theorem dX6_set_33 : decode cX6_set 33 = .ok (.ifCond .eq 5, 3) := by decide +kernel
theorem dX6_set_36 : decode cX6_set 36 = .ok (.iconst 0, 1) := by decide +kernel
theorem dX6_set_37 : decode cX6_set 37 = .ok (.ireturn, 1) := by decide +kernel
theorem dX6_set_38 : decode cX6_set 38 = .ok (.aload_n 0, 1) := by decide +kernel
theorem dX6_set_39 : decode cX6_set 39 = .ok (.invokevirtual 98, 3) := by decide +kernel
theorem dX6_set_42 : decode cX6_set 42 = .ok (.aload_n 0, 1) := by decide +kernel
theorem dX6_set_43 : decode cX6_set 43 = .ok (.iconst 3, 1) := by decide +kernel
theorem dX6_set_44 : decode cX6_set 44 = .ok (.iload_n 1, 1) := by decide +kernel
theorem dX6_set_45 : decode cX6_set 45 = .ok (.iadd, 1) := by decide +kernel
theorem dX6_set_46 : decode cX6_set 46 = .ok (.iload_n 2, 1) := by decide +kernel
theorem dX6_set_47 : decode cX6_set 47 = .ok (.invokevirtual 127, 3) := by decide +kernel
theorem dX6_set_50 : decode cX6_set 50 = .ok (.ireturn, 1) := by decide +kernel
theorem dX6_append_0 : decode cX6_append 0 = .ok (.aload_n 0, 1) := by decide +kernel
theorem dX6_append_1 : decode cX6_append 1 = .ok (.iload_n 1, 1) := by decide +kernel
theorem dX6_append_2 : decode cX6_append 2 = .ok (.i2l, 1) := by decide +kernel
theorem dX6_append_3 : decode cX6_append 3 = .ok (.ldc2_w 136, 3) := by decide +kernel
theorem dX6_append_6 : decode cX6_append 6 = .ok (.ldc2_w 138, 3) := by decide +kernel
theorem dX6_append_9 : decode cX6_append 9 = .ok (.invokestatic 37, 3) := by decide +kernel
theorem dX6_append_12 : decode cX6_append 12 = .ok (.ifCond .ne 7, 3) := by decide +kernel
theorem dX6_append_15 : decode cX6_append 15 = .ok (.iconst 1, 1) := by decide +kernel
theorem dX6_append_16 : decode cX6_append 16 = .ok (.goto 17, 3) := by decide +kernel
theorem dX6_append_19 : decode cX6_append 19 = .ok (.aload_n 0, 1) := by decide +kernel
theorem dX6_append_20 : decode cX6_append 20 = .ok (.getfield 140, 3) := by decide +kernel
theorem dX6_append_23 : decode cX6_append 23 = .ok (.bipush 60, 2) := by decide +kernel
theorem dX6_append_25 : decode cX6_append 25 = .ok (.if_icmp .ne 7, 3) := by decide +kernel
theorem dX6_append_28 : decode cX6_append 28 = .ok (.iconst 2, 1) := by decide +kernel
theorem dX6_append_29 : decode cX6_append 29 = .ok (.goto 4, 3) := by decide +kernel
theorem dX6_append_32 : decode cX6_append 32 = .ok (.iconst 0, 1) := by decide +kernel
theorem dX6_append_33 : decode cX6_append 33 = .ok (.invokevirtual 94, 3) := by decide +kernel
theorem dX6_append_36 : decode cX6_append 36 = .ok (.ifCond .eq 5, 3) := by decide +kernel
theorem dX6_append_39 : decode cX6_append 39 = .ok (.iconst 0, 1) := by decide +kernel
theorem dX6_append_40 : decode cX6_append 40 = .ok (.ireturn, 1) := by decide +kernel
theorem dX6_append_41 : decode cX6_append 41 = .ok (.aload_n 0, 1) := by decide +kernel
theorem dX6_append_42 : decode cX6_append 42 = .ok (.getfield 28, 3) := by decide +kernel
theorem dX6_append_45 : decode cX6_append 45 = .ok (.aload_n 0, 1) := by decide +kernel
theorem dX6_append_46 : decode cX6_append 46 = .ok (.getfield 140, 3) := by decide +kernel
theorem dX6_append_49 : decode cX6_append 49 = .ok (.iload_n 1, 1) := by decide +kernel
theorem dX6_append_50 : decode cX6_append 50 = .ok (.iastore, 1) := by decide +kernel
theorem dX6_append_51 : decode cX6_append 51 = .ok (.aload_n 0, 1) := by decide +kernel
theorem dX6_append_52 : decode cX6_append 52 = .ok (.dup, 1) := by decide +kernel
theorem dX6_append_53 : decode cX6_append 53 = .ok (.getfield 140, 3) := by decide +kernel
theorem dX6_append_56 : decode cX6_append 56 = .ok (.iconst 1, 1) := by decide +kernel
theorem dX6_append_57 : decode cX6_append 57 = .ok (.iadd, 1) := by decide +kernel
theorem dX6_append_58 : decode cX6_append 58 = .ok (.putfield 140, 3) := by decide +kernel
theorem dX6_append_61 : decode cX6_append 61 = .ok (.aload_n 0, 1) := by decide +kernel
theorem dX6_append_62 : decode cX6_append 62 = .ok (.getfield 140, 3) := by decide +kernel
theorem dX6_append_65 : decode cX6_append 65 = .ok (.ireturn, 1) := by decide +kernel
theorem dX6_clearBuffer_0 : decode cX6_clearBuffer 0 = .ok (.aload_n 0, 1) := by decide +kernel
theorem dX6_clearBuffer_1 : decode cX6_clearBuffer 1 = .ok (.iconst 0, 1) := by decide +kernel
theorem dX6_clearBuffer_2 : decode cX6_clearBuffer 2 = .ok (.putfield 31, 3) := by decide +kernel
theorem dX6_clearBuffer_5 : decode cX6_clearBuffer 5 = .ok (.aload_n 0, 1) := by decide +kernel
theorem dX6_clearBuffer_6 : decode cX6_clearBuffer 6 = .ok (.getfield 140, 3) := by decide +kernel
theorem dX6_clearBuffer_9 : decode cX6_clearBuffer 9 = .ok (.istore_n 1, 1) := by decide +kernel
theorem dX6_clearBuffer_10 : decode cX6_clearBuffer 10 = .ok (.aload_n 0, 1) := by decide +kernel
theorem dX6_clearBuffer_11 : decode cX6_clearBuffer 11 = .ok (.iconst 0, 1) := by decide +kernel
theorem dX6_clearBuffer_12 : decode cX6_clearBuffer 12 = .ok (.putfield 140, 3) := by decide +kernel
theorem dX6_clearBuffer_15 : decode cX6_clearBuffer 15 = .ok (.iload_n 1, 1) := by decide +kernel
theorem dX6_clearBuffer_16 : decode cX6_clearBuffer 16 = .ok (.ireturn, 1) := by decide +kernel
theorem dX6_here_0 : decode cX6_here 0 = .ok (.aload_n 0, 1) := by decide +kernel
theorem dX6_here_1 : decode cX6_here 1 = .ok (.getfield 143, 3) := by decide +kernel
theorem dX6_here_4 : decode cX6_here 4 = .ok (.aload_n 0, 1) := by decide +kernel
theorem dX6_here_5 : decode cX6_here 5 = .ok (.getfield 140, 3) := by decide +kernel
theorem dX6_here_8 : decode cX6_here 8 = .ok (.if_icmp .ge 15, 3) := by decide +kernel
theorem dX6_here_11 : decode cX6_here 11 = .ok (.aload_n 0, 1) := by decide +kernel
theorem dX6_here_12 : decode cX6_here 12 = .ok (.getfield 28, 3) := by decide +kernel
theorem dX6_here_15 : decode cX6_here 15 = .ok (.aload_n 0, 1) := by decide +kernel
theorem dX6_here_16 : decode cX6_here 16 = .ok (.getfield 143, 3) := by decide +kernel
theorem dX6_here_19 : decode cX6_here 19 = .ok (.iaload, 1) := by decide +kernel
theorem dX6_here_20 : decode cX6_here 20 = .ok (.goto 4, 3) := by decide +kernel
theorem dX6_here_23 : decode cX6_here 23 = .ok (.iconst (-1), 1) := by decide +kernel
theorem dX6_here_24 : decode cX6_here 24 = .ok (.ireturn, 1) := by decide +kernel
theorem dX6_take_0 : decode cX6_take 0 = .ok (.aload_n 0, 1) := by decide +kernel
theorem dX6_take_1 : decode cX6_take 1 = .ok (.aload_n 0, 1) := by decide +kernel
theorem dX6_take_2 : decode cX6_take 2 = .ok (.getfield 146, 3) := by decide +kernel
theorem dX6_take_5 : decode cX6_take 5 = .ok (.ifCond .eq 11, 3) := by decide +kernel
theorem dX6_take_8 : decode cX6_take 8 = .ok (.iload_n 1, 1) := by decide +kernel
theorem dX6_take_9 : decode cX6_take 9 = .ok (.ifCond .eq 7, 3) := by decide +kernel
theorem dX6_take_12 : decode cX6_take 12 = .ok (.iconst 1, 1) := by decide +kernel
theorem dX6_take_13 : decode cX6_take 13 = .ok (.goto 4, 3) := by decide +kernel
theorem dX6_take_16 : decode cX6_take 16 = .ok (.iconst 0, 1) := by decide +kernel
theorem dX6_take_17 : decode cX6_take 17 = .ok (.putfield 146, 3) := by decide +kernel
theorem dX6_take_20 : decode cX6_take 20 = .ok (.aload_n 0, 1) := by decide +kernel
theorem dX6_take_21 : decode cX6_take 21 = .ok (.dup, 1) := by decide +kernel
theorem dX6_take_22 : decode cX6_take 22 = .ok (.getfield 143, 3) := by decide +kernel
theorem dX6_take_25 : decode cX6_take 25 = .ok (.aload_n 0, 1) := by decide +kernel
theorem dX6_take_26 : decode cX6_take 26 = .ok (.getfield 146, 3) := by decide +kernel
theorem dX6_take_29 : decode cX6_take 29 = .ok (.ifCond .eq 7, 3) := by decide +kernel
theorem dX6_take_32 : decode cX6_take 32 = .ok (.iconst 1, 1) := by decide +kernel
theorem dX6_take_33 : decode cX6_take 33 = .ok (.goto 4, 3) := by decide +kernel
theorem dX6_take_36 : decode cX6_take 36 = .ok (.iconst 0, 1) := by decide +kernel
theorem dX6_take_37 : decode cX6_take 37 = .ok (.iadd, 1) := by decide +kernel
theorem dX6_take_38 : decode cX6_take 38 = .ok (.putfield 143, 3) := by decide +kernel
theorem dX6_take_41 : decode cX6_take 41 = .ok (.return_, 1) := by decide +kernel
theorem dX6_digit_0 : decode cX6_digit 0 = .ok (.aload_n 0, 1) := by decide +kernel
theorem dX6_digit_1 : decode cX6_digit 1 = .ok (.invokevirtual 150, 3) := by decide +kernel
theorem dX6_digit_4 : decode cX6_digit 4 = .ok (.bipush 48, 2) := by decide +kernel
theorem dX6_digit_6 : decode cX6_digit 6 = .ok (.isub, 1) := by decide +kernel
theorem dX6_digit_7 : decode cX6_digit 7 = .ok (.istore_n 3, 1) := by decide +kernel
theorem dX6_digit_8 : decode cX6_digit 8 = .ok (.aload_n 0, 1) := by decide +kernel
theorem dX6_digit_9 : decode cX6_digit 9 = .ok (.iload_n 3, 1) := by decide +kernel
theorem dX6_digit_10 : decode cX6_digit 10 = .ok (.i2l, 1) := by decide +kernel
theorem dX6_digit_11 : decode cX6_digit 11 = .ok (.iload_n 1, 1) := by decide +kernel
theorem dX6_digit_12 : decode cX6_digit 12 = .ok (.i2l, 1) := by decide +kernel
theorem dX6_digit_13 : decode cX6_digit 13 = .ok (.iload_n 2, 1) := by decide +kernel
theorem dX6_digit_14 : decode cX6_digit 14 = .ok (.i2l, 1) := by decide +kernel
theorem dX6_digit_15 : decode cX6_digit 15 = .ok (.invokestatic 37, 3) := by decide +kernel
theorem dX6_digit_18 : decode cX6_digit 18 = .ok (.invokevirtual 154, 3) := by decide +kernel
theorem dX6_digit_21 : decode cX6_digit 21 = .ok (.aload_n 0, 1) := by decide +kernel
theorem dX6_digit_22 : decode cX6_digit 22 = .ok (.getfield 146, 3) := by decide +kernel
theorem dX6_digit_25 : decode cX6_digit 25 = .ok (.ifCond .eq 7, 3) := by decide +kernel
theorem dX6_digit_28 : decode cX6_digit 28 = .ok (.iload_n 3, 1) := by decide +kernel
theorem dX6_digit_29 : decode cX6_digit 29 = .ok (.goto 4, 3) := by decide +kernel
theorem dX6_digit_32 : decode cX6_digit 32 = .ok (.iload_n 1, 1) := by decide +kernel
theorem dX6_digit_33 : decode cX6_digit 33 = .ok (.ireturn, 1) := by decide +kernel
theorem dX6_number_0 : decode cX6_number 0 = .ok (.aload_n 0, 1) := by decide +kernel
theorem dX6_number_1 : decode cX6_number 1 = .ok (.iconst 1, 1) := by decide +kernel
theorem dX6_number_2 : decode cX6_number 2 = .ok (.bipush 9, 2) := by decide +kernel
theorem dX6_number_4 : decode cX6_number 4 = .ok (.invokevirtual 158, 3) := by decide +kernel
theorem dX6_number_7 : decode cX6_number 7 = .ok (.istore_n 2, 1) := by decide +kernel
theorem dX6_number_8 : decode cX6_number 8 = .ok (.aload_n 0, 1) := by decide +kernel
theorem dX6_number_9 : decode cX6_number 9 = .ok (.getfield 146, 3) := by decide +kernel
theorem dX6_number_12 : decode cX6_number 12 = .ok (.ifCond .eq 62, 3) := by decide +kernel
theorem dX6_number_15 : decode cX6_number 15 = .ok (.aload_n 0, 1) := by decide +kernel
theorem dX6_number_16 : decode cX6_number 16 = .ok (.invokevirtual 150, 3) := by decide +kernel
theorem dX6_number_19 : decode cX6_number 19 = .ok (.i2l, 1) := by decide +kernel
theorem dX6_number_20 : decode cX6_number 20 = .ok (.ldc2_w 161, 3) := by decide +kernel
theorem dX6_number_23 : decode cX6_number 23 = .ok (.ldc2_w 163, 3) := by decide +kernel
theorem dX6_number_26 : decode cX6_number 26 = .ok (.invokestatic 37, 3) := by decide +kernel
theorem dX6_number_29 : decode cX6_number 29 = .ok (.ifCond .eq 45, 3) := by decide +kernel
theorem dX6_number_32 : decode cX6_number 32 = .ok (.bipush 10, 2) := by decide +kernel
theorem dX6_number_34 : decode cX6_number 34 = .ok (.iload_n 2, 1) := by decide +kernel
theorem dX6_number_35 : decode cX6_number 35 = .ok (.imul, 1) := by decide +kernel
theorem dX6_number_36 : decode cX6_number 36 = .ok (.aload_n 0, 1) := by decide +kernel
theorem dX6_number_37 : decode cX6_number 37 = .ok (.invokevirtual 150, 3) := by decide +kernel
theorem dX6_number_40 : decode cX6_number 40 = .ok (.iadd, 1) := by decide +kernel
theorem dX6_number_41 : decode cX6_number 41 = .ok (.bipush 48, 2) := by decide +kernel
theorem dX6_number_43 : decode cX6_number 43 = .ok (.isub, 1) := by decide +kernel
theorem dX6_number_44 : decode cX6_number 44 = .ok (.iload_n 1, 1) := by decide +kernel
theorem dX6_number_45 : decode cX6_number 45 = .ok (.if_icmp .gt 29, 3) := by decide +kernel
theorem dX6_number_48 : decode cX6_number 48 = .ok (.bipush 10, 2) := by decide +kernel
theorem dX6_number_50 : decode cX6_number 50 = .ok (.iload_n 2, 1) := by decide +kernel
theorem dX6_number_51 : decode cX6_number 51 = .ok (.imul, 1) := by decide +kernel
theorem dX6_number_52 : decode cX6_number 52 = .ok (.aload_n 0, 1) := by decide +kernel
theorem dX6_number_53 : decode cX6_number 53 = .ok (.invokevirtual 150, 3) := by decide +kernel
theorem dX6_number_56 : decode cX6_number 56 = .ok (.iadd, 1) := by decide +kernel
theorem dX6_number_57 : decode cX6_number 57 = .ok (.bipush 48, 2) := by decide +kernel
theorem dX6_number_59 : decode cX6_number 59 = .ok (.isub, 1) := by decide +kernel
theorem dX6_number_60 : decode cX6_number 60 = .ok (.istore_n 2, 1) := by decide +kernel
theorem dX6_number_61 : decode cX6_number 61 = .ok (.aload_n 0, 1) := by decide +kernel
theorem dX6_number_62 : decode cX6_number 62 = .ok (.dup, 1) := by decide +kernel
theorem dX6_number_63 : decode cX6_number 63 = .ok (.getfield 143, 3) := by decide +kernel
theorem dX6_number_66 : decode cX6_number 66 = .ok (.iconst 1, 1) := by decide +kernel
theorem dX6_number_67 : decode cX6_number 67 = .ok (.iadd, 1) := by decide +kernel
theorem dX6_number_68 : decode cX6_number 68 = .ok (.putfield 143, 3) := by decide +kernel
theorem dX6_number_71 : decode cX6_number 71 = .ok (.goto (-63), 3) := by decide +kernel
theorem dX6_number_74 : decode cX6_number 74 = .ok (.iload_n 2, 1) := by decide +kernel
theorem dX6_number_75 : decode cX6_number 75 = .ok (.ireturn, 1) := by decide +kernel
theorem dX6_order_0 : decode cX6_order 0 = .ok (.iload_n 1, 1) := by decide +kernel
theorem dX6_order_1 : decode cX6_order 1 = .ok (.bipush 116, 2) := by decide +kernel
theorem dX6_order_3 : decode cX6_order 3 = .ok (.if_icmp .ne 7, 3) := by decide +kernel
theorem dX6_order_6 : decode cX6_order 6 = .ok (.iconst 0, 1) := by decide +kernel
theorem dX6_order_7 : decode cX6_order 7 = .ok (.goto 10, 3) := by decide +kernel
theorem dX6_order_10 : decode cX6_order 10 = .ok (.aload_n 0, 1) := by decide +kernel
theorem dX6_order_11 : decode cX6_order 11 = .ok (.iconst 0, 1) := by decide +kernel
theorem dX6_order_12 : decode cX6_order 12 = .ok (.bipush 7, 2) := by decide +kernel
theorem dX6_order_14 : decode cX6_order 14 = .ok (.invokevirtual 158, 3) := by decide +kernel
theorem dX6_order_17 : decode cX6_order 17 = .ok (.istore_n 2, 1) := by decide +kernel
theorem dX6_order_18 : decode cX6_order 18 = .ok (.aload_n 0, 1) := by decide +kernel
theorem dX6_order_19 : decode cX6_order 19 = .ok (.invokevirtual 150, 3) := by decide +kernel
theorem dX6_order_22 : decode cX6_order 22 = .ok (.istore_n 3, 1) := by decide +kernel
theorem dX6_order_23 : decode cX6_order 23 = .ok (.iconst 0, 1) := by decide +kernel
theorem dX6_order_24 : decode cX6_order 24 = .ok (.istore 4, 2) := by decide +kernel
theorem dX6_order_26 : decode cX6_order 26 = .ok (.iload_n 1, 1) := by decide +kernel
theorem dX6_order_27 : decode cX6_order 27 = .ok (.lookupswitch 194 #[(98, 103), (107, 33), (119, 168)], 33) := by decide +kernel
theorem dX6_order_60 : decode cX6_order 60 = .ok (.aload_n 0, 1) := by decide +kernel
theorem dX6_order_61 : decode cX6_order 61 = .ok (.iload_n 3, 1) := by decide +kernel
theorem dX6_order_62 : decode cX6_order 62 = .ok (.bipush 43, 2) := by decide +kernel
theorem dX6_order_64 : decode cX6_order 64 = .ok (.if_icmp .eq 9, 3) := by decide +kernel
theorem dX6_order_67 : decode cX6_order 67 = .ok (.iload_n 3, 1) := by decide +kernel
theorem dX6_order_68 : decode cX6_order 68 = .ok (.bipush 45, 2) := by decide +kernel
theorem dX6_order_70 : decode cX6_order 70 = .ok (.if_icmp .ne 7, 3) := by decide +kernel
theorem dX6_order_73 : decode cX6_order 73 = .ok (.iconst 1, 1) := by decide +kernel
theorem dX6_order_74 : decode cX6_order 74 = .ok (.goto 4, 3) := by decide +kernel
theorem dX6_order_77 : decode cX6_order 77 = .ok (.iconst 0, 1) := by decide +kernel
theorem dX6_order_78 : decode cX6_order 78 = .ok (.invokevirtual 154, 3) := by decide +kernel
theorem dX6_order_81 : decode cX6_order 81 = .ok (.aload_n 0, 1) := by decide +kernel
theorem dX6_order_82 : decode cX6_order 82 = .ok (.sipush 500, 3) := by decide +kernel
theorem dX6_order_85 : decode cX6_order 85 = .ok (.invokevirtual 165, 3) := by decide +kernel
theorem dX6_order_88 : decode cX6_order 88 = .ok (.istore 4, 2) := by decide +kernel
theorem dX6_order_90 : decode cX6_order 90 = .ok (.aload_n 0, 1) := by decide +kernel
theorem dX6_order_91 : decode cX6_order 91 = .ok (.getfield 146, 3) := by decide +kernel
theorem dX6_order_94 : decode cX6_order 94 = .ok (.ifCond .eq 31, 3) := by decide +kernel
theorem dX6_order_97 : decode cX6_order 97 = .ok (.aload_n 0, 1) := by decide +kernel
theorem dX6_order_98 : decode cX6_order 98 = .ok (.getfield 168, 3) := by decide +kernel
theorem dX6_order_101 : decode cX6_order 101 = .ok (.ifCond .eq 24, 3) := by decide +kernel
theorem dX6_order_104 : decode cX6_order 104 = .ok (.aload_n 0, 1) := by decide +kernel
theorem dX6_order_105 : decode cX6_order 105 = .ok (.iload_n 2, 1) := by decide +kernel
theorem dX6_order_106 : decode cX6_order 106 = .ok (.iload_n 3, 1) := by decide +kernel
theorem dX6_order_107 : decode cX6_order 107 = .ok (.bipush 43, 2) := by decide +kernel
theorem dX6_order_109 : decode cX6_order 109 = .ok (.if_icmp .ne 8, 3) := by decide +kernel
theorem dX6_order_112 : decode cX6_order 112 = .ok (.iload 4, 2) := by decide +kernel
theorem dX6_order_114 : decode cX6_order 114 = .ok (.goto 6, 3) := by decide +kernel
theorem dX6_order_117 : decode cX6_order 117 = .ok (.iload 4, 2) := by decide +kernel
theorem dX6_order_119 : decode cX6_order 119 = .ok (.ineg, 1) := by decide +kernel
theorem dX6_order_120 : decode cX6_order 120 = .ok (.invokevirtual 111, 3) := by decide +kernel
theorem dX6_order_123 : decode cX6_order 123 = .ok (.istore 4, 2) := by decide +kernel
theorem dX6_order_125 : decode cX6_order 125 = .ok (.aload_n 0, 1) := by decide +kernel
theorem dX6_order_126 : decode cX6_order 126 = .ok (.getfield 146, 3) := by decide +kernel
theorem dX6_order_129 : decode cX6_order 129 = .ok (.ireturn, 1) := by decide +kernel
theorem dX6_order_130 : decode cX6_order 130 = .ok (.aload_n 0, 1) := by decide +kernel
theorem dX6_order_131 : decode cX6_order 131 = .ok (.iconst 0, 1) := by decide +kernel
theorem dX6_order_132 : decode cX6_order 132 = .ok (.iconst 2, 1) := by decide +kernel
theorem dX6_order_133 : decode cX6_order 133 = .ok (.invokevirtual 158, 3) := by decide +kernel
theorem dX6_order_136 : decode cX6_order 136 = .ok (.istore 4, 2) := by decide +kernel
theorem dX6_order_138 : decode cX6_order 138 = .ok (.aload_n 0, 1) := by decide +kernel
theorem dX6_order_139 : decode cX6_order 139 = .ok (.getfield 146, 3) := by decide +kernel
theorem dX6_order_142 : decode cX6_order 142 = .ok (.ifCond .eq 25, 3) := by decide +kernel
theorem dX6_order_145 : decode cX6_order 145 = .ok (.aload_n 0, 1) := by decide +kernel
theorem dX6_order_146 : decode cX6_order 146 = .ok (.getfield 168, 3) := by decide +kernel
theorem dX6_order_149 : decode cX6_order 149 = .ok (.ifCond .eq 18, 3) := by decide +kernel
theorem dX6_order_152 : decode cX6_order 152 = .ok (.aload_n 0, 1) := by decide +kernel
theorem dX6_order_153 : decode cX6_order 153 = .ok (.getfield 7, 3) := by decide +kernel
theorem dX6_order_156 : decode cX6_order 156 = .ok (.iload_n 2, 1) := by decide +kernel
theorem dX6_order_157 : decode cX6_order 157 = .ok (.invokestatic 55, 3) := by decide +kernel
theorem dX6_order_160 : decode cX6_order 160 = .ok (.iload 4, 2) := by decide +kernel
theorem dX6_order_162 : decode cX6_order 162 = .ok (.if_icmp .ne 5, 3) := by decide +kernel
theorem dX6_order_165 : decode cX6_order 165 = .ok (.iconst 0, 1) := by decide +kernel
theorem dX6_order_166 : decode cX6_order 166 = .ok (.ireturn, 1) := by decide +kernel
theorem dX6_order_167 : decode cX6_order 167 = .ok (.aload_n 0, 1) := by decide +kernel
theorem dX6_order_168 : decode cX6_order 168 = .ok (.getfield 146, 3) := by decide +kernel
theorem dX6_order_171 : decode cX6_order 171 = .ok (.ifCond .eq 19, 3) := by decide +kernel
theorem dX6_order_174 : decode cX6_order 174 = .ok (.aload_n 0, 1) := by decide +kernel
theorem dX6_order_175 : decode cX6_order 175 = .ok (.getfield 168, 3) := by decide +kernel
theorem dX6_order_178 : decode cX6_order 178 = .ok (.ifCond .eq 12, 3) := by decide +kernel
theorem dX6_order_181 : decode cX6_order 181 = .ok (.aload_n 0, 1) := by decide +kernel
theorem dX6_order_182 : decode cX6_order 182 = .ok (.iload_n 2, 1) := by decide +kernel
theorem dX6_order_183 : decode cX6_order 183 = .ok (.iload 4, 2) := by decide +kernel
theorem dX6_order_185 : decode cX6_order 185 = .ok (.invokevirtual 117, 3) := by decide +kernel
theorem dX6_order_188 : decode cX6_order 188 = .ok (.istore 4, 2) := by decide +kernel
theorem dX6_order_190 : decode cX6_order 190 = .ok (.aload_n 0, 1) := by decide +kernel
theorem dX6_order_191 : decode cX6_order 191 = .ok (.getfield 146, 3) := by decide +kernel
theorem dX6_order_194 : decode cX6_order 194 = .ok (.ireturn, 1) := by decide +kernel
theorem dX6_order_195 : decode cX6_order 195 = .ok (.aload_n 0, 1) := by decide +kernel
theorem dX6_order_196 : decode cX6_order 196 = .ok (.getfield 146, 3) := by decide +kernel
theorem dX6_order_199 : decode cX6_order 199 = .ok (.ifCond .eq 17, 3) := by decide +kernel
theorem dX6_order_202 : decode cX6_order 202 = .ok (.aload_n 0, 1) := by decide +kernel
theorem dX6_order_203 : decode cX6_order 203 = .ok (.getfield 168, 3) := by decide +kernel
theorem dX6_order_206 : decode cX6_order 206 = .ok (.ifCond .eq 10, 3) := by decide +kernel
theorem dX6_order_209 : decode cX6_order 209 = .ok (.aload_n 0, 1) := by decide +kernel
theorem dX6_order_210 : decode cX6_order 210 = .ok (.iload_n 2, 1) := by decide +kernel
theorem dX6_order_211 : decode cX6_order 211 = .ok (.invokevirtual 120, 3) := by decide +kernel
theorem dX6_order_214 : decode cX6_order 214 = .ok (.istore 4, 2) := by decide +kernel
theorem dX6_order_216 : decode cX6_order 216 = .ok (.aload_n 0, 1) := by decide +kernel
theorem dX6_order_217 : decode cX6_order 217 = .ok (.getfield 146, 3) := by decide +kernel
theorem dX6_order_220 : decode cX6_order 220 = .ok (.ireturn, 1) := by decide +kernel
theorem dX6_order_221 : decode cX6_order 221 = .ok (.aload_n 0, 1) := by decide +kernel
theorem dX6_order_222 : decode cX6_order 222 = .ok (.bipush 99, 2) := by decide +kernel
theorem dX6_order_224 : decode cX6_order 224 = .ok (.invokevirtual 165, 3) := by decide +kernel
theorem dX6_order_227 : decode cX6_order 227 = .ok (.istore 4, 2) := by decide +kernel
theorem dX6_order_229 : decode cX6_order 229 = .ok (.aload_n 0, 1) := by decide +kernel
theorem dX6_order_230 : decode cX6_order 230 = .ok (.getfield 146, 3) := by decide +kernel
theorem dX6_order_233 : decode cX6_order 233 = .ok (.ifCond .eq 22, 3) := by decide +kernel
theorem dX6_order_236 : decode cX6_order 236 = .ok (.aload_n 0, 1) := by decide +kernel
theorem dX6_order_237 : decode cX6_order 237 = .ok (.getfield 168, 3) := by decide +kernel
theorem dX6_order_240 : decode cX6_order 240 = .ok (.ifCond .eq 15, 3) := by decide +kernel
theorem dX6_order_243 : decode cX6_order 243 = .ok (.aload_n 0, 1) := by decide +kernel
theorem dX6_order_244 : decode cX6_order 244 = .ok (.aload_n 0, 1) := by decide +kernel
theorem dX6_order_245 : decode cX6_order 245 = .ok (.getfield 7, 3) := by decide +kernel
theorem dX6_order_248 : decode cX6_order 248 = .ok (.iload 4, 2) := by decide +kernel
theorem dX6_order_250 : decode cX6_order 250 = .ok (.invokevirtual 101, 3) := by decide +kernel
theorem dX6_order_253 : decode cX6_order 253 = .ok (.istore 4, 2) := by decide +kernel
theorem dX6_order_255 : decode cX6_order 255 = .ok (.aload_n 0, 1) := by decide +kernel
theorem dX6_order_256 : decode cX6_order 256 = .ok (.getfield 146, 3) := by decide +kernel
theorem dX6_order_259 : decode cX6_order 259 = .ok (.ireturn, 1) := by decide +kernel
theorem dX6_read_0 : decode cX6_read 0 = .ok (.iconst 1, 1) := by decide +kernel
theorem dX6_read_1 : decode cX6_read 1 = .ok (.istore_n 2, 1) := by decide +kernel
theorem dX6_read_2 : decode cX6_read 2 = .ok (.iconst 1, 1) := by decide +kernel
theorem dX6_read_3 : decode cX6_read 3 = .ok (.istore_n 3, 1) := by decide +kernel
theorem dX6_read_4 : decode cX6_read 4 = .ok (.aload_n 0, 1) := by decide +kernel
theorem dX6_read_5 : decode cX6_read 5 = .ok (.iconst 0, 1) := by decide +kernel
theorem dX6_read_6 : decode cX6_read 6 = .ok (.putfield 143, 3) := by decide +kernel
theorem dX6_read_9 : decode cX6_read 9 = .ok (.aload_n 0, 1) := by decide +kernel
theorem dX6_read_10 : decode cX6_read 10 = .ok (.iconst 1, 1) := by decide +kernel
theorem dX6_read_11 : decode cX6_read 11 = .ok (.putfield 146, 3) := by decide +kernel
theorem dX6_read_14 : decode cX6_read 14 = .ok (.aload_n 0, 1) := by decide +kernel
theorem dX6_read_15 : decode cX6_read 15 = .ok (.iload_n 1, 1) := by decide +kernel
theorem dX6_read_16 : decode cX6_read 16 = .ok (.putfield 168, 3) := by decide +kernel
theorem dX6_read_19 : decode cX6_read 19 = .ok (.aload_n 0, 1) := by decide +kernel
theorem dX6_read_20 : decode cX6_read 20 = .ok (.iconst 0, 1) := by decide +kernel
theorem dX6_read_21 : decode cX6_read 21 = .ok (.putfield 171, 3) := by decide +kernel
theorem dX6_read_24 : decode cX6_read 24 = .ok (.aload_n 0, 1) := by decide +kernel
theorem dX6_read_25 : decode cX6_read 25 = .ok (.getfield 146, 3) := by decide +kernel
theorem dX6_read_28 : decode cX6_read 28 = .ok (.ifCond .eq 147, 3) := by decide +kernel
theorem dX6_read_31 : decode cX6_read 31 = .ok (.iload_n 2, 1) := by decide +kernel
theorem dX6_read_32 : decode cX6_read 32 = .ok (.ifCond .eq 143, 3) := by decide +kernel
theorem dX6_read_35 : decode cX6_read 35 = .ok (.iload_n 3, 1) := by decide +kernel
theorem dX6_read_36 : decode cX6_read 36 = .ok (.ifCond .eq 139, 3) := by decide +kernel
theorem dX6_read_39 : decode cX6_read 39 = .ok (.aload_n 0, 1) := by decide +kernel
theorem dX6_read_40 : decode cX6_read 40 = .ok (.invokevirtual 150, 3) := by decide +kernel
theorem dX6_read_43 : decode cX6_read 43 = .ok (.istore 4, 2) := by decide +kernel
theorem dX6_read_45 : decode cX6_read 45 = .ok (.aload_n 0, 1) := by decide +kernel
theorem dX6_read_46 : decode cX6_read 46 = .ok (.iload 4, 2) := by decide +kernel
theorem dX6_read_48 : decode cX6_read 48 = .ok (.bipush 107, 2) := by decide +kernel
theorem dX6_read_50 : decode cX6_read 50 = .ok (.if_icmp .eq 24, 3) := by decide +kernel
theorem dX6_read_53 : decode cX6_read 53 = .ok (.iload 4, 2) := by decide +kernel
theorem dX6_read_55 : decode cX6_read 55 = .ok (.bipush 98, 2) := by decide +kernel
theorem dX6_read_57 : decode cX6_read 57 = .ok (.if_icmp .eq 17, 3) := by decide +kernel
theorem dX6_read_60 : decode cX6_read 60 = .ok (.iload 4, 2) := by decide +kernel
theorem dX6_read_62 : decode cX6_read 62 = .ok (.bipush 119, 2) := by decide +kernel
theorem dX6_read_64 : decode cX6_read 64 = .ok (.if_icmp .eq 10, 3) := by decide +kernel
theorem dX6_read_67 : decode cX6_read 67 = .ok (.iload 4, 2) := by decide +kernel
theorem dX6_read_69 : decode cX6_read 69 = .ok (.bipush 116, 2) := by decide +kernel
theorem dX6_read_71 : decode cX6_read 71 = .ok (.if_icmp .ne 7, 3) := by decide +kernel
theorem dX6_read_74 : decode cX6_read 74 = .ok (.iconst 1, 1) := by decide +kernel
theorem dX6_read_75 : decode cX6_read 75 = .ok (.goto 4, 3) := by decide +kernel
theorem dX6_read_78 : decode cX6_read 78 = .ok (.iconst 0, 1) := by decide +kernel
theorem dX6_read_79 : decode cX6_read 79 = .ok (.invokevirtual 154, 3) := by decide +kernel
theorem dX6_read_82 : decode cX6_read 82 = .ok (.aload_n 0, 1) := by decide +kernel
theorem dX6_read_83 : decode cX6_read 83 = .ok (.getfield 146, 3) := by decide +kernel
theorem dX6_read_86 : decode cX6_read 86 = .ok (.ifCond .eq 16, 3) := by decide +kernel
theorem dX6_read_89 : decode cX6_read 89 = .ok (.aload_n 0, 1) := by decide +kernel
theorem dX6_read_90 : decode cX6_read 90 = .ok (.iload 4, 2) := by decide +kernel
theorem dX6_read_92 : decode cX6_read 92 = .ok (.invokevirtual 174, 3) := by decide +kernel
theorem dX6_read_95 : decode cX6_read 95 = .ok (.ifCond .eq 7, 3) := by decide +kernel
theorem dX6_read_98 : decode cX6_read 98 = .ok (.iconst 1, 1) := by decide +kernel
theorem dX6_read_99 : decode cX6_read 99 = .ok (.goto 4, 3) := by decide +kernel
theorem dX6_read_102 : decode cX6_read 102 = .ok (.iconst 0, 1) := by decide +kernel
theorem dX6_read_103 : decode cX6_read 103 = .ok (.istore_n 3, 1) := by decide +kernel
theorem dX6_read_104 : decode cX6_read 104 = .ok (.aload_n 0, 1) := by decide +kernel
theorem dX6_read_105 : decode cX6_read 105 = .ok (.dup, 1) := by decide +kernel
theorem dX6_read_106 : decode cX6_read 106 = .ok (.getfield 171, 3) := by decide +kernel
theorem dX6_read_109 : decode cX6_read 109 = .ok (.iload_n 3, 1) := by decide +kernel
theorem dX6_read_110 : decode cX6_read 110 = .ok (.ifCond .eq 7, 3) := by decide +kernel
theorem dX6_read_113 : decode cX6_read 113 = .ok (.iconst 1, 1) := by decide +kernel
theorem dX6_read_114 : decode cX6_read 114 = .ok (.goto 4, 3) := by decide +kernel
theorem dX6_read_117 : decode cX6_read 117 = .ok (.iconst 0, 1) := by decide +kernel
theorem dX6_read_118 : decode cX6_read 118 = .ok (.iadd, 1) := by decide +kernel
theorem dX6_read_119 : decode cX6_read 119 = .ok (.putfield 171, 3) := by decide +kernel
theorem dX6_read_122 : decode cX6_read 122 = .ok (.aload_n 0, 1) := by decide +kernel
theorem dX6_read_123 : decode cX6_read 123 = .ok (.getfield 143, 3) := by decide +kernel
theorem dX6_read_126 : decode cX6_read 126 = .ok (.aload_n 0, 1) := by decide +kernel
theorem dX6_read_127 : decode cX6_read 127 = .ok (.getfield 140, 3) := by decide +kernel
theorem dX6_read_130 : decode cX6_read 130 = .ok (.if_icmp .ge 7, 3) := by decide +kernel
theorem dX6_read_133 : decode cX6_read 133 = .ok (.iconst 1, 1) := by decide +kernel
theorem dX6_read_134 : decode cX6_read 134 = .ok (.goto 4, 3) := by decide +kernel
theorem dX6_read_137 : decode cX6_read 137 = .ok (.iconst 0, 1) := by decide +kernel
theorem dX6_read_138 : decode cX6_read 138 = .ok (.istore_n 2, 1) := by decide +kernel
theorem dX6_read_139 : decode cX6_read 139 = .ok (.aload_n 0, 1) := by decide +kernel
theorem dX6_read_140 : decode cX6_read 140 = .ok (.getfield 146, 3) := by decide +kernel
theorem dX6_read_143 : decode cX6_read 143 = .ok (.ifCond .eq 29, 3) := by decide +kernel
theorem dX6_read_146 : decode cX6_read 146 = .ok (.iload_n 2, 1) := by decide +kernel
theorem dX6_read_147 : decode cX6_read 147 = .ok (.ifCond .eq 25, 3) := by decide +kernel
theorem dX6_read_150 : decode cX6_read 150 = .ok (.iload_n 3, 1) := by decide +kernel
theorem dX6_read_151 : decode cX6_read 151 = .ok (.ifCond .eq 21, 3) := by decide +kernel
theorem dX6_read_154 : decode cX6_read 154 = .ok (.aload_n 0, 1) := by decide +kernel
theorem dX6_read_155 : decode cX6_read 155 = .ok (.aload_n 0, 1) := by decide +kernel
theorem dX6_read_156 : decode cX6_read 156 = .ok (.invokevirtual 150, 3) := by decide +kernel
theorem dX6_read_159 : decode cX6_read 159 = .ok (.bipush 59, 2) := by decide +kernel
theorem dX6_read_161 : decode cX6_read 161 = .ok (.if_icmp .ne 7, 3) := by decide +kernel
theorem dX6_read_164 : decode cX6_read 164 = .ok (.iconst 1, 1) := by decide +kernel
theorem dX6_read_165 : decode cX6_read 165 = .ok (.goto 4, 3) := by decide +kernel
theorem dX6_read_168 : decode cX6_read 168 = .ok (.iconst 0, 1) := by decide +kernel
theorem dX6_read_169 : decode cX6_read 169 = .ok (.invokevirtual 154, 3) := by decide +kernel
theorem dX6_read_172 : decode cX6_read 172 = .ok (.goto (-148), 3) := by decide +kernel
theorem dX6_read_175 : decode cX6_read 175 = .ok (.aload_n 0, 1) := by decide +kernel
theorem dX6_read_176 : decode cX6_read 176 = .ok (.getfield 146, 3) := by decide +kernel
theorem dX6_read_179 : decode cX6_read 179 = .ok (.ireturn, 1) := by decide +kernel
theorem dX6_firstError_0 : decode cX6_firstError 0 = .ok (.aload_n 0, 1) := by decide +kernel
theorem dX6_firstError_1 : decode cX6_firstError 1 = .ok (.iconst 0, 1) := by decide +kernel
theorem dX6_firstError_2 : decode cX6_firstError 2 = .ok (.putfield 31, 3) := by decide +kernel
theorem dX6_firstError_5 : decode cX6_firstError 5 = .ok (.aload_n 0, 1) := by decide +kernel
theorem dX6_firstError_6 : decode cX6_firstError 6 = .ok (.iconst 0, 1) := by decide +kernel
theorem dX6_firstError_7 : decode cX6_firstError 7 = .ok (.invokevirtual 177, 3) := by decide +kernel
theorem dX6_firstError_10 : decode cX6_firstError 10 = .ok (.ifCond .eq 10, 3) := by decide +kernel
theorem dX6_firstError_13 : decode cX6_firstError 13 = .ok (.aload_n 0, 1) := by decide +kernel
theorem dX6_firstError_14 : decode cX6_firstError 14 = .ok (.getfield 140, 3) := by decide +kernel
theorem dX6_firstError_17 : decode cX6_firstError 17 = .ok (.goto 7, 3) := by decide +kernel
theorem dX6_firstError_20 : decode cX6_firstError 20 = .ok (.aload_n 0, 1) := by decide +kernel
theorem dX6_firstError_21 : decode cX6_firstError 21 = .ok (.getfield 143, 3) := by decide +kernel
theorem dX6_firstError_24 : decode cX6_firstError 24 = .ok (.ireturn, 1) := by decide +kernel
theorem dX6_obey_0 : decode cX6_obey 0 = .ok (.aload_n 0, 1) := by decide +kernel
theorem dX6_obey_1 : decode cX6_obey 1 = .ok (.aload_n 0, 1) := by decide +kernel
theorem dX6_obey_2 : decode cX6_obey 2 = .ok (.iconst 0, 1) := by decide +kernel
theorem dX6_obey_3 : decode cX6_obey 3 = .ok (.invokevirtual 177, 3) := by decide +kernel
theorem dX6_obey_6 : decode cX6_obey 6 = .ok (.ifCond .eq 7, 3) := by decide +kernel
theorem dX6_obey_9 : decode cX6_obey 9 = .ok (.iconst 0, 1) := by decide +kernel
theorem dX6_obey_10 : decode cX6_obey 10 = .ok (.goto 4, 3) := by decide +kernel
theorem dX6_obey_13 : decode cX6_obey 13 = .ok (.iconst 1, 1) := by decide +kernel
theorem dX6_obey_14 : decode cX6_obey 14 = .ok (.invokevirtual 94, 3) := by decide +kernel
theorem dX6_obey_17 : decode cX6_obey 17 = .ok (.ifCond .eq 5, 3) := by decide +kernel
theorem dX6_obey_20 : decode cX6_obey 20 = .ok (.iconst 0, 1) := by decide +kernel
theorem dX6_obey_21 : decode cX6_obey 21 = .ok (.ireturn, 1) := by decide +kernel
theorem dX6_obey_22 : decode cX6_obey 22 = .ok (.aload_n 0, 1) := by decide +kernel
theorem dX6_obey_23 : decode cX6_obey 23 = .ok (.invokevirtual 98, 3) := by decide +kernel
theorem dX6_obey_26 : decode cX6_obey 26 = .ok (.aload_n 0, 1) := by decide +kernel
theorem dX6_obey_27 : decode cX6_obey 27 = .ok (.iconst 1, 1) := by decide +kernel
theorem dX6_obey_28 : decode cX6_obey 28 = .ok (.invokevirtual 177, 3) := by decide +kernel
theorem dX6_obey_31 : decode cX6_obey 31 = .ok (.istore_n 1, 1) := by decide +kernel
theorem dX6_obey_32 : decode cX6_obey 32 = .ok (.aload_n 0, 1) := by decide +kernel
theorem dX6_obey_33 : decode cX6_obey 33 = .ok (.iconst 0, 1) := by decide +kernel
theorem dX6_obey_34 : decode cX6_obey 34 = .ok (.putfield 140, 3) := by decide +kernel
theorem dX6_obey_37 : decode cX6_obey 37 = .ok (.aload_n 0, 1) := by decide +kernel
theorem dX6_obey_38 : decode cX6_obey 38 = .ok (.getfield 171, 3) := by decide +kernel
theorem dX6_obey_41 : decode cX6_obey 41 = .ok (.ireturn, 1) := by decide +kernel
theorem dX6_keep_0 : decode cX6_keep 0 = .ok (.aload_n 0, 1) := by decide +kernel
theorem dX6_keep_1 : decode cX6_keep 1 = .ok (.iconst 0, 1) := by decide +kernel
theorem dX6_keep_2 : decode cX6_keep 2 = .ok (.putfield 31, 3) := by decide +kernel
theorem dX6_keep_5 : decode cX6_keep 5 = .ok (.aload_n 0, 1) := by decide +kernel
theorem dX6_keep_6 : decode cX6_keep 6 = .ok (.getfield 7, 3) := by decide +kernel
theorem dX6_keep_9 : decode cX6_keep 9 = .ok (.aload_n 0, 1) := by decide +kernel
theorem dX6_keep_10 : decode cX6_keep 10 = .ok (.getfield 16, 3) := by decide +kernel
theorem dX6_keep_13 : decode cX6_keep 13 = .ok (.invokestatic 181, 3) := by decide +kernel
theorem dX6_keep_16 : decode cX6_keep 16 = .ok (.aload_n 0, 1) := by decide +kernel
theorem dX6_keep_17 : decode cX6_keep 17 = .ok (.iconst 1, 1) := by decide +kernel
theorem dX6_keep_18 : decode cX6_keep 18 = .ok (.putfield 185, 3) := by decide +kernel
theorem dX6_keep_21 : decode cX6_keep 21 = .ok (.aload_n 0, 1) := by decide +kernel
theorem dX6_keep_22 : decode cX6_keep 22 = .ok (.getfield 7, 3) := by decide +kernel
theorem dX6_keep_25 : decode cX6_keep 25 = .ok (.bipush 126, 2) := by decide +kernel
theorem dX6_keep_27 : decode cX6_keep 27 = .ok (.iaload, 1) := by decide +kernel
theorem dX6_keep_28 : decode cX6_keep 28 = .ok (.ireturn, 1) := by decide +kernel
theorem dX6_goBack_0 : decode cX6_goBack 0 = .ok (.aload_n 0, 1) := by decide +kernel
theorem dX6_goBack_1 : decode cX6_goBack 1 = .ok (.aload_n 0, 1) := by decide +kernel
theorem dX6_goBack_2 : decode cX6_goBack 2 = .ok (.getfield 185, 3) := by decide +kernel
theorem dX6_goBack_5 : decode cX6_goBack 5 = .ok (.ifCond .eq 7, 3) := by decide +kernel
theorem dX6_goBack_8 : decode cX6_goBack 8 = .ok (.iconst 0, 1) := by decide +kernel
theorem dX6_goBack_9 : decode cX6_goBack 9 = .ok (.goto 4, 3) := by decide +kernel
theorem dX6_goBack_12 : decode cX6_goBack 12 = .ok (.iconst 1, 1) := by decide +kernel
theorem dX6_goBack_13 : decode cX6_goBack 13 = .ok (.invokevirtual 94, 3) := by decide +kernel
theorem dX6_goBack_16 : decode cX6_goBack 16 = .ok (.ifCond .eq 5, 3) := by decide +kernel
theorem dX6_goBack_19 : decode cX6_goBack 19 = .ok (.iconst 0, 1) := by decide +kernel
theorem dX6_goBack_20 : decode cX6_goBack 20 = .ok (.ireturn, 1) := by decide +kernel
theorem dX6_goBack_21 : decode cX6_goBack 21 = .ok (.aload_n 0, 1) := by decide +kernel
theorem dX6_goBack_22 : decode cX6_goBack 22 = .ok (.invokevirtual 98, 3) := by decide +kernel
theorem dX6_goBack_25 : decode cX6_goBack 25 = .ok (.aload_n 0, 1) := by decide +kernel
theorem dX6_goBack_26 : decode cX6_goBack 26 = .ok (.getfield 16, 3) := by decide +kernel
theorem dX6_goBack_29 : decode cX6_goBack 29 = .ok (.aload_n 0, 1) := by decide +kernel
theorem dX6_goBack_30 : decode cX6_goBack 30 = .ok (.getfield 7, 3) := by decide +kernel
theorem dX6_goBack_33 : decode cX6_goBack 33 = .ok (.invokestatic 181, 3) := by decide +kernel
theorem dX6_goBack_36 : decode cX6_goBack 36 = .ok (.aload_n 0, 1) := by decide +kernel
theorem dX6_goBack_37 : decode cX6_goBack 37 = .ok (.getfield 7, 3) := by decide +kernel
theorem dX6_goBack_40 : decode cX6_goBack 40 = .ok (.bipush 126, 2) := by decide +kernel
theorem dX6_goBack_42 : decode cX6_goBack 42 = .ok (.iaload, 1) := by decide +kernel
theorem dX6_goBack_43 : decode cX6_goBack 43 = .ok (.ireturn, 1) := by decide +kernel
theorem dX6_undo_0 : decode cX6_undo 0 = .ok (.aload_n 0, 1) := by decide +kernel
theorem dX6_undo_1 : decode cX6_undo 1 = .ok (.aload_n 0, 1) := by decide +kernel
theorem dX6_undo_2 : decode cX6_undo 2 = .ok (.getfield 91, 3) := by decide +kernel
theorem dX6_undo_5 : decode cX6_undo 5 = .ok (.ifCond .ne 7, 3) := by decide +kernel
theorem dX6_undo_8 : decode cX6_undo 8 = .ok (.iconst 1, 1) := by decide +kernel
theorem dX6_undo_9 : decode cX6_undo 9 = .ok (.goto 4, 3) := by decide +kernel
theorem dX6_undo_12 : decode cX6_undo 12 = .ok (.iconst 0, 1) := by decide +kernel
theorem dX6_undo_13 : decode cX6_undo 13 = .ok (.invokevirtual 94, 3) := by decide +kernel
theorem dX6_undo_16 : decode cX6_undo 16 = .ok (.ifCond .eq 5, 3) := by decide +kernel
theorem dX6_undo_19 : decode cX6_undo 19 = .ok (.iconst 0, 1) := by decide +kernel
theorem dX6_undo_20 : decode cX6_undo 20 = .ok (.ireturn, 1) := by decide +kernel
theorem dX6_undo_21 : decode cX6_undo 21 = .ok (.aload_n 0, 1) := by decide +kernel
theorem dX6_undo_22 : decode cX6_undo 22 = .ok (.dup, 1) := by decide +kernel
theorem dX6_undo_23 : decode cX6_undo 23 = .ok (.getfield 91, 3) := by decide +kernel
theorem dX6_undo_26 : decode cX6_undo 26 = .ok (.iconst 1, 1) := by decide +kernel
theorem dX6_undo_27 : decode cX6_undo 27 = .ok (.isub, 1) := by decide +kernel
theorem dX6_undo_28 : decode cX6_undo 28 = .ok (.putfield 91, 3) := by decide +kernel
theorem dX6_undo_31 : decode cX6_undo 31 = .ok (.iconst 0, 1) := by decide +kernel
theorem dX6_undo_32 : decode cX6_undo 32 = .ok (.istore_n 1, 1) := by decide +kernel
theorem dX6_undo_33 : decode cX6_undo 33 = .ok (.iload_n 1, 1) := by decide +kernel
theorem dX6_undo_34 : decode cX6_undo 34 = .ok (.sipush 129, 3) := by decide +kernel
theorem dX6_undo_37 : decode cX6_undo 37 = .ok (.if_icmp .ge 30, 3) := by decide +kernel
theorem dX6_undo_40 : decode cX6_undo 40 = .ok (.aload_n 0, 1) := by decide +kernel
theorem dX6_undo_41 : decode cX6_undo 41 = .ok (.getfield 7, 3) := by decide +kernel
theorem dX6_undo_44 : decode cX6_undo 44 = .ok (.iload_n 1, 1) := by decide +kernel
theorem dX6_undo_45 : decode cX6_undo 45 = .ok (.aload_n 0, 1) := by decide +kernel
theorem dX6_undo_46 : decode cX6_undo 46 = .ok (.getfield 19, 3) := by decide +kernel
theorem dX6_undo_49 : decode cX6_undo 49 = .ok (.sipush 129, 3) := by decide +kernel
theorem dX6_undo_52 : decode cX6_undo 52 = .ok (.aload_n 0, 1) := by decide +kernel
theorem dX6_undo_53 : decode cX6_undo 53 = .ok (.getfield 91, 3) := by decide +kernel
theorem dX6_undo_56 : decode cX6_undo 56 = .ok (.imul, 1) := by decide +kernel
theorem dX6_undo_57 : decode cX6_undo 57 = .ok (.iload_n 1, 1) := by decide +kernel
theorem dX6_undo_58 : decode cX6_undo 58 = .ok (.iadd, 1) := by decide +kernel
theorem dX6_undo_59 : decode cX6_undo 59 = .ok (.iaload, 1) := by decide +kernel
theorem dX6_undo_60 : decode cX6_undo 60 = .ok (.iastore, 1) := by decide +kernel
theorem dX6_undo_61 : decode cX6_undo 61 = .ok (.iinc 1 1, 3) := by decide +kernel
theorem dX6_undo_64 : decode cX6_undo 64 = .ok (.goto (-31), 3) := by decide +kernel
theorem dX6_undo_67 : decode cX6_undo 67 = .ok (.aload_n 0, 1) := by decide +kernel
theorem dX6_undo_68 : decode cX6_undo 68 = .ok (.getfield 91, 3) := by decide +kernel
theorem dX6_undo_71 : decode cX6_undo 71 = .ok (.ireturn, 1) := by decide +kernel
theorem dX6_lockedSet_0 : decode cX6_lockedSet 0 = .ok (.iconst 0, 1) := by decide +kernel
theorem dX6_lockedSet_1 : decode cX6_lockedSet 1 = .ok (.istore_n 2, 1) := by decide +kernel
theorem dX6_lockedSet_2 : decode cX6_lockedSet 2 = .ok (.iconst 0, 1) := by decide +kernel
theorem dX6_lockedSet_3 : decode cX6_lockedSet 3 = .ok (.istore_n 3, 1) := by decide +kernel
theorem dX6_lockedSet_4 : decode cX6_lockedSet 4 = .ok (.iload_n 3, 1) := by decide +kernel
theorem dX6_lockedSet_5 : decode cX6_lockedSet 5 = .ok (.bipush 8, 2) := by decide +kernel
theorem dX6_lockedSet_7 : decode cX6_lockedSet 7 = .ok (.if_icmp .ge 31, 3) := by decide +kernel
theorem dX6_lockedSet_10 : decode cX6_lockedSet 10 = .ok (.iload_n 2, 1) := by decide +kernel
theorem dX6_lockedSet_11 : decode cX6_lockedSet 11 = .ok (.aload_n 0, 1) := by decide +kernel
theorem dX6_lockedSet_12 : decode cX6_lockedSet 12 = .ok (.getfield 7, 3) := by decide +kernel
theorem dX6_lockedSet_15 : decode cX6_lockedSet 15 = .ok (.iload_n 1, 1) := by decide +kernel
theorem dX6_lockedSet_16 : decode cX6_lockedSet 16 = .ok (.iload_n 3, 1) := by decide +kernel
theorem dX6_lockedSet_17 : decode cX6_lockedSet 17 = .ok (.invokestatic 81, 3) := by decide +kernel
theorem dX6_lockedSet_20 : decode cX6_lockedSet 20 = .ok (.ifCond .eq 9, 3) := by decide +kernel
theorem dX6_lockedSet_23 : decode cX6_lockedSet 23 = .ok (.iconst 1, 1) := by decide +kernel
theorem dX6_lockedSet_24 : decode cX6_lockedSet 24 = .ok (.iload_n 3, 1) := by decide +kernel
theorem dX6_lockedSet_25 : decode cX6_lockedSet 25 = .ok (.ishl, 1) := by decide +kernel
theorem dX6_lockedSet_26 : decode cX6_lockedSet 26 = .ok (.goto 4, 3) := by decide +kernel
theorem dX6_lockedSet_29 : decode cX6_lockedSet 29 = .ok (.iconst 0, 1) := by decide +kernel
theorem dX6_lockedSet_30 : decode cX6_lockedSet 30 = .ok (.ior, 1) := by decide +kernel
theorem dX6_lockedSet_31 : decode cX6_lockedSet 31 = .ok (.istore_n 2, 1) := by decide +kernel
theorem dX6_lockedSet_32 : decode cX6_lockedSet 32 = .ok (.iinc 3 1, 3) := by decide +kernel
theorem dX6_lockedSet_35 : decode cX6_lockedSet 35 = .ok (.goto (-31), 3) := by decide +kernel
theorem dX6_lockedSet_38 : decode cX6_lockedSet 38 = .ok (.iload_n 2, 1) := by decide +kernel
theorem dX6_lockedSet_39 : decode cX6_lockedSet 39 = .ok (.ireturn, 1) := by decide +kernel
theorem dX6_tellClock_0 : decode cX6_tellClock 0 = .ok (.iload_n 1, 1) := by decide +kernel
theorem dX6_tellClock_1 : decode cX6_tellClock 1 = .ok (.invokestatic 47, 3) := by decide +kernel
theorem dX6_tellClock_4 : decode cX6_tellClock 4 = .ok (.istore_n 3, 1) := by decide +kernel
theorem dX6_tellClock_5 : decode cX6_tellClock 5 = .ok (.iload_n 2, 1) := by decide +kernel
theorem dX6_tellClock_6 : decode cX6_tellClock 6 = .ok (.tableswitch 97 5 10 #[38, 47, 56, 66, 72, 87], 38) := by decide +kernel
theorem dX6_tellClock_44 : decode cX6_tellClock 44 = .ok (.aload_n 0, 1) := by decide +kernel
theorem dX6_tellClock_45 : decode cX6_tellClock 45 = .ok (.getfield 7, 3) := by decide +kernel
theorem dX6_tellClock_48 : decode cX6_tellClock 48 = .ok (.iload_n 1, 1) := by decide +kernel
theorem dX6_tellClock_49 : decode cX6_tellClock 49 = .ok (.invokestatic 70, 3) := by decide +kernel
theorem dX6_tellClock_52 : decode cX6_tellClock 52 = .ok (.ireturn, 1) := by decide +kernel
theorem dX6_tellClock_53 : decode cX6_tellClock 53 = .ok (.aload_n 0, 1) := by decide +kernel
theorem dX6_tellClock_54 : decode cX6_tellClock 54 = .ok (.getfield 7, 3) := by decide +kernel
theorem dX6_tellClock_57 : decode cX6_tellClock 57 = .ok (.iload_n 3, 1) := by decide +kernel
theorem dX6_tellClock_58 : decode cX6_tellClock 58 = .ok (.iconst 5, 1) := by decide +kernel
theorem dX6_tellClock_59 : decode cX6_tellClock 59 = .ok (.iadd, 1) := by decide +kernel
theorem dX6_tellClock_60 : decode cX6_tellClock 60 = .ok (.iaload, 1) := by decide +kernel
theorem dX6_tellClock_61 : decode cX6_tellClock 61 = .ok (.ireturn, 1) := by decide +kernel
theorem dX6_tellClock_62 : decode cX6_tellClock 62 = .ok (.aload_n 0, 1) := by decide +kernel
theorem dX6_tellClock_63 : decode cX6_tellClock 63 = .ok (.getfield 7, 3) := by decide +kernel
theorem dX6_tellClock_66 : decode cX6_tellClock 66 = .ok (.iload_n 3, 1) := by decide +kernel
theorem dX6_tellClock_67 : decode cX6_tellClock 67 = .ok (.bipush 6, 2) := by decide +kernel
theorem dX6_tellClock_69 : decode cX6_tellClock 69 = .ok (.iadd, 1) := by decide +kernel
theorem dX6_tellClock_70 : decode cX6_tellClock 70 = .ok (.iaload, 1) := by decide +kernel
theorem dX6_tellClock_71 : decode cX6_tellClock 71 = .ok (.ireturn, 1) := by decide +kernel
theorem dX6_tellClock_72 : decode cX6_tellClock 72 = .ok (.aload_n 0, 1) := by decide +kernel
theorem dX6_tellClock_73 : decode cX6_tellClock 73 = .ok (.iload_n 1, 1) := by decide +kernel
theorem dX6_tellClock_74 : decode cX6_tellClock 74 = .ok (.invokevirtual 188, 3) := by decide +kernel
theorem dX6_tellClock_77 : decode cX6_tellClock 77 = .ok (.ireturn, 1) := by decide +kernel
theorem dX6_tellClock_78 : decode cX6_tellClock 78 = .ok (.aload_n 0, 1) := by decide +kernel
theorem dX6_tellClock_79 : decode cX6_tellClock 79 = .ok (.aload_n 0, 1) := by decide +kernel
theorem dX6_tellClock_80 : decode cX6_tellClock 80 = .ok (.getfield 7, 3) := by decide +kernel
theorem dX6_tellClock_83 : decode cX6_tellClock 83 = .ok (.invokevirtual 84, 3) := by decide +kernel
theorem dX6_tellClock_86 : decode cX6_tellClock 86 = .ok (.aload_n 0, 1) := by decide +kernel
theorem dX6_tellClock_87 : decode cX6_tellClock 87 = .ok (.getfield 25, 3) := by decide +kernel
theorem dX6_tellClock_90 : decode cX6_tellClock 90 = .ok (.iload_n 1, 1) := by decide +kernel
theorem dX6_tellClock_91 : decode cX6_tellClock 91 = .ok (.iaload, 1) := by decide +kernel
theorem dX6_tellClock_92 : decode cX6_tellClock 92 = .ok (.ireturn, 1) := by decide +kernel
theorem dX6_tellClock_93 : decode cX6_tellClock 93 = .ok (.aload_n 0, 1) := by decide +kernel
theorem dX6_tellClock_94 : decode cX6_tellClock 94 = .ok (.aload_n 0, 1) := by decide +kernel
theorem dX6_tellClock_95 : decode cX6_tellClock 95 = .ok (.getfield 7, 3) := by decide +kernel
theorem dX6_tellClock_98 : decode cX6_tellClock 98 = .ok (.iload_n 1, 1) := by decide +kernel
theorem dX6_tellClock_99 : decode cX6_tellClock 99 = .ok (.invokevirtual 88, 3) := by decide +kernel
theorem dX6_tellClock_102 : decode cX6_tellClock 102 = .ok (.ireturn, 1) := by decide +kernel
theorem dX6_tellClock_103 : decode cX6_tellClock 103 = .ok (.aload_n 0, 1) := by decide +kernel
theorem dX6_tellClock_104 : decode cX6_tellClock 104 = .ok (.getfield 7, 3) := by decide +kernel
theorem dX6_tellClock_107 : decode cX6_tellClock 107 = .ok (.iload_n 3, 1) := by decide +kernel
theorem dX6_tellClock_108 : decode cX6_tellClock 108 = .ok (.iload_n 2, 1) := by decide +kernel
theorem dX6_tellClock_109 : decode cX6_tellClock 109 = .ok (.iadd, 1) := by decide +kernel
theorem dX6_tellClock_110 : decode cX6_tellClock 110 = .ok (.iaload, 1) := by decide +kernel
theorem dX6_tellClock_111 : decode cX6_tellClock 111 = .ok (.ireturn, 1) := by decide +kernel
theorem dX6_clock_0 : decode cX6_clock 0 = .ok (.aload_n 0, 1) := by decide +kernel
theorem dX6_clock_1 : decode cX6_clock 1 = .ok (.iload_n 1, 1) := by decide +kernel
theorem dX6_clock_2 : decode cX6_clock 2 = .ok (.invokestatic 104, 3) := by decide +kernel
theorem dX6_clock_5 : decode cX6_clock 5 = .ok (.ifCond .ne 7, 3) := by decide +kernel
theorem dX6_clock_8 : decode cX6_clock 8 = .ok (.iconst 1, 1) := by decide +kernel
theorem dX6_clock_9 : decode cX6_clock 9 = .ok (.goto 20, 3) := by decide +kernel
theorem dX6_clock_12 : decode cX6_clock 12 = .ok (.iload_n 2, 1) := by decide +kernel
theorem dX6_clock_13 : decode cX6_clock 13 = .ok (.i2l, 1) := by decide +kernel
theorem dX6_clock_14 : decode cX6_clock 14 = .ok (.lconst 0, 1) := by decide +kernel
theorem dX6_clock_15 : decode cX6_clock 15 = .ok (.ldc2_w 123, 3) := by decide +kernel
theorem dX6_clock_18 : decode cX6_clock 18 = .ok (.invokestatic 37, 3) := by decide +kernel
theorem dX6_clock_21 : decode cX6_clock 21 = .ok (.ifCond .ne 7, 3) := by decide +kernel
theorem dX6_clock_24 : decode cX6_clock 24 = .ok (.iconst 2, 1) := by decide +kernel
theorem dX6_clock_25 : decode cX6_clock 25 = .ok (.goto 4, 3) := by decide +kernel
theorem dX6_clock_28 : decode cX6_clock 28 = .ok (.iconst 0, 1) := by decide +kernel
theorem dX6_clock_29 : decode cX6_clock 29 = .ok (.invokevirtual 94, 3) := by decide +kernel
theorem dX6_clock_32 : decode cX6_clock 32 = .ok (.ifCond .eq 5, 3) := by decide +kernel
theorem dX6_clock_35 : decode cX6_clock 35 = .ok (.iconst 0, 1) := by decide +kernel
theorem dX6_clock_36 : decode cX6_clock 36 = .ok (.ireturn, 1) := by decide +kernel
theorem dX6_clock_37 : decode cX6_clock 37 = .ok (.aload_n 0, 1) := by decide +kernel
theorem dX6_clock_38 : decode cX6_clock 38 = .ok (.iload_n 1, 1) := by decide +kernel
theorem dX6_clock_39 : decode cX6_clock 39 = .ok (.iload_n 2, 1) := by decide +kernel
theorem dX6_clock_40 : decode cX6_clock 40 = .ok (.invokevirtual 191, 3) := by decide +kernel
theorem dX6_clock_43 : decode cX6_clock 43 = .ok (.ireturn, 1) := by decide +kernel
theorem dX6_whyNot_0 : decode cX6_whyNot 0 = .ok (.aload_n 0, 1) := by decide +kernel
theorem dX6_whyNot_1 : decode cX6_whyNot 1 = .ok (.getfield 7, 3) := by decide +kernel
theorem dX6_whyNot_4 : decode cX6_whyNot 4 = .ok (.iload_n 1, 1) := by decide +kernel
theorem dX6_whyNot_5 : decode cX6_whyNot 5 = .ok (.iload_n 2, 1) := by decide +kernel
theorem dX6_whyNot_6 : decode cX6_whyNot 6 = .ok (.invokestatic 81, 3) := by decide +kernel
theorem dX6_whyNot_9 : decode cX6_whyNot 9 = .ok (.ifCond .eq 5, 3) := by decide +kernel
theorem dX6_whyNot_12 : decode cX6_whyNot 12 = .ok (.iconst 0, 1) := by decide +kernel
theorem dX6_whyNot_13 : decode cX6_whyNot 13 = .ok (.ireturn, 1) := by decide +kernel
theorem dX6_whyNot_14 : decode cX6_whyNot 14 = .ok (.aload_n 0, 1) := by decide +kernel
theorem dX6_whyNot_15 : decode cX6_whyNot 15 = .ok (.getfield 7, 3) := by decide +kernel
theorem dX6_whyNot_18 : decode cX6_whyNot 18 = .ok (.iload_n 1, 1) := by decide +kernel
theorem dX6_whyNot_19 : decode cX6_whyNot 19 = .ok (.invokestatic 51, 3) := by decide +kernel
theorem dX6_whyNot_22 : decode cX6_whyNot 22 = .ok (.ifCond .eq 14, 3) := by decide +kernel
theorem dX6_whyNot_25 : decode cX6_whyNot 25 = .ok (.aload_n 0, 1) := by decide +kernel
theorem dX6_whyNot_26 : decode cX6_whyNot 26 = .ok (.getfield 7, 3) := by decide +kernel
theorem dX6_whyNot_29 : decode cX6_whyNot 29 = .ok (.iload_n 2, 1) := by decide +kernel
theorem dX6_whyNot_30 : decode cX6_whyNot 30 = .ok (.invokestatic 51, 3) := by decide +kernel
theorem dX6_whyNot_33 : decode cX6_whyNot 33 = .ok (.ifCond .ne 5, 3) := by decide +kernel
theorem dX6_whyNot_36 : decode cX6_whyNot 36 = .ok (.iconst 1, 1) := by decide +kernel
theorem dX6_whyNot_37 : decode cX6_whyNot 37 = .ok (.ireturn, 1) := by decide +kernel
theorem dX6_whyNot_38 : decode cX6_whyNot 38 = .ok (.aload_n 0, 1) := by decide +kernel
theorem dX6_whyNot_39 : decode cX6_whyNot 39 = .ok (.getfield 7, 3) := by decide +kernel
theorem dX6_whyNot_42 : decode cX6_whyNot 42 = .ok (.iload_n 1, 1) := by decide +kernel
theorem dX6_whyNot_43 : decode cX6_whyNot 43 = .ok (.invokestatic 55, 3) := by decide +kernel
theorem dX6_whyNot_46 : decode cX6_whyNot 46 = .ok (.aload_n 0, 1) := by decide +kernel
theorem dX6_whyNot_47 : decode cX6_whyNot 47 = .ok (.getfield 7, 3) := by decide +kernel
theorem dX6_whyNot_50 : decode cX6_whyNot 50 = .ok (.iload_n 2, 1) := by decide +kernel
theorem dX6_whyNot_51 : decode cX6_whyNot 51 = .ok (.invokestatic 55, 3) := by decide +kernel
theorem dX6_whyNot_54 : decode cX6_whyNot 54 = .ok (.if_icmp .eq 7, 3) := by decide +kernel
theorem dX6_whyNot_57 : decode cX6_whyNot 57 = .ok (.iconst 2, 1) := by decide +kernel
theorem dX6_whyNot_58 : decode cX6_whyNot 58 = .ok (.goto 20, 3) := by decide +kernel
theorem dX6_whyNot_61 : decode cX6_whyNot 61 = .ok (.aload_n 0, 1) := by decide +kernel
theorem dX6_whyNot_62 : decode cX6_whyNot 62 = .ok (.getfield 7, 3) := by decide +kernel
theorem dX6_whyNot_65 : decode cX6_whyNot 65 = .ok (.iload_n 1, 1) := by decide +kernel
theorem dX6_whyNot_66 : decode cX6_whyNot 66 = .ok (.iload_n 2, 1) := by decide +kernel
theorem dX6_whyNot_67 : decode cX6_whyNot 67 = .ok (.invokestatic 73, 3) := by decide +kernel
theorem dX6_whyNot_70 : decode cX6_whyNot 70 = .ok (.ifCond .ne 7, 3) := by decide +kernel
theorem dX6_whyNot_73 : decode cX6_whyNot 73 = .ok (.iconst 3, 1) := by decide +kernel
theorem dX6_whyNot_74 : decode cX6_whyNot 74 = .ok (.goto 4, 3) := by decide +kernel
theorem dX6_whyNot_77 : decode cX6_whyNot 77 = .ok (.iconst 4, 1) := by decide +kernel
theorem dX6_whyNot_78 : decode cX6_whyNot 78 = .ok (.ireturn, 1) := by decide +kernel
theorem dX6_tellPair_0 : decode cX6_tellPair 0 = .ok (.iload_n 3, 1) := by decide +kernel
theorem dX6_tellPair_1 : decode cX6_tellPair 1 = .ok (.ifCond .ne 15, 3) := by decide +kernel
theorem dX6_tellPair_4 : decode cX6_tellPair 4 = .ok (.aload_n 0, 1) := by decide +kernel
theorem dX6_tellPair_5 : decode cX6_tellPair 5 = .ok (.getfield 7, 3) := by decide +kernel
theorem dX6_tellPair_8 : decode cX6_tellPair 8 = .ok (.iload_n 1, 1) := by decide +kernel
theorem dX6_tellPair_9 : decode cX6_tellPair 9 = .ok (.iload_n 2, 1) := by decide +kernel
theorem dX6_tellPair_10 : decode cX6_tellPair 10 = .ok (.invokestatic 59, 3) := by decide +kernel
theorem dX6_tellPair_13 : decode cX6_tellPair 13 = .ok (.goto 27, 3) := by decide +kernel
theorem dX6_tellPair_16 : decode cX6_tellPair 16 = .ok (.iload_n 3, 1) := by decide +kernel
theorem dX6_tellPair_17 : decode cX6_tellPair 17 = .ok (.iconst 1, 1) := by decide +kernel
theorem dX6_tellPair_18 : decode cX6_tellPair 18 = .ok (.if_icmp .ne 16, 3) := by decide +kernel
theorem dX6_tellPair_21 : decode cX6_tellPair 21 = .ok (.aload_n 0, 1) := by decide +kernel
theorem dX6_tellPair_22 : decode cX6_tellPair 22 = .ok (.getfield 7, 3) := by decide +kernel
theorem dX6_tellPair_25 : decode cX6_tellPair 25 = .ok (.iload_n 1, 1) := by decide +kernel
theorem dX6_tellPair_26 : decode cX6_tellPair 26 = .ok (.iload_n 2, 1) := by decide +kernel
theorem dX6_tellPair_27 : decode cX6_tellPair 27 = .ok (.invokestatic 66, 3) := by decide +kernel
theorem dX6_tellPair_30 : decode cX6_tellPair 30 = .ok (.iaload, 1) := by decide +kernel
theorem dX6_tellPair_31 : decode cX6_tellPair 31 = .ok (.goto 9, 3) := by decide +kernel
theorem dX6_tellPair_34 : decode cX6_tellPair 34 = .ok (.aload_n 0, 1) := by decide +kernel
theorem dX6_tellPair_35 : decode cX6_tellPair 35 = .ok (.iload_n 1, 1) := by decide +kernel
theorem dX6_tellPair_36 : decode cX6_tellPair 36 = .ok (.iload_n 2, 1) := by decide +kernel
theorem dX6_tellPair_37 : decode cX6_tellPair 37 = .ok (.invokevirtual 194, 3) := by decide +kernel
theorem dX6_tellPair_40 : decode cX6_tellPair 40 = .ok (.ireturn, 1) := by decide +kernel
theorem dX6_isPair_0 : decode cX6_isPair 0 = .ok (.iload_n 0, 1) := by decide +kernel
theorem dX6_isPair_1 : decode cX6_isPair 1 = .ok (.invokestatic 104, 3) := by decide +kernel
theorem dX6_isPair_4 : decode cX6_isPair 4 = .ok (.ifCond .eq 19, 3) := by decide +kernel
theorem dX6_isPair_7 : decode cX6_isPair 7 = .ok (.iload_n 1, 1) := by decide +kernel
theorem dX6_isPair_8 : decode cX6_isPair 8 = .ok (.invokestatic 104, 3) := by decide +kernel
theorem dX6_isPair_11 : decode cX6_isPair 11 = .ok (.ifCond .eq 12, 3) := by decide +kernel
theorem dX6_isPair_14 : decode cX6_isPair 14 = .ok (.iload_n 0, 1) := by decide +kernel
theorem dX6_isPair_15 : decode cX6_isPair 15 = .ok (.iload_n 1, 1) := by decide +kernel
theorem dX6_isPair_16 : decode cX6_isPair 16 = .ok (.if_icmp .eq 7, 3) := by decide +kernel
theorem dX6_isPair_19 : decode cX6_isPair 19 = .ok (.iconst 1, 1) := by decide +kernel
theorem dX6_isPair_20 : decode cX6_isPair 20 = .ok (.goto 4, 3) := by decide +kernel
theorem dX6_isPair_23 : decode cX6_isPair 23 = .ok (.iconst 0, 1) := by decide +kernel
theorem dX6_isPair_24 : decode cX6_isPair 24 = .ok (.ireturn, 1) := by decide +kernel
theorem dX6_pair_0 : decode cX6_pair 0 = .ok (.aload_n 0, 1) := by decide +kernel
theorem dX6_pair_1 : decode cX6_pair 1 = .ok (.iload_n 1, 1) := by decide +kernel
theorem dX6_pair_2 : decode cX6_pair 2 = .ok (.iload_n 2, 1) := by decide +kernel
theorem dX6_pair_3 : decode cX6_pair 3 = .ok (.invokestatic 197, 3) := by decide +kernel
theorem dX6_pair_6 : decode cX6_pair 6 = .ok (.ifCond .ne 7, 3) := by decide +kernel
theorem dX6_pair_9 : decode cX6_pair 9 = .ok (.iconst 1, 1) := by decide +kernel
theorem dX6_pair_10 : decode cX6_pair 10 = .ok (.goto 20, 3) := by decide +kernel
theorem dX6_pair_13 : decode cX6_pair 13 = .ok (.iload_n 3, 1) := by decide +kernel
theorem dX6_pair_14 : decode cX6_pair 14 = .ok (.i2l, 1) := by decide +kernel
theorem dX6_pair_15 : decode cX6_pair 15 = .ok (.lconst 0, 1) := by decide +kernel
theorem dX6_pair_16 : decode cX6_pair 16 = .ok (.ldc2_w 41, 3) := by decide +kernel
theorem dX6_pair_19 : decode cX6_pair 19 = .ok (.invokestatic 37, 3) := by decide +kernel
theorem dX6_pair_22 : decode cX6_pair 22 = .ok (.ifCond .ne 7, 3) := by decide +kernel
theorem dX6_pair_25 : decode cX6_pair 25 = .ok (.iconst 2, 1) := by decide +kernel
theorem dX6_pair_26 : decode cX6_pair 26 = .ok (.goto 4, 3) := by decide +kernel
theorem dX6_pair_29 : decode cX6_pair 29 = .ok (.iconst 0, 1) := by decide +kernel
theorem dX6_pair_30 : decode cX6_pair 30 = .ok (.invokevirtual 94, 3) := by decide +kernel
theorem dX6_pair_33 : decode cX6_pair 33 = .ok (.ifCond .eq 5, 3) := by decide +kernel
theorem dX6_pair_36 : decode cX6_pair 36 = .ok (.iconst 0, 1) := by decide +kernel
theorem dX6_pair_37 : decode cX6_pair 37 = .ok (.ireturn, 1) := by decide +kernel
theorem dX6_pair_38 : decode cX6_pair 38 = .ok (.aload_n 0, 1) := by decide +kernel
theorem dX6_pair_39 : decode cX6_pair 39 = .ok (.iload_n 1, 1) := by decide +kernel
theorem dX6_pair_40 : decode cX6_pair 40 = .ok (.iload_n 2, 1) := by decide +kernel
theorem dX6_pair_41 : decode cX6_pair 41 = .ok (.iload_n 3, 1) := by decide +kernel
theorem dX6_pair_42 : decode cX6_pair 42 = .ok (.invokevirtual 200, 3) := by decide +kernel
theorem dX6_pair_45 : decode cX6_pair 45 = .ok (.ireturn, 1) := by decide +kernel
theorem dX6_tellBeam_0 : decode cX6_tellBeam 0 = .ok (.iconst 0, 1) := by decide +kernel
theorem dX6_tellBeam_1 : decode cX6_tellBeam 1 = .ok (.istore_n 3, 1) := by decide +kernel
theorem dX6_tellBeam_2 : decode cX6_tellBeam 2 = .ok (.iconst 0, 1) := by decide +kernel
theorem dX6_tellBeam_3 : decode cX6_tellBeam 3 = .ok (.istore 4, 2) := by decide +kernel
theorem dX6_tellBeam_5 : decode cX6_tellBeam 5 = .ok (.iconst 0, 1) := by decide +kernel
theorem dX6_tellBeam_6 : decode cX6_tellBeam 6 = .ok (.istore 5, 2) := by decide +kernel
theorem dX6_tellBeam_8 : decode cX6_tellBeam 8 = .ok (.iconst 0, 1) := by decide +kernel
theorem dX6_tellBeam_9 : decode cX6_tellBeam 9 = .ok (.istore 6, 2) := by decide +kernel
theorem dX6_tellBeam_11 : decode cX6_tellBeam 11 = .ok (.iconst 0, 1) := by decide +kernel
theorem dX6_tellBeam_12 : decode cX6_tellBeam 12 = .ok (.istore 7, 2) := by decide +kernel
theorem dX6_tellBeam_14 : decode cX6_tellBeam 14 = .ok (.iload 7, 2) := by decide +kernel
theorem dX6_tellBeam_16 : decode cX6_tellBeam 16 = .ok (.bipush 8, 2) := by decide +kernel
theorem dX6_tellBeam_18 : decode cX6_tellBeam 18 = .ok (.if_icmp .ge 207, 3) := by decide +kernel
theorem dX6_tellBeam_21 : decode cX6_tellBeam 21 = .ok (.aload_n 0, 1) := by decide +kernel
theorem dX6_tellBeam_22 : decode cX6_tellBeam 22 = .ok (.getfield 7, 3) := by decide +kernel
theorem dX6_tellBeam_25 : decode cX6_tellBeam 25 = .ok (.iload 7, 2) := by decide +kernel
theorem dX6_tellBeam_27 : decode cX6_tellBeam 27 = .ok (.invokestatic 55, 3) := by decide +kernel
theorem dX6_tellBeam_30 : decode cX6_tellBeam 30 = .ok (.iload_n 1, 1) := by decide +kernel
theorem dX6_tellBeam_31 : decode cX6_tellBeam 31 = .ok (.if_icmp .ne 7, 3) := by decide +kernel
theorem dX6_tellBeam_34 : decode cX6_tellBeam 34 = .ok (.iconst 1, 1) := by decide +kernel
theorem dX6_tellBeam_35 : decode cX6_tellBeam 35 = .ok (.goto 4, 3) := by decide +kernel
theorem dX6_tellBeam_38 : decode cX6_tellBeam 38 = .ok (.iconst 0, 1) := by decide +kernel
theorem dX6_tellBeam_39 : decode cX6_tellBeam 39 = .ok (.istore 8, 2) := by decide +kernel
theorem dX6_tellBeam_41 : decode cX6_tellBeam 41 = .ok (.iload_n 3, 1) := by decide +kernel
theorem dX6_tellBeam_42 : decode cX6_tellBeam 42 = .ok (.iload 8, 2) := by decide +kernel
theorem dX6_tellBeam_44 : decode cX6_tellBeam 44 = .ok (.ifCond .eq 10, 3) := by decide +kernel
theorem dX6_tellBeam_47 : decode cX6_tellBeam 47 = .ok (.iconst 1, 1) := by decide +kernel
theorem dX6_tellBeam_48 : decode cX6_tellBeam 48 = .ok (.iload 7, 2) := by decide +kernel
theorem dX6_tellBeam_50 : decode cX6_tellBeam 50 = .ok (.ishl, 1) := by decide +kernel
theorem dX6_tellBeam_51 : decode cX6_tellBeam 51 = .ok (.goto 4, 3) := by decide +kernel
theorem dX6_tellBeam_54 : decode cX6_tellBeam 54 = .ok (.iconst 0, 1) := by decide +kernel
theorem dX6_tellBeam_55 : decode cX6_tellBeam 55 = .ok (.ior, 1) := by decide +kernel
theorem dX6_tellBeam_56 : decode cX6_tellBeam 56 = .ok (.istore_n 3, 1) := by decide +kernel
theorem dX6_tellBeam_57 : decode cX6_tellBeam 57 = .ok (.iload 4, 2) := by decide +kernel
theorem dX6_tellBeam_59 : decode cX6_tellBeam 59 = .ok (.iload 8, 2) := by decide +kernel
theorem dX6_tellBeam_61 : decode cX6_tellBeam 61 = .ok (.ifCond .eq 22, 3) := by decide +kernel
theorem dX6_tellBeam_64 : decode cX6_tellBeam 64 = .ok (.aload_n 0, 1) := by decide +kernel
theorem dX6_tellBeam_65 : decode cX6_tellBeam 65 = .ok (.getfield 7, 3) := by decide +kernel
theorem dX6_tellBeam_68 : decode cX6_tellBeam 68 = .ok (.iload 7, 2) := by decide +kernel
theorem dX6_tellBeam_70 : decode cX6_tellBeam 70 = .ok (.invokestatic 51, 3) := by decide +kernel
theorem dX6_tellBeam_73 : decode cX6_tellBeam 73 = .ok (.ifCond .eq 10, 3) := by decide +kernel
theorem dX6_tellBeam_76 : decode cX6_tellBeam 76 = .ok (.iconst 1, 1) := by decide +kernel
theorem dX6_tellBeam_77 : decode cX6_tellBeam 77 = .ok (.iload 7, 2) := by decide +kernel
theorem dX6_tellBeam_79 : decode cX6_tellBeam 79 = .ok (.ishl, 1) := by decide +kernel
theorem dX6_tellBeam_80 : decode cX6_tellBeam 80 = .ok (.goto 4, 3) := by decide +kernel
theorem dX6_tellBeam_83 : decode cX6_tellBeam 83 = .ok (.iconst 0, 1) := by decide +kernel
theorem dX6_tellBeam_84 : decode cX6_tellBeam 84 = .ok (.ior, 1) := by decide +kernel
theorem dX6_tellBeam_85 : decode cX6_tellBeam 85 = .ok (.istore 4, 2) := by decide +kernel
theorem dX6_tellBeam_87 : decode cX6_tellBeam 87 = .ok (.iload 5, 2) := by decide +kernel
theorem dX6_tellBeam_89 : decode cX6_tellBeam 89 = .ok (.iload 8, 2) := by decide +kernel
theorem dX6_tellBeam_91 : decode cX6_tellBeam 91 = .ok (.ifCond .eq 15, 3) := by decide +kernel
theorem dX6_tellBeam_94 : decode cX6_tellBeam 94 = .ok (.aload_n 0, 1) := by decide +kernel
theorem dX6_tellBeam_95 : decode cX6_tellBeam 95 = .ok (.getfield 7, 3) := by decide +kernel
theorem dX6_tellBeam_98 : decode cX6_tellBeam 98 = .ok (.iload 7, 2) := by decide +kernel
theorem dX6_tellBeam_100 : decode cX6_tellBeam 100 = .ok (.invokestatic 70, 3) := by decide +kernel
theorem dX6_tellBeam_103 : decode cX6_tellBeam 103 = .ok (.goto 4, 3) := by decide +kernel
theorem dX6_tellBeam_106 : decode cX6_tellBeam 106 = .ok (.iconst 0, 1) := by decide +kernel
theorem dX6_tellBeam_107 : decode cX6_tellBeam 107 = .ok (.iadd, 1) := by decide +kernel
theorem dX6_tellBeam_108 : decode cX6_tellBeam 108 = .ok (.istore 5, 2) := by decide +kernel
theorem dX6_tellBeam_110 : decode cX6_tellBeam 110 = .ok (.iload 7, 2) := by decide +kernel
theorem dX6_tellBeam_112 : decode cX6_tellBeam 112 = .ok (.iconst 1, 1) := by decide +kernel
theorem dX6_tellBeam_113 : decode cX6_tellBeam 113 = .ok (.iadd, 1) := by decide +kernel
theorem dX6_tellBeam_114 : decode cX6_tellBeam 114 = .ok (.istore 9, 2) := by decide +kernel
theorem dX6_tellBeam_116 : decode cX6_tellBeam 116 = .ok (.iload 9, 2) := by decide +kernel
theorem dX6_tellBeam_118 : decode cX6_tellBeam 118 = .ok (.bipush 8, 2) := by decide +kernel
theorem dX6_tellBeam_120 : decode cX6_tellBeam 120 = .ok (.if_icmp .ge 99, 3) := by decide +kernel
theorem dX6_tellBeam_123 : decode cX6_tellBeam 123 = .ok (.iload 8, 2) := by decide +kernel
theorem dX6_tellBeam_125 : decode cX6_tellBeam 125 = .ok (.ifCond .eq 44, 3) := by decide +kernel
theorem dX6_tellBeam_128 : decode cX6_tellBeam 128 = .ok (.aload_n 0, 1) := by decide +kernel
theorem dX6_tellBeam_129 : decode cX6_tellBeam 129 = .ok (.getfield 7, 3) := by decide +kernel
theorem dX6_tellBeam_132 : decode cX6_tellBeam 132 = .ok (.iload 9, 2) := by decide +kernel
theorem dX6_tellBeam_134 : decode cX6_tellBeam 134 = .ok (.invokestatic 55, 3) := by decide +kernel
theorem dX6_tellBeam_137 : decode cX6_tellBeam 137 = .ok (.iload_n 1, 1) := by decide +kernel
theorem dX6_tellBeam_138 : decode cX6_tellBeam 138 = .ok (.if_icmp .ne 31, 3) := by decide +kernel
theorem dX6_tellBeam_141 : decode cX6_tellBeam 141 = .ok (.aload_n 0, 1) := by decide +kernel
theorem dX6_tellBeam_142 : decode cX6_tellBeam 142 = .ok (.getfield 7, 3) := by decide +kernel
theorem dX6_tellBeam_145 : decode cX6_tellBeam 145 = .ok (.iload 7, 2) := by decide +kernel
theorem dX6_tellBeam_147 : decode cX6_tellBeam 147 = .ok (.invokestatic 51, 3) := by decide +kernel
theorem dX6_tellBeam_150 : decode cX6_tellBeam 150 = .ok (.ifCond .eq 19, 3) := by decide +kernel
theorem dX6_tellBeam_153 : decode cX6_tellBeam 153 = .ok (.aload_n 0, 1) := by decide +kernel
theorem dX6_tellBeam_154 : decode cX6_tellBeam 154 = .ok (.getfield 7, 3) := by decide +kernel
theorem dX6_tellBeam_157 : decode cX6_tellBeam 157 = .ok (.iload 9, 2) := by decide +kernel
theorem dX6_tellBeam_159 : decode cX6_tellBeam 159 = .ok (.invokestatic 51, 3) := by decide +kernel
theorem dX6_tellBeam_162 : decode cX6_tellBeam 162 = .ok (.ifCond .eq 7, 3) := by decide +kernel
theorem dX6_tellBeam_165 : decode cX6_tellBeam 165 = .ok (.iconst 1, 1) := by decide +kernel
theorem dX6_tellBeam_166 : decode cX6_tellBeam 166 = .ok (.goto 4, 3) := by decide +kernel
theorem dX6_tellBeam_169 : decode cX6_tellBeam 169 = .ok (.iconst 0, 1) := by decide +kernel
theorem dX6_tellBeam_170 : decode cX6_tellBeam 170 = .ok (.istore 10, 2) := by decide +kernel
theorem dX6_tellBeam_172 : decode cX6_tellBeam 172 = .ok (.iload 10, 2) := by decide +kernel
theorem dX6_tellBeam_174 : decode cX6_tellBeam 174 = .ok (.ifCond .eq 20, 3) := by decide +kernel
theorem dX6_tellBeam_177 : decode cX6_tellBeam 177 = .ok (.aload_n 0, 1) := by decide +kernel
theorem dX6_tellBeam_178 : decode cX6_tellBeam 178 = .ok (.getfield 7, 3) := by decide +kernel
theorem dX6_tellBeam_181 : decode cX6_tellBeam 181 = .ok (.iload 7, 2) := by decide +kernel
theorem dX6_tellBeam_183 : decode cX6_tellBeam 183 = .ok (.iload 9, 2) := by decide +kernel
theorem dX6_tellBeam_185 : decode cX6_tellBeam 185 = .ok (.invokestatic 59, 3) := by decide +kernel
theorem dX6_tellBeam_188 : decode cX6_tellBeam 188 = .ok (.invokestatic 63, 3) := by decide +kernel
theorem dX6_tellBeam_191 : decode cX6_tellBeam 191 = .ok (.goto 4, 3) := by decide +kernel
theorem dX6_tellBeam_194 : decode cX6_tellBeam 194 = .ok (.iconst 0, 1) := by decide +kernel
theorem dX6_tellBeam_195 : decode cX6_tellBeam 195 = .ok (.istore 11, 2) := by decide +kernel
theorem dX6_tellBeam_197 : decode cX6_tellBeam 197 = .ok (.iload 11, 2) := by decide +kernel
theorem dX6_tellBeam_199 : decode cX6_tellBeam 199 = .ok (.iload 6, 2) := by decide +kernel
theorem dX6_tellBeam_201 : decode cX6_tellBeam 201 = .ok (.if_icmp .le 8, 3) := by decide +kernel
theorem dX6_tellBeam_204 : decode cX6_tellBeam 204 = .ok (.iload 11, 2) := by decide +kernel
theorem dX6_tellBeam_206 : decode cX6_tellBeam 206 = .ok (.goto 5, 3) := by decide +kernel
theorem dX6_tellBeam_209 : decode cX6_tellBeam 209 = .ok (.iload 6, 2) := by decide +kernel
theorem dX6_tellBeam_211 : decode cX6_tellBeam 211 = .ok (.istore 6, 2) := by decide +kernel
theorem dX6_tellBeam_213 : decode cX6_tellBeam 213 = .ok (.iinc 9 1, 3) := by decide +kernel
theorem dX6_tellBeam_216 : decode cX6_tellBeam 216 = .ok (.goto (-100), 3) := by decide +kernel
theorem dX6_tellBeam_219 : decode cX6_tellBeam 219 = .ok (.iinc 7 1, 3) := by decide +kernel
theorem dX6_tellBeam_222 : decode cX6_tellBeam 222 = .ok (.goto (-208), 3) := by decide +kernel
theorem dX6_tellBeam_225 : decode cX6_tellBeam 225 = .ok (.iload_n 2, 1) := by decide +kernel
theorem dX6_tellBeam_226 : decode cX6_tellBeam 226 = .ok (.ifCond .ne 14, 3) := by decide +kernel
theorem dX6_tellBeam_229 : decode cX6_tellBeam 229 = .ok (.aload_n 0, 1) := by decide +kernel
theorem dX6_tellBeam_230 : decode cX6_tellBeam 230 = .ok (.getfield 7, 3) := by decide +kernel
theorem dX6_tellBeam_233 : decode cX6_tellBeam 233 = .ok (.iconst 0, 1) := by decide +kernel
theorem dX6_tellBeam_234 : decode cX6_tellBeam 234 = .ok (.iload_n 1, 1) := by decide +kernel
theorem dX6_tellBeam_235 : decode cX6_tellBeam 235 = .ok (.iadd, 1) := by decide +kernel
theorem dX6_tellBeam_236 : decode cX6_tellBeam 236 = .ok (.iaload, 1) := by decide +kernel
theorem dX6_tellBeam_237 : decode cX6_tellBeam 237 = .ok (.goto 34, 3) := by decide +kernel
theorem dX6_tellBeam_240 : decode cX6_tellBeam 240 = .ok (.iload_n 2, 1) := by decide +kernel
theorem dX6_tellBeam_241 : decode cX6_tellBeam 241 = .ok (.iconst 1, 1) := by decide +kernel
theorem dX6_tellBeam_242 : decode cX6_tellBeam 242 = .ok (.if_icmp .ne 7, 3) := by decide +kernel
theorem dX6_tellBeam_245 : decode cX6_tellBeam 245 = .ok (.iload_n 3, 1) := by decide +kernel
theorem dX6_tellBeam_246 : decode cX6_tellBeam 246 = .ok (.goto 25, 3) := by decide +kernel
theorem dX6_tellBeam_249 : decode cX6_tellBeam 249 = .ok (.iload_n 2, 1) := by decide +kernel
theorem dX6_tellBeam_250 : decode cX6_tellBeam 250 = .ok (.iconst 2, 1) := by decide +kernel
theorem dX6_tellBeam_251 : decode cX6_tellBeam 251 = .ok (.if_icmp .ne 8, 3) := by decide +kernel
theorem dX6_tellBeam_254 : decode cX6_tellBeam 254 = .ok (.iload 4, 2) := by decide +kernel
theorem dX6_tellBeam_256 : decode cX6_tellBeam 256 = .ok (.goto 15, 3) := by decide +kernel
theorem dX6_tellBeam_259 : decode cX6_tellBeam 259 = .ok (.iload_n 2, 1) := by decide +kernel
theorem dX6_tellBeam_260 : decode cX6_tellBeam 260 = .ok (.iconst 3, 1) := by decide +kernel
theorem dX6_tellBeam_261 : decode cX6_tellBeam 261 = .ok (.if_icmp .ne 8, 3) := by decide +kernel
theorem dX6_tellBeam_264 : decode cX6_tellBeam 264 = .ok (.iload 5, 2) := by decide +kernel
theorem dX6_tellBeam_266 : decode cX6_tellBeam 266 = .ok (.goto 5, 3) := by decide +kernel
theorem dX6_tellBeam_269 : decode cX6_tellBeam 269 = .ok (.iload 6, 2) := by decide +kernel
theorem dX6_tellBeam_271 : decode cX6_tellBeam 271 = .ok (.ireturn, 1) := by decide +kernel
theorem dX6_beam_0 : decode cX6_beam 0 = .ok (.aload_n 0, 1) := by decide +kernel
theorem dX6_beam_1 : decode cX6_beam 1 = .ok (.iload_n 1, 1) := by decide +kernel
theorem dX6_beam_2 : decode cX6_beam 2 = .ok (.invokestatic 114, 3) := by decide +kernel
theorem dX6_beam_5 : decode cX6_beam 5 = .ok (.ifCond .ne 7, 3) := by decide +kernel
theorem dX6_beam_8 : decode cX6_beam 8 = .ok (.iconst 1, 1) := by decide +kernel
theorem dX6_beam_9 : decode cX6_beam 9 = .ok (.goto 20, 3) := by decide +kernel
theorem dX6_beam_12 : decode cX6_beam 12 = .ok (.iload_n 2, 1) := by decide +kernel
theorem dX6_beam_13 : decode cX6_beam 13 = .ok (.i2l, 1) := by decide +kernel
theorem dX6_beam_14 : decode cX6_beam 14 = .ok (.lconst 0, 1) := by decide +kernel
theorem dX6_beam_15 : decode cX6_beam 15 = .ok (.ldc2_w 204, 3) := by decide +kernel
theorem dX6_beam_18 : decode cX6_beam 18 = .ok (.invokestatic 37, 3) := by decide +kernel
theorem dX6_beam_21 : decode cX6_beam 21 = .ok (.ifCond .ne 7, 3) := by decide +kernel
theorem dX6_beam_24 : decode cX6_beam 24 = .ok (.iconst 2, 1) := by decide +kernel
theorem dX6_beam_25 : decode cX6_beam 25 = .ok (.goto 4, 3) := by decide +kernel
theorem dX6_beam_28 : decode cX6_beam 28 = .ok (.iconst 0, 1) := by decide +kernel
theorem dX6_beam_29 : decode cX6_beam 29 = .ok (.invokevirtual 94, 3) := by decide +kernel
theorem dX6_beam_32 : decode cX6_beam 32 = .ok (.ifCond .eq 5, 3) := by decide +kernel
theorem dX6_beam_35 : decode cX6_beam 35 = .ok (.iconst 0, 1) := by decide +kernel
theorem dX6_beam_36 : decode cX6_beam 36 = .ok (.ireturn, 1) := by decide +kernel
theorem dX6_beam_37 : decode cX6_beam 37 = .ok (.aload_n 0, 1) := by decide +kernel
theorem dX6_beam_38 : decode cX6_beam 38 = .ok (.iload_n 1, 1) := by decide +kernel
theorem dX6_beam_39 : decode cX6_beam 39 = .ok (.iload_n 2, 1) := by decide +kernel
theorem dX6_beam_40 : decode cX6_beam 40 = .ok (.invokevirtual 206, 3) := by decide +kernel
theorem dX6_beam_43 : decode cX6_beam 43 = .ok (.ireturn, 1) := by decide +kernel
theorem dX6_allStrikes_0 : decode cX6_allStrikes 0 = .ok (.iconst 0, 1) := by decide +kernel
theorem dX6_allStrikes_1 : decode cX6_allStrikes 1 = .ok (.istore_n 1, 1) := by decide +kernel
theorem dX6_allStrikes_2 : decode cX6_allStrikes 2 = .ok (.iconst 0, 1) := by decide +kernel
theorem dX6_allStrikes_3 : decode cX6_allStrikes 3 = .ok (.istore_n 2, 1) := by decide +kernel
theorem dX6_allStrikes_4 : decode cX6_allStrikes 4 = .ok (.iload_n 2, 1) := by decide +kernel
theorem dX6_allStrikes_5 : decode cX6_allStrikes 5 = .ok (.bipush 8, 2) := by decide +kernel
theorem dX6_allStrikes_7 : decode cX6_allStrikes 7 = .ok (.if_icmp .ge 23, 3) := by decide +kernel
theorem dX6_allStrikes_10 : decode cX6_allStrikes 10 = .ok (.iload_n 1, 1) := by decide +kernel
theorem dX6_allStrikes_11 : decode cX6_allStrikes 11 = .ok (.aload_n 0, 1) := by decide +kernel
theorem dX6_allStrikes_12 : decode cX6_allStrikes 12 = .ok (.getfield 7, 3) := by decide +kernel
theorem dX6_allStrikes_15 : decode cX6_allStrikes 15 = .ok (.iload_n 2, 1) := by decide +kernel
theorem dX6_allStrikes_16 : decode cX6_allStrikes 16 = .ok (.invokestatic 47, 3) := by decide +kernel
theorem dX6_allStrikes_19 : decode cX6_allStrikes 19 = .ok (.iconst 4, 1) := by decide +kernel
theorem dX6_allStrikes_20 : decode cX6_allStrikes 20 = .ok (.iadd, 1) := by decide +kernel
theorem dX6_allStrikes_21 : decode cX6_allStrikes 21 = .ok (.iaload, 1) := by decide +kernel
theorem dX6_allStrikes_22 : decode cX6_allStrikes 22 = .ok (.iadd, 1) := by decide +kernel
theorem dX6_allStrikes_23 : decode cX6_allStrikes 23 = .ok (.istore_n 1, 1) := by decide +kernel
theorem dX6_allStrikes_24 : decode cX6_allStrikes 24 = .ok (.iinc 2 1, 3) := by decide +kernel
theorem dX6_allStrikes_27 : decode cX6_allStrikes 27 = .ok (.goto (-23), 3) := by decide +kernel
theorem dX6_allStrikes_30 : decode cX6_allStrikes 30 = .ok (.iload_n 1, 1) := by decide +kernel
theorem dX6_allStrikes_31 : decode cX6_allStrikes 31 = .ok (.ireturn, 1) := by decide +kernel
theorem dX6_going_0 : decode cX6_going 0 = .ok (.iconst 0, 1) := by decide +kernel
theorem dX6_going_1 : decode cX6_going 1 = .ok (.istore_n 1, 1) := by decide +kernel
theorem dX6_going_2 : decode cX6_going 2 = .ok (.iconst 0, 1) := by decide +kernel
theorem dX6_going_3 : decode cX6_going 3 = .ok (.istore_n 2, 1) := by decide +kernel
theorem dX6_going_4 : decode cX6_going 4 = .ok (.iload_n 2, 1) := by decide +kernel
theorem dX6_going_5 : decode cX6_going 5 = .ok (.bipush 8, 2) := by decide +kernel
theorem dX6_going_7 : decode cX6_going 7 = .ok (.if_icmp .ge 28, 3) := by decide +kernel
theorem dX6_going_10 : decode cX6_going 10 = .ok (.iload_n 1, 1) := by decide +kernel
theorem dX6_going_11 : decode cX6_going 11 = .ok (.aload_n 0, 1) := by decide +kernel
theorem dX6_going_12 : decode cX6_going 12 = .ok (.getfield 7, 3) := by decide +kernel
theorem dX6_going_15 : decode cX6_going 15 = .ok (.iload_n 2, 1) := by decide +kernel
theorem dX6_going_16 : decode cX6_going 16 = .ok (.invokestatic 51, 3) := by decide +kernel
theorem dX6_going_19 : decode cX6_going 19 = .ok (.ifCond .eq 7, 3) := by decide +kernel
theorem dX6_going_22 : decode cX6_going 22 = .ok (.iconst 1, 1) := by decide +kernel
theorem dX6_going_23 : decode cX6_going 23 = .ok (.goto 4, 3) := by decide +kernel
theorem dX6_going_26 : decode cX6_going 26 = .ok (.iconst 0, 1) := by decide +kernel
theorem dX6_going_27 : decode cX6_going 27 = .ok (.iadd, 1) := by decide +kernel
theorem dX6_going_28 : decode cX6_going 28 = .ok (.istore_n 1, 1) := by decide +kernel
theorem dX6_going_29 : decode cX6_going 29 = .ok (.iinc 2 1, 3) := by decide +kernel
theorem dX6_going_32 : decode cX6_going 32 = .ok (.goto (-28), 3) := by decide +kernel
theorem dX6_going_35 : decode cX6_going 35 = .ok (.iload_n 1, 1) := by decide +kernel
theorem dX6_going_36 : decode cX6_going 36 = .ok (.ireturn, 1) := by decide +kernel
theorem dX6_lockedPairs_0 : decode cX6_lockedPairs 0 = .ok (.iconst 0, 1) := by decide +kernel
theorem dX6_lockedPairs_1 : decode cX6_lockedPairs 1 = .ok (.istore_n 1, 1) := by decide +kernel
theorem dX6_lockedPairs_2 : decode cX6_lockedPairs 2 = .ok (.iconst 0, 1) := by decide +kernel
theorem dX6_lockedPairs_3 : decode cX6_lockedPairs 3 = .ok (.istore_n 2, 1) := by decide +kernel
theorem dX6_lockedPairs_4 : decode cX6_lockedPairs 4 = .ok (.iload_n 2, 1) := by decide +kernel
theorem dX6_lockedPairs_5 : decode cX6_lockedPairs 5 = .ok (.bipush 8, 2) := by decide +kernel
theorem dX6_lockedPairs_7 : decode cX6_lockedPairs 7 = .ok (.if_icmp .ge 45, 3) := by decide +kernel
theorem dX6_lockedPairs_10 : decode cX6_lockedPairs 10 = .ok (.iload_n 2, 1) := by decide +kernel
theorem dX6_lockedPairs_11 : decode cX6_lockedPairs 11 = .ok (.iconst 1, 1) := by decide +kernel
theorem dX6_lockedPairs_12 : decode cX6_lockedPairs 12 = .ok (.iadd, 1) := by decide +kernel
theorem dX6_lockedPairs_13 : decode cX6_lockedPairs 13 = .ok (.istore_n 3, 1) := by decide +kernel
theorem dX6_lockedPairs_14 : decode cX6_lockedPairs 14 = .ok (.iload_n 3, 1) := by decide +kernel
theorem dX6_lockedPairs_15 : decode cX6_lockedPairs 15 = .ok (.bipush 8, 2) := by decide +kernel
theorem dX6_lockedPairs_17 : decode cX6_lockedPairs 17 = .ok (.if_icmp .ge 29, 3) := by decide +kernel
theorem dX6_lockedPairs_20 : decode cX6_lockedPairs 20 = .ok (.iload_n 1, 1) := by decide +kernel
theorem dX6_lockedPairs_21 : decode cX6_lockedPairs 21 = .ok (.aload_n 0, 1) := by decide +kernel
theorem dX6_lockedPairs_22 : decode cX6_lockedPairs 22 = .ok (.getfield 7, 3) := by decide +kernel
theorem dX6_lockedPairs_25 : decode cX6_lockedPairs 25 = .ok (.iload_n 2, 1) := by decide +kernel
theorem dX6_lockedPairs_26 : decode cX6_lockedPairs 26 = .ok (.iload_n 3, 1) := by decide +kernel
theorem dX6_lockedPairs_27 : decode cX6_lockedPairs 27 = .ok (.invokestatic 81, 3) := by decide +kernel
theorem dX6_lockedPairs_30 : decode cX6_lockedPairs 30 = .ok (.ifCond .eq 7, 3) := by decide +kernel
theorem dX6_lockedPairs_33 : decode cX6_lockedPairs 33 = .ok (.iconst 1, 1) := by decide +kernel
theorem dX6_lockedPairs_34 : decode cX6_lockedPairs 34 = .ok (.goto 4, 3) := by decide +kernel
theorem dX6_lockedPairs_37 : decode cX6_lockedPairs 37 = .ok (.iconst 0, 1) := by decide +kernel
theorem dX6_lockedPairs_38 : decode cX6_lockedPairs 38 = .ok (.iadd, 1) := by decide +kernel
theorem dX6_lockedPairs_39 : decode cX6_lockedPairs 39 = .ok (.istore_n 1, 1) := by decide +kernel
theorem dX6_lockedPairs_40 : decode cX6_lockedPairs 40 = .ok (.iinc 3 1, 3) := by decide +kernel
theorem dX6_lockedPairs_43 : decode cX6_lockedPairs 43 = .ok (.goto (-29), 3) := by decide +kernel
theorem dX6_lockedPairs_46 : decode cX6_lockedPairs 46 = .ok (.iinc 2 1, 3) := by decide +kernel
theorem dX6_lockedPairs_49 : decode cX6_lockedPairs 49 = .ok (.goto (-45), 3) := by decide +kernel
theorem dX6_lockedPairs_52 : decode cX6_lockedPairs 52 = .ok (.iload_n 1, 1) := by decide +kernel
theorem dX6_lockedPairs_53 : decode cX6_lockedPairs 53 = .ok (.ireturn, 1) := by decide +kernel
theorem dX6_tellCount_0 : decode cX6_tellCount 0 = .ok (.iload_n 1, 1) := by decide +kernel
theorem dX6_tellCount_1 : decode cX6_tellCount 1 = .ok (.tableswitch 117 0 8 #[51, 59, 64, 69, 74, 83, 91, 100, 108], 51) := by decide +kernel
theorem dX6_tellCount_52 : decode cX6_tellCount 52 = .ok (.aload_n 0, 1) := by decide +kernel
theorem dX6_tellCount_53 : decode cX6_tellCount 53 = .ok (.getfield 7, 3) := by decide +kernel
theorem dX6_tellCount_56 : decode cX6_tellCount 56 = .ok (.bipush 126, 2) := by decide +kernel
theorem dX6_tellCount_58 : decode cX6_tellCount 58 = .ok (.iaload, 1) := by decide +kernel
theorem dX6_tellCount_59 : decode cX6_tellCount 59 = .ok (.ireturn, 1) := by decide +kernel
theorem dX6_tellCount_60 : decode cX6_tellCount 60 = .ok (.aload_n 0, 1) := by decide +kernel
theorem dX6_tellCount_61 : decode cX6_tellCount 61 = .ok (.invokevirtual 209, 3) := by decide +kernel
theorem dX6_tellCount_64 : decode cX6_tellCount 64 = .ok (.ireturn, 1) := by decide +kernel
theorem dX6_tellCount_65 : decode cX6_tellCount 65 = .ok (.aload_n 0, 1) := by decide +kernel
theorem dX6_tellCount_66 : decode cX6_tellCount 66 = .ok (.invokevirtual 212, 3) := by decide +kernel
theorem dX6_tellCount_69 : decode cX6_tellCount 69 = .ok (.ireturn, 1) := by decide +kernel
theorem dX6_tellCount_70 : decode cX6_tellCount 70 = .ok (.aload_n 0, 1) := by decide +kernel
theorem dX6_tellCount_71 : decode cX6_tellCount 71 = .ok (.invokevirtual 215, 3) := by decide +kernel
theorem dX6_tellCount_74 : decode cX6_tellCount 74 = .ok (.ireturn, 1) := by decide +kernel
theorem dX6_tellCount_75 : decode cX6_tellCount 75 = .ok (.aload_n 0, 1) := by decide +kernel
theorem dX6_tellCount_76 : decode cX6_tellCount 76 = .ok (.aload_n 0, 1) := by decide +kernel
theorem dX6_tellCount_77 : decode cX6_tellCount 77 = .ok (.getfield 7, 3) := by decide +kernel
theorem dX6_tellCount_80 : decode cX6_tellCount 80 = .ok (.invokevirtual 218, 3) := by decide +kernel
theorem dX6_tellCount_83 : decode cX6_tellCount 83 = .ok (.ireturn, 1) := by decide +kernel
theorem dX6_tellCount_84 : decode cX6_tellCount 84 = .ok (.aload_n 0, 1) := by decide +kernel
theorem dX6_tellCount_85 : decode cX6_tellCount 85 = .ok (.getfield 7, 3) := by decide +kernel
theorem dX6_tellCount_88 : decode cX6_tellCount 88 = .ok (.invokestatic 221, 3) := by decide +kernel
theorem dX6_tellCount_91 : decode cX6_tellCount 91 = .ok (.ireturn, 1) := by decide +kernel
theorem dX6_tellCount_92 : decode cX6_tellCount 92 = .ok (.aload_n 0, 1) := by decide +kernel
theorem dX6_tellCount_93 : decode cX6_tellCount 93 = .ok (.aload_n 0, 1) := by decide +kernel
theorem dX6_tellCount_94 : decode cX6_tellCount 94 = .ok (.getfield 7, 3) := by decide +kernel
theorem dX6_tellCount_97 : decode cX6_tellCount 97 = .ok (.invokevirtual 224, 3) := by decide +kernel
theorem dX6_tellCount_100 : decode cX6_tellCount 100 = .ok (.ireturn, 1) := by decide +kernel
theorem dX6_tellCount_101 : decode cX6_tellCount 101 = .ok (.aload_n 0, 1) := by decide +kernel
theorem dX6_tellCount_102 : decode cX6_tellCount 102 = .ok (.getfield 7, 3) := by decide +kernel
theorem dX6_tellCount_105 : decode cX6_tellCount 105 = .ok (.bipush 127, 2) := by decide +kernel
theorem dX6_tellCount_107 : decode cX6_tellCount 107 = .ok (.iaload, 1) := by decide +kernel
theorem dX6_tellCount_108 : decode cX6_tellCount 108 = .ok (.ireturn, 1) := by decide +kernel
theorem dX6_tellCount_109 : decode cX6_tellCount 109 = .ok (.aload_n 0, 1) := by decide +kernel
theorem dX6_tellCount_110 : decode cX6_tellCount 110 = .ok (.getfield 7, 3) := by decide +kernel
theorem dX6_tellCount_113 : decode cX6_tellCount 113 = .ok (.sipush 128, 3) := by decide +kernel
theorem dX6_tellCount_116 : decode cX6_tellCount 116 = .ok (.iaload, 1) := by decide +kernel
theorem dX6_tellCount_117 : decode cX6_tellCount 117 = .ok (.ireturn, 1) := by decide +kernel
theorem dX6_tellCount_118 : decode cX6_tellCount 118 = .ok (.aload_n 0, 1) := by decide +kernel
theorem dX6_tellCount_119 : decode cX6_tellCount 119 = .ok (.getfield 91, 3) := by decide +kernel
theorem dX6_tellCount_122 : decode cX6_tellCount 122 = .ok (.ireturn, 1) := by decide +kernel
theorem dX6_count_0 : decode cX6_count 0 = .ok (.aload_n 0, 1) := by decide +kernel
theorem dX6_count_1 : decode cX6_count 1 = .ok (.iload_n 1, 1) := by decide +kernel
theorem dX6_count_2 : decode cX6_count 2 = .ok (.i2l, 1) := by decide +kernel
theorem dX6_count_3 : decode cX6_count 3 = .ok (.lconst 0, 1) := by decide +kernel
theorem dX6_count_4 : decode cX6_count 4 = .ok (.ldc2_w 227, 3) := by decide +kernel
theorem dX6_count_7 : decode cX6_count 7 = .ok (.invokestatic 37, 3) := by decide +kernel
theorem dX6_count_10 : decode cX6_count 10 = .ok (.ifCond .eq 7, 3) := by decide +kernel
theorem dX6_count_13 : decode cX6_count 13 = .ok (.iconst 0, 1) := by decide +kernel
theorem dX6_count_14 : decode cX6_count 14 = .ok (.goto 4, 3) := by decide +kernel
theorem dX6_count_17 : decode cX6_count 17 = .ok (.iconst 1, 1) := by decide +kernel
theorem dX6_count_18 : decode cX6_count 18 = .ok (.invokevirtual 94, 3) := by decide +kernel
theorem dX6_count_21 : decode cX6_count 21 = .ok (.ifCond .eq 5, 3) := by decide +kernel
theorem dX6_count_24 : decode cX6_count 24 = .ok (.iconst 0, 1) := by decide +kernel
theorem dX6_count_25 : decode cX6_count 25 = .ok (.ireturn, 1) := by decide +kernel
theorem dX6_count_26 : decode cX6_count 26 = .ok (.aload_n 0, 1) := by decide +kernel
theorem dX6_count_27 : decode cX6_count 27 = .ok (.iload_n 1, 1) := by decide +kernel
theorem dX6_count_28 : decode cX6_count 28 = .ok (.invokevirtual 229, 3) := by decide +kernel
theorem dX6_count_31 : decode cX6_count 31 = .ok (.ireturn, 1) := by decide +kernel
theorem dX6_setting_0 : decode cX6_setting 0 = .ok (.aload_n 0, 1) := by decide +kernel
theorem dX6_setting_1 : decode cX6_setting 1 = .ok (.iload_n 1, 1) := by decide +kernel
theorem dX6_setting_2 : decode cX6_setting 2 = .ok (.i2l, 1) := by decide +kernel
theorem dX6_setting_3 : decode cX6_setting 3 = .ok (.lconst 0, 1) := by decide +kernel
theorem dX6_setting_4 : decode cX6_setting 4 = .ok (.ldc2_w 41, 3) := by decide +kernel
theorem dX6_setting_7 : decode cX6_setting 7 = .ok (.invokestatic 37, 3) := by decide +kernel
theorem dX6_setting_10 : decode cX6_setting 10 = .ok (.ifCond .eq 7, 3) := by decide +kernel
theorem dX6_setting_13 : decode cX6_setting 13 = .ok (.iconst 0, 1) := by decide +kernel
theorem dX6_setting_14 : decode cX6_setting 14 = .ok (.goto 4, 3) := by decide +kernel
theorem dX6_setting_17 : decode cX6_setting 17 = .ok (.iconst 1, 1) := by decide +kernel
theorem dX6_setting_18 : decode cX6_setting 18 = .ok (.invokevirtual 94, 3) := by decide +kernel
theorem dX6_setting_21 : decode cX6_setting 21 = .ok (.ifCond .eq 5, 3) := by decide +kernel
theorem dX6_setting_24 : decode cX6_setting 24 = .ok (.iconst 0, 1) := by decide +kernel
theorem dX6_setting_25 : decode cX6_setting 25 = .ok (.ireturn, 1) := by decide +kernel
theorem dX6_setting_26 : decode cX6_setting 26 = .ok (.aload_n 0, 1) := by decide +kernel
theorem dX6_setting_27 : decode cX6_setting 27 = .ok (.getfield 7, 3) := by decide +kernel
theorem dX6_setting_30 : decode cX6_setting 30 = .ok (.iconst 3, 1) := by decide +kernel
theorem dX6_setting_31 : decode cX6_setting 31 = .ok (.iload_n 1, 1) := by decide +kernel
theorem dX6_setting_32 : decode cX6_setting 32 = .ok (.iadd, 1) := by decide +kernel
theorem dX6_setting_33 : decode cX6_setting 33 = .ok (.iaload, 1) := by decide +kernel
theorem dX6_setting_34 : decode cX6_setting 34 = .ok (.ireturn, 1) := by decide +kernel
theorem dX6_wouldBe_0 : decode cX6_wouldBe 0 = .ok (.aload_n 0, 1) := by decide +kernel
theorem dX6_wouldBe_1 : decode cX6_wouldBe 1 = .ok (.getfield 7, 3) := by decide +kernel
theorem dX6_wouldBe_4 : decode cX6_wouldBe 4 = .ok (.aload_n 0, 1) := by decide +kernel
theorem dX6_wouldBe_5 : decode cX6_wouldBe 5 = .ok (.getfield 13, 3) := by decide +kernel
theorem dX6_wouldBe_8 : decode cX6_wouldBe 8 = .ok (.invokestatic 181, 3) := by decide +kernel
theorem dX6_wouldBe_11 : decode cX6_wouldBe 11 = .ok (.aload_n 0, 1) := by decide +kernel
theorem dX6_wouldBe_12 : decode cX6_wouldBe 12 = .ok (.aload_n 0, 1) := by decide +kernel
theorem dX6_wouldBe_13 : decode cX6_wouldBe 13 = .ok (.getfield 13, 3) := by decide +kernel
theorem dX6_wouldBe_16 : decode cX6_wouldBe 16 = .ok (.iload_n 1, 1) := by decide +kernel
theorem dX6_wouldBe_17 : decode cX6_wouldBe 17 = .ok (.invokevirtual 101, 3) := by decide +kernel
theorem dX6_wouldBe_20 : decode cX6_wouldBe 20 = .ok (.istore 4, 2) := by decide +kernel
theorem dX6_wouldBe_22 : decode cX6_wouldBe 22 = .ok (.iload_n 2, 1) := by decide +kernel
theorem dX6_wouldBe_23 : decode cX6_wouldBe 23 = .ok (.invokestatic 47, 3) := by decide +kernel
theorem dX6_wouldBe_26 : decode cX6_wouldBe 26 = .ok (.istore 5, 2) := by decide +kernel
theorem dX6_wouldBe_28 : decode cX6_wouldBe 28 = .ok (.iload_n 3, 1) := by decide +kernel
theorem dX6_wouldBe_29 : decode cX6_wouldBe 29 = .ok (.ifCond .ne 15, 3) := by decide +kernel
theorem dX6_wouldBe_32 : decode cX6_wouldBe 32 = .ok (.aload_n 0, 1) := by decide +kernel
theorem dX6_wouldBe_33 : decode cX6_wouldBe 33 = .ok (.getfield 13, 3) := by decide +kernel
theorem dX6_wouldBe_36 : decode cX6_wouldBe 36 = .ok (.iload 5, 2) := by decide +kernel
theorem dX6_wouldBe_38 : decode cX6_wouldBe 38 = .ok (.iconst 2, 1) := by decide +kernel
theorem dX6_wouldBe_39 : decode cX6_wouldBe 39 = .ok (.iadd, 1) := by decide +kernel
theorem dX6_wouldBe_40 : decode cX6_wouldBe 40 = .ok (.iaload, 1) := by decide +kernel
theorem dX6_wouldBe_41 : decode cX6_wouldBe 41 = .ok (.goto 39, 3) := by decide +kernel
theorem dX6_wouldBe_44 : decode cX6_wouldBe 44 = .ok (.iload_n 3, 1) := by decide +kernel
theorem dX6_wouldBe_45 : decode cX6_wouldBe 45 = .ok (.iconst 1, 1) := by decide +kernel
theorem dX6_wouldBe_46 : decode cX6_wouldBe 46 = .ok (.if_icmp .ne 25, 3) := by decide +kernel
theorem dX6_wouldBe_49 : decode cX6_wouldBe 49 = .ok (.aload_n 0, 1) := by decide +kernel
theorem dX6_wouldBe_50 : decode cX6_wouldBe 50 = .ok (.getfield 13, 3) := by decide +kernel
theorem dX6_wouldBe_53 : decode cX6_wouldBe 53 = .ok (.iload 5, 2) := by decide +kernel
theorem dX6_wouldBe_55 : decode cX6_wouldBe 55 = .ok (.iconst 4, 1) := by decide +kernel
theorem dX6_wouldBe_56 : decode cX6_wouldBe 56 = .ok (.iadd, 1) := by decide +kernel
theorem dX6_wouldBe_57 : decode cX6_wouldBe 57 = .ok (.iaload, 1) := by decide +kernel
theorem dX6_wouldBe_58 : decode cX6_wouldBe 58 = .ok (.aload_n 0, 1) := by decide +kernel
theorem dX6_wouldBe_59 : decode cX6_wouldBe 59 = .ok (.getfield 7, 3) := by decide +kernel
theorem dX6_wouldBe_62 : decode cX6_wouldBe 62 = .ok (.iload 5, 2) := by decide +kernel
theorem dX6_wouldBe_64 : decode cX6_wouldBe 64 = .ok (.iconst 4, 1) := by decide +kernel
theorem dX6_wouldBe_65 : decode cX6_wouldBe 65 = .ok (.iadd, 1) := by decide +kernel
theorem dX6_wouldBe_66 : decode cX6_wouldBe 66 = .ok (.iaload, 1) := by decide +kernel
theorem dX6_wouldBe_67 : decode cX6_wouldBe 67 = .ok (.isub, 1) := by decide +kernel
theorem dX6_wouldBe_68 : decode cX6_wouldBe 68 = .ok (.goto 12, 3) := by decide +kernel
theorem dX6_wouldBe_71 : decode cX6_wouldBe 71 = .ok (.aload_n 0, 1) := by decide +kernel
theorem dX6_wouldBe_72 : decode cX6_wouldBe 72 = .ok (.aload_n 0, 1) := by decide +kernel
theorem dX6_wouldBe_73 : decode cX6_wouldBe 73 = .ok (.getfield 13, 3) := by decide +kernel
theorem dX6_wouldBe_76 : decode cX6_wouldBe 76 = .ok (.iload_n 2, 1) := by decide +kernel
theorem dX6_wouldBe_77 : decode cX6_wouldBe 77 = .ok (.invokevirtual 88, 3) := by decide +kernel
theorem dX6_wouldBe_80 : decode cX6_wouldBe 80 = .ok (.ireturn, 1) := by decide +kernel
theorem dX6_ifPassed_0 : decode cX6_ifPassed 0 = .ok (.aload_n 0, 1) := by decide +kernel
theorem dX6_ifPassed_1 : decode cX6_ifPassed 1 = .ok (.iload_n 2, 1) := by decide +kernel
theorem dX6_ifPassed_2 : decode cX6_ifPassed 2 = .ok (.invokestatic 104, 3) := by decide +kernel
theorem dX6_ifPassed_5 : decode cX6_ifPassed 5 = .ok (.ifCond .ne 7, 3) := by decide +kernel
theorem dX6_ifPassed_8 : decode cX6_ifPassed 8 = .ok (.iconst 1, 1) := by decide +kernel
theorem dX6_ifPassed_9 : decode cX6_ifPassed 9 = .ok (.goto 32, 3) := by decide +kernel
theorem dX6_ifPassed_12 : decode cX6_ifPassed 12 = .ok (.iload_n 1, 1) := by decide +kernel
theorem dX6_ifPassed_13 : decode cX6_ifPassed 13 = .ok (.i2l, 1) := by decide +kernel
theorem dX6_ifPassed_14 : decode cX6_ifPassed 14 = .ok (.lconst 1, 1) := by decide +kernel
theorem dX6_ifPassed_15 : decode cX6_ifPassed 15 = .ok (.ldc2_w 45, 3) := by decide +kernel
theorem dX6_ifPassed_18 : decode cX6_ifPassed 18 = .ok (.invokestatic 37, 3) := by decide +kernel
theorem dX6_ifPassed_21 : decode cX6_ifPassed 21 = .ok (.ifCond .eq 15, 3) := by decide +kernel
theorem dX6_ifPassed_24 : decode cX6_ifPassed 24 = .ok (.iload_n 3, 1) := by decide +kernel
theorem dX6_ifPassed_25 : decode cX6_ifPassed 25 = .ok (.i2l, 1) := by decide +kernel
theorem dX6_ifPassed_26 : decode cX6_ifPassed 26 = .ok (.lconst 0, 1) := by decide +kernel
theorem dX6_ifPassed_27 : decode cX6_ifPassed 27 = .ok (.ldc2_w 41, 3) := by decide +kernel
theorem dX6_ifPassed_30 : decode cX6_ifPassed 30 = .ok (.invokestatic 37, 3) := by decide +kernel
theorem dX6_ifPassed_33 : decode cX6_ifPassed 33 = .ok (.ifCond .ne 7, 3) := by decide +kernel
theorem dX6_ifPassed_36 : decode cX6_ifPassed 36 = .ok (.iconst 2, 1) := by decide +kernel
theorem dX6_ifPassed_37 : decode cX6_ifPassed 37 = .ok (.goto 4, 3) := by decide +kernel
theorem dX6_ifPassed_40 : decode cX6_ifPassed 40 = .ok (.iconst 0, 1) := by decide +kernel
theorem dX6_ifPassed_41 : decode cX6_ifPassed 41 = .ok (.invokevirtual 94, 3) := by decide +kernel
theorem dX6_ifPassed_44 : decode cX6_ifPassed 44 = .ok (.ifCond .eq 5, 3) := by decide +kernel
theorem dX6_ifPassed_47 : decode cX6_ifPassed 47 = .ok (.iconst 0, 1) := by decide +kernel
theorem dX6_ifPassed_48 : decode cX6_ifPassed 48 = .ok (.ireturn, 1) := by decide +kernel
theorem dX6_ifPassed_49 : decode cX6_ifPassed 49 = .ok (.aload_n 0, 1) := by decide +kernel
theorem dX6_ifPassed_50 : decode cX6_ifPassed 50 = .ok (.iload_n 1, 1) := by decide +kernel
theorem dX6_ifPassed_51 : decode cX6_ifPassed 51 = .ok (.iload_n 2, 1) := by decide +kernel
theorem dX6_ifPassed_52 : decode cX6_ifPassed 52 = .ok (.iload_n 3, 1) := by decide +kernel
theorem dX6_ifPassed_53 : decode cX6_ifPassed 53 = .ok (.invokevirtual 232, 3) := by decide +kernel
theorem dX6_ifPassed_56 : decode cX6_ifPassed 56 = .ok (.ireturn, 1) := by decide +kernel
theorem dX6_lockedBehind_0 : decode cX6_lockedBehind 0 = .ok (.aload_n 0, 1) := by decide +kernel
theorem dX6_lockedBehind_1 : decode cX6_lockedBehind 1 = .ok (.getfield 7, 3) := by decide +kernel
theorem dX6_lockedBehind_4 : decode cX6_lockedBehind 4 = .ok (.aload_n 0, 1) := by decide +kernel
theorem dX6_lockedBehind_5 : decode cX6_lockedBehind 5 = .ok (.getfield 13, 3) := by decide +kernel
theorem dX6_lockedBehind_8 : decode cX6_lockedBehind 8 = .ok (.invokestatic 181, 3) := by decide +kernel
theorem dX6_lockedBehind_11 : decode cX6_lockedBehind 11 = .ok (.iconst 0, 1) := by decide +kernel
theorem dX6_lockedBehind_12 : decode cX6_lockedBehind 12 = .ok (.istore_n 3, 1) := by decide +kernel
theorem dX6_lockedBehind_13 : decode cX6_lockedBehind 13 = .ok (.iload_n 3, 1) := by decide +kernel
theorem dX6_lockedBehind_14 : decode cX6_lockedBehind 14 = .ok (.sipush 500, 3) := by decide +kernel
theorem dX6_lockedBehind_17 : decode cX6_lockedBehind 17 = .ok (.if_icmp .gt 33, 3) := by decide +kernel
theorem dX6_lockedBehind_20 : decode cX6_lockedBehind 20 = .ok (.aload_n 0, 1) := by decide +kernel
theorem dX6_lockedBehind_21 : decode cX6_lockedBehind 21 = .ok (.getfield 13, 3) := by decide +kernel
theorem dX6_lockedBehind_24 : decode cX6_lockedBehind 24 = .ok (.iload_n 1, 1) := by decide +kernel
theorem dX6_lockedBehind_25 : decode cX6_lockedBehind 25 = .ok (.iload_n 2, 1) := by decide +kernel
theorem dX6_lockedBehind_26 : decode cX6_lockedBehind 26 = .ok (.invokestatic 81, 3) := by decide +kernel
theorem dX6_lockedBehind_29 : decode cX6_lockedBehind 29 = .ok (.ifCond .eq 5, 3) := by decide +kernel
theorem dX6_lockedBehind_32 : decode cX6_lockedBehind 32 = .ok (.iload_n 3, 1) := by decide +kernel
theorem dX6_lockedBehind_33 : decode cX6_lockedBehind 33 = .ok (.ireturn, 1) := by decide +kernel
theorem dX6_lockedBehind_34 : decode cX6_lockedBehind 34 = .ok (.aload_n 0, 1) := by decide +kernel
theorem dX6_lockedBehind_35 : decode cX6_lockedBehind 35 = .ok (.aload_n 0, 1) := by decide +kernel
theorem dX6_lockedBehind_36 : decode cX6_lockedBehind 36 = .ok (.getfield 13, 3) := by decide +kernel
theorem dX6_lockedBehind_39 : decode cX6_lockedBehind 39 = .ok (.invokevirtual 77, 3) := by decide +kernel
theorem dX6_lockedBehind_42 : decode cX6_lockedBehind 42 = .ok (.istore 4, 2) := by decide +kernel
theorem dX6_lockedBehind_44 : decode cX6_lockedBehind 44 = .ok (.iinc 3 1, 3) := by decide +kernel
theorem dX6_lockedBehind_47 : decode cX6_lockedBehind 47 = .ok (.goto (-34), 3) := by decide +kernel
theorem dX6_lockedBehind_50 : decode cX6_lockedBehind 50 = .ok (.iconst (-1), 1) := by decide +kernel
theorem dX6_lockedBehind_51 : decode cX6_lockedBehind 51 = .ok (.ireturn, 1) := by decide +kernel
theorem dX6_lockedIn_0 : decode cX6_lockedIn 0 = .ok (.aload_n 0, 1) := by decide +kernel
theorem dX6_lockedIn_1 : decode cX6_lockedIn 1 = .ok (.iload_n 1, 1) := by decide +kernel
theorem dX6_lockedIn_2 : decode cX6_lockedIn 2 = .ok (.iload_n 2, 1) := by decide +kernel
theorem dX6_lockedIn_3 : decode cX6_lockedIn 3 = .ok (.invokestatic 197, 3) := by decide +kernel
theorem dX6_lockedIn_6 : decode cX6_lockedIn 6 = .ok (.ifCond .eq 7, 3) := by decide +kernel
theorem dX6_lockedIn_9 : decode cX6_lockedIn 9 = .ok (.iconst 0, 1) := by decide +kernel
theorem dX6_lockedIn_10 : decode cX6_lockedIn 10 = .ok (.goto 4, 3) := by decide +kernel
theorem dX6_lockedIn_13 : decode cX6_lockedIn 13 = .ok (.iconst 1, 1) := by decide +kernel
theorem dX6_lockedIn_14 : decode cX6_lockedIn 14 = .ok (.invokevirtual 94, 3) := by decide +kernel
theorem dX6_lockedIn_17 : decode cX6_lockedIn 17 = .ok (.ifCond .eq 5, 3) := by decide +kernel
theorem dX6_lockedIn_20 : decode cX6_lockedIn 20 = .ok (.iconst 0, 1) := by decide +kernel
theorem dX6_lockedIn_21 : decode cX6_lockedIn 21 = .ok (.ireturn, 1) := by decide +kernel
theorem dX6_lockedIn_22 : decode cX6_lockedIn 22 = .ok (.aload_n 0, 1) := by decide +kernel
theorem dX6_lockedIn_23 : decode cX6_lockedIn 23 = .ok (.iload_n 1, 1) := by decide +kernel
theorem dX6_lockedIn_24 : decode cX6_lockedIn 24 = .ok (.iload_n 2, 1) := by decide +kernel
theorem dX6_lockedIn_25 : decode cX6_lockedIn 25 = .ok (.invokevirtual 235, 3) := by decide +kernel
theorem dX6_lockedIn_28 : decode cX6_lockedIn 28 = .ok (.ireturn, 1) := by decide +kernel
theorem dX6_bestGive_0 : decode cX6_bestGive 0 = .ok (.aload_n 0, 1) := by decide +kernel
theorem dX6_bestGive_1 : decode cX6_bestGive 1 = .ok (.iload_n 1, 1) := by decide +kernel
theorem dX6_bestGive_2 : decode cX6_bestGive 2 = .ok (.invokestatic 114, 3) := by decide +kernel
theorem dX6_bestGive_5 : decode cX6_bestGive 5 = .ok (.ifCond .eq 7, 3) := by decide +kernel
theorem dX6_bestGive_8 : decode cX6_bestGive 8 = .ok (.iconst 0, 1) := by decide +kernel
theorem dX6_bestGive_9 : decode cX6_bestGive 9 = .ok (.goto 4, 3) := by decide +kernel
theorem dX6_bestGive_12 : decode cX6_bestGive 12 = .ok (.iconst 1, 1) := by decide +kernel
theorem dX6_bestGive_13 : decode cX6_bestGive 13 = .ok (.invokevirtual 94, 3) := by decide +kernel
theorem dX6_bestGive_16 : decode cX6_bestGive 16 = .ok (.ifCond .eq 5, 3) := by decide +kernel
theorem dX6_bestGive_19 : decode cX6_bestGive 19 = .ok (.iconst 0, 1) := by decide +kernel
theorem dX6_bestGive_20 : decode cX6_bestGive 20 = .ok (.ireturn, 1) := by decide +kernel
theorem dX6_bestGive_21 : decode cX6_bestGive 21 = .ok (.iconst (-1), 1) := by decide +kernel
theorem dX6_bestGive_22 : decode cX6_bestGive 22 = .ok (.istore_n 2, 1) := by decide +kernel
theorem dX6_bestGive_23 : decode cX6_bestGive 23 = .ok (.iconst 0, 1) := by decide +kernel
theorem dX6_bestGive_24 : decode cX6_bestGive 24 = .ok (.istore_n 3, 1) := by decide +kernel
theorem dX6_bestGive_25 : decode cX6_bestGive 25 = .ok (.iconst 0, 1) := by decide +kernel
theorem dX6_bestGive_26 : decode cX6_bestGive 26 = .ok (.istore 4, 2) := by decide +kernel
theorem dX6_bestGive_28 : decode cX6_bestGive 28 = .ok (.iload 4, 2) := by decide +kernel
theorem dX6_bestGive_30 : decode cX6_bestGive 30 = .ok (.bipush 20, 2) := by decide +kernel
theorem dX6_bestGive_32 : decode cX6_bestGive 32 = .ok (.if_icmp .gt 94, 3) := by decide +kernel
theorem dX6_bestGive_35 : decode cX6_bestGive 35 = .ok (.aload_n 0, 1) := by decide +kernel
theorem dX6_bestGive_36 : decode cX6_bestGive 36 = .ok (.getfield 7, 3) := by decide +kernel
theorem dX6_bestGive_39 : decode cX6_bestGive 39 = .ok (.aload_n 0, 1) := by decide +kernel
theorem dX6_bestGive_40 : decode cX6_bestGive 40 = .ok (.getfield 13, 3) := by decide +kernel
theorem dX6_bestGive_43 : decode cX6_bestGive 43 = .ok (.invokestatic 181, 3) := by decide +kernel
theorem dX6_bestGive_46 : decode cX6_bestGive 46 = .ok (.aload_n 0, 1) := by decide +kernel
theorem dX6_bestGive_47 : decode cX6_bestGive 47 = .ok (.getfield 13, 3) := by decide +kernel
theorem dX6_bestGive_50 : decode cX6_bestGive 50 = .ok (.iconst 0, 1) := by decide +kernel
theorem dX6_bestGive_51 : decode cX6_bestGive 51 = .ok (.iload_n 1, 1) := by decide +kernel
theorem dX6_bestGive_52 : decode cX6_bestGive 52 = .ok (.iadd, 1) := by decide +kernel
theorem dX6_bestGive_53 : decode cX6_bestGive 53 = .ok (.iload 4, 2) := by decide +kernel
theorem dX6_bestGive_55 : decode cX6_bestGive 55 = .ok (.iastore, 1) := by decide +kernel
theorem dX6_bestGive_56 : decode cX6_bestGive 56 = .ok (.aload_n 0, 1) := by decide +kernel
theorem dX6_bestGive_57 : decode cX6_bestGive 57 = .ok (.aload_n 0, 1) := by decide +kernel
theorem dX6_bestGive_58 : decode cX6_bestGive 58 = .ok (.getfield 13, 3) := by decide +kernel
theorem dX6_bestGive_61 : decode cX6_bestGive 61 = .ok (.bipush 100, 2) := by decide +kernel
theorem dX6_bestGive_63 : decode cX6_bestGive 63 = .ok (.invokevirtual 101, 3) := by decide +kernel
theorem dX6_bestGive_66 : decode cX6_bestGive 66 = .ok (.istore 5, 2) := by decide +kernel
theorem dX6_bestGive_68 : decode cX6_bestGive 68 = .ok (.aload_n 0, 1) := by decide +kernel
theorem dX6_bestGive_69 : decode cX6_bestGive 69 = .ok (.aload_n 0, 1) := by decide +kernel
theorem dX6_bestGive_70 : decode cX6_bestGive 70 = .ok (.getfield 13, 3) := by decide +kernel
theorem dX6_bestGive_73 : decode cX6_bestGive 73 = .ok (.invokevirtual 218, 3) := by decide +kernel
theorem dX6_bestGive_76 : decode cX6_bestGive 76 = .ok (.istore 6, 2) := by decide +kernel
theorem dX6_bestGive_78 : decode cX6_bestGive 78 = .ok (.iload_n 2, 1) := by decide +kernel
theorem dX6_bestGive_79 : decode cX6_bestGive 79 = .ok (.iconst (-1), 1) := by decide +kernel
theorem dX6_bestGive_80 : decode cX6_bestGive 80 = .ok (.if_icmp .eq 9, 3) := by decide +kernel
theorem dX6_bestGive_83 : decode cX6_bestGive 83 = .ok (.iload 6, 2) := by decide +kernel
theorem dX6_bestGive_85 : decode cX6_bestGive 85 = .ok (.iload_n 3, 1) := by decide +kernel
theorem dX6_bestGive_86 : decode cX6_bestGive 86 = .ok (.if_icmp .ge 7, 3) := by decide +kernel
theorem dX6_bestGive_89 : decode cX6_bestGive 89 = .ok (.iconst 1, 1) := by decide +kernel
theorem dX6_bestGive_90 : decode cX6_bestGive 90 = .ok (.goto 4, 3) := by decide +kernel
theorem dX6_bestGive_93 : decode cX6_bestGive 93 = .ok (.iconst 0, 1) := by decide +kernel
theorem dX6_bestGive_94 : decode cX6_bestGive 94 = .ok (.istore 7, 2) := by decide +kernel
theorem dX6_bestGive_96 : decode cX6_bestGive 96 = .ok (.iload 7, 2) := by decide +kernel
theorem dX6_bestGive_98 : decode cX6_bestGive 98 = .ok (.ifCond .eq 8, 3) := by decide +kernel
theorem dX6_bestGive_101 : decode cX6_bestGive 101 = .ok (.iload 4, 2) := by decide +kernel
theorem dX6_bestGive_103 : decode cX6_bestGive 103 = .ok (.goto 4, 3) := by decide +kernel
theorem dX6_bestGive_106 : decode cX6_bestGive 106 = .ok (.iload_n 2, 1) := by decide +kernel
theorem dX6_bestGive_107 : decode cX6_bestGive 107 = .ok (.istore_n 2, 1) := by decide +kernel
theorem dX6_bestGive_108 : decode cX6_bestGive 108 = .ok (.iload 7, 2) := by decide +kernel
theorem dX6_bestGive_110 : decode cX6_bestGive 110 = .ok (.ifCond .eq 8, 3) := by decide +kernel
theorem dX6_bestGive_113 : decode cX6_bestGive 113 = .ok (.iload 6, 2) := by decide +kernel
theorem dX6_bestGive_115 : decode cX6_bestGive 115 = .ok (.goto 4, 3) := by decide +kernel
theorem dX6_bestGive_118 : decode cX6_bestGive 118 = .ok (.iload_n 3, 1) := by decide +kernel
theorem dX6_bestGive_119 : decode cX6_bestGive 119 = .ok (.istore_n 3, 1) := by decide +kernel
theorem dX6_bestGive_120 : decode cX6_bestGive 120 = .ok (.iinc 4 1, 3) := by decide +kernel
theorem dX6_bestGive_123 : decode cX6_bestGive 123 = .ok (.goto (-95), 3) := by decide +kernel
theorem dX6_bestGive_126 : decode cX6_bestGive 126 = .ok (.iload_n 2, 1) := by decide +kernel
theorem dX6_bestGive_127 : decode cX6_bestGive 127 = .ok (.ireturn, 1) := by decide +kernel
theorem dX6_soonest_0 : decode cX6_soonest 0 = .ok (.aload_n 0, 1) := by decide +kernel
theorem dX6_soonest_1 : decode cX6_soonest 1 = .ok (.getfield 7, 3) := by decide +kernel
theorem dX6_soonest_4 : decode cX6_soonest 4 = .ok (.aload_n 0, 1) := by decide +kernel
theorem dX6_soonest_5 : decode cX6_soonest 5 = .ok (.getfield 13, 3) := by decide +kernel
theorem dX6_soonest_8 : decode cX6_soonest 8 = .ok (.invokestatic 181, 3) := by decide +kernel
theorem dX6_soonest_11 : decode cX6_soonest 11 = .ok (.iconst 1, 1) := by decide +kernel
theorem dX6_soonest_12 : decode cX6_soonest 12 = .ok (.istore_n 1, 1) := by decide +kernel
theorem dX6_soonest_13 : decode cX6_soonest 13 = .ok (.iload_n 1, 1) := by decide +kernel
theorem dX6_soonest_14 : decode cX6_soonest 14 = .ok (.sipush 500, 3) := by decide +kernel
theorem dX6_soonest_17 : decode cX6_soonest 17 = .ok (.if_icmp .gt 22, 3) := by decide +kernel
theorem dX6_soonest_20 : decode cX6_soonest 20 = .ok (.aload_n 0, 1) := by decide +kernel
theorem dX6_soonest_21 : decode cX6_soonest 21 = .ok (.aload_n 0, 1) := by decide +kernel
theorem dX6_soonest_22 : decode cX6_soonest 22 = .ok (.getfield 13, 3) := by decide +kernel
theorem dX6_soonest_25 : decode cX6_soonest 25 = .ok (.invokevirtual 77, 3) := by decide +kernel
theorem dX6_soonest_28 : decode cX6_soonest 28 = .ok (.ifCond .le 5, 3) := by decide +kernel
theorem dX6_soonest_31 : decode cX6_soonest 31 = .ok (.iload_n 1, 1) := by decide +kernel
theorem dX6_soonest_32 : decode cX6_soonest 32 = .ok (.ireturn, 1) := by decide +kernel
theorem dX6_soonest_33 : decode cX6_soonest 33 = .ok (.iinc 1 1, 3) := by decide +kernel
theorem dX6_soonest_36 : decode cX6_soonest 36 = .ok (.goto (-23), 3) := by decide +kernel
theorem dX6_soonest_39 : decode cX6_soonest 39 = .ok (.iconst (-1), 1) := by decide +kernel
theorem dX6_soonest_40 : decode cX6_soonest 40 = .ok (.ireturn, 1) := by decide +kernel
theorem dX6_nextStrike_0 : decode cX6_nextStrike 0 = .ok (.aload_n 0, 1) := by decide +kernel
theorem dX6_nextStrike_1 : decode cX6_nextStrike 1 = .ok (.iconst 0, 1) := by decide +kernel
theorem dX6_nextStrike_2 : decode cX6_nextStrike 2 = .ok (.putfield 31, 3) := by decide +kernel
theorem dX6_nextStrike_5 : decode cX6_nextStrike 5 = .ok (.aload_n 0, 1) := by decide +kernel
theorem dX6_nextStrike_6 : decode cX6_nextStrike 6 = .ok (.invokevirtual 238, 3) := by decide +kernel
theorem dX6_nextStrike_9 : decode cX6_nextStrike 9 = .ok (.ireturn, 1) := by decide +kernel
theorem dX6_stepShare_0 : decode cX6_stepShare 0 = .ok (.aload_n 0, 1) := by decide +kernel
theorem dX6_stepShare_1 : decode cX6_stepShare 1 = .ok (.iconst 0, 1) := by decide +kernel
theorem dX6_stepShare_2 : decode cX6_stepShare 2 = .ok (.putfield 31, 3) := by decide +kernel
theorem dX6_stepShare_5 : decode cX6_stepShare 5 = .ok (.aload_n 0, 1) := by decide +kernel
theorem dX6_stepShare_6 : decode cX6_stepShare 6 = .ok (.aload_n 0, 1) := by decide +kernel
theorem dX6_stepShare_7 : decode cX6_stepShare 7 = .ok (.getfield 7, 3) := by decide +kernel
theorem dX6_stepShare_10 : decode cX6_stepShare 10 = .ok (.invokevirtual 224, 3) := by decide +kernel
theorem dX6_stepShare_13 : decode cX6_stepShare 13 = .ok (.i2d, 1) := by decide +kernel
theorem dX6_stepShare_14 : decode cX6_stepShare 14 = .ok (.ldc2_w 241, 3) := by decide +kernel
theorem dX6_stepShare_17 : decode cX6_stepShare 17 = .ok (.ddiv, 1) := by decide +kernel
theorem dX6_stepShare_18 : decode cX6_stepShare 18 = .ok (.dreturn, 1) := by decide +kernel
theorem dX6_allGaps_0 : decode cX6_allGaps 0 = .ok (.aload_n 0, 1) := by decide +kernel
theorem dX6_allGaps_1 : decode cX6_allGaps 1 = .ok (.iconst 0, 1) := by decide +kernel
theorem dX6_allGaps_2 : decode cX6_allGaps 2 = .ok (.iconst 4, 1) := by decide +kernel
theorem dX6_allGaps_3 : decode cX6_allGaps 3 = .ok (.invokevirtual 206, 3) := by decide +kernel
theorem dX6_allGaps_6 : decode cX6_allGaps 6 = .ok (.aload_n 0, 1) := by decide +kernel
theorem dX6_allGaps_7 : decode cX6_allGaps 7 = .ok (.iconst 1, 1) := by decide +kernel
theorem dX6_allGaps_8 : decode cX6_allGaps 8 = .ok (.iconst 4, 1) := by decide +kernel
theorem dX6_allGaps_9 : decode cX6_allGaps 9 = .ok (.invokevirtual 206, 3) := by decide +kernel
theorem dX6_allGaps_12 : decode cX6_allGaps 12 = .ok (.iadd, 1) := by decide +kernel
theorem dX6_allGaps_13 : decode cX6_allGaps 13 = .ok (.aload_n 0, 1) := by decide +kernel
theorem dX6_allGaps_14 : decode cX6_allGaps 14 = .ok (.iconst 2, 1) := by decide +kernel
theorem dX6_allGaps_15 : decode cX6_allGaps 15 = .ok (.iconst 4, 1) := by decide +kernel
theorem dX6_allGaps_16 : decode cX6_allGaps 16 = .ok (.invokevirtual 206, 3) := by decide +kernel
theorem dX6_allGaps_19 : decode cX6_allGaps 19 = .ok (.iadd, 1) := by decide +kernel
theorem dX6_allGaps_20 : decode cX6_allGaps 20 = .ok (.ireturn, 1) := by decide +kernel
theorem dX6_meanGap_0 : decode cX6_meanGap 0 = .ok (.aload_n 0, 1) := by decide +kernel
theorem dX6_meanGap_1 : decode cX6_meanGap 1 = .ok (.iconst 0, 1) := by decide +kernel
theorem dX6_meanGap_2 : decode cX6_meanGap 2 = .ok (.putfield 31, 3) := by decide +kernel
theorem dX6_meanGap_5 : decode cX6_meanGap 5 = .ok (.aload_n 0, 1) := by decide +kernel
theorem dX6_meanGap_6 : decode cX6_meanGap 6 = .ok (.invokevirtual 243, 3) := by decide +kernel
theorem dX6_meanGap_9 : decode cX6_meanGap 9 = .ok (.i2f, 1) := by decide +kernel
theorem dX6_meanGap_10 : decode cX6_meanGap 10 = .ok (.ldc 246, 2) := by decide +kernel
theorem dX6_meanGap_12 : decode cX6_meanGap 12 = .ok (.fdiv, 1) := by decide +kernel
theorem dX6_meanGap_13 : decode cX6_meanGap 13 = .ok (.freturn, 1) := by decide +kernel
theorem dX6_digest_0 : decode cX6_digest 0 = .ok (.aload_n 0, 1) := by decide +kernel
theorem dX6_digest_1 : decode cX6_digest 1 = .ok (.iconst 0, 1) := by decide +kernel
theorem dX6_digest_2 : decode cX6_digest 2 = .ok (.putfield 31, 3) := by decide +kernel
theorem dX6_digest_5 : decode cX6_digest 5 = .ok (.ldc2_w 247, 3) := by decide +kernel
theorem dX6_digest_8 : decode cX6_digest 8 = .ok (.lstore_n 1, 1) := by decide +kernel
theorem dX6_digest_9 : decode cX6_digest 9 = .ok (.iconst 0, 1) := by decide +kernel
theorem dX6_digest_10 : decode cX6_digest 10 = .ok (.istore_n 3, 1) := by decide +kernel
theorem dX6_digest_11 : decode cX6_digest 11 = .ok (.iload_n 3, 1) := by decide +kernel
theorem dX6_digest_12 : decode cX6_digest 12 = .ok (.bipush 10, 2) := by decide +kernel
theorem dX6_digest_14 : decode cX6_digest 14 = .ok (.if_icmp .ge 22, 3) := by decide +kernel
theorem dX6_digest_17 : decode cX6_digest 17 = .ok (.ldc2_w 249, 3) := by decide +kernel
theorem dX6_digest_20 : decode cX6_digest 20 = .ok (.lload_n 1, 1) := by decide +kernel
theorem dX6_digest_21 : decode cX6_digest 21 = .ok (.lmul, 1) := by decide +kernel
theorem dX6_digest_22 : decode cX6_digest 22 = .ok (.aload_n 0, 1) := by decide +kernel
theorem dX6_digest_23 : decode cX6_digest 23 = .ok (.iload_n 3, 1) := by decide +kernel
theorem dX6_digest_24 : decode cX6_digest 24 = .ok (.invokevirtual 229, 3) := by decide +kernel
theorem dX6_digest_27 : decode cX6_digest 27 = .ok (.i2l, 1) := by decide +kernel
theorem dX6_digest_28 : decode cX6_digest 28 = .ok (.ladd, 1) := by decide +kernel
theorem dX6_digest_29 : decode cX6_digest 29 = .ok (.lstore_n 1, 1) := by decide +kernel
theorem dX6_digest_30 : decode cX6_digest 30 = .ok (.iinc 3 1, 3) := by decide +kernel
theorem dX6_digest_33 : decode cX6_digest 33 = .ok (.goto (-22), 3) := by decide +kernel
theorem dX6_digest_36 : decode cX6_digest 36 = .ok (.iconst 0, 1) := by decide +kernel
theorem dX6_digest_37 : decode cX6_digest 37 = .ok (.istore_n 3, 1) := by decide +kernel
theorem dX6_digest_38 : decode cX6_digest 38 = .ok (.iload_n 3, 1) := by decide +kernel
theorem dX6_digest_39 : decode cX6_digest 39 = .ok (.iconst 3, 1) := by decide +kernel
theorem dX6_digest_40 : decode cX6_digest 40 = .ok (.if_icmp .ge 25, 3) := by decide +kernel
theorem dX6_digest_43 : decode cX6_digest 43 = .ok (.ldc2_w 249, 3) := by decide +kernel
theorem dX6_digest_46 : decode cX6_digest 46 = .ok (.lload_n 1, 1) := by decide +kernel
theorem dX6_digest_47 : decode cX6_digest 47 = .ok (.lmul, 1) := by decide +kernel
theorem dX6_digest_48 : decode cX6_digest 48 = .ok (.aload_n 0, 1) := by decide +kernel
theorem dX6_digest_49 : decode cX6_digest 49 = .ok (.getfield 7, 3) := by decide +kernel
theorem dX6_digest_52 : decode cX6_digest 52 = .ok (.iconst 3, 1) := by decide +kernel
theorem dX6_digest_53 : decode cX6_digest 53 = .ok (.iload_n 3, 1) := by decide +kernel
theorem dX6_digest_54 : decode cX6_digest 54 = .ok (.iadd, 1) := by decide +kernel
theorem dX6_digest_55 : decode cX6_digest 55 = .ok (.iaload, 1) := by decide +kernel
theorem dX6_digest_56 : decode cX6_digest 56 = .ok (.i2l, 1) := by decide +kernel
theorem dX6_digest_57 : decode cX6_digest 57 = .ok (.ladd, 1) := by decide +kernel
theorem dX6_digest_58 : decode cX6_digest 58 = .ok (.lstore_n 1, 1) := by decide +kernel
theorem dX6_digest_59 : decode cX6_digest 59 = .ok (.iinc 3 1, 3) := by decide +kernel
theorem dX6_digest_62 : decode cX6_digest 62 = .ok (.goto (-24), 3) := by decide +kernel
theorem dX6_digest_65 : decode cX6_digest 65 = .ok (.iconst 0, 1) := by decide +kernel
theorem dX6_digest_66 : decode cX6_digest 66 = .ok (.istore_n 3, 1) := by decide +kernel
theorem dX6_digest_67 : decode cX6_digest 67 = .ok (.iload_n 3, 1) := by decide +kernel
theorem dX6_digest_68 : decode cX6_digest 68 = .ok (.bipush 8, 2) := by decide +kernel
theorem dX6_digest_70 : decode cX6_digest 70 = .ok (.if_icmp .ge 40, 3) := by decide +kernel
theorem dX6_digest_73 : decode cX6_digest 73 = .ok (.iconst 0, 1) := by decide +kernel
theorem dX6_digest_74 : decode cX6_digest 74 = .ok (.istore 4, 2) := by decide +kernel
theorem dX6_digest_76 : decode cX6_digest 76 = .ok (.iload 4, 2) := by decide +kernel
theorem dX6_digest_78 : decode cX6_digest 78 = .ok (.bipush 11, 2) := by decide +kernel
theorem dX6_digest_80 : decode cX6_digest 80 = .ok (.if_icmp .ge 24, 3) := by decide +kernel
theorem dX6_digest_83 : decode cX6_digest 83 = .ok (.ldc2_w 249, 3) := by decide +kernel
theorem dX6_digest_86 : decode cX6_digest 86 = .ok (.lload_n 1, 1) := by decide +kernel
theorem dX6_digest_87 : decode cX6_digest 87 = .ok (.lmul, 1) := by decide +kernel
theorem dX6_digest_88 : decode cX6_digest 88 = .ok (.aload_n 0, 1) := by decide +kernel
theorem dX6_digest_89 : decode cX6_digest 89 = .ok (.iload_n 3, 1) := by decide +kernel
theorem dX6_digest_90 : decode cX6_digest 90 = .ok (.iload 4, 2) := by decide +kernel
theorem dX6_digest_92 : decode cX6_digest 92 = .ok (.invokevirtual 191, 3) := by decide +kernel
theorem dX6_digest_95 : decode cX6_digest 95 = .ok (.i2l, 1) := by decide +kernel
theorem dX6_digest_96 : decode cX6_digest 96 = .ok (.ladd, 1) := by decide +kernel
theorem dX6_digest_97 : decode cX6_digest 97 = .ok (.lstore_n 1, 1) := by decide +kernel
theorem dX6_digest_98 : decode cX6_digest 98 = .ok (.iinc 4 1, 3) := by decide +kernel
theorem dX6_digest_101 : decode cX6_digest 101 = .ok (.goto (-25), 3) := by decide +kernel
theorem dX6_digest_104 : decode cX6_digest 104 = .ok (.iinc 3 1, 3) := by decide +kernel
theorem dX6_digest_107 : decode cX6_digest 107 = .ok (.goto (-40), 3) := by decide +kernel
theorem dX6_digest_110 : decode cX6_digest 110 = .ok (.iconst 0, 1) := by decide +kernel
theorem dX6_digest_111 : decode cX6_digest 111 = .ok (.istore_n 3, 1) := by decide +kernel
theorem dX6_digest_112 : decode cX6_digest 112 = .ok (.iload_n 3, 1) := by decide +kernel
theorem dX6_digest_113 : decode cX6_digest 113 = .ok (.bipush 8, 2) := by decide +kernel
theorem dX6_digest_115 : decode cX6_digest 115 = .ok (.if_icmp .ge 59, 3) := by decide +kernel
theorem dX6_digest_118 : decode cX6_digest 118 = .ok (.iload_n 3, 1) := by decide +kernel
theorem dX6_digest_119 : decode cX6_digest 119 = .ok (.iconst 1, 1) := by decide +kernel
theorem dX6_digest_120 : decode cX6_digest 120 = .ok (.iadd, 1) := by decide +kernel
theorem dX6_digest_121 : decode cX6_digest 121 = .ok (.istore 4, 2) := by decide +kernel
theorem dX6_digest_123 : decode cX6_digest 123 = .ok (.iload 4, 2) := by decide +kernel
theorem dX6_digest_125 : decode cX6_digest 125 = .ok (.bipush 8, 2) := by decide +kernel
theorem dX6_digest_127 : decode cX6_digest 127 = .ok (.if_icmp .ge 41, 3) := by decide +kernel
theorem dX6_digest_130 : decode cX6_digest 130 = .ok (.iconst 0, 1) := by decide +kernel
theorem dX6_digest_131 : decode cX6_digest 131 = .ok (.istore 5, 2) := by decide +kernel
theorem dX6_digest_133 : decode cX6_digest 133 = .ok (.iload 5, 2) := by decide +kernel
theorem dX6_digest_135 : decode cX6_digest 135 = .ok (.iconst 3, 1) := by decide +kernel
theorem dX6_digest_136 : decode cX6_digest 136 = .ok (.if_icmp .ge 26, 3) := by decide +kernel
theorem dX6_digest_139 : decode cX6_digest 139 = .ok (.ldc2_w 249, 3) := by decide +kernel
theorem dX6_digest_142 : decode cX6_digest 142 = .ok (.lload_n 1, 1) := by decide +kernel
theorem dX6_digest_143 : decode cX6_digest 143 = .ok (.lmul, 1) := by decide +kernel
theorem dX6_digest_144 : decode cX6_digest 144 = .ok (.aload_n 0, 1) := by decide +kernel
theorem dX6_digest_145 : decode cX6_digest 145 = .ok (.iload_n 3, 1) := by decide +kernel
theorem dX6_digest_146 : decode cX6_digest 146 = .ok (.iload 4, 2) := by decide +kernel
theorem dX6_digest_148 : decode cX6_digest 148 = .ok (.iload 5, 2) := by decide +kernel
theorem dX6_digest_150 : decode cX6_digest 150 = .ok (.invokevirtual 200, 3) := by decide +kernel
theorem dX6_digest_153 : decode cX6_digest 153 = .ok (.i2l, 1) := by decide +kernel
theorem dX6_digest_154 : decode cX6_digest 154 = .ok (.ladd, 1) := by decide +kernel
theorem dX6_digest_155 : decode cX6_digest 155 = .ok (.lstore_n 1, 1) := by decide +kernel
theorem dX6_digest_156 : decode cX6_digest 156 = .ok (.iinc 5 1, 3) := by decide +kernel
theorem dX6_digest_159 : decode cX6_digest 159 = .ok (.goto (-26), 3) := by decide +kernel
theorem dX6_digest_162 : decode cX6_digest 162 = .ok (.iinc 4 1, 3) := by decide +kernel
theorem dX6_digest_165 : decode cX6_digest 165 = .ok (.goto (-42), 3) := by decide +kernel
theorem dX6_digest_168 : decode cX6_digest 168 = .ok (.iinc 3 1, 3) := by decide +kernel
theorem dX6_digest_171 : decode cX6_digest 171 = .ok (.goto (-59), 3) := by decide +kernel
theorem dX6_digest_174 : decode cX6_digest 174 = .ok (.iconst 0, 1) := by decide +kernel
theorem dX6_digest_175 : decode cX6_digest 175 = .ok (.istore_n 3, 1) := by decide +kernel
theorem dX6_digest_176 : decode cX6_digest 176 = .ok (.iload_n 3, 1) := by decide +kernel
theorem dX6_digest_177 : decode cX6_digest 177 = .ok (.iconst 3, 1) := by decide +kernel
theorem dX6_digest_178 : decode cX6_digest 178 = .ok (.if_icmp .ge 39, 3) := by decide +kernel
theorem dX6_digest_181 : decode cX6_digest 181 = .ok (.iconst 0, 1) := by decide +kernel
theorem dX6_digest_182 : decode cX6_digest 182 = .ok (.istore 4, 2) := by decide +kernel
theorem dX6_digest_184 : decode cX6_digest 184 = .ok (.iload 4, 2) := by decide +kernel
theorem dX6_digest_186 : decode cX6_digest 186 = .ok (.iconst 5, 1) := by decide +kernel
theorem dX6_digest_187 : decode cX6_digest 187 = .ok (.if_icmp .ge 24, 3) := by decide +kernel
theorem dX6_digest_190 : decode cX6_digest 190 = .ok (.ldc2_w 249, 3) := by decide +kernel
theorem dX6_digest_193 : decode cX6_digest 193 = .ok (.lload_n 1, 1) := by decide +kernel
theorem dX6_digest_194 : decode cX6_digest 194 = .ok (.lmul, 1) := by decide +kernel
theorem dX6_digest_195 : decode cX6_digest 195 = .ok (.aload_n 0, 1) := by decide +kernel
theorem dX6_digest_196 : decode cX6_digest 196 = .ok (.iload_n 3, 1) := by decide +kernel
theorem dX6_digest_197 : decode cX6_digest 197 = .ok (.iload 4, 2) := by decide +kernel
theorem dX6_digest_199 : decode cX6_digest 199 = .ok (.invokevirtual 206, 3) := by decide +kernel
theorem dX6_digest_202 : decode cX6_digest 202 = .ok (.i2l, 1) := by decide +kernel
theorem dX6_digest_203 : decode cX6_digest 203 = .ok (.ladd, 1) := by decide +kernel
theorem dX6_digest_204 : decode cX6_digest 204 = .ok (.lstore_n 1, 1) := by decide +kernel
theorem dX6_digest_205 : decode cX6_digest 205 = .ok (.iinc 4 1, 3) := by decide +kernel
theorem dX6_digest_208 : decode cX6_digest 208 = .ok (.goto (-24), 3) := by decide +kernel
theorem dX6_digest_211 : decode cX6_digest 211 = .ok (.iinc 3 1, 3) := by decide +kernel
theorem dX6_digest_214 : decode cX6_digest 214 = .ok (.goto (-38), 3) := by decide +kernel
theorem dX6_digest_217 : decode cX6_digest 217 = .ok (.iconst 0, 1) := by decide +kernel
theorem dX6_digest_218 : decode cX6_digest 218 = .ok (.istore_n 3, 1) := by decide +kernel
theorem dX6_digest_219 : decode cX6_digest 219 = .ok (.iload_n 3, 1) := by decide +kernel
theorem dX6_digest_220 : decode cX6_digest 220 = .ok (.bipush 8, 2) := by decide +kernel
theorem dX6_digest_222 : decode cX6_digest 222 = .ok (.if_icmp .ge 41, 3) := by decide +kernel
theorem dX6_digest_225 : decode cX6_digest 225 = .ok (.iconst 0, 1) := by decide +kernel
theorem dX6_digest_226 : decode cX6_digest 226 = .ok (.istore 4, 2) := by decide +kernel
theorem dX6_digest_228 : decode cX6_digest 228 = .ok (.iload 4, 2) := by decide +kernel
theorem dX6_digest_230 : decode cX6_digest 230 = .ok (.iconst 3, 1) := by decide +kernel
theorem dX6_digest_231 : decode cX6_digest 231 = .ok (.if_icmp .ge 26, 3) := by decide +kernel
theorem dX6_digest_234 : decode cX6_digest 234 = .ok (.ldc2_w 249, 3) := by decide +kernel
theorem dX6_digest_237 : decode cX6_digest 237 = .ok (.lload_n 1, 1) := by decide +kernel
theorem dX6_digest_238 : decode cX6_digest 238 = .ok (.lmul, 1) := by decide +kernel
theorem dX6_digest_239 : decode cX6_digest 239 = .ok (.aload_n 0, 1) := by decide +kernel
theorem dX6_digest_240 : decode cX6_digest 240 = .ok (.bipush 20, 2) := by decide +kernel
theorem dX6_digest_242 : decode cX6_digest 242 = .ok (.iload_n 3, 1) := by decide +kernel
theorem dX6_digest_243 : decode cX6_digest 243 = .ok (.iload 4, 2) := by decide +kernel
theorem dX6_digest_245 : decode cX6_digest 245 = .ok (.invokevirtual 232, 3) := by decide +kernel
theorem dX6_digest_248 : decode cX6_digest 248 = .ok (.i2l, 1) := by decide +kernel
theorem dX6_digest_249 : decode cX6_digest 249 = .ok (.ladd, 1) := by decide +kernel
theorem dX6_digest_250 : decode cX6_digest 250 = .ok (.lstore_n 1, 1) := by decide +kernel
theorem dX6_digest_251 : decode cX6_digest 251 = .ok (.iinc 4 1, 3) := by decide +kernel
theorem dX6_digest_254 : decode cX6_digest 254 = .ok (.goto (-26), 3) := by decide +kernel
theorem dX6_digest_257 : decode cX6_digest 257 = .ok (.iinc 3 1, 3) := by decide +kernel
theorem dX6_digest_260 : decode cX6_digest 260 = .ok (.goto (-41), 3) := by decide +kernel
theorem dX6_digest_263 : decode cX6_digest 263 = .ok (.ldc2_w 249, 3) := by decide +kernel
theorem dX6_digest_266 : decode cX6_digest 266 = .ok (.lload_n 1, 1) := by decide +kernel
theorem dX6_digest_267 : decode cX6_digest 267 = .ok (.lmul, 1) := by decide +kernel
theorem dX6_digest_268 : decode cX6_digest 268 = .ok (.aload_n 0, 1) := by decide +kernel
theorem dX6_digest_269 : decode cX6_digest 269 = .ok (.iconst 0, 1) := by decide +kernel
theorem dX6_digest_270 : decode cX6_digest 270 = .ok (.iconst 3, 1) := by decide +kernel
theorem dX6_digest_271 : decode cX6_digest 271 = .ok (.invokevirtual 235, 3) := by decide +kernel
theorem dX6_digest_274 : decode cX6_digest 274 = .ok (.i2l, 1) := by decide +kernel
theorem dX6_digest_275 : decode cX6_digest 275 = .ok (.ladd, 1) := by decide +kernel
theorem dX6_digest_276 : decode cX6_digest 276 = .ok (.lstore_n 1, 1) := by decide +kernel
theorem dX6_digest_277 : decode cX6_digest 277 = .ok (.ldc2_w 249, 3) := by decide +kernel
theorem dX6_digest_280 : decode cX6_digest 280 = .ok (.lload_n 1, 1) := by decide +kernel
theorem dX6_digest_281 : decode cX6_digest 281 = .ok (.lmul, 1) := by decide +kernel
theorem dX6_digest_282 : decode cX6_digest 282 = .ok (.aload_n 0, 1) := by decide +kernel
theorem dX6_digest_283 : decode cX6_digest 283 = .ok (.invokevirtual 238, 3) := by decide +kernel
theorem dX6_digest_286 : decode cX6_digest 286 = .ok (.i2l, 1) := by decide +kernel
theorem dX6_digest_287 : decode cX6_digest 287 = .ok (.ladd, 1) := by decide +kernel
theorem dX6_digest_288 : decode cX6_digest 288 = .ok (.lstore_n 1, 1) := by decide +kernel
theorem dX6_digest_289 : decode cX6_digest 289 = .ok (.ldc2_w 249, 3) := by decide +kernel
theorem dX6_digest_292 : decode cX6_digest 292 = .ok (.lload_n 1, 1) := by decide +kernel
theorem dX6_digest_293 : decode cX6_digest 293 = .ok (.lmul, 1) := by decide +kernel
theorem dX6_digest_294 : decode cX6_digest 294 = .ok (.aload_n 0, 1) := by decide +kernel
theorem dX6_digest_295 : decode cX6_digest 295 = .ok (.aload_n 0, 1) := by decide +kernel
theorem dX6_digest_296 : decode cX6_digest 296 = .ok (.getfield 7, 3) := by decide +kernel
theorem dX6_digest_299 : decode cX6_digest 299 = .ok (.invokevirtual 224, 3) := by decide +kernel
theorem dX6_digest_302 : decode cX6_digest 302 = .ok (.i2d, 1) := by decide +kernel
theorem dX6_digest_303 : decode cX6_digest 303 = .ok (.ldc2_w 241, 3) := by decide +kernel
theorem dX6_digest_306 : decode cX6_digest 306 = .ok (.ddiv, 1) := by decide +kernel
theorem dX6_digest_307 : decode cX6_digest 307 = .ok (.invokestatic 251, 3) := by decide +kernel
theorem dX6_digest_310 : decode cX6_digest 310 = .ok (.ladd, 1) := by decide +kernel
theorem dX6_digest_311 : decode cX6_digest 311 = .ok (.lstore_n 1, 1) := by decide +kernel
theorem dX6_digest_312 : decode cX6_digest 312 = .ok (.ldc2_w 249, 3) := by decide +kernel
theorem dX6_digest_315 : decode cX6_digest 315 = .ok (.lload_n 1, 1) := by decide +kernel
theorem dX6_digest_316 : decode cX6_digest 316 = .ok (.lmul, 1) := by decide +kernel
theorem dX6_digest_317 : decode cX6_digest 317 = .ok (.aload_n 0, 1) := by decide +kernel
theorem dX6_digest_318 : decode cX6_digest 318 = .ok (.invokevirtual 243, 3) := by decide +kernel
theorem dX6_digest_321 : decode cX6_digest 321 = .ok (.i2f, 1) := by decide +kernel
theorem dX6_digest_322 : decode cX6_digest 322 = .ok (.ldc 246, 2) := by decide +kernel
theorem dX6_digest_324 : decode cX6_digest 324 = .ok (.fdiv, 1) := by decide +kernel
theorem dX6_digest_325 : decode cX6_digest 325 = .ok (.invokestatic 257, 3) := by decide +kernel
theorem dX6_digest_328 : decode cX6_digest 328 = .ok (.i2l, 1) := by decide +kernel
theorem dX6_digest_329 : decode cX6_digest 329 = .ok (.ladd, 1) := by decide +kernel
theorem dX6_digest_330 : decode cX6_digest 330 = .ok (.lstore_n 1, 1) := by decide +kernel
theorem dX6_digest_331 : decode cX6_digest 331 = .ok (.ldc2_w 249, 3) := by decide +kernel
theorem dX6_digest_334 : decode cX6_digest 334 = .ok (.lload_n 1, 1) := by decide +kernel
theorem dX6_digest_335 : decode cX6_digest 335 = .ok (.lmul, 1) := by decide +kernel
theorem dX6_digest_336 : decode cX6_digest 336 = .ok (.aload_n 0, 1) := by decide +kernel
theorem dX6_digest_337 : decode cX6_digest 337 = .ok (.getfield 185, 3) := by decide +kernel
theorem dX6_digest_340 : decode cX6_digest 340 = .ok (.ifCond .eq 7, 3) := by decide +kernel
theorem dX6_digest_343 : decode cX6_digest 343 = .ok (.iconst 1, 1) := by decide +kernel
theorem dX6_digest_344 : decode cX6_digest 344 = .ok (.goto 4, 3) := by decide +kernel
theorem dX6_digest_347 : decode cX6_digest 347 = .ok (.iconst 0, 1) := by decide +kernel
theorem dX6_digest_348 : decode cX6_digest 348 = .ok (.i2l, 1) := by decide +kernel
theorem dX6_digest_349 : decode cX6_digest 349 = .ok (.ladd, 1) := by decide +kernel
theorem dX6_digest_350 : decode cX6_digest 350 = .ok (.lstore_n 1, 1) := by decide +kernel
theorem dX6_digest_351 : decode cX6_digest 351 = .ok (.ldc2_w 249, 3) := by decide +kernel
theorem dX6_digest_354 : decode cX6_digest 354 = .ok (.lload_n 1, 1) := by decide +kernel
theorem dX6_digest_355 : decode cX6_digest 355 = .ok (.lmul, 1) := by decide +kernel
theorem dX6_digest_356 : decode cX6_digest 356 = .ok (.aload_n 0, 1) := by decide +kernel
theorem dX6_digest_357 : decode cX6_digest 357 = .ok (.getfield 140, 3) := by decide +kernel
theorem dX6_digest_360 : decode cX6_digest 360 = .ok (.i2l, 1) := by decide +kernel
theorem dX6_digest_361 : decode cX6_digest 361 = .ok (.ladd, 1) := by decide +kernel
theorem dX6_digest_362 : decode cX6_digest 362 = .ok (.lstore_n 1, 1) := by decide +kernel
theorem dX6_digest_363 : decode cX6_digest 363 = .ok (.iconst 0, 1) := by decide +kernel
theorem dX6_digest_364 : decode cX6_digest 364 = .ok (.istore_n 3, 1) := by decide +kernel
theorem dX6_digest_365 : decode cX6_digest 365 = .ok (.iload_n 3, 1) := by decide +kernel
theorem dX6_digest_366 : decode cX6_digest 366 = .ok (.aload_n 0, 1) := by decide +kernel
theorem dX6_digest_367 : decode cX6_digest 367 = .ok (.getfield 140, 3) := by decide +kernel
theorem dX6_digest_370 : decode cX6_digest 370 = .ok (.if_icmp .ge 23, 3) := by decide +kernel
theorem dX6_digest_373 : decode cX6_digest 373 = .ok (.ldc2_w 249, 3) := by decide +kernel
theorem dX6_digest_376 : decode cX6_digest 376 = .ok (.lload_n 1, 1) := by decide +kernel
theorem dX6_digest_377 : decode cX6_digest 377 = .ok (.lmul, 1) := by decide +kernel
theorem dX6_digest_378 : decode cX6_digest 378 = .ok (.aload_n 0, 1) := by decide +kernel
theorem dX6_digest_379 : decode cX6_digest 379 = .ok (.getfield 28, 3) := by decide +kernel
theorem dX6_digest_382 : decode cX6_digest 382 = .ok (.iload_n 3, 1) := by decide +kernel
theorem dX6_digest_383 : decode cX6_digest 383 = .ok (.iaload, 1) := by decide +kernel
theorem dX6_digest_384 : decode cX6_digest 384 = .ok (.i2l, 1) := by decide +kernel
theorem dX6_digest_385 : decode cX6_digest 385 = .ok (.ladd, 1) := by decide +kernel
theorem dX6_digest_386 : decode cX6_digest 386 = .ok (.lstore_n 1, 1) := by decide +kernel
theorem dX6_digest_387 : decode cX6_digest 387 = .ok (.iinc 3 1, 3) := by decide +kernel
theorem dX6_digest_390 : decode cX6_digest 390 = .ok (.goto (-25), 3) := by decide +kernel
theorem dX6_digest_393 : decode cX6_digest 393 = .ok (.lload_n 1, 1) := by decide +kernel
theorem dX6_digest_394 : decode cX6_digest 394 = .ok (.lreturn, 1) := by decide +kernel
