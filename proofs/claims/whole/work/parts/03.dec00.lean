theorem dX0_init_0 : decode cX0_init 0 = .ok (.aload_n 0, 1) := by decide +kernel
theorem dX0_init_1 : decode cX0_init 1 = .ok (.invokespecial 3, 3) := by decide +kernel
theorem dX0_init_4 : decode cX0_init 4 = .ok (.aload_n 0, 1) := by decide +kernel
theorem dX0_init_5 : decode cX0_init 5 = .ok (.bipush 60, 2) := by decide +kernel
theorem dX0_init_7 : decode cX0_init 7 = .ok (.newarray .int, 2) := by decide +kernel
theorem dX0_init_9 : decode cX0_init 9 = .ok (.putfield 11, 3) := by decide +kernel
theorem dX0_init_12 : decode cX0_init 12 = .ok (.aload_n 0, 1) := by decide +kernel
theorem dX0_init_13 : decode cX0_init 13 = .ok (.bipush 49, 2) := by decide +kernel
theorem dX0_init_15 : decode cX0_init 15 = .ok (.newarray .int, 2) := by decide +kernel
theorem dX0_init_17 : decode cX0_init 17 = .ok (.putfield 17, 3) := by decide +kernel
theorem dX0_init_20 : decode cX0_init 20 = .ok (.return_, 1) := by decide +kernel
theorem dX0_pass_0 : decode cX0_pass 0 = .ok (.aload_n 0, 1) := by decide +kernel
theorem dX0_pass_1 : decode cX0_pass 1 = .ok (.iload_n 2, 1) := by decide +kernel
theorem dX0_pass_2 : decode cX0_pass 2 = .ok (.putfield 20, 3) := by decide +kernel
theorem dX0_pass_5 : decode cX0_pass 5 = .ok (.aload_n 0, 1) := by decide +kernel
theorem dX0_pass_6 : decode cX0_pass 6 = .ok (.iconst 0, 1) := by decide +kernel
theorem dX0_pass_7 : decode cX0_pass 7 = .ok (.putfield 24, 3) := by decide +kernel
theorem dX0_pass_10 : decode cX0_pass 10 = .ok (.aload_n 0, 1) := by decide +kernel
theorem dX0_pass_11 : decode cX0_pass 11 = .ok (.iconst 0, 1) := by decide +kernel
theorem dX0_pass_12 : decode cX0_pass 12 = .ok (.putfield 27, 3) := by decide +kernel
theorem dX0_pass_15 : decode cX0_pass 15 = .ok (.aload_n 0, 1) := by decide +kernel
theorem dX0_pass_16 : decode cX0_pass 16 = .ok (.iconst 0, 1) := by decide +kernel
theorem dX0_pass_17 : decode cX0_pass 17 = .ok (.putfield 30, 3) := by decide +kernel
theorem dX0_pass_20 : decode cX0_pass 20 = .ok (.aload_n 0, 1) := by decide +kernel
theorem dX0_pass_21 : decode cX0_pass 21 = .ok (.iconst 0, 1) := by decide +kernel
theorem dX0_pass_22 : decode cX0_pass 22 = .ok (.putfield 33, 3) := by decide +kernel
theorem dX0_pass_25 : decode cX0_pass 25 = .ok (.aload_n 0, 1) := by decide +kernel
theorem dX0_pass_26 : decode cX0_pass 26 = .ok (.iconst 0, 1) := by decide +kernel
theorem dX0_pass_27 : decode cX0_pass 27 = .ok (.putfield 36, 3) := by decide +kernel
theorem dX0_pass_30 : decode cX0_pass 30 = .ok (.aload_n 0, 1) := by decide +kernel
theorem dX0_pass_31 : decode cX0_pass 31 = .ok (.iconst 0, 1) := by decide +kernel
theorem dX0_pass_32 : decode cX0_pass 32 = .ok (.putfield 39, 3) := by decide +kernel
theorem dX0_pass_35 : decode cX0_pass 35 = .ok (.aload_n 1, 1) := by decide +kernel
theorem dX0_pass_36 : decode cX0_pass 36 = .ok (.getfield 43, 3) := by decide +kernel
theorem dX0_pass_39 : decode cX0_pass 39 = .ok (.astore_n 3, 1) := by decide +kernel
theorem dX0_pass_40 : decode cX0_pass 40 = .ok (.iconst 0, 1) := by decide +kernel
theorem dX0_pass_41 : decode cX0_pass 41 = .ok (.istore 4, 2) := by decide +kernel
theorem dX0_pass_43 : decode cX0_pass 43 = .ok (.iconst 0, 1) := by decide +kernel
theorem dX0_pass_44 : decode cX0_pass 44 = .ok (.istore 5, 2) := by decide +kernel
theorem dX0_pass_46 : decode cX0_pass 46 = .ok (.iload 5, 2) := by decide +kernel
theorem dX0_pass_48 : decode cX0_pass 48 = .ok (.ldc 49, 2) := by decide +kernel
theorem dX0_pass_50 : decode cX0_pass 50 = .ok (.if_icmp .ge 85, 3) := by decide +kernel
theorem dX0_pass_53 : decode cX0_pass 53 = .ok (.iload 4, 2) := by decide +kernel
theorem dX0_pass_55 : decode cX0_pass 55 = .ok (.ifCond .lt 80, 3) := by decide +kernel
theorem dX0_pass_58 : decode cX0_pass 58 = .ok (.iload 4, 2) := by decide +kernel
theorem dX0_pass_60 : decode cX0_pass 60 = .ok (.aload_n 3, 1) := by decide +kernel
theorem dX0_pass_61 : decode cX0_pass 61 = .ok (.getfield 50, 3) := by decide +kernel
theorem dX0_pass_64 : decode cX0_pass 64 = .ok (.if_icmp .ge 71, 3) := by decide +kernel
theorem dX0_pass_67 : decode cX0_pass 67 = .ok (.aload_n 3, 1) := by decide +kernel
theorem dX0_pass_68 : decode cX0_pass 68 = .ok (.iload 4, 2) := by decide +kernel
theorem dX0_pass_70 : decode cX0_pass 70 = .ok (.iconst 0, 1) := by decide +kernel
theorem dX0_pass_71 : decode cX0_pass 71 = .ok (.invokevirtual 53, 3) := by decide +kernel
theorem dX0_pass_74 : decode cX0_pass 74 = .ok (.bipush 21, 2) := by decide +kernel
theorem dX0_pass_76 : decode cX0_pass 76 = .ok (.if_icmp .ne 15, 3) := by decide +kernel
theorem dX0_pass_79 : decode cX0_pass 79 = .ok (.aload_n 0, 1) := by decide +kernel
theorem dX0_pass_80 : decode cX0_pass 80 = .ok (.aload_n 3, 1) := by decide +kernel
theorem dX0_pass_81 : decode cX0_pass 81 = .ok (.iload 4, 2) := by decide +kernel
theorem dX0_pass_83 : decode cX0_pass 83 = .ok (.invokevirtual 57, 3) := by decide +kernel
theorem dX0_pass_86 : decode cX0_pass 86 = .ok (.istore 4, 2) := by decide +kernel
theorem dX0_pass_88 : decode cX0_pass 88 = .ok (.goto 41, 3) := by decide +kernel
theorem dX0_pass_91 : decode cX0_pass 91 = .ok (.aload_n 0, 1) := by decide +kernel
theorem dX0_pass_92 : decode cX0_pass 92 = .ok (.getfield 24, 3) := by decide +kernel
theorem dX0_pass_95 : decode cX0_pass 95 = .ok (.sipush 300, 3) := by decide +kernel
theorem dX0_pass_98 : decode cX0_pass 98 = .ok (.if_icmp .ge 25, 3) := by decide +kernel
theorem dX0_pass_101 : decode cX0_pass 101 = .ok (.aload_n 0, 1) := by decide +kernel
theorem dX0_pass_102 : decode cX0_pass 102 = .ok (.dup, 1) := by decide +kernel
theorem dX0_pass_103 : decode cX0_pass 103 = .ok (.getfield 24, 3) := by decide +kernel
theorem dX0_pass_106 : decode cX0_pass 106 = .ok (.iconst 1, 1) := by decide +kernel
theorem dX0_pass_107 : decode cX0_pass 107 = .ok (.iadd, 1) := by decide +kernel
theorem dX0_pass_108 : decode cX0_pass 108 = .ok (.putfield 24, 3) := by decide +kernel
theorem dX0_pass_111 : decode cX0_pass 111 = .ok (.aload_n 0, 1) := by decide +kernel
theorem dX0_pass_112 : decode cX0_pass 112 = .ok (.aload_n 1, 1) := by decide +kernel
theorem dX0_pass_113 : decode cX0_pass 113 = .ok (.iload 4, 2) := by decide +kernel
theorem dX0_pass_115 : decode cX0_pass 115 = .ok (.invokevirtual 61, 3) := by decide +kernel
theorem dX0_pass_118 : decode cX0_pass 118 = .ok (.istore 4, 2) := by decide +kernel
theorem dX0_pass_120 : decode cX0_pass 120 = .ok (.goto 9, 3) := by decide +kernel
theorem dX0_pass_123 : decode cX0_pass 123 = .ok (.aload_n 0, 1) := by decide +kernel
theorem dX0_pass_124 : decode cX0_pass 124 = .ok (.iconst 1, 1) := by decide +kernel
theorem dX0_pass_125 : decode cX0_pass 125 = .ok (.putfield 39, 3) := by decide +kernel
theorem dX0_pass_128 : decode cX0_pass 128 = .ok (.return_, 1) := by decide +kernel
theorem dX0_pass_129 : decode cX0_pass 129 = .ok (.iinc 5 1, 3) := by decide +kernel
theorem dX0_pass_132 : decode cX0_pass 132 = .ok (.goto (-86), 3) := by decide +kernel
theorem dX0_pass_135 : decode cX0_pass 135 = .ok (.return_, 1) := by decide +kernel
theorem dX0_afterEnd_0 : decode cX0_afterEnd 0 = .ok (.aload_n 1, 1) := by decide +kernel
theorem dX0_afterEnd_1 : decode cX0_afterEnd 1 = .ok (.iload_n 2, 1) := by decide +kernel
theorem dX0_afterEnd_2 : decode cX0_afterEnd 2 = .ok (.iconst 5, 1) := by decide +kernel
theorem dX0_afterEnd_3 : decode cX0_afterEnd 3 = .ok (.invokevirtual 53, 3) := by decide +kernel
theorem dX0_afterEnd_6 : decode cX0_afterEnd 6 = .ok (.istore_n 3, 1) := by decide +kernel
theorem dX0_afterEnd_7 : decode cX0_afterEnd 7 = .ok (.aload_n 1, 1) := by decide +kernel
theorem dX0_afterEnd_8 : decode cX0_afterEnd 8 = .ok (.iload_n 3, 1) := by decide +kernel
theorem dX0_afterEnd_9 : decode cX0_afterEnd 9 = .ok (.iconst 0, 1) := by decide +kernel
theorem dX0_afterEnd_10 : decode cX0_afterEnd 10 = .ok (.invokevirtual 53, 3) := by decide +kernel
theorem dX0_afterEnd_13 : decode cX0_afterEnd 13 = .ok (.bipush 20, 2) := by decide +kernel
theorem dX0_afterEnd_15 : decode cX0_afterEnd 15 = .ok (.if_icmp .ne 16, 3) := by decide +kernel
theorem dX0_afterEnd_18 : decode cX0_afterEnd 18 = .ok (.iload_n 3, 1) := by decide +kernel
theorem dX0_afterEnd_19 : decode cX0_afterEnd 19 = .ok (.ifCond .lt 12, 3) := by decide +kernel
theorem dX0_afterEnd_22 : decode cX0_afterEnd 22 = .ok (.iload_n 3, 1) := by decide +kernel
theorem dX0_afterEnd_23 : decode cX0_afterEnd 23 = .ok (.aload_n 0, 1) := by decide +kernel
theorem dX0_afterEnd_24 : decode cX0_afterEnd 24 = .ok (.getfield 11, 3) := by decide +kernel
theorem dX0_afterEnd_27 : decode cX0_afterEnd 27 = .ok (.arraylength, 1) := by decide +kernel
theorem dX0_afterEnd_28 : decode cX0_afterEnd 28 = .ok (.if_icmp .lt 7, 3) := by decide +kernel
theorem dX0_afterEnd_31 : decode cX0_afterEnd 31 = .ok (.iload_n 2, 1) := by decide +kernel
theorem dX0_afterEnd_32 : decode cX0_afterEnd 32 = .ok (.iconst 1, 1) := by decide +kernel
theorem dX0_afterEnd_33 : decode cX0_afterEnd 33 = .ok (.iadd, 1) := by decide +kernel
theorem dX0_afterEnd_34 : decode cX0_afterEnd 34 = .ok (.ireturn, 1) := by decide +kernel
theorem dX0_afterEnd_35 : decode cX0_afterEnd 35 = .ok (.aload_n 0, 1) := by decide +kernel
theorem dX0_afterEnd_36 : decode cX0_afterEnd 36 = .ok (.getfield 11, 3) := by decide +kernel
theorem dX0_afterEnd_39 : decode cX0_afterEnd 39 = .ok (.iload_n 3, 1) := by decide +kernel
theorem dX0_afterEnd_40 : decode cX0_afterEnd 40 = .ok (.dup2, 1) := by decide +kernel
theorem dX0_afterEnd_41 : decode cX0_afterEnd 41 = .ok (.iaload, 1) := by decide +kernel
theorem dX0_afterEnd_42 : decode cX0_afterEnd 42 = .ok (.iconst 1, 1) := by decide +kernel
theorem dX0_afterEnd_43 : decode cX0_afterEnd 43 = .ok (.isub, 1) := by decide +kernel
theorem dX0_afterEnd_44 : decode cX0_afterEnd 44 = .ok (.iastore, 1) := by decide +kernel
theorem dX0_afterEnd_45 : decode cX0_afterEnd 45 = .ok (.aload_n 0, 1) := by decide +kernel
theorem dX0_afterEnd_46 : decode cX0_afterEnd 46 = .ok (.getfield 11, 3) := by decide +kernel
theorem dX0_afterEnd_49 : decode cX0_afterEnd 49 = .ok (.iload_n 3, 1) := by decide +kernel
theorem dX0_afterEnd_50 : decode cX0_afterEnd 50 = .ok (.iaload, 1) := by decide +kernel
theorem dX0_afterEnd_51 : decode cX0_afterEnd 51 = .ok (.ifCond .le 9, 3) := by decide +kernel
theorem dX0_afterEnd_54 : decode cX0_afterEnd 54 = .ok (.iload_n 3, 1) := by decide +kernel
theorem dX0_afterEnd_55 : decode cX0_afterEnd 55 = .ok (.iconst 1, 1) := by decide +kernel
theorem dX0_afterEnd_56 : decode cX0_afterEnd 56 = .ok (.iadd, 1) := by decide +kernel
theorem dX0_afterEnd_57 : decode cX0_afterEnd 57 = .ok (.goto 6, 3) := by decide +kernel
theorem dX0_afterEnd_60 : decode cX0_afterEnd 60 = .ok (.iload_n 2, 1) := by decide +kernel
theorem dX0_afterEnd_61 : decode cX0_afterEnd 61 = .ok (.iconst 1, 1) := by decide +kernel
theorem dX0_afterEnd_62 : decode cX0_afterEnd 62 = .ok (.iadd, 1) := by decide +kernel
theorem dX0_afterEnd_63 : decode cX0_afterEnd 63 = .ok (.ireturn, 1) := by decide +kernel
theorem dX0_afterStep_0 : decode cX0_afterStep 0 = .ok (.aload_n 1, 1) := by decide +kernel
theorem dX0_afterStep_1 : decode cX0_afterStep 1 = .ok (.getfield 43, 3) := by decide +kernel
theorem dX0_afterStep_4 : decode cX0_afterStep 4 = .ok (.astore_n 3, 1) := by decide +kernel
theorem dX0_afterStep_5 : decode cX0_afterStep 5 = .ok (.aload_n 3, 1) := by decide +kernel
theorem dX0_afterStep_6 : decode cX0_afterStep 6 = .ok (.iload_n 2, 1) := by decide +kernel
theorem dX0_afterStep_7 : decode cX0_afterStep 7 = .ok (.iconst 1, 1) := by decide +kernel
theorem dX0_afterStep_8 : decode cX0_afterStep 8 = .ok (.invokevirtual 53, 3) := by decide +kernel
theorem dX0_afterStep_11 : decode cX0_afterStep 11 = .ok (.istore 4, 2) := by decide +kernel
theorem dX0_afterStep_13 : decode cX0_afterStep 13 = .ok (.iconst 1, 1) := by decide +kernel
theorem dX0_afterStep_14 : decode cX0_afterStep 14 = .ok (.istore 5, 2) := by decide +kernel
theorem dX0_afterStep_16 : decode cX0_afterStep 16 = .ok (.aload_n 3, 1) := by decide +kernel
theorem dX0_afterStep_17 : decode cX0_afterStep 17 = .ok (.iload_n 2, 1) := by decide +kernel
theorem dX0_afterStep_18 : decode cX0_afterStep 18 = .ok (.iconst 0, 1) := by decide +kernel
theorem dX0_afterStep_19 : decode cX0_afterStep 19 = .ok (.invokevirtual 53, 3) := by decide +kernel
theorem dX0_afterStep_22 : decode cX0_afterStep 22 = .ok (.tableswitch 149 12 22 #[97, 109, 127, 139, 149, 58, 149, 149, 87, 149, 82], 58) := by decide +kernel
theorem dX0_afterStep_80 : decode cX0_afterStep 80 = .ok (.aload_n 0, 1) := by decide +kernel
theorem dX0_afterStep_81 : decode cX0_afterStep 81 = .ok (.aload_n 1, 1) := by decide +kernel
theorem dX0_afterStep_82 : decode cX0_afterStep 82 = .ok (.iload_n 2, 1) := by decide +kernel
theorem dX0_afterStep_83 : decode cX0_afterStep 83 = .ok (.invokevirtual 65, 3) := by decide +kernel
theorem dX0_afterStep_86 : decode cX0_afterStep 86 = .ok (.ifCond .eq 9, 3) := by decide +kernel
theorem dX0_afterStep_89 : decode cX0_afterStep 89 = .ok (.iload_n 2, 1) := by decide +kernel
theorem dX0_afterStep_90 : decode cX0_afterStep 90 = .ok (.iconst 1, 1) := by decide +kernel
theorem dX0_afterStep_91 : decode cX0_afterStep 91 = .ok (.iadd, 1) := by decide +kernel
theorem dX0_afterStep_92 : decode cX0_afterStep 92 = .ok (.goto 11, 3) := by decide +kernel
theorem dX0_afterStep_95 : decode cX0_afterStep 95 = .ok (.aload_n 3, 1) := by decide +kernel
theorem dX0_afterStep_96 : decode cX0_afterStep 96 = .ok (.iload_n 2, 1) := by decide +kernel
theorem dX0_afterStep_97 : decode cX0_afterStep 97 = .ok (.iconst 5, 1) := by decide +kernel
theorem dX0_afterStep_98 : decode cX0_afterStep 98 = .ok (.invokevirtual 53, 3) := by decide +kernel
theorem dX0_afterStep_101 : decode cX0_afterStep 101 = .ok (.iconst 1, 1) := by decide +kernel
theorem dX0_afterStep_102 : decode cX0_afterStep 102 = .ok (.iadd, 1) := by decide +kernel
theorem dX0_afterStep_103 : decode cX0_afterStep 103 = .ok (.ireturn, 1) := by decide +kernel
theorem dX0_afterStep_104 : decode cX0_afterStep 104 = .ok (.aload_n 3, 1) := by decide +kernel
theorem dX0_afterStep_105 : decode cX0_afterStep 105 = .ok (.getfield 50, 3) := by decide +kernel
theorem dX0_afterStep_108 : decode cX0_afterStep 108 = .ok (.ireturn, 1) := by decide +kernel
theorem dX0_afterStep_109 : decode cX0_afterStep 109 = .ok (.aload_n 0, 1) := by decide +kernel
theorem dX0_afterStep_110 : decode cX0_afterStep 110 = .ok (.iload_n 2, 1) := by decide +kernel
theorem dX0_afterStep_111 : decode cX0_afterStep 111 = .ok (.iload 4, 2) := by decide +kernel
theorem dX0_afterStep_113 : decode cX0_afterStep 113 = .ok (.invokevirtual 69, 3) := by decide +kernel
theorem dX0_afterStep_116 : decode cX0_afterStep 116 = .ok (.goto 62, 3) := by decide +kernel
theorem dX0_afterStep_119 : decode cX0_afterStep 119 = .ok (.aload_n 0, 1) := by decide +kernel
theorem dX0_afterStep_120 : decode cX0_afterStep 120 = .ok (.aload_n 1, 1) := by decide +kernel
theorem dX0_afterStep_121 : decode cX0_afterStep 121 = .ok (.iload 4, 2) := by decide +kernel
theorem dX0_afterStep_123 : decode cX0_afterStep 123 = .ok (.invokevirtual 73, 3) := by decide +kernel
theorem dX0_afterStep_126 : decode cX0_afterStep 126 = .ok (.istore 5, 2) := by decide +kernel
theorem dX0_afterStep_128 : decode cX0_afterStep 128 = .ok (.goto 50, 3) := by decide +kernel
theorem dX0_afterStep_131 : decode cX0_afterStep 131 = .ok (.aload_n 0, 1) := by decide +kernel
theorem dX0_afterStep_132 : decode cX0_afterStep 132 = .ok (.aload_n 1, 1) := by decide +kernel
theorem dX0_afterStep_133 : decode cX0_afterStep 133 = .ok (.iload 4, 2) := by decide +kernel
theorem dX0_afterStep_135 : decode cX0_afterStep 135 = .ok (.aload_n 3, 1) := by decide +kernel
theorem dX0_afterStep_136 : decode cX0_afterStep 136 = .ok (.iload_n 2, 1) := by decide +kernel
theorem dX0_afterStep_137 : decode cX0_afterStep 137 = .ok (.iconst 2, 1) := by decide +kernel
theorem dX0_afterStep_138 : decode cX0_afterStep 138 = .ok (.invokevirtual 53, 3) := by decide +kernel
theorem dX0_afterStep_141 : decode cX0_afterStep 141 = .ok (.invokevirtual 76, 3) := by decide +kernel
theorem dX0_afterStep_144 : decode cX0_afterStep 144 = .ok (.istore 5, 2) := by decide +kernel
theorem dX0_afterStep_146 : decode cX0_afterStep 146 = .ok (.goto 32, 3) := by decide +kernel
theorem dX0_afterStep_149 : decode cX0_afterStep 149 = .ok (.aload_n 1, 1) := by decide +kernel
theorem dX0_afterStep_150 : decode cX0_afterStep 150 = .ok (.getfield 80, 3) := by decide +kernel
theorem dX0_afterStep_153 : decode cX0_afterStep 153 = .ok (.invokestatic 84, 3) := by decide +kernel
theorem dX0_afterStep_156 : decode cX0_afterStep 156 = .ok (.istore 5, 2) := by decide +kernel
theorem dX0_afterStep_158 : decode cX0_afterStep 158 = .ok (.goto 20, 3) := by decide +kernel
theorem dX0_afterStep_161 : decode cX0_afterStep 161 = .ok (.aload_n 0, 1) := by decide +kernel
theorem dX0_afterStep_162 : decode cX0_afterStep 162 = .ok (.aload_n 1, 1) := by decide +kernel
theorem dX0_afterStep_163 : decode cX0_afterStep 163 = .ok (.invokevirtual 88, 3) := by decide +kernel
theorem dX0_afterStep_166 : decode cX0_afterStep 166 = .ok (.istore 5, 2) := by decide +kernel
theorem dX0_afterStep_168 : decode cX0_afterStep 168 = .ok (.goto 10, 3) := by decide +kernel
theorem dX0_afterStep_171 : decode cX0_afterStep 171 = .ok (.aload_n 0, 1) := by decide +kernel
theorem dX0_afterStep_172 : decode cX0_afterStep 172 = .ok (.aload_n 1, 1) := by decide +kernel
theorem dX0_afterStep_173 : decode cX0_afterStep 173 = .ok (.invokevirtual 92, 3) := by decide +kernel
theorem dX0_afterStep_176 : decode cX0_afterStep 176 = .ok (.istore 5, 2) := by decide +kernel
theorem dX0_afterStep_178 : decode cX0_afterStep 178 = .ok (.iload 5, 2) := by decide +kernel
theorem dX0_afterStep_180 : decode cX0_afterStep 180 = .ok (.ifCond .ne 13, 3) := by decide +kernel
theorem dX0_afterStep_183 : decode cX0_afterStep 183 = .ok (.aload_n 0, 1) := by decide +kernel
theorem dX0_afterStep_184 : decode cX0_afterStep 184 = .ok (.dup, 1) := by decide +kernel
theorem dX0_afterStep_185 : decode cX0_afterStep 185 = .ok (.getfield 27, 3) := by decide +kernel
theorem dX0_afterStep_188 : decode cX0_afterStep 188 = .ok (.iconst 1, 1) := by decide +kernel
theorem dX0_afterStep_189 : decode cX0_afterStep 189 = .ok (.iadd, 1) := by decide +kernel
theorem dX0_afterStep_190 : decode cX0_afterStep 190 = .ok (.putfield 27, 3) := by decide +kernel
theorem dX0_afterStep_193 : decode cX0_afterStep 193 = .ok (.iload_n 2, 1) := by decide +kernel
theorem dX0_afterStep_194 : decode cX0_afterStep 194 = .ok (.iconst 1, 1) := by decide +kernel
theorem dX0_afterStep_195 : decode cX0_afterStep 195 = .ok (.iadd, 1) := by decide +kernel
theorem dX0_afterStep_196 : decode cX0_afterStep 196 = .ok (.ireturn, 1) := by decide +kernel
theorem dX0_startRounds_0 : decode cX0_startRounds 0 = .ok (.iload_n 1, 1) := by decide +kernel
theorem dX0_startRounds_1 : decode cX0_startRounds 1 = .ok (.ifCond .lt 19, 3) := by decide +kernel
theorem dX0_startRounds_4 : decode cX0_startRounds 4 = .ok (.iload_n 1, 1) := by decide +kernel
theorem dX0_startRounds_5 : decode cX0_startRounds 5 = .ok (.aload_n 0, 1) := by decide +kernel
theorem dX0_startRounds_6 : decode cX0_startRounds 6 = .ok (.getfield 11, 3) := by decide +kernel
theorem dX0_startRounds_9 : decode cX0_startRounds 9 = .ok (.arraylength, 1) := by decide +kernel
theorem dX0_startRounds_10 : decode cX0_startRounds 10 = .ok (.if_icmp .ge 10, 3) := by decide +kernel
theorem dX0_startRounds_13 : decode cX0_startRounds 13 = .ok (.aload_n 0, 1) := by decide +kernel
theorem dX0_startRounds_14 : decode cX0_startRounds 14 = .ok (.getfield 11, 3) := by decide +kernel
theorem dX0_startRounds_17 : decode cX0_startRounds 17 = .ok (.iload_n 1, 1) := by decide +kernel
theorem dX0_startRounds_18 : decode cX0_startRounds 18 = .ok (.iload_n 2, 1) := by decide +kernel
theorem dX0_startRounds_19 : decode cX0_startRounds 19 = .ok (.iastore, 1) := by decide +kernel
theorem dX0_startRounds_20 : decode cX0_startRounds 20 = .ok (.return_, 1) := by decide +kernel
theorem dX0_letPass_0 : decode cX0_letPass 0 = .ok (.aload_n 1, 1) := by decide +kernel
theorem dX0_letPass_1 : decode cX0_letPass 1 = .ok (.iload_n 2, 1) := by decide +kernel
theorem dX0_letPass_2 : decode cX0_letPass 2 = .ok (.invokevirtual 95, 3) := by decide +kernel
theorem dX0_letPass_5 : decode cX0_letPass 5 = .ok (.ifCond .ne 5, 3) := by decide +kernel
theorem dX0_letPass_8 : decode cX0_letPass 8 = .ok (.iconst 0, 1) := by decide +kernel
theorem dX0_letPass_9 : decode cX0_letPass 9 = .ok (.ireturn, 1) := by decide +kernel
theorem dX0_letPass_10 : decode cX0_letPass 10 = .ok (.aload_n 0, 1) := by decide +kernel
theorem dX0_letPass_11 : decode cX0_letPass 11 = .ok (.dup, 1) := by decide +kernel
theorem dX0_letPass_12 : decode cX0_letPass 12 = .ok (.getfield 30, 3) := by decide +kernel
theorem dX0_letPass_15 : decode cX0_letPass 15 = .ok (.iload_n 2, 1) := by decide +kernel
theorem dX0_letPass_16 : decode cX0_letPass 16 = .ok (.iadd, 1) := by decide +kernel
theorem dX0_letPass_17 : decode cX0_letPass 17 = .ok (.putfield 30, 3) := by decide +kernel
theorem dX0_letPass_20 : decode cX0_letPass 20 = .ok (.iconst 1, 1) := by decide +kernel
theorem dX0_letPass_21 : decode cX0_letPass 21 = .ok (.ireturn, 1) := by decide +kernel
theorem dX0_makeMove_0 : decode cX0_makeMove 0 = .ok (.aload_n 1, 1) := by decide +kernel
theorem dX0_makeMove_1 : decode cX0_makeMove 1 = .ok (.getfield 80, 3) := by decide +kernel
theorem dX0_makeMove_4 : decode cX0_makeMove 4 = .ok (.iload_n 2, 1) := by decide +kernel
theorem dX0_makeMove_5 : decode cX0_makeMove 5 = .ok (.invokevirtual 99, 3) := by decide +kernel
theorem dX0_makeMove_8 : decode cX0_makeMove 8 = .ok (.ifCond .eq 15, 3) := by decide +kernel
theorem dX0_makeMove_11 : decode cX0_makeMove 11 = .ok (.aload_n 1, 1) := by decide +kernel
theorem dX0_makeMove_12 : decode cX0_makeMove 12 = .ok (.getfield 80, 3) := by decide +kernel
theorem dX0_makeMove_15 : decode cX0_makeMove 15 = .ok (.iload_n 2, 1) := by decide +kernel
theorem dX0_makeMove_16 : decode cX0_makeMove 16 = .ok (.iload_n 3, 1) := by decide +kernel
theorem dX0_makeMove_17 : decode cX0_makeMove 17 = .ok (.invokevirtual 104, 3) := by decide +kernel
theorem dX0_makeMove_20 : decode cX0_makeMove 20 = .ok (.ifCond .ne 5, 3) := by decide +kernel
theorem dX0_makeMove_23 : decode cX0_makeMove 23 = .ok (.iconst 0, 1) := by decide +kernel
theorem dX0_makeMove_24 : decode cX0_makeMove 24 = .ok (.ireturn, 1) := by decide +kernel
theorem dX0_makeMove_25 : decode cX0_makeMove 25 = .ok (.aload_n 0, 1) := by decide +kernel
theorem dX0_makeMove_26 : decode cX0_makeMove 26 = .ok (.aload_n 1, 1) := by decide +kernel
theorem dX0_makeMove_27 : decode cX0_makeMove 27 = .ok (.iload_n 2, 1) := by decide +kernel
theorem dX0_makeMove_28 : decode cX0_makeMove 28 = .ok (.iload_n 3, 1) := by decide +kernel
theorem dX0_makeMove_29 : decode cX0_makeMove 29 = .ok (.invokevirtual 108, 3) := by decide +kernel
theorem dX0_makeMove_32 : decode cX0_makeMove 32 = .ok (.iconst 1, 1) := by decide +kernel
theorem dX0_makeMove_33 : decode cX0_makeMove 33 = .ok (.ireturn, 1) := by decide +kernel
theorem dX0_carry_0 : decode cX0_carry 0 = .ok (.aload_n 1, 1) := by decide +kernel
theorem dX0_carry_1 : decode cX0_carry 1 = .ok (.iload_n 2, 1) := by decide +kernel
theorem dX0_carry_2 : decode cX0_carry 2 = .ok (.iload_n 3, 1) := by decide +kernel
theorem dX0_carry_3 : decode cX0_carry 3 = .ok (.invokevirtual 112, 3) := by decide +kernel
theorem dX0_carry_6 : decode cX0_carry 6 = .ok (.pop, 1) := by decide +kernel
theorem dX0_carry_7 : decode cX0_carry 7 = .ok (.aload_n 0, 1) := by decide +kernel
theorem dX0_carry_8 : decode cX0_carry 8 = .ok (.dup, 1) := by decide +kernel
theorem dX0_carry_9 : decode cX0_carry 9 = .ok (.getfield 36, 3) := by decide +kernel
theorem dX0_carry_12 : decode cX0_carry 12 = .ok (.iconst 1, 1) := by decide +kernel
theorem dX0_carry_13 : decode cX0_carry 13 = .ok (.iadd, 1) := by decide +kernel
theorem dX0_carry_14 : decode cX0_carry 14 = .ok (.putfield 36, 3) := by decide +kernel
theorem dX0_carry_17 : decode cX0_carry 17 = .ok (.iload_n 3, 1) := by decide +kernel
theorem dX0_carry_18 : decode cX0_carry 18 = .ok (.bipush 7, 2) := by decide +kernel
theorem dX0_carry_20 : decode cX0_carry 20 = .ok (.if_icmp .ne 13, 3) := by decide +kernel
theorem dX0_carry_23 : decode cX0_carry 23 = .ok (.aload_n 0, 1) := by decide +kernel
theorem dX0_carry_24 : decode cX0_carry 24 = .ok (.dup, 1) := by decide +kernel
theorem dX0_carry_25 : decode cX0_carry 25 = .ok (.getfield 33, 3) := by decide +kernel
theorem dX0_carry_28 : decode cX0_carry 28 = .ok (.iconst 1, 1) := by decide +kernel
theorem dX0_carry_29 : decode cX0_carry 29 = .ok (.iadd, 1) := by decide +kernel
theorem dX0_carry_30 : decode cX0_carry 30 = .ok (.putfield 33, 3) := by decide +kernel
theorem dX0_carry_33 : decode cX0_carry 33 = .ok (.return_, 1) := by decide +kernel
theorem dX0_turnCard_0 : decode cX0_turnCard 0 = .ok (.aload_n 0, 1) := by decide +kernel
theorem dX0_turnCard_1 : decode cX0_turnCard 1 = .ok (.invokevirtual 115, 3) := by decide +kernel
theorem dX0_turnCard_4 : decode cX0_turnCard 4 = .ok (.ifCond .ne 5, 3) := by decide +kernel
theorem dX0_turnCard_7 : decode cX0_turnCard 7 = .ok (.iconst 0, 1) := by decide +kernel
theorem dX0_turnCard_8 : decode cX0_turnCard 8 = .ok (.ireturn, 1) := by decide +kernel
theorem dX0_turnCard_9 : decode cX0_turnCard 9 = .ok (.aload_n 0, 1) := by decide +kernel
theorem dX0_turnCard_10 : decode cX0_turnCard 10 = .ok (.invokevirtual 119, 3) := by decide +kernel
theorem dX0_turnCard_13 : decode cX0_turnCard 13 = .ok (.pop, 1) := by decide +kernel
theorem dX0_turnCard_14 : decode cX0_turnCard 14 = .ok (.iconst 1, 1) := by decide +kernel
theorem dX0_turnCard_15 : decode cX0_turnCard 15 = .ok (.ireturn, 1) := by decide +kernel
theorem dX0_makeRun_0 : decode cX0_makeRun 0 = .ok (.aload_n 1, 1) := by decide +kernel
theorem dX0_makeRun_1 : decode cX0_makeRun 1 = .ok (.invokevirtual 123, 3) := by decide +kernel
theorem dX0_makeRun_4 : decode cX0_makeRun 4 = .ok (.istore_n 2, 1) := by decide +kernel
theorem dX0_makeRun_5 : decode cX0_makeRun 5 = .ok (.aload_n 0, 1) := by decide +kernel
theorem dX0_makeRun_6 : decode cX0_makeRun 6 = .ok (.dup, 1) := by decide +kernel
theorem dX0_makeRun_7 : decode cX0_makeRun 7 = .ok (.getfield 33, 3) := by decide +kernel
theorem dX0_makeRun_10 : decode cX0_makeRun 10 = .ok (.iload_n 2, 1) := by decide +kernel
theorem dX0_makeRun_11 : decode cX0_makeRun 11 = .ok (.iadd, 1) := by decide +kernel
theorem dX0_makeRun_12 : decode cX0_makeRun 12 = .ok (.putfield 33, 3) := by decide +kernel
theorem dX0_makeRun_15 : decode cX0_makeRun 15 = .ok (.iload_n 2, 1) := by decide +kernel
theorem dX0_makeRun_16 : decode cX0_makeRun 16 = .ok (.ifCond .le 7, 3) := by decide +kernel
theorem dX0_makeRun_19 : decode cX0_makeRun 19 = .ok (.iconst 1, 1) := by decide +kernel
theorem dX0_makeRun_20 : decode cX0_makeRun 20 = .ok (.goto 4, 3) := by decide +kernel
theorem dX0_makeRun_23 : decode cX0_makeRun 23 = .ok (.iconst 0, 1) := by decide +kernel
theorem dX0_makeRun_24 : decode cX0_makeRun 24 = .ok (.ireturn, 1) := by decide +kernel
theorem dX0_makeAny_0 : decode cX0_makeAny 0 = .ok (.aload_n 1, 1) := by decide +kernel
theorem dX0_makeAny_1 : decode cX0_makeAny 1 = .ok (.getfield 80, 3) := by decide +kernel
theorem dX0_makeAny_4 : decode cX0_makeAny 4 = .ok (.aload_n 0, 1) := by decide +kernel
theorem dX0_makeAny_5 : decode cX0_makeAny 5 = .ok (.getfield 17, 3) := by decide +kernel
theorem dX0_makeAny_8 : decode cX0_makeAny 8 = .ok (.iconst 0, 1) := by decide +kernel
theorem dX0_makeAny_9 : decode cX0_makeAny 9 = .ok (.invokevirtual 126, 3) := by decide +kernel
theorem dX0_makeAny_12 : decode cX0_makeAny 12 = .ok (.istore_n 2, 1) := by decide +kernel
theorem dX0_makeAny_13 : decode cX0_makeAny 13 = .ok (.iload_n 2, 1) := by decide +kernel
theorem dX0_makeAny_14 : decode cX0_makeAny 14 = .ok (.iconst 1, 1) := by decide +kernel
theorem dX0_makeAny_15 : decode cX0_makeAny 15 = .ok (.if_icmp .ge 5, 3) := by decide +kernel
theorem dX0_makeAny_18 : decode cX0_makeAny 18 = .ok (.iconst 0, 1) := by decide +kernel
theorem dX0_makeAny_19 : decode cX0_makeAny 19 = .ok (.ireturn, 1) := by decide +kernel
theorem dX0_makeAny_20 : decode cX0_makeAny 20 = .ok (.aload_n 0, 1) := by decide +kernel
theorem dX0_makeAny_21 : decode cX0_makeAny 21 = .ok (.aload_n 0, 1) := by decide +kernel
theorem dX0_makeAny_22 : decode cX0_makeAny 22 = .ok (.getfield 20, 3) := by decide +kernel
theorem dX0_makeAny_25 : decode cX0_makeAny 25 = .ok (.invokestatic 130, 3) := by decide +kernel
theorem dX0_makeAny_28 : decode cX0_makeAny 28 = .ok (.putfield 20, 3) := by decide +kernel
theorem dX0_makeAny_31 : decode cX0_makeAny 31 = .ok (.aload_n 0, 1) := by decide +kernel
theorem dX0_makeAny_32 : decode cX0_makeAny 32 = .ok (.getfield 20, 3) := by decide +kernel
theorem dX0_makeAny_35 : decode cX0_makeAny 35 = .ok (.bipush 8, 2) := by decide +kernel
theorem dX0_makeAny_37 : decode cX0_makeAny 37 = .ok (.idiv, 1) := by decide +kernel
theorem dX0_makeAny_38 : decode cX0_makeAny 38 = .ok (.iload_n 2, 1) := by decide +kernel
theorem dX0_makeAny_39 : decode cX0_makeAny 39 = .ok (.irem, 1) := by decide +kernel
theorem dX0_makeAny_40 : decode cX0_makeAny 40 = .ok (.istore_n 3, 1) := by decide +kernel
theorem dX0_makeAny_41 : decode cX0_makeAny 41 = .ok (.iload_n 3, 1) := by decide +kernel
theorem dX0_makeAny_42 : decode cX0_makeAny 42 = .ok (.ifCond .lt 12, 3) := by decide +kernel
theorem dX0_makeAny_45 : decode cX0_makeAny 45 = .ok (.iload_n 3, 1) := by decide +kernel
theorem dX0_makeAny_46 : decode cX0_makeAny 46 = .ok (.aload_n 0, 1) := by decide +kernel
theorem dX0_makeAny_47 : decode cX0_makeAny 47 = .ok (.getfield 17, 3) := by decide +kernel
theorem dX0_makeAny_50 : decode cX0_makeAny 50 = .ok (.arraylength, 1) := by decide +kernel
theorem dX0_makeAny_51 : decode cX0_makeAny 51 = .ok (.if_icmp .lt 5, 3) := by decide +kernel
theorem dX0_makeAny_54 : decode cX0_makeAny 54 = .ok (.iconst 0, 1) := by decide +kernel
theorem dX0_makeAny_55 : decode cX0_makeAny 55 = .ok (.ireturn, 1) := by decide +kernel
theorem dX0_makeAny_56 : decode cX0_makeAny 56 = .ok (.aload_n 0, 1) := by decide +kernel
theorem dX0_makeAny_57 : decode cX0_makeAny 57 = .ok (.aload_n 1, 1) := by decide +kernel
theorem dX0_makeAny_58 : decode cX0_makeAny 58 = .ok (.aload_n 0, 1) := by decide +kernel
theorem dX0_makeAny_59 : decode cX0_makeAny 59 = .ok (.getfield 17, 3) := by decide +kernel
theorem dX0_makeAny_62 : decode cX0_makeAny 62 = .ok (.iload_n 3, 1) := by decide +kernel
theorem dX0_makeAny_63 : decode cX0_makeAny 63 = .ok (.iaload, 1) := by decide +kernel
theorem dX0_makeAny_64 : decode cX0_makeAny 64 = .ok (.bipush 10, 2) := by decide +kernel
theorem dX0_makeAny_66 : decode cX0_makeAny 66 = .ok (.idiv, 1) := by decide +kernel
theorem dX0_makeAny_67 : decode cX0_makeAny 67 = .ok (.aload_n 0, 1) := by decide +kernel
theorem dX0_makeAny_68 : decode cX0_makeAny 68 = .ok (.getfield 17, 3) := by decide +kernel
theorem dX0_makeAny_71 : decode cX0_makeAny 71 = .ok (.iload_n 3, 1) := by decide +kernel
theorem dX0_makeAny_72 : decode cX0_makeAny 72 = .ok (.iaload, 1) := by decide +kernel
theorem dX0_makeAny_73 : decode cX0_makeAny 73 = .ok (.bipush 10, 2) := by decide +kernel
theorem dX0_makeAny_75 : decode cX0_makeAny 75 = .ok (.irem, 1) := by decide +kernel
theorem dX0_makeAny_76 : decode cX0_makeAny 76 = .ok (.invokevirtual 108, 3) := by decide +kernel
theorem dX0_makeAny_79 : decode cX0_makeAny 79 = .ok (.iconst 1, 1) := by decide +kernel
theorem dX0_makeAny_80 : decode cX0_makeAny 80 = .ok (.ireturn, 1) := by decide +kernel
theorem dX0_holds_0 : decode cX0_holds 0 = .ok (.aload_n 1, 1) := by decide +kernel
theorem dX0_holds_1 : decode cX0_holds 1 = .ok (.getfield 43, 3) := by decide +kernel
theorem dX0_holds_4 : decode cX0_holds 4 = .ok (.astore_n 3, 1) := by decide +kernel
theorem dX0_holds_5 : decode cX0_holds 5 = .ok (.aload_n 3, 1) := by decide +kernel
theorem dX0_holds_6 : decode cX0_holds 6 = .ok (.iload_n 2, 1) := by decide +kernel
theorem dX0_holds_7 : decode cX0_holds 7 = .ok (.iconst 2, 1) := by decide +kernel
theorem dX0_holds_8 : decode cX0_holds 8 = .ok (.invokevirtual 53, 3) := by decide +kernel
theorem dX0_holds_11 : decode cX0_holds 11 = .ok (.istore 4, 2) := by decide +kernel
theorem dX0_holds_13 : decode cX0_holds 13 = .ok (.aload_n 3, 1) := by decide +kernel
theorem dX0_holds_14 : decode cX0_holds 14 = .ok (.iload_n 2, 1) := by decide +kernel
theorem dX0_holds_15 : decode cX0_holds 15 = .ok (.iconst 1, 1) := by decide +kernel
theorem dX0_holds_16 : decode cX0_holds 16 = .ok (.invokevirtual 53, 3) := by decide +kernel
theorem dX0_holds_19 : decode cX0_holds 19 = .ok (.lookupswitch 93 #[(10, 60), (18, 25)], 25) := by decide +kernel
theorem dX0_holds_44 : decode cX0_holds 44 = .ok (.iload 4, 2) := by decide +kernel
theorem dX0_holds_46 : decode cX0_holds 46 = .ok (.ifCond .lt 31, 3) := by decide +kernel
theorem dX0_holds_49 : decode cX0_holds 49 = .ok (.iload 4, 2) := by decide +kernel
theorem dX0_holds_51 : decode cX0_holds 51 = .ok (.iconst 4, 1) := by decide +kernel
theorem dX0_holds_52 : decode cX0_holds 52 = .ok (.if_icmp .ge 25, 3) := by decide +kernel
theorem dX0_holds_55 : decode cX0_holds 55 = .ok (.aload_n 1, 1) := by decide +kernel
theorem dX0_holds_56 : decode cX0_holds 56 = .ok (.getfield 80, 3) := by decide +kernel
theorem dX0_holds_59 : decode cX0_holds 59 = .ok (.getfield 134, 3) := by decide +kernel
theorem dX0_holds_62 : decode cX0_holds 62 = .ok (.iload 4, 2) := by decide +kernel
theorem dX0_holds_64 : decode cX0_holds 64 = .ok (.iaload, 1) := by decide +kernel
theorem dX0_holds_65 : decode cX0_holds 65 = .ok (.aload_n 3, 1) := by decide +kernel
theorem dX0_holds_66 : decode cX0_holds 66 = .ok (.iload_n 2, 1) := by decide +kernel
theorem dX0_holds_67 : decode cX0_holds 67 = .ok (.invokestatic 137, 3) := by decide +kernel
theorem dX0_holds_70 : decode cX0_holds 70 = .ok (.ifCond .eq 7, 3) := by decide +kernel
theorem dX0_holds_73 : decode cX0_holds 73 = .ok (.iconst 1, 1) := by decide +kernel
theorem dX0_holds_74 : decode cX0_holds 74 = .ok (.goto 4, 3) := by decide +kernel
theorem dX0_holds_77 : decode cX0_holds 77 = .ok (.iconst 0, 1) := by decide +kernel
theorem dX0_holds_78 : decode cX0_holds 78 = .ok (.ireturn, 1) := by decide +kernel
theorem dX0_holds_79 : decode cX0_holds 79 = .ok (.iload 4, 2) := by decide +kernel
theorem dX0_holds_81 : decode cX0_holds 81 = .ok (.ifCond .lt 29, 3) := by decide +kernel
theorem dX0_holds_84 : decode cX0_holds 84 = .ok (.iload 4, 2) := by decide +kernel
theorem dX0_holds_86 : decode cX0_holds 86 = .ok (.bipush 6, 2) := by decide +kernel
theorem dX0_holds_88 : decode cX0_holds 88 = .ok (.if_icmp .ge 22, 3) := by decide +kernel
theorem dX0_holds_91 : decode cX0_holds 91 = .ok (.aload_n 1, 1) := by decide +kernel
theorem dX0_holds_92 : decode cX0_holds 92 = .ok (.getfield 141, 3) := by decide +kernel
theorem dX0_holds_95 : decode cX0_holds 95 = .ok (.iload 4, 2) := by decide +kernel
theorem dX0_holds_97 : decode cX0_holds 97 = .ok (.iaload, 1) := by decide +kernel
theorem dX0_holds_98 : decode cX0_holds 98 = .ok (.aload_n 3, 1) := by decide +kernel
theorem dX0_holds_99 : decode cX0_holds 99 = .ok (.iload_n 2, 1) := by decide +kernel
theorem dX0_holds_100 : decode cX0_holds 100 = .ok (.invokestatic 137, 3) := by decide +kernel
theorem dX0_holds_103 : decode cX0_holds 103 = .ok (.ifCond .eq 7, 3) := by decide +kernel
theorem dX0_holds_106 : decode cX0_holds 106 = .ok (.iconst 1, 1) := by decide +kernel
theorem dX0_holds_107 : decode cX0_holds 107 = .ok (.goto 4, 3) := by decide +kernel
theorem dX0_holds_110 : decode cX0_holds 110 = .ok (.iconst 0, 1) := by decide +kernel
theorem dX0_holds_111 : decode cX0_holds 111 = .ok (.ireturn, 1) := by decide +kernel
theorem dX0_holds_112 : decode cX0_holds 112 = .ok (.aload_n 1, 1) := by decide +kernel
theorem dX0_holds_113 : decode cX0_holds 113 = .ok (.getfield 80, 3) := by decide +kernel
theorem dX0_holds_116 : decode cX0_holds 116 = .ok (.aload_n 0, 1) := by decide +kernel
theorem dX0_holds_117 : decode cX0_holds 117 = .ok (.getfield 17, 3) := by decide +kernel
theorem dX0_holds_120 : decode cX0_holds 120 = .ok (.iconst 0, 1) := by decide +kernel
theorem dX0_holds_121 : decode cX0_holds 121 = .ok (.invokevirtual 126, 3) := by decide +kernel
theorem dX0_holds_124 : decode cX0_holds 124 = .ok (.ifCond .ne 7, 3) := by decide +kernel
theorem dX0_holds_127 : decode cX0_holds 127 = .ok (.iconst 1, 1) := by decide +kernel
theorem dX0_holds_128 : decode cX0_holds 128 = .ok (.goto 4, 3) := by decide +kernel
theorem dX0_holds_131 : decode cX0_holds 131 = .ok (.iconst 0, 1) := by decide +kernel
theorem dX0_holds_132 : decode cX0_holds 132 = .ok (.ireturn, 1) := by decide +kernel
theorem dX0_compares_0 : decode cX0_compares 0 = .ok (.aload_n 1, 1) := by decide +kernel
theorem dX0_compares_1 : decode cX0_compares 1 = .ok (.iload_n 2, 1) := by decide +kernel
theorem dX0_compares_2 : decode cX0_compares 2 = .ok (.iconst 4, 1) := by decide +kernel
theorem dX0_compares_3 : decode cX0_compares 3 = .ok (.invokevirtual 53, 3) := by decide +kernel
theorem dX0_compares_6 : decode cX0_compares 6 = .ok (.istore_n 3, 1) := by decide +kernel
theorem dX0_compares_7 : decode cX0_compares 7 = .ok (.aload_n 1, 1) := by decide +kernel
theorem dX0_compares_8 : decode cX0_compares 8 = .ok (.iload_n 2, 1) := by decide +kernel
theorem dX0_compares_9 : decode cX0_compares 9 = .ok (.iconst 3, 1) := by decide +kernel
theorem dX0_compares_10 : decode cX0_compares 10 = .ok (.invokevirtual 53, 3) := by decide +kernel
theorem dX0_compares_13 : decode cX0_compares 13 = .ok (.lookupswitch 49 #[(60, 27), (62, 38)], 27) := by decide +kernel
theorem dX0_compares_40 : decode cX0_compares 40 = .ok (.iload_n 0, 1) := by decide +kernel
theorem dX0_compares_41 : decode cX0_compares 41 = .ok (.iload_n 3, 1) := by decide +kernel
theorem dX0_compares_42 : decode cX0_compares 42 = .ok (.if_icmp .ge 7, 3) := by decide +kernel
theorem dX0_compares_45 : decode cX0_compares 45 = .ok (.iconst 1, 1) := by decide +kernel
theorem dX0_compares_46 : decode cX0_compares 46 = .ok (.goto 4, 3) := by decide +kernel
theorem dX0_compares_49 : decode cX0_compares 49 = .ok (.iconst 0, 1) := by decide +kernel
theorem dX0_compares_50 : decode cX0_compares 50 = .ok (.ireturn, 1) := by decide +kernel
theorem dX0_compares_51 : decode cX0_compares 51 = .ok (.iload_n 0, 1) := by decide +kernel
theorem dX0_compares_52 : decode cX0_compares 52 = .ok (.iload_n 3, 1) := by decide +kernel
theorem dX0_compares_53 : decode cX0_compares 53 = .ok (.if_icmp .le 7, 3) := by decide +kernel
theorem dX0_compares_56 : decode cX0_compares 56 = .ok (.iconst 1, 1) := by decide +kernel
theorem dX0_compares_57 : decode cX0_compares 57 = .ok (.goto 4, 3) := by decide +kernel
theorem dX0_compares_60 : decode cX0_compares 60 = .ok (.iconst 0, 1) := by decide +kernel
theorem dX0_compares_61 : decode cX0_compares 61 = .ok (.ireturn, 1) := by decide +kernel
theorem dX0_compares_62 : decode cX0_compares 62 = .ok (.iload_n 0, 1) := by decide +kernel
theorem dX0_compares_63 : decode cX0_compares 63 = .ok (.iload_n 3, 1) := by decide +kernel
theorem dX0_compares_64 : decode cX0_compares 64 = .ok (.if_icmp .ne 7, 3) := by decide +kernel
theorem dX0_compares_67 : decode cX0_compares 67 = .ok (.iconst 1, 1) := by decide +kernel
theorem dX0_compares_68 : decode cX0_compares 68 = .ok (.goto 4, 3) := by decide +kernel
theorem dX0_compares_71 : decode cX0_compares 71 = .ok (.iconst 0, 1) := by decide +kernel
theorem dX0_compares_72 : decode cX0_compares 72 = .ok (.ireturn, 1) := by decide +kernel
theorem dX1_init_0 : decode cX1_init 0 = .ok (.aload_n 0, 1) := by decide +kernel
theorem dX1_init_1 : decode cX1_init 1 = .ok (.invokespecial 3, 3) := by decide +kernel
theorem dX1_init_4 : decode cX1_init 4 = .ok (.aload_n 0, 1) := by decide +kernel
theorem dX1_init_5 : decode cX1_init 5 = .ok (.new 9, 3) := by decide +kernel
theorem dX1_init_8 : decode cX1_init 8 = .ok (.dup, 1) := by decide +kernel
theorem dX1_init_9 : decode cX1_init 9 = .ok (.invokespecial 11, 3) := by decide +kernel
theorem dX1_init_12 : decode cX1_init 12 = .ok (.putfield 12, 3) := by decide +kernel
theorem dX1_init_15 : decode cX1_init 15 = .ok (.aload_n 0, 1) := by decide +kernel
theorem dX1_init_16 : decode cX1_init 16 = .ok (.bipush 24, 2) := by decide +kernel
theorem dX1_init_18 : decode cX1_init 18 = .ok (.newarray .int, 2) := by decide +kernel
theorem dX1_init_20 : decode cX1_init 20 = .ok (.putfield 18, 3) := by decide +kernel
theorem dX1_init_23 : decode cX1_init 23 = .ok (.aload_n 0, 1) := by decide +kernel
theorem dX1_init_24 : decode cX1_init 24 = .ok (.iconst 4, 1) := by decide +kernel
theorem dX1_init_25 : decode cX1_init 25 = .ok (.newarray .int, 2) := by decide +kernel
theorem dX1_init_27 : decode cX1_init 27 = .ok (.putfield 22, 3) := by decide +kernel
theorem dX1_init_30 : decode cX1_init 30 = .ok (.return_, 1) := by decide +kernel
theorem dX1_dealOut_0 : decode cX1_dealOut 0 = .ok (.aload_n 0, 1) := by decide +kernel
theorem dX1_dealOut_1 : decode cX1_dealOut 1 = .ok (.aload_n 1, 1) := by decide +kernel
theorem dX1_dealOut_2 : decode cX1_dealOut 2 = .ok (.iload_n 2, 1) := by decide +kernel
theorem dX1_dealOut_3 : decode cX1_dealOut 3 = .ok (.invokevirtual 25, 3) := by decide +kernel
theorem dX1_dealOut_6 : decode cX1_dealOut 6 = .ok (.istore_n 3, 1) := by decide +kernel
theorem dX1_dealOut_7 : decode cX1_dealOut 7 = .ok (.aload_n 1, 1) := by decide +kernel
theorem dX1_dealOut_8 : decode cX1_dealOut 8 = .ok (.invokevirtual 29, 3) := by decide +kernel
theorem dX1_dealOut_11 : decode cX1_dealOut 11 = .ok (.iconst 0, 1) := by decide +kernel
theorem dX1_dealOut_12 : decode cX1_dealOut 12 = .ok (.istore 4, 2) := by decide +kernel
theorem dX1_dealOut_14 : decode cX1_dealOut 14 = .ok (.iconst 0, 1) := by decide +kernel
theorem dX1_dealOut_15 : decode cX1_dealOut 15 = .ok (.istore 5, 2) := by decide +kernel
theorem dX1_dealOut_17 : decode cX1_dealOut 17 = .ok (.iload 5, 2) := by decide +kernel
theorem dX1_dealOut_19 : decode cX1_dealOut 19 = .ok (.aload_n 1, 1) := by decide +kernel
theorem dX1_dealOut_20 : decode cX1_dealOut 20 = .ok (.getfield 32, 3) := by decide +kernel
theorem dX1_dealOut_23 : decode cX1_dealOut 23 = .ok (.if_icmp .ge 61, 3) := by decide +kernel
theorem dX1_dealOut_26 : decode cX1_dealOut 26 = .ok (.iload 5, 2) := by decide +kernel
theorem dX1_dealOut_28 : decode cX1_dealOut 28 = .ok (.bipush 6, 2) := by decide +kernel
theorem dX1_dealOut_30 : decode cX1_dealOut 30 = .ok (.if_icmp .ge 54, 3) := by decide +kernel
theorem dX1_dealOut_33 : decode cX1_dealOut 33 = .ok (.iconst 0, 1) := by decide +kernel
theorem dX1_dealOut_34 : decode cX1_dealOut 34 = .ok (.istore 6, 2) := by decide +kernel
theorem dX1_dealOut_36 : decode cX1_dealOut 36 = .ok (.iload 6, 2) := by decide +kernel
theorem dX1_dealOut_38 : decode cX1_dealOut 38 = .ok (.iload 5, 2) := by decide +kernel
theorem dX1_dealOut_40 : decode cX1_dealOut 40 = .ok (.if_icmp .gt 38, 3) := by decide +kernel
theorem dX1_dealOut_43 : decode cX1_dealOut 43 = .ok (.iload 4, 2) := by decide +kernel
theorem dX1_dealOut_45 : decode cX1_dealOut 45 = .ok (.iload_n 3, 1) := by decide +kernel
theorem dX1_dealOut_46 : decode cX1_dealOut 46 = .ok (.if_icmp .ge 32, 3) := by decide +kernel
theorem dX1_dealOut_49 : decode cX1_dealOut 49 = .ok (.iload 4, 2) := by decide +kernel
theorem dX1_dealOut_51 : decode cX1_dealOut 51 = .ok (.bipush 24, 2) := by decide +kernel
theorem dX1_dealOut_53 : decode cX1_dealOut 53 = .ok (.if_icmp .ge 25, 3) := by decide +kernel
theorem dX1_dealOut_56 : decode cX1_dealOut 56 = .ok (.aload_n 1, 1) := by decide +kernel
theorem dX1_dealOut_57 : decode cX1_dealOut 57 = .ok (.iload 5, 2) := by decide +kernel
theorem dX1_dealOut_59 : decode cX1_dealOut 59 = .ok (.aload_n 0, 1) := by decide +kernel
theorem dX1_dealOut_60 : decode cX1_dealOut 60 = .ok (.getfield 18, 3) := by decide +kernel
theorem dX1_dealOut_63 : decode cX1_dealOut 63 = .ok (.iload 4, 2) := by decide +kernel
theorem dX1_dealOut_65 : decode cX1_dealOut 65 = .ok (.iaload, 1) := by decide +kernel
theorem dX1_dealOut_66 : decode cX1_dealOut 66 = .ok (.invokevirtual 36, 3) := by decide +kernel
theorem dX1_dealOut_69 : decode cX1_dealOut 69 = .ok (.iinc 4 1, 3) := by decide +kernel
theorem dX1_dealOut_72 : decode cX1_dealOut 72 = .ok (.iinc 6 1, 3) := by decide +kernel
theorem dX1_dealOut_75 : decode cX1_dealOut 75 = .ok (.goto (-39), 3) := by decide +kernel
theorem dX1_dealOut_78 : decode cX1_dealOut 78 = .ok (.iinc 5 1, 3) := by decide +kernel
theorem dX1_dealOut_81 : decode cX1_dealOut 81 = .ok (.goto (-64), 3) := by decide +kernel
theorem dX1_dealOut_84 : decode cX1_dealOut 84 = .ok (.iload 4, 2) := by decide +kernel
theorem dX1_dealOut_86 : decode cX1_dealOut 86 = .ok (.istore 5, 2) := by decide +kernel
theorem dX1_dealOut_88 : decode cX1_dealOut 88 = .ok (.iload 5, 2) := by decide +kernel
theorem dX1_dealOut_90 : decode cX1_dealOut 90 = .ok (.iload_n 3, 1) := by decide +kernel
theorem dX1_dealOut_91 : decode cX1_dealOut 91 = .ok (.if_icmp .ge 27, 3) := by decide +kernel
theorem dX1_dealOut_94 : decode cX1_dealOut 94 = .ok (.iload 5, 2) := by decide +kernel
theorem dX1_dealOut_96 : decode cX1_dealOut 96 = .ok (.bipush 24, 2) := by decide +kernel
theorem dX1_dealOut_98 : decode cX1_dealOut 98 = .ok (.if_icmp .ge 20, 3) := by decide +kernel
theorem dX1_dealOut_101 : decode cX1_dealOut 101 = .ok (.aload_n 1, 1) := by decide +kernel
theorem dX1_dealOut_102 : decode cX1_dealOut 102 = .ok (.aload_n 0, 1) := by decide +kernel
theorem dX1_dealOut_103 : decode cX1_dealOut 103 = .ok (.getfield 18, 3) := by decide +kernel
theorem dX1_dealOut_106 : decode cX1_dealOut 106 = .ok (.iload 5, 2) := by decide +kernel
theorem dX1_dealOut_108 : decode cX1_dealOut 108 = .ok (.iaload, 1) := by decide +kernel
theorem dX1_dealOut_109 : decode cX1_dealOut 109 = .ok (.invokevirtual 40, 3) := by decide +kernel
theorem dX1_dealOut_112 : decode cX1_dealOut 112 = .ok (.iinc 5 1, 3) := by decide +kernel
theorem dX1_dealOut_115 : decode cX1_dealOut 115 = .ok (.goto (-27), 3) := by decide +kernel
theorem dX1_dealOut_118 : decode cX1_dealOut 118 = .ok (.return_, 1) := by decide +kernel
theorem dX1_mix_0 : decode cX1_mix 0 = .ok (.iconst 0, 1) := by decide +kernel
theorem dX1_mix_1 : decode cX1_mix 1 = .ok (.istore_n 3, 1) := by decide +kernel
theorem dX1_mix_2 : decode cX1_mix 2 = .ok (.iconst 0, 1) := by decide +kernel
theorem dX1_mix_3 : decode cX1_mix 3 = .ok (.istore 4, 2) := by decide +kernel
theorem dX1_mix_5 : decode cX1_mix 5 = .ok (.iload 4, 2) := by decide +kernel
theorem dX1_mix_7 : decode cX1_mix 7 = .ok (.aload_n 1, 1) := by decide +kernel
theorem dX1_mix_8 : decode cX1_mix 8 = .ok (.getfield 44, 3) := by decide +kernel
theorem dX1_mix_11 : decode cX1_mix 11 = .ok (.if_icmp .ge 52, 3) := by decide +kernel
theorem dX1_mix_14 : decode cX1_mix 14 = .ok (.iconst 1, 1) := by decide +kernel
theorem dX1_mix_15 : decode cX1_mix 15 = .ok (.istore 5, 2) := by decide +kernel
theorem dX1_mix_17 : decode cX1_mix 17 = .ok (.iload 5, 2) := by decide +kernel
theorem dX1_mix_19 : decode cX1_mix 19 = .ok (.aload_n 1, 1) := by decide +kernel
theorem dX1_mix_20 : decode cX1_mix 20 = .ok (.getfield 47, 3) := by decide +kernel
theorem dX1_mix_23 : decode cX1_mix 23 = .ok (.if_icmp .gt 34, 3) := by decide +kernel
theorem dX1_mix_26 : decode cX1_mix 26 = .ok (.iload_n 3, 1) := by decide +kernel
theorem dX1_mix_27 : decode cX1_mix 27 = .ok (.bipush 24, 2) := by decide +kernel
theorem dX1_mix_29 : decode cX1_mix 29 = .ok (.if_icmp .ge 28, 3) := by decide +kernel
theorem dX1_mix_32 : decode cX1_mix 32 = .ok (.aload_n 0, 1) := by decide +kernel
theorem dX1_mix_33 : decode cX1_mix 33 = .ok (.getfield 18, 3) := by decide +kernel
theorem dX1_mix_36 : decode cX1_mix 36 = .ok (.iload_n 3, 1) := by decide +kernel
theorem dX1_mix_37 : decode cX1_mix 37 = .ok (.bipush 6, 2) := by decide +kernel
theorem dX1_mix_39 : decode cX1_mix 39 = .ok (.iload 4, 2) := by decide +kernel
theorem dX1_mix_41 : decode cX1_mix 41 = .ok (.imul, 1) := by decide +kernel
theorem dX1_mix_42 : decode cX1_mix 42 = .ok (.iload 5, 2) := by decide +kernel
theorem dX1_mix_44 : decode cX1_mix 44 = .ok (.iadd, 1) := by decide +kernel
theorem dX1_mix_45 : decode cX1_mix 45 = .ok (.iconst 1, 1) := by decide +kernel
theorem dX1_mix_46 : decode cX1_mix 46 = .ok (.isub, 1) := by decide +kernel
theorem dX1_mix_47 : decode cX1_mix 47 = .ok (.iastore, 1) := by decide +kernel
theorem dX1_mix_48 : decode cX1_mix 48 = .ok (.iinc 3 1, 3) := by decide +kernel
theorem dX1_mix_51 : decode cX1_mix 51 = .ok (.iinc 5 1, 3) := by decide +kernel
theorem dX1_mix_54 : decode cX1_mix 54 = .ok (.goto (-37), 3) := by decide +kernel
theorem dX1_mix_57 : decode cX1_mix 57 = .ok (.iinc 4 1, 3) := by decide +kernel
theorem dX1_mix_60 : decode cX1_mix 60 = .ok (.goto (-55), 3) := by decide +kernel
theorem dX1_mix_63 : decode cX1_mix 63 = .ok (.iload_n 2, 1) := by decide +kernel
theorem dX1_mix_64 : decode cX1_mix 64 = .ok (.istore 4, 2) := by decide +kernel
theorem dX1_mix_66 : decode cX1_mix 66 = .ok (.iload_n 3, 1) := by decide +kernel
theorem dX1_mix_67 : decode cX1_mix 67 = .ok (.iconst 1, 1) := by decide +kernel
theorem dX1_mix_68 : decode cX1_mix 68 = .ok (.isub, 1) := by decide +kernel
theorem dX1_mix_69 : decode cX1_mix 69 = .ok (.istore 5, 2) := by decide +kernel
theorem dX1_mix_71 : decode cX1_mix 71 = .ok (.iload 5, 2) := by decide +kernel
theorem dX1_mix_73 : decode cX1_mix 73 = .ok (.iconst 1, 1) := by decide +kernel
theorem dX1_mix_74 : decode cX1_mix 74 = .ok (.if_icmp .lt 72, 3) := by decide +kernel
theorem dX1_mix_77 : decode cX1_mix 77 = .ok (.iload 4, 2) := by decide +kernel
theorem dX1_mix_79 : decode cX1_mix 79 = .ok (.invokestatic 50, 3) := by decide +kernel
theorem dX1_mix_82 : decode cX1_mix 82 = .ok (.istore 4, 2) := by decide +kernel
theorem dX1_mix_84 : decode cX1_mix 84 = .ok (.iload 4, 2) := by decide +kernel
theorem dX1_mix_86 : decode cX1_mix 86 = .ok (.bipush 8, 2) := by decide +kernel
theorem dX1_mix_88 : decode cX1_mix 88 = .ok (.idiv, 1) := by decide +kernel
theorem dX1_mix_89 : decode cX1_mix 89 = .ok (.iload 5, 2) := by decide +kernel
theorem dX1_mix_91 : decode cX1_mix 91 = .ok (.iconst 1, 1) := by decide +kernel
theorem dX1_mix_92 : decode cX1_mix 92 = .ok (.iadd, 1) := by decide +kernel
theorem dX1_mix_93 : decode cX1_mix 93 = .ok (.irem, 1) := by decide +kernel
theorem dX1_mix_94 : decode cX1_mix 94 = .ok (.istore 6, 2) := by decide +kernel
theorem dX1_mix_96 : decode cX1_mix 96 = .ok (.iload 6, 2) := by decide +kernel
theorem dX1_mix_98 : decode cX1_mix 98 = .ok (.ifCond .lt 42, 3) := by decide +kernel
theorem dX1_mix_101 : decode cX1_mix 101 = .ok (.iload 6, 2) := by decide +kernel
theorem dX1_mix_103 : decode cX1_mix 103 = .ok (.bipush 24, 2) := by decide +kernel
theorem dX1_mix_105 : decode cX1_mix 105 = .ok (.if_icmp .ge 35, 3) := by decide +kernel
theorem dX1_mix_108 : decode cX1_mix 108 = .ok (.aload_n 0, 1) := by decide +kernel
theorem dX1_mix_109 : decode cX1_mix 109 = .ok (.getfield 18, 3) := by decide +kernel
theorem dX1_mix_112 : decode cX1_mix 112 = .ok (.iload 5, 2) := by decide +kernel
theorem dX1_mix_114 : decode cX1_mix 114 = .ok (.iaload, 1) := by decide +kernel
theorem dX1_mix_115 : decode cX1_mix 115 = .ok (.istore 7, 2) := by decide +kernel
theorem dX1_mix_117 : decode cX1_mix 117 = .ok (.aload_n 0, 1) := by decide +kernel
theorem dX1_mix_118 : decode cX1_mix 118 = .ok (.getfield 18, 3) := by decide +kernel
theorem dX1_mix_121 : decode cX1_mix 121 = .ok (.iload 5, 2) := by decide +kernel
theorem dX1_mix_123 : decode cX1_mix 123 = .ok (.aload_n 0, 1) := by decide +kernel
theorem dX1_mix_124 : decode cX1_mix 124 = .ok (.getfield 18, 3) := by decide +kernel
theorem dX1_mix_127 : decode cX1_mix 127 = .ok (.iload 6, 2) := by decide +kernel
theorem dX1_mix_129 : decode cX1_mix 129 = .ok (.iaload, 1) := by decide +kernel
theorem dX1_mix_130 : decode cX1_mix 130 = .ok (.iastore, 1) := by decide +kernel
theorem dX1_mix_131 : decode cX1_mix 131 = .ok (.aload_n 0, 1) := by decide +kernel
theorem dX1_mix_132 : decode cX1_mix 132 = .ok (.getfield 18, 3) := by decide +kernel
theorem dX1_mix_135 : decode cX1_mix 135 = .ok (.iload 6, 2) := by decide +kernel
theorem dX1_mix_137 : decode cX1_mix 137 = .ok (.iload 7, 2) := by decide +kernel
theorem dX1_mix_139 : decode cX1_mix 139 = .ok (.iastore, 1) := by decide +kernel
theorem dX1_mix_140 : decode cX1_mix 140 = .ok (.iinc 5 (-1), 3) := by decide +kernel
theorem dX1_mix_143 : decode cX1_mix 143 = .ok (.goto (-72), 3) := by decide +kernel
theorem dX1_mix_146 : decode cX1_mix 146 = .ok (.iload_n 3, 1) := by decide +kernel
theorem dX1_mix_147 : decode cX1_mix 147 = .ok (.ireturn, 1) := by decide +kernel
theorem dX1_tryOut_0 : decode cX1_tryOut 0 = .ok (.aload_n 0, 1) := by decide +kernel
theorem dX1_tryOut_1 : decode cX1_tryOut 1 = .ok (.getfield 12, 3) := by decide +kernel
theorem dX1_tryOut_4 : decode cX1_tryOut 4 = .ok (.aload_n 1, 1) := by decide +kernel
theorem dX1_tryOut_5 : decode cX1_tryOut 5 = .ok (.invokevirtual 54, 3) := by decide +kernel
theorem dX1_tryOut_8 : decode cX1_tryOut 8 = .ok (.aload_n 0, 1) := by decide +kernel
theorem dX1_tryOut_9 : decode cX1_tryOut 9 = .ok (.aload_n 0, 1) := by decide +kernel
theorem dX1_tryOut_10 : decode cX1_tryOut 10 = .ok (.getfield 12, 3) := by decide +kernel
theorem dX1_tryOut_13 : decode cX1_tryOut 13 = .ok (.iload_n 2, 1) := by decide +kernel
theorem dX1_tryOut_14 : decode cX1_tryOut 14 = .ok (.invokevirtual 58, 3) := by decide +kernel
theorem dX1_tryOut_17 : decode cX1_tryOut 17 = .ok (.aload_n 0, 1) := by decide +kernel
theorem dX1_tryOut_18 : decode cX1_tryOut 18 = .ok (.getfield 12, 3) := by decide +kernel
theorem dX1_tryOut_21 : decode cX1_tryOut 21 = .ok (.invokevirtual 62, 3) := by decide +kernel
theorem dX1_tryOut_24 : decode cX1_tryOut 24 = .ok (.return_, 1) := by decide +kernel
theorem dX1_wetsOf_0 : decode cX1_wetsOf 0 = .ok (.aload_n 0, 1) := by decide +kernel
theorem dX1_wetsOf_1 : decode cX1_wetsOf 1 = .ok (.getfield 12, 3) := by decide +kernel
theorem dX1_wetsOf_4 : decode cX1_wetsOf 4 = .ok (.iload_n 1, 1) := by decide +kernel
theorem dX1_wetsOf_5 : decode cX1_wetsOf 5 = .ok (.invokevirtual 65, 3) := by decide +kernel
theorem dX1_wetsOf_8 : decode cX1_wetsOf 8 = .ok (.ireturn, 1) := by decide +kernel
theorem dX1_sumUp_0 : decode cX1_sumUp 0 = .ok (.aload_n 0, 1) := by decide +kernel
theorem dX1_sumUp_1 : decode cX1_sumUp 1 = .ok (.getfield 22, 3) := by decide +kernel
theorem dX1_sumUp_4 : decode cX1_sumUp 4 = .ok (.iconst 0, 1) := by decide +kernel
theorem dX1_sumUp_5 : decode cX1_sumUp 5 = .ok (.invokestatic 68, 3) := by decide +kernel
theorem dX1_sumUp_8 : decode cX1_sumUp 8 = .ok (.iconst 0, 1) := by decide +kernel
theorem dX1_sumUp_9 : decode cX1_sumUp 9 = .ok (.istore 4, 2) := by decide +kernel
theorem dX1_sumUp_11 : decode cX1_sumUp 11 = .ok (.iload 4, 2) := by decide +kernel
theorem dX1_sumUp_13 : decode cX1_sumUp 13 = .ok (.iload_n 3, 1) := by decide +kernel
theorem dX1_sumUp_14 : decode cX1_sumUp 14 = .ok (.if_icmp .ge 49, 3) := by decide +kernel
theorem dX1_sumUp_17 : decode cX1_sumUp 17 = .ok (.aload_n 0, 1) := by decide +kernel
theorem dX1_sumUp_18 : decode cX1_sumUp 18 = .ok (.aload_n 1, 1) := by decide +kernel
theorem dX1_sumUp_19 : decode cX1_sumUp 19 = .ok (.iload_n 2, 1) := by decide +kernel
theorem dX1_sumUp_20 : decode cX1_sumUp 20 = .ok (.iload 4, 2) := by decide +kernel
theorem dX1_sumUp_22 : decode cX1_sumUp 22 = .ok (.iadd, 1) := by decide +kernel
theorem dX1_sumUp_23 : decode cX1_sumUp 23 = .ok (.invokevirtual 74, 3) := by decide +kernel
theorem dX1_sumUp_26 : decode cX1_sumUp 26 = .ok (.iconst 0, 1) := by decide +kernel
theorem dX1_sumUp_27 : decode cX1_sumUp 27 = .ok (.istore 5, 2) := by decide +kernel
theorem dX1_sumUp_29 : decode cX1_sumUp 29 = .ok (.iload 5, 2) := by decide +kernel
theorem dX1_sumUp_31 : decode cX1_sumUp 31 = .ok (.iconst 4, 1) := by decide +kernel
theorem dX1_sumUp_32 : decode cX1_sumUp 32 = .ok (.if_icmp .ge 25, 3) := by decide +kernel
theorem dX1_sumUp_35 : decode cX1_sumUp 35 = .ok (.aload_n 0, 1) := by decide +kernel
theorem dX1_sumUp_36 : decode cX1_sumUp 36 = .ok (.getfield 22, 3) := by decide +kernel
theorem dX1_sumUp_39 : decode cX1_sumUp 39 = .ok (.iload 5, 2) := by decide +kernel
theorem dX1_sumUp_41 : decode cX1_sumUp 41 = .ok (.dup2, 1) := by decide +kernel
theorem dX1_sumUp_42 : decode cX1_sumUp 42 = .ok (.iaload, 1) := by decide +kernel
theorem dX1_sumUp_43 : decode cX1_sumUp 43 = .ok (.aload_n 0, 1) := by decide +kernel
theorem dX1_sumUp_44 : decode cX1_sumUp 44 = .ok (.iload 5, 2) := by decide +kernel
theorem dX1_sumUp_46 : decode cX1_sumUp 46 = .ok (.invokevirtual 77, 3) := by decide +kernel
theorem dX1_sumUp_49 : decode cX1_sumUp 49 = .ok (.iadd, 1) := by decide +kernel
theorem dX1_sumUp_50 : decode cX1_sumUp 50 = .ok (.iastore, 1) := by decide +kernel
theorem dX1_sumUp_51 : decode cX1_sumUp 51 = .ok (.iinc 5 1, 3) := by decide +kernel
theorem dX1_sumUp_54 : decode cX1_sumUp 54 = .ok (.goto (-25), 3) := by decide +kernel
theorem dX1_sumUp_57 : decode cX1_sumUp 57 = .ok (.iinc 4 1, 3) := by decide +kernel
theorem dX1_sumUp_60 : decode cX1_sumUp 60 = .ok (.goto (-49), 3) := by decide +kernel
theorem dX1_sumUp_63 : decode cX1_sumUp 63 = .ok (.return_, 1) := by decide +kernel
theorem dX2_init_0 : decode cX2_init 0 = .ok (.aload_n 0, 1) := by decide +kernel
theorem dX2_init_1 : decode cX2_init 1 = .ok (.invokespecial 3, 3) := by decide +kernel
theorem dX2_init_4 : decode cX2_init 4 = .ok (.aload_n 0, 1) := by decide +kernel
theorem dX2_init_5 : decode cX2_init 5 = .ok (.sipush 196, 3) := by decide +kernel
theorem dX2_init_8 : decode cX2_init 8 = .ok (.newarray .int, 2) := by decide +kernel
theorem dX2_init_10 : decode cX2_init 10 = .ok (.putfield 9, 3) := by decide +kernel
theorem dX2_init_13 : decode cX2_init 13 = .ok (.aload_n 0, 1) := by decide +kernel
theorem dX2_init_14 : decode cX2_init 14 = .ok (.iconst 4, 1) := by decide +kernel
theorem dX2_init_15 : decode cX2_init 15 = .ok (.newarray .int, 2) := by decide +kernel
theorem dX2_init_17 : decode cX2_init 17 = .ok (.putfield 15, 3) := by decide +kernel
theorem dX2_init_20 : decode cX2_init 20 = .ok (.aload_n 0, 1) := by decide +kernel
theorem dX2_init_21 : decode cX2_init 21 = .ok (.iconst (-1), 1) := by decide +kernel
theorem dX2_init_22 : decode cX2_init 22 = .ok (.putfield 18, 3) := by decide +kernel
theorem dX2_init_25 : decode cX2_init 25 = .ok (.aload_n 0, 1) := by decide +kernel
theorem dX2_init_26 : decode cX2_init 26 = .ok (.iconst (-1), 1) := by decide +kernel
theorem dX2_init_27 : decode cX2_init 27 = .ok (.putfield 22, 3) := by decide +kernel
theorem dX2_init_30 : decode cX2_init 30 = .ok (.return_, 1) := by decide +kernel
theorem dX2_reach_0 : decode cX2_reach 0 = .ok (.iload_n 3, 1) := by decide +kernel
theorem dX2_reach_1 : decode cX2_reach 1 = .ok (.iconst 1, 1) := by decide +kernel
theorem dX2_reach_2 : decode cX2_reach 2 = .ok (.if_icmp .lt 8, 3) := by decide +kernel
theorem dX2_reach_5 : decode cX2_reach 5 = .ok (.iload_n 3, 1) := by decide +kernel
theorem dX2_reach_6 : decode cX2_reach 6 = .ok (.iconst 3, 1) := by decide +kernel
theorem dX2_reach_7 : decode cX2_reach 7 = .ok (.if_icmp .le 5, 3) := by decide +kernel
theorem dX2_reach_10 : decode cX2_reach 10 = .ok (.iconst 0, 1) := by decide +kernel
theorem dX2_reach_11 : decode cX2_reach 11 = .ok (.ireturn, 1) := by decide +kernel
theorem dX2_reach_12 : decode cX2_reach 12 = .ok (.aload_n 1, 1) := by decide +kernel
theorem dX2_reach_13 : decode cX2_reach 13 = .ok (.aload_n 0, 1) := by decide +kernel
theorem dX2_reach_14 : decode cX2_reach 14 = .ok (.getfield 9, 3) := by decide +kernel
theorem dX2_reach_17 : decode cX2_reach 17 = .ok (.iload_n 3, 1) := by decide +kernel
theorem dX2_reach_18 : decode cX2_reach 18 = .ok (.bipush 49, 2) := by decide +kernel
theorem dX2_reach_20 : decode cX2_reach 20 = .ok (.imul, 1) := by decide +kernel
theorem dX2_reach_21 : decode cX2_reach 21 = .ok (.invokevirtual 25, 3) := by decide +kernel
theorem dX2_reach_24 : decode cX2_reach 24 = .ok (.istore 4, 2) := by decide +kernel
theorem dX2_reach_26 : decode cX2_reach 26 = .ok (.iconst 0, 1) := by decide +kernel
theorem dX2_reach_27 : decode cX2_reach 27 = .ok (.istore 5, 2) := by decide +kernel
theorem dX2_reach_29 : decode cX2_reach 29 = .ok (.aload_n 0, 1) := by decide +kernel
theorem dX2_reach_30 : decode cX2_reach 30 = .ok (.getfield 15, 3) := by decide +kernel
theorem dX2_reach_33 : decode cX2_reach 33 = .ok (.iload_n 3, 1) := by decide +kernel
theorem dX2_reach_34 : decode cX2_reach 34 = .ok (.iconst (-1), 1) := by decide +kernel
theorem dX2_reach_35 : decode cX2_reach 35 = .ok (.iastore, 1) := by decide +kernel
theorem dX2_reach_36 : decode cX2_reach 36 = .ok (.iconst 0, 1) := by decide +kernel
theorem dX2_reach_37 : decode cX2_reach 37 = .ok (.istore 6, 2) := by decide +kernel
theorem dX2_reach_39 : decode cX2_reach 39 = .ok (.iload 6, 2) := by decide +kernel
theorem dX2_reach_41 : decode cX2_reach 41 = .ok (.iload 4, 2) := by decide +kernel
theorem dX2_reach_43 : decode cX2_reach 43 = .ok (.if_icmp .ge 118, 3) := by decide +kernel
theorem dX2_reach_46 : decode cX2_reach 46 = .ok (.iload 6, 2) := by decide +kernel
theorem dX2_reach_48 : decode cX2_reach 48 = .ok (.bipush 49, 2) := by decide +kernel
theorem dX2_reach_50 : decode cX2_reach 50 = .ok (.if_icmp .ge 111, 3) := by decide +kernel
theorem dX2_reach_53 : decode cX2_reach 53 = .ok (.aload_n 0, 1) := by decide +kernel
theorem dX2_reach_54 : decode cX2_reach 54 = .ok (.getfield 9, 3) := by decide +kernel
theorem dX2_reach_57 : decode cX2_reach 57 = .ok (.iload_n 3, 1) := by decide +kernel
theorem dX2_reach_58 : decode cX2_reach 58 = .ok (.bipush 49, 2) := by decide +kernel
theorem dX2_reach_60 : decode cX2_reach 60 = .ok (.imul, 1) := by decide +kernel
theorem dX2_reach_61 : decode cX2_reach 61 = .ok (.iload 6, 2) := by decide +kernel
theorem dX2_reach_63 : decode cX2_reach 63 = .ok (.iadd, 1) := by decide +kernel
theorem dX2_reach_64 : decode cX2_reach 64 = .ok (.iaload, 1) := by decide +kernel
theorem dX2_reach_65 : decode cX2_reach 65 = .ok (.istore 7, 2) := by decide +kernel
theorem dX2_reach_67 : decode cX2_reach 67 = .ok (.aload_n 1, 1) := by decide +kernel
theorem dX2_reach_68 : decode cX2_reach 68 = .ok (.iload 7, 2) := by decide +kernel
theorem dX2_reach_70 : decode cX2_reach 70 = .ok (.bipush 10, 2) := by decide +kernel
theorem dX2_reach_72 : decode cX2_reach 72 = .ok (.idiv, 1) := by decide +kernel
theorem dX2_reach_73 : decode cX2_reach 73 = .ok (.iload 7, 2) := by decide +kernel
theorem dX2_reach_75 : decode cX2_reach 75 = .ok (.bipush 10, 2) := by decide +kernel
theorem dX2_reach_77 : decode cX2_reach 77 = .ok (.irem, 1) := by decide +kernel
theorem dX2_reach_78 : decode cX2_reach 78 = .ok (.invokevirtual 31, 3) := by decide +kernel
theorem dX2_reach_81 : decode cX2_reach 81 = .ok (.istore 8, 2) := by decide +kernel
theorem dX2_reach_83 : decode cX2_reach 83 = .ok (.iconst 0, 1) := by decide +kernel
theorem dX2_reach_84 : decode cX2_reach 84 = .ok (.iload 8, 2) := by decide +kernel
theorem dX2_reach_86 : decode cX2_reach 86 = .ok (.iload 7, 2) := by decide +kernel
theorem dX2_reach_88 : decode cX2_reach 88 = .ok (.bipush 10, 2) := by decide +kernel
theorem dX2_reach_90 : decode cX2_reach 90 = .ok (.irem, 1) := by decide +kernel
theorem dX2_reach_91 : decode cX2_reach 91 = .ok (.iload_n 2, 1) := by decide +kernel
theorem dX2_reach_92 : decode cX2_reach 92 = .ok (.invokestatic 35, 3) := by decide +kernel
theorem dX2_reach_95 : decode cX2_reach 95 = .ok (.invokestatic 39, 3) := by decide +kernel
theorem dX2_reach_98 : decode cX2_reach 98 = .ok (.aload_n 0, 1) := by decide +kernel
theorem dX2_reach_99 : decode cX2_reach 99 = .ok (.aload_n 1, 1) := by decide +kernel
theorem dX2_reach_100 : decode cX2_reach 100 = .ok (.iload_n 2, 1) := by decide +kernel
theorem dX2_reach_101 : decode cX2_reach 101 = .ok (.iload_n 3, 1) := by decide +kernel
theorem dX2_reach_102 : decode cX2_reach 102 = .ok (.iconst 1, 1) := by decide +kernel
theorem dX2_reach_103 : decode cX2_reach 103 = .ok (.isub, 1) := by decide +kernel
theorem dX2_reach_104 : decode cX2_reach 104 = .ok (.invokestatic 44, 3) := by decide +kernel
theorem dX2_reach_107 : decode cX2_reach 107 = .ok (.iadd, 1) := by decide +kernel
theorem dX2_reach_108 : decode cX2_reach 108 = .ok (.istore 9, 2) := by decide +kernel
theorem dX2_reach_110 : decode cX2_reach 110 = .ok (.aload_n 1, 1) := by decide +kernel
theorem dX2_reach_111 : decode cX2_reach 111 = .ok (.iload 8, 2) := by decide +kernel
theorem dX2_reach_113 : decode cX2_reach 113 = .ok (.iload 7, 2) := by decide +kernel
theorem dX2_reach_115 : decode cX2_reach 115 = .ok (.bipush 10, 2) := by decide +kernel
theorem dX2_reach_117 : decode cX2_reach 117 = .ok (.idiv, 1) := by decide +kernel
theorem dX2_reach_118 : decode cX2_reach 118 = .ok (.iload 7, 2) := by decide +kernel
theorem dX2_reach_120 : decode cX2_reach 120 = .ok (.bipush 10, 2) := by decide +kernel
theorem dX2_reach_122 : decode cX2_reach 122 = .ok (.irem, 1) := by decide +kernel
theorem dX2_reach_123 : decode cX2_reach 123 = .ok (.invokevirtual 48, 3) := by decide +kernel
theorem dX2_reach_126 : decode cX2_reach 126 = .ok (.aload_n 0, 1) := by decide +kernel
theorem dX2_reach_127 : decode cX2_reach 127 = .ok (.getfield 15, 3) := by decide +kernel
theorem dX2_reach_130 : decode cX2_reach 130 = .ok (.iload_n 3, 1) := by decide +kernel
theorem dX2_reach_131 : decode cX2_reach 131 = .ok (.iaload, 1) := by decide +kernel
theorem dX2_reach_132 : decode cX2_reach 132 = .ok (.iconst (-1), 1) := by decide +kernel
theorem dX2_reach_133 : decode cX2_reach 133 = .ok (.if_icmp .eq 10, 3) := by decide +kernel
theorem dX2_reach_136 : decode cX2_reach 136 = .ok (.iload 9, 2) := by decide +kernel
theorem dX2_reach_138 : decode cX2_reach 138 = .ok (.iload 5, 2) := by decide +kernel
theorem dX2_reach_140 : decode cX2_reach 140 = .ok (.if_icmp .le 15, 3) := by decide +kernel
theorem dX2_reach_143 : decode cX2_reach 143 = .ok (.aload_n 0, 1) := by decide +kernel
theorem dX2_reach_144 : decode cX2_reach 144 = .ok (.getfield 15, 3) := by decide +kernel
theorem dX2_reach_147 : decode cX2_reach 147 = .ok (.iload_n 3, 1) := by decide +kernel
theorem dX2_reach_148 : decode cX2_reach 148 = .ok (.iload 7, 2) := by decide +kernel
theorem dX2_reach_150 : decode cX2_reach 150 = .ok (.iastore, 1) := by decide +kernel
theorem dX2_reach_151 : decode cX2_reach 151 = .ok (.iload 9, 2) := by decide +kernel
theorem dX2_reach_153 : decode cX2_reach 153 = .ok (.istore 5, 2) := by decide +kernel
theorem dX2_reach_155 : decode cX2_reach 155 = .ok (.iinc 6 1, 3) := by decide +kernel
theorem dX2_reach_158 : decode cX2_reach 158 = .ok (.goto (-119), 3) := by decide +kernel
theorem dX2_reach_161 : decode cX2_reach 161 = .ok (.iload 5, 2) := by decide +kernel
theorem dX2_reach_163 : decode cX2_reach 163 = .ok (.ireturn, 1) := by decide +kernel
theorem dX2_openingOf_0 : decode cX2_openingOf 0 = .ok (.iload_n 1, 1) := by decide +kernel
theorem dX2_openingOf_1 : decode cX2_openingOf 1 = .ok (.iconst 1, 1) := by decide +kernel
theorem dX2_openingOf_2 : decode cX2_openingOf 2 = .ok (.if_icmp .lt 8, 3) := by decide +kernel
theorem dX2_openingOf_5 : decode cX2_openingOf 5 = .ok (.iload_n 1, 1) := by decide +kernel
theorem dX2_openingOf_6 : decode cX2_openingOf 6 = .ok (.iconst 3, 1) := by decide +kernel
theorem dX2_openingOf_7 : decode cX2_openingOf 7 = .ok (.if_icmp .le 7, 3) := by decide +kernel
theorem dX2_openingOf_10 : decode cX2_openingOf 10 = .ok (.iconst (-1), 1) := by decide +kernel
theorem dX2_openingOf_11 : decode cX2_openingOf 11 = .ok (.goto 9, 3) := by decide +kernel
theorem dX2_openingOf_14 : decode cX2_openingOf 14 = .ok (.aload_n 0, 1) := by decide +kernel
theorem dX2_openingOf_15 : decode cX2_openingOf 15 = .ok (.getfield 15, 3) := by decide +kernel
theorem dX2_openingOf_18 : decode cX2_openingOf 18 = .ok (.iload_n 1, 1) := by decide +kernel
theorem dX2_openingOf_19 : decode cX2_openingOf 19 = .ok (.iaload, 1) := by decide +kernel
theorem dX2_openingOf_20 : decode cX2_openingOf 20 = .ok (.ireturn, 1) := by decide +kernel
theorem dX2_gain_0 : decode cX2_gain 0 = .ok (.iload_n 0, 1) := by decide +kernel
theorem dX2_gain_1 : decode cX2_gain 1 = .ok (.iconst (-1), 1) := by decide +kernel
theorem dX2_gain_2 : decode cX2_gain 2 = .ok (.if_icmp .eq 9, 3) := by decide +kernel
theorem dX2_gain_5 : decode cX2_gain 5 = .ok (.iload_n 1, 1) := by decide +kernel
theorem dX2_gain_6 : decode cX2_gain 6 = .ok (.bipush 7, 2) := by decide +kernel
theorem dX2_gain_8 : decode cX2_gain 8 = .ok (.if_icmp .eq 5, 3) := by decide +kernel
theorem dX2_gain_11 : decode cX2_gain 11 = .ok (.iconst 0, 1) := by decide +kernel
theorem dX2_gain_12 : decode cX2_gain 12 = .ok (.ireturn, 1) := by decide +kernel
theorem dX2_gain_13 : decode cX2_gain 13 = .ok (.iload_n 2, 1) := by decide +kernel
theorem dX2_gain_14 : decode cX2_gain 14 = .ok (.iload_n 0, 1) := by decide +kernel
theorem dX2_gain_15 : decode cX2_gain 15 = .ok (.invokestatic 52, 3) := by decide +kernel
theorem dX2_gain_18 : decode cX2_gain 18 = .ok (.ishr, 1) := by decide +kernel
theorem dX2_gain_19 : decode cX2_gain 19 = .ok (.iconst 1, 1) := by decide +kernel
theorem dX2_gain_20 : decode cX2_gain 20 = .ok (.iand, 1) := by decide +kernel
theorem dX2_gain_21 : decode cX2_gain 21 = .ok (.iconst 1, 1) := by decide +kernel
theorem dX2_gain_22 : decode cX2_gain 22 = .ok (.if_icmp .ne 10, 3) := by decide +kernel
theorem dX2_gain_25 : decode cX2_gain 25 = .ok (.iload_n 0, 1) := by decide +kernel
theorem dX2_gain_26 : decode cX2_gain 26 = .ok (.invokestatic 56, 3) := by decide +kernel
theorem dX2_gain_29 : decode cX2_gain 29 = .ok (.goto 8, 3) := by decide +kernel
theorem dX2_gain_32 : decode cX2_gain 32 = .ok (.iload_n 0, 1) := by decide +kernel
theorem dX2_gain_33 : decode cX2_gain 33 = .ok (.invokestatic 56, 3) := by decide +kernel
theorem dX2_gain_36 : decode cX2_gain 36 = .ok (.ineg, 1) := by decide +kernel
theorem dX2_gain_37 : decode cX2_gain 37 = .ok (.ireturn, 1) := by decide +kernel
theorem dX2_duel_0 : decode cX2_duel 0 = .ok (.iload_n 3, 1) := by decide +kernel
theorem dX2_duel_1 : decode cX2_duel 1 = .ok (.iconst 1, 1) := by decide +kernel
theorem dX2_duel_2 : decode cX2_duel 2 = .ok (.if_icmp .lt 8, 3) := by decide +kernel
theorem dX2_duel_5 : decode cX2_duel 5 = .ok (.iload_n 3, 1) := by decide +kernel
theorem dX2_duel_6 : decode cX2_duel 6 = .ok (.iconst 3, 1) := by decide +kernel
theorem dX2_duel_7 : decode cX2_duel 7 = .ok (.if_icmp .le 5, 3) := by decide +kernel
theorem dX2_duel_10 : decode cX2_duel 10 = .ok (.iconst 0, 1) := by decide +kernel
theorem dX2_duel_11 : decode cX2_duel 11 = .ok (.ireturn, 1) := by decide +kernel
theorem dX2_duel_12 : decode cX2_duel 12 = .ok (.aload_n 1, 1) := by decide +kernel
theorem dX2_duel_13 : decode cX2_duel 13 = .ok (.aload_n 0, 1) := by decide +kernel
theorem dX2_duel_14 : decode cX2_duel 14 = .ok (.getfield 9, 3) := by decide +kernel
theorem dX2_duel_17 : decode cX2_duel 17 = .ok (.iload_n 3, 1) := by decide +kernel
theorem dX2_duel_18 : decode cX2_duel 18 = .ok (.bipush 49, 2) := by decide +kernel
theorem dX2_duel_20 : decode cX2_duel 20 = .ok (.imul, 1) := by decide +kernel
theorem dX2_duel_21 : decode cX2_duel 21 = .ok (.invokevirtual 25, 3) := by decide +kernel
theorem dX2_duel_24 : decode cX2_duel 24 = .ok (.istore 5, 2) := by decide +kernel
theorem dX2_duel_26 : decode cX2_duel 26 = .ok (.iconst 0, 1) := by decide +kernel
theorem dX2_duel_27 : decode cX2_duel 27 = .ok (.istore 6, 2) := by decide +kernel
theorem dX2_duel_29 : decode cX2_duel 29 = .ok (.iconst 0, 1) := by decide +kernel
theorem dX2_duel_30 : decode cX2_duel 30 = .ok (.istore 7, 2) := by decide +kernel
theorem dX2_duel_32 : decode cX2_duel 32 = .ok (.iload 7, 2) := by decide +kernel
theorem dX2_duel_34 : decode cX2_duel 34 = .ok (.iload 5, 2) := by decide +kernel
theorem dX2_duel_36 : decode cX2_duel 36 = .ok (.if_icmp .ge 126, 3) := by decide +kernel
theorem dX2_duel_39 : decode cX2_duel 39 = .ok (.iload 7, 2) := by decide +kernel
theorem dX2_duel_41 : decode cX2_duel 41 = .ok (.bipush 49, 2) := by decide +kernel
theorem dX2_duel_43 : decode cX2_duel 43 = .ok (.if_icmp .ge 119, 3) := by decide +kernel
theorem dX2_duel_46 : decode cX2_duel 46 = .ok (.aload_n 0, 1) := by decide +kernel
theorem dX2_duel_47 : decode cX2_duel 47 = .ok (.getfield 9, 3) := by decide +kernel
theorem dX2_duel_50 : decode cX2_duel 50 = .ok (.iload_n 3, 1) := by decide +kernel
theorem dX2_duel_51 : decode cX2_duel 51 = .ok (.bipush 49, 2) := by decide +kernel
theorem dX2_duel_53 : decode cX2_duel 53 = .ok (.imul, 1) := by decide +kernel
theorem dX2_duel_54 : decode cX2_duel 54 = .ok (.iload 7, 2) := by decide +kernel
theorem dX2_duel_56 : decode cX2_duel 56 = .ok (.iadd, 1) := by decide +kernel
theorem dX2_duel_57 : decode cX2_duel 57 = .ok (.iaload, 1) := by decide +kernel
theorem dX2_duel_58 : decode cX2_duel 58 = .ok (.istore 8, 2) := by decide +kernel
theorem dX2_duel_60 : decode cX2_duel 60 = .ok (.aload_n 1, 1) := by decide +kernel
theorem dX2_duel_61 : decode cX2_duel 61 = .ok (.iload 8, 2) := by decide +kernel
theorem dX2_duel_63 : decode cX2_duel 63 = .ok (.bipush 10, 2) := by decide +kernel
theorem dX2_duel_65 : decode cX2_duel 65 = .ok (.idiv, 1) := by decide +kernel
theorem dX2_duel_66 : decode cX2_duel 66 = .ok (.iload 8, 2) := by decide +kernel
theorem dX2_duel_68 : decode cX2_duel 68 = .ok (.bipush 10, 2) := by decide +kernel
theorem dX2_duel_70 : decode cX2_duel 70 = .ok (.irem, 1) := by decide +kernel
theorem dX2_duel_71 : decode cX2_duel 71 = .ok (.invokevirtual 31, 3) := by decide +kernel
theorem dX2_duel_74 : decode cX2_duel 74 = .ok (.istore 9, 2) := by decide +kernel
theorem dX2_duel_76 : decode cX2_duel 76 = .ok (.iload 9, 2) := by decide +kernel
theorem dX2_duel_78 : decode cX2_duel 78 = .ok (.iload 8, 2) := by decide +kernel
theorem dX2_duel_80 : decode cX2_duel 80 = .ok (.bipush 10, 2) := by decide +kernel
theorem dX2_duel_82 : decode cX2_duel 82 = .ok (.irem, 1) := by decide +kernel
theorem dX2_duel_83 : decode cX2_duel 83 = .ok (.iload_n 2, 1) := by decide +kernel
theorem dX2_duel_84 : decode cX2_duel 84 = .ok (.invokestatic 35, 3) := by decide +kernel
theorem dX2_duel_87 : decode cX2_duel 87 = .ok (.aload_n 0, 1) := by decide +kernel
theorem dX2_duel_88 : decode cX2_duel 88 = .ok (.aload_n 1, 1) := by decide +kernel
theorem dX2_duel_89 : decode cX2_duel 89 = .ok (.iload_n 2, 1) := by decide +kernel
theorem dX2_duel_90 : decode cX2_duel 90 = .ok (.iload_n 3, 1) := by decide +kernel
theorem dX2_duel_91 : decode cX2_duel 91 = .ok (.iconst 1, 1) := by decide +kernel
theorem dX2_duel_92 : decode cX2_duel 92 = .ok (.isub, 1) := by decide +kernel
theorem dX2_duel_93 : decode cX2_duel 93 = .ok (.iload 4, 2) := by decide +kernel
theorem dX2_duel_95 : decode cX2_duel 95 = .ok (.ifCond .ne 7, 3) := by decide +kernel
theorem dX2_duel_98 : decode cX2_duel 98 = .ok (.iconst 1, 1) := by decide +kernel
theorem dX2_duel_99 : decode cX2_duel 99 = .ok (.goto 4, 3) := by decide +kernel
theorem dX2_duel_102 : decode cX2_duel 102 = .ok (.iconst 0, 1) := by decide +kernel
theorem dX2_duel_103 : decode cX2_duel 103 = .ok (.invokestatic 59, 3) := by decide +kernel
theorem dX2_duel_106 : decode cX2_duel 106 = .ok (.iadd, 1) := by decide +kernel
theorem dX2_duel_107 : decode cX2_duel 107 = .ok (.istore 10, 2) := by decide +kernel
theorem dX2_duel_109 : decode cX2_duel 109 = .ok (.aload_n 1, 1) := by decide +kernel
theorem dX2_duel_110 : decode cX2_duel 110 = .ok (.iload 9, 2) := by decide +kernel
theorem dX2_duel_112 : decode cX2_duel 112 = .ok (.iload 8, 2) := by decide +kernel
theorem dX2_duel_114 : decode cX2_duel 114 = .ok (.bipush 10, 2) := by decide +kernel
theorem dX2_duel_116 : decode cX2_duel 116 = .ok (.idiv, 1) := by decide +kernel
theorem dX2_duel_117 : decode cX2_duel 117 = .ok (.iload 8, 2) := by decide +kernel
theorem dX2_duel_119 : decode cX2_duel 119 = .ok (.bipush 10, 2) := by decide +kernel
theorem dX2_duel_121 : decode cX2_duel 121 = .ok (.irem, 1) := by decide +kernel
theorem dX2_duel_122 : decode cX2_duel 122 = .ok (.invokevirtual 48, 3) := by decide +kernel
theorem dX2_duel_125 : decode cX2_duel 125 = .ok (.iload 7, 2) := by decide +kernel
theorem dX2_duel_127 : decode cX2_duel 127 = .ok (.ifCond .eq 25, 3) := by decide +kernel
theorem dX2_duel_130 : decode cX2_duel 130 = .ok (.iload 4, 2) := by decide +kernel
theorem dX2_duel_132 : decode cX2_duel 132 = .ok (.ifCond .eq 13, 3) := by decide +kernel
theorem dX2_duel_135 : decode cX2_duel 135 = .ok (.iload 10, 2) := by decide +kernel
theorem dX2_duel_137 : decode cX2_duel 137 = .ok (.iload 6, 2) := by decide +kernel
theorem dX2_duel_139 : decode cX2_duel 139 = .ok (.if_icmp .le 17, 3) := by decide +kernel
theorem dX2_duel_142 : decode cX2_duel 142 = .ok (.goto 10, 3) := by decide +kernel
theorem dX2_duel_145 : decode cX2_duel 145 = .ok (.iload 10, 2) := by decide +kernel
theorem dX2_duel_147 : decode cX2_duel 147 = .ok (.iload 6, 2) := by decide +kernel
theorem dX2_duel_149 : decode cX2_duel 149 = .ok (.if_icmp .ge 7, 3) := by decide +kernel
theorem dX2_duel_152 : decode cX2_duel 152 = .ok (.iload 10, 2) := by decide +kernel
theorem dX2_duel_154 : decode cX2_duel 154 = .ok (.istore 6, 2) := by decide +kernel
theorem dX2_duel_156 : decode cX2_duel 156 = .ok (.iinc 7 1, 3) := by decide +kernel
theorem dX2_duel_159 : decode cX2_duel 159 = .ok (.goto (-127), 3) := by decide +kernel
theorem dX2_duel_162 : decode cX2_duel 162 = .ok (.iload 6, 2) := by decide +kernel
theorem dX2_duel_164 : decode cX2_duel 164 = .ok (.ireturn, 1) := by decide +kernel
theorem dX2_bestSwap_0 : decode cX2_bestSwap 0 = .ok (.aload_n 1, 1) := by decide +kernel
theorem dX2_bestSwap_1 : decode cX2_bestSwap 1 = .ok (.invokevirtual 63, 3) := by decide +kernel
theorem dX2_bestSwap_4 : decode cX2_bestSwap 4 = .ok (.aload_n 1, 1) := by decide +kernel
theorem dX2_bestSwap_5 : decode cX2_bestSwap 5 = .ok (.iload_n 2, 1) := by decide +kernel
theorem dX2_bestSwap_6 : decode cX2_bestSwap 6 = .ok (.invokevirtual 66, 3) := by decide +kernel
theorem dX2_bestSwap_9 : decode cX2_bestSwap 9 = .ok (.istore_n 3, 1) := by decide +kernel
theorem dX2_bestSwap_10 : decode cX2_bestSwap 10 = .ok (.aload_n 0, 1) := by decide +kernel
theorem dX2_bestSwap_11 : decode cX2_bestSwap 11 = .ok (.iconst (-1), 1) := by decide +kernel
theorem dX2_bestSwap_12 : decode cX2_bestSwap 12 = .ok (.putfield 18, 3) := by decide +kernel
theorem dX2_bestSwap_15 : decode cX2_bestSwap 15 = .ok (.aload_n 0, 1) := by decide +kernel
theorem dX2_bestSwap_16 : decode cX2_bestSwap 16 = .ok (.iconst (-1), 1) := by decide +kernel
theorem dX2_bestSwap_17 : decode cX2_bestSwap 17 = .ok (.putfield 22, 3) := by decide +kernel
theorem dX2_bestSwap_20 : decode cX2_bestSwap 20 = .ok (.iconst 0, 1) := by decide +kernel
theorem dX2_bestSwap_21 : decode cX2_bestSwap 21 = .ok (.istore 4, 2) := by decide +kernel
theorem dX2_bestSwap_23 : decode cX2_bestSwap 23 = .ok (.iload 4, 2) := by decide +kernel
theorem dX2_bestSwap_25 : decode cX2_bestSwap 25 = .ok (.aload_n 1, 1) := by decide +kernel
theorem dX2_bestSwap_26 : decode cX2_bestSwap 26 = .ok (.getfield 69, 3) := by decide +kernel
theorem dX2_bestSwap_29 : decode cX2_bestSwap 29 = .ok (.if_icmp .ge 49, 3) := by decide +kernel
theorem dX2_bestSwap_32 : decode cX2_bestSwap 32 = .ok (.iload 4, 2) := by decide +kernel
theorem dX2_bestSwap_34 : decode cX2_bestSwap 34 = .ok (.bipush 6, 2) := by decide +kernel
theorem dX2_bestSwap_36 : decode cX2_bestSwap 36 = .ok (.if_icmp .ge 42, 3) := by decide +kernel
theorem dX2_bestSwap_39 : decode cX2_bestSwap 39 = .ok (.iconst 0, 1) := by decide +kernel
theorem dX2_bestSwap_40 : decode cX2_bestSwap 40 = .ok (.istore 5, 2) := by decide +kernel
theorem dX2_bestSwap_42 : decode cX2_bestSwap 42 = .ok (.iload 5, 2) := by decide +kernel
theorem dX2_bestSwap_44 : decode cX2_bestSwap 44 = .ok (.aload_n 1, 1) := by decide +kernel
theorem dX2_bestSwap_45 : decode cX2_bestSwap 45 = .ok (.getfield 72, 3) := by decide +kernel
theorem dX2_bestSwap_48 : decode cX2_bestSwap 48 = .ok (.iload 4, 2) := by decide +kernel
theorem dX2_bestSwap_50 : decode cX2_bestSwap 50 = .ok (.iaload, 1) := by decide +kernel
theorem dX2_bestSwap_51 : decode cX2_bestSwap 51 = .ok (.if_icmp .ge 21, 3) := by decide +kernel
theorem dX2_bestSwap_54 : decode cX2_bestSwap 54 = .ok (.aload_n 0, 1) := by decide +kernel
theorem dX2_bestSwap_55 : decode cX2_bestSwap 55 = .ok (.aload_n 1, 1) := by decide +kernel
theorem dX2_bestSwap_56 : decode cX2_bestSwap 56 = .ok (.iload_n 2, 1) := by decide +kernel
theorem dX2_bestSwap_57 : decode cX2_bestSwap 57 = .ok (.iload 4, 2) := by decide +kernel
theorem dX2_bestSwap_59 : decode cX2_bestSwap 59 = .ok (.iload 5, 2) := by decide +kernel
theorem dX2_bestSwap_61 : decode cX2_bestSwap 61 = .ok (.iload_n 3, 1) := by decide +kernel
theorem dX2_bestSwap_62 : decode cX2_bestSwap 62 = .ok (.invokevirtual 75, 3) := by decide +kernel
theorem dX2_bestSwap_65 : decode cX2_bestSwap 65 = .ok (.istore_n 3, 1) := by decide +kernel
theorem dX2_bestSwap_66 : decode cX2_bestSwap 66 = .ok (.iinc 5 1, 3) := by decide +kernel
theorem dX2_bestSwap_69 : decode cX2_bestSwap 69 = .ok (.goto (-27), 3) := by decide +kernel
theorem dX2_bestSwap_72 : decode cX2_bestSwap 72 = .ok (.iinc 4 1, 3) := by decide +kernel
theorem dX2_bestSwap_75 : decode cX2_bestSwap 75 = .ok (.goto (-52), 3) := by decide +kernel
theorem dX2_bestSwap_78 : decode cX2_bestSwap 78 = .ok (.iload_n 3, 1) := by decide +kernel
theorem dX2_bestSwap_79 : decode cX2_bestSwap 79 = .ok (.ireturn, 1) := by decide +kernel
theorem dX2_swapsOf_0 : decode cX2_swapsOf 0 = .ok (.iload 5, 2) := by decide +kernel
theorem dX2_swapsOf_2 : decode cX2_swapsOf 2 = .ok (.istore 6, 2) := by decide +kernel
theorem dX2_swapsOf_4 : decode cX2_swapsOf 4 = .ok (.iload_n 3, 1) := by decide +kernel
theorem dX2_swapsOf_5 : decode cX2_swapsOf 5 = .ok (.istore 7, 2) := by decide +kernel
theorem dX2_swapsOf_7 : decode cX2_swapsOf 7 = .ok (.iload 7, 2) := by decide +kernel
theorem dX2_swapsOf_9 : decode cX2_swapsOf 9 = .ok (.aload_n 1, 1) := by decide +kernel
theorem dX2_swapsOf_10 : decode cX2_swapsOf 10 = .ok (.getfield 69, 3) := by decide +kernel
theorem dX2_swapsOf_13 : decode cX2_swapsOf 13 = .ok (.if_icmp .ge 117, 3) := by decide +kernel
theorem dX2_swapsOf_16 : decode cX2_swapsOf 16 = .ok (.iload 7, 2) := by decide +kernel
theorem dX2_swapsOf_18 : decode cX2_swapsOf 18 = .ok (.bipush 6, 2) := by decide +kernel
theorem dX2_swapsOf_20 : decode cX2_swapsOf 20 = .ok (.if_icmp .ge 110, 3) := by decide +kernel
theorem dX2_swapsOf_23 : decode cX2_swapsOf 23 = .ok (.iload 7, 2) := by decide +kernel
theorem dX2_swapsOf_25 : decode cX2_swapsOf 25 = .ok (.iload_n 3, 1) := by decide +kernel
theorem dX2_swapsOf_26 : decode cX2_swapsOf 26 = .ok (.if_icmp .ne 10, 3) := by decide +kernel
theorem dX2_swapsOf_29 : decode cX2_swapsOf 29 = .ok (.iload 4, 2) := by decide +kernel
theorem dX2_swapsOf_31 : decode cX2_swapsOf 31 = .ok (.iconst 1, 1) := by decide +kernel
theorem dX2_swapsOf_32 : decode cX2_swapsOf 32 = .ok (.iadd, 1) := by decide +kernel
theorem dX2_swapsOf_33 : decode cX2_swapsOf 33 = .ok (.goto 4, 3) := by decide +kernel
theorem dX2_swapsOf_36 : decode cX2_swapsOf 36 = .ok (.iconst 0, 1) := by decide +kernel
theorem dX2_swapsOf_37 : decode cX2_swapsOf 37 = .ok (.istore 8, 2) := by decide +kernel
theorem dX2_swapsOf_39 : decode cX2_swapsOf 39 = .ok (.iload 8, 2) := by decide +kernel
theorem dX2_swapsOf_41 : decode cX2_swapsOf 41 = .ok (.aload_n 1, 1) := by decide +kernel
theorem dX2_swapsOf_42 : decode cX2_swapsOf 42 = .ok (.getfield 72, 3) := by decide +kernel
theorem dX2_swapsOf_45 : decode cX2_swapsOf 45 = .ok (.iload 7, 2) := by decide +kernel
theorem dX2_swapsOf_47 : decode cX2_swapsOf 47 = .ok (.iaload, 1) := by decide +kernel
theorem dX2_swapsOf_48 : decode cX2_swapsOf 48 = .ok (.if_icmp .ge 76, 3) := by decide +kernel
theorem dX2_swapsOf_51 : decode cX2_swapsOf 51 = .ok (.aload_n 1, 1) := by decide +kernel
theorem dX2_swapsOf_52 : decode cX2_swapsOf 52 = .ok (.iload_n 3, 1) := by decide +kernel
theorem dX2_swapsOf_53 : decode cX2_swapsOf 53 = .ok (.iload 4, 2) := by decide +kernel
theorem dX2_swapsOf_55 : decode cX2_swapsOf 55 = .ok (.iload 7, 2) := by decide +kernel
theorem dX2_swapsOf_57 : decode cX2_swapsOf 57 = .ok (.iload 8, 2) := by decide +kernel
theorem dX2_swapsOf_59 : decode cX2_swapsOf 59 = .ok (.invokevirtual 79, 3) := by decide +kernel
theorem dX2_swapsOf_62 : decode cX2_swapsOf 62 = .ok (.aload_n 1, 1) := by decide +kernel
theorem dX2_swapsOf_63 : decode cX2_swapsOf 63 = .ok (.invokevirtual 63, 3) := by decide +kernel
theorem dX2_swapsOf_66 : decode cX2_swapsOf 66 = .ok (.aload_n 1, 1) := by decide +kernel
theorem dX2_swapsOf_67 : decode cX2_swapsOf 67 = .ok (.iload_n 3, 1) := by decide +kernel
theorem dX2_swapsOf_68 : decode cX2_swapsOf 68 = .ok (.iload 4, 2) := by decide +kernel
theorem dX2_swapsOf_70 : decode cX2_swapsOf 70 = .ok (.iload 7, 2) := by decide +kernel
theorem dX2_swapsOf_72 : decode cX2_swapsOf 72 = .ok (.iload 8, 2) := by decide +kernel
theorem dX2_swapsOf_74 : decode cX2_swapsOf 74 = .ok (.invokevirtual 79, 3) := by decide +kernel
theorem dX2_swapsOf_77 : decode cX2_swapsOf 77 = .ok (.aload_n 1, 1) := by decide +kernel
theorem dX2_swapsOf_78 : decode cX2_swapsOf 78 = .ok (.iload_n 2, 1) := by decide +kernel
theorem dX2_swapsOf_79 : decode cX2_swapsOf 79 = .ok (.invokevirtual 66, 3) := by decide +kernel
theorem dX2_swapsOf_82 : decode cX2_swapsOf 82 = .ok (.istore 9, 2) := by decide +kernel
theorem dX2_swapsOf_84 : decode cX2_swapsOf 84 = .ok (.iload 9, 2) := by decide +kernel
theorem dX2_swapsOf_86 : decode cX2_swapsOf 86 = .ok (.iload 6, 2) := by decide +kernel
theorem dX2_swapsOf_88 : decode cX2_swapsOf 88 = .ok (.if_icmp .le 30, 3) := by decide +kernel
theorem dX2_swapsOf_91 : decode cX2_swapsOf 91 = .ok (.iload 9, 2) := by decide +kernel
theorem dX2_swapsOf_93 : decode cX2_swapsOf 93 = .ok (.istore 6, 2) := by decide +kernel
theorem dX2_swapsOf_95 : decode cX2_swapsOf 95 = .ok (.aload_n 0, 1) := by decide +kernel
theorem dX2_swapsOf_96 : decode cX2_swapsOf 96 = .ok (.bipush 100, 2) := by decide +kernel
theorem dX2_swapsOf_98 : decode cX2_swapsOf 98 = .ok (.iload_n 3, 1) := by decide +kernel
theorem dX2_swapsOf_99 : decode cX2_swapsOf 99 = .ok (.imul, 1) := by decide +kernel
theorem dX2_swapsOf_100 : decode cX2_swapsOf 100 = .ok (.iload 4, 2) := by decide +kernel
theorem dX2_swapsOf_102 : decode cX2_swapsOf 102 = .ok (.iadd, 1) := by decide +kernel
theorem dX2_swapsOf_103 : decode cX2_swapsOf 103 = .ok (.putfield 18, 3) := by decide +kernel
theorem dX2_swapsOf_106 : decode cX2_swapsOf 106 = .ok (.aload_n 0, 1) := by decide +kernel
theorem dX2_swapsOf_107 : decode cX2_swapsOf 107 = .ok (.bipush 100, 2) := by decide +kernel
theorem dX2_swapsOf_109 : decode cX2_swapsOf 109 = .ok (.iload 7, 2) := by decide +kernel
theorem dX2_swapsOf_111 : decode cX2_swapsOf 111 = .ok (.imul, 1) := by decide +kernel
theorem dX2_swapsOf_112 : decode cX2_swapsOf 112 = .ok (.iload 8, 2) := by decide +kernel
theorem dX2_swapsOf_114 : decode cX2_swapsOf 114 = .ok (.iadd, 1) := by decide +kernel
theorem dX2_swapsOf_115 : decode cX2_swapsOf 115 = .ok (.putfield 22, 3) := by decide +kernel
theorem dX2_swapsOf_118 : decode cX2_swapsOf 118 = .ok (.iinc 8 1, 3) := by decide +kernel
theorem dX2_swapsOf_121 : decode cX2_swapsOf 121 = .ok (.goto (-82), 3) := by decide +kernel
theorem dX2_swapsOf_124 : decode cX2_swapsOf 124 = .ok (.iinc 7 1, 3) := by decide +kernel
theorem dX2_swapsOf_127 : decode cX2_swapsOf 127 = .ok (.goto (-120), 3) := by decide +kernel
theorem dX2_swapsOf_130 : decode cX2_swapsOf 130 = .ok (.iload 6, 2) := by decide +kernel
theorem dX2_swapsOf_132 : decode cX2_swapsOf 132 = .ok (.ireturn, 1) := by decide +kernel
theorem dX3_init_0 : decode cX3_init 0 = .ok (.aload_n 0, 1) := by decide +kernel
theorem dX3_init_1 : decode cX3_init 1 = .ok (.invokespecial 3, 3) := by decide +kernel
theorem dX3_init_4 : decode cX3_init 4 = .ok (.aload_n 0, 1) := by decide +kernel
theorem dX3_init_5 : decode cX3_init 5 = .ok (.bipush 23, 2) := by decide +kernel
theorem dX3_init_7 : decode cX3_init 7 = .ok (.newarray .long, 2) := by decide +kernel
theorem dX3_init_9 : decode cX3_init 9 = .ok (.putfield 9, 3) := by decide +kernel
theorem dX3_init_12 : decode cX3_init 12 = .ok (.aload_n 0, 1) := by decide +kernel
theorem dX3_init_13 : decode cX3_init 13 = .ok (.iconst 0, 1) := by decide +kernel
theorem dX3_init_14 : decode cX3_init 14 = .ok (.newarray .byte, 2) := by decide +kernel
theorem dX3_init_16 : decode cX3_init 16 = .ok (.putfield 15, 3) := by decide +kernel
theorem dX3_init_19 : decode cX3_init 19 = .ok (.aload_n 0, 1) := by decide +kernel
theorem dX3_init_20 : decode cX3_init 20 = .ok (.iconst (-1), 1) := by decide +kernel
theorem dX3_init_21 : decode cX3_init 21 = .ok (.putfield 19, 3) := by decide +kernel
theorem dX3_init_24 : decode cX3_init 24 = .ok (.aload_n 0, 1) := by decide +kernel
theorem dX3_init_25 : decode cX3_init 25 = .ok (.iconst (-1), 1) := by decide +kernel
theorem dX3_init_26 : decode cX3_init 26 = .ok (.putfield 23, 3) := by decide +kernel
theorem dX3_init_29 : decode cX3_init 29 = .ok (.iconst 0, 1) := by decide +kernel
theorem dX3_init_30 : decode cX3_init 30 = .ok (.istore_n 1, 1) := by decide +kernel
theorem dX3_init_31 : decode cX3_init 31 = .ok (.lconst 0, 1) := by decide +kernel
theorem dX3_init_32 : decode cX3_init 32 = .ok (.lstore_n 2, 1) := by decide +kernel
theorem dX3_init_33 : decode cX3_init 33 = .ok (.iconst 0, 1) := by decide +kernel
theorem dX3_init_34 : decode cX3_init 34 = .ok (.istore 4, 2) := by decide +kernel
theorem dX3_init_36 : decode cX3_init 36 = .ok (.iload 4, 2) := by decide +kernel
theorem dX3_init_38 : decode cX3_init 38 = .ok (.ldc 26, 2) := by decide +kernel
theorem dX3_init_40 : decode cX3_init 40 = .ok (.invokevirtual 28, 3) := by decide +kernel
theorem dX3_init_43 : decode cX3_init 43 = .ok (.if_icmp .ge 53, 3) := by decide +kernel
theorem dX3_init_46 : decode cX3_init 46 = .ok (.iload_n 1, 1) := by decide +kernel
theorem dX3_init_47 : decode cX3_init 47 = .ok (.bipush 23, 2) := by decide +kernel
theorem dX3_init_49 : decode cX3_init 49 = .ok (.if_icmp .ge 47, 3) := by decide +kernel
theorem dX3_init_52 : decode cX3_init 52 = .ok (.ldc 26, 2) := by decide +kernel
theorem dX3_init_54 : decode cX3_init 54 = .ok (.iload 4, 2) := by decide +kernel
theorem dX3_init_56 : decode cX3_init 56 = .ok (.invokevirtual 34, 3) := by decide +kernel
theorem dX3_init_59 : decode cX3_init 59 = .ok (.istore 5, 2) := by decide +kernel
theorem dX3_init_61 : decode cX3_init 61 = .ok (.iload 5, 2) := by decide +kernel
theorem dX3_init_63 : decode cX3_init 63 = .ok (.bipush 32, 2) := by decide +kernel
theorem dX3_init_65 : decode cX3_init 65 = .ok (.if_icmp .ne 18, 3) := by decide +kernel
theorem dX3_init_68 : decode cX3_init 68 = .ok (.aload_n 0, 1) := by decide +kernel
theorem dX3_init_69 : decode cX3_init 69 = .ok (.getfield 9, 3) := by decide +kernel
theorem dX3_init_72 : decode cX3_init 72 = .ok (.iload_n 1, 1) := by decide +kernel
theorem dX3_init_73 : decode cX3_init 73 = .ok (.lload_n 2, 1) := by decide +kernel
theorem dX3_init_74 : decode cX3_init 74 = .ok (.lastore, 1) := by decide +kernel
theorem dX3_init_75 : decode cX3_init 75 = .ok (.iinc 1 1, 3) := by decide +kernel
theorem dX3_init_78 : decode cX3_init 78 = .ok (.lconst 0, 1) := by decide +kernel
theorem dX3_init_79 : decode cX3_init 79 = .ok (.lstore_n 2, 1) := by decide +kernel
theorem dX3_init_80 : decode cX3_init 80 = .ok (.goto 10, 3) := by decide +kernel
theorem dX3_init_83 : decode cX3_init 83 = .ok (.lload_n 2, 1) := by decide +kernel
theorem dX3_init_84 : decode cX3_init 84 = .ok (.iload 5, 2) := by decide +kernel
theorem dX3_init_86 : decode cX3_init 86 = .ok (.invokestatic 38, 3) := by decide +kernel
theorem dX3_init_89 : decode cX3_init 89 = .ok (.lstore_n 2, 1) := by decide +kernel
theorem dX3_init_90 : decode cX3_init 90 = .ok (.iinc 4 1, 3) := by decide +kernel
theorem dX3_init_93 : decode cX3_init 93 = .ok (.goto (-57), 3) := by decide +kernel
theorem dX3_init_96 : decode cX3_init 96 = .ok (.return_, 1) := by decide +kernel
theorem dX3_withLetter_0 : decode cX3_withLetter 0 = .ok (.lload_n 0, 1) := by decide +kernel
theorem dX3_withLetter_1 : decode cX3_withLetter 1 = .ok (.ldc2_w 42, 3) := by decide +kernel
theorem dX3_withLetter_4 : decode cX3_withLetter 4 = .ok (.lmul, 1) := by decide +kernel
theorem dX3_withLetter_5 : decode cX3_withLetter 5 = .ok (.iload_n 2, 1) := by decide +kernel
theorem dX3_withLetter_6 : decode cX3_withLetter 6 = .ok (.bipush 97, 2) := by decide +kernel
theorem dX3_withLetter_8 : decode cX3_withLetter 8 = .ok (.isub, 1) := by decide +kernel
theorem dX3_withLetter_9 : decode cX3_withLetter 9 = .ok (.iconst 1, 1) := by decide +kernel
theorem dX3_withLetter_10 : decode cX3_withLetter 10 = .ok (.iadd, 1) := by decide +kernel
theorem dX3_withLetter_11 : decode cX3_withLetter 11 = .ok (.i2l, 1) := by decide +kernel
theorem dX3_withLetter_12 : decode cX3_withLetter 12 = .ok (.ladd, 1) := by decide +kernel
theorem dX3_withLetter_13 : decode cX3_withLetter 13 = .ok (.lreturn, 1) := by decide +kernel
theorem dX3_open_0 : decode cX3_open 0 = .ok (.aload_n 0, 1) := by decide +kernel
theorem dX3_open_1 : decode cX3_open 1 = .ok (.aload_n 1, 1) := by decide +kernel
theorem dX3_open_2 : decode cX3_open 2 = .ok (.putfield 15, 3) := by decide +kernel
theorem dX3_open_5 : decode cX3_open 5 = .ok (.aload_n 0, 1) := by decide +kernel
theorem dX3_open_6 : decode cX3_open 6 = .ok (.iload_n 2, 1) := by decide +kernel
theorem dX3_open_7 : decode cX3_open 7 = .ok (.iconst 0, 1) := by decide +kernel
theorem dX3_open_8 : decode cX3_open 8 = .ok (.invokestatic 44, 3) := by decide +kernel
theorem dX3_open_11 : decode cX3_open 11 = .ok (.aload_n 1, 1) := by decide +kernel
theorem dX3_open_12 : decode cX3_open 12 = .ok (.arraylength, 1) := by decide +kernel
theorem dX3_open_13 : decode cX3_open 13 = .ok (.invokestatic 50, 3) := by decide +kernel
theorem dX3_open_16 : decode cX3_open 16 = .ok (.putfield 53, 3) := by decide +kernel
theorem dX3_open_19 : decode cX3_open 19 = .ok (.aload_n 0, 1) := by decide +kernel
theorem dX3_open_20 : decode cX3_open 20 = .ok (.iconst 0, 1) := by decide +kernel
theorem dX3_open_21 : decode cX3_open 21 = .ok (.putfield 56, 3) := by decide +kernel
theorem dX3_open_24 : decode cX3_open 24 = .ok (.aload_n 0, 1) := by decide +kernel
theorem dX3_open_25 : decode cX3_open 25 = .ok (.iconst 0, 1) := by decide +kernel
theorem dX3_open_26 : decode cX3_open 26 = .ok (.putfield 19, 3) := by decide +kernel
theorem dX3_open_29 : decode cX3_open 29 = .ok (.aload_n 0, 1) := by decide +kernel
theorem dX3_open_30 : decode cX3_open 30 = .ok (.iconst (-1), 1) := by decide +kernel
theorem dX3_open_31 : decode cX3_open 31 = .ok (.putfield 23, 3) := by decide +kernel
theorem dX3_open_34 : decode cX3_open 34 = .ok (.return_, 1) := by decide +kernel
theorem dX3_blame_0 : decode cX3_blame 0 = .ok (.aload_n 0, 1) := by decide +kernel
theorem dX3_blame_1 : decode cX3_blame 1 = .ok (.iload_n 1, 1) := by decide +kernel
theorem dX3_blame_2 : decode cX3_blame 2 = .ok (.putfield 19, 3) := by decide +kernel
theorem dX3_blame_5 : decode cX3_blame 5 = .ok (.aload_n 0, 1) := by decide +kernel
theorem dX3_blame_6 : decode cX3_blame 6 = .ok (.aload_n 0, 1) := by decide +kernel
theorem dX3_blame_7 : decode cX3_blame 7 = .ok (.getfield 59, 3) := by decide +kernel
theorem dX3_blame_10 : decode cX3_blame 10 = .ok (.putfield 23, 3) := by decide +kernel
theorem dX3_blame_13 : decode cX3_blame 13 = .ok (.iconst 0, 1) := by decide +kernel
theorem dX3_blame_14 : decode cX3_blame 14 = .ok (.ireturn, 1) := by decide +kernel
theorem dX3_byteHere_0 : decode cX3_byteHere 0 = .ok (.aload_n 0, 1) := by decide +kernel
theorem dX3_byteHere_1 : decode cX3_byteHere 1 = .ok (.getfield 56, 3) := by decide +kernel
theorem dX3_byteHere_4 : decode cX3_byteHere 4 = .ok (.ifCond .lt 38, 3) := by decide +kernel
theorem dX3_byteHere_7 : decode cX3_byteHere 7 = .ok (.aload_n 0, 1) := by decide +kernel
theorem dX3_byteHere_8 : decode cX3_byteHere 8 = .ok (.getfield 56, 3) := by decide +kernel
theorem dX3_byteHere_11 : decode cX3_byteHere 11 = .ok (.aload_n 0, 1) := by decide +kernel
theorem dX3_byteHere_12 : decode cX3_byteHere 12 = .ok (.getfield 53, 3) := by decide +kernel
theorem dX3_byteHere_15 : decode cX3_byteHere 15 = .ok (.if_icmp .ge 27, 3) := by decide +kernel
theorem dX3_byteHere_18 : decode cX3_byteHere 18 = .ok (.aload_n 0, 1) := by decide +kernel
theorem dX3_byteHere_19 : decode cX3_byteHere 19 = .ok (.getfield 56, 3) := by decide +kernel
theorem dX3_byteHere_22 : decode cX3_byteHere 22 = .ok (.aload_n 0, 1) := by decide +kernel
theorem dX3_byteHere_23 : decode cX3_byteHere 23 = .ok (.getfield 15, 3) := by decide +kernel
theorem dX3_byteHere_26 : decode cX3_byteHere 26 = .ok (.arraylength, 1) := by decide +kernel
theorem dX3_byteHere_27 : decode cX3_byteHere 27 = .ok (.if_icmp .ge 15, 3) := by decide +kernel
theorem dX3_byteHere_30 : decode cX3_byteHere 30 = .ok (.aload_n 0, 1) := by decide +kernel
theorem dX3_byteHere_31 : decode cX3_byteHere 31 = .ok (.getfield 15, 3) := by decide +kernel
theorem dX3_byteHere_34 : decode cX3_byteHere 34 = .ok (.aload_n 0, 1) := by decide +kernel
theorem dX3_byteHere_35 : decode cX3_byteHere 35 = .ok (.getfield 56, 3) := by decide +kernel
theorem dX3_byteHere_38 : decode cX3_byteHere 38 = .ok (.baload, 1) := by decide +kernel
theorem dX3_byteHere_39 : decode cX3_byteHere 39 = .ok (.goto 4, 3) := by decide +kernel
theorem dX3_byteHere_42 : decode cX3_byteHere 42 = .ok (.iconst (-1), 1) := by decide +kernel
theorem dX3_byteHere_43 : decode cX3_byteHere 43 = .ok (.ireturn, 1) := by decide +kernel
theorem dX3_isBlank_0 : decode cX3_isBlank 0 = .ok (.iload_n 0, 1) := by decide +kernel
theorem dX3_isBlank_1 : decode cX3_isBlank 1 = .ok (.bipush 10, 2) := by decide +kernel
theorem dX3_isBlank_3 : decode cX3_isBlank 3 = .ok (.if_icmp .eq 9, 3) := by decide +kernel
theorem dX3_isBlank_6 : decode cX3_isBlank 6 = .ok (.iload_n 0, 1) := by decide +kernel
theorem dX3_isBlank_7 : decode cX3_isBlank 7 = .ok (.bipush 32, 2) := by decide +kernel
theorem dX3_isBlank_9 : decode cX3_isBlank 9 = .ok (.if_icmp .ne 7, 3) := by decide +kernel
theorem dX3_isBlank_12 : decode cX3_isBlank 12 = .ok (.iconst 1, 1) := by decide +kernel
theorem dX3_isBlank_13 : decode cX3_isBlank 13 = .ok (.goto 4, 3) := by decide +kernel
theorem dX3_isBlank_16 : decode cX3_isBlank 16 = .ok (.iconst 0, 1) := by decide +kernel
theorem dX3_isBlank_17 : decode cX3_isBlank 17 = .ok (.ireturn, 1) := by decide +kernel
theorem dX3_isLetter_0 : decode cX3_isLetter 0 = .ok (.iload_n 0, 1) := by decide +kernel
theorem dX3_isLetter_1 : decode cX3_isLetter 1 = .ok (.bipush 97, 2) := by decide +kernel
theorem dX3_isLetter_3 : decode cX3_isLetter 3 = .ok (.if_icmp .lt 13, 3) := by decide +kernel
theorem dX3_isLetter_6 : decode cX3_isLetter 6 = .ok (.iload_n 0, 1) := by decide +kernel
theorem dX3_isLetter_7 : decode cX3_isLetter 7 = .ok (.bipush 122, 2) := by decide +kernel
theorem dX3_isLetter_9 : decode cX3_isLetter 9 = .ok (.if_icmp .gt 7, 3) := by decide +kernel
theorem dX3_isLetter_12 : decode cX3_isLetter 12 = .ok (.iconst 1, 1) := by decide +kernel
theorem dX3_isLetter_13 : decode cX3_isLetter 13 = .ok (.goto 4, 3) := by decide +kernel
theorem dX3_isLetter_16 : decode cX3_isLetter 16 = .ok (.iconst 0, 1) := by decide +kernel
theorem dX3_isLetter_17 : decode cX3_isLetter 17 = .ok (.ireturn, 1) := by decide +kernel
theorem dX3_isDigit_0 : decode cX3_isDigit 0 = .ok (.iload_n 0, 1) := by decide +kernel
theorem dX3_isDigit_1 : decode cX3_isDigit 1 = .ok (.bipush 48, 2) := by decide +kernel
theorem dX3_isDigit_3 : decode cX3_isDigit 3 = .ok (.if_icmp .lt 13, 3) := by decide +kernel
theorem dX3_isDigit_6 : decode cX3_isDigit 6 = .ok (.iload_n 0, 1) := by decide +kernel
theorem dX3_isDigit_7 : decode cX3_isDigit 7 = .ok (.bipush 57, 2) := by decide +kernel
theorem dX3_isDigit_9 : decode cX3_isDigit 9 = .ok (.if_icmp .gt 7, 3) := by decide +kernel
theorem dX3_isDigit_12 : decode cX3_isDigit 12 = .ok (.iconst 1, 1) := by decide +kernel
theorem dX3_isDigit_13 : decode cX3_isDigit 13 = .ok (.goto 4, 3) := by decide +kernel
theorem dX3_isDigit_16 : decode cX3_isDigit 16 = .ok (.iconst 0, 1) := by decide +kernel
theorem dX3_isDigit_17 : decode cX3_isDigit 17 = .ok (.ireturn, 1) := by decide +kernel
theorem dX3_step_0 : decode cX3_step 0 = .ok (.aload_n 0, 1) := by decide +kernel
theorem dX3_step_1 : decode cX3_step 1 = .ok (.getfield 56, 3) := by decide +kernel
theorem dX3_step_4 : decode cX3_step 4 = .ok (.aload_n 0, 1) := by decide +kernel
theorem dX3_step_5 : decode cX3_step 5 = .ok (.getfield 53, 3) := by decide +kernel
theorem dX3_step_8 : decode cX3_step 8 = .ok (.if_icmp .ge 26, 3) := by decide +kernel
theorem dX3_step_11 : decode cX3_step 11 = .ok (.aload_n 0, 1) := by decide +kernel
theorem dX3_step_12 : decode cX3_step 12 = .ok (.invokevirtual 62, 3) := by decide +kernel
theorem dX3_step_15 : decode cX3_step 15 = .ok (.invokestatic 65, 3) := by decide +kernel
theorem dX3_step_18 : decode cX3_step 18 = .ok (.ifCond .eq 16, 3) := by decide +kernel
theorem dX3_step_21 : decode cX3_step 21 = .ok (.aload_n 0, 1) := by decide +kernel
theorem dX3_step_22 : decode cX3_step 22 = .ok (.dup, 1) := by decide +kernel
theorem dX3_step_23 : decode cX3_step 23 = .ok (.getfield 56, 3) := by decide +kernel
theorem dX3_step_26 : decode cX3_step 26 = .ok (.iconst 1, 1) := by decide +kernel
theorem dX3_step_27 : decode cX3_step 27 = .ok (.iadd, 1) := by decide +kernel
theorem dX3_step_28 : decode cX3_step 28 = .ok (.putfield 56, 3) := by decide +kernel
theorem dX3_step_31 : decode cX3_step 31 = .ok (.goto (-31), 3) := by decide +kernel
theorem dX3_step_34 : decode cX3_step 34 = .ok (.aload_n 0, 1) := by decide +kernel
theorem dX3_step_35 : decode cX3_step 35 = .ok (.aload_n 0, 1) := by decide +kernel
theorem dX3_step_36 : decode cX3_step 36 = .ok (.getfield 56, 3) := by decide +kernel
theorem dX3_step_39 : decode cX3_step 39 = .ok (.putfield 59, 3) := by decide +kernel
theorem dX3_step_42 : decode cX3_step 42 = .ok (.aload_n 0, 1) := by decide +kernel
theorem dX3_step_43 : decode cX3_step 43 = .ok (.iconst (-1), 1) := by decide +kernel
theorem dX3_step_44 : decode cX3_step 44 = .ok (.putfield 69, 3) := by decide +kernel
theorem dX3_step_47 : decode cX3_step 47 = .ok (.aload_n 0, 1) := by decide +kernel
theorem dX3_step_48 : decode cX3_step 48 = .ok (.invokevirtual 62, 3) := by decide +kernel
theorem dX3_step_51 : decode cX3_step 51 = .ok (.istore_n 1, 1) := by decide +kernel
theorem dX3_step_52 : decode cX3_step 52 = .ok (.aload_n 0, 1) := by decide +kernel
theorem dX3_step_53 : decode cX3_step 53 = .ok (.getfield 56, 3) := by decide +kernel
theorem dX3_step_56 : decode cX3_step 56 = .ok (.aload_n 0, 1) := by decide +kernel
theorem dX3_step_57 : decode cX3_step 57 = .ok (.getfield 53, 3) := by decide +kernel
theorem dX3_step_60 : decode cX3_step 60 = .ok (.if_icmp .lt 10, 3) := by decide +kernel
theorem dX3_step_63 : decode cX3_step 63 = .ok (.aload_n 0, 1) := by decide +kernel
theorem dX3_step_64 : decode cX3_step 64 = .ok (.iconst 0, 1) := by decide +kernel
theorem dX3_step_65 : decode cX3_step 65 = .ok (.putfield 72, 3) := by decide +kernel
theorem dX3_step_68 : decode cX3_step 68 = .ok (.iconst 1, 1) := by decide +kernel
theorem dX3_step_69 : decode cX3_step 69 = .ok (.ireturn, 1) := by decide +kernel
theorem dX3_step_70 : decode cX3_step 70 = .ok (.iload_n 1, 1) := by decide +kernel
theorem dX3_step_71 : decode cX3_step 71 = .ok (.invokestatic 75, 3) := by decide +kernel
theorem dX3_step_74 : decode cX3_step 74 = .ok (.ifCond .eq 9, 3) := by decide +kernel
theorem dX3_step_77 : decode cX3_step 77 = .ok (.aload_n 0, 1) := by decide +kernel
theorem dX3_step_78 : decode cX3_step 78 = .ok (.invokevirtual 78, 3) := by decide +kernel
theorem dX3_step_81 : decode cX3_step 81 = .ok (.iconst 1, 1) := by decide +kernel
theorem dX3_step_82 : decode cX3_step 82 = .ok (.ireturn, 1) := by decide +kernel
theorem dX3_step_83 : decode cX3_step 83 = .ok (.iload_n 1, 1) := by decide +kernel
theorem dX3_step_84 : decode cX3_step 84 = .ok (.invokestatic 81, 3) := by decide +kernel
theorem dX3_step_87 : decode cX3_step 87 = .ok (.ifCond .eq 8, 3) := by decide +kernel
theorem dX3_step_90 : decode cX3_step 90 = .ok (.aload_n 0, 1) := by decide +kernel
theorem dX3_step_91 : decode cX3_step 91 = .ok (.invokevirtual 84, 3) := by decide +kernel
theorem dX3_step_94 : decode cX3_step 94 = .ok (.ireturn, 1) := by decide +kernel
theorem dX3_step_95 : decode cX3_step 95 = .ok (.iload_n 1, 1) := by decide +kernel
theorem dX3_step_96 : decode cX3_step 96 = .ok (.bipush 59, 2) := by decide +kernel
theorem dX3_step_98 : decode cX3_step 98 = .ok (.if_icmp .eq 27, 3) := by decide +kernel
theorem dX3_step_101 : decode cX3_step 101 = .ok (.iload_n 1, 1) := by decide +kernel
theorem dX3_step_102 : decode cX3_step 102 = .ok (.bipush 60, 2) := by decide +kernel
theorem dX3_step_104 : decode cX3_step 104 = .ok (.if_icmp .eq 21, 3) := by decide +kernel
theorem dX3_step_107 : decode cX3_step 107 = .ok (.iload_n 1, 1) := by decide +kernel
theorem dX3_step_108 : decode cX3_step 108 = .ok (.bipush 62, 2) := by decide +kernel
theorem dX3_step_110 : decode cX3_step 110 = .ok (.if_icmp .eq 15, 3) := by decide +kernel
theorem dX3_step_113 : decode cX3_step 113 = .ok (.iload_n 1, 1) := by decide +kernel
theorem dX3_step_114 : decode cX3_step 114 = .ok (.bipush 61, 2) := by decide +kernel
theorem dX3_step_116 : decode cX3_step 116 = .ok (.if_icmp .eq 9, 3) := by decide +kernel
theorem dX3_step_119 : decode cX3_step 119 = .ok (.aload_n 0, 1) := by decide +kernel
theorem dX3_step_120 : decode cX3_step 120 = .ok (.iconst 1, 1) := by decide +kernel
theorem dX3_step_121 : decode cX3_step 121 = .ok (.invokevirtual 88, 3) := by decide +kernel
theorem dX3_step_124 : decode cX3_step 124 = .ok (.ireturn, 1) := by decide +kernel
theorem dX3_step_125 : decode cX3_step 125 = .ok (.aload_n 0, 1) := by decide +kernel
theorem dX3_step_126 : decode cX3_step 126 = .ok (.iconst 3, 1) := by decide +kernel
theorem dX3_step_127 : decode cX3_step 127 = .ok (.putfield 72, 3) := by decide +kernel
theorem dX3_step_130 : decode cX3_step 130 = .ok (.aload_n 0, 1) := by decide +kernel
theorem dX3_step_131 : decode cX3_step 131 = .ok (.iload_n 1, 1) := by decide +kernel
theorem dX3_step_132 : decode cX3_step 132 = .ok (.putfield 91, 3) := by decide +kernel
theorem dX3_step_135 : decode cX3_step 135 = .ok (.aload_n 0, 1) := by decide +kernel
theorem dX3_step_136 : decode cX3_step 136 = .ok (.dup, 1) := by decide +kernel
theorem dX3_step_137 : decode cX3_step 137 = .ok (.getfield 56, 3) := by decide +kernel
theorem dX3_step_140 : decode cX3_step 140 = .ok (.iconst 1, 1) := by decide +kernel
theorem dX3_step_141 : decode cX3_step 141 = .ok (.iadd, 1) := by decide +kernel
theorem dX3_step_142 : decode cX3_step 142 = .ok (.putfield 56, 3) := by decide +kernel
theorem dX3_step_145 : decode cX3_step 145 = .ok (.iconst 1, 1) := by decide +kernel
theorem dX3_step_146 : decode cX3_step 146 = .ok (.ireturn, 1) := by decide +kernel
theorem dX3_readWord_0 : decode cX3_readWord 0 = .ok (.aload_n 0, 1) := by decide +kernel
theorem dX3_readWord_1 : decode cX3_readWord 1 = .ok (.iconst 1, 1) := by decide +kernel
theorem dX3_readWord_2 : decode cX3_readWord 2 = .ok (.putfield 72, 3) := by decide +kernel
theorem dX3_readWord_5 : decode cX3_readWord 5 = .ok (.aload_n 0, 1) := by decide +kernel
theorem dX3_readWord_6 : decode cX3_readWord 6 = .ok (.lconst 0, 1) := by decide +kernel
theorem dX3_readWord_7 : decode cX3_readWord 7 = .ok (.putfield 94, 3) := by decide +kernel
theorem dX3_readWord_10 : decode cX3_readWord 10 = .ok (.aload_n 0, 1) := by decide +kernel
theorem dX3_readWord_11 : decode cX3_readWord 11 = .ok (.getfield 56, 3) := by decide +kernel
theorem dX3_readWord_14 : decode cX3_readWord 14 = .ok (.aload_n 0, 1) := by decide +kernel
theorem dX3_readWord_15 : decode cX3_readWord 15 = .ok (.getfield 53, 3) := by decide +kernel
theorem dX3_readWord_18 : decode cX3_readWord 18 = .ok (.if_icmp .ge 41, 3) := by decide +kernel
theorem dX3_readWord_21 : decode cX3_readWord 21 = .ok (.aload_n 0, 1) := by decide +kernel
theorem dX3_readWord_22 : decode cX3_readWord 22 = .ok (.invokevirtual 62, 3) := by decide +kernel
theorem dX3_readWord_25 : decode cX3_readWord 25 = .ok (.invokestatic 75, 3) := by decide +kernel
theorem dX3_readWord_28 : decode cX3_readWord 28 = .ok (.ifCond .eq 31, 3) := by decide +kernel
theorem dX3_readWord_31 : decode cX3_readWord 31 = .ok (.aload_n 0, 1) := by decide +kernel
theorem dX3_readWord_32 : decode cX3_readWord 32 = .ok (.aload_n 0, 1) := by decide +kernel
theorem dX3_readWord_33 : decode cX3_readWord 33 = .ok (.getfield 94, 3) := by decide +kernel
theorem dX3_readWord_36 : decode cX3_readWord 36 = .ok (.aload_n 0, 1) := by decide +kernel
theorem dX3_readWord_37 : decode cX3_readWord 37 = .ok (.invokevirtual 62, 3) := by decide +kernel
theorem dX3_readWord_40 : decode cX3_readWord 40 = .ok (.invokestatic 38, 3) := by decide +kernel
theorem dX3_readWord_43 : decode cX3_readWord 43 = .ok (.putfield 94, 3) := by decide +kernel
theorem dX3_readWord_46 : decode cX3_readWord 46 = .ok (.aload_n 0, 1) := by decide +kernel
theorem dX3_readWord_47 : decode cX3_readWord 47 = .ok (.dup, 1) := by decide +kernel
theorem dX3_readWord_48 : decode cX3_readWord 48 = .ok (.getfield 56, 3) := by decide +kernel
theorem dX3_readWord_51 : decode cX3_readWord 51 = .ok (.iconst 1, 1) := by decide +kernel
theorem dX3_readWord_52 : decode cX3_readWord 52 = .ok (.iadd, 1) := by decide +kernel
theorem dX3_readWord_53 : decode cX3_readWord 53 = .ok (.putfield 56, 3) := by decide +kernel
theorem dX3_readWord_56 : decode cX3_readWord 56 = .ok (.goto (-46), 3) := by decide +kernel
theorem dX3_readWord_59 : decode cX3_readWord 59 = .ok (.aload_n 0, 1) := by decide +kernel
theorem dX3_readWord_60 : decode cX3_readWord 60 = .ok (.aload_n 0, 1) := by decide +kernel
theorem dX3_readWord_61 : decode cX3_readWord 61 = .ok (.getfield 56, 3) := by decide +kernel
theorem dX3_readWord_64 : decode cX3_readWord 64 = .ok (.aload_n 0, 1) := by decide +kernel
theorem dX3_readWord_65 : decode cX3_readWord 65 = .ok (.getfield 59, 3) := by decide +kernel
theorem dX3_readWord_68 : decode cX3_readWord 68 = .ok (.isub, 1) := by decide +kernel
theorem dX3_readWord_69 : decode cX3_readWord 69 = .ok (.putfield 98, 3) := by decide +kernel
theorem dX3_readWord_72 : decode cX3_readWord 72 = .ok (.iconst 0, 1) := by decide +kernel
theorem dX3_readWord_73 : decode cX3_readWord 73 = .ok (.istore_n 1, 1) := by decide +kernel
theorem dX3_readWord_74 : decode cX3_readWord 74 = .ok (.iload_n 1, 1) := by decide +kernel
theorem dX3_readWord_75 : decode cX3_readWord 75 = .ok (.bipush 23, 2) := by decide +kernel
theorem dX3_readWord_77 : decode cX3_readWord 77 = .ok (.if_icmp .ge 37, 3) := by decide +kernel
theorem dX3_readWord_80 : decode cX3_readWord 80 = .ok (.aload_n 0, 1) := by decide +kernel
theorem dX3_readWord_81 : decode cX3_readWord 81 = .ok (.getfield 98, 3) := by decide +kernel
theorem dX3_readWord_84 : decode cX3_readWord 84 = .ok (.bipush 8, 2) := by decide +kernel
theorem dX3_readWord_86 : decode cX3_readWord 86 = .ok (.if_icmp .gt 28, 3) := by decide +kernel
theorem dX3_readWord_89 : decode cX3_readWord 89 = .ok (.aload_n 0, 1) := by decide +kernel
theorem dX3_readWord_90 : decode cX3_readWord 90 = .ok (.getfield 9, 3) := by decide +kernel
theorem dX3_readWord_93 : decode cX3_readWord 93 = .ok (.iload_n 1, 1) := by decide +kernel
theorem dX3_readWord_94 : decode cX3_readWord 94 = .ok (.laload, 1) := by decide +kernel
theorem dX3_readWord_95 : decode cX3_readWord 95 = .ok (.aload_n 0, 1) := by decide +kernel
theorem dX3_readWord_96 : decode cX3_readWord 96 = .ok (.getfield 94, 3) := by decide +kernel
theorem dX3_readWord_99 : decode cX3_readWord 99 = .ok (.lcmp, 1) := by decide +kernel
theorem dX3_readWord_100 : decode cX3_readWord 100 = .ok (.ifCond .ne 8, 3) := by decide +kernel
theorem dX3_readWord_103 : decode cX3_readWord 103 = .ok (.aload_n 0, 1) := by decide +kernel
theorem dX3_readWord_104 : decode cX3_readWord 104 = .ok (.iload_n 1, 1) := by decide +kernel
theorem dX3_readWord_105 : decode cX3_readWord 105 = .ok (.putfield 69, 3) := by decide +kernel
theorem dX3_readWord_108 : decode cX3_readWord 108 = .ok (.iinc 1 1, 3) := by decide +kernel
theorem dX3_readWord_111 : decode cX3_readWord 111 = .ok (.goto (-37), 3) := by decide +kernel
theorem dX3_readWord_114 : decode cX3_readWord 114 = .ok (.return_, 1) := by decide +kernel
theorem dX3_readNumber_0 : decode cX3_readNumber 0 = .ok (.aload_n 0, 1) := by decide +kernel
theorem dX3_readNumber_1 : decode cX3_readNumber 1 = .ok (.iconst 2, 1) := by decide +kernel
theorem dX3_readNumber_2 : decode cX3_readNumber 2 = .ok (.putfield 72, 3) := by decide +kernel
theorem dX3_readNumber_5 : decode cX3_readNumber 5 = .ok (.aload_n 0, 1) := by decide +kernel
theorem dX3_readNumber_6 : decode cX3_readNumber 6 = .ok (.iconst 0, 1) := by decide +kernel
theorem dX3_readNumber_7 : decode cX3_readNumber 7 = .ok (.putfield 91, 3) := by decide +kernel
theorem dX3_readNumber_10 : decode cX3_readNumber 10 = .ok (.aload_n 0, 1) := by decide +kernel
theorem dX3_readNumber_11 : decode cX3_readNumber 11 = .ok (.getfield 56, 3) := by decide +kernel
theorem dX3_readNumber_14 : decode cX3_readNumber 14 = .ok (.aload_n 0, 1) := by decide +kernel
theorem dX3_readNumber_15 : decode cX3_readNumber 15 = .ok (.getfield 53, 3) := by decide +kernel
theorem dX3_readNumber_18 : decode cX3_readNumber 18 = .ok (.if_icmp .ge 45, 3) := by decide +kernel
theorem dX3_readNumber_21 : decode cX3_readNumber 21 = .ok (.aload_n 0, 1) := by decide +kernel
theorem dX3_readNumber_22 : decode cX3_readNumber 22 = .ok (.invokevirtual 62, 3) := by decide +kernel
theorem dX3_readNumber_25 : decode cX3_readNumber 25 = .ok (.invokestatic 81, 3) := by decide +kernel
theorem dX3_readNumber_28 : decode cX3_readNumber 28 = .ok (.ifCond .eq 35, 3) := by decide +kernel
theorem dX3_readNumber_31 : decode cX3_readNumber 31 = .ok (.aload_n 0, 1) := by decide +kernel
theorem dX3_readNumber_32 : decode cX3_readNumber 32 = .ok (.aload_n 0, 1) := by decide +kernel
theorem dX3_readNumber_33 : decode cX3_readNumber 33 = .ok (.getfield 91, 3) := by decide +kernel
theorem dX3_readNumber_36 : decode cX3_readNumber 36 = .ok (.bipush 10, 2) := by decide +kernel
theorem dX3_readNumber_38 : decode cX3_readNumber 38 = .ok (.imul, 1) := by decide +kernel
theorem dX3_readNumber_39 : decode cX3_readNumber 39 = .ok (.aload_n 0, 1) := by decide +kernel
theorem dX3_readNumber_40 : decode cX3_readNumber 40 = .ok (.invokevirtual 62, 3) := by decide +kernel
theorem dX3_readNumber_43 : decode cX3_readNumber 43 = .ok (.bipush 48, 2) := by decide +kernel
theorem dX3_readNumber_45 : decode cX3_readNumber 45 = .ok (.isub, 1) := by decide +kernel
theorem dX3_readNumber_46 : decode cX3_readNumber 46 = .ok (.iadd, 1) := by decide +kernel
theorem dX3_readNumber_47 : decode cX3_readNumber 47 = .ok (.putfield 91, 3) := by decide +kernel
theorem dX3_readNumber_50 : decode cX3_readNumber 50 = .ok (.aload_n 0, 1) := by decide +kernel
theorem dX3_readNumber_51 : decode cX3_readNumber 51 = .ok (.dup, 1) := by decide +kernel
theorem dX3_readNumber_52 : decode cX3_readNumber 52 = .ok (.getfield 56, 3) := by decide +kernel
theorem dX3_readNumber_55 : decode cX3_readNumber 55 = .ok (.iconst 1, 1) := by decide +kernel
theorem dX3_readNumber_56 : decode cX3_readNumber 56 = .ok (.iadd, 1) := by decide +kernel
theorem dX3_readNumber_57 : decode cX3_readNumber 57 = .ok (.putfield 56, 3) := by decide +kernel
theorem dX3_readNumber_60 : decode cX3_readNumber 60 = .ok (.goto (-50), 3) := by decide +kernel
theorem dX3_readNumber_63 : decode cX3_readNumber 63 = .ok (.aload_n 0, 1) := by decide +kernel
theorem dX3_readNumber_64 : decode cX3_readNumber 64 = .ok (.getfield 56, 3) := by decide +kernel
theorem dX3_readNumber_67 : decode cX3_readNumber 67 = .ok (.aload_n 0, 1) := by decide +kernel
theorem dX3_readNumber_68 : decode cX3_readNumber 68 = .ok (.getfield 59, 3) := by decide +kernel
theorem dX3_readNumber_71 : decode cX3_readNumber 71 = .ok (.isub, 1) := by decide +kernel
theorem dX3_readNumber_72 : decode cX3_readNumber 72 = .ok (.iconst 4, 1) := by decide +kernel
theorem dX3_readNumber_73 : decode cX3_readNumber 73 = .ok (.if_icmp .le 11, 3) := by decide +kernel
theorem dX3_readNumber_76 : decode cX3_readNumber 76 = .ok (.aload_n 0, 1) := by decide +kernel
theorem dX3_readNumber_77 : decode cX3_readNumber 77 = .ok (.iconst 1, 1) := by decide +kernel
theorem dX3_readNumber_78 : decode cX3_readNumber 78 = .ok (.invokevirtual 88, 3) := by decide +kernel
theorem dX3_readNumber_81 : decode cX3_readNumber 81 = .ok (.ifCond .eq 7, 3) := by decide +kernel
theorem dX3_readNumber_84 : decode cX3_readNumber 84 = .ok (.iconst 1, 1) := by decide +kernel
theorem dX3_readNumber_85 : decode cX3_readNumber 85 = .ok (.goto 4, 3) := by decide +kernel
theorem dX3_readNumber_88 : decode cX3_readNumber 88 = .ok (.iconst 0, 1) := by decide +kernel
theorem dX3_readNumber_89 : decode cX3_readNumber 89 = .ok (.ireturn, 1) := by decide +kernel
theorem dX3_isEnd_0 : decode cX3_isEnd 0 = .ok (.aload_n 0, 1) := by decide +kernel
theorem dX3_isEnd_1 : decode cX3_isEnd 1 = .ok (.getfield 72, 3) := by decide +kernel
theorem dX3_isEnd_4 : decode cX3_isEnd 4 = .ok (.ifCond .ne 7, 3) := by decide +kernel
theorem dX3_isEnd_7 : decode cX3_isEnd 7 = .ok (.iconst 1, 1) := by decide +kernel
theorem dX3_isEnd_8 : decode cX3_isEnd 8 = .ok (.goto 4, 3) := by decide +kernel
theorem dX3_isEnd_11 : decode cX3_isEnd 11 = .ok (.iconst 0, 1) := by decide +kernel
theorem dX3_isEnd_12 : decode cX3_isEnd 12 = .ok (.ireturn, 1) := by decide +kernel
theorem dX3_isSign_0 : decode cX3_isSign 0 = .ok (.aload_n 0, 1) := by decide +kernel
theorem dX3_isSign_1 : decode cX3_isSign 1 = .ok (.getfield 72, 3) := by decide +kernel
theorem dX3_isSign_4 : decode cX3_isSign 4 = .ok (.iconst 3, 1) := by decide +kernel
theorem dX3_isSign_5 : decode cX3_isSign 5 = .ok (.if_icmp .ne 15, 3) := by decide +kernel
theorem dX3_isSign_8 : decode cX3_isSign 8 = .ok (.aload_n 0, 1) := by decide +kernel
theorem dX3_isSign_9 : decode cX3_isSign 9 = .ok (.getfield 91, 3) := by decide +kernel
theorem dX3_isSign_12 : decode cX3_isSign 12 = .ok (.iload_n 1, 1) := by decide +kernel
theorem dX3_isSign_13 : decode cX3_isSign 13 = .ok (.if_icmp .ne 7, 3) := by decide +kernel
theorem dX3_isSign_16 : decode cX3_isSign 16 = .ok (.iconst 1, 1) := by decide +kernel
theorem dX3_isSign_17 : decode cX3_isSign 17 = .ok (.goto 4, 3) := by decide +kernel
theorem dX3_isSign_20 : decode cX3_isSign 20 = .ok (.iconst 0, 1) := by decide +kernel
theorem dX3_isSign_21 : decode cX3_isSign 21 = .ok (.ireturn, 1) := by decide +kernel
theorem dX3_isName_0 : decode cX3_isName 0 = .ok (.aload_n 0, 1) := by decide +kernel
theorem dX3_isName_1 : decode cX3_isName 1 = .ok (.getfield 72, 3) := by decide +kernel
theorem dX3_isName_4 : decode cX3_isName 4 = .ok (.iconst 1, 1) := by decide +kernel
theorem dX3_isName_5 : decode cX3_isName 5 = .ok (.if_icmp .ne 24, 3) := by decide +kernel
theorem dX3_isName_8 : decode cX3_isName 8 = .ok (.aload_n 0, 1) := by decide +kernel
theorem dX3_isName_9 : decode cX3_isName 9 = .ok (.getfield 69, 3) := by decide +kernel
theorem dX3_isName_12 : decode cX3_isName 12 = .ok (.iconst (-1), 1) := by decide +kernel
theorem dX3_isName_13 : decode cX3_isName 13 = .ok (.if_icmp .ne 16, 3) := by decide +kernel
theorem dX3_isName_16 : decode cX3_isName 16 = .ok (.aload_n 0, 1) := by decide +kernel
theorem dX3_isName_17 : decode cX3_isName 17 = .ok (.getfield 98, 3) := by decide +kernel
theorem dX3_isName_20 : decode cX3_isName 20 = .ok (.bipush 8, 2) := by decide +kernel
theorem dX3_isName_22 : decode cX3_isName 22 = .ok (.if_icmp .gt 7, 3) := by decide +kernel
theorem dX3_isName_25 : decode cX3_isName 25 = .ok (.iconst 1, 1) := by decide +kernel
theorem dX3_isName_26 : decode cX3_isName 26 = .ok (.goto 4, 3) := by decide +kernel
theorem dX3_isName_29 : decode cX3_isName 29 = .ok (.iconst 0, 1) := by decide +kernel
theorem dX3_isName_30 : decode cX3_isName 30 = .ok (.ireturn, 1) := by decide +kernel
theorem dX3_wantSign_0 : decode cX3_wantSign 0 = .ok (.aload_n 0, 1) := by decide +kernel
theorem dX3_wantSign_1 : decode cX3_wantSign 1 = .ok (.invokevirtual 101, 3) := by decide +kernel
theorem dX3_wantSign_4 : decode cX3_wantSign 4 = .ok (.ifCond .ne 5, 3) := by decide +kernel
theorem dX3_wantSign_7 : decode cX3_wantSign 7 = .ok (.iconst 0, 1) := by decide +kernel
theorem dX3_wantSign_8 : decode cX3_wantSign 8 = .ok (.ireturn, 1) := by decide +kernel
theorem dX3_wantSign_9 : decode cX3_wantSign 9 = .ok (.aload_n 0, 1) := by decide +kernel
theorem dX3_wantSign_10 : decode cX3_wantSign 10 = .ok (.iload_n 1, 1) := by decide +kernel
theorem dX3_wantSign_11 : decode cX3_wantSign 11 = .ok (.invokevirtual 104, 3) := by decide +kernel
theorem dX3_wantSign_14 : decode cX3_wantSign 14 = .ok (.ifCond .ne 11, 3) := by decide +kernel
theorem dX3_wantSign_17 : decode cX3_wantSign 17 = .ok (.aload_n 0, 1) := by decide +kernel
theorem dX3_wantSign_18 : decode cX3_wantSign 18 = .ok (.iconst 2, 1) := by decide +kernel
theorem dX3_wantSign_19 : decode cX3_wantSign 19 = .ok (.invokevirtual 88, 3) := by decide +kernel
theorem dX3_wantSign_22 : decode cX3_wantSign 22 = .ok (.ifCond .eq 7, 3) := by decide +kernel
theorem dX3_wantSign_25 : decode cX3_wantSign 25 = .ok (.iconst 1, 1) := by decide +kernel
theorem dX3_wantSign_26 : decode cX3_wantSign 26 = .ok (.goto 4, 3) := by decide +kernel
theorem dX3_wantSign_29 : decode cX3_wantSign 29 = .ok (.iconst 0, 1) := by decide +kernel
theorem dX3_wantSign_30 : decode cX3_wantSign 30 = .ok (.ireturn, 1) := by decide +kernel
theorem dX3_wantCompare_0 : decode cX3_wantCompare 0 = .ok (.aload_n 0, 1) := by decide +kernel
theorem dX3_wantCompare_1 : decode cX3_wantCompare 1 = .ok (.invokevirtual 101, 3) := by decide +kernel
theorem dX3_wantCompare_4 : decode cX3_wantCompare 4 = .ok (.ifCond .ne 5, 3) := by decide +kernel
theorem dX3_wantCompare_7 : decode cX3_wantCompare 7 = .ok (.iconst 0, 1) := by decide +kernel
theorem dX3_wantCompare_8 : decode cX3_wantCompare 8 = .ok (.ireturn, 1) := by decide +kernel
theorem dX3_wantCompare_9 : decode cX3_wantCompare 9 = .ok (.aload_n 0, 1) := by decide +kernel
theorem dX3_wantCompare_10 : decode cX3_wantCompare 10 = .ok (.bipush 60, 2) := by decide +kernel
theorem dX3_wantCompare_12 : decode cX3_wantCompare 12 = .ok (.invokevirtual 104, 3) := by decide +kernel
theorem dX3_wantCompare_15 : decode cX3_wantCompare 15 = .ok (.ifCond .ne 29, 3) := by decide +kernel
theorem dX3_wantCompare_18 : decode cX3_wantCompare 18 = .ok (.aload_n 0, 1) := by decide +kernel
theorem dX3_wantCompare_19 : decode cX3_wantCompare 19 = .ok (.bipush 62, 2) := by decide +kernel
theorem dX3_wantCompare_21 : decode cX3_wantCompare 21 = .ok (.invokevirtual 104, 3) := by decide +kernel
theorem dX3_wantCompare_24 : decode cX3_wantCompare 24 = .ok (.ifCond .ne 20, 3) := by decide +kernel
theorem dX3_wantCompare_27 : decode cX3_wantCompare 27 = .ok (.aload_n 0, 1) := by decide +kernel
theorem dX3_wantCompare_28 : decode cX3_wantCompare 28 = .ok (.bipush 61, 2) := by decide +kernel
theorem dX3_wantCompare_30 : decode cX3_wantCompare 30 = .ok (.invokevirtual 104, 3) := by decide +kernel
theorem dX3_wantCompare_33 : decode cX3_wantCompare 33 = .ok (.ifCond .ne 11, 3) := by decide +kernel
theorem dX3_wantCompare_36 : decode cX3_wantCompare 36 = .ok (.aload_n 0, 1) := by decide +kernel
theorem dX3_wantCompare_37 : decode cX3_wantCompare 37 = .ok (.iconst 2, 1) := by decide +kernel
theorem dX3_wantCompare_38 : decode cX3_wantCompare 38 = .ok (.invokevirtual 88, 3) := by decide +kernel
theorem dX3_wantCompare_41 : decode cX3_wantCompare 41 = .ok (.ifCond .eq 7, 3) := by decide +kernel
theorem dX3_wantCompare_44 : decode cX3_wantCompare 44 = .ok (.iconst 1, 1) := by decide +kernel
theorem dX3_wantCompare_45 : decode cX3_wantCompare 45 = .ok (.goto 4, 3) := by decide +kernel
theorem dX3_wantCompare_48 : decode cX3_wantCompare 48 = .ok (.iconst 0, 1) := by decide +kernel
theorem dX3_wantCompare_49 : decode cX3_wantCompare 49 = .ok (.ireturn, 1) := by decide +kernel
theorem dX3_wantWord_0 : decode cX3_wantWord 0 = .ok (.aload_n 0, 1) := by decide +kernel
theorem dX3_wantWord_1 : decode cX3_wantWord 1 = .ok (.invokevirtual 101, 3) := by decide +kernel
theorem dX3_wantWord_4 : decode cX3_wantWord 4 = .ok (.ifCond .ne 5, 3) := by decide +kernel
theorem dX3_wantWord_7 : decode cX3_wantWord 7 = .ok (.iconst 0, 1) := by decide +kernel
theorem dX3_wantWord_8 : decode cX3_wantWord 8 = .ok (.ireturn, 1) := by decide +kernel
theorem dX3_wantWord_9 : decode cX3_wantWord 9 = .ok (.aload_n 0, 1) := by decide +kernel
theorem dX3_wantWord_10 : decode cX3_wantWord 10 = .ok (.getfield 69, 3) := by decide +kernel
theorem dX3_wantWord_13 : decode cX3_wantWord 13 = .ok (.iload_n 1, 1) := by decide +kernel
theorem dX3_wantWord_14 : decode cX3_wantWord 14 = .ok (.if_icmp .eq 11, 3) := by decide +kernel
theorem dX3_wantWord_17 : decode cX3_wantWord 17 = .ok (.aload_n 0, 1) := by decide +kernel
theorem dX3_wantWord_18 : decode cX3_wantWord 18 = .ok (.iconst 2, 1) := by decide +kernel
theorem dX3_wantWord_19 : decode cX3_wantWord 19 = .ok (.invokevirtual 88, 3) := by decide +kernel
theorem dX3_wantWord_22 : decode cX3_wantWord 22 = .ok (.ifCond .eq 7, 3) := by decide +kernel
theorem dX3_wantWord_25 : decode cX3_wantWord 25 = .ok (.iconst 1, 1) := by decide +kernel
theorem dX3_wantWord_26 : decode cX3_wantWord 26 = .ok (.goto 4, 3) := by decide +kernel
theorem dX3_wantWord_29 : decode cX3_wantWord 29 = .ok (.iconst 0, 1) := by decide +kernel
theorem dX3_wantWord_30 : decode cX3_wantWord 30 = .ok (.ireturn, 1) := by decide +kernel
theorem dX3_wantName_0 : decode cX3_wantName 0 = .ok (.aload_n 0, 1) := by decide +kernel
theorem dX3_wantName_1 : decode cX3_wantName 1 = .ok (.invokevirtual 101, 3) := by decide +kernel
theorem dX3_wantName_4 : decode cX3_wantName 4 = .ok (.ifCond .ne 5, 3) := by decide +kernel
theorem dX3_wantName_7 : decode cX3_wantName 7 = .ok (.iconst 0, 1) := by decide +kernel
theorem dX3_wantName_8 : decode cX3_wantName 8 = .ok (.ireturn, 1) := by decide +kernel
theorem dX3_wantName_9 : decode cX3_wantName 9 = .ok (.aload_n 0, 1) := by decide +kernel
theorem dX3_wantName_10 : decode cX3_wantName 10 = .ok (.invokevirtual 107, 3) := by decide +kernel
theorem dX3_wantName_13 : decode cX3_wantName 13 = .ok (.ifCond .ne 11, 3) := by decide +kernel
theorem dX3_wantName_16 : decode cX3_wantName 16 = .ok (.aload_n 0, 1) := by decide +kernel
theorem dX3_wantName_17 : decode cX3_wantName 17 = .ok (.iconst 2, 1) := by decide +kernel
theorem dX3_wantName_18 : decode cX3_wantName 18 = .ok (.invokevirtual 88, 3) := by decide +kernel
theorem dX3_wantName_21 : decode cX3_wantName 21 = .ok (.ifCond .eq 7, 3) := by decide +kernel
theorem dX3_wantName_24 : decode cX3_wantName 24 = .ok (.iconst 1, 1) := by decide +kernel
theorem dX3_wantName_25 : decode cX3_wantName 25 = .ok (.goto 4, 3) := by decide +kernel
theorem dX3_wantName_28 : decode cX3_wantName 28 = .ok (.iconst 0, 1) := by decide +kernel
theorem dX3_wantName_29 : decode cX3_wantName 29 = .ok (.ireturn, 1) := by decide +kernel
theorem dX3_wantNumber_0 : decode cX3_wantNumber 0 = .ok (.aload_n 0, 1) := by decide +kernel
theorem dX3_wantNumber_1 : decode cX3_wantNumber 1 = .ok (.invokevirtual 101, 3) := by decide +kernel
theorem dX3_wantNumber_4 : decode cX3_wantNumber 4 = .ok (.ifCond .ne 5, 3) := by decide +kernel
theorem dX3_wantNumber_7 : decode cX3_wantNumber 7 = .ok (.iconst 0, 1) := by decide +kernel
theorem dX3_wantNumber_8 : decode cX3_wantNumber 8 = .ok (.ireturn, 1) := by decide +kernel
theorem dX3_wantNumber_9 : decode cX3_wantNumber 9 = .ok (.aload_n 0, 1) := by decide +kernel
theorem dX3_wantNumber_10 : decode cX3_wantNumber 10 = .ok (.getfield 72, 3) := by decide +kernel
theorem dX3_wantNumber_13 : decode cX3_wantNumber 13 = .ok (.iconst 2, 1) := by decide +kernel
theorem dX3_wantNumber_14 : decode cX3_wantNumber 14 = .ok (.if_icmp .eq 9, 3) := by decide +kernel
theorem dX3_wantNumber_17 : decode cX3_wantNumber 17 = .ok (.aload_n 0, 1) := by decide +kernel
theorem dX3_wantNumber_18 : decode cX3_wantNumber 18 = .ok (.iconst 2, 1) := by decide +kernel
theorem dX3_wantNumber_19 : decode cX3_wantNumber 19 = .ok (.invokevirtual 88, 3) := by decide +kernel
theorem dX3_wantNumber_22 : decode cX3_wantNumber 22 = .ok (.ireturn, 1) := by decide +kernel
theorem dX3_wantNumber_23 : decode cX3_wantNumber 23 = .ok (.aload_n 0, 1) := by decide +kernel
theorem dX3_wantNumber_24 : decode cX3_wantNumber 24 = .ok (.getfield 91, 3) := by decide +kernel
theorem dX3_wantNumber_27 : decode cX3_wantNumber 27 = .ok (.iload_n 1, 1) := by decide +kernel
theorem dX3_wantNumber_28 : decode cX3_wantNumber 28 = .ok (.if_icmp .lt 11, 3) := by decide +kernel
theorem dX3_wantNumber_31 : decode cX3_wantNumber 31 = .ok (.aload_n 0, 1) := by decide +kernel
theorem dX3_wantNumber_32 : decode cX3_wantNumber 32 = .ok (.getfield 91, 3) := by decide +kernel
theorem dX3_wantNumber_35 : decode cX3_wantNumber 35 = .ok (.iload_n 2, 1) := by decide +kernel
theorem dX3_wantNumber_36 : decode cX3_wantNumber 36 = .ok (.if_icmp .le 11, 3) := by decide +kernel
theorem dX3_wantNumber_39 : decode cX3_wantNumber 39 = .ok (.aload_n 0, 1) := by decide +kernel
theorem dX3_wantNumber_40 : decode cX3_wantNumber 40 = .ok (.iconst 4, 1) := by decide +kernel
theorem dX3_wantNumber_41 : decode cX3_wantNumber 41 = .ok (.invokevirtual 88, 3) := by decide +kernel
theorem dX3_wantNumber_44 : decode cX3_wantNumber 44 = .ok (.ifCond .eq 7, 3) := by decide +kernel
theorem dX3_wantNumber_47 : decode cX3_wantNumber 47 = .ok (.iconst 1, 1) := by decide +kernel
theorem dX3_wantNumber_48 : decode cX3_wantNumber 48 = .ok (.goto 4, 3) := by decide +kernel
theorem dX3_wantNumber_51 : decode cX3_wantNumber 51 = .ok (.iconst 0, 1) := by decide +kernel
theorem dX3_wantNumber_52 : decode cX3_wantNumber 52 = .ok (.ireturn, 1) := by decide +kernel
theorem dX4_init_0 : decode cX4_init 0 = .ok (.aload_n 0, 1) := by decide +kernel
theorem dX4_init_1 : decode cX4_init 1 = .ok (.invokespecial 5, 3) := by decide +kernel
theorem dX4_init_4 : decode cX4_init 4 = .ok (.aload_n 0, 1) := by decide +kernel
theorem dX4_init_5 : decode cX4_init 5 = .ok (.sipush 360, 3) := by decide +kernel
theorem dX4_init_8 : decode cX4_init 8 = .ok (.newarray .int, 2) := by decide +kernel
theorem dX4_init_10 : decode cX4_init 10 = .ok (.putfield 11, 3) := by decide +kernel
theorem dX4_init_13 : decode cX4_init 13 = .ok (.return_, 1) := by decide +kernel
theorem dX4_clear_0 : decode cX4_clear 0 = .ok (.aload_n 0, 1) := by decide +kernel
theorem dX4_clear_1 : decode cX4_clear 1 = .ok (.iconst 0, 1) := by decide +kernel
theorem dX4_clear_2 : decode cX4_clear 2 = .ok (.putfield 15, 3) := by decide +kernel
theorem dX4_clear_5 : decode cX4_clear 5 = .ok (.aload_n 0, 1) := by decide +kernel
theorem dX4_clear_6 : decode cX4_clear 6 = .ok (.iconst 0, 1) := by decide +kernel
theorem dX4_clear_7 : decode cX4_clear 7 = .ok (.putfield 19, 3) := by decide +kernel
theorem dX4_clear_10 : decode cX4_clear 10 = .ok (.aload_n 0, 1) := by decide +kernel
theorem dX4_clear_11 : decode cX4_clear 11 = .ok (.iconst 0, 1) := by decide +kernel
theorem dX4_clear_12 : decode cX4_clear 12 = .ok (.putfield 22, 3) := by decide +kernel
theorem dX4_clear_15 : decode cX4_clear 15 = .ok (.return_, 1) := by decide +kernel
theorem dX4_copyFrom_0 : decode cX4_copyFrom 0 = .ok (.aload_n 1, 1) := by decide +kernel
theorem dX4_copyFrom_1 : decode cX4_copyFrom 1 = .ok (.getfield 11, 3) := by decide +kernel
theorem dX4_copyFrom_4 : decode cX4_copyFrom 4 = .ok (.iconst 0, 1) := by decide +kernel
theorem dX4_copyFrom_5 : decode cX4_copyFrom 5 = .ok (.aload_n 0, 1) := by decide +kernel
theorem dX4_copyFrom_6 : decode cX4_copyFrom 6 = .ok (.getfield 11, 3) := by decide +kernel
theorem dX4_copyFrom_9 : decode cX4_copyFrom 9 = .ok (.iconst 0, 1) := by decide +kernel
theorem dX4_copyFrom_10 : decode cX4_copyFrom 10 = .ok (.aload_n 0, 1) := by decide +kernel
theorem dX4_copyFrom_11 : decode cX4_copyFrom 11 = .ok (.getfield 11, 3) := by decide +kernel
theorem dX4_copyFrom_14 : decode cX4_copyFrom 14 = .ok (.arraylength, 1) := by decide +kernel
theorem dX4_copyFrom_15 : decode cX4_copyFrom 15 = .ok (.invokestatic 26, 3) := by decide +kernel
theorem dX4_copyFrom_18 : decode cX4_copyFrom 18 = .ok (.aload_n 0, 1) := by decide +kernel
theorem dX4_copyFrom_19 : decode cX4_copyFrom 19 = .ok (.aload_n 1, 1) := by decide +kernel
theorem dX4_copyFrom_20 : decode cX4_copyFrom 20 = .ok (.getfield 15, 3) := by decide +kernel
theorem dX4_copyFrom_23 : decode cX4_copyFrom 23 = .ok (.putfield 15, 3) := by decide +kernel
theorem dX4_copyFrom_26 : decode cX4_copyFrom 26 = .ok (.aload_n 0, 1) := by decide +kernel
theorem dX4_copyFrom_27 : decode cX4_copyFrom 27 = .ok (.aload_n 1, 1) := by decide +kernel
theorem dX4_copyFrom_28 : decode cX4_copyFrom 28 = .ok (.getfield 19, 3) := by decide +kernel
theorem dX4_copyFrom_31 : decode cX4_copyFrom 31 = .ok (.putfield 19, 3) := by decide +kernel
theorem dX4_copyFrom_34 : decode cX4_copyFrom 34 = .ok (.aload_n 0, 1) := by decide +kernel
theorem dX4_copyFrom_35 : decode cX4_copyFrom 35 = .ok (.aload_n 1, 1) := by decide +kernel
theorem dX4_copyFrom_36 : decode cX4_copyFrom 36 = .ok (.getfield 22, 3) := by decide +kernel
theorem dX4_copyFrom_39 : decode cX4_copyFrom 39 = .ok (.putfield 22, 3) := by decide +kernel
theorem dX4_copyFrom_42 : decode cX4_copyFrom 42 = .ok (.return_, 1) := by decide +kernel
theorem dX4_part_0 : decode cX4_part 0 = .ok (.iload_n 1, 1) := by decide +kernel
theorem dX4_part_1 : decode cX4_part 1 = .ok (.ifCond .lt 19, 3) := by decide +kernel
theorem dX4_part_4 : decode cX4_part 4 = .ok (.iload_n 1, 1) := by decide +kernel
theorem dX4_part_5 : decode cX4_part 5 = .ok (.bipush 60, 2) := by decide +kernel
theorem dX4_part_7 : decode cX4_part 7 = .ok (.if_icmp .ge 13, 3) := by decide +kernel
theorem dX4_part_10 : decode cX4_part 10 = .ok (.iload_n 2, 1) := by decide +kernel
theorem dX4_part_11 : decode cX4_part 11 = .ok (.ifCond .lt 9, 3) := by decide +kernel
theorem dX4_part_14 : decode cX4_part 14 = .ok (.iload_n 2, 1) := by decide +kernel
theorem dX4_part_15 : decode cX4_part 15 = .ok (.bipush 6, 2) := by decide +kernel
theorem dX4_part_17 : decode cX4_part 17 = .ok (.if_icmp .lt 5, 3) := by decide +kernel
theorem dX4_part_20 : decode cX4_part 20 = .ok (.iconst (-1), 1) := by decide +kernel
theorem dX4_part_21 : decode cX4_part 21 = .ok (.ireturn, 1) := by decide +kernel
theorem dX4_part_22 : decode cX4_part 22 = .ok (.aload_n 0, 1) := by decide +kernel
theorem dX4_part_23 : decode cX4_part 23 = .ok (.getfield 11, 3) := by decide +kernel
theorem dX4_part_26 : decode cX4_part 26 = .ok (.iload_n 1, 1) := by decide +kernel
theorem dX4_part_27 : decode cX4_part 27 = .ok (.bipush 6, 2) := by decide +kernel
theorem dX4_part_29 : decode cX4_part 29 = .ok (.imul, 1) := by decide +kernel
theorem dX4_part_30 : decode cX4_part 30 = .ok (.iload_n 2, 1) := by decide +kernel
theorem dX4_part_31 : decode cX4_part 31 = .ok (.iadd, 1) := by decide +kernel
theorem dX4_part_32 : decode cX4_part 32 = .ok (.iaload, 1) := by decide +kernel
theorem dX4_part_33 : decode cX4_part 33 = .ok (.ireturn, 1) := by decide +kernel
theorem dX4_setPart_0 : decode cX4_setPart 0 = .ok (.iload_n 1, 1) := by decide +kernel
theorem dX4_setPart_1 : decode cX4_setPart 1 = .ok (.ifCond .lt 31, 3) := by decide +kernel
theorem dX4_setPart_4 : decode cX4_setPart 4 = .ok (.iload_n 1, 1) := by decide +kernel
theorem dX4_setPart_5 : decode cX4_setPart 5 = .ok (.bipush 60, 2) := by decide +kernel
theorem dX4_setPart_7 : decode cX4_setPart 7 = .ok (.if_icmp .ge 25, 3) := by decide +kernel
theorem dX4_setPart_10 : decode cX4_setPart 10 = .ok (.iload_n 2, 1) := by decide +kernel
theorem dX4_setPart_11 : decode cX4_setPart 11 = .ok (.ifCond .lt 21, 3) := by decide +kernel
theorem dX4_setPart_14 : decode cX4_setPart 14 = .ok (.iload_n 2, 1) := by decide +kernel
theorem dX4_setPart_15 : decode cX4_setPart 15 = .ok (.bipush 6, 2) := by decide +kernel
theorem dX4_setPart_17 : decode cX4_setPart 17 = .ok (.if_icmp .ge 15, 3) := by decide +kernel
theorem dX4_setPart_20 : decode cX4_setPart 20 = .ok (.aload_n 0, 1) := by decide +kernel
theorem dX4_setPart_21 : decode cX4_setPart 21 = .ok (.getfield 11, 3) := by decide +kernel
theorem dX4_setPart_24 : decode cX4_setPart 24 = .ok (.iload_n 1, 1) := by decide +kernel
theorem dX4_setPart_25 : decode cX4_setPart 25 = .ok (.bipush 6, 2) := by decide +kernel
theorem dX4_setPart_27 : decode cX4_setPart 27 = .ok (.imul, 1) := by decide +kernel
theorem dX4_setPart_28 : decode cX4_setPart 28 = .ok (.iload_n 2, 1) := by decide +kernel
theorem dX4_setPart_29 : decode cX4_setPart 29 = .ok (.iadd, 1) := by decide +kernel
theorem dX4_setPart_30 : decode cX4_setPart 30 = .ok (.iload_n 3, 1) := by decide +kernel
theorem dX4_setPart_31 : decode cX4_setPart 31 = .ok (.iastore, 1) := by decide +kernel
theorem dX4_setPart_32 : decode cX4_setPart 32 = .ok (.return_, 1) := by decide +kernel
theorem dX4_addLine_0 : decode cX4_addLine 0 = .ok (.aload_n 0, 1) := by decide +kernel
theorem dX4_addLine_1 : decode cX4_addLine 1 = .ok (.getfield 15, 3) := by decide +kernel
theorem dX4_addLine_4 : decode cX4_addLine 4 = .ok (.istore_n 2, 1) := by decide +kernel
theorem dX4_addLine_5 : decode cX4_addLine 5 = .ok (.iload_n 2, 1) := by decide +kernel
theorem dX4_addLine_6 : decode cX4_addLine 6 = .ok (.bipush 60, 2) := by decide +kernel
theorem dX4_addLine_8 : decode cX4_addLine 8 = .ok (.if_icmp .ge 20, 3) := by decide +kernel
theorem dX4_addLine_11 : decode cX4_addLine 11 = .ok (.aload_n 0, 1) := by decide +kernel
theorem dX4_addLine_12 : decode cX4_addLine 12 = .ok (.dup, 1) := by decide +kernel
theorem dX4_addLine_13 : decode cX4_addLine 13 = .ok (.getfield 15, 3) := by decide +kernel
theorem dX4_addLine_16 : decode cX4_addLine 16 = .ok (.iconst 1, 1) := by decide +kernel
theorem dX4_addLine_17 : decode cX4_addLine 17 = .ok (.iadd, 1) := by decide +kernel
theorem dX4_addLine_18 : decode cX4_addLine 18 = .ok (.putfield 15, 3) := by decide +kernel
theorem dX4_addLine_21 : decode cX4_addLine 21 = .ok (.aload_n 0, 1) := by decide +kernel
theorem dX4_addLine_22 : decode cX4_addLine 22 = .ok (.iload_n 2, 1) := by decide +kernel
theorem dX4_addLine_23 : decode cX4_addLine 23 = .ok (.iconst 0, 1) := by decide +kernel
theorem dX4_addLine_24 : decode cX4_addLine 24 = .ok (.iload_n 1, 1) := by decide +kernel
theorem dX4_addLine_25 : decode cX4_addLine 25 = .ok (.invokevirtual 32, 3) := by decide +kernel
theorem dX4_addLine_28 : decode cX4_addLine 28 = .ok (.iload_n 2, 1) := by decide +kernel
theorem dX4_addLine_29 : decode cX4_addLine 29 = .ok (.ireturn, 1) := by decide +kernel
theorem dX5_init_0 : decode cX5_init 0 = .ok (.aload_n 0, 1) := by decide +kernel
theorem dX5_init_1 : decode cX5_init 1 = .ok (.invokespecial 3, 3) := by decide +kernel
theorem dX5_init_4 : decode cX5_init 4 = .ok (.aload_n 0, 1) := by decide +kernel
theorem dX5_init_5 : decode cX5_init 5 = .ok (.iconst 3, 1) := by decide +kernel
theorem dX5_init_6 : decode cX5_init 6 = .ok (.newarray .int, 2) := by decide +kernel
theorem dX5_init_8 : decode cX5_init 8 = .ok (.putfield 11, 3) := by decide +kernel
theorem dX5_init_11 : decode cX5_init 11 = .ok (.return_, 1) := by decide +kernel
theorem dX5_take_0 : decode cX5_take 0 = .ok (.aload_n 3, 1) := by decide +kernel
theorem dX5_take_1 : decode cX5_take 1 = .ok (.invokevirtual 15, 3) := by decide +kernel
theorem dX5_take_4 : decode cX5_take 4 = .ok (.aload_n 3, 1) := by decide +kernel
theorem dX5_take_5 : decode cX5_take 5 = .ok (.iconst 1, 1) := by decide +kernel
theorem dX5_take_6 : decode cX5_take 6 = .ok (.putfield 20, 3) := by decide +kernel
theorem dX5_take_9 : decode cX5_take 9 = .ok (.aload_n 0, 1) := by decide +kernel
theorem dX5_take_10 : decode cX5_take 10 = .ok (.iconst 0, 1) := by decide +kernel
theorem dX5_take_11 : decode cX5_take 11 = .ok (.putfield 24, 3) := by decide +kernel
theorem dX5_take_14 : decode cX5_take 14 = .ok (.iconst 0, 1) := by decide +kernel
theorem dX5_take_15 : decode cX5_take 15 = .ok (.istore 4, 2) := by decide +kernel
theorem dX5_take_17 : decode cX5_take 17 = .ok (.iload 4, 2) := by decide +kernel
theorem dX5_take_19 : decode cX5_take 19 = .ok (.sipush 300, 3) := by decide +kernel
theorem dX5_take_22 : decode cX5_take 22 = .ok (.if_icmp .gt 80, 3) := by decide +kernel
theorem dX5_take_25 : decode cX5_take 25 = .ok (.aload_n 1, 1) := by decide +kernel
theorem dX5_take_26 : decode cX5_take 26 = .ok (.invokevirtual 28, 3) := by decide +kernel
theorem dX5_take_29 : decode cX5_take 29 = .ok (.ifCond .ne 5, 3) := by decide +kernel
theorem dX5_take_32 : decode cX5_take 32 = .ok (.iconst 0, 1) := by decide +kernel
theorem dX5_take_33 : decode cX5_take 33 = .ok (.ireturn, 1) := by decide +kernel
theorem dX5_take_34 : decode cX5_take 34 = .ok (.aload_n 1, 1) := by decide +kernel
theorem dX5_take_35 : decode cX5_take 35 = .ok (.invokevirtual 34, 3) := by decide +kernel
theorem dX5_take_38 : decode cX5_take 38 = .ok (.ifCond .eq 24, 3) := by decide +kernel
theorem dX5_take_41 : decode cX5_take 41 = .ok (.aload_n 0, 1) := by decide +kernel
theorem dX5_take_42 : decode cX5_take 42 = .ok (.getfield 24, 3) := by decide +kernel
theorem dX5_take_45 : decode cX5_take 45 = .ok (.ifCond .eq 11, 3) := by decide +kernel
theorem dX5_take_48 : decode cX5_take 48 = .ok (.aload_n 1, 1) := by decide +kernel
theorem dX5_take_49 : decode cX5_take 49 = .ok (.iconst 2, 1) := by decide +kernel
theorem dX5_take_50 : decode cX5_take 50 = .ok (.invokevirtual 37, 3) := by decide +kernel
theorem dX5_take_53 : decode cX5_take 53 = .ok (.ifCond .eq 7, 3) := by decide +kernel
theorem dX5_take_56 : decode cX5_take 56 = .ok (.iconst 1, 1) := by decide +kernel
theorem dX5_take_57 : decode cX5_take 57 = .ok (.goto 4, 3) := by decide +kernel
theorem dX5_take_60 : decode cX5_take 60 = .ok (.iconst 0, 1) := by decide +kernel
theorem dX5_take_61 : decode cX5_take 61 = .ok (.ireturn, 1) := by decide +kernel
theorem dX5_take_62 : decode cX5_take 62 = .ok (.aload_n 1, 1) := by decide +kernel
theorem dX5_take_63 : decode cX5_take 63 = .ok (.getfield 41, 3) := by decide +kernel
theorem dX5_take_66 : decode cX5_take 66 = .ok (.bipush 21, 2) := by decide +kernel
theorem dX5_take_68 : decode cX5_take 68 = .ok (.if_icmp .ne 12, 3) := by decide +kernel
theorem dX5_take_71 : decode cX5_take 71 = .ok (.aload_n 0, 1) := by decide +kernel
theorem dX5_take_72 : decode cX5_take 72 = .ok (.aload_n 1, 1) := by decide +kernel
theorem dX5_take_73 : decode cX5_take 73 = .ok (.aload_n 3, 1) := by decide +kernel
theorem dX5_take_74 : decode cX5_take 74 = .ok (.invokevirtual 44, 3) := by decide +kernel
theorem dX5_take_77 : decode cX5_take 77 = .ok (.goto 10, 3) := by decide +kernel
theorem dX5_take_80 : decode cX5_take 80 = .ok (.aload_n 0, 1) := by decide +kernel
theorem dX5_take_81 : decode cX5_take 81 = .ok (.aload_n 1, 1) := by decide +kernel
theorem dX5_take_82 : decode cX5_take 82 = .ok (.aload_n 2, 1) := by decide +kernel
theorem dX5_take_83 : decode cX5_take 83 = .ok (.aload_n 3, 1) := by decide +kernel
theorem dX5_take_84 : decode cX5_take 84 = .ok (.invokevirtual 48, 3) := by decide +kernel
theorem dX5_take_87 : decode cX5_take 87 = .ok (.istore 5, 2) := by decide +kernel
theorem dX5_take_89 : decode cX5_take 89 = .ok (.iload 5, 2) := by decide +kernel
theorem dX5_take_91 : decode cX5_take 91 = .ok (.ifCond .ne 5, 3) := by decide +kernel
theorem dX5_take_94 : decode cX5_take 94 = .ok (.iconst 0, 1) := by decide +kernel
theorem dX5_take_95 : decode cX5_take 95 = .ok (.ireturn, 1) := by decide +kernel
theorem dX5_take_96 : decode cX5_take 96 = .ok (.iinc 4 1, 3) := by decide +kernel
theorem dX5_take_99 : decode cX5_take 99 = .ok (.goto (-82), 3) := by decide +kernel
theorem dX5_take_102 : decode cX5_take 102 = .ok (.aload_n 1, 1) := by decide +kernel
theorem dX5_take_103 : decode cX5_take 103 = .ok (.iconst 2, 1) := by decide +kernel
theorem dX5_take_104 : decode cX5_take 104 = .ok (.invokevirtual 37, 3) := by decide +kernel
theorem dX5_take_107 : decode cX5_take 107 = .ok (.ireturn, 1) := by decide +kernel
theorem dX5_takeEnd_0 : decode cX5_takeEnd 0 = .ok (.aload_n 0, 1) := by decide +kernel
theorem dX5_takeEnd_1 : decode cX5_takeEnd 1 = .ok (.getfield 24, 3) := by decide +kernel
theorem dX5_takeEnd_4 : decode cX5_takeEnd 4 = .ok (.ifCond .le 11, 3) := by decide +kernel
theorem dX5_takeEnd_7 : decode cX5_takeEnd 7 = .ok (.aload_n 0, 1) := by decide +kernel
theorem dX5_takeEnd_8 : decode cX5_takeEnd 8 = .ok (.getfield 24, 3) := by decide +kernel
theorem dX5_takeEnd_11 : decode cX5_takeEnd 11 = .ok (.iconst 3, 1) := by decide +kernel
theorem dX5_takeEnd_12 : decode cX5_takeEnd 12 = .ok (.if_icmp .le 9, 3) := by decide +kernel
theorem dX5_takeEnd_15 : decode cX5_takeEnd 15 = .ok (.aload_n 1, 1) := by decide +kernel
theorem dX5_takeEnd_16 : decode cX5_takeEnd 16 = .ok (.iconst 2, 1) := by decide +kernel
theorem dX5_takeEnd_17 : decode cX5_takeEnd 17 = .ok (.invokevirtual 37, 3) := by decide +kernel
theorem dX5_takeEnd_20 : decode cX5_takeEnd 20 = .ok (.ireturn, 1) := by decide +kernel
theorem dX5_takeEnd_21 : decode cX5_takeEnd 21 = .ok (.aload_n 0, 1) := by decide +kernel
theorem dX5_takeEnd_22 : decode cX5_takeEnd 22 = .ok (.dup, 1) := by decide +kernel
theorem dX5_takeEnd_23 : decode cX5_takeEnd 23 = .ok (.getfield 24, 3) := by decide +kernel
theorem dX5_takeEnd_26 : decode cX5_takeEnd 26 = .ok (.iconst 1, 1) := by decide +kernel
theorem dX5_takeEnd_27 : decode cX5_takeEnd 27 = .ok (.isub, 1) := by decide +kernel
theorem dX5_takeEnd_28 : decode cX5_takeEnd 28 = .ok (.putfield 24, 3) := by decide +kernel
theorem dX5_takeEnd_31 : decode cX5_takeEnd 31 = .ok (.aload_n 2, 1) := by decide +kernel
theorem dX5_takeEnd_32 : decode cX5_takeEnd 32 = .ok (.bipush 21, 2) := by decide +kernel
theorem dX5_takeEnd_34 : decode cX5_takeEnd 34 = .ok (.invokevirtual 52, 3) := by decide +kernel
theorem dX5_takeEnd_37 : decode cX5_takeEnd 37 = .ok (.istore_n 3, 1) := by decide +kernel
theorem dX5_takeEnd_38 : decode cX5_takeEnd 38 = .ok (.aload_n 2, 1) := by decide +kernel
theorem dX5_takeEnd_39 : decode cX5_takeEnd 39 = .ok (.iload_n 3, 1) := by decide +kernel
theorem dX5_takeEnd_40 : decode cX5_takeEnd 40 = .ok (.iconst 5, 1) := by decide +kernel
theorem dX5_takeEnd_41 : decode cX5_takeEnd 41 = .ok (.aload_n 0, 1) := by decide +kernel
theorem dX5_takeEnd_42 : decode cX5_takeEnd 42 = .ok (.getfield 11, 3) := by decide +kernel
theorem dX5_takeEnd_45 : decode cX5_takeEnd 45 = .ok (.aload_n 0, 1) := by decide +kernel
theorem dX5_takeEnd_46 : decode cX5_takeEnd 46 = .ok (.getfield 24, 3) := by decide +kernel
theorem dX5_takeEnd_49 : decode cX5_takeEnd 49 = .ok (.iaload, 1) := by decide +kernel
theorem dX5_takeEnd_50 : decode cX5_takeEnd 50 = .ok (.invokevirtual 56, 3) := by decide +kernel
theorem dX5_takeEnd_53 : decode cX5_takeEnd 53 = .ok (.aload_n 2, 1) := by decide +kernel
theorem dX5_takeEnd_54 : decode cX5_takeEnd 54 = .ok (.aload_n 0, 1) := by decide +kernel
theorem dX5_takeEnd_55 : decode cX5_takeEnd 55 = .ok (.getfield 11, 3) := by decide +kernel
theorem dX5_takeEnd_58 : decode cX5_takeEnd 58 = .ok (.aload_n 0, 1) := by decide +kernel
theorem dX5_takeEnd_59 : decode cX5_takeEnd 59 = .ok (.getfield 24, 3) := by decide +kernel
theorem dX5_takeEnd_62 : decode cX5_takeEnd 62 = .ok (.iaload, 1) := by decide +kernel
theorem dX5_takeEnd_63 : decode cX5_takeEnd 63 = .ok (.iconst 5, 1) := by decide +kernel
theorem dX5_takeEnd_64 : decode cX5_takeEnd 64 = .ok (.iload_n 3, 1) := by decide +kernel
theorem dX5_takeEnd_65 : decode cX5_takeEnd 65 = .ok (.invokevirtual 56, 3) := by decide +kernel
theorem dX5_takeEnd_68 : decode cX5_takeEnd 68 = .ok (.aload_n 1, 1) := by decide +kernel
theorem dX5_takeEnd_69 : decode cX5_takeEnd 69 = .ok (.bipush 59, 2) := by decide +kernel
theorem dX5_takeEnd_71 : decode cX5_takeEnd 71 = .ok (.invokevirtual 60, 3) := by decide +kernel
theorem dX5_takeEnd_74 : decode cX5_takeEnd 74 = .ok (.ireturn, 1) := by decide +kernel
theorem dX5_takeStep_0 : decode cX5_takeStep 0 = .ok (.aload_n 1, 1) := by decide +kernel
theorem dX5_takeStep_1 : decode cX5_takeStep 1 = .ok (.getfield 41, 3) := by decide +kernel
theorem dX5_takeStep_4 : decode cX5_takeStep 4 = .ok (.istore 4, 2) := by decide +kernel
theorem dX5_takeStep_6 : decode cX5_takeStep 6 = .ok (.iload 4, 2) := by decide +kernel
theorem dX5_takeStep_8 : decode cX5_takeStep 8 = .ok (.invokestatic 63, 3) := by decide +kernel
theorem dX5_takeStep_11 : decode cX5_takeStep 11 = .ok (.ifCond .ne 9, 3) := by decide +kernel
theorem dX5_takeStep_14 : decode cX5_takeStep 14 = .ok (.aload_n 1, 1) := by decide +kernel
theorem dX5_takeStep_15 : decode cX5_takeStep 15 = .ok (.iconst 2, 1) := by decide +kernel
theorem dX5_takeStep_16 : decode cX5_takeStep 16 = .ok (.invokevirtual 37, 3) := by decide +kernel
theorem dX5_takeStep_19 : decode cX5_takeStep 19 = .ok (.ireturn, 1) := by decide +kernel
theorem dX5_takeStep_20 : decode cX5_takeStep 20 = .ok (.aload_n 3, 1) := by decide +kernel
theorem dX5_takeStep_21 : decode cX5_takeStep 21 = .ok (.getfield 66, 3) := by decide +kernel
theorem dX5_takeStep_24 : decode cX5_takeStep 24 = .ok (.bipush 30, 2) := by decide +kernel
theorem dX5_takeStep_26 : decode cX5_takeStep 26 = .ok (.if_icmp .lt 10, 3) := by decide +kernel
theorem dX5_takeStep_29 : decode cX5_takeStep 29 = .ok (.aload_n 1, 1) := by decide +kernel
theorem dX5_takeStep_30 : decode cX5_takeStep 30 = .ok (.bipush 6, 2) := by decide +kernel
theorem dX5_takeStep_32 : decode cX5_takeStep 32 = .ok (.invokevirtual 37, 3) := by decide +kernel
theorem dX5_takeStep_35 : decode cX5_takeStep 35 = .ok (.ireturn, 1) := by decide +kernel
theorem dX5_takeStep_36 : decode cX5_takeStep 36 = .ok (.iload 4, 2) := by decide +kernel
theorem dX5_takeStep_38 : decode cX5_takeStep 38 = .ok (.bipush 17, 2) := by decide +kernel
theorem dX5_takeStep_40 : decode cX5_takeStep 40 = .ok (.if_icmp .eq 10, 3) := by decide +kernel
theorem dX5_takeStep_43 : decode cX5_takeStep 43 = .ok (.iload 4, 2) := by decide +kernel
theorem dX5_takeStep_45 : decode cX5_takeStep 45 = .ok (.bipush 20, 2) := by decide +kernel
theorem dX5_takeStep_47 : decode cX5_takeStep 47 = .ok (.if_icmp .ne 7, 3) := by decide +kernel
theorem dX5_takeStep_50 : decode cX5_takeStep 50 = .ok (.iconst 1, 1) := by decide +kernel
theorem dX5_takeStep_51 : decode cX5_takeStep 51 = .ok (.goto 4, 3) := by decide +kernel
