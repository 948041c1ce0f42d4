theorem dX5_takeStep_54 : decode cX5_takeStep 54 = .ok (.iconst 0, 1) := by decide +kernel
theorem dX5_takeStep_55 : decode cX5_takeStep 55 = .ok (.istore 5, 2) := by decide +kernel
theorem dX5_takeStep_57 : decode cX5_takeStep 57 = .ok (.iload 5, 2) := by decide +kernel
theorem dX5_takeStep_59 : decode cX5_takeStep 59 = .ok (.ifCond .eq 18, 3) := by decide +kernel
theorem dX5_takeStep_62 : decode cX5_takeStep 62 = .ok (.aload_n 0, 1) := by decide +kernel
theorem dX5_takeStep_63 : decode cX5_takeStep 63 = .ok (.getfield 24, 3) := by decide +kernel
theorem dX5_takeStep_66 : decode cX5_takeStep 66 = .ok (.iconst 3, 1) := by decide +kernel
theorem dX5_takeStep_67 : decode cX5_takeStep 67 = .ok (.if_icmp .lt 10, 3) := by decide +kernel
theorem dX5_takeStep_70 : decode cX5_takeStep 70 = .ok (.aload_n 1, 1) := by decide +kernel
theorem dX5_takeStep_71 : decode cX5_takeStep 71 = .ok (.bipush 7, 2) := by decide +kernel
theorem dX5_takeStep_73 : decode cX5_takeStep 73 = .ok (.invokevirtual 37, 3) := by decide +kernel
theorem dX5_takeStep_76 : decode cX5_takeStep 76 = .ok (.ireturn, 1) := by decide +kernel
theorem dX5_takeStep_77 : decode cX5_takeStep 77 = .ok (.aload_n 3, 1) := by decide +kernel
theorem dX5_takeStep_78 : decode cX5_takeStep 78 = .ok (.dup, 1) := by decide +kernel
theorem dX5_takeStep_79 : decode cX5_takeStep 79 = .ok (.getfield 66, 3) := by decide +kernel
theorem dX5_takeStep_82 : decode cX5_takeStep 82 = .ok (.iconst 1, 1) := by decide +kernel
theorem dX5_takeStep_83 : decode cX5_takeStep 83 = .ok (.iadd, 1) := by decide +kernel
theorem dX5_takeStep_84 : decode cX5_takeStep 84 = .ok (.putfield 66, 3) := by decide +kernel
theorem dX5_takeStep_87 : decode cX5_takeStep 87 = .ok (.aload_n 3, 1) := by decide +kernel
theorem dX5_takeStep_88 : decode cX5_takeStep 88 = .ok (.iload 4, 2) := by decide +kernel
theorem dX5_takeStep_90 : decode cX5_takeStep 90 = .ok (.invokevirtual 52, 3) := by decide +kernel
theorem dX5_takeStep_93 : decode cX5_takeStep 93 = .ok (.istore 6, 2) := by decide +kernel
theorem dX5_takeStep_95 : decode cX5_takeStep 95 = .ok (.iload 5, 2) := by decide +kernel
theorem dX5_takeStep_97 : decode cX5_takeStep 97 = .ok (.ifCond .eq 31, 3) := by decide +kernel
theorem dX5_takeStep_100 : decode cX5_takeStep 100 = .ok (.aload_n 0, 1) := by decide +kernel
theorem dX5_takeStep_101 : decode cX5_takeStep 101 = .ok (.getfield 24, 3) := by decide +kernel
theorem dX5_takeStep_104 : decode cX5_takeStep 104 = .ok (.ifCond .lt 24, 3) := by decide +kernel
theorem dX5_takeStep_107 : decode cX5_takeStep 107 = .ok (.aload_n 0, 1) := by decide +kernel
theorem dX5_takeStep_108 : decode cX5_takeStep 108 = .ok (.getfield 11, 3) := by decide +kernel
theorem dX5_takeStep_111 : decode cX5_takeStep 111 = .ok (.aload_n 0, 1) := by decide +kernel
theorem dX5_takeStep_112 : decode cX5_takeStep 112 = .ok (.getfield 24, 3) := by decide +kernel
theorem dX5_takeStep_115 : decode cX5_takeStep 115 = .ok (.iload 6, 2) := by decide +kernel
theorem dX5_takeStep_117 : decode cX5_takeStep 117 = .ok (.iastore, 1) := by decide +kernel
theorem dX5_takeStep_118 : decode cX5_takeStep 118 = .ok (.aload_n 0, 1) := by decide +kernel
theorem dX5_takeStep_119 : decode cX5_takeStep 119 = .ok (.dup, 1) := by decide +kernel
theorem dX5_takeStep_120 : decode cX5_takeStep 120 = .ok (.getfield 24, 3) := by decide +kernel
theorem dX5_takeStep_123 : decode cX5_takeStep 123 = .ok (.iconst 1, 1) := by decide +kernel
theorem dX5_takeStep_124 : decode cX5_takeStep 124 = .ok (.iadd, 1) := by decide +kernel
theorem dX5_takeStep_125 : decode cX5_takeStep 125 = .ok (.putfield 24, 3) := by decide +kernel
theorem dX5_takeStep_128 : decode cX5_takeStep 128 = .ok (.iconst 1, 1) := by decide +kernel
theorem dX5_takeStep_129 : decode cX5_takeStep 129 = .ok (.istore 7, 2) := by decide +kernel
theorem dX5_takeStep_131 : decode cX5_takeStep 131 = .ok (.iload 4, 2) := by decide +kernel
theorem dX5_takeStep_133 : decode cX5_takeStep 133 = .ok (.tableswitch 104 12 20 #[51, 79, 104, 104, 104, 91, 104, 104, 65], 51) := by decide +kernel
theorem dX5_takeStep_184 : decode cX5_takeStep 184 = .ok (.aload_n 1, 1) := by decide +kernel
theorem dX5_takeStep_185 : decode cX5_takeStep 185 = .ok (.aload_n 3, 1) := by decide +kernel
theorem dX5_takeStep_186 : decode cX5_takeStep 186 = .ok (.iload 6, 2) := by decide +kernel
theorem dX5_takeStep_188 : decode cX5_takeStep 188 = .ok (.bipush 20, 2) := by decide +kernel
theorem dX5_takeStep_190 : decode cX5_takeStep 190 = .ok (.invokestatic 69, 3) := by decide +kernel
theorem dX5_takeStep_193 : decode cX5_takeStep 193 = .ok (.istore 7, 2) := by decide +kernel
theorem dX5_takeStep_195 : decode cX5_takeStep 195 = .ok (.goto 42, 3) := by decide +kernel
theorem dX5_takeStep_198 : decode cX5_takeStep 198 = .ok (.aload_n 1, 1) := by decide +kernel
theorem dX5_takeStep_199 : decode cX5_takeStep 199 = .ok (.aload_n 3, 1) := by decide +kernel
theorem dX5_takeStep_200 : decode cX5_takeStep 200 = .ok (.iload 6, 2) := by decide +kernel
theorem dX5_takeStep_202 : decode cX5_takeStep 202 = .ok (.bipush 99, 2) := by decide +kernel
theorem dX5_takeStep_204 : decode cX5_takeStep 204 = .ok (.invokestatic 69, 3) := by decide +kernel
theorem dX5_takeStep_207 : decode cX5_takeStep 207 = .ok (.istore 7, 2) := by decide +kernel
theorem dX5_takeStep_209 : decode cX5_takeStep 209 = .ok (.goto 28, 3) := by decide +kernel
theorem dX5_takeStep_212 : decode cX5_takeStep 212 = .ok (.aload_n 1, 1) := by decide +kernel
theorem dX5_takeStep_213 : decode cX5_takeStep 213 = .ok (.aload_n 3, 1) := by decide +kernel
theorem dX5_takeStep_214 : decode cX5_takeStep 214 = .ok (.iload 6, 2) := by decide +kernel
theorem dX5_takeStep_216 : decode cX5_takeStep 216 = .ok (.invokestatic 73, 3) := by decide +kernel
theorem dX5_takeStep_219 : decode cX5_takeStep 219 = .ok (.istore 7, 2) := by decide +kernel
theorem dX5_takeStep_221 : decode cX5_takeStep 221 = .ok (.goto 16, 3) := by decide +kernel
theorem dX5_takeStep_224 : decode cX5_takeStep 224 = .ok (.aload_n 1, 1) := by decide +kernel
theorem dX5_takeStep_225 : decode cX5_takeStep 225 = .ok (.aload_n 2, 1) := by decide +kernel
theorem dX5_takeStep_226 : decode cX5_takeStep 226 = .ok (.aload_n 3, 1) := by decide +kernel
theorem dX5_takeStep_227 : decode cX5_takeStep 227 = .ok (.iload 6, 2) := by decide +kernel
theorem dX5_takeStep_229 : decode cX5_takeStep 229 = .ok (.invokestatic 77, 3) := by decide +kernel
theorem dX5_takeStep_232 : decode cX5_takeStep 232 = .ok (.istore 7, 2) := by decide +kernel
theorem dX5_takeStep_234 : decode cX5_takeStep 234 = .ok (.goto 3, 3) := by decide +kernel
theorem dX5_takeStep_237 : decode cX5_takeStep 237 = .ok (.iload 7, 2) := by decide +kernel
theorem dX5_takeStep_239 : decode cX5_takeStep 239 = .ok (.ifCond .eq 16, 3) := by decide +kernel
theorem dX5_takeStep_242 : decode cX5_takeStep 242 = .ok (.aload_n 1, 1) := by decide +kernel
theorem dX5_takeStep_243 : decode cX5_takeStep 243 = .ok (.bipush 59, 2) := by decide +kernel
theorem dX5_takeStep_245 : decode cX5_takeStep 245 = .ok (.invokevirtual 60, 3) := by decide +kernel
theorem dX5_takeStep_248 : decode cX5_takeStep 248 = .ok (.ifCond .eq 7, 3) := by decide +kernel
theorem dX5_takeStep_251 : decode cX5_takeStep 251 = .ok (.iconst 1, 1) := by decide +kernel
theorem dX5_takeStep_252 : decode cX5_takeStep 252 = .ok (.goto 4, 3) := by decide +kernel
theorem dX5_takeStep_255 : decode cX5_takeStep 255 = .ok (.iconst 0, 1) := by decide +kernel
theorem dX5_takeStep_256 : decode cX5_takeStep 256 = .ok (.ireturn, 1) := by decide +kernel
theorem dX5_isStep_0 : decode cX5_isStep 0 = .ok (.iload_n 0, 1) := by decide +kernel
theorem dX5_isStep_1 : decode cX5_isStep 1 = .ok (.bipush 12, 2) := by decide +kernel
theorem dX5_isStep_3 : decode cX5_isStep 3 = .ok (.if_icmp .lt 9, 3) := by decide +kernel
theorem dX5_isStep_6 : decode cX5_isStep 6 = .ok (.iload_n 0, 1) := by decide +kernel
theorem dX5_isStep_7 : decode cX5_isStep 7 = .ok (.bipush 17, 2) := by decide +kernel
theorem dX5_isStep_9 : decode cX5_isStep 9 = .ok (.if_icmp .le 15, 3) := by decide +kernel
theorem dX5_isStep_12 : decode cX5_isStep 12 = .ok (.iload_n 0, 1) := by decide +kernel
theorem dX5_isStep_13 : decode cX5_isStep 13 = .ok (.bipush 20, 2) := by decide +kernel
theorem dX5_isStep_15 : decode cX5_isStep 15 = .ok (.if_icmp .eq 9, 3) := by decide +kernel
theorem dX5_isStep_18 : decode cX5_isStep 18 = .ok (.iload_n 0, 1) := by decide +kernel
theorem dX5_isStep_19 : decode cX5_isStep 19 = .ok (.bipush 22, 2) := by decide +kernel
theorem dX5_isStep_21 : decode cX5_isStep 21 = .ok (.if_icmp .ne 7, 3) := by decide +kernel
theorem dX5_isStep_24 : decode cX5_isStep 24 = .ok (.iconst 1, 1) := by decide +kernel
theorem dX5_isStep_25 : decode cX5_isStep 25 = .ok (.goto 4, 3) := by decide +kernel
theorem dX5_isStep_28 : decode cX5_isStep 28 = .ok (.iconst 0, 1) := by decide +kernel
theorem dX5_isStep_29 : decode cX5_isStep 29 = .ok (.ireturn, 1) := by decide +kernel
theorem dX5_takeNumber_0 : decode cX5_takeNumber 0 = .ok (.aload_n 0, 1) := by decide +kernel
theorem dX5_takeNumber_1 : decode cX5_takeNumber 1 = .ok (.iconst 1, 1) := by decide +kernel
theorem dX5_takeNumber_2 : decode cX5_takeNumber 2 = .ok (.iload_n 3, 1) := by decide +kernel
theorem dX5_takeNumber_3 : decode cX5_takeNumber 3 = .ok (.invokevirtual 81, 3) := by decide +kernel
theorem dX5_takeNumber_6 : decode cX5_takeNumber 6 = .ok (.ifCond .ne 5, 3) := by decide +kernel
theorem dX5_takeNumber_9 : decode cX5_takeNumber 9 = .ok (.iconst 0, 1) := by decide +kernel
theorem dX5_takeNumber_10 : decode cX5_takeNumber 10 = .ok (.ireturn, 1) := by decide +kernel
theorem dX5_takeNumber_11 : decode cX5_takeNumber 11 = .ok (.aload_n 1, 1) := by decide +kernel
theorem dX5_takeNumber_12 : decode cX5_takeNumber 12 = .ok (.iload_n 2, 1) := by decide +kernel
theorem dX5_takeNumber_13 : decode cX5_takeNumber 13 = .ok (.iconst 1, 1) := by decide +kernel
theorem dX5_takeNumber_14 : decode cX5_takeNumber 14 = .ok (.aload_n 0, 1) := by decide +kernel
theorem dX5_takeNumber_15 : decode cX5_takeNumber 15 = .ok (.getfield 85, 3) := by decide +kernel
theorem dX5_takeNumber_18 : decode cX5_takeNumber 18 = .ok (.invokevirtual 56, 3) := by decide +kernel
theorem dX5_takeNumber_21 : decode cX5_takeNumber 21 = .ok (.iconst 1, 1) := by decide +kernel
theorem dX5_takeNumber_22 : decode cX5_takeNumber 22 = .ok (.ireturn, 1) := by decide +kernel
theorem dX5_takePlaces_0 : decode cX5_takePlaces 0 = .ok (.aload_n 0, 1) := by decide +kernel
theorem dX5_takePlaces_1 : decode cX5_takePlaces 1 = .ok (.iconst 0, 1) := by decide +kernel
theorem dX5_takePlaces_2 : decode cX5_takePlaces 2 = .ok (.bipush 6, 2) := by decide +kernel
theorem dX5_takePlaces_4 : decode cX5_takePlaces 4 = .ok (.invokevirtual 81, 3) := by decide +kernel
theorem dX5_takePlaces_7 : decode cX5_takePlaces 7 = .ok (.ifCond .ne 5, 3) := by decide +kernel
theorem dX5_takePlaces_10 : decode cX5_takePlaces 10 = .ok (.iconst 0, 1) := by decide +kernel
theorem dX5_takePlaces_11 : decode cX5_takePlaces 11 = .ok (.ireturn, 1) := by decide +kernel
theorem dX5_takePlaces_12 : decode cX5_takePlaces 12 = .ok (.aload_n 1, 1) := by decide +kernel
theorem dX5_takePlaces_13 : decode cX5_takePlaces 13 = .ok (.iload_n 2, 1) := by decide +kernel
theorem dX5_takePlaces_14 : decode cX5_takePlaces 14 = .ok (.iconst 1, 1) := by decide +kernel
theorem dX5_takePlaces_15 : decode cX5_takePlaces 15 = .ok (.aload_n 0, 1) := by decide +kernel
theorem dX5_takePlaces_16 : decode cX5_takePlaces 16 = .ok (.getfield 85, 3) := by decide +kernel
theorem dX5_takePlaces_19 : decode cX5_takePlaces 19 = .ok (.invokevirtual 56, 3) := by decide +kernel
theorem dX5_takePlaces_22 : decode cX5_takePlaces 22 = .ok (.aload_n 0, 1) := by decide +kernel
theorem dX5_takePlaces_23 : decode cX5_takePlaces 23 = .ok (.iconst 0, 1) := by decide +kernel
theorem dX5_takePlaces_24 : decode cX5_takePlaces 24 = .ok (.bipush 7, 2) := by decide +kernel
theorem dX5_takePlaces_26 : decode cX5_takePlaces 26 = .ok (.invokevirtual 81, 3) := by decide +kernel
theorem dX5_takePlaces_29 : decode cX5_takePlaces 29 = .ok (.ifCond .ne 5, 3) := by decide +kernel
theorem dX5_takePlaces_32 : decode cX5_takePlaces 32 = .ok (.iconst 0, 1) := by decide +kernel
theorem dX5_takePlaces_33 : decode cX5_takePlaces 33 = .ok (.ireturn, 1) := by decide +kernel
theorem dX5_takePlaces_34 : decode cX5_takePlaces 34 = .ok (.aload_n 1, 1) := by decide +kernel
theorem dX5_takePlaces_35 : decode cX5_takePlaces 35 = .ok (.iload_n 2, 1) := by decide +kernel
theorem dX5_takePlaces_36 : decode cX5_takePlaces 36 = .ok (.iconst 2, 1) := by decide +kernel
theorem dX5_takePlaces_37 : decode cX5_takePlaces 37 = .ok (.aload_n 0, 1) := by decide +kernel
theorem dX5_takePlaces_38 : decode cX5_takePlaces 38 = .ok (.getfield 85, 3) := by decide +kernel
theorem dX5_takePlaces_41 : decode cX5_takePlaces 41 = .ok (.invokevirtual 56, 3) := by decide +kernel
theorem dX5_takePlaces_44 : decode cX5_takePlaces 44 = .ok (.iconst 1, 1) := by decide +kernel
theorem dX5_takePlaces_45 : decode cX5_takePlaces 45 = .ok (.ireturn, 1) := by decide +kernel
theorem dX5_takeTest_0 : decode cX5_takeTest 0 = .ok (.aload_n 0, 1) := by decide +kernel
theorem dX5_takeTest_1 : decode cX5_takeTest 1 = .ok (.invokevirtual 28, 3) := by decide +kernel
theorem dX5_takeTest_4 : decode cX5_takeTest 4 = .ok (.ifCond .ne 5, 3) := by decide +kernel
theorem dX5_takeTest_7 : decode cX5_takeTest 7 = .ok (.iconst 0, 1) := by decide +kernel
theorem dX5_takeTest_8 : decode cX5_takeTest 8 = .ok (.ireturn, 1) := by decide +kernel
theorem dX5_takeTest_9 : decode cX5_takeTest 9 = .ok (.aload_n 0, 1) := by decide +kernel
theorem dX5_takeTest_10 : decode cX5_takeTest 10 = .ok (.getfield 41, 3) := by decide +kernel
theorem dX5_takeTest_13 : decode cX5_takeTest 13 = .ok (.istore 4, 2) := by decide +kernel
theorem dX5_takeTest_15 : decode cX5_takeTest 15 = .ok (.iload 4, 2) := by decide +kernel
theorem dX5_takeTest_17 : decode cX5_takeTest 17 = .ok (.bipush 18, 2) := by decide +kernel
theorem dX5_takeTest_19 : decode cX5_takeTest 19 = .ok (.if_icmp .eq 23, 3) := by decide +kernel
theorem dX5_takeTest_22 : decode cX5_takeTest 22 = .ok (.iload 4, 2) := by decide +kernel
theorem dX5_takeTest_24 : decode cX5_takeTest 24 = .ok (.bipush 10, 2) := by decide +kernel
theorem dX5_takeTest_26 : decode cX5_takeTest 26 = .ok (.if_icmp .eq 16, 3) := by decide +kernel
theorem dX5_takeTest_29 : decode cX5_takeTest 29 = .ok (.iload 4, 2) := by decide +kernel
theorem dX5_takeTest_31 : decode cX5_takeTest 31 = .ok (.bipush 19, 2) := by decide +kernel
theorem dX5_takeTest_33 : decode cX5_takeTest 33 = .ok (.if_icmp .eq 9, 3) := by decide +kernel
theorem dX5_takeTest_36 : decode cX5_takeTest 36 = .ok (.aload_n 0, 1) := by decide +kernel
theorem dX5_takeTest_37 : decode cX5_takeTest 37 = .ok (.iconst 2, 1) := by decide +kernel
theorem dX5_takeTest_38 : decode cX5_takeTest 38 = .ok (.invokevirtual 37, 3) := by decide +kernel
theorem dX5_takeTest_41 : decode cX5_takeTest 41 = .ok (.ireturn, 1) := by decide +kernel
theorem dX5_takeTest_42 : decode cX5_takeTest 42 = .ok (.aload_n 2, 1) := by decide +kernel
theorem dX5_takeTest_43 : decode cX5_takeTest 43 = .ok (.iload_n 3, 1) := by decide +kernel
theorem dX5_takeTest_44 : decode cX5_takeTest 44 = .ok (.iconst 1, 1) := by decide +kernel
theorem dX5_takeTest_45 : decode cX5_takeTest 45 = .ok (.iload 4, 2) := by decide +kernel
theorem dX5_takeTest_47 : decode cX5_takeTest 47 = .ok (.invokevirtual 56, 3) := by decide +kernel
theorem dX5_takeTest_50 : decode cX5_takeTest 50 = .ok (.iload 4, 2) := by decide +kernel
theorem dX5_takeTest_52 : decode cX5_takeTest 52 = .ok (.bipush 19, 2) := by decide +kernel
theorem dX5_takeTest_54 : decode cX5_takeTest 54 = .ok (.if_icmp .ne 5, 3) := by decide +kernel
theorem dX5_takeTest_57 : decode cX5_takeTest 57 = .ok (.iconst 1, 1) := by decide +kernel
theorem dX5_takeTest_58 : decode cX5_takeTest 58 = .ok (.ireturn, 1) := by decide +kernel
theorem dX5_takeTest_59 : decode cX5_takeTest 59 = .ok (.aload_n 0, 1) := by decide +kernel
theorem dX5_takeTest_60 : decode cX5_takeTest 60 = .ok (.invokevirtual 88, 3) := by decide +kernel
theorem dX5_takeTest_63 : decode cX5_takeTest 63 = .ok (.ifCond .ne 5, 3) := by decide +kernel
theorem dX5_takeTest_66 : decode cX5_takeTest 66 = .ok (.iconst 0, 1) := by decide +kernel
theorem dX5_takeTest_67 : decode cX5_takeTest 67 = .ok (.ireturn, 1) := by decide +kernel
theorem dX5_takeTest_68 : decode cX5_takeTest 68 = .ok (.iload 4, 2) := by decide +kernel
theorem dX5_takeTest_70 : decode cX5_takeTest 70 = .ok (.bipush 18, 2) := by decide +kernel
theorem dX5_takeTest_72 : decode cX5_takeTest 72 = .ok (.if_icmp .ne 14, 3) := by decide +kernel
theorem dX5_takeTest_75 : decode cX5_takeTest 75 = .ok (.aload_n 1, 1) := by decide +kernel
theorem dX5_takeTest_76 : decode cX5_takeTest 76 = .ok (.aload_n 0, 1) := by decide +kernel
theorem dX5_takeTest_77 : decode cX5_takeTest 77 = .ok (.getfield 91, 3) := by decide +kernel
theorem dX5_takeTest_80 : decode cX5_takeTest 80 = .ok (.invokevirtual 95, 3) := by decide +kernel
theorem dX5_takeTest_83 : decode cX5_takeTest 83 = .ok (.goto 11, 3) := by decide +kernel
theorem dX5_takeTest_86 : decode cX5_takeTest 86 = .ok (.aload_n 1, 1) := by decide +kernel
theorem dX5_takeTest_87 : decode cX5_takeTest 87 = .ok (.aload_n 0, 1) := by decide +kernel
theorem dX5_takeTest_88 : decode cX5_takeTest 88 = .ok (.getfield 91, 3) := by decide +kernel
theorem dX5_takeTest_91 : decode cX5_takeTest 91 = .ok (.invokevirtual 101, 3) := by decide +kernel
theorem dX5_takeTest_94 : decode cX5_takeTest 94 = .ok (.istore 5, 2) := by decide +kernel
theorem dX5_takeTest_96 : decode cX5_takeTest 96 = .ok (.iload 5, 2) := by decide +kernel
theorem dX5_takeTest_98 : decode cX5_takeTest 98 = .ok (.iconst (-1), 1) := by decide +kernel
theorem dX5_takeTest_99 : decode cX5_takeTest 99 = .ok (.if_icmp .ne 9, 3) := by decide +kernel
theorem dX5_takeTest_102 : decode cX5_takeTest 102 = .ok (.aload_n 0, 1) := by decide +kernel
theorem dX5_takeTest_103 : decode cX5_takeTest 103 = .ok (.iconst 3, 1) := by decide +kernel
theorem dX5_takeTest_104 : decode cX5_takeTest 104 = .ok (.invokevirtual 37, 3) := by decide +kernel
theorem dX5_takeTest_107 : decode cX5_takeTest 107 = .ok (.ireturn, 1) := by decide +kernel
theorem dX5_takeTest_108 : decode cX5_takeTest 108 = .ok (.aload_n 2, 1) := by decide +kernel
theorem dX5_takeTest_109 : decode cX5_takeTest 109 = .ok (.iload_n 3, 1) := by decide +kernel
theorem dX5_takeTest_110 : decode cX5_takeTest 110 = .ok (.iconst 2, 1) := by decide +kernel
theorem dX5_takeTest_111 : decode cX5_takeTest 111 = .ok (.iload 5, 2) := by decide +kernel
theorem dX5_takeTest_113 : decode cX5_takeTest 113 = .ok (.invokevirtual 56, 3) := by decide +kernel
theorem dX5_takeTest_116 : decode cX5_takeTest 116 = .ok (.aload_n 0, 1) := by decide +kernel
theorem dX5_takeTest_117 : decode cX5_takeTest 117 = .ok (.invokevirtual 104, 3) := by decide +kernel
theorem dX5_takeTest_120 : decode cX5_takeTest 120 = .ok (.ifCond .ne 5, 3) := by decide +kernel
theorem dX5_takeTest_123 : decode cX5_takeTest 123 = .ok (.iconst 0, 1) := by decide +kernel
theorem dX5_takeTest_124 : decode cX5_takeTest 124 = .ok (.ireturn, 1) := by decide +kernel
theorem dX5_takeTest_125 : decode cX5_takeTest 125 = .ok (.aload_n 2, 1) := by decide +kernel
theorem dX5_takeTest_126 : decode cX5_takeTest 126 = .ok (.iload_n 3, 1) := by decide +kernel
theorem dX5_takeTest_127 : decode cX5_takeTest 127 = .ok (.iconst 3, 1) := by decide +kernel
theorem dX5_takeTest_128 : decode cX5_takeTest 128 = .ok (.aload_n 0, 1) := by decide +kernel
theorem dX5_takeTest_129 : decode cX5_takeTest 129 = .ok (.getfield 85, 3) := by decide +kernel
theorem dX5_takeTest_132 : decode cX5_takeTest 132 = .ok (.invokevirtual 56, 3) := by decide +kernel
theorem dX5_takeTest_135 : decode cX5_takeTest 135 = .ok (.aload_n 0, 1) := by decide +kernel
theorem dX5_takeTest_136 : decode cX5_takeTest 136 = .ok (.iconst 0, 1) := by decide +kernel
theorem dX5_takeTest_137 : decode cX5_takeTest 137 = .ok (.iload 4, 2) := by decide +kernel
theorem dX5_takeTest_139 : decode cX5_takeTest 139 = .ok (.bipush 18, 2) := by decide +kernel
theorem dX5_takeTest_141 : decode cX5_takeTest 141 = .ok (.if_icmp .ne 8, 3) := by decide +kernel
theorem dX5_takeTest_144 : decode cX5_takeTest 144 = .ok (.bipush 6, 2) := by decide +kernel
theorem dX5_takeTest_146 : decode cX5_takeTest 146 = .ok (.goto 5, 3) := by decide +kernel
theorem dX5_takeTest_149 : decode cX5_takeTest 149 = .ok (.bipush 99, 2) := by decide +kernel
theorem dX5_takeTest_151 : decode cX5_takeTest 151 = .ok (.invokevirtual 81, 3) := by decide +kernel
theorem dX5_takeTest_154 : decode cX5_takeTest 154 = .ok (.ifCond .ne 5, 3) := by decide +kernel
theorem dX5_takeTest_157 : decode cX5_takeTest 157 = .ok (.iconst 0, 1) := by decide +kernel
theorem dX5_takeTest_158 : decode cX5_takeTest 158 = .ok (.ireturn, 1) := by decide +kernel
theorem dX5_takeTest_159 : decode cX5_takeTest 159 = .ok (.aload_n 2, 1) := by decide +kernel
theorem dX5_takeTest_160 : decode cX5_takeTest 160 = .ok (.iload_n 3, 1) := by decide +kernel
theorem dX5_takeTest_161 : decode cX5_takeTest 161 = .ok (.iconst 4, 1) := by decide +kernel
theorem dX5_takeTest_162 : decode cX5_takeTest 162 = .ok (.aload_n 0, 1) := by decide +kernel
theorem dX5_takeTest_163 : decode cX5_takeTest 163 = .ok (.getfield 85, 3) := by decide +kernel
theorem dX5_takeTest_166 : decode cX5_takeTest 166 = .ok (.invokevirtual 56, 3) := by decide +kernel
theorem dX5_takeTest_169 : decode cX5_takeTest 169 = .ok (.iconst 1, 1) := by decide +kernel
theorem dX5_takeTest_170 : decode cX5_takeTest 170 = .ok (.ireturn, 1) := by decide +kernel
theorem dX6_init_0 : decode cX6_init 0 = .ok (.aload_n 0, 1) := by decide +kernel
theorem dX6_init_1 : decode cX6_init 1 = .ok (.invokespecial 3, 3) := by decide +kernel
theorem dX6_init_4 : decode cX6_init 4 = .ok (.aload_n 0, 1) := by decide +kernel
theorem dX6_init_5 : decode cX6_init 5 = .ok (.sipush 168, 3) := by decide +kernel
theorem dX6_init_8 : decode cX6_init 8 = .ok (.newarray .int, 2) := by decide +kernel
theorem dX6_init_10 : decode cX6_init 10 = .ok (.putfield 9, 3) := by decide +kernel
theorem dX6_init_13 : decode cX6_init 13 = .ok (.aload_n 0, 1) := by decide +kernel
theorem dX6_init_14 : decode cX6_init 14 = .ok (.bipush 7, 2) := by decide +kernel
theorem dX6_init_16 : decode cX6_init 16 = .ok (.newarray .int, 2) := by decide +kernel
theorem dX6_init_18 : decode cX6_init 18 = .ok (.putfield 15, 3) := by decide +kernel
theorem dX6_init_21 : decode cX6_init 21 = .ok (.aload_n 0, 1) := by decide +kernel
theorem dX6_init_22 : decode cX6_init 22 = .ok (.bipush 24, 2) := by decide +kernel
theorem dX6_init_24 : decode cX6_init 24 = .ok (.newarray .int, 2) := by decide +kernel
theorem dX6_init_26 : decode cX6_init 26 = .ok (.putfield 18, 3) := by decide +kernel
theorem dX6_init_29 : decode cX6_init 29 = .ok (.aload_n 0, 1) := by decide +kernel
theorem dX6_init_30 : decode cX6_init 30 = .ok (.iconst 4, 1) := by decide +kernel
theorem dX6_init_31 : decode cX6_init 31 = .ok (.newarray .int, 2) := by decide +kernel
theorem dX6_init_33 : decode cX6_init 33 = .ok (.putfield 21, 3) := by decide +kernel
theorem dX6_init_36 : decode cX6_init 36 = .ok (.aload_n 0, 1) := by decide +kernel
theorem dX6_init_37 : decode cX6_init 37 = .ok (.iconst 4, 1) := by decide +kernel
theorem dX6_init_38 : decode cX6_init 38 = .ok (.putfield 24, 3) := by decide +kernel
theorem dX6_init_41 : decode cX6_init 41 = .ok (.aload_n 0, 1) := by decide +kernel
theorem dX6_init_42 : decode cX6_init 42 = .ok (.bipush 7, 2) := by decide +kernel
theorem dX6_init_44 : decode cX6_init 44 = .ok (.newarray .int, 2) := by decide +kernel
theorem dX6_init_46 : decode cX6_init 46 = .ok (.putfield 28, 3) := by decide +kernel
theorem dX6_init_49 : decode cX6_init 49 = .ok (.aload_n 0, 1) := by decide +kernel
theorem dX6_init_50 : decode cX6_init 50 = .ok (.iconst 4, 1) := by decide +kernel
theorem dX6_init_51 : decode cX6_init 51 = .ok (.newarray .int, 2) := by decide +kernel
theorem dX6_init_53 : decode cX6_init 53 = .ok (.putfield 31, 3) := by decide +kernel
theorem dX6_init_56 : decode cX6_init 56 = .ok (.return_, 1) := by decide +kernel
theorem dX6_clear_0 : decode cX6_clear 0 = .ok (.aload_n 0, 1) := by decide +kernel
theorem dX6_clear_1 : decode cX6_clear 1 = .ok (.invokevirtual 34, 3) := by decide +kernel
theorem dX6_clear_4 : decode cX6_clear 4 = .ok (.aload_n 0, 1) := by decide +kernel
theorem dX6_clear_5 : decode cX6_clear 5 = .ok (.iconst 4, 1) := by decide +kernel
theorem dX6_clear_6 : decode cX6_clear 6 = .ok (.putfield 24, 3) := by decide +kernel
theorem dX6_clear_9 : decode cX6_clear 9 = .ok (.aload_n 0, 1) := by decide +kernel
theorem dX6_clear_10 : decode cX6_clear 10 = .ok (.iconst 0, 1) := by decide +kernel
theorem dX6_clear_11 : decode cX6_clear 11 = .ok (.putfield 37, 3) := by decide +kernel
theorem dX6_clear_14 : decode cX6_clear 14 = .ok (.aload_n 0, 1) := by decide +kernel
theorem dX6_clear_15 : decode cX6_clear 15 = .ok (.iconst 0, 1) := by decide +kernel
theorem dX6_clear_16 : decode cX6_clear 16 = .ok (.putfield 40, 3) := by decide +kernel
theorem dX6_clear_19 : decode cX6_clear 19 = .ok (.aload_n 0, 1) := by decide +kernel
theorem dX6_clear_20 : decode cX6_clear 20 = .ok (.iconst 0, 1) := by decide +kernel
theorem dX6_clear_21 : decode cX6_clear 21 = .ok (.putfield 43, 3) := by decide +kernel
theorem dX6_clear_24 : decode cX6_clear 24 = .ok (.aload_n 0, 1) := by decide +kernel
theorem dX6_clear_25 : decode cX6_clear 25 = .ok (.iconst 0, 1) := by decide +kernel
theorem dX6_clear_26 : decode cX6_clear 26 = .ok (.putfield 46, 3) := by decide +kernel
theorem dX6_clear_29 : decode cX6_clear 29 = .ok (.aload_n 0, 1) := by decide +kernel
theorem dX6_clear_30 : decode cX6_clear 30 = .ok (.iconst 0, 1) := by decide +kernel
theorem dX6_clear_31 : decode cX6_clear 31 = .ok (.putfield 49, 3) := by decide +kernel
theorem dX6_clear_34 : decode cX6_clear 34 = .ok (.return_, 1) := by decide +kernel
theorem dX6_sweep_0 : decode cX6_sweep 0 = .ok (.aload_n 0, 1) := by decide +kernel
theorem dX6_sweep_1 : decode cX6_sweep 1 = .ok (.getfield 15, 3) := by decide +kernel
theorem dX6_sweep_4 : decode cX6_sweep 4 = .ok (.iconst 0, 1) := by decide +kernel
theorem dX6_sweep_5 : decode cX6_sweep 5 = .ok (.invokestatic 52, 3) := by decide +kernel
theorem dX6_sweep_8 : decode cX6_sweep 8 = .ok (.aload_n 0, 1) := by decide +kernel
theorem dX6_sweep_9 : decode cX6_sweep 9 = .ok (.getfield 21, 3) := by decide +kernel
theorem dX6_sweep_12 : decode cX6_sweep 12 = .ok (.iconst 0, 1) := by decide +kernel
theorem dX6_sweep_13 : decode cX6_sweep 13 = .ok (.invokestatic 52, 3) := by decide +kernel
theorem dX6_sweep_16 : decode cX6_sweep 16 = .ok (.aload_n 0, 1) := by decide +kernel
theorem dX6_sweep_17 : decode cX6_sweep 17 = .ok (.iconst 0, 1) := by decide +kernel
theorem dX6_sweep_18 : decode cX6_sweep 18 = .ok (.putfield 58, 3) := by decide +kernel
theorem dX6_sweep_21 : decode cX6_sweep 21 = .ok (.aload_n 0, 1) := by decide +kernel
theorem dX6_sweep_22 : decode cX6_sweep 22 = .ok (.iconst 0, 1) := by decide +kernel
theorem dX6_sweep_23 : decode cX6_sweep 23 = .ok (.putfield 61, 3) := by decide +kernel
theorem dX6_sweep_26 : decode cX6_sweep 26 = .ok (.return_, 1) := by decide +kernel
theorem dX6_copyFrom_0 : decode cX6_copyFrom 0 = .ok (.aload_n 1, 1) := by decide +kernel
theorem dX6_copyFrom_1 : decode cX6_copyFrom 1 = .ok (.getfield 9, 3) := by decide +kernel
theorem dX6_copyFrom_4 : decode cX6_copyFrom 4 = .ok (.iconst 0, 1) := by decide +kernel
theorem dX6_copyFrom_5 : decode cX6_copyFrom 5 = .ok (.aload_n 0, 1) := by decide +kernel
theorem dX6_copyFrom_6 : decode cX6_copyFrom 6 = .ok (.getfield 9, 3) := by decide +kernel
theorem dX6_copyFrom_9 : decode cX6_copyFrom 9 = .ok (.iconst 0, 1) := by decide +kernel
theorem dX6_copyFrom_10 : decode cX6_copyFrom 10 = .ok (.aload_n 0, 1) := by decide +kernel
theorem dX6_copyFrom_11 : decode cX6_copyFrom 11 = .ok (.getfield 9, 3) := by decide +kernel
theorem dX6_copyFrom_14 : decode cX6_copyFrom 14 = .ok (.arraylength, 1) := by decide +kernel
theorem dX6_copyFrom_15 : decode cX6_copyFrom 15 = .ok (.invokestatic 64, 3) := by decide +kernel
theorem dX6_copyFrom_18 : decode cX6_copyFrom 18 = .ok (.aload_n 1, 1) := by decide +kernel
theorem dX6_copyFrom_19 : decode cX6_copyFrom 19 = .ok (.getfield 15, 3) := by decide +kernel
theorem dX6_copyFrom_22 : decode cX6_copyFrom 22 = .ok (.iconst 0, 1) := by decide +kernel
theorem dX6_copyFrom_23 : decode cX6_copyFrom 23 = .ok (.aload_n 0, 1) := by decide +kernel
theorem dX6_copyFrom_24 : decode cX6_copyFrom 24 = .ok (.getfield 15, 3) := by decide +kernel
theorem dX6_copyFrom_27 : decode cX6_copyFrom 27 = .ok (.iconst 0, 1) := by decide +kernel
theorem dX6_copyFrom_28 : decode cX6_copyFrom 28 = .ok (.aload_n 0, 1) := by decide +kernel
theorem dX6_copyFrom_29 : decode cX6_copyFrom 29 = .ok (.getfield 15, 3) := by decide +kernel
theorem dX6_copyFrom_32 : decode cX6_copyFrom 32 = .ok (.arraylength, 1) := by decide +kernel
theorem dX6_copyFrom_33 : decode cX6_copyFrom 33 = .ok (.invokestatic 64, 3) := by decide +kernel
theorem dX6_copyFrom_36 : decode cX6_copyFrom 36 = .ok (.aload_n 1, 1) := by decide +kernel
theorem dX6_copyFrom_37 : decode cX6_copyFrom 37 = .ok (.getfield 18, 3) := by decide +kernel
theorem dX6_copyFrom_40 : decode cX6_copyFrom 40 = .ok (.iconst 0, 1) := by decide +kernel
theorem dX6_copyFrom_41 : decode cX6_copyFrom 41 = .ok (.aload_n 0, 1) := by decide +kernel
theorem dX6_copyFrom_42 : decode cX6_copyFrom 42 = .ok (.getfield 18, 3) := by decide +kernel
theorem dX6_copyFrom_45 : decode cX6_copyFrom 45 = .ok (.iconst 0, 1) := by decide +kernel
theorem dX6_copyFrom_46 : decode cX6_copyFrom 46 = .ok (.aload_n 0, 1) := by decide +kernel
theorem dX6_copyFrom_47 : decode cX6_copyFrom 47 = .ok (.getfield 18, 3) := by decide +kernel
theorem dX6_copyFrom_50 : decode cX6_copyFrom 50 = .ok (.arraylength, 1) := by decide +kernel
theorem dX6_copyFrom_51 : decode cX6_copyFrom 51 = .ok (.invokestatic 64, 3) := by decide +kernel
theorem dX6_copyFrom_54 : decode cX6_copyFrom 54 = .ok (.aload_n 1, 1) := by decide +kernel
theorem dX6_copyFrom_55 : decode cX6_copyFrom 55 = .ok (.getfield 21, 3) := by decide +kernel
theorem dX6_copyFrom_58 : decode cX6_copyFrom 58 = .ok (.iconst 0, 1) := by decide +kernel
theorem dX6_copyFrom_59 : decode cX6_copyFrom 59 = .ok (.aload_n 0, 1) := by decide +kernel
theorem dX6_copyFrom_60 : decode cX6_copyFrom 60 = .ok (.getfield 21, 3) := by decide +kernel
theorem dX6_copyFrom_63 : decode cX6_copyFrom 63 = .ok (.iconst 0, 1) := by decide +kernel
theorem dX6_copyFrom_64 : decode cX6_copyFrom 64 = .ok (.aload_n 0, 1) := by decide +kernel
theorem dX6_copyFrom_65 : decode cX6_copyFrom 65 = .ok (.getfield 21, 3) := by decide +kernel
theorem dX6_copyFrom_68 : decode cX6_copyFrom 68 = .ok (.arraylength, 1) := by decide +kernel
theorem dX6_copyFrom_69 : decode cX6_copyFrom 69 = .ok (.invokestatic 64, 3) := by decide +kernel
theorem dX6_copyFrom_72 : decode cX6_copyFrom 72 = .ok (.aload_n 0, 1) := by decide +kernel
theorem dX6_copyFrom_73 : decode cX6_copyFrom 73 = .ok (.aload_n 1, 1) := by decide +kernel
theorem dX6_copyFrom_74 : decode cX6_copyFrom 74 = .ok (.getfield 58, 3) := by decide +kernel
theorem dX6_copyFrom_77 : decode cX6_copyFrom 77 = .ok (.putfield 58, 3) := by decide +kernel
theorem dX6_copyFrom_80 : decode cX6_copyFrom 80 = .ok (.aload_n 0, 1) := by decide +kernel
theorem dX6_copyFrom_81 : decode cX6_copyFrom 81 = .ok (.aload_n 1, 1) := by decide +kernel
theorem dX6_copyFrom_82 : decode cX6_copyFrom 82 = .ok (.getfield 61, 3) := by decide +kernel
theorem dX6_copyFrom_85 : decode cX6_copyFrom 85 = .ok (.putfield 61, 3) := by decide +kernel
theorem dX6_copyFrom_88 : decode cX6_copyFrom 88 = .ok (.aload_n 0, 1) := by decide +kernel
theorem dX6_copyFrom_89 : decode cX6_copyFrom 89 = .ok (.aload_n 1, 1) := by decide +kernel
theorem dX6_copyFrom_90 : decode cX6_copyFrom 90 = .ok (.invokevirtual 70, 3) := by decide +kernel
theorem dX6_copyFrom_93 : decode cX6_copyFrom 93 = .ok (.aload_n 0, 1) := by decide +kernel
theorem dX6_copyFrom_94 : decode cX6_copyFrom 94 = .ok (.aload_n 1, 1) := by decide +kernel
theorem dX6_copyFrom_95 : decode cX6_copyFrom 95 = .ok (.getfield 40, 3) := by decide +kernel
theorem dX6_copyFrom_98 : decode cX6_copyFrom 98 = .ok (.putfield 40, 3) := by decide +kernel
theorem dX6_copyFrom_101 : decode cX6_copyFrom 101 = .ok (.aload_n 0, 1) := by decide +kernel
theorem dX6_copyFrom_102 : decode cX6_copyFrom 102 = .ok (.aload_n 1, 1) := by decide +kernel
theorem dX6_copyFrom_103 : decode cX6_copyFrom 103 = .ok (.getfield 43, 3) := by decide +kernel
theorem dX6_copyFrom_106 : decode cX6_copyFrom 106 = .ok (.putfield 43, 3) := by decide +kernel
theorem dX6_copyFrom_109 : decode cX6_copyFrom 109 = .ok (.aload_n 0, 1) := by decide +kernel
theorem dX6_copyFrom_110 : decode cX6_copyFrom 110 = .ok (.aload_n 1, 1) := by decide +kernel
theorem dX6_copyFrom_111 : decode cX6_copyFrom 111 = .ok (.getfield 46, 3) := by decide +kernel
theorem dX6_copyFrom_114 : decode cX6_copyFrom 114 = .ok (.putfield 46, 3) := by decide +kernel
theorem dX6_copyFrom_117 : decode cX6_copyFrom 117 = .ok (.return_, 1) := by decide +kernel
theorem dX6_copyShape_0 : decode cX6_copyShape 0 = .ok (.aload_n 0, 1) := by decide +kernel
theorem dX6_copyShape_1 : decode cX6_copyShape 1 = .ok (.aload_n 1, 1) := by decide +kernel
theorem dX6_copyShape_2 : decode cX6_copyShape 2 = .ok (.getfield 24, 3) := by decide +kernel
theorem dX6_copyShape_5 : decode cX6_copyShape 5 = .ok (.putfield 24, 3) := by decide +kernel
theorem dX6_copyShape_8 : decode cX6_copyShape 8 = .ok (.aload_n 0, 1) := by decide +kernel
theorem dX6_copyShape_9 : decode cX6_copyShape 9 = .ok (.aload_n 1, 1) := by decide +kernel
theorem dX6_copyShape_10 : decode cX6_copyShape 10 = .ok (.getfield 37, 3) := by decide +kernel
theorem dX6_copyShape_13 : decode cX6_copyShape 13 = .ok (.putfield 37, 3) := by decide +kernel
theorem dX6_copyShape_16 : decode cX6_copyShape 16 = .ok (.aload_n 0, 1) := by decide +kernel
theorem dX6_copyShape_17 : decode cX6_copyShape 17 = .ok (.aload_n 1, 1) := by decide +kernel
theorem dX6_copyShape_18 : decode cX6_copyShape 18 = .ok (.getfield 49, 3) := by decide +kernel
theorem dX6_copyShape_21 : decode cX6_copyShape 21 = .ok (.putfield 49, 3) := by decide +kernel
theorem dX6_copyShape_24 : decode cX6_copyShape 24 = .ok (.return_, 1) := by decide +kernel
theorem dX6_isSource_0 : decode cX6_isSource 0 = .ok (.iload_n 1, 1) := by decide +kernel
theorem dX6_isSource_1 : decode cX6_isSource 1 = .ok (.ifCond .lt 11, 3) := by decide +kernel
theorem dX6_isSource_4 : decode cX6_isSource 4 = .ok (.iload_n 1, 1) := by decide +kernel
theorem dX6_isSource_5 : decode cX6_isSource 5 = .ok (.aload_n 0, 1) := by decide +kernel
theorem dX6_isSource_6 : decode cX6_isSource 6 = .ok (.getfield 49, 3) := by decide +kernel
theorem dX6_isSource_9 : decode cX6_isSource 9 = .ok (.if_icmp .lt 9, 3) := by decide +kernel
theorem dX6_isSource_12 : decode cX6_isSource 12 = .ok (.iload_n 1, 1) := by decide +kernel
theorem dX6_isSource_13 : decode cX6_isSource 13 = .ok (.bipush 6, 2) := by decide +kernel
theorem dX6_isSource_15 : decode cX6_isSource 15 = .ok (.if_icmp .ne 7, 3) := by decide +kernel
theorem dX6_isSource_18 : decode cX6_isSource 18 = .ok (.iconst 1, 1) := by decide +kernel
theorem dX6_isSource_19 : decode cX6_isSource 19 = .ok (.goto 4, 3) := by decide +kernel
theorem dX6_isSource_22 : decode cX6_isSource 22 = .ok (.iconst 0, 1) := by decide +kernel
theorem dX6_isSource_23 : decode cX6_isSource 23 = .ok (.ireturn, 1) := by decide +kernel
theorem dX6_isTarget_0 : decode cX6_isTarget 0 = .ok (.iload_n 1, 1) := by decide +kernel
theorem dX6_isTarget_1 : decode cX6_isTarget 1 = .ok (.ifCond .lt 11, 3) := by decide +kernel
theorem dX6_isTarget_4 : decode cX6_isTarget 4 = .ok (.iload_n 1, 1) := by decide +kernel
theorem dX6_isTarget_5 : decode cX6_isTarget 5 = .ok (.aload_n 0, 1) := by decide +kernel
theorem dX6_isTarget_6 : decode cX6_isTarget 6 = .ok (.getfield 49, 3) := by decide +kernel
theorem dX6_isTarget_9 : decode cX6_isTarget 9 = .ok (.if_icmp .lt 9, 3) := by decide +kernel
theorem dX6_isTarget_12 : decode cX6_isTarget 12 = .ok (.iload_n 1, 1) := by decide +kernel
theorem dX6_isTarget_13 : decode cX6_isTarget 13 = .ok (.bipush 7, 2) := by decide +kernel
theorem dX6_isTarget_15 : decode cX6_isTarget 15 = .ok (.if_icmp .ne 7, 3) := by decide +kernel
theorem dX6_isTarget_18 : decode cX6_isTarget 18 = .ok (.iconst 1, 1) := by decide +kernel
theorem dX6_isTarget_19 : decode cX6_isTarget 19 = .ok (.goto 4, 3) := by decide +kernel
theorem dX6_isTarget_22 : decode cX6_isTarget 22 = .ok (.iconst 0, 1) := by decide +kernel
theorem dX6_isTarget_23 : decode cX6_isTarget 23 = .ok (.ireturn, 1) := by decide +kernel
theorem dX6_cardAt_0 : decode cX6_cardAt 0 = .ok (.iload_n 1, 1) := by decide +kernel
theorem dX6_cardAt_1 : decode cX6_cardAt 1 = .ok (.ifCond .lt 29, 3) := by decide +kernel
theorem dX6_cardAt_4 : decode cX6_cardAt 4 = .ok (.iload_n 1, 1) := by decide +kernel
theorem dX6_cardAt_5 : decode cX6_cardAt 5 = .ok (.bipush 7, 2) := by decide +kernel
theorem dX6_cardAt_7 : decode cX6_cardAt 7 = .ok (.if_icmp .ge 23, 3) := by decide +kernel
theorem dX6_cardAt_10 : decode cX6_cardAt 10 = .ok (.iload_n 2, 1) := by decide +kernel
theorem dX6_cardAt_11 : decode cX6_cardAt 11 = .ok (.ifCond .lt 19, 3) := by decide +kernel
theorem dX6_cardAt_14 : decode cX6_cardAt 14 = .ok (.iload_n 2, 1) := by decide +kernel
theorem dX6_cardAt_15 : decode cX6_cardAt 15 = .ok (.aload_n 0, 1) := by decide +kernel
theorem dX6_cardAt_16 : decode cX6_cardAt 16 = .ok (.getfield 15, 3) := by decide +kernel
theorem dX6_cardAt_19 : decode cX6_cardAt 19 = .ok (.iload_n 1, 1) := by decide +kernel
theorem dX6_cardAt_20 : decode cX6_cardAt 20 = .ok (.iaload, 1) := by decide +kernel
theorem dX6_cardAt_21 : decode cX6_cardAt 21 = .ok (.if_icmp .ge 9, 3) := by decide +kernel
theorem dX6_cardAt_24 : decode cX6_cardAt 24 = .ok (.iload_n 2, 1) := by decide +kernel
theorem dX6_cardAt_25 : decode cX6_cardAt 25 = .ok (.bipush 24, 2) := by decide +kernel
theorem dX6_cardAt_27 : decode cX6_cardAt 27 = .ok (.if_icmp .lt 5, 3) := by decide +kernel
theorem dX6_cardAt_30 : decode cX6_cardAt 30 = .ok (.iconst (-1), 1) := by decide +kernel
theorem dX6_cardAt_31 : decode cX6_cardAt 31 = .ok (.ireturn, 1) := by decide +kernel
theorem dX6_cardAt_32 : decode cX6_cardAt 32 = .ok (.aload_n 0, 1) := by decide +kernel
theorem dX6_cardAt_33 : decode cX6_cardAt 33 = .ok (.getfield 9, 3) := by decide +kernel
theorem dX6_cardAt_36 : decode cX6_cardAt 36 = .ok (.iload_n 1, 1) := by decide +kernel
theorem dX6_cardAt_37 : decode cX6_cardAt 37 = .ok (.bipush 24, 2) := by decide +kernel
theorem dX6_cardAt_39 : decode cX6_cardAt 39 = .ok (.imul, 1) := by decide +kernel
theorem dX6_cardAt_40 : decode cX6_cardAt 40 = .ok (.iload_n 2, 1) := by decide +kernel
theorem dX6_cardAt_41 : decode cX6_cardAt 41 = .ok (.iadd, 1) := by decide +kernel
theorem dX6_cardAt_42 : decode cX6_cardAt 42 = .ok (.iaload, 1) := by decide +kernel
theorem dX6_cardAt_43 : decode cX6_cardAt 43 = .ok (.ireturn, 1) := by decide +kernel
theorem dX6_topCard_0 : decode cX6_topCard 0 = .ok (.iload_n 1, 1) := by decide +kernel
theorem dX6_topCard_1 : decode cX6_topCard 1 = .ok (.ifCond .lt 30, 3) := by decide +kernel
theorem dX6_topCard_4 : decode cX6_topCard 4 = .ok (.iload_n 1, 1) := by decide +kernel
theorem dX6_topCard_5 : decode cX6_topCard 5 = .ok (.bipush 7, 2) := by decide +kernel
theorem dX6_topCard_7 : decode cX6_topCard 7 = .ok (.if_icmp .ge 24, 3) := by decide +kernel
theorem dX6_topCard_10 : decode cX6_topCard 10 = .ok (.aload_n 0, 1) := by decide +kernel
theorem dX6_topCard_11 : decode cX6_topCard 11 = .ok (.getfield 15, 3) := by decide +kernel
theorem dX6_topCard_14 : decode cX6_topCard 14 = .ok (.iload_n 1, 1) := by decide +kernel
theorem dX6_topCard_15 : decode cX6_topCard 15 = .ok (.iaload, 1) := by decide +kernel
theorem dX6_topCard_16 : decode cX6_topCard 16 = .ok (.iconst 1, 1) := by decide +kernel
theorem dX6_topCard_17 : decode cX6_topCard 17 = .ok (.if_icmp .lt 14, 3) := by decide +kernel
theorem dX6_topCard_20 : decode cX6_topCard 20 = .ok (.aload_n 0, 1) := by decide +kernel
theorem dX6_topCard_21 : decode cX6_topCard 21 = .ok (.getfield 15, 3) := by decide +kernel
theorem dX6_topCard_24 : decode cX6_topCard 24 = .ok (.iload_n 1, 1) := by decide +kernel
theorem dX6_topCard_25 : decode cX6_topCard 25 = .ok (.iaload, 1) := by decide +kernel
theorem dX6_topCard_26 : decode cX6_topCard 26 = .ok (.bipush 24, 2) := by decide +kernel
theorem dX6_topCard_28 : decode cX6_topCard 28 = .ok (.if_icmp .le 5, 3) := by decide +kernel
theorem dX6_topCard_31 : decode cX6_topCard 31 = .ok (.iconst (-1), 1) := by decide +kernel
theorem dX6_topCard_32 : decode cX6_topCard 32 = .ok (.ireturn, 1) := by decide +kernel
theorem dX6_topCard_33 : decode cX6_topCard 33 = .ok (.aload_n 0, 1) := by decide +kernel
theorem dX6_topCard_34 : decode cX6_topCard 34 = .ok (.getfield 9, 3) := by decide +kernel
theorem dX6_topCard_37 : decode cX6_topCard 37 = .ok (.iload_n 1, 1) := by decide +kernel
theorem dX6_topCard_38 : decode cX6_topCard 38 = .ok (.bipush 24, 2) := by decide +kernel
theorem dX6_topCard_40 : decode cX6_topCard 40 = .ok (.imul, 1) := by decide +kernel
theorem dX6_topCard_41 : decode cX6_topCard 41 = .ok (.aload_n 0, 1) := by decide +kernel
theorem dX6_topCard_42 : decode cX6_topCard 42 = .ok (.getfield 15, 3) := by decide +kernel
theorem dX6_topCard_45 : decode cX6_topCard 45 = .ok (.iload_n 1, 1) := by decide +kernel
theorem dX6_topCard_46 : decode cX6_topCard 46 = .ok (.iaload, 1) := by decide +kernel
theorem dX6_topCard_47 : decode cX6_topCard 47 = .ok (.iadd, 1) := by decide +kernel
theorem dX6_topCard_48 : decode cX6_topCard 48 = .ok (.iconst 1, 1) := by decide +kernel
theorem dX6_topCard_49 : decode cX6_topCard 49 = .ok (.isub, 1) := by decide +kernel
theorem dX6_topCard_50 : decode cX6_topCard 50 = .ok (.iaload, 1) := by decide +kernel
theorem dX6_topCard_51 : decode cX6_topCard 51 = .ok (.ireturn, 1) := by decide +kernel
theorem dX6_lay_0 : decode cX6_lay 0 = .ok (.iload_n 1, 1) := by decide +kernel
theorem dX6_lay_1 : decode cX6_lay 1 = .ok (.ifCond .lt 29, 3) := by decide +kernel
theorem dX6_lay_4 : decode cX6_lay 4 = .ok (.iload_n 1, 1) := by decide +kernel
theorem dX6_lay_5 : decode cX6_lay 5 = .ok (.bipush 7, 2) := by decide +kernel
theorem dX6_lay_7 : decode cX6_lay 7 = .ok (.if_icmp .ge 23, 3) := by decide +kernel
theorem dX6_lay_10 : decode cX6_lay 10 = .ok (.aload_n 0, 1) := by decide +kernel
theorem dX6_lay_11 : decode cX6_lay 11 = .ok (.getfield 15, 3) := by decide +kernel
theorem dX6_lay_14 : decode cX6_lay 14 = .ok (.iload_n 1, 1) := by decide +kernel
theorem dX6_lay_15 : decode cX6_lay 15 = .ok (.iaload, 1) := by decide +kernel
theorem dX6_lay_16 : decode cX6_lay 16 = .ok (.ifCond .lt 14, 3) := by decide +kernel
theorem dX6_lay_19 : decode cX6_lay 19 = .ok (.aload_n 0, 1) := by decide +kernel
theorem dX6_lay_20 : decode cX6_lay 20 = .ok (.getfield 15, 3) := by decide +kernel
theorem dX6_lay_23 : decode cX6_lay 23 = .ok (.iload_n 1, 1) := by decide +kernel
theorem dX6_lay_24 : decode cX6_lay 24 = .ok (.iaload, 1) := by decide +kernel
theorem dX6_lay_25 : decode cX6_lay 25 = .ok (.bipush 24, 2) := by decide +kernel
theorem dX6_lay_27 : decode cX6_lay 27 = .ok (.if_icmp .lt 4, 3) := by decide +kernel
theorem dX6_lay_30 : decode cX6_lay 30 = .ok (.return_, 1) := by decide +kernel
theorem dX6_lay_31 : decode cX6_lay 31 = .ok (.aload_n 0, 1) := by decide +kernel
theorem dX6_lay_32 : decode cX6_lay 32 = .ok (.getfield 9, 3) := by decide +kernel
theorem dX6_lay_35 : decode cX6_lay 35 = .ok (.iload_n 1, 1) := by decide +kernel
theorem dX6_lay_36 : decode cX6_lay 36 = .ok (.bipush 24, 2) := by decide +kernel
theorem dX6_lay_38 : decode cX6_lay 38 = .ok (.imul, 1) := by decide +kernel
theorem dX6_lay_39 : decode cX6_lay 39 = .ok (.aload_n 0, 1) := by decide +kernel
theorem dX6_lay_40 : decode cX6_lay 40 = .ok (.getfield 15, 3) := by decide +kernel
theorem dX6_lay_43 : decode cX6_lay 43 = .ok (.iload_n 1, 1) := by decide +kernel
theorem dX6_lay_44 : decode cX6_lay 44 = .ok (.iaload, 1) := by decide +kernel
theorem dX6_lay_45 : decode cX6_lay 45 = .ok (.iadd, 1) := by decide +kernel
theorem dX6_lay_46 : decode cX6_lay 46 = .ok (.iload_n 2, 1) := by decide +kernel
theorem dX6_lay_47 : decode cX6_lay 47 = .ok (.iastore, 1) := by decide +kernel
theorem dX6_lay_48 : decode cX6_lay 48 = .ok (.aload_n 0, 1) := by decide +kernel
theorem dX6_lay_49 : decode cX6_lay 49 = .ok (.getfield 15, 3) := by decide +kernel
theorem dX6_lay_52 : decode cX6_lay 52 = .ok (.iload_n 1, 1) := by decide +kernel
theorem dX6_lay_53 : decode cX6_lay 53 = .ok (.dup2, 1) := by decide +kernel
theorem dX6_lay_54 : decode cX6_lay 54 = .ok (.iaload, 1) := by decide +kernel
theorem dX6_lay_55 : decode cX6_lay 55 = .ok (.iconst 1, 1) := by decide +kernel
theorem dX6_lay_56 : decode cX6_lay 56 = .ok (.iadd, 1) := by decide +kernel
theorem dX6_lay_57 : decode cX6_lay 57 = .ok (.iastore, 1) := by decide +kernel
theorem dX6_lay_58 : decode cX6_lay 58 = .ok (.return_, 1) := by decide +kernel
theorem dX6_lift_0 : decode cX6_lift 0 = .ok (.iload_n 1, 1) := by decide +kernel
theorem dX6_lift_1 : decode cX6_lift 1 = .ok (.ifCond .lt 30, 3) := by decide +kernel
theorem dX6_lift_4 : decode cX6_lift 4 = .ok (.iload_n 1, 1) := by decide +kernel
theorem dX6_lift_5 : decode cX6_lift 5 = .ok (.bipush 7, 2) := by decide +kernel
theorem dX6_lift_7 : decode cX6_lift 7 = .ok (.if_icmp .ge 24, 3) := by decide +kernel
theorem dX6_lift_10 : decode cX6_lift 10 = .ok (.aload_n 0, 1) := by decide +kernel
theorem dX6_lift_11 : decode cX6_lift 11 = .ok (.getfield 15, 3) := by decide +kernel
theorem dX6_lift_14 : decode cX6_lift 14 = .ok (.iload_n 1, 1) := by decide +kernel
theorem dX6_lift_15 : decode cX6_lift 15 = .ok (.iaload, 1) := by decide +kernel
theorem dX6_lift_16 : decode cX6_lift 16 = .ok (.iconst 1, 1) := by decide +kernel
theorem dX6_lift_17 : decode cX6_lift 17 = .ok (.if_icmp .lt 14, 3) := by decide +kernel
theorem dX6_lift_20 : decode cX6_lift 20 = .ok (.aload_n 0, 1) := by decide +kernel
theorem dX6_lift_21 : decode cX6_lift 21 = .ok (.getfield 15, 3) := by decide +kernel
theorem dX6_lift_24 : decode cX6_lift 24 = .ok (.iload_n 1, 1) := by decide +kernel
theorem dX6_lift_25 : decode cX6_lift 25 = .ok (.iaload, 1) := by decide +kernel
theorem dX6_lift_26 : decode cX6_lift 26 = .ok (.bipush 24, 2) := by decide +kernel
theorem dX6_lift_28 : decode cX6_lift 28 = .ok (.if_icmp .le 5, 3) := by decide +kernel
theorem dX6_lift_31 : decode cX6_lift 31 = .ok (.iconst (-1), 1) := by decide +kernel
theorem dX6_lift_32 : decode cX6_lift 32 = .ok (.ireturn, 1) := by decide +kernel
theorem dX6_lift_33 : decode cX6_lift 33 = .ok (.aload_n 0, 1) := by decide +kernel
theorem dX6_lift_34 : decode cX6_lift 34 = .ok (.getfield 15, 3) := by decide +kernel
theorem dX6_lift_37 : decode cX6_lift 37 = .ok (.iload_n 1, 1) := by decide +kernel
theorem dX6_lift_38 : decode cX6_lift 38 = .ok (.dup2, 1) := by decide +kernel
theorem dX6_lift_39 : decode cX6_lift 39 = .ok (.iaload, 1) := by decide +kernel
theorem dX6_lift_40 : decode cX6_lift 40 = .ok (.iconst 1, 1) := by decide +kernel
theorem dX6_lift_41 : decode cX6_lift 41 = .ok (.isub, 1) := by decide +kernel
theorem dX6_lift_42 : decode cX6_lift 42 = .ok (.iastore, 1) := by decide +kernel
theorem dX6_lift_43 : decode cX6_lift 43 = .ok (.aload_n 0, 1) := by decide +kernel
theorem dX6_lift_44 : decode cX6_lift 44 = .ok (.getfield 9, 3) := by decide +kernel
theorem dX6_lift_47 : decode cX6_lift 47 = .ok (.iload_n 1, 1) := by decide +kernel
theorem dX6_lift_48 : decode cX6_lift 48 = .ok (.bipush 24, 2) := by decide +kernel
theorem dX6_lift_50 : decode cX6_lift 50 = .ok (.imul, 1) := by decide +kernel
theorem dX6_lift_51 : decode cX6_lift 51 = .ok (.aload_n 0, 1) := by decide +kernel
theorem dX6_lift_52 : decode cX6_lift 52 = .ok (.getfield 15, 3) := by decide +kernel
theorem dX6_lift_55 : decode cX6_lift 55 = .ok (.iload_n 1, 1) := by decide +kernel
theorem dX6_lift_56 : decode cX6_lift 56 = .ok (.iaload, 1) := by decide +kernel
theorem dX6_lift_57 : decode cX6_lift 57 = .ok (.iadd, 1) := by decide +kernel
theorem dX6_lift_58 : decode cX6_lift 58 = .ok (.iaload, 1) := by decide +kernel
theorem dX6_lift_59 : decode cX6_lift 59 = .ok (.ireturn, 1) := by decide +kernel
theorem dX6_layInStock_0 : decode cX6_layInStock 0 = .ok (.aload_n 0, 1) := by decide +kernel
theorem dX6_layInStock_1 : decode cX6_layInStock 1 = .ok (.getfield 61, 3) := by decide +kernel
theorem dX6_layInStock_4 : decode cX6_layInStock 4 = .ok (.ifCond .lt 35, 3) := by decide +kernel
theorem dX6_layInStock_7 : decode cX6_layInStock 7 = .ok (.aload_n 0, 1) := by decide +kernel
theorem dX6_layInStock_8 : decode cX6_layInStock 8 = .ok (.getfield 61, 3) := by decide +kernel
theorem dX6_layInStock_11 : decode cX6_layInStock 11 = .ok (.aload_n 0, 1) := by decide +kernel
theorem dX6_layInStock_12 : decode cX6_layInStock 12 = .ok (.getfield 18, 3) := by decide +kernel
theorem dX6_layInStock_15 : decode cX6_layInStock 15 = .ok (.arraylength, 1) := by decide +kernel
theorem dX6_layInStock_16 : decode cX6_layInStock 16 = .ok (.if_icmp .ge 23, 3) := by decide +kernel
theorem dX6_layInStock_19 : decode cX6_layInStock 19 = .ok (.aload_n 0, 1) := by decide +kernel
theorem dX6_layInStock_20 : decode cX6_layInStock 20 = .ok (.getfield 18, 3) := by decide +kernel
theorem dX6_layInStock_23 : decode cX6_layInStock 23 = .ok (.aload_n 0, 1) := by decide +kernel
theorem dX6_layInStock_24 : decode cX6_layInStock 24 = .ok (.getfield 61, 3) := by decide +kernel
theorem dX6_layInStock_27 : decode cX6_layInStock 27 = .ok (.iload_n 1, 1) := by decide +kernel
theorem dX6_layInStock_28 : decode cX6_layInStock 28 = .ok (.iastore, 1) := by decide +kernel
theorem dX6_layInStock_29 : decode cX6_layInStock 29 = .ok (.aload_n 0, 1) := by decide +kernel
theorem dX6_layInStock_30 : decode cX6_layInStock 30 = .ok (.dup, 1) := by decide +kernel
theorem dX6_layInStock_31 : decode cX6_layInStock 31 = .ok (.getfield 61, 3) := by decide +kernel
theorem dX6_layInStock_34 : decode cX6_layInStock 34 = .ok (.iconst 1, 1) := by decide +kernel
theorem dX6_layInStock_35 : decode cX6_layInStock 35 = .ok (.iadd, 1) := by decide +kernel
theorem dX6_layInStock_36 : decode cX6_layInStock 36 = .ok (.putfield 61, 3) := by decide +kernel
theorem dX6_layInStock_39 : decode cX6_layInStock 39 = .ok (.return_, 1) := by decide +kernel
theorem dX6_stockMany_0 : decode cX6_stockMany 0 = .ok (.aload_n 0, 1) := by decide +kernel
theorem dX6_stockMany_1 : decode cX6_stockMany 1 = .ok (.getfield 61, 3) := by decide +kernel
theorem dX6_stockMany_4 : decode cX6_stockMany 4 = .ok (.aload_n 0, 1) := by decide +kernel
theorem dX6_stockMany_5 : decode cX6_stockMany 5 = .ok (.getfield 58, 3) := by decide +kernel
theorem dX6_stockMany_8 : decode cX6_stockMany 8 = .ok (.isub, 1) := by decide +kernel
theorem dX6_stockMany_9 : decode cX6_stockMany 9 = .ok (.ireturn, 1) := by decide +kernel
theorem dX6_stockCard_0 : decode cX6_stockCard 0 = .ok (.iload_n 1, 1) := by decide +kernel
theorem dX6_stockCard_1 : decode cX6_stockCard 1 = .ok (.ifCond .lt 11, 3) := by decide +kernel
theorem dX6_stockCard_4 : decode cX6_stockCard 4 = .ok (.iload_n 1, 1) := by decide +kernel
theorem dX6_stockCard_5 : decode cX6_stockCard 5 = .ok (.aload_n 0, 1) := by decide +kernel
theorem dX6_stockCard_6 : decode cX6_stockCard 6 = .ok (.invokevirtual 74, 3) := by decide +kernel
theorem dX6_stockCard_9 : decode cX6_stockCard 9 = .ok (.if_icmp .lt 5, 3) := by decide +kernel
theorem dX6_stockCard_12 : decode cX6_stockCard 12 = .ok (.iconst (-1), 1) := by decide +kernel
theorem dX6_stockCard_13 : decode cX6_stockCard 13 = .ok (.ireturn, 1) := by decide +kernel
theorem dX6_stockCard_14 : decode cX6_stockCard 14 = .ok (.aload_n 0, 1) := by decide +kernel
theorem dX6_stockCard_15 : decode cX6_stockCard 15 = .ok (.getfield 58, 3) := by decide +kernel
theorem dX6_stockCard_18 : decode cX6_stockCard 18 = .ok (.iload_n 1, 1) := by decide +kernel
theorem dX6_stockCard_19 : decode cX6_stockCard 19 = .ok (.iadd, 1) := by decide +kernel
theorem dX6_stockCard_20 : decode cX6_stockCard 20 = .ok (.istore_n 2, 1) := by decide +kernel
theorem dX6_stockCard_21 : decode cX6_stockCard 21 = .ok (.iload_n 2, 1) := by decide +kernel
theorem dX6_stockCard_22 : decode cX6_stockCard 22 = .ok (.ifCond .lt 21, 3) := by decide +kernel
theorem dX6_stockCard_25 : decode cX6_stockCard 25 = .ok (.iload_n 2, 1) := by decide +kernel
theorem dX6_stockCard_26 : decode cX6_stockCard 26 = .ok (.aload_n 0, 1) := by decide +kernel
theorem dX6_stockCard_27 : decode cX6_stockCard 27 = .ok (.getfield 18, 3) := by decide +kernel
theorem dX6_stockCard_30 : decode cX6_stockCard 30 = .ok (.arraylength, 1) := by decide +kernel
theorem dX6_stockCard_31 : decode cX6_stockCard 31 = .ok (.if_icmp .ge 12, 3) := by decide +kernel
theorem dX6_stockCard_34 : decode cX6_stockCard 34 = .ok (.aload_n 0, 1) := by decide +kernel
theorem dX6_stockCard_35 : decode cX6_stockCard 35 = .ok (.getfield 18, 3) := by decide +kernel
theorem dX6_stockCard_38 : decode cX6_stockCard 38 = .ok (.iload_n 2, 1) := by decide +kernel
theorem dX6_stockCard_39 : decode cX6_stockCard 39 = .ok (.iaload, 1) := by decide +kernel
theorem dX6_stockCard_40 : decode cX6_stockCard 40 = .ok (.goto 4, 3) := by decide +kernel
theorem dX6_stockCard_43 : decode cX6_stockCard 43 = .ok (.iconst (-1), 1) := by decide +kernel
theorem dX6_stockCard_44 : decode cX6_stockCard 44 = .ok (.ireturn, 1) := by decide +kernel
theorem dX6_homeMany_0 : decode cX6_homeMany 0 = .ok (.iconst 0, 1) := by decide +kernel
theorem dX6_homeMany_1 : decode cX6_homeMany 1 = .ok (.istore_n 1, 1) := by decide +kernel
theorem dX6_homeMany_2 : decode cX6_homeMany 2 = .ok (.iconst 0, 1) := by decide +kernel
theorem dX6_homeMany_3 : decode cX6_homeMany 3 = .ok (.istore_n 2, 1) := by decide +kernel
theorem dX6_homeMany_4 : decode cX6_homeMany 4 = .ok (.iload_n 2, 1) := by decide +kernel
theorem dX6_homeMany_5 : decode cX6_homeMany 5 = .ok (.iconst 4, 1) := by decide +kernel
theorem dX6_homeMany_6 : decode cX6_homeMany 6 = .ok (.if_icmp .ge 18, 3) := by decide +kernel
theorem dX6_homeMany_9 : decode cX6_homeMany 9 = .ok (.iload_n 1, 1) := by decide +kernel
theorem dX6_homeMany_10 : decode cX6_homeMany 10 = .ok (.aload_n 0, 1) := by decide +kernel
theorem dX6_homeMany_11 : decode cX6_homeMany 11 = .ok (.getfield 21, 3) := by decide +kernel
theorem dX6_homeMany_14 : decode cX6_homeMany 14 = .ok (.iload_n 2, 1) := by decide +kernel
theorem dX6_homeMany_15 : decode cX6_homeMany 15 = .ok (.iaload, 1) := by decide +kernel
theorem dX6_homeMany_16 : decode cX6_homeMany 16 = .ok (.iadd, 1) := by decide +kernel
theorem dX6_homeMany_17 : decode cX6_homeMany 17 = .ok (.istore_n 1, 1) := by decide +kernel
theorem dX6_homeMany_18 : decode cX6_homeMany 18 = .ok (.iinc 2 1, 3) := by decide +kernel
theorem dX6_homeMany_21 : decode cX6_homeMany 21 = .ok (.goto (-17), 3) := by decide +kernel
theorem dX6_homeMany_24 : decode cX6_homeMany 24 = .ok (.iload_n 1, 1) := by decide +kernel
theorem dX6_homeMany_25 : decode cX6_homeMany 25 = .ok (.ireturn, 1) := by decide +kernel
theorem dX6_rowsMany_0 : decode cX6_rowsMany 0 = .ok (.iconst 0, 1) := by decide +kernel
theorem dX6_rowsMany_1 : decode cX6_rowsMany 1 = .ok (.istore_n 1, 1) := by decide +kernel
theorem dX6_rowsMany_2 : decode cX6_rowsMany 2 = .ok (.iconst 0, 1) := by decide +kernel
theorem dX6_rowsMany_3 : decode cX6_rowsMany 3 = .ok (.istore_n 2, 1) := by decide +kernel
theorem dX6_rowsMany_4 : decode cX6_rowsMany 4 = .ok (.iload_n 2, 1) := by decide +kernel
theorem dX6_rowsMany_5 : decode cX6_rowsMany 5 = .ok (.aload_n 0, 1) := by decide +kernel
theorem dX6_rowsMany_6 : decode cX6_rowsMany 6 = .ok (.getfield 49, 3) := by decide +kernel
theorem dX6_rowsMany_9 : decode cX6_rowsMany 9 = .ok (.if_icmp .ge 24, 3) := by decide +kernel
theorem dX6_rowsMany_12 : decode cX6_rowsMany 12 = .ok (.iload_n 2, 1) := by decide +kernel
theorem dX6_rowsMany_13 : decode cX6_rowsMany 13 = .ok (.bipush 6, 2) := by decide +kernel
theorem dX6_rowsMany_15 : decode cX6_rowsMany 15 = .ok (.if_icmp .ge 18, 3) := by decide +kernel
theorem dX6_rowsMany_18 : decode cX6_rowsMany 18 = .ok (.iload_n 1, 1) := by decide +kernel
theorem dX6_rowsMany_19 : decode cX6_rowsMany 19 = .ok (.aload_n 0, 1) := by decide +kernel
theorem dX6_rowsMany_20 : decode cX6_rowsMany 20 = .ok (.getfield 15, 3) := by decide +kernel
theorem dX6_rowsMany_23 : decode cX6_rowsMany 23 = .ok (.iload_n 2, 1) := by decide +kernel
theorem dX6_rowsMany_24 : decode cX6_rowsMany 24 = .ok (.iaload, 1) := by decide +kernel
theorem dX6_rowsMany_25 : decode cX6_rowsMany 25 = .ok (.iadd, 1) := by decide +kernel
theorem dX6_rowsMany_26 : decode cX6_rowsMany 26 = .ok (.istore_n 1, 1) := by decide +kernel
theorem dX6_rowsMany_27 : decode cX6_rowsMany 27 = .ok (.iinc 2 1, 3) := by decide +kernel
theorem dX6_rowsMany_30 : decode cX6_rowsMany 30 = .ok (.goto (-26), 3) := by decide +kernel
theorem dX6_rowsMany_33 : decode cX6_rowsMany 33 = .ok (.iload_n 1, 1) := by decide +kernel
theorem dX6_rowsMany_34 : decode cX6_rowsMany 34 = .ok (.ireturn, 1) := by decide +kernel
theorem dX6_isRed_0 : decode cX6_isRed 0 = .ok (.aload_n 0, 1) := by decide +kernel
theorem dX6_isRed_1 : decode cX6_isRed 1 = .ok (.getfield 40, 3) := by decide +kernel
theorem dX6_isRed_4 : decode cX6_isRed 4 = .ok (.iload_n 1, 1) := by decide +kernel
theorem dX6_isRed_5 : decode cX6_isRed 5 = .ok (.ishr, 1) := by decide +kernel
theorem dX6_isRed_6 : decode cX6_isRed 6 = .ok (.iconst 1, 1) := by decide +kernel
theorem dX6_isRed_7 : decode cX6_isRed 7 = .ok (.iand, 1) := by decide +kernel
theorem dX6_isRed_8 : decode cX6_isRed 8 = .ok (.iconst 1, 1) := by decide +kernel
theorem dX6_isRed_9 : decode cX6_isRed 9 = .ok (.if_icmp .ne 7, 3) := by decide +kernel
theorem dX6_isRed_12 : decode cX6_isRed 12 = .ok (.iconst 1, 1) := by decide +kernel
theorem dX6_isRed_13 : decode cX6_isRed 13 = .ok (.goto 4, 3) := by decide +kernel
theorem dX6_isRed_16 : decode cX6_isRed 16 = .ok (.iconst 0, 1) := by decide +kernel
theorem dX6_isRed_17 : decode cX6_isRed 17 = .ok (.ireturn, 1) := by decide +kernel
theorem dX6_allows_0 : decode cX6_allows 0 = .ok (.aload_n 0, 1) := by decide +kernel
theorem dX6_allows_1 : decode cX6_allows 1 = .ok (.iload_n 1, 1) := by decide +kernel
theorem dX6_allows_2 : decode cX6_allows 2 = .ok (.invokevirtual 78, 3) := by decide +kernel
theorem dX6_allows_5 : decode cX6_allows 5 = .ok (.istore_n 3, 1) := by decide +kernel
theorem dX6_allows_6 : decode cX6_allows 6 = .ok (.iload_n 3, 1) := by decide +kernel
theorem dX6_allows_7 : decode cX6_allows 7 = .ok (.iconst (-1), 1) := by decide +kernel
theorem dX6_allows_8 : decode cX6_allows 8 = .ok (.if_icmp .eq 16, 3) := by decide +kernel
theorem dX6_allows_11 : decode cX6_allows 11 = .ok (.iload_n 1, 1) := by decide +kernel
theorem dX6_allows_12 : decode cX6_allows 12 = .ok (.iload_n 2, 1) := by decide +kernel
theorem dX6_allows_13 : decode cX6_allows 13 = .ok (.if_icmp .eq 11, 3) := by decide +kernel
theorem dX6_allows_16 : decode cX6_allows 16 = .ok (.aload_n 0, 1) := by decide +kernel
theorem dX6_allows_17 : decode cX6_allows 17 = .ok (.iload_n 2, 1) := by decide +kernel
theorem dX6_allows_18 : decode cX6_allows 18 = .ok (.invokevirtual 82, 3) := by decide +kernel
theorem dX6_allows_21 : decode cX6_allows 21 = .ok (.ifCond .ne 5, 3) := by decide +kernel
theorem dX6_allows_24 : decode cX6_allows 24 = .ok (.iconst 0, 1) := by decide +kernel
theorem dX6_allows_25 : decode cX6_allows 25 = .ok (.ireturn, 1) := by decide +kernel
theorem dX6_allows_26 : decode cX6_allows 26 = .ok (.iload_n 2, 1) := by decide +kernel
theorem dX6_allows_27 : decode cX6_allows 27 = .ok (.bipush 7, 2) := by decide +kernel
theorem dX6_allows_29 : decode cX6_allows 29 = .ok (.if_icmp .eq 10, 3) := by decide +kernel
theorem dX6_allows_32 : decode cX6_allows 32 = .ok (.aload_n 0, 1) := by decide +kernel
theorem dX6_allows_33 : decode cX6_allows 33 = .ok (.iload_n 2, 1) := by decide +kernel
theorem dX6_allows_34 : decode cX6_allows 34 = .ok (.iload_n 3, 1) := by decide +kernel
theorem dX6_allows_35 : decode cX6_allows 35 = .ok (.invokevirtual 86, 3) := by decide +kernel
theorem dX6_allows_38 : decode cX6_allows 38 = .ok (.ireturn, 1) := by decide +kernel
theorem dX6_allows_39 : decode cX6_allows 39 = .ok (.iload_n 3, 1) := by decide +kernel
theorem dX6_allows_40 : decode cX6_allows 40 = .ok (.invokestatic 90, 3) := by decide +kernel
theorem dX6_allows_43 : decode cX6_allows 43 = .ok (.istore 4, 2) := by decide +kernel
theorem dX6_allows_45 : decode cX6_allows 45 = .ok (.iload 4, 2) := by decide +kernel
theorem dX6_allows_47 : decode cX6_allows 47 = .ok (.ifCond .lt 29, 3) := by decide +kernel
theorem dX6_allows_50 : decode cX6_allows 50 = .ok (.iload 4, 2) := by decide +kernel
theorem dX6_allows_52 : decode cX6_allows 52 = .ok (.iconst 4, 1) := by decide +kernel
theorem dX6_allows_53 : decode cX6_allows 53 = .ok (.if_icmp .ge 23, 3) := by decide +kernel
theorem dX6_allows_56 : decode cX6_allows 56 = .ok (.aload_n 0, 1) := by decide +kernel
theorem dX6_allows_57 : decode cX6_allows 57 = .ok (.getfield 21, 3) := by decide +kernel
theorem dX6_allows_60 : decode cX6_allows 60 = .ok (.iload 4, 2) := by decide +kernel
theorem dX6_allows_62 : decode cX6_allows 62 = .ok (.iaload, 1) := by decide +kernel
theorem dX6_allows_63 : decode cX6_allows 63 = .ok (.iconst 1, 1) := by decide +kernel
theorem dX6_allows_64 : decode cX6_allows 64 = .ok (.iadd, 1) := by decide +kernel
theorem dX6_allows_65 : decode cX6_allows 65 = .ok (.iload_n 3, 1) := by decide +kernel
theorem dX6_allows_66 : decode cX6_allows 66 = .ok (.invokestatic 93, 3) := by decide +kernel
theorem dX6_allows_69 : decode cX6_allows 69 = .ok (.if_icmp .ne 7, 3) := by decide +kernel
theorem dX6_allows_72 : decode cX6_allows 72 = .ok (.iconst 1, 1) := by decide +kernel
theorem dX6_allows_73 : decode cX6_allows 73 = .ok (.goto 4, 3) := by decide +kernel
theorem dX6_allows_76 : decode cX6_allows 76 = .ok (.iconst 0, 1) := by decide +kernel
theorem dX6_allows_77 : decode cX6_allows 77 = .ok (.ireturn, 1) := by decide +kernel
theorem dX6_bears_0 : decode cX6_bears 0 = .ok (.aload_n 0, 1) := by decide +kernel
theorem dX6_bears_1 : decode cX6_bears 1 = .ok (.iload_n 1, 1) := by decide +kernel
theorem dX6_bears_2 : decode cX6_bears 2 = .ok (.invokevirtual 78, 3) := by decide +kernel
theorem dX6_bears_5 : decode cX6_bears 5 = .ok (.istore_n 3, 1) := by decide +kernel
theorem dX6_bears_6 : decode cX6_bears 6 = .ok (.iload_n 3, 1) := by decide +kernel
theorem dX6_bears_7 : decode cX6_bears 7 = .ok (.iconst (-1), 1) := by decide +kernel
theorem dX6_bears_8 : decode cX6_bears 8 = .ok (.if_icmp .ne 5, 3) := by decide +kernel
theorem dX6_bears_11 : decode cX6_bears 11 = .ok (.iconst 1, 1) := by decide +kernel
theorem dX6_bears_12 : decode cX6_bears 12 = .ok (.ireturn, 1) := by decide +kernel
theorem dX6_bears_13 : decode cX6_bears 13 = .ok (.aload_n 0, 1) := by decide +kernel
theorem dX6_bears_14 : decode cX6_bears 14 = .ok (.getfield 15, 3) := by decide +kernel
theorem dX6_bears_17 : decode cX6_bears 17 = .ok (.iload_n 1, 1) := by decide +kernel
theorem dX6_bears_18 : decode cX6_bears 18 = .ok (.iaload, 1) := by decide +kernel
theorem dX6_bears_19 : decode cX6_bears 19 = .ok (.bipush 12, 2) := by decide +kernel
theorem dX6_bears_21 : decode cX6_bears 21 = .ok (.if_icmp .ge 16, 3) := by decide +kernel
theorem dX6_bears_24 : decode cX6_bears 24 = .ok (.iload_n 3, 1) := by decide +kernel
theorem dX6_bears_25 : decode cX6_bears 25 = .ok (.invokestatic 93, 3) := by decide +kernel
theorem dX6_bears_28 : decode cX6_bears 28 = .ok (.iload_n 2, 1) := by decide +kernel
theorem dX6_bears_29 : decode cX6_bears 29 = .ok (.invokestatic 93, 3) := by decide +kernel
theorem dX6_bears_32 : decode cX6_bears 32 = .ok (.iconst 1, 1) := by decide +kernel
theorem dX6_bears_33 : decode cX6_bears 33 = .ok (.iadd, 1) := by decide +kernel
theorem dX6_bears_34 : decode cX6_bears 34 = .ok (.if_icmp .eq 5, 3) := by decide +kernel
theorem dX6_bears_37 : decode cX6_bears 37 = .ok (.iconst 0, 1) := by decide +kernel
theorem dX6_bears_38 : decode cX6_bears 38 = .ok (.ireturn, 1) := by decide +kernel
theorem dX6_bears_39 : decode cX6_bears 39 = .ok (.aload_n 0, 1) := by decide +kernel
theorem dX6_bears_40 : decode cX6_bears 40 = .ok (.getfield 43, 3) := by decide +kernel
theorem dX6_bears_43 : decode cX6_bears 43 = .ok (.ifCond .ne 28, 3) := by decide +kernel
theorem dX6_bears_46 : decode cX6_bears 46 = .ok (.aload_n 0, 1) := by decide +kernel
theorem dX6_bears_47 : decode cX6_bears 47 = .ok (.iload_n 2, 1) := by decide +kernel
theorem dX6_bears_48 : decode cX6_bears 48 = .ok (.invokestatic 90, 3) := by decide +kernel
theorem dX6_bears_51 : decode cX6_bears 51 = .ok (.invokevirtual 96, 3) := by decide +kernel
theorem dX6_bears_54 : decode cX6_bears 54 = .ok (.aload_n 0, 1) := by decide +kernel
theorem dX6_bears_55 : decode cX6_bears 55 = .ok (.iload_n 3, 1) := by decide +kernel
theorem dX6_bears_56 : decode cX6_bears 56 = .ok (.invokestatic 90, 3) := by decide +kernel
theorem dX6_bears_59 : decode cX6_bears 59 = .ok (.invokevirtual 96, 3) := by decide +kernel
theorem dX6_bears_62 : decode cX6_bears 62 = .ok (.if_icmp .eq 7, 3) := by decide +kernel
theorem dX6_bears_65 : decode cX6_bears 65 = .ok (.iconst 1, 1) := by decide +kernel
theorem dX6_bears_66 : decode cX6_bears 66 = .ok (.goto 4, 3) := by decide +kernel
theorem dX6_bears_69 : decode cX6_bears 69 = .ok (.iconst 0, 1) := by decide +kernel
theorem dX6_bears_70 : decode cX6_bears 70 = .ok (.ireturn, 1) := by decide +kernel
theorem dX6_bears_71 : decode cX6_bears 71 = .ok (.aload_n 0, 1) := by decide +kernel
theorem dX6_bears_72 : decode cX6_bears 72 = .ok (.getfield 43, 3) := by decide +kernel
theorem dX6_bears_75 : decode cX6_bears 75 = .ok (.iconst 1, 1) := by decide +kernel
theorem dX6_bears_76 : decode cX6_bears 76 = .ok (.if_icmp .eq 14, 3) := by decide +kernel
theorem dX6_bears_79 : decode cX6_bears 79 = .ok (.iload_n 2, 1) := by decide +kernel
theorem dX6_bears_80 : decode cX6_bears 80 = .ok (.invokestatic 90, 3) := by decide +kernel
theorem dX6_bears_83 : decode cX6_bears 83 = .ok (.iload_n 3, 1) := by decide +kernel
theorem dX6_bears_84 : decode cX6_bears 84 = .ok (.invokestatic 90, 3) := by decide +kernel
theorem dX6_bears_87 : decode cX6_bears 87 = .ok (.if_icmp .ne 7, 3) := by decide +kernel
theorem dX6_bears_90 : decode cX6_bears 90 = .ok (.iconst 1, 1) := by decide +kernel
theorem dX6_bears_91 : decode cX6_bears 91 = .ok (.goto 4, 3) := by decide +kernel
theorem dX6_bears_94 : decode cX6_bears 94 = .ok (.iconst 0, 1) := by decide +kernel
theorem dX6_bears_95 : decode cX6_bears 95 = .ok (.ireturn, 1) := by decide +kernel
theorem dX6_shift_0 : decode cX6_shift 0 = .ok (.aload_n 0, 1) := by decide +kernel
theorem dX6_shift_1 : decode cX6_shift 1 = .ok (.iload_n 1, 1) := by decide +kernel
theorem dX6_shift_2 : decode cX6_shift 2 = .ok (.invokevirtual 99, 3) := by decide +kernel
theorem dX6_shift_5 : decode cX6_shift 5 = .ok (.istore_n 3, 1) := by decide +kernel
theorem dX6_shift_6 : decode cX6_shift 6 = .ok (.iload_n 3, 1) := by decide +kernel
theorem dX6_shift_7 : decode cX6_shift 7 = .ok (.iconst (-1), 1) := by decide +kernel
theorem dX6_shift_8 : decode cX6_shift 8 = .ok (.if_icmp .ne 5, 3) := by decide +kernel
theorem dX6_shift_11 : decode cX6_shift 11 = .ok (.iconst (-1), 1) := by decide +kernel
theorem dX6_shift_12 : decode cX6_shift 12 = .ok (.ireturn, 1) := by decide +kernel
theorem dX6_shift_13 : decode cX6_shift 13 = .ok (.iload_n 2, 1) := by decide +kernel
theorem dX6_shift_14 : decode cX6_shift 14 = .ok (.bipush 7, 2) := by decide +kernel
theorem dX6_shift_16 : decode cX6_shift 16 = .ok (.if_icmp .ne 15, 3) := by decide +kernel
theorem dX6_shift_19 : decode cX6_shift 19 = .ok (.aload_n 0, 1) := by decide +kernel
theorem dX6_shift_20 : decode cX6_shift 20 = .ok (.iload_n 3, 1) := by decide +kernel
theorem dX6_shift_21 : decode cX6_shift 21 = .ok (.invokestatic 90, 3) := by decide +kernel
theorem dX6_shift_24 : decode cX6_shift 24 = .ok (.iconst 1, 1) := by decide +kernel
theorem dX6_shift_25 : decode cX6_shift 25 = .ok (.invokevirtual 102, 3) := by decide +kernel
theorem dX6_shift_28 : decode cX6_shift 28 = .ok (.goto 9, 3) := by decide +kernel
theorem dX6_shift_31 : decode cX6_shift 31 = .ok (.aload_n 0, 1) := by decide +kernel
theorem dX6_shift_32 : decode cX6_shift 32 = .ok (.iload_n 2, 1) := by decide +kernel
theorem dX6_shift_33 : decode cX6_shift 33 = .ok (.iload_n 3, 1) := by decide +kernel
theorem dX6_shift_34 : decode cX6_shift 34 = .ok (.invokevirtual 106, 3) := by decide +kernel
theorem dX6_shift_37 : decode cX6_shift 37 = .ok (.iload_n 3, 1) := by decide +kernel
theorem dX6_shift_38 : decode cX6_shift 38 = .ok (.ireturn, 1) := by decide +kernel
theorem dX6_unshift_0 : decode cX6_unshift 0 = .ok (.iload_n 3, 1) := by decide +kernel
theorem dX6_unshift_1 : decode cX6_unshift 1 = .ok (.bipush 7, 2) := by decide +kernel
theorem dX6_unshift_3 : decode cX6_unshift 3 = .ok (.if_icmp .ne 15, 3) := by decide +kernel
theorem dX6_unshift_6 : decode cX6_unshift 6 = .ok (.aload_n 0, 1) := by decide +kernel
theorem dX6_unshift_7 : decode cX6_unshift 7 = .ok (.iload_n 1, 1) := by decide +kernel
theorem dX6_unshift_8 : decode cX6_unshift 8 = .ok (.invokestatic 90, 3) := by decide +kernel
theorem dX6_unshift_11 : decode cX6_unshift 11 = .ok (.iconst (-1), 1) := by decide +kernel
theorem dX6_unshift_12 : decode cX6_unshift 12 = .ok (.invokevirtual 102, 3) := by decide +kernel
theorem dX6_unshift_15 : decode cX6_unshift 15 = .ok (.goto 9, 3) := by decide +kernel
theorem dX6_unshift_18 : decode cX6_unshift 18 = .ok (.aload_n 0, 1) := by decide +kernel
theorem dX6_unshift_19 : decode cX6_unshift 19 = .ok (.iload_n 3, 1) := by decide +kernel
theorem dX6_unshift_20 : decode cX6_unshift 20 = .ok (.invokevirtual 99, 3) := by decide +kernel
theorem dX6_unshift_23 : decode cX6_unshift 23 = .ok (.pop, 1) := by decide +kernel
theorem dX6_unshift_24 : decode cX6_unshift 24 = .ok (.aload_n 0, 1) := by decide +kernel
theorem dX6_unshift_25 : decode cX6_unshift 25 = .ok (.iload_n 2, 1) := by decide +kernel
theorem dX6_unshift_26 : decode cX6_unshift 26 = .ok (.iload_n 1, 1) := by decide +kernel
theorem dX6_unshift_27 : decode cX6_unshift 27 = .ok (.invokevirtual 106, 3) := by decide +kernel
theorem dX6_unshift_30 : decode cX6_unshift 30 = .ok (.return_, 1) := by decide +kernel
theorem dX6_raise_0 : decode cX6_raise 0 = .ok (.iload_n 1, 1) := by decide +kernel
theorem dX6_raise_1 : decode cX6_raise 1 = .ok (.ifCond .lt 18, 3) := by decide +kernel
theorem dX6_raise_4 : decode cX6_raise 4 = .ok (.iload_n 1, 1) := by decide +kernel
theorem dX6_raise_5 : decode cX6_raise 5 = .ok (.iconst 4, 1) := by decide +kernel
theorem dX6_raise_6 : decode cX6_raise 6 = .ok (.if_icmp .ge 13, 3) := by decide +kernel
theorem dX6_raise_9 : decode cX6_raise 9 = .ok (.aload_n 0, 1) := by decide +kernel
theorem dX6_raise_10 : decode cX6_raise 10 = .ok (.getfield 21, 3) := by decide +kernel
theorem dX6_raise_13 : decode cX6_raise 13 = .ok (.iload_n 1, 1) := by decide +kernel
theorem dX6_raise_14 : decode cX6_raise 14 = .ok (.dup2, 1) := by decide +kernel
theorem dX6_raise_15 : decode cX6_raise 15 = .ok (.iaload, 1) := by decide +kernel
theorem dX6_raise_16 : decode cX6_raise 16 = .ok (.iload_n 2, 1) := by decide +kernel
theorem dX6_raise_17 : decode cX6_raise 17 = .ok (.iadd, 1) := by decide +kernel
theorem dX6_raise_18 : decode cX6_raise 18 = .ok (.iastore, 1) := by decide +kernel
theorem dX6_raise_19 : decode cX6_raise 19 = .ok (.return_, 1) := by decide +kernel
theorem dX6_listMoves_0 : decode cX6_listMoves 0 = .ok (.iconst 0, 1) := by decide +kernel
theorem dX6_listMoves_1 : decode cX6_listMoves 1 = .ok (.istore_n 3, 1) := by decide +kernel
theorem dX6_listMoves_2 : decode cX6_listMoves 2 = .ok (.iconst 0, 1) := by decide +kernel
theorem dX6_listMoves_3 : decode cX6_listMoves 3 = .ok (.istore 4, 2) := by decide +kernel
theorem dX6_listMoves_5 : decode cX6_listMoves 5 = .ok (.iload 4, 2) := by decide +kernel
theorem dX6_listMoves_7 : decode cX6_listMoves 7 = .ok (.bipush 7, 2) := by decide +kernel
theorem dX6_listMoves_9 : decode cX6_listMoves 9 = .ok (.if_icmp .ge 81, 3) := by decide +kernel
theorem dX6_listMoves_12 : decode cX6_listMoves 12 = .ok (.aload_n 0, 1) := by decide +kernel
theorem dX6_listMoves_13 : decode cX6_listMoves 13 = .ok (.getfield 15, 3) := by decide +kernel
theorem dX6_listMoves_16 : decode cX6_listMoves 16 = .ok (.iload 4, 2) := by decide +kernel
theorem dX6_listMoves_18 : decode cX6_listMoves 18 = .ok (.iaload, 1) := by decide +kernel
theorem dX6_listMoves_19 : decode cX6_listMoves 19 = .ok (.ifCond .ne 6, 3) := by decide +kernel
theorem dX6_listMoves_22 : decode cX6_listMoves 22 = .ok (.goto 62, 3) := by decide +kernel
theorem dX6_listMoves_25 : decode cX6_listMoves 25 = .ok (.iconst 0, 1) := by decide +kernel
theorem dX6_listMoves_26 : decode cX6_listMoves 26 = .ok (.istore 5, 2) := by decide +kernel
theorem dX6_listMoves_28 : decode cX6_listMoves 28 = .ok (.iload 5, 2) := by decide +kernel
theorem dX6_listMoves_30 : decode cX6_listMoves 30 = .ok (.bipush 7, 2) := by decide +kernel
theorem dX6_listMoves_32 : decode cX6_listMoves 32 = .ok (.if_icmp .gt 52, 3) := by decide +kernel
theorem dX6_listMoves_35 : decode cX6_listMoves 35 = .ok (.iload_n 2, 1) := by decide +kernel
theorem dX6_listMoves_36 : decode cX6_listMoves 36 = .ok (.iload_n 3, 1) := by decide +kernel
theorem dX6_listMoves_37 : decode cX6_listMoves 37 = .ok (.iadd, 1) := by decide +kernel
theorem dX6_listMoves_38 : decode cX6_listMoves 38 = .ok (.istore 6, 2) := by decide +kernel
theorem dX6_listMoves_40 : decode cX6_listMoves 40 = .ok (.aload_n 0, 1) := by decide +kernel
theorem dX6_listMoves_41 : decode cX6_listMoves 41 = .ok (.iload 4, 2) := by decide +kernel
theorem dX6_listMoves_43 : decode cX6_listMoves 43 = .ok (.iload 5, 2) := by decide +kernel
theorem dX6_listMoves_45 : decode cX6_listMoves 45 = .ok (.invokevirtual 109, 3) := by decide +kernel
theorem dX6_listMoves_48 : decode cX6_listMoves 48 = .ok (.ifCond .eq 30, 3) := by decide +kernel
theorem dX6_listMoves_51 : decode cX6_listMoves 51 = .ok (.iload 6, 2) := by decide +kernel
theorem dX6_listMoves_53 : decode cX6_listMoves 53 = .ok (.ifCond .lt 25, 3) := by decide +kernel
theorem dX6_listMoves_56 : decode cX6_listMoves 56 = .ok (.iload 6, 2) := by decide +kernel
theorem dX6_listMoves_58 : decode cX6_listMoves 58 = .ok (.aload_n 1, 1) := by decide +kernel
theorem dX6_listMoves_59 : decode cX6_listMoves 59 = .ok (.arraylength, 1) := by decide +kernel
theorem dX6_listMoves_60 : decode cX6_listMoves 60 = .ok (.if_icmp .ge 18, 3) := by decide +kernel
theorem dX6_listMoves_63 : decode cX6_listMoves 63 = .ok (.aload_n 1, 1) := by decide +kernel
theorem dX6_listMoves_64 : decode cX6_listMoves 64 = .ok (.iload 6, 2) := by decide +kernel
theorem dX6_listMoves_66 : decode cX6_listMoves 66 = .ok (.bipush 10, 2) := by decide +kernel
theorem dX6_listMoves_68 : decode cX6_listMoves 68 = .ok (.iload 4, 2) := by decide +kernel
theorem dX6_listMoves_70 : decode cX6_listMoves 70 = .ok (.imul, 1) := by decide +kernel
theorem dX6_listMoves_71 : decode cX6_listMoves 71 = .ok (.iload 5, 2) := by decide +kernel
theorem dX6_listMoves_73 : decode cX6_listMoves 73 = .ok (.iadd, 1) := by decide +kernel
theorem dX6_listMoves_74 : decode cX6_listMoves 74 = .ok (.iastore, 1) := by decide +kernel
theorem dX6_listMoves_75 : decode cX6_listMoves 75 = .ok (.iinc 3 1, 3) := by decide +kernel
theorem dX6_listMoves_78 : decode cX6_listMoves 78 = .ok (.iinc 5 1, 3) := by decide +kernel
theorem dX6_listMoves_81 : decode cX6_listMoves 81 = .ok (.goto (-53), 3) := by decide +kernel
theorem dX6_listMoves_84 : decode cX6_listMoves 84 = .ok (.iinc 4 1, 3) := by decide +kernel
theorem dX6_listMoves_87 : decode cX6_listMoves 87 = .ok (.goto (-82), 3) := by decide +kernel
theorem dX6_listMoves_90 : decode cX6_listMoves 90 = .ok (.iload_n 3, 1) := by decide +kernel
theorem dX6_listMoves_91 : decode cX6_listMoves 91 = .ok (.ireturn, 1) := by decide +kernel
theorem dX6_hasDeal_0 : decode cX6_hasDeal 0 = .ok (.aload_n 0, 1) := by decide +kernel
theorem dX6_hasDeal_1 : decode cX6_hasDeal 1 = .ok (.invokevirtual 74, 3) := by decide +kernel
theorem dX6_hasDeal_4 : decode cX6_hasDeal 4 = .ok (.ifCond .gt 20, 3) := by decide +kernel
theorem dX6_hasDeal_7 : decode cX6_hasDeal 7 = .ok (.aload_n 0, 1) := by decide +kernel
theorem dX6_hasDeal_8 : decode cX6_hasDeal 8 = .ok (.getfield 46, 3) := by decide +kernel
theorem dX6_hasDeal_11 : decode cX6_hasDeal 11 = .ok (.ifCond .le 17, 3) := by decide +kernel
theorem dX6_hasDeal_14 : decode cX6_hasDeal 14 = .ok (.aload_n 0, 1) := by decide +kernel
theorem dX6_hasDeal_15 : decode cX6_hasDeal 15 = .ok (.getfield 15, 3) := by decide +kernel
theorem dX6_hasDeal_18 : decode cX6_hasDeal 18 = .ok (.bipush 6, 2) := by decide +kernel
theorem dX6_hasDeal_20 : decode cX6_hasDeal 20 = .ok (.iaload, 1) := by decide +kernel
theorem dX6_hasDeal_21 : decode cX6_hasDeal 21 = .ok (.ifCond .le 7, 3) := by decide +kernel
theorem dX6_hasDeal_24 : decode cX6_hasDeal 24 = .ok (.iconst 1, 1) := by decide +kernel
theorem dX6_hasDeal_25 : decode cX6_hasDeal 25 = .ok (.goto 4, 3) := by decide +kernel
theorem dX6_hasDeal_28 : decode cX6_hasDeal 28 = .ok (.iconst 0, 1) := by decide +kernel
theorem dX6_hasDeal_29 : decode cX6_hasDeal 29 = .ok (.ireturn, 1) := by decide +kernel
theorem dX6_turnUp_0 : decode cX6_turnUp 0 = .ok (.aload_n 0, 1) := by decide +kernel
theorem dX6_turnUp_1 : decode cX6_turnUp 1 = .ok (.invokevirtual 74, 3) := by decide +kernel
theorem dX6_turnUp_4 : decode cX6_turnUp 4 = .ok (.ifCond .le 28, 3) := by decide +kernel
theorem dX6_turnUp_7 : decode cX6_turnUp 7 = .ok (.aload_n 0, 1) := by decide +kernel
theorem dX6_turnUp_8 : decode cX6_turnUp 8 = .ok (.iconst 0, 1) := by decide +kernel
theorem dX6_turnUp_9 : decode cX6_turnUp 9 = .ok (.invokevirtual 112, 3) := by decide +kernel
theorem dX6_turnUp_12 : decode cX6_turnUp 12 = .ok (.istore_n 1, 1) := by decide +kernel
theorem dX6_turnUp_13 : decode cX6_turnUp 13 = .ok (.aload_n 0, 1) := by decide +kernel
theorem dX6_turnUp_14 : decode cX6_turnUp 14 = .ok (.dup, 1) := by decide +kernel
theorem dX6_turnUp_15 : decode cX6_turnUp 15 = .ok (.getfield 58, 3) := by decide +kernel
theorem dX6_turnUp_18 : decode cX6_turnUp 18 = .ok (.iconst 1, 1) := by decide +kernel
theorem dX6_turnUp_19 : decode cX6_turnUp 19 = .ok (.iadd, 1) := by decide +kernel
theorem dX6_turnUp_20 : decode cX6_turnUp 20 = .ok (.putfield 58, 3) := by decide +kernel
theorem dX6_turnUp_23 : decode cX6_turnUp 23 = .ok (.aload_n 0, 1) := by decide +kernel
theorem dX6_turnUp_24 : decode cX6_turnUp 24 = .ok (.bipush 6, 2) := by decide +kernel
theorem dX6_turnUp_26 : decode cX6_turnUp 26 = .ok (.iload_n 1, 1) := by decide +kernel
theorem dX6_turnUp_27 : decode cX6_turnUp 27 = .ok (.invokevirtual 106, 3) := by decide +kernel
theorem dX6_turnUp_30 : decode cX6_turnUp 30 = .ok (.iload_n 1, 1) := by decide +kernel
theorem dX6_turnUp_31 : decode cX6_turnUp 31 = .ok (.ireturn, 1) := by decide +kernel
theorem dX6_turnUp_32 : decode cX6_turnUp 32 = .ok (.aload_n 0, 1) := by decide +kernel
theorem dX6_turnUp_33 : decode cX6_turnUp 33 = .ok (.iconst 0, 1) := by decide +kernel
theorem dX6_turnUp_34 : decode cX6_turnUp 34 = .ok (.putfield 58, 3) := by decide +kernel
theorem dX6_turnUp_37 : decode cX6_turnUp 37 = .ok (.aload_n 0, 1) := by decide +kernel
theorem dX6_turnUp_38 : decode cX6_turnUp 38 = .ok (.iconst 0, 1) := by decide +kernel
theorem dX6_turnUp_39 : decode cX6_turnUp 39 = .ok (.putfield 61, 3) := by decide +kernel
theorem dX6_turnUp_42 : decode cX6_turnUp 42 = .ok (.iconst 0, 1) := by decide +kernel
theorem dX6_turnUp_43 : decode cX6_turnUp 43 = .ok (.istore_n 1, 1) := by decide +kernel
theorem dX6_turnUp_44 : decode cX6_turnUp 44 = .ok (.iload_n 1, 1) := by decide +kernel
theorem dX6_turnUp_45 : decode cX6_turnUp 45 = .ok (.aload_n 0, 1) := by decide +kernel
theorem dX6_turnUp_46 : decode cX6_turnUp 46 = .ok (.getfield 15, 3) := by decide +kernel
theorem dX6_turnUp_49 : decode cX6_turnUp 49 = .ok (.bipush 6, 2) := by decide +kernel
theorem dX6_turnUp_51 : decode cX6_turnUp 51 = .ok (.iaload, 1) := by decide +kernel
theorem dX6_turnUp_52 : decode cX6_turnUp 52 = .ok (.if_icmp .ge 20, 3) := by decide +kernel
theorem dX6_turnUp_55 : decode cX6_turnUp 55 = .ok (.aload_n 0, 1) := by decide +kernel
theorem dX6_turnUp_56 : decode cX6_turnUp 56 = .ok (.aload_n 0, 1) := by decide +kernel
theorem dX6_turnUp_57 : decode cX6_turnUp 57 = .ok (.bipush 6, 2) := by decide +kernel
theorem dX6_turnUp_59 : decode cX6_turnUp 59 = .ok (.iload_n 1, 1) := by decide +kernel
theorem dX6_turnUp_60 : decode cX6_turnUp 60 = .ok (.invokevirtual 115, 3) := by decide +kernel
theorem dX6_turnUp_63 : decode cX6_turnUp 63 = .ok (.invokevirtual 119, 3) := by decide +kernel
theorem dX6_turnUp_66 : decode cX6_turnUp 66 = .ok (.iinc 1 1, 3) := by decide +kernel
theorem dX6_turnUp_69 : decode cX6_turnUp 69 = .ok (.goto (-25), 3) := by decide +kernel
theorem dX6_turnUp_72 : decode cX6_turnUp 72 = .ok (.aload_n 0, 1) := by decide +kernel
theorem dX6_turnUp_73 : decode cX6_turnUp 73 = .ok (.getfield 15, 3) := by decide +kernel
theorem dX6_turnUp_76 : decode cX6_turnUp 76 = .ok (.bipush 6, 2) := by decide +kernel
theorem dX6_turnUp_78 : decode cX6_turnUp 78 = .ok (.iconst 0, 1) := by decide +kernel
theorem dX6_turnUp_79 : decode cX6_turnUp 79 = .ok (.iastore, 1) := by decide +kernel
theorem dX6_turnUp_80 : decode cX6_turnUp 80 = .ok (.aload_n 0, 1) := by decide +kernel
theorem dX6_turnUp_81 : decode cX6_turnUp 81 = .ok (.dup, 1) := by decide +kernel
theorem dX6_turnUp_82 : decode cX6_turnUp 82 = .ok (.getfield 46, 3) := by decide +kernel
theorem dX6_turnUp_85 : decode cX6_turnUp 85 = .ok (.iconst 1, 1) := by decide +kernel
theorem dX6_turnUp_86 : decode cX6_turnUp 86 = .ok (.isub, 1) := by decide +kernel
theorem dX6_turnUp_87 : decode cX6_turnUp 87 = .ok (.putfield 46, 3) := by decide +kernel
theorem dX6_turnUp_90 : decode cX6_turnUp 90 = .ok (.iconst (-1), 1) := by decide +kernel
theorem dX6_turnUp_91 : decode cX6_turnUp 91 = .ok (.ireturn, 1) := by decide +kernel
theorem dX6_ripen_0 : decode cX6_ripen 0 = .ok (.aload_n 0, 1) := by decide +kernel
theorem dX6_ripen_1 : decode cX6_ripen 1 = .ok (.getfield 15, 3) := by decide +kernel
theorem dX6_ripen_4 : decode cX6_ripen 4 = .ok (.iconst 0, 1) := by decide +kernel
theorem dX6_ripen_5 : decode cX6_ripen 5 = .ok (.aload_n 0, 1) := by decide +kernel
theorem dX6_ripen_6 : decode cX6_ripen 6 = .ok (.getfield 28, 3) := by decide +kernel
theorem dX6_ripen_9 : decode cX6_ripen 9 = .ok (.iconst 0, 1) := by decide +kernel
theorem dX6_ripen_10 : decode cX6_ripen 10 = .ok (.aload_n 0, 1) := by decide +kernel
theorem dX6_ripen_11 : decode cX6_ripen 11 = .ok (.getfield 28, 3) := by decide +kernel
theorem dX6_ripen_14 : decode cX6_ripen 14 = .ok (.arraylength, 1) := by decide +kernel
theorem dX6_ripen_15 : decode cX6_ripen 15 = .ok (.invokestatic 64, 3) := by decide +kernel
theorem dX6_ripen_18 : decode cX6_ripen 18 = .ok (.aload_n 0, 1) := by decide +kernel
theorem dX6_ripen_19 : decode cX6_ripen 19 = .ok (.getfield 21, 3) := by decide +kernel
theorem dX6_ripen_22 : decode cX6_ripen 22 = .ok (.iconst 0, 1) := by decide +kernel
theorem dX6_ripen_23 : decode cX6_ripen 23 = .ok (.aload_n 0, 1) := by decide +kernel
theorem dX6_ripen_24 : decode cX6_ripen 24 = .ok (.getfield 31, 3) := by decide +kernel
theorem dX6_ripen_27 : decode cX6_ripen 27 = .ok (.iconst 0, 1) := by decide +kernel
theorem dX6_ripen_28 : decode cX6_ripen 28 = .ok (.aload_n 0, 1) := by decide +kernel
theorem dX6_ripen_29 : decode cX6_ripen 29 = .ok (.getfield 31, 3) := by decide +kernel
theorem dX6_ripen_32 : decode cX6_ripen 32 = .ok (.arraylength, 1) := by decide +kernel
theorem dX6_ripen_33 : decode cX6_ripen 33 = .ok (.invokestatic 64, 3) := by decide +kernel
theorem dX6_ripen_36 : decode cX6_ripen 36 = .ok (.iconst 1, 1) := by decide +kernel
theorem dX6_ripen_37 : decode cX6_ripen 37 = .ok (.istore_n 1, 1) := by decide +kernel
theorem dX6_ripen_38 : decode cX6_ripen 38 = .ok (.iconst 0, 1) := by decide +kernel
theorem dX6_ripen_39 : decode cX6_ripen 39 = .ok (.istore_n 2, 1) := by decide +kernel
theorem dX6_ripen_40 : decode cX6_ripen 40 = .ok (.iload_n 1, 1) := by decide +kernel
theorem dX6_ripen_41 : decode cX6_ripen 41 = .ok (.ifCond .eq 39, 3) := by decide +kernel
theorem dX6_ripen_44 : decode cX6_ripen 44 = .ok (.iload_n 2, 1) := by decide +kernel
theorem dX6_ripen_45 : decode cX6_ripen 45 = .ok (.bipush 24, 2) := by decide +kernel
theorem dX6_ripen_47 : decode cX6_ripen 47 = .ok (.if_icmp .gt 33, 3) := by decide +kernel
theorem dX6_ripen_50 : decode cX6_ripen 50 = .ok (.iconst 0, 1) := by decide +kernel
theorem dX6_ripen_51 : decode cX6_ripen 51 = .ok (.istore_n 1, 1) := by decide +kernel
theorem dX6_ripen_52 : decode cX6_ripen 52 = .ok (.iconst 0, 1) := by decide +kernel
theorem dX6_ripen_53 : decode cX6_ripen 53 = .ok (.istore_n 3, 1) := by decide +kernel
theorem dX6_ripen_54 : decode cX6_ripen 54 = .ok (.iload_n 3, 1) := by decide +kernel
theorem dX6_ripen_55 : decode cX6_ripen 55 = .ok (.bipush 7, 2) := by decide +kernel
theorem dX6_ripen_57 : decode cX6_ripen 57 = .ok (.if_icmp .ge 17, 3) := by decide +kernel
theorem dX6_ripen_60 : decode cX6_ripen 60 = .ok (.iload_n 1, 1) := by decide +kernel
theorem dX6_ripen_61 : decode cX6_ripen 61 = .ok (.aload_n 0, 1) := by decide +kernel
theorem dX6_ripen_62 : decode cX6_ripen 62 = .ok (.iload_n 3, 1) := by decide +kernel
theorem dX6_ripen_63 : decode cX6_ripen 63 = .ok (.invokevirtual 123, 3) := by decide +kernel
theorem dX6_ripen_66 : decode cX6_ripen 66 = .ok (.ior, 1) := by decide +kernel
theorem dX6_ripen_67 : decode cX6_ripen 67 = .ok (.istore_n 1, 1) := by decide +kernel
theorem dX6_ripen_68 : decode cX6_ripen 68 = .ok (.iinc 3 1, 3) := by decide +kernel
theorem dX6_ripen_71 : decode cX6_ripen 71 = .ok (.goto (-17), 3) := by decide +kernel
theorem dX6_ripen_74 : decode cX6_ripen 74 = .ok (.iinc 2 1, 3) := by decide +kernel
theorem dX6_ripen_77 : decode cX6_ripen 77 = .ok (.goto (-37), 3) := by decide +kernel
theorem dX6_ripen_80 : decode cX6_ripen 80 = .ok (.return_, 1) := by decide +kernel
theorem dX6_ripenPile_0 : decode cX6_ripenPile 0 = .ok (.iconst 0, 1) := by decide +kernel
theorem dX6_ripenPile_1 : decode cX6_ripenPile 1 = .ok (.istore_n 2, 1) := by decide +kernel
theorem dX6_ripenPile_2 : decode cX6_ripenPile 2 = .ok (.aload_n 0, 1) := by decide +kernel
theorem dX6_ripenPile_3 : decode cX6_ripenPile 3 = .ok (.getfield 28, 3) := by decide +kernel
theorem dX6_ripenPile_6 : decode cX6_ripenPile 6 = .ok (.iload_n 1, 1) := by decide +kernel
theorem dX6_ripenPile_7 : decode cX6_ripenPile 7 = .ok (.iaload, 1) := by decide +kernel
theorem dX6_ripenPile_8 : decode cX6_ripenPile 8 = .ok (.iconst 1, 1) := by decide +kernel
theorem dX6_ripenPile_9 : decode cX6_ripenPile 9 = .ok (.isub, 1) := by decide +kernel
theorem dX6_ripenPile_10 : decode cX6_ripenPile 10 = .ok (.istore_n 3, 1) := by decide +kernel
theorem dX6_ripenPile_11 : decode cX6_ripenPile 11 = .ok (.iload_n 3, 1) := by decide +kernel
theorem dX6_ripenPile_12 : decode cX6_ripenPile 12 = .ok (.ifCond .lt 75, 3) := by decide +kernel
theorem dX6_ripenPile_15 : decode cX6_ripenPile 15 = .ok (.aload_n 0, 1) := by decide +kernel
theorem dX6_ripenPile_16 : decode cX6_ripenPile 16 = .ok (.iload_n 1, 1) := by decide +kernel
theorem dX6_ripenPile_17 : decode cX6_ripenPile 17 = .ok (.iload_n 3, 1) := by decide +kernel
theorem dX6_ripenPile_18 : decode cX6_ripenPile 18 = .ok (.invokevirtual 115, 3) := by decide +kernel
theorem dX6_ripenPile_21 : decode cX6_ripenPile 21 = .ok (.istore 4, 2) := by decide +kernel
theorem dX6_ripenPile_23 : decode cX6_ripenPile 23 = .ok (.iload 4, 2) := by decide +kernel
theorem dX6_ripenPile_25 : decode cX6_ripenPile 25 = .ok (.invokestatic 90, 3) := by decide +kernel
theorem dX6_ripenPile_28 : decode cX6_ripenPile 28 = .ok (.istore 5, 2) := by decide +kernel
theorem dX6_ripenPile_30 : decode cX6_ripenPile 30 = .ok (.iload 4, 2) := by decide +kernel
theorem dX6_ripenPile_32 : decode cX6_ripenPile 32 = .ok (.iconst (-1), 1) := by decide +kernel
theorem dX6_ripenPile_33 : decode cX6_ripenPile 33 = .ok (.if_icmp .eq 26, 3) := by decide +kernel
theorem dX6_ripenPile_36 : decode cX6_ripenPile 36 = .ok (.iload 5, 2) := by decide +kernel
theorem dX6_ripenPile_38 : decode cX6_ripenPile 38 = .ok (.iconst 4, 1) := by decide +kernel
theorem dX6_ripenPile_39 : decode cX6_ripenPile 39 = .ok (.if_icmp .ge 20, 3) := by decide +kernel
theorem dX6_ripenPile_42 : decode cX6_ripenPile 42 = .ok (.aload_n 0, 1) := by decide +kernel
theorem dX6_ripenPile_43 : decode cX6_ripenPile 43 = .ok (.getfield 31, 3) := by decide +kernel
theorem dX6_ripenPile_46 : decode cX6_ripenPile 46 = .ok (.iload 5, 2) := by decide +kernel
theorem dX6_ripenPile_48 : decode cX6_ripenPile 48 = .ok (.iaload, 1) := by decide +kernel
theorem dX6_ripenPile_49 : decode cX6_ripenPile 49 = .ok (.iconst 1, 1) := by decide +kernel
theorem dX6_ripenPile_50 : decode cX6_ripenPile 50 = .ok (.iadd, 1) := by decide +kernel
theorem dX6_ripenPile_51 : decode cX6_ripenPile 51 = .ok (.iload 4, 2) := by decide +kernel
theorem dX6_ripenPile_53 : decode cX6_ripenPile 53 = .ok (.invokestatic 93, 3) := by decide +kernel
theorem dX6_ripenPile_56 : decode cX6_ripenPile 56 = .ok (.if_icmp .eq 5, 3) := by decide +kernel
theorem dX6_ripenPile_59 : decode cX6_ripenPile 59 = .ok (.iload_n 2, 1) := by decide +kernel
theorem dX6_ripenPile_60 : decode cX6_ripenPile 60 = .ok (.ireturn, 1) := by decide +kernel
theorem dX6_ripenPile_61 : decode cX6_ripenPile 61 = .ok (.aload_n 0, 1) := by decide +kernel
theorem dX6_ripenPile_62 : decode cX6_ripenPile 62 = .ok (.getfield 31, 3) := by decide +kernel
theorem dX6_ripenPile_65 : decode cX6_ripenPile 65 = .ok (.iload 5, 2) := by decide +kernel
theorem dX6_ripenPile_67 : decode cX6_ripenPile 67 = .ok (.dup2, 1) := by decide +kernel
theorem dX6_ripenPile_68 : decode cX6_ripenPile 68 = .ok (.iaload, 1) := by decide +kernel
theorem dX6_ripenPile_69 : decode cX6_ripenPile 69 = .ok (.iconst 1, 1) := by decide +kernel
theorem dX6_ripenPile_70 : decode cX6_ripenPile 70 = .ok (.iadd, 1) := by decide +kernel
theorem dX6_ripenPile_71 : decode cX6_ripenPile 71 = .ok (.iastore, 1) := by decide +kernel
theorem dX6_ripenPile_72 : decode cX6_ripenPile 72 = .ok (.aload_n 0, 1) := by decide +kernel
theorem dX6_ripenPile_73 : decode cX6_ripenPile 73 = .ok (.getfield 28, 3) := by decide +kernel
theorem dX6_ripenPile_76 : decode cX6_ripenPile 76 = .ok (.iload_n 1, 1) := by decide +kernel
theorem dX6_ripenPile_77 : decode cX6_ripenPile 77 = .ok (.iload_n 3, 1) := by decide +kernel
theorem dX6_ripenPile_78 : decode cX6_ripenPile 78 = .ok (.iastore, 1) := by decide +kernel
theorem dX6_ripenPile_79 : decode cX6_ripenPile 79 = .ok (.iconst 1, 1) := by decide +kernel
theorem dX6_ripenPile_80 : decode cX6_ripenPile 80 = .ok (.istore_n 2, 1) := by decide +kernel
theorem dX6_ripenPile_81 : decode cX6_ripenPile 81 = .ok (.iinc 3 (-1), 3) := by decide +kernel
theorem dX6_ripenPile_84 : decode cX6_ripenPile 84 = .ok (.goto (-73), 3) := by decide +kernel
theorem dX6_ripenPile_87 : decode cX6_ripenPile 87 = .ok (.iload_n 2, 1) := by decide +kernel
theorem dX6_ripenPile_88 : decode cX6_ripenPile 88 = .ok (.ireturn, 1) := by decide +kernel
theorem dX6_settle_0 : decode cX6_settle 0 = .ok (.aload_n 0, 1) := by decide +kernel
theorem dX6_settle_1 : decode cX6_settle 1 = .ok (.getfield 28, 3) := by decide +kernel
theorem dX6_settle_4 : decode cX6_settle 4 = .ok (.iconst 0, 1) := by decide +kernel
theorem dX6_settle_5 : decode cX6_settle 5 = .ok (.aload_n 0, 1) := by decide +kernel
theorem dX6_settle_6 : decode cX6_settle 6 = .ok (.getfield 15, 3) := by decide +kernel
theorem dX6_settle_9 : decode cX6_settle 9 = .ok (.iconst 0, 1) := by decide +kernel
theorem dX6_settle_10 : decode cX6_settle 10 = .ok (.aload_n 0, 1) := by decide +kernel
theorem dX6_settle_11 : decode cX6_settle 11 = .ok (.getfield 15, 3) := by decide +kernel
theorem dX6_settle_14 : decode cX6_settle 14 = .ok (.arraylength, 1) := by decide +kernel
theorem dX6_settle_15 : decode cX6_settle 15 = .ok (.invokestatic 64, 3) := by decide +kernel
theorem dX6_settle_18 : decode cX6_settle 18 = .ok (.aload_n 0, 1) := by decide +kernel
theorem dX6_settle_19 : decode cX6_settle 19 = .ok (.getfield 31, 3) := by decide +kernel
theorem dX6_settle_22 : decode cX6_settle 22 = .ok (.iconst 0, 1) := by decide +kernel
theorem dX6_settle_23 : decode cX6_settle 23 = .ok (.aload_n 0, 1) := by decide +kernel
theorem dX6_settle_24 : decode cX6_settle 24 = .ok (.getfield 21, 3) := by decide +kernel
theorem dX6_settle_27 : decode cX6_settle 27 = .ok (.iconst 0, 1) := by decide +kernel
theorem dX6_settle_28 : decode cX6_settle 28 = .ok (.aload_n 0, 1) := by decide +kernel
theorem dX6_settle_29 : decode cX6_settle 29 = .ok (.getfield 21, 3) := by decide +kernel
theorem dX6_settle_32 : decode cX6_settle 32 = .ok (.arraylength, 1) := by decide +kernel
theorem dX6_settle_33 : decode cX6_settle 33 = .ok (.invokestatic 64, 3) := by decide +kernel
theorem dX6_settle_36 : decode cX6_settle 36 = .ok (.return_, 1) := by decide +kernel
theorem dX6_riseMany_0 : decode cX6_riseMany 0 = .ok (.iconst 0, 1) := by decide +kernel
theorem dX6_riseMany_1 : decode cX6_riseMany 1 = .ok (.istore_n 1, 1) := by decide +kernel
theorem dX6_riseMany_2 : decode cX6_riseMany 2 = .ok (.iconst 0, 1) := by decide +kernel
theorem dX6_riseMany_3 : decode cX6_riseMany 3 = .ok (.istore_n 2, 1) := by decide +kernel
theorem dX6_riseMany_4 : decode cX6_riseMany 4 = .ok (.iload_n 2, 1) := by decide +kernel
theorem dX6_riseMany_5 : decode cX6_riseMany 5 = .ok (.iconst 4, 1) := by decide +kernel
theorem dX6_riseMany_6 : decode cX6_riseMany 6 = .ok (.if_icmp .ge 25, 3) := by decide +kernel
theorem dX6_riseMany_9 : decode cX6_riseMany 9 = .ok (.iload_n 1, 1) := by decide +kernel
theorem dX6_riseMany_10 : decode cX6_riseMany 10 = .ok (.aload_n 0, 1) := by decide +kernel
theorem dX6_riseMany_11 : decode cX6_riseMany 11 = .ok (.getfield 31, 3) := by decide +kernel
theorem dX6_riseMany_14 : decode cX6_riseMany 14 = .ok (.iload_n 2, 1) := by decide +kernel
theorem dX6_riseMany_15 : decode cX6_riseMany 15 = .ok (.iaload, 1) := by decide +kernel
theorem dX6_riseMany_16 : decode cX6_riseMany 16 = .ok (.aload_n 0, 1) := by decide +kernel
theorem dX6_riseMany_17 : decode cX6_riseMany 17 = .ok (.getfield 21, 3) := by decide +kernel
theorem dX6_riseMany_20 : decode cX6_riseMany 20 = .ok (.iload_n 2, 1) := by decide +kernel
theorem dX6_riseMany_21 : decode cX6_riseMany 21 = .ok (.iaload, 1) := by decide +kernel
theorem dX6_riseMany_22 : decode cX6_riseMany 22 = .ok (.isub, 1) := by decide +kernel
theorem dX6_riseMany_23 : decode cX6_riseMany 23 = .ok (.iadd, 1) := by decide +kernel
theorem dX6_riseMany_24 : decode cX6_riseMany 24 = .ok (.istore_n 1, 1) := by decide +kernel
theorem dX6_riseMany_25 : decode cX6_riseMany 25 = .ok (.iinc 2 1, 3) := by decide +kernel
theorem dX6_riseMany_28 : decode cX6_riseMany 28 = .ok (.goto (-24), 3) := by decide +kernel
theorem dX6_riseMany_31 : decode cX6_riseMany 31 = .ok (.iload_n 1, 1) := by decide +kernel
theorem dX6_riseMany_32 : decode cX6_riseMany 32 = .ok (.ireturn, 1) := by decide +kernel
theorem dX6_riseRanks_0 : decode cX6_riseRanks 0 = .ok (.iload_n 1, 1) := by decide +kernel
theorem dX6_riseRanks_1 : decode cX6_riseRanks 1 = .ok (.ifCond .lt 8, 3) := by decide +kernel
theorem dX6_riseRanks_4 : decode cX6_riseRanks 4 = .ok (.iload_n 1, 1) := by decide +kernel
theorem dX6_riseRanks_5 : decode cX6_riseRanks 5 = .ok (.iconst 4, 1) := by decide +kernel
theorem dX6_riseRanks_6 : decode cX6_riseRanks 6 = .ok (.if_icmp .lt 5, 3) := by decide +kernel
theorem dX6_riseRanks_9 : decode cX6_riseRanks 9 = .ok (.iconst 0, 1) := by decide +kernel
theorem dX6_riseRanks_10 : decode cX6_riseRanks 10 = .ok (.ireturn, 1) := by decide +kernel
theorem dX6_riseRanks_11 : decode cX6_riseRanks 11 = .ok (.aload_n 0, 1) := by decide +kernel
theorem dX6_riseRanks_12 : decode cX6_riseRanks 12 = .ok (.getfield 31, 3) := by decide +kernel
theorem dX6_riseRanks_15 : decode cX6_riseRanks 15 = .ok (.iload_n 1, 1) := by decide +kernel
theorem dX6_riseRanks_16 : decode cX6_riseRanks 16 = .ok (.iaload, 1) := by decide +kernel
theorem dX6_riseRanks_17 : decode cX6_riseRanks 17 = .ok (.invokestatic 126, 3) := by decide +kernel
theorem dX6_riseRanks_20 : decode cX6_riseRanks 20 = .ok (.aload_n 0, 1) := by decide +kernel
theorem dX6_riseRanks_21 : decode cX6_riseRanks 21 = .ok (.getfield 21, 3) := by decide +kernel
theorem dX6_riseRanks_24 : decode cX6_riseRanks 24 = .ok (.iload_n 1, 1) := by decide +kernel
theorem dX6_riseRanks_25 : decode cX6_riseRanks 25 = .ok (.iaload, 1) := by decide +kernel
theorem dX6_riseRanks_26 : decode cX6_riseRanks 26 = .ok (.invokestatic 126, 3) := by decide +kernel
theorem dX6_riseRanks_29 : decode cX6_riseRanks 29 = .ok (.isub, 1) := by decide +kernel
theorem dX6_riseRanks_30 : decode cX6_riseRanks 30 = .ok (.ireturn, 1) := by decide +kernel
theorem dX6_nextCard_0 : decode cX6_nextCard 0 = .ok (.iload_n 1, 1) := by decide +kernel
theorem dX6_nextCard_1 : decode cX6_nextCard 1 = .ok (.ifCond .lt 21, 3) := by decide +kernel
theorem dX6_nextCard_4 : decode cX6_nextCard 4 = .ok (.iload_n 1, 1) := by decide +kernel
theorem dX6_nextCard_5 : decode cX6_nextCard 5 = .ok (.iconst 4, 1) := by decide +kernel
theorem dX6_nextCard_6 : decode cX6_nextCard 6 = .ok (.if_icmp .ge 16, 3) := by decide +kernel
theorem dX6_nextCard_9 : decode cX6_nextCard 9 = .ok (.aload_n 0, 1) := by decide +kernel
theorem dX6_nextCard_10 : decode cX6_nextCard 10 = .ok (.getfield 21, 3) := by decide +kernel
theorem dX6_nextCard_13 : decode cX6_nextCard 13 = .ok (.iload_n 1, 1) := by decide +kernel
theorem dX6_nextCard_14 : decode cX6_nextCard 14 = .ok (.iaload, 1) := by decide +kernel
theorem dX6_nextCard_15 : decode cX6_nextCard 15 = .ok (.aload_n 0, 1) := by decide +kernel
theorem dX6_nextCard_16 : decode cX6_nextCard 16 = .ok (.getfield 24, 3) := by decide +kernel
theorem dX6_nextCard_19 : decode cX6_nextCard 19 = .ok (.if_icmp .lt 5, 3) := by decide +kernel
theorem dX6_nextCard_22 : decode cX6_nextCard 22 = .ok (.iconst (-1), 1) := by decide +kernel
theorem dX6_nextCard_23 : decode cX6_nextCard 23 = .ok (.ireturn, 1) := by decide +kernel
theorem dX6_nextCard_24 : decode cX6_nextCard 24 = .ok (.bipush 6, 2) := by decide +kernel
theorem dX6_nextCard_26 : decode cX6_nextCard 26 = .ok (.iload_n 1, 1) := by decide +kernel
theorem dX6_nextCard_27 : decode cX6_nextCard 27 = .ok (.imul, 1) := by decide +kernel
theorem dX6_nextCard_28 : decode cX6_nextCard 28 = .ok (.aload_n 0, 1) := by decide +kernel
theorem dX6_nextCard_29 : decode cX6_nextCard 29 = .ok (.getfield 21, 3) := by decide +kernel
theorem dX6_nextCard_32 : decode cX6_nextCard 32 = .ok (.iload_n 1, 1) := by decide +kernel
theorem dX6_nextCard_33 : decode cX6_nextCard 33 = .ok (.iaload, 1) := by decide +kernel
theorem dX6_nextCard_34 : decode cX6_nextCard 34 = .ok (.iadd, 1) := by decide +kernel
theorem dX6_nextCard_35 : decode cX6_nextCard 35 = .ok (.istore_n 2, 1) := by decide +kernel
theorem dX6_nextCard_36 : decode cX6_nextCard 36 = .ok (.aload_n 0, 1) := by decide +kernel
theorem dX6_nextCard_37 : decode cX6_nextCard 37 = .ok (.iload_n 2, 1) := by decide +kernel
theorem dX6_nextCard_38 : decode cX6_nextCard 38 = .ok (.invokevirtual 129, 3) := by decide +kernel
theorem dX6_nextCard_41 : decode cX6_nextCard 41 = .ok (.iconst (-1), 1) := by decide +kernel
theorem dX6_nextCard_42 : decode cX6_nextCard 42 = .ok (.if_icmp .ne 7, 3) := by decide +kernel
theorem dX6_nextCard_45 : decode cX6_nextCard 45 = .ok (.iconst (-1), 1) := by decide +kernel
theorem dX6_nextCard_46 : decode cX6_nextCard 46 = .ok (.goto 4, 3) := by decide +kernel
theorem dX6_nextCard_49 : decode cX6_nextCard 49 = .ok (.iload_n 2, 1) := by decide +kernel
theorem dX6_nextCard_50 : decode cX6_nextCard 50 = .ok (.ireturn, 1) := by decide +kernel
theorem dX6_whereIs_0 : decode cX6_whereIs 0 = .ok (.iconst 0, 1) := by decide +kernel
theorem dX6_whereIs_1 : decode cX6_whereIs 1 = .ok (.istore_n 2, 1) := by decide +kernel
theorem dX6_whereIs_2 : decode cX6_whereIs 2 = .ok (.iload_n 2, 1) := by decide +kernel
theorem dX6_whereIs_3 : decode cX6_whereIs 3 = .ok (.bipush 7, 2) := by decide +kernel
theorem dX6_whereIs_5 : decode cX6_whereIs 5 = .ok (.if_icmp .ge 21, 3) := by decide +kernel
theorem dX6_whereIs_8 : decode cX6_whereIs 8 = .ok (.aload_n 0, 1) := by decide +kernel
theorem dX6_whereIs_9 : decode cX6_whereIs 9 = .ok (.iload_n 2, 1) := by decide +kernel
theorem dX6_whereIs_10 : decode cX6_whereIs 10 = .ok (.iload_n 1, 1) := by decide +kernel
theorem dX6_whereIs_11 : decode cX6_whereIs 11 = .ok (.invokevirtual 132, 3) := by decide +kernel
theorem dX6_whereIs_14 : decode cX6_whereIs 14 = .ok (.iconst (-1), 1) := by decide +kernel
theorem dX6_whereIs_15 : decode cX6_whereIs 15 = .ok (.if_icmp .eq 5, 3) := by decide +kernel
theorem dX6_whereIs_18 : decode cX6_whereIs 18 = .ok (.iload_n 2, 1) := by decide +kernel
theorem dX6_whereIs_19 : decode cX6_whereIs 19 = .ok (.ireturn, 1) := by decide +kernel
theorem dX6_whereIs_20 : decode cX6_whereIs 20 = .ok (.iinc 2 1, 3) := by decide +kernel
theorem dX6_whereIs_23 : decode cX6_whereIs 23 = .ok (.goto (-21), 3) := by decide +kernel
theorem dX6_whereIs_26 : decode cX6_whereIs 26 = .ok (.aload_n 0, 1) := by decide +kernel
theorem dX6_whereIs_27 : decode cX6_whereIs 27 = .ok (.iload_n 1, 1) := by decide +kernel
theorem dX6_whereIs_28 : decode cX6_whereIs 28 = .ok (.invokevirtual 135, 3) := by decide +kernel
theorem dX6_whereIs_31 : decode cX6_whereIs 31 = .ok (.iconst (-1), 1) := by decide +kernel
theorem dX6_whereIs_32 : decode cX6_whereIs 32 = .ok (.if_icmp .eq 8, 3) := by decide +kernel
theorem dX6_whereIs_35 : decode cX6_whereIs 35 = .ok (.bipush 8, 2) := by decide +kernel
theorem dX6_whereIs_37 : decode cX6_whereIs 37 = .ok (.goto 4, 3) := by decide +kernel
theorem dX6_whereIs_40 : decode cX6_whereIs 40 = .ok (.iconst (-1), 1) := by decide +kernel
theorem dX6_whereIs_41 : decode cX6_whereIs 41 = .ok (.ireturn, 1) := by decide +kernel
theorem dX6_cardsOver_0 : decode cX6_cardsOver 0 = .ok (.aload_n 0, 1) := by decide +kernel
theorem dX6_cardsOver_1 : decode cX6_cardsOver 1 = .ok (.iload_n 1, 1) := by decide +kernel
theorem dX6_cardsOver_2 : decode cX6_cardsOver 2 = .ok (.invokevirtual 129, 3) := by decide +kernel
theorem dX6_cardsOver_5 : decode cX6_cardsOver 5 = .ok (.istore_n 2, 1) := by decide +kernel
theorem dX6_cardsOver_6 : decode cX6_cardsOver 6 = .ok (.iload_n 2, 1) := by decide +kernel
theorem dX6_cardsOver_7 : decode cX6_cardsOver 7 = .ok (.ifCond .lt 9, 3) := by decide +kernel
theorem dX6_cardsOver_10 : decode cX6_cardsOver 10 = .ok (.iload_n 2, 1) := by decide +kernel
theorem dX6_cardsOver_11 : decode cX6_cardsOver 11 = .ok (.bipush 7, 2) := by decide +kernel
theorem dX6_cardsOver_13 : decode cX6_cardsOver 13 = .ok (.if_icmp .lt 9, 3) := by decide +kernel
theorem dX6_cardsOver_16 : decode cX6_cardsOver 16 = .ok (.aload_n 0, 1) := by decide +kernel
theorem dX6_cardsOver_17 : decode cX6_cardsOver 17 = .ok (.iload_n 1, 1) := by decide +kernel
theorem dX6_cardsOver_18 : decode cX6_cardsOver 18 = .ok (.invokevirtual 135, 3) := by decide +kernel
theorem dX6_cardsOver_21 : decode cX6_cardsOver 21 = .ok (.ireturn, 1) := by decide +kernel
theorem dX6_cardsOver_22 : decode cX6_cardsOver 22 = .ok (.aload_n 0, 1) := by decide +kernel
theorem dX6_cardsOver_23 : decode cX6_cardsOver 23 = .ok (.getfield 15, 3) := by decide +kernel
theorem dX6_cardsOver_26 : decode cX6_cardsOver 26 = .ok (.iload_n 2, 1) := by decide +kernel
theorem dX6_cardsOver_27 : decode cX6_cardsOver 27 = .ok (.iaload, 1) := by decide +kernel
theorem dX6_cardsOver_28 : decode cX6_cardsOver 28 = .ok (.iconst 1, 1) := by decide +kernel
theorem dX6_cardsOver_29 : decode cX6_cardsOver 29 = .ok (.isub, 1) := by decide +kernel
theorem dX6_cardsOver_30 : decode cX6_cardsOver 30 = .ok (.aload_n 0, 1) := by decide +kernel
theorem dX6_cardsOver_31 : decode cX6_cardsOver 31 = .ok (.iload_n 2, 1) := by decide +kernel
theorem dX6_cardsOver_32 : decode cX6_cardsOver 32 = .ok (.iload_n 1, 1) := by decide +kernel
theorem dX6_cardsOver_33 : decode cX6_cardsOver 33 = .ok (.invokevirtual 132, 3) := by decide +kernel
theorem dX6_cardsOver_36 : decode cX6_cardsOver 36 = .ok (.isub, 1) := by decide +kernel
theorem dX6_cardsOver_37 : decode cX6_cardsOver 37 = .ok (.ireturn, 1) := by decide +kernel
theorem dX6_placeIn_0 : decode cX6_placeIn 0 = .ok (.iconst 0, 1) := by decide +kernel
theorem dX6_placeIn_1 : decode cX6_placeIn 1 = .ok (.istore_n 3, 1) := by decide +kernel
theorem dX6_placeIn_2 : decode cX6_placeIn 2 = .ok (.iload_n 3, 1) := by decide +kernel
theorem dX6_placeIn_3 : decode cX6_placeIn 3 = .ok (.aload_n 0, 1) := by decide +kernel
theorem dX6_placeIn_4 : decode cX6_placeIn 4 = .ok (.getfield 15, 3) := by decide +kernel
theorem dX6_placeIn_7 : decode cX6_placeIn 7 = .ok (.iload_n 1, 1) := by decide +kernel
theorem dX6_placeIn_8 : decode cX6_placeIn 8 = .ok (.iaload, 1) := by decide +kernel
theorem dX6_placeIn_9 : decode cX6_placeIn 9 = .ok (.if_icmp .ge 21, 3) := by decide +kernel
theorem dX6_placeIn_12 : decode cX6_placeIn 12 = .ok (.aload_n 0, 1) := by decide +kernel
theorem dX6_placeIn_13 : decode cX6_placeIn 13 = .ok (.iload_n 1, 1) := by decide +kernel
theorem dX6_placeIn_14 : decode cX6_placeIn 14 = .ok (.iload_n 3, 1) := by decide +kernel
theorem dX6_placeIn_15 : decode cX6_placeIn 15 = .ok (.invokevirtual 115, 3) := by decide +kernel
theorem dX6_placeIn_18 : decode cX6_placeIn 18 = .ok (.iload_n 2, 1) := by decide +kernel
theorem dX6_placeIn_19 : decode cX6_placeIn 19 = .ok (.if_icmp .ne 5, 3) := by decide +kernel
theorem dX6_placeIn_22 : decode cX6_placeIn 22 = .ok (.iload_n 3, 1) := by decide +kernel
theorem dX6_placeIn_23 : decode cX6_placeIn 23 = .ok (.ireturn, 1) := by decide +kernel
theorem dX6_placeIn_24 : decode cX6_placeIn 24 = .ok (.iinc 3 1, 3) := by decide +kernel
theorem dX6_placeIn_27 : decode cX6_placeIn 27 = .ok (.goto (-25), 3) := by decide +kernel
theorem dX6_placeIn_30 : decode cX6_placeIn 30 = .ok (.iconst (-1), 1) := by decide +kernel
theorem dX6_placeIn_31 : decode cX6_placeIn 31 = .ok (.ireturn, 1) := by decide +kernel
theorem dX6_placeInStock_0 : decode cX6_placeInStock 0 = .ok (.iconst 0, 1) := by decide +kernel
theorem dX6_placeInStock_1 : decode cX6_placeInStock 1 = .ok (.istore_n 2, 1) := by decide +kernel
theorem dX6_placeInStock_2 : decode cX6_placeInStock 2 = .ok (.iload_n 2, 1) := by decide +kernel
theorem dX6_placeInStock_3 : decode cX6_placeInStock 3 = .ok (.aload_n 0, 1) := by decide +kernel
theorem dX6_placeInStock_4 : decode cX6_placeInStock 4 = .ok (.invokevirtual 74, 3) := by decide +kernel
theorem dX6_placeInStock_7 : decode cX6_placeInStock 7 = .ok (.if_icmp .ge 20, 3) := by decide +kernel
theorem dX6_placeInStock_10 : decode cX6_placeInStock 10 = .ok (.aload_n 0, 1) := by decide +kernel
theorem dX6_placeInStock_11 : decode cX6_placeInStock 11 = .ok (.iload_n 2, 1) := by decide +kernel
theorem dX6_placeInStock_12 : decode cX6_placeInStock 12 = .ok (.invokevirtual 112, 3) := by decide +kernel
theorem dX6_placeInStock_15 : decode cX6_placeInStock 15 = .ok (.iload_n 1, 1) := by decide +kernel
theorem dX6_placeInStock_16 : decode cX6_placeInStock 16 = .ok (.if_icmp .ne 5, 3) := by decide +kernel
theorem dX6_placeInStock_19 : decode cX6_placeInStock 19 = .ok (.iload_n 2, 1) := by decide +kernel
theorem dX6_placeInStock_20 : decode cX6_placeInStock 20 = .ok (.ireturn, 1) := by decide +kernel
theorem dX6_placeInStock_21 : decode cX6_placeInStock 21 = .ok (.iinc 2 1, 3) := by decide +kernel
theorem dX6_placeInStock_24 : decode cX6_placeInStock 24 = .ok (.goto (-22), 3) := by decide +kernel
theorem dX6_placeInStock_27 : decode cX6_placeInStock 27 = .ok (.iconst (-1), 1) := by decide +kernel
theorem dX6_placeInStock_28 : decode cX6_placeInStock 28 = .ok (.ireturn, 1) := by decide +kernel
theorem dX6_swap_0 : decode cX6_swap 0 = .ok (.aload_n 0, 1) := by decide +kernel
theorem dX6_swap_1 : decode cX6_swap 1 = .ok (.iload_n 1, 1) := by decide +kernel
theorem dX6_swap_2 : decode cX6_swap 2 = .ok (.iload_n 2, 1) := by decide +kernel
theorem dX6_swap_3 : decode cX6_swap 3 = .ok (.invokevirtual 115, 3) := by decide +kernel
theorem dX6_swap_6 : decode cX6_swap 6 = .ok (.istore 5, 2) := by decide +kernel
theorem dX6_swap_8 : decode cX6_swap 8 = .ok (.aload_n 0, 1) := by decide +kernel
theorem dX6_swap_9 : decode cX6_swap 9 = .ok (.iload_n 3, 1) := by decide +kernel
theorem dX6_swap_10 : decode cX6_swap 10 = .ok (.iload 4, 2) := by decide +kernel
theorem dX6_swap_12 : decode cX6_swap 12 = .ok (.invokevirtual 115, 3) := by decide +kernel
theorem dX6_swap_15 : decode cX6_swap 15 = .ok (.istore 6, 2) := by decide +kernel
theorem dX6_swap_17 : decode cX6_swap 17 = .ok (.iload 5, 2) := by decide +kernel
theorem dX6_swap_19 : decode cX6_swap 19 = .ok (.iconst (-1), 1) := by decide +kernel
theorem dX6_swap_20 : decode cX6_swap 20 = .ok (.if_icmp .eq 9, 3) := by decide +kernel
theorem dX6_swap_23 : decode cX6_swap 23 = .ok (.iload 6, 2) := by decide +kernel
theorem dX6_swap_25 : decode cX6_swap 25 = .ok (.iconst (-1), 1) := by decide +kernel
theorem dX6_swap_26 : decode cX6_swap 26 = .ok (.if_icmp .ne 4, 3) := by decide +kernel
theorem dX6_swap_29 : decode cX6_swap 29 = .ok (.return_, 1) := by decide +kernel
theorem dX6_swap_30 : decode cX6_swap 30 = .ok (.aload_n 0, 1) := by decide +kernel
theorem dX6_swap_31 : decode cX6_swap 31 = .ok (.getfield 9, 3) := by decide +kernel
theorem dX6_swap_34 : decode cX6_swap 34 = .ok (.iload_n 1, 1) := by decide +kernel
theorem dX6_swap_35 : decode cX6_swap 35 = .ok (.bipush 24, 2) := by decide +kernel
theorem dX6_swap_37 : decode cX6_swap 37 = .ok (.imul, 1) := by decide +kernel
theorem dX6_swap_38 : decode cX6_swap 38 = .ok (.iload_n 2, 1) := by decide +kernel
theorem dX6_swap_39 : decode cX6_swap 39 = .ok (.iadd, 1) := by decide +kernel
theorem dX6_swap_40 : decode cX6_swap 40 = .ok (.iload 6, 2) := by decide +kernel
theorem dX6_swap_42 : decode cX6_swap 42 = .ok (.iastore, 1) := by decide +kernel
theorem dX6_swap_43 : decode cX6_swap 43 = .ok (.aload_n 0, 1) := by decide +kernel
theorem dX6_swap_44 : decode cX6_swap 44 = .ok (.getfield 9, 3) := by decide +kernel
theorem dX6_swap_47 : decode cX6_swap 47 = .ok (.iload_n 3, 1) := by decide +kernel
theorem dX6_swap_48 : decode cX6_swap 48 = .ok (.bipush 24, 2) := by decide +kernel
theorem dX6_swap_50 : decode cX6_swap 50 = .ok (.imul, 1) := by decide +kernel
theorem dX6_swap_51 : decode cX6_swap 51 = .ok (.iload 4, 2) := by decide +kernel
theorem dX6_swap_53 : decode cX6_swap 53 = .ok (.iadd, 1) := by decide +kernel
theorem dX6_swap_54 : decode cX6_swap 54 = .ok (.iload 5, 2) := by decide +kernel
theorem dX6_swap_56 : decode cX6_swap 56 = .ok (.iastore, 1) := by decide +kernel
theorem dX6_swap_57 : decode cX6_swap 57 = .ok (.return_, 1) := by decide +kernel
theorem dX7_init_0 : decode cX7_init 0 = .ok (.aload_n 0, 1) := by decide +kernel
theorem dX7_init_1 : decode cX7_init 1 = .ok (.invokespecial 3, 3) := by decide +kernel
theorem dX7_init_4 : decode cX7_init 4 = .ok (.aload_n 0, 1) := by decide +kernel
theorem dX7_init_5 : decode cX7_init 5 = .ok (.bipush 60, 2) := by decide +kernel
theorem dX7_init_7 : decode cX7_init 7 = .ok (.newarray .long, 2) := by decide +kernel
theorem dX7_init_9 : decode cX7_init 9 = .ok (.putfield 9, 3) := by decide +kernel
theorem dX7_init_12 : decode cX7_init 12 = .ok (.return_, 1) := by decide +kernel
theorem dX7_lay_0 : decode cX7_lay 0 = .ok (.aload_n 0, 1) := by decide +kernel
theorem dX7_lay_1 : decode cX7_lay 1 = .ok (.iconst 1, 1) := by decide +kernel
theorem dX7_lay_2 : decode cX7_lay 2 = .ok (.putfield 15, 3) := by decide +kernel
theorem dX7_lay_5 : decode cX7_lay 5 = .ok (.aload_n 0, 1) := by decide +kernel
theorem dX7_lay_6 : decode cX7_lay 6 = .ok (.iload_n 1, 1) := by decide +kernel
theorem dX7_lay_7 : decode cX7_lay 7 = .ok (.putfield 19, 3) := by decide +kernel
theorem dX7_lay_10 : decode cX7_lay 10 = .ok (.aload_n 0, 1) := by decide +kernel
theorem dX7_lay_11 : decode cX7_lay 11 = .ok (.iload_n 2, 1) := by decide +kernel
theorem dX7_lay_12 : decode cX7_lay 12 = .ok (.putfield 23, 3) := by decide +kernel
theorem dX7_lay_15 : decode cX7_lay 15 = .ok (.aload_n 0, 1) := by decide +kernel
theorem dX7_lay_16 : decode cX7_lay 16 = .ok (.getfield 9, 3) := by decide +kernel
theorem dX7_lay_19 : decode cX7_lay 19 = .ok (.lconst 0, 1) := by decide +kernel
theorem dX7_lay_20 : decode cX7_lay 20 = .ok (.invokestatic 26, 3) := by decide +kernel
theorem dX7_lay_23 : decode cX7_lay 23 = .ok (.return_, 1) := by decide +kernel
theorem dX7_has_0 : decode cX7_has 0 = .ok (.iload_n 1, 1) := by decide +kernel
theorem dX7_has_1 : decode cX7_has 1 = .ok (.ifCond .lt 29, 3) := by decide +kernel
theorem dX7_has_4 : decode cX7_has 4 = .ok (.iload_n 2, 1) := by decide +kernel
theorem dX7_has_5 : decode cX7_has 5 = .ok (.ifCond .lt 25, 3) := by decide +kernel
theorem dX7_has_8 : decode cX7_has 8 = .ok (.iload_n 2, 1) := by decide +kernel
theorem dX7_has_9 : decode cX7_has 9 = .ok (.aload_n 0, 1) := by decide +kernel
theorem dX7_has_10 : decode cX7_has 10 = .ok (.getfield 23, 3) := by decide +kernel
theorem dX7_has_13 : decode cX7_has 13 = .ok (.if_icmp .gt 17, 3) := by decide +kernel
theorem dX7_has_16 : decode cX7_has 16 = .ok (.iload_n 1, 1) := by decide +kernel
theorem dX7_has_17 : decode cX7_has 17 = .ok (.aload_n 0, 1) := by decide +kernel
theorem dX7_has_18 : decode cX7_has 18 = .ok (.getfield 23, 3) := by decide +kernel
theorem dX7_has_21 : decode cX7_has 21 = .ok (.iload_n 2, 1) := by decide +kernel
theorem dX7_has_22 : decode cX7_has 22 = .ok (.isub, 1) := by decide +kernel
theorem dX7_has_23 : decode cX7_has 23 = .ok (.if_icmp .gt 7, 3) := by decide +kernel
theorem dX7_has_26 : decode cX7_has 26 = .ok (.iconst 1, 1) := by decide +kernel
theorem dX7_has_27 : decode cX7_has 27 = .ok (.goto 4, 3) := by decide +kernel
theorem dX7_has_30 : decode cX7_has 30 = .ok (.iconst 0, 1) := by decide +kernel
theorem dX7_has_31 : decode cX7_has 31 = .ok (.ireturn, 1) := by decide +kernel
theorem dX7_put_0 : decode cX7_put 0 = .ok (.aload_n 0, 1) := by decide +kernel
theorem dX7_put_1 : decode cX7_put 1 = .ok (.iload_n 1, 1) := by decide +kernel
theorem dX7_put_2 : decode cX7_put 2 = .ok (.iconst 1, 1) := by decide +kernel
theorem dX7_put_3 : decode cX7_put 3 = .ok (.invokevirtual 32, 3) := by decide +kernel
theorem dX7_put_6 : decode cX7_put 6 = .ok (.ifCond .eq 14, 3) := by decide +kernel
theorem dX7_put_9 : decode cX7_put 9 = .ok (.aload_n 0, 1) := by decide +kernel
theorem dX7_put_10 : decode cX7_put 10 = .ok (.getfield 9, 3) := by decide +kernel
theorem dX7_put_13 : decode cX7_put 13 = .ok (.iload_n 1, 1) := by decide +kernel
theorem dX7_put_14 : decode cX7_put 14 = .ok (.aload_n 0, 1) := by decide +kernel
theorem dX7_put_15 : decode cX7_put 15 = .ok (.lload_n 2, 1) := by decide +kernel
theorem dX7_put_16 : decode cX7_put 16 = .ok (.invokevirtual 36, 3) := by decide +kernel
theorem dX7_put_19 : decode cX7_put 19 = .ok (.lastore, 1) := by decide +kernel
theorem dX7_put_20 : decode cX7_put 20 = .ok (.return_, 1) := by decide +kernel
theorem dX7_at_0 : decode cX7_at 0 = .ok (.aload_n 0, 1) := by decide +kernel
theorem dX7_at_1 : decode cX7_at 1 = .ok (.iload_n 1, 1) := by decide +kernel
theorem dX7_at_2 : decode cX7_at 2 = .ok (.iconst 1, 1) := by decide +kernel
theorem dX7_at_3 : decode cX7_at 3 = .ok (.invokevirtual 32, 3) := by decide +kernel
theorem dX7_at_6 : decode cX7_at 6 = .ok (.ifCond .eq 12, 3) := by decide +kernel
theorem dX7_at_9 : decode cX7_at 9 = .ok (.aload_n 0, 1) := by decide +kernel
theorem dX7_at_10 : decode cX7_at 10 = .ok (.getfield 9, 3) := by decide +kernel
theorem dX7_at_13 : decode cX7_at 13 = .ok (.iload_n 1, 1) := by decide +kernel
theorem dX7_at_14 : decode cX7_at 14 = .ok (.laload, 1) := by decide +kernel
theorem dX7_at_15 : decode cX7_at 15 = .ok (.goto 6, 3) := by decide +kernel
theorem dX7_at_18 : decode cX7_at 18 = .ok (.ldc2_w 40, 3) := by decide +kernel
theorem dX7_at_21 : decode cX7_at 21 = .ok (.lreturn, 1) := by decide +kernel
theorem dX7_cut_0 : decode cX7_cut 0 = .ok (.aload_n 0, 1) := by decide +kernel
theorem dX7_cut_1 : decode cX7_cut 1 = .ok (.getfield 19, 3) := by decide +kernel
theorem dX7_cut_4 : decode cX7_cut 4 = .ok (.tableswitch 42 0 2 #[28, 33, 38], 28) := by decide +kernel
theorem dX7_cut_32 : decode cX7_cut 32 = .ok (.lload_n 1, 1) := by decide +kernel
theorem dX7_cut_33 : decode cX7_cut 33 = .ok (.l2i, 1) := by decide +kernel
theorem dX7_cut_34 : decode cX7_cut 34 = .ok (.i2b, 1) := by decide +kernel
theorem dX7_cut_35 : decode cX7_cut 35 = .ok (.i2l, 1) := by decide +kernel
theorem dX7_cut_36 : decode cX7_cut 36 = .ok (.lreturn, 1) := by decide +kernel
theorem dX7_cut_37 : decode cX7_cut 37 = .ok (.lload_n 1, 1) := by decide +kernel
theorem dX7_cut_38 : decode cX7_cut 38 = .ok (.l2i, 1) := by decide +kernel
theorem dX7_cut_39 : decode cX7_cut 39 = .ok (.i2s, 1) := by decide +kernel
theorem dX7_cut_40 : decode cX7_cut 40 = .ok (.i2l, 1) := by decide +kernel
theorem dX7_cut_41 : decode cX7_cut 41 = .ok (.lreturn, 1) := by decide +kernel
theorem dX7_cut_42 : decode cX7_cut 42 = .ok (.lload_n 1, 1) := by decide +kernel
theorem dX7_cut_43 : decode cX7_cut 43 = .ok (.l2i, 1) := by decide +kernel
theorem dX7_cut_44 : decode cX7_cut 44 = .ok (.i2l, 1) := by decide +kernel
theorem dX7_cut_45 : decode cX7_cut 45 = .ok (.lreturn, 1) := by decide +kernel
theorem dX7_cut_46 : decode cX7_cut 46 = .ok (.lload_n 1, 1) := by decide +kernel
theorem dX7_cut_47 : decode cX7_cut 47 = .ok (.lreturn, 1) := by decide +kernel
theorem dX8_init_0 : decode cX8_init 0 = .ok (.aload_n 0, 1) := by decide +kernel
theorem dX8_init_1 : decode cX8_init 1 = .ok (.invokespecial 3, 3) := by decide +kernel
theorem dX8_init_4 : decode cX8_init 4 = .ok (.aload_n 0, 1) := by decide +kernel
theorem dX8_init_5 : decode cX8_init 5 = .ok (.new 9, 3) := by decide +kernel
theorem dX8_init_8 : decode cX8_init 8 = .ok (.dup, 1) := by decide +kernel
theorem dX8_init_9 : decode cX8_init 9 = .ok (.invokespecial 11, 3) := by decide +kernel
theorem dX8_init_12 : decode cX8_init 12 = .ok (.putfield 12, 3) := by decide +kernel
theorem dX8_init_15 : decode cX8_init 15 = .ok (.aload_n 0, 1) := by decide +kernel
theorem dX8_init_16 : decode cX8_init 16 = .ok (.new 18, 3) := by decide +kernel
theorem dX8_init_19 : decode cX8_init 19 = .ok (.dup, 1) := by decide +kernel
theorem dX8_init_20 : decode cX8_init 20 = .ok (.invokespecial 20, 3) := by decide +kernel
theorem dX8_init_23 : decode cX8_init 23 = .ok (.putfield 21, 3) := by decide +kernel
theorem dX8_init_26 : decode cX8_init 26 = .ok (.aload_n 0, 1) := by decide +kernel
theorem dX8_init_27 : decode cX8_init 27 = .ok (.iconst 4, 1) := by decide +kernel
theorem dX8_init_28 : decode cX8_init 28 = .ok (.newarray .long, 2) := by decide +kernel
theorem dX8_init_30 : decode cX8_init 30 = .ok (.putfield 25, 3) := by decide +kernel
theorem dX8_init_33 : decode cX8_init 33 = .ok (.aload_n 0, 1) := by decide +kernel
theorem dX8_init_34 : decode cX8_init 34 = .ok (.bipush 6, 2) := by decide +kernel
theorem dX8_init_36 : decode cX8_init 36 = .ok (.newarray .long, 2) := by decide +kernel
theorem dX8_init_38 : decode cX8_init 38 = .ok (.putfield 29, 3) := by decide +kernel
theorem dX8_init_41 : decode cX8_init 41 = .ok (.aload_n 0, 1) := by decide +kernel
theorem dX8_init_42 : decode cX8_init 42 = .ok (.bipush 6, 2) := by decide +kernel
theorem dX8_init_44 : decode cX8_init 44 = .ok (.newarray .int, 2) := by decide +kernel
theorem dX8_init_46 : decode cX8_init 46 = .ok (.putfield 32, 3) := by decide +kernel
theorem dX8_init_49 : decode cX8_init 49 = .ok (.aload_n 0, 1) := by decide +kernel
theorem dX8_init_50 : decode cX8_init 50 = .ok (.bipush 6, 2) := by decide +kernel
theorem dX8_init_52 : decode cX8_init 52 = .ok (.newarray .int, 2) := by decide +kernel
theorem dX8_init_54 : decode cX8_init 54 = .ok (.putfield 36, 3) := by decide +kernel
theorem dX8_init_57 : decode cX8_init 57 = .ok (.aload_n 0, 1) := by decide +kernel
theorem dX8_init_58 : decode cX8_init 58 = .ok (.bipush 6, 2) := by decide +kernel
theorem dX8_init_60 : decode cX8_init 60 = .ok (.newarray .int, 2) := by decide +kernel
theorem dX8_init_62 : decode cX8_init 62 = .ok (.putfield 39, 3) := by decide +kernel
theorem dX8_init_65 : decode cX8_init 65 = .ok (.aload_n 0, 1) := by decide +kernel
theorem dX8_init_66 : decode cX8_init 66 = .ok (.bipush 6, 2) := by decide +kernel
theorem dX8_init_68 : decode cX8_init 68 = .ok (.newarray .int, 2) := by decide +kernel
theorem dX8_init_70 : decode cX8_init 70 = .ok (.putfield 42, 3) := by decide +kernel
theorem dX8_init_73 : decode cX8_init 73 = .ok (.aload_n 0, 1) := by decide +kernel
theorem dX8_init_74 : decode cX8_init 74 = .ok (.bipush 6, 2) := by decide +kernel
theorem dX8_init_76 : decode cX8_init 76 = .ok (.newarray .int, 2) := by decide +kernel
theorem dX8_init_78 : decode cX8_init 78 = .ok (.putfield 45, 3) := by decide +kernel
theorem dX8_init_81 : decode cX8_init 81 = .ok (.return_, 1) := by decide +kernel
theorem dX8_clear_0 : decode cX8_clear 0 = .ok (.aload_n 0, 1) := by decide +kernel
theorem dX8_clear_1 : decode cX8_clear 1 = .ok (.getfield 12, 3) := by decide +kernel
theorem dX8_clear_4 : decode cX8_clear 4 = .ok (.invokevirtual 48, 3) := by decide +kernel
theorem dX8_clear_7 : decode cX8_clear 7 = .ok (.aload_n 0, 1) := by decide +kernel
theorem dX8_clear_8 : decode cX8_clear 8 = .ok (.getfield 21, 3) := by decide +kernel
theorem dX8_clear_11 : decode cX8_clear 11 = .ok (.invokevirtual 51, 3) := by decide +kernel
theorem dX8_clear_14 : decode cX8_clear 14 = .ok (.aload_n 0, 1) := by decide +kernel
theorem dX8_clear_15 : decode cX8_clear 15 = .ok (.iconst 0, 1) := by decide +kernel
theorem dX8_clear_16 : decode cX8_clear 16 = .ok (.putfield 52, 3) := by decide +kernel
theorem dX8_clear_19 : decode cX8_clear 19 = .ok (.aload_n 0, 1) := by decide +kernel
theorem dX8_clear_20 : decode cX8_clear 20 = .ok (.iconst 0, 1) := by decide +kernel
theorem dX8_clear_21 : decode cX8_clear 21 = .ok (.putfield 56, 3) := by decide +kernel
theorem dX8_clear_24 : decode cX8_clear 24 = .ok (.return_, 1) := by decide +kernel
theorem dX8_copyFrom_0 : decode cX8_copyFrom 0 = .ok (.aload_n 0, 1) := by decide +kernel
theorem dX8_copyFrom_1 : decode cX8_copyFrom 1 = .ok (.getfield 12, 3) := by decide +kernel
theorem dX8_copyFrom_4 : decode cX8_copyFrom 4 = .ok (.aload_n 1, 1) := by decide +kernel
theorem dX8_copyFrom_5 : decode cX8_copyFrom 5 = .ok (.getfield 12, 3) := by decide +kernel
theorem dX8_copyFrom_8 : decode cX8_copyFrom 8 = .ok (.invokevirtual 59, 3) := by decide +kernel
theorem dX8_copyFrom_11 : decode cX8_copyFrom 11 = .ok (.aload_n 0, 1) := by decide +kernel
theorem dX8_copyFrom_12 : decode cX8_copyFrom 12 = .ok (.getfield 21, 3) := by decide +kernel
theorem dX8_copyFrom_15 : decode cX8_copyFrom 15 = .ok (.aload_n 1, 1) := by decide +kernel
theorem dX8_copyFrom_16 : decode cX8_copyFrom 16 = .ok (.getfield 21, 3) := by decide +kernel
theorem dX8_copyFrom_19 : decode cX8_copyFrom 19 = .ok (.invokevirtual 63, 3) := by decide +kernel
theorem dX8_copyFrom_22 : decode cX8_copyFrom 22 = .ok (.aload_n 1, 1) := by decide +kernel
theorem dX8_copyFrom_23 : decode cX8_copyFrom 23 = .ok (.getfield 25, 3) := by decide +kernel
theorem dX8_copyFrom_26 : decode cX8_copyFrom 26 = .ok (.iconst 0, 1) := by decide +kernel
theorem dX8_copyFrom_27 : decode cX8_copyFrom 27 = .ok (.aload_n 0, 1) := by decide +kernel
theorem dX8_copyFrom_28 : decode cX8_copyFrom 28 = .ok (.getfield 25, 3) := by decide +kernel
theorem dX8_copyFrom_31 : decode cX8_copyFrom 31 = .ok (.iconst 0, 1) := by decide +kernel
theorem dX8_copyFrom_32 : decode cX8_copyFrom 32 = .ok (.iconst 4, 1) := by decide +kernel
theorem dX8_copyFrom_33 : decode cX8_copyFrom 33 = .ok (.invokestatic 66, 3) := by decide +kernel
theorem dX8_copyFrom_36 : decode cX8_copyFrom 36 = .ok (.aload_n 1, 1) := by decide +kernel
theorem dX8_copyFrom_37 : decode cX8_copyFrom 37 = .ok (.getfield 29, 3) := by decide +kernel
theorem dX8_copyFrom_40 : decode cX8_copyFrom 40 = .ok (.iconst 0, 1) := by decide +kernel
theorem dX8_copyFrom_41 : decode cX8_copyFrom 41 = .ok (.aload_n 0, 1) := by decide +kernel
theorem dX8_copyFrom_42 : decode cX8_copyFrom 42 = .ok (.getfield 29, 3) := by decide +kernel
theorem dX8_copyFrom_45 : decode cX8_copyFrom 45 = .ok (.iconst 0, 1) := by decide +kernel
theorem dX8_copyFrom_46 : decode cX8_copyFrom 46 = .ok (.bipush 6, 2) := by decide +kernel
theorem dX8_copyFrom_48 : decode cX8_copyFrom 48 = .ok (.invokestatic 66, 3) := by decide +kernel
theorem dX8_copyFrom_51 : decode cX8_copyFrom 51 = .ok (.aload_n 0, 1) := by decide +kernel
theorem dX8_copyFrom_52 : decode cX8_copyFrom 52 = .ok (.aload_n 1, 1) := by decide +kernel
theorem dX8_copyFrom_53 : decode cX8_copyFrom 53 = .ok (.getfield 52, 3) := by decide +kernel
theorem dX8_copyFrom_56 : decode cX8_copyFrom 56 = .ok (.putfield 52, 3) := by decide +kernel
theorem dX8_copyFrom_59 : decode cX8_copyFrom 59 = .ok (.aload_n 0, 1) := by decide +kernel
theorem dX8_copyFrom_60 : decode cX8_copyFrom 60 = .ok (.aload_n 1, 1) := by decide +kernel
theorem dX8_copyFrom_61 : decode cX8_copyFrom 61 = .ok (.getfield 56, 3) := by decide +kernel
theorem dX8_copyFrom_64 : decode cX8_copyFrom 64 = .ok (.putfield 56, 3) := by decide +kernel
theorem dX8_copyFrom_67 : decode cX8_copyFrom 67 = .ok (.aload_n 1, 1) := by decide +kernel
theorem dX8_copyFrom_68 : decode cX8_copyFrom 68 = .ok (.getfield 32, 3) := by decide +kernel
theorem dX8_copyFrom_71 : decode cX8_copyFrom 71 = .ok (.iconst 0, 1) := by decide +kernel
theorem dX8_copyFrom_72 : decode cX8_copyFrom 72 = .ok (.aload_n 0, 1) := by decide +kernel
theorem dX8_copyFrom_73 : decode cX8_copyFrom 73 = .ok (.getfield 32, 3) := by decide +kernel
theorem dX8_copyFrom_76 : decode cX8_copyFrom 76 = .ok (.iconst 0, 1) := by decide +kernel
theorem dX8_copyFrom_77 : decode cX8_copyFrom 77 = .ok (.bipush 6, 2) := by decide +kernel
theorem dX8_copyFrom_79 : decode cX8_copyFrom 79 = .ok (.invokestatic 66, 3) := by decide +kernel
theorem dX8_copyFrom_82 : decode cX8_copyFrom 82 = .ok (.aload_n 1, 1) := by decide +kernel
theorem dX8_copyFrom_83 : decode cX8_copyFrom 83 = .ok (.getfield 36, 3) := by decide +kernel
theorem dX8_copyFrom_86 : decode cX8_copyFrom 86 = .ok (.iconst 0, 1) := by decide +kernel
theorem dX8_copyFrom_87 : decode cX8_copyFrom 87 = .ok (.aload_n 0, 1) := by decide +kernel
theorem dX8_copyFrom_88 : decode cX8_copyFrom 88 = .ok (.getfield 36, 3) := by decide +kernel
theorem dX8_copyFrom_91 : decode cX8_copyFrom 91 = .ok (.iconst 0, 1) := by decide +kernel
theorem dX8_copyFrom_92 : decode cX8_copyFrom 92 = .ok (.bipush 6, 2) := by decide +kernel
theorem dX8_copyFrom_94 : decode cX8_copyFrom 94 = .ok (.invokestatic 66, 3) := by decide +kernel
theorem dX8_copyFrom_97 : decode cX8_copyFrom 97 = .ok (.aload_n 1, 1) := by decide +kernel
theorem dX8_copyFrom_98 : decode cX8_copyFrom 98 = .ok (.getfield 39, 3) := by decide +kernel
theorem dX8_copyFrom_101 : decode cX8_copyFrom 101 = .ok (.iconst 0, 1) := by decide +kernel
theorem dX8_copyFrom_102 : decode cX8_copyFrom 102 = .ok (.aload_n 0, 1) := by decide +kernel
theorem dX8_copyFrom_103 : decode cX8_copyFrom 103 = .ok (.getfield 39, 3) := by decide +kernel
theorem dX8_copyFrom_106 : decode cX8_copyFrom 106 = .ok (.iconst 0, 1) := by decide +kernel
theorem dX8_copyFrom_107 : decode cX8_copyFrom 107 = .ok (.bipush 6, 2) := by decide +kernel
theorem dX8_copyFrom_109 : decode cX8_copyFrom 109 = .ok (.invokestatic 66, 3) := by decide +kernel
theorem dX8_copyFrom_112 : decode cX8_copyFrom 112 = .ok (.aload_n 1, 1) := by decide +kernel
theorem dX8_copyFrom_113 : decode cX8_copyFrom 113 = .ok (.getfield 42, 3) := by decide +kernel
theorem dX8_copyFrom_116 : decode cX8_copyFrom 116 = .ok (.iconst 0, 1) := by decide +kernel
theorem dX8_copyFrom_117 : decode cX8_copyFrom 117 = .ok (.aload_n 0, 1) := by decide +kernel
theorem dX8_copyFrom_118 : decode cX8_copyFrom 118 = .ok (.getfield 42, 3) := by decide +kernel
theorem dX8_copyFrom_121 : decode cX8_copyFrom 121 = .ok (.iconst 0, 1) := by decide +kernel
theorem dX8_copyFrom_122 : decode cX8_copyFrom 122 = .ok (.bipush 6, 2) := by decide +kernel
theorem dX8_copyFrom_124 : decode cX8_copyFrom 124 = .ok (.invokestatic 66, 3) := by decide +kernel
theorem dX8_copyFrom_127 : decode cX8_copyFrom 127 = .ok (.aload_n 1, 1) := by decide +kernel
theorem dX8_copyFrom_128 : decode cX8_copyFrom 128 = .ok (.getfield 45, 3) := by decide +kernel
theorem dX8_copyFrom_131 : decode cX8_copyFrom 131 = .ok (.iconst 0, 1) := by decide +kernel
theorem dX8_copyFrom_132 : decode cX8_copyFrom 132 = .ok (.aload_n 0, 1) := by decide +kernel
theorem dX8_copyFrom_133 : decode cX8_copyFrom 133 = .ok (.getfield 45, 3) := by decide +kernel
theorem dX8_copyFrom_136 : decode cX8_copyFrom 136 = .ok (.iconst 0, 1) := by decide +kernel
theorem dX8_copyFrom_137 : decode cX8_copyFrom 137 = .ok (.bipush 6, 2) := by decide +kernel
theorem dX8_copyFrom_139 : decode cX8_copyFrom 139 = .ok (.invokestatic 66, 3) := by decide +kernel
theorem dX8_copyFrom_142 : decode cX8_copyFrom 142 = .ok (.return_, 1) := by decide +kernel
theorem dX8_suitNamed_0 : decode cX8_suitNamed 0 = .ok (.iconst 0, 1) := by decide +kernel
theorem dX8_suitNamed_1 : decode cX8_suitNamed 1 = .ok (.istore_n 3, 1) := by decide +kernel
theorem dX8_suitNamed_2 : decode cX8_suitNamed 2 = .ok (.iload_n 3, 1) := by decide +kernel
theorem dX8_suitNamed_3 : decode cX8_suitNamed 3 = .ok (.aload_n 0, 1) := by decide +kernel
theorem dX8_suitNamed_4 : decode cX8_suitNamed 4 = .ok (.getfield 12, 3) := by decide +kernel
theorem dX8_suitNamed_7 : decode cX8_suitNamed 7 = .ok (.getfield 72, 3) := by decide +kernel
theorem dX8_suitNamed_10 : decode cX8_suitNamed 10 = .ok (.if_icmp .ge 27, 3) := by decide +kernel
theorem dX8_suitNamed_13 : decode cX8_suitNamed 13 = .ok (.iload_n 3, 1) := by decide +kernel
theorem dX8_suitNamed_14 : decode cX8_suitNamed 14 = .ok (.iconst 4, 1) := by decide +kernel
theorem dX8_suitNamed_15 : decode cX8_suitNamed 15 = .ok (.if_icmp .ge 22, 3) := by decide +kernel
theorem dX8_suitNamed_18 : decode cX8_suitNamed 18 = .ok (.aload_n 0, 1) := by decide +kernel
theorem dX8_suitNamed_19 : decode cX8_suitNamed 19 = .ok (.getfield 25, 3) := by decide +kernel
theorem dX8_suitNamed_22 : decode cX8_suitNamed 22 = .ok (.iload_n 3, 1) := by decide +kernel
theorem dX8_suitNamed_23 : decode cX8_suitNamed 23 = .ok (.laload, 1) := by decide +kernel
theorem dX8_suitNamed_24 : decode cX8_suitNamed 24 = .ok (.lload_n 1, 1) := by decide +kernel
theorem dX8_suitNamed_25 : decode cX8_suitNamed 25 = .ok (.lcmp, 1) := by decide +kernel
theorem dX8_suitNamed_26 : decode cX8_suitNamed 26 = .ok (.ifCond .ne 5, 3) := by decide +kernel
theorem dX8_suitNamed_29 : decode cX8_suitNamed 29 = .ok (.iload_n 3, 1) := by decide +kernel
theorem dX8_suitNamed_30 : decode cX8_suitNamed 30 = .ok (.ireturn, 1) := by decide +kernel
theorem dX8_suitNamed_31 : decode cX8_suitNamed 31 = .ok (.iinc 3 1, 3) := by decide +kernel
theorem dX8_suitNamed_34 : decode cX8_suitNamed 34 = .ok (.goto (-32), 3) := by decide +kernel
theorem dX8_suitNamed_37 : decode cX8_suitNamed 37 = .ok (.iconst (-1), 1) := by decide +kernel
theorem dX8_suitNamed_38 : decode cX8_suitNamed 38 = .ok (.ireturn, 1) := by decide +kernel
theorem dX8_fieldNamed_0 : decode cX8_fieldNamed 0 = .ok (.iconst 0, 1) := by decide +kernel
theorem dX8_fieldNamed_1 : decode cX8_fieldNamed 1 = .ok (.istore_n 3, 1) := by decide +kernel
theorem dX8_fieldNamed_2 : decode cX8_fieldNamed 2 = .ok (.iload_n 3, 1) := by decide +kernel
theorem dX8_fieldNamed_3 : decode cX8_fieldNamed 3 = .ok (.aload_n 0, 1) := by decide +kernel
theorem dX8_fieldNamed_4 : decode cX8_fieldNamed 4 = .ok (.getfield 52, 3) := by decide +kernel
theorem dX8_fieldNamed_7 : decode cX8_fieldNamed 7 = .ok (.if_icmp .ge 28, 3) := by decide +kernel
theorem dX8_fieldNamed_10 : decode cX8_fieldNamed 10 = .ok (.iload_n 3, 1) := by decide +kernel
theorem dX8_fieldNamed_11 : decode cX8_fieldNamed 11 = .ok (.bipush 6, 2) := by decide +kernel
theorem dX8_fieldNamed_13 : decode cX8_fieldNamed 13 = .ok (.if_icmp .ge 22, 3) := by decide +kernel
theorem dX8_fieldNamed_16 : decode cX8_fieldNamed 16 = .ok (.aload_n 0, 1) := by decide +kernel
theorem dX8_fieldNamed_17 : decode cX8_fieldNamed 17 = .ok (.getfield 29, 3) := by decide +kernel
theorem dX8_fieldNamed_20 : decode cX8_fieldNamed 20 = .ok (.iload_n 3, 1) := by decide +kernel
theorem dX8_fieldNamed_21 : decode cX8_fieldNamed 21 = .ok (.laload, 1) := by decide +kernel
theorem dX8_fieldNamed_22 : decode cX8_fieldNamed 22 = .ok (.lload_n 1, 1) := by decide +kernel
theorem dX8_fieldNamed_23 : decode cX8_fieldNamed 23 = .ok (.lcmp, 1) := by decide +kernel
theorem dX8_fieldNamed_24 : decode cX8_fieldNamed 24 = .ok (.ifCond .ne 5, 3) := by decide +kernel
theorem dX8_fieldNamed_27 : decode cX8_fieldNamed 27 = .ok (.iload_n 3, 1) := by decide +kernel
theorem dX8_fieldNamed_28 : decode cX8_fieldNamed 28 = .ok (.ireturn, 1) := by decide +kernel
theorem dX8_fieldNamed_29 : decode cX8_fieldNamed 29 = .ok (.iinc 3 1, 3) := by decide +kernel
theorem dX8_fieldNamed_32 : decode cX8_fieldNamed 32 = .ok (.goto (-30), 3) := by decide +kernel
theorem dX8_fieldNamed_35 : decode cX8_fieldNamed 35 = .ok (.iconst (-1), 1) := by decide +kernel
theorem dX8_fieldNamed_36 : decode cX8_fieldNamed 36 = .ok (.ireturn, 1) := by decide +kernel
theorem dX8_addSuit_0 : decode cX8_addSuit 0 = .ok (.aload_n 0, 1) := by decide +kernel
theorem dX8_addSuit_1 : decode cX8_addSuit 1 = .ok (.getfield 12, 3) := by decide +kernel
theorem dX8_addSuit_4 : decode cX8_addSuit 4 = .ok (.getfield 72, 3) := by decide +kernel
theorem dX8_addSuit_7 : decode cX8_addSuit 7 = .ok (.iconst 4, 1) := by decide +kernel
theorem dX8_addSuit_8 : decode cX8_addSuit 8 = .ok (.if_icmp .ge 29, 3) := by decide +kernel
theorem dX8_addSuit_11 : decode cX8_addSuit 11 = .ok (.aload_n 0, 1) := by decide +kernel
theorem dX8_addSuit_12 : decode cX8_addSuit 12 = .ok (.getfield 25, 3) := by decide +kernel
theorem dX8_addSuit_15 : decode cX8_addSuit 15 = .ok (.aload_n 0, 1) := by decide +kernel
theorem dX8_addSuit_16 : decode cX8_addSuit 16 = .ok (.getfield 12, 3) := by decide +kernel
theorem dX8_addSuit_19 : decode cX8_addSuit 19 = .ok (.getfield 72, 3) := by decide +kernel
theorem dX8_addSuit_22 : decode cX8_addSuit 22 = .ok (.lload_n 1, 1) := by decide +kernel
theorem dX8_addSuit_23 : decode cX8_addSuit 23 = .ok (.lastore, 1) := by decide +kernel
theorem dX8_addSuit_24 : decode cX8_addSuit 24 = .ok (.aload_n 0, 1) := by decide +kernel
theorem dX8_addSuit_25 : decode cX8_addSuit 25 = .ok (.getfield 12, 3) := by decide +kernel
theorem dX8_addSuit_28 : decode cX8_addSuit 28 = .ok (.dup, 1) := by decide +kernel
theorem dX8_addSuit_29 : decode cX8_addSuit 29 = .ok (.getfield 72, 3) := by decide +kernel
theorem dX8_addSuit_32 : decode cX8_addSuit 32 = .ok (.iconst 1, 1) := by decide +kernel
theorem dX8_addSuit_33 : decode cX8_addSuit 33 = .ok (.iadd, 1) := by decide +kernel
theorem dX8_addSuit_34 : decode cX8_addSuit 34 = .ok (.putfield 72, 3) := by decide +kernel
theorem dX8_addSuit_37 : decode cX8_addSuit 37 = .ok (.return_, 1) := by decide +kernel
theorem dX8_addField_0 : decode cX8_addField 0 = .ok (.aload_n 0, 1) := by decide +kernel
theorem dX8_addField_1 : decode cX8_addField 1 = .ok (.getfield 52, 3) := by decide +kernel
theorem dX8_addField_4 : decode cX8_addField 4 = .ok (.bipush 6, 2) := by decide +kernel
theorem dX8_addField_6 : decode cX8_addField 6 = .ok (.if_icmp .ge 76, 3) := by decide +kernel
theorem dX8_addField_9 : decode cX8_addField 9 = .ok (.aload_n 0, 1) := by decide +kernel
theorem dX8_addField_10 : decode cX8_addField 10 = .ok (.getfield 29, 3) := by decide +kernel
theorem dX8_addField_13 : decode cX8_addField 13 = .ok (.aload_n 0, 1) := by decide +kernel
theorem dX8_addField_14 : decode cX8_addField 14 = .ok (.getfield 52, 3) := by decide +kernel
theorem dX8_addField_17 : decode cX8_addField 17 = .ok (.lload_n 1, 1) := by decide +kernel
theorem dX8_addField_18 : decode cX8_addField 18 = .ok (.lastore, 1) := by decide +kernel
theorem dX8_addField_19 : decode cX8_addField 19 = .ok (.aload_n 0, 1) := by decide +kernel
theorem dX8_addField_20 : decode cX8_addField 20 = .ok (.getfield 32, 3) := by decide +kernel
theorem dX8_addField_23 : decode cX8_addField 23 = .ok (.aload_n 0, 1) := by decide +kernel
theorem dX8_addField_24 : decode cX8_addField 24 = .ok (.getfield 52, 3) := by decide +kernel
theorem dX8_addField_27 : decode cX8_addField 27 = .ok (.iload_n 3, 1) := by decide +kernel
theorem dX8_addField_28 : decode cX8_addField 28 = .ok (.iastore, 1) := by decide +kernel
theorem dX8_addField_29 : decode cX8_addField 29 = .ok (.aload_n 0, 1) := by decide +kernel
theorem dX8_addField_30 : decode cX8_addField 30 = .ok (.getfield 36, 3) := by decide +kernel
theorem dX8_addField_33 : decode cX8_addField 33 = .ok (.aload_n 0, 1) := by decide +kernel
theorem dX8_addField_34 : decode cX8_addField 34 = .ok (.getfield 52, 3) := by decide +kernel
theorem dX8_addField_37 : decode cX8_addField 37 = .ok (.iload 4, 2) := by decide +kernel
theorem dX8_addField_39 : decode cX8_addField 39 = .ok (.iastore, 1) := by decide +kernel
theorem dX8_addField_40 : decode cX8_addField 40 = .ok (.aload_n 0, 1) := by decide +kernel
theorem dX8_addField_41 : decode cX8_addField 41 = .ok (.getfield 39, 3) := by decide +kernel
theorem dX8_addField_44 : decode cX8_addField 44 = .ok (.aload_n 0, 1) := by decide +kernel
theorem dX8_addField_45 : decode cX8_addField 45 = .ok (.getfield 52, 3) := by decide +kernel
theorem dX8_addField_48 : decode cX8_addField 48 = .ok (.bipush 10, 2) := by decide +kernel
theorem dX8_addField_50 : decode cX8_addField 50 = .ok (.iastore, 1) := by decide +kernel
theorem dX8_addField_51 : decode cX8_addField 51 = .ok (.aload_n 0, 1) := by decide +kernel
theorem dX8_addField_52 : decode cX8_addField 52 = .ok (.getfield 42, 3) := by decide +kernel
theorem dX8_addField_55 : decode cX8_addField 55 = .ok (.aload_n 0, 1) := by decide +kernel
theorem dX8_addField_56 : decode cX8_addField 56 = .ok (.getfield 52, 3) := by decide +kernel
theorem dX8_addField_59 : decode cX8_addField 59 = .ok (.bipush 99, 2) := by decide +kernel
theorem dX8_addField_61 : decode cX8_addField 61 = .ok (.iastore, 1) := by decide +kernel
theorem dX8_addField_62 : decode cX8_addField 62 = .ok (.aload_n 0, 1) := by decide +kernel
theorem dX8_addField_63 : decode cX8_addField 63 = .ok (.getfield 45, 3) := by decide +kernel
theorem dX8_addField_66 : decode cX8_addField 66 = .ok (.aload_n 0, 1) := by decide +kernel
theorem dX8_addField_67 : decode cX8_addField 67 = .ok (.getfield 52, 3) := by decide +kernel
theorem dX8_addField_70 : decode cX8_addField 70 = .ok (.iconst 0, 1) := by decide +kernel
theorem dX8_addField_71 : decode cX8_addField 71 = .ok (.iastore, 1) := by decide +kernel
theorem dX8_addField_72 : decode cX8_addField 72 = .ok (.aload_n 0, 1) := by decide +kernel
theorem dX8_addField_73 : decode cX8_addField 73 = .ok (.dup, 1) := by decide +kernel
theorem dX8_addField_74 : decode cX8_addField 74 = .ok (.getfield 52, 3) := by decide +kernel
theorem dX8_addField_77 : decode cX8_addField 77 = .ok (.iconst 1, 1) := by decide +kernel
theorem dX8_addField_78 : decode cX8_addField 78 = .ok (.iadd, 1) := by decide +kernel
theorem dX8_addField_79 : decode cX8_addField 79 = .ok (.putfield 52, 3) := by decide +kernel
theorem dX8_addField_82 : decode cX8_addField 82 = .ok (.return_, 1) := by decide +kernel
theorem dX8_wet_0 : decode cX8_wet 0 = .ok (.iload_n 1, 1) := by decide +kernel
theorem dX8_wet_1 : decode cX8_wet 1 = .ok (.ifCond .lt 20, 3) := by decide +kernel
theorem dX8_wet_4 : decode cX8_wet 4 = .ok (.iload_n 1, 1) := by decide +kernel
theorem dX8_wet_5 : decode cX8_wet 5 = .ok (.aload_n 0, 1) := by decide +kernel
theorem dX8_wet_6 : decode cX8_wet 6 = .ok (.getfield 52, 3) := by decide +kernel
theorem dX8_wet_9 : decode cX8_wet 9 = .ok (.if_icmp .ge 12, 3) := by decide +kernel
theorem dX8_wet_12 : decode cX8_wet 12 = .ok (.aload_n 0, 1) := by decide +kernel
theorem dX8_wet_13 : decode cX8_wet 13 = .ok (.getfield 45, 3) := by decide +kernel
theorem dX8_wet_16 : decode cX8_wet 16 = .ok (.iload_n 1, 1) := by decide +kernel
theorem dX8_wet_17 : decode cX8_wet 17 = .ok (.iaload, 1) := by decide +kernel
theorem dX8_wet_18 : decode cX8_wet 18 = .ok (.ifCond .eq 4, 3) := by decide +kernel
theorem dX8_wet_21 : decode cX8_wet 21 = .ok (.return_, 1) := by decide +kernel
theorem dX8_wet_22 : decode cX8_wet 22 = .ok (.aload_n 0, 1) := by decide +kernel
theorem dX8_wet_23 : decode cX8_wet 23 = .ok (.getfield 39, 3) := by decide +kernel
theorem dX8_wet_26 : decode cX8_wet 26 = .ok (.iload_n 1, 1) := by decide +kernel
theorem dX8_wet_27 : decode cX8_wet 27 = .ok (.dup2, 1) := by decide +kernel
theorem dX8_wet_28 : decode cX8_wet 28 = .ok (.iaload, 1) := by decide +kernel
theorem dX8_wet_29 : decode cX8_wet 29 = .ok (.iload_n 2, 1) := by decide +kernel
theorem dX8_wet_30 : decode cX8_wet 30 = .ok (.iadd, 1) := by decide +kernel
theorem dX8_wet_31 : decode cX8_wet 31 = .ok (.iastore, 1) := by decide +kernel
theorem dX8_wet_32 : decode cX8_wet 32 = .ok (.aload_n 0, 1) := by decide +kernel
theorem dX8_wet_33 : decode cX8_wet 33 = .ok (.getfield 39, 3) := by decide +kernel
theorem dX8_wet_36 : decode cX8_wet 36 = .ok (.iload_n 1, 1) := by decide +kernel
theorem dX8_wet_37 : decode cX8_wet 37 = .ok (.iaload, 1) := by decide +kernel
theorem dX8_wet_38 : decode cX8_wet 38 = .ok (.aload_n 0, 1) := by decide +kernel
theorem dX8_wet_39 : decode cX8_wet 39 = .ok (.getfield 42, 3) := by decide +kernel
theorem dX8_wet_42 : decode cX8_wet 42 = .ok (.iload_n 1, 1) := by decide +kernel
theorem dX8_wet_43 : decode cX8_wet 43 = .ok (.iaload, 1) := by decide +kernel
theorem dX8_wet_44 : decode cX8_wet 44 = .ok (.if_icmp .le 10, 3) := by decide +kernel
theorem dX8_wet_47 : decode cX8_wet 47 = .ok (.aload_n 0, 1) := by decide +kernel
theorem dX8_wet_48 : decode cX8_wet 48 = .ok (.getfield 45, 3) := by decide +kernel
theorem dX8_wet_51 : decode cX8_wet 51 = .ok (.iload_n 1, 1) := by decide +kernel
theorem dX8_wet_52 : decode cX8_wet 52 = .ok (.iconst 2, 1) := by decide +kernel
theorem dX8_wet_53 : decode cX8_wet 53 = .ok (.iastore, 1) := by decide +kernel
theorem dX8_wet_54 : decode cX8_wet 54 = .ok (.return_, 1) := by decide +kernel
theorem dX8_wetSuit_0 : decode cX8_wetSuit 0 = .ok (.iconst 0, 1) := by decide +kernel
theorem dX8_wetSuit_1 : decode cX8_wetSuit 1 = .ok (.istore_n 3, 1) := by decide +kernel
theorem dX8_wetSuit_2 : decode cX8_wetSuit 2 = .ok (.iload_n 3, 1) := by decide +kernel
theorem dX8_wetSuit_3 : decode cX8_wetSuit 3 = .ok (.aload_n 0, 1) := by decide +kernel
theorem dX8_wetSuit_4 : decode cX8_wetSuit 4 = .ok (.getfield 52, 3) := by decide +kernel
theorem dX8_wetSuit_7 : decode cX8_wetSuit 7 = .ok (.if_icmp .ge 31, 3) := by decide +kernel
theorem dX8_wetSuit_10 : decode cX8_wetSuit 10 = .ok (.iload_n 3, 1) := by decide +kernel
theorem dX8_wetSuit_11 : decode cX8_wetSuit 11 = .ok (.bipush 6, 2) := by decide +kernel
theorem dX8_wetSuit_13 : decode cX8_wetSuit 13 = .ok (.if_icmp .ge 25, 3) := by decide +kernel
theorem dX8_wetSuit_16 : decode cX8_wetSuit 16 = .ok (.aload_n 0, 1) := by decide +kernel
theorem dX8_wetSuit_17 : decode cX8_wetSuit 17 = .ok (.getfield 32, 3) := by decide +kernel
theorem dX8_wetSuit_20 : decode cX8_wetSuit 20 = .ok (.iload_n 3, 1) := by decide +kernel
theorem dX8_wetSuit_21 : decode cX8_wetSuit 21 = .ok (.iaload, 1) := by decide +kernel
theorem dX8_wetSuit_22 : decode cX8_wetSuit 22 = .ok (.iload_n 1, 1) := by decide +kernel
theorem dX8_wetSuit_23 : decode cX8_wetSuit 23 = .ok (.if_icmp .ne 9, 3) := by decide +kernel
theorem dX8_wetSuit_26 : decode cX8_wetSuit 26 = .ok (.aload_n 0, 1) := by decide +kernel
theorem dX8_wetSuit_27 : decode cX8_wetSuit 27 = .ok (.iload_n 3, 1) := by decide +kernel
theorem dX8_wetSuit_28 : decode cX8_wetSuit 28 = .ok (.iload_n 2, 1) := by decide +kernel
theorem dX8_wetSuit_29 : decode cX8_wetSuit 29 = .ok (.invokevirtual 75, 3) := by decide +kernel
theorem dX8_wetSuit_32 : decode cX8_wetSuit 32 = .ok (.iinc 3 1, 3) := by decide +kernel
theorem dX8_wetSuit_35 : decode cX8_wetSuit 35 = .ok (.goto (-33), 3) := by decide +kernel
theorem dX8_wetSuit_38 : decode cX8_wetSuit 38 = .ok (.return_, 1) := by decide +kernel
theorem dX8_play_0 : decode cX8_play 0 = .ok (.aload_n 0, 1) := by decide +kernel
theorem dX8_play_1 : decode cX8_play 1 = .ok (.getfield 12, 3) := by decide +kernel
theorem dX8_play_4 : decode cX8_play 4 = .ok (.iload_n 1, 1) := by decide +kernel
theorem dX8_play_5 : decode cX8_play 5 = .ok (.iload_n 2, 1) := by decide +kernel
theorem dX8_play_6 : decode cX8_play 6 = .ok (.invokevirtual 79, 3) := by decide +kernel
theorem dX8_play_9 : decode cX8_play 9 = .ok (.istore_n 3, 1) := by decide +kernel
theorem dX8_play_10 : decode cX8_play 10 = .ok (.iload_n 2, 1) := by decide +kernel
theorem dX8_play_11 : decode cX8_play 11 = .ok (.bipush 7, 2) := by decide +kernel
theorem dX8_play_13 : decode cX8_play 13 = .ok (.if_icmp .ne 20, 3) := by decide +kernel
theorem dX8_play_16 : decode cX8_play 16 = .ok (.iload_n 3, 1) := by decide +kernel
theorem dX8_play_17 : decode cX8_play 17 = .ok (.iconst (-1), 1) := by decide +kernel
theorem dX8_play_18 : decode cX8_play 18 = .ok (.if_icmp .eq 15, 3) := by decide +kernel
theorem dX8_play_21 : decode cX8_play 21 = .ok (.aload_n 0, 1) := by decide +kernel
theorem dX8_play_22 : decode cX8_play 22 = .ok (.iload_n 3, 1) := by decide +kernel
theorem dX8_play_23 : decode cX8_play 23 = .ok (.invokestatic 83, 3) := by decide +kernel
theorem dX8_play_26 : decode cX8_play 26 = .ok (.iload_n 3, 1) := by decide +kernel
theorem dX8_play_27 : decode cX8_play 27 = .ok (.invokestatic 87, 3) := by decide +kernel
theorem dX8_play_30 : decode cX8_play 30 = .ok (.invokevirtual 90, 3) := by decide +kernel
theorem dX8_play_33 : decode cX8_play 33 = .ok (.iload_n 3, 1) := by decide +kernel
theorem dX8_play_34 : decode cX8_play 34 = .ok (.ireturn, 1) := by decide +kernel
theorem dX8_bringHome_0 : decode cX8_bringHome 0 = .ok (.aload_n 0, 1) := by decide +kernel
theorem dX8_bringHome_1 : decode cX8_bringHome 1 = .ok (.getfield 12, 3) := by decide +kernel
theorem dX8_bringHome_4 : decode cX8_bringHome 4 = .ok (.invokevirtual 93, 3) := by decide +kernel
theorem dX8_bringHome_7 : decode cX8_bringHome 7 = .ok (.aload_n 0, 1) := by decide +kernel
theorem dX8_bringHome_8 : decode cX8_bringHome 8 = .ok (.getfield 12, 3) := by decide +kernel
theorem dX8_bringHome_11 : decode cX8_bringHome 11 = .ok (.invokevirtual 96, 3) := by decide +kernel
theorem dX8_bringHome_14 : decode cX8_bringHome 14 = .ok (.istore_n 1, 1) := by decide +kernel
theorem dX8_bringHome_15 : decode cX8_bringHome 15 = .ok (.iconst 0, 1) := by decide +kernel
theorem dX8_bringHome_16 : decode cX8_bringHome 16 = .ok (.istore_n 2, 1) := by decide +kernel
theorem dX8_bringHome_17 : decode cX8_bringHome 17 = .ok (.iload_n 2, 1) := by decide +kernel
theorem dX8_bringHome_18 : decode cX8_bringHome 18 = .ok (.iconst 4, 1) := by decide +kernel
theorem dX8_bringHome_19 : decode cX8_bringHome 19 = .ok (.if_icmp .ge 46, 3) := by decide +kernel
theorem dX8_bringHome_22 : decode cX8_bringHome 22 = .ok (.aload_n 0, 1) := by decide +kernel
theorem dX8_bringHome_23 : decode cX8_bringHome 23 = .ok (.getfield 12, 3) := by decide +kernel
theorem dX8_bringHome_26 : decode cX8_bringHome 26 = .ok (.getfield 100, 3) := by decide +kernel
theorem dX8_bringHome_29 : decode cX8_bringHome 29 = .ok (.iload_n 2, 1) := by decide +kernel
theorem dX8_bringHome_30 : decode cX8_bringHome 30 = .ok (.iaload, 1) := by decide +kernel
theorem dX8_bringHome_31 : decode cX8_bringHome 31 = .ok (.iconst 1, 1) := by decide +kernel
theorem dX8_bringHome_32 : decode cX8_bringHome 32 = .ok (.iadd, 1) := by decide +kernel
theorem dX8_bringHome_33 : decode cX8_bringHome 33 = .ok (.istore_n 3, 1) := by decide +kernel
theorem dX8_bringHome_34 : decode cX8_bringHome 34 = .ok (.iload_n 3, 1) := by decide +kernel
theorem dX8_bringHome_35 : decode cX8_bringHome 35 = .ok (.aload_n 0, 1) := by decide +kernel
theorem dX8_bringHome_36 : decode cX8_bringHome 36 = .ok (.getfield 12, 3) := by decide +kernel
theorem dX8_bringHome_39 : decode cX8_bringHome 39 = .ok (.getfield 103, 3) := by decide +kernel
theorem dX8_bringHome_42 : decode cX8_bringHome 42 = .ok (.iload_n 2, 1) := by decide +kernel
theorem dX8_bringHome_43 : decode cX8_bringHome 43 = .ok (.iaload, 1) := by decide +kernel
theorem dX8_bringHome_44 : decode cX8_bringHome 44 = .ok (.if_icmp .gt 15, 3) := by decide +kernel
theorem dX8_bringHome_47 : decode cX8_bringHome 47 = .ok (.aload_n 0, 1) := by decide +kernel
theorem dX8_bringHome_48 : decode cX8_bringHome 48 = .ok (.iload_n 2, 1) := by decide +kernel
theorem dX8_bringHome_49 : decode cX8_bringHome 49 = .ok (.iload_n 3, 1) := by decide +kernel
theorem dX8_bringHome_50 : decode cX8_bringHome 50 = .ok (.invokevirtual 90, 3) := by decide +kernel
theorem dX8_bringHome_53 : decode cX8_bringHome 53 = .ok (.iinc 3 1, 3) := by decide +kernel
theorem dX8_bringHome_56 : decode cX8_bringHome 56 = .ok (.goto (-22), 3) := by decide +kernel
theorem dX8_bringHome_59 : decode cX8_bringHome 59 = .ok (.iinc 2 1, 3) := by decide +kernel
theorem dX8_bringHome_62 : decode cX8_bringHome 62 = .ok (.goto (-45), 3) := by decide +kernel
theorem dX8_bringHome_65 : decode cX8_bringHome 65 = .ok (.aload_n 0, 1) := by decide +kernel
theorem dX8_bringHome_66 : decode cX8_bringHome 66 = .ok (.getfield 12, 3) := by decide +kernel
theorem dX8_bringHome_69 : decode cX8_bringHome 69 = .ok (.invokevirtual 106, 3) := by decide +kernel
theorem dX8_bringHome_72 : decode cX8_bringHome 72 = .ok (.iload_n 1, 1) := by decide +kernel
theorem dX8_bringHome_73 : decode cX8_bringHome 73 = .ok (.ireturn, 1) := by decide +kernel
theorem dX8_passDays_0 : decode cX8_passDays 0 = .ok (.aload_n 0, 1) := by decide +kernel
theorem dX8_passDays_1 : decode cX8_passDays 1 = .ok (.getfield 56, 3) := by decide +kernel
theorem dX8_passDays_4 : decode cX8_passDays 4 = .ok (.iload_n 1, 1) := by decide +kernel
theorem dX8_passDays_5 : decode cX8_passDays 5 = .ok (.iadd, 1) := by decide +kernel
theorem dX8_passDays_6 : decode cX8_passDays 6 = .ok (.sipush 9999, 3) := by decide +kernel
theorem dX8_passDays_9 : decode cX8_passDays 9 = .ok (.if_icmp .le 5, 3) := by decide +kernel
theorem dX8_passDays_12 : decode cX8_passDays 12 = .ok (.iconst 0, 1) := by decide +kernel
theorem dX8_passDays_13 : decode cX8_passDays 13 = .ok (.ireturn, 1) := by decide +kernel
theorem dX8_passDays_14 : decode cX8_passDays 14 = .ok (.aload_n 0, 1) := by decide +kernel
theorem dX8_passDays_15 : decode cX8_passDays 15 = .ok (.dup, 1) := by decide +kernel
theorem dX8_passDays_16 : decode cX8_passDays 16 = .ok (.getfield 56, 3) := by decide +kernel
theorem dX8_passDays_19 : decode cX8_passDays 19 = .ok (.iload_n 1, 1) := by decide +kernel
theorem dX8_passDays_20 : decode cX8_passDays 20 = .ok (.iadd, 1) := by decide +kernel
theorem dX8_passDays_21 : decode cX8_passDays 21 = .ok (.putfield 56, 3) := by decide +kernel
theorem dX8_passDays_24 : decode cX8_passDays 24 = .ok (.iconst 0, 1) := by decide +kernel
theorem dX8_passDays_25 : decode cX8_passDays 25 = .ok (.istore_n 2, 1) := by decide +kernel
theorem dX8_passDays_26 : decode cX8_passDays 26 = .ok (.iload_n 2, 1) := by decide +kernel
theorem dX8_passDays_27 : decode cX8_passDays 27 = .ok (.aload_n 0, 1) := by decide +kernel
theorem dX8_passDays_28 : decode cX8_passDays 28 = .ok (.getfield 52, 3) := by decide +kernel
theorem dX8_passDays_31 : decode cX8_passDays 31 = .ok (.if_icmp .ge 37, 3) := by decide +kernel
theorem dX8_passDays_34 : decode cX8_passDays 34 = .ok (.iload_n 2, 1) := by decide +kernel
theorem dX8_passDays_35 : decode cX8_passDays 35 = .ok (.bipush 6, 2) := by decide +kernel
theorem dX8_passDays_37 : decode cX8_passDays 37 = .ok (.if_icmp .ge 31, 3) := by decide +kernel
theorem dX8_passDays_40 : decode cX8_passDays 40 = .ok (.aload_n 0, 1) := by decide +kernel
theorem dX8_passDays_41 : decode cX8_passDays 41 = .ok (.getfield 45, 3) := by decide +kernel
