theorem dX11_easiest_66 : decode cX11_easiest 66 = .ok (.aload_n 0, 1) := by decide +kernel
theorem dX11_easiest_67 : decode cX11_easiest 67 = .ok (.bipush 8, 2) := by decide +kernel
theorem dX11_easiest_69 : decode cX11_easiest 69 = .ok (.invokevirtual 312, 3) := by decide +kernel
theorem dX11_easiest_72 : decode cX11_easiest 72 = .ok (.goto 4, 3) := by decide +kernel
theorem dX11_easiest_75 : decode cX11_easiest 75 = .ok (.iload_n 1, 1) := by decide +kernel
theorem dX11_easiest_76 : decode cX11_easiest 76 = .ok (.ireturn, 1) := by decide +kernel
theorem dX11_withers_0 : decode cX11_withers 0 = .ok (.sipush 152, 3) := by decide +kernel
theorem dX11_withers_3 : decode cX11_withers 3 = .ok (.iload_n 1, 1) := by decide +kernel
theorem dX11_withers_4 : decode cX11_withers 4 = .ok (.iadd, 1) := by decide +kernel
theorem dX11_withers_5 : decode cX11_withers 5 = .ok (.istore_n 2, 1) := by decide +kernel
theorem dX11_withers_6 : decode cX11_withers 6 = .ok (.aload_n 0, 1) := by decide +kernel
theorem dX11_withers_7 : decode cX11_withers 7 = .ok (.getfield 35, 3) := by decide +kernel
theorem dX11_withers_10 : decode cX11_withers 10 = .ok (.iload_n 2, 1) := by decide +kernel
theorem dX11_withers_11 : decode cX11_withers 11 = .ok (.bipush 12, 2) := by decide +kernel
theorem dX11_withers_13 : decode cX11_withers 13 = .ok (.iadd, 1) := by decide +kernel
theorem dX11_withers_14 : decode cX11_withers 14 = .ok (.iaload, 1) := by decide +kernel
theorem dX11_withers_15 : decode cX11_withers 15 = .ok (.ifCond .ne 15, 3) := by decide +kernel
theorem dX11_withers_18 : decode cX11_withers 18 = .ok (.aload_n 0, 1) := by decide +kernel
theorem dX11_withers_19 : decode cX11_withers 19 = .ok (.getfield 35, 3) := by decide +kernel
theorem dX11_withers_22 : decode cX11_withers 22 = .ok (.iload_n 2, 1) := by decide +kernel
theorem dX11_withers_23 : decode cX11_withers 23 = .ok (.bipush 6, 2) := by decide +kernel
theorem dX11_withers_25 : decode cX11_withers 25 = .ok (.isub, 1) := by decide +kernel
theorem dX11_withers_26 : decode cX11_withers 26 = .ok (.iaload, 1) := by decide +kernel
theorem dX11_withers_27 : decode cX11_withers 27 = .ok (.ifCond .ne 5, 3) := by decide +kernel
theorem dX11_withers_30 : decode cX11_withers 30 = .ok (.iconst (-1), 1) := by decide +kernel
theorem dX11_withers_31 : decode cX11_withers 31 = .ok (.ireturn, 1) := by decide +kernel
theorem dX11_withers_32 : decode cX11_withers 32 = .ok (.aload_n 0, 1) := by decide +kernel
theorem dX11_withers_33 : decode cX11_withers 33 = .ok (.getfield 35, 3) := by decide +kernel
theorem dX11_withers_36 : decode cX11_withers 36 = .ok (.iload_n 2, 1) := by decide +kernel
theorem dX11_withers_37 : decode cX11_withers 37 = .ok (.iaload, 1) := by decide +kernel
theorem dX11_withers_38 : decode cX11_withers 38 = .ok (.aload_n 0, 1) := by decide +kernel
theorem dX11_withers_39 : decode cX11_withers 39 = .ok (.getfield 35, 3) := by decide +kernel
theorem dX11_withers_42 : decode cX11_withers 42 = .ok (.iload_n 2, 1) := by decide +kernel
theorem dX11_withers_43 : decode cX11_withers 43 = .ok (.bipush 6, 2) := by decide +kernel
theorem dX11_withers_45 : decode cX11_withers 45 = .ok (.isub, 1) := by decide +kernel
theorem dX11_withers_46 : decode cX11_withers 46 = .ok (.iaload, 1) := by decide +kernel
theorem dX11_withers_47 : decode cX11_withers 47 = .ok (.idiv, 1) := by decide +kernel
theorem dX11_withers_48 : decode cX11_withers 48 = .ok (.iconst 1, 1) := by decide +kernel
theorem dX11_withers_49 : decode cX11_withers 49 = .ok (.iadd, 1) := by decide +kernel
theorem dX11_withers_50 : decode cX11_withers 50 = .ok (.ireturn, 1) := by decide +kernel
theorem dX11_wilts_0 : decode cX11_wilts 0 = .ok (.aload_n 0, 1) := by decide +kernel
theorem dX11_wilts_1 : decode cX11_wilts 1 = .ok (.iconst 0, 1) := by decide +kernel
theorem dX11_wilts_2 : decode cX11_wilts 2 = .ok (.putfield 59, 3) := by decide +kernel
theorem dX11_wilts_5 : decode cX11_wilts 5 = .ok (.aload_n 0, 1) := by decide +kernel
theorem dX11_wilts_6 : decode cX11_wilts 6 = .ok (.iconst 0, 1) := by decide +kernel
theorem dX11_wilts_7 : decode cX11_wilts 7 = .ok (.putfield 62, 3) := by decide +kernel
theorem dX11_wilts_10 : decode cX11_wilts 10 = .ok (.aload_n 0, 1) := by decide +kernel
theorem dX11_wilts_11 : decode cX11_wilts 11 = .ok (.iload_n 1, 1) := by decide +kernel
theorem dX11_wilts_12 : decode cX11_wilts 12 = .ok (.invokevirtual 333, 3) := by decide +kernel
theorem dX11_wilts_15 : decode cX11_wilts 15 = .ok (.ifCond .ne 9, 3) := by decide +kernel
theorem dX11_wilts_18 : decode cX11_wilts 18 = .ok (.aload_n 0, 1) := by decide +kernel
theorem dX11_wilts_19 : decode cX11_wilts 19 = .ok (.iconst 2, 1) := by decide +kernel
theorem dX11_wilts_20 : decode cX11_wilts 20 = .ok (.invokevirtual 312, 3) := by decide +kernel
theorem dX11_wilts_23 : decode cX11_wilts 23 = .ok (.ireturn, 1) := by decide +kernel
theorem dX11_wilts_24 : decode cX11_wilts 24 = .ok (.aload_n 0, 1) := by decide +kernel
theorem dX11_wilts_25 : decode cX11_wilts 25 = .ok (.iload_n 1, 1) := by decide +kernel
theorem dX11_wilts_26 : decode cX11_wilts 26 = .ok (.invokevirtual 417, 3) := by decide +kernel
theorem dX11_wilts_29 : decode cX11_wilts 29 = .ok (.istore_n 2, 1) := by decide +kernel
theorem dX11_wilts_30 : decode cX11_wilts 30 = .ok (.iload_n 2, 1) := by decide +kernel
theorem dX11_wilts_31 : decode cX11_wilts 31 = .ok (.ifCond .ge 12, 3) := by decide +kernel
theorem dX11_wilts_34 : decode cX11_wilts 34 = .ok (.aload_n 0, 1) := by decide +kernel
theorem dX11_wilts_35 : decode cX11_wilts 35 = .ok (.bipush 8, 2) := by decide +kernel
theorem dX11_wilts_37 : decode cX11_wilts 37 = .ok (.invokevirtual 312, 3) := by decide +kernel
theorem dX11_wilts_40 : decode cX11_wilts 40 = .ok (.goto 4, 3) := by decide +kernel
theorem dX11_wilts_43 : decode cX11_wilts 43 = .ok (.iload_n 2, 1) := by decide +kernel
theorem dX11_wilts_44 : decode cX11_wilts 44 = .ok (.ireturn, 1) := by decide +kernel
theorem dX11_thirstiest_0 : decode cX11_thirstiest 0 = .ok (.aload_n 0, 1) := by decide +kernel
theorem dX11_thirstiest_1 : decode cX11_thirstiest 1 = .ok (.iconst 0, 1) := by decide +kernel
theorem dX11_thirstiest_2 : decode cX11_thirstiest 2 = .ok (.putfield 59, 3) := by decide +kernel
theorem dX11_thirstiest_5 : decode cX11_thirstiest 5 = .ok (.aload_n 0, 1) := by decide +kernel
theorem dX11_thirstiest_6 : decode cX11_thirstiest 6 = .ok (.iconst 0, 1) := by decide +kernel
theorem dX11_thirstiest_7 : decode cX11_thirstiest 7 = .ok (.putfield 62, 3) := by decide +kernel
theorem dX11_thirstiest_10 : decode cX11_thirstiest 10 = .ok (.iconst (-1), 1) := by decide +kernel
theorem dX11_thirstiest_11 : decode cX11_thirstiest 11 = .ok (.istore_n 1, 1) := by decide +kernel
theorem dX11_thirstiest_12 : decode cX11_thirstiest 12 = .ok (.iconst 0, 1) := by decide +kernel
theorem dX11_thirstiest_13 : decode cX11_thirstiest 13 = .ok (.istore_n 2, 1) := by decide +kernel
theorem dX11_thirstiest_14 : decode cX11_thirstiest 14 = .ok (.iload_n 2, 1) := by decide +kernel
theorem dX11_thirstiest_15 : decode cX11_thirstiest 15 = .ok (.aload_n 0, 1) := by decide +kernel
theorem dX11_thirstiest_16 : decode cX11_thirstiest 16 = .ok (.getfield 35, 3) := by decide +kernel
theorem dX11_thirstiest_19 : decode cX11_thirstiest 19 = .ok (.iconst 5, 1) := by decide +kernel
theorem dX11_thirstiest_20 : decode cX11_thirstiest 20 = .ok (.iaload, 1) := by decide +kernel
theorem dX11_thirstiest_21 : decode cX11_thirstiest 21 = .ok (.if_icmp .ge 36, 3) := by decide +kernel
theorem dX11_thirstiest_24 : decode cX11_thirstiest 24 = .ok (.aload_n 0, 1) := by decide +kernel
theorem dX11_thirstiest_25 : decode cX11_thirstiest 25 = .ok (.iload_n 2, 1) := by decide +kernel
theorem dX11_thirstiest_26 : decode cX11_thirstiest 26 = .ok (.invokevirtual 417, 3) := by decide +kernel
theorem dX11_thirstiest_29 : decode cX11_thirstiest 29 = .ok (.ifCond .lt 22, 3) := by decide +kernel
theorem dX11_thirstiest_32 : decode cX11_thirstiest 32 = .ok (.iload_n 1, 1) := by decide +kernel
theorem dX11_thirstiest_33 : decode cX11_thirstiest 33 = .ok (.ifCond .lt 16, 3) := by decide +kernel
theorem dX11_thirstiest_36 : decode cX11_thirstiest 36 = .ok (.aload_n 0, 1) := by decide +kernel
theorem dX11_thirstiest_37 : decode cX11_thirstiest 37 = .ok (.iload_n 2, 1) := by decide +kernel
theorem dX11_thirstiest_38 : decode cX11_thirstiest 38 = .ok (.invokevirtual 417, 3) := by decide +kernel
theorem dX11_thirstiest_41 : decode cX11_thirstiest 41 = .ok (.aload_n 0, 1) := by decide +kernel
theorem dX11_thirstiest_42 : decode cX11_thirstiest 42 = .ok (.iload_n 1, 1) := by decide +kernel
theorem dX11_thirstiest_43 : decode cX11_thirstiest 43 = .ok (.invokevirtual 417, 3) := by decide +kernel
theorem dX11_thirstiest_46 : decode cX11_thirstiest 46 = .ok (.if_icmp .ge 5, 3) := by decide +kernel
theorem dX11_thirstiest_49 : decode cX11_thirstiest 49 = .ok (.iload_n 2, 1) := by decide +kernel
theorem dX11_thirstiest_50 : decode cX11_thirstiest 50 = .ok (.istore_n 1, 1) := by decide +kernel
theorem dX11_thirstiest_51 : decode cX11_thirstiest 51 = .ok (.iinc 2 1, 3) := by decide +kernel
theorem dX11_thirstiest_54 : decode cX11_thirstiest 54 = .ok (.goto (-40), 3) := by decide +kernel
theorem dX11_thirstiest_57 : decode cX11_thirstiest 57 = .ok (.iload_n 1, 1) := by decide +kernel
theorem dX11_thirstiest_58 : decode cX11_thirstiest 58 = .ok (.ifCond .ge 12, 3) := by decide +kernel
theorem dX11_thirstiest_61 : decode cX11_thirstiest 61 = .ok (.aload_n 0, 1) := by decide +kernel
theorem dX11_thirstiest_62 : decode cX11_thirstiest 62 = .ok (.bipush 8, 2) := by decide +kernel
theorem dX11_thirstiest_64 : decode cX11_thirstiest 64 = .ok (.invokevirtual 312, 3) := by decide +kernel
theorem dX11_thirstiest_67 : decode cX11_thirstiest 67 = .ok (.goto 4, 3) := by decide +kernel
theorem dX11_thirstiest_70 : decode cX11_thirstiest 70 = .ok (.iload_n 1, 1) := by decide +kernel
theorem dX11_thirstiest_71 : decode cX11_thirstiest 71 = .ok (.ireturn, 1) := by decide +kernel
theorem dX11_most_0 : decode cX11_most 0 = .ok (.iload_n 2, 1) := by decide +kernel
theorem dX11_most_1 : decode cX11_most 1 = .ok (.ifCond .ne 7, 3) := by decide +kernel
theorem dX11_most_4 : decode cX11_most 4 = .ok (.iconst 0, 1) := by decide +kernel
theorem dX11_most_5 : decode cX11_most 5 = .ok (.goto 8, 3) := by decide +kernel
theorem dX11_most_8 : decode cX11_most 8 = .ok (.aload_n 0, 1) := by decide +kernel
theorem dX11_most_9 : decode cX11_most 9 = .ok (.iconst (-1), 1) := by decide +kernel
theorem dX11_most_10 : decode cX11_most 10 = .ok (.invokevirtual 396, 3) := by decide +kernel
theorem dX11_most_13 : decode cX11_most 13 = .ok (.istore 4, 2) := by decide +kernel
theorem dX11_most_15 : decode cX11_most 15 = .ok (.iconst 0, 1) := by decide +kernel
theorem dX11_most_16 : decode cX11_most 16 = .ok (.istore 5, 2) := by decide +kernel
theorem dX11_most_18 : decode cX11_most 18 = .ok (.iconst (-1), 1) := by decide +kernel
theorem dX11_most_19 : decode cX11_most 19 = .ok (.istore 6, 2) := by decide +kernel
theorem dX11_most_21 : decode cX11_most 21 = .ok (.aload_n 0, 1) := by decide +kernel
theorem dX11_most_22 : decode cX11_most 22 = .ok (.iload_n 3, 1) := by decide +kernel
theorem dX11_most_23 : decode cX11_most 23 = .ok (.invokevirtual 399, 3) := by decide +kernel
theorem dX11_most_26 : decode cX11_most 26 = .ok (.iconst 0, 1) := by decide +kernel
theorem dX11_most_27 : decode cX11_most 27 = .ok (.istore 7, 2) := by decide +kernel
theorem dX11_most_29 : decode cX11_most 29 = .ok (.iload 7, 2) := by decide +kernel
theorem dX11_most_31 : decode cX11_most 31 = .ok (.iload 4, 2) := by decide +kernel
theorem dX11_most_33 : decode cX11_most 33 = .ok (.if_icmp .ge 110, 3) := by decide +kernel
theorem dX11_most_36 : decode cX11_most 36 = .ok (.aload_n 0, 1) := by decide +kernel
theorem dX11_most_37 : decode cX11_most 37 = .ok (.iload 7, 2) := by decide +kernel
theorem dX11_most_39 : decode cX11_most 39 = .ok (.invokevirtual 396, 3) := by decide +kernel
theorem dX11_most_42 : decode cX11_most 42 = .ok (.istore 8, 2) := by decide +kernel
theorem dX11_most_44 : decode cX11_most 44 = .ok (.aload_n 0, 1) := by decide +kernel
theorem dX11_most_45 : decode cX11_most 45 = .ok (.iload 8, 2) := by decide +kernel
theorem dX11_most_47 : decode cX11_most 47 = .ok (.bipush 10, 2) := by decide +kernel
theorem dX11_most_49 : decode cX11_most 49 = .ok (.idiv, 1) := by decide +kernel
theorem dX11_most_50 : decode cX11_most 50 = .ok (.iload 8, 2) := by decide +kernel
theorem dX11_most_52 : decode cX11_most 52 = .ok (.bipush 10, 2) := by decide +kernel
theorem dX11_most_54 : decode cX11_most 54 = .ok (.irem, 1) := by decide +kernel
theorem dX11_most_55 : decode cX11_most 55 = .ok (.invokevirtual 362, 3) := by decide +kernel
theorem dX11_most_58 : decode cX11_most 58 = .ok (.istore 9, 2) := by decide +kernel
theorem dX11_most_60 : decode cX11_most 60 = .ok (.iload 8, 2) := by decide +kernel
theorem dX11_most_62 : decode cX11_most 62 = .ok (.bipush 10, 2) := by decide +kernel
theorem dX11_most_64 : decode cX11_most 64 = .ok (.irem, 1) := by decide +kernel
theorem dX11_most_65 : decode cX11_most 65 = .ok (.bipush 7, 2) := by decide +kernel
theorem dX11_most_67 : decode cX11_most 67 = .ok (.if_icmp .ne 23, 3) := by decide +kernel
theorem dX11_most_70 : decode cX11_most 70 = .ok (.iload_n 1, 1) := by decide +kernel
theorem dX11_most_71 : decode cX11_most 71 = .ok (.iload 9, 2) := by decide +kernel
theorem dX11_most_73 : decode cX11_most 73 = .ok (.invokestatic 344, 3) := by decide +kernel
theorem dX11_most_76 : decode cX11_most 76 = .ok (.invokestatic 244, 3) := by decide +kernel
theorem dX11_most_79 : decode cX11_most 79 = .ok (.ifCond .eq 11, 3) := by decide +kernel
theorem dX11_most_82 : decode cX11_most 82 = .ok (.iload 9, 2) := by decide +kernel
theorem dX11_most_84 : decode cX11_most 84 = .ok (.invokestatic 341, 3) := by decide +kernel
theorem dX11_most_87 : decode cX11_most 87 = .ok (.goto 4, 3) := by decide +kernel
theorem dX11_most_90 : decode cX11_most 90 = .ok (.iconst 0, 1) := by decide +kernel
theorem dX11_most_91 : decode cX11_most 91 = .ok (.istore 10, 2) := by decide +kernel
theorem dX11_most_93 : decode cX11_most 93 = .ok (.iload 10, 2) := by decide +kernel
theorem dX11_most_95 : decode cX11_most 95 = .ok (.aload_n 0, 1) := by decide +kernel
theorem dX11_most_96 : decode cX11_most 96 = .ok (.iload_n 1, 1) := by decide +kernel
theorem dX11_most_97 : decode cX11_most 97 = .ok (.iload_n 2, 1) := by decide +kernel
theorem dX11_most_98 : decode cX11_most 98 = .ok (.iconst 1, 1) := by decide +kernel
theorem dX11_most_99 : decode cX11_most 99 = .ok (.isub, 1) := by decide +kernel
theorem dX11_most_100 : decode cX11_most 100 = .ok (.iload_n 3, 1) := by decide +kernel
theorem dX11_most_101 : decode cX11_most 101 = .ok (.iconst 1, 1) := by decide +kernel
theorem dX11_most_102 : decode cX11_most 102 = .ok (.iadd, 1) := by decide +kernel
theorem dX11_most_103 : decode cX11_most 103 = .ok (.invokevirtual 420, 3) := by decide +kernel
theorem dX11_most_106 : decode cX11_most 106 = .ok (.iadd, 1) := by decide +kernel
theorem dX11_most_107 : decode cX11_most 107 = .ok (.istore 10, 2) := by decide +kernel
theorem dX11_most_109 : decode cX11_most 109 = .ok (.aload_n 0, 1) := by decide +kernel
theorem dX11_most_110 : decode cX11_most 110 = .ok (.iload_n 3, 1) := by decide +kernel
theorem dX11_most_111 : decode cX11_most 111 = .ok (.invokevirtual 402, 3) := by decide +kernel
theorem dX11_most_114 : decode cX11_most 114 = .ok (.iload 6, 2) := by decide +kernel
theorem dX11_most_116 : decode cX11_most 116 = .ok (.ifCond .lt 13, 3) := by decide +kernel
theorem dX11_most_119 : decode cX11_most 119 = .ok (.iload 10, 2) := by decide +kernel
theorem dX11_most_121 : decode cX11_most 121 = .ok (.iload 5, 2) := by decide +kernel
theorem dX11_most_123 : decode cX11_most 123 = .ok (.if_icmp .gt 6, 3) := by decide +kernel
theorem dX11_most_126 : decode cX11_most 126 = .ok (.goto 11, 3) := by decide +kernel
theorem dX11_most_129 : decode cX11_most 129 = .ok (.iload 10, 2) := by decide +kernel
theorem dX11_most_131 : decode cX11_most 131 = .ok (.istore 5, 2) := by decide +kernel
theorem dX11_most_133 : decode cX11_most 133 = .ok (.iload 8, 2) := by decide +kernel
theorem dX11_most_135 : decode cX11_most 135 = .ok (.istore 6, 2) := by decide +kernel
theorem dX11_most_137 : decode cX11_most 137 = .ok (.iinc 7 1, 3) := by decide +kernel
theorem dX11_most_140 : decode cX11_most 140 = .ok (.goto (-111), 3) := by decide +kernel
theorem dX11_most_143 : decode cX11_most 143 = .ok (.iload_n 3, 1) := by decide +kernel
theorem dX11_most_144 : decode cX11_most 144 = .ok (.ifCond .ne 9, 3) := by decide +kernel
theorem dX11_most_147 : decode cX11_most 147 = .ok (.aload_n 0, 1) := by decide +kernel
theorem dX11_most_148 : decode cX11_most 148 = .ok (.iload 6, 2) := by decide +kernel
theorem dX11_most_150 : decode cX11_most 150 = .ok (.putfield 424, 3) := by decide +kernel
theorem dX11_most_153 : decode cX11_most 153 = .ok (.iload 5, 2) := by decide +kernel
theorem dX11_most_155 : decode cX11_most 155 = .ok (.ireturn, 1) := by decide +kernel
theorem dX11_isAsked_0 : decode cX11_isAsked 0 = .ok (.iload_n 1, 1) := by decide +kernel
theorem dX11_isAsked_1 : decode cX11_isAsked 1 = .ok (.i2l, 1) := by decide +kernel
theorem dX11_isAsked_2 : decode cX11_isAsked 2 = .ok (.lconst 0, 1) := by decide +kernel
theorem dX11_isAsked_3 : decode cX11_isAsked 3 = .ok (.iconst 1, 1) := by decide +kernel
theorem dX11_isAsked_4 : decode cX11_isAsked 4 = .ok (.aload_n 0, 1) := by decide +kernel
theorem dX11_isAsked_5 : decode cX11_isAsked 5 = .ok (.getfield 35, 3) := by decide +kernel
theorem dX11_isAsked_8 : decode cX11_isAsked 8 = .ok (.iconst 1, 1) := by decide +kernel
theorem dX11_isAsked_9 : decode cX11_isAsked 9 = .ok (.iaload, 1) := by decide +kernel
theorem dX11_isAsked_10 : decode cX11_isAsked 10 = .ok (.ishl, 1) := by decide +kernel
theorem dX11_isAsked_11 : decode cX11_isAsked 11 = .ok (.iconst 1, 1) := by decide +kernel
theorem dX11_isAsked_12 : decode cX11_isAsked 12 = .ok (.isub, 1) := by decide +kernel
theorem dX11_isAsked_13 : decode cX11_isAsked 13 = .ok (.i2l, 1) := by decide +kernel
theorem dX11_isAsked_14 : decode cX11_isAsked 14 = .ok (.invokestatic 94, 3) := by decide +kernel
theorem dX11_isAsked_17 : decode cX11_isAsked 17 = .ok (.ifCond .eq 19, 3) := by decide +kernel
theorem dX11_isAsked_20 : decode cX11_isAsked 20 = .ok (.iload_n 2, 1) := by decide +kernel
theorem dX11_isAsked_21 : decode cX11_isAsked 21 = .ok (.i2l, 1) := by decide +kernel
theorem dX11_isAsked_22 : decode cX11_isAsked 22 = .ok (.lconst 1, 1) := by decide +kernel
theorem dX11_isAsked_23 : decode cX11_isAsked 23 = .ok (.ldc2_w 92, 3) := by decide +kernel
theorem dX11_isAsked_26 : decode cX11_isAsked 26 = .ok (.invokestatic 94, 3) := by decide +kernel
theorem dX11_isAsked_29 : decode cX11_isAsked 29 = .ok (.ifCond .eq 7, 3) := by decide +kernel
theorem dX11_isAsked_32 : decode cX11_isAsked 32 = .ok (.iconst 1, 1) := by decide +kernel
theorem dX11_isAsked_33 : decode cX11_isAsked 33 = .ok (.goto 4, 3) := by decide +kernel
theorem dX11_isAsked_36 : decode cX11_isAsked 36 = .ok (.iconst 0, 1) := by decide +kernel
theorem dX11_isAsked_37 : decode cX11_isAsked 37 = .ok (.ireturn, 1) := by decide +kernel
theorem dX11_yields_0 : decode cX11_yields 0 = .ok (.aload_n 0, 1) := by decide +kernel
theorem dX11_yields_1 : decode cX11_yields 1 = .ok (.iconst 0, 1) := by decide +kernel
theorem dX11_yields_2 : decode cX11_yields 2 = .ok (.putfield 59, 3) := by decide +kernel
theorem dX11_yields_5 : decode cX11_yields 5 = .ok (.aload_n 0, 1) := by decide +kernel
theorem dX11_yields_6 : decode cX11_yields 6 = .ok (.aload_n 0, 1) := by decide +kernel
theorem dX11_yields_7 : decode cX11_yields 7 = .ok (.iload_n 1, 1) := by decide +kernel
theorem dX11_yields_8 : decode cX11_yields 8 = .ok (.iload_n 2, 1) := by decide +kernel
theorem dX11_yields_9 : decode cX11_yields 9 = .ok (.invokevirtual 427, 3) := by decide +kernel
theorem dX11_yields_12 : decode cX11_yields 12 = .ok (.ifCond .eq 7, 3) := by decide +kernel
theorem dX11_yields_15 : decode cX11_yields 15 = .ok (.iconst 0, 1) := by decide +kernel
theorem dX11_yields_16 : decode cX11_yields 16 = .ok (.goto 4, 3) := by decide +kernel
theorem dX11_yields_19 : decode cX11_yields 19 = .ok (.iconst 5, 1) := by decide +kernel
theorem dX11_yields_20 : decode cX11_yields 20 = .ok (.putfield 62, 3) := by decide +kernel
theorem dX11_yields_23 : decode cX11_yields 23 = .ok (.aload_n 0, 1) := by decide +kernel
theorem dX11_yields_24 : decode cX11_yields 24 = .ok (.getfield 62, 3) := by decide +kernel
theorem dX11_yields_27 : decode cX11_yields 27 = .ok (.ifCond .le 7, 3) := by decide +kernel
theorem dX11_yields_30 : decode cX11_yields 30 = .ok (.iconst (-1), 1) := by decide +kernel
theorem dX11_yields_31 : decode cX11_yields 31 = .ok (.goto 10, 3) := by decide +kernel
theorem dX11_yields_34 : decode cX11_yields 34 = .ok (.aload_n 0, 1) := by decide +kernel
theorem dX11_yields_35 : decode cX11_yields 35 = .ok (.iload_n 1, 1) := by decide +kernel
theorem dX11_yields_36 : decode cX11_yields 36 = .ok (.iload_n 2, 1) := by decide +kernel
theorem dX11_yields_37 : decode cX11_yields 37 = .ok (.iconst 0, 1) := by decide +kernel
theorem dX11_yields_38 : decode cX11_yields 38 = .ok (.invokevirtual 420, 3) := by decide +kernel
theorem dX11_yields_41 : decode cX11_yields 41 = .ok (.ireturn, 1) := by decide +kernel
theorem dX11_first_0 : decode cX11_first 0 = .ok (.aload_n 0, 1) := by decide +kernel
theorem dX11_first_1 : decode cX11_first 1 = .ok (.iconst 0, 1) := by decide +kernel
theorem dX11_first_2 : decode cX11_first 2 = .ok (.putfield 59, 3) := by decide +kernel
theorem dX11_first_5 : decode cX11_first 5 = .ok (.aload_n 0, 1) := by decide +kernel
theorem dX11_first_6 : decode cX11_first 6 = .ok (.aload_n 0, 1) := by decide +kernel
theorem dX11_first_7 : decode cX11_first 7 = .ok (.iload_n 1, 1) := by decide +kernel
theorem dX11_first_8 : decode cX11_first 8 = .ok (.iload_n 2, 1) := by decide +kernel
theorem dX11_first_9 : decode cX11_first 9 = .ok (.invokevirtual 427, 3) := by decide +kernel
theorem dX11_first_12 : decode cX11_first 12 = .ok (.ifCond .eq 7, 3) := by decide +kernel
theorem dX11_first_15 : decode cX11_first 15 = .ok (.iconst 0, 1) := by decide +kernel
theorem dX11_first_16 : decode cX11_first 16 = .ok (.goto 4, 3) := by decide +kernel
theorem dX11_first_19 : decode cX11_first 19 = .ok (.iconst 5, 1) := by decide +kernel
theorem dX11_first_20 : decode cX11_first 20 = .ok (.putfield 62, 3) := by decide +kernel
theorem dX11_first_23 : decode cX11_first 23 = .ok (.aload_n 0, 1) := by decide +kernel
theorem dX11_first_24 : decode cX11_first 24 = .ok (.getfield 62, 3) := by decide +kernel
theorem dX11_first_27 : decode cX11_first 27 = .ok (.ifCond .le 5, 3) := by decide +kernel
theorem dX11_first_30 : decode cX11_first 30 = .ok (.iconst (-1), 1) := by decide +kernel
theorem dX11_first_31 : decode cX11_first 31 = .ok (.ireturn, 1) := by decide +kernel
theorem dX11_first_32 : decode cX11_first 32 = .ok (.aload_n 0, 1) := by decide +kernel
theorem dX11_first_33 : decode cX11_first 33 = .ok (.iload_n 1, 1) := by decide +kernel
theorem dX11_first_34 : decode cX11_first 34 = .ok (.iload_n 2, 1) := by decide +kernel
theorem dX11_first_35 : decode cX11_first 35 = .ok (.iconst 0, 1) := by decide +kernel
theorem dX11_first_36 : decode cX11_first 36 = .ok (.invokevirtual 420, 3) := by decide +kernel
theorem dX11_first_39 : decode cX11_first 39 = .ok (.pop, 1) := by decide +kernel
theorem dX11_first_40 : decode cX11_first 40 = .ok (.aload_n 0, 1) := by decide +kernel
theorem dX11_first_41 : decode cX11_first 41 = .ok (.getfield 424, 3) := by decide +kernel
theorem dX11_first_44 : decode cX11_first 44 = .ok (.ifCond .ge 12, 3) := by decide +kernel
theorem dX11_first_47 : decode cX11_first 47 = .ok (.aload_n 0, 1) := by decide +kernel
theorem dX11_first_48 : decode cX11_first 48 = .ok (.bipush 8, 2) := by decide +kernel
theorem dX11_first_50 : decode cX11_first 50 = .ok (.invokevirtual 312, 3) := by decide +kernel
theorem dX11_first_53 : decode cX11_first 53 = .ok (.goto 7, 3) := by decide +kernel
theorem dX11_first_56 : decode cX11_first 56 = .ok (.aload_n 0, 1) := by decide +kernel
theorem dX11_first_57 : decode cX11_first 57 = .ok (.getfield 424, 3) := by decide +kernel
theorem dX11_first_60 : decode cX11_first 60 = .ok (.ireturn, 1) := by decide +kernel
theorem dX11_plays_0 : decode cX11_plays 0 = .ok (.iload_n 2, 1) := by decide +kernel
theorem dX11_plays_1 : decode cX11_plays 1 = .ok (.ifCond .ne 7, 3) := by decide +kernel
theorem dX11_plays_4 : decode cX11_plays 4 = .ok (.iconst 0, 1) := by decide +kernel
theorem dX11_plays_5 : decode cX11_plays 5 = .ok (.goto 8, 3) := by decide +kernel
theorem dX11_plays_8 : decode cX11_plays 8 = .ok (.aload_n 0, 1) := by decide +kernel
theorem dX11_plays_9 : decode cX11_plays 9 = .ok (.iconst (-1), 1) := by decide +kernel
theorem dX11_plays_10 : decode cX11_plays 10 = .ok (.invokevirtual 396, 3) := by decide +kernel
theorem dX11_plays_13 : decode cX11_plays 13 = .ok (.istore 4, 2) := by decide +kernel
theorem dX11_plays_15 : decode cX11_plays 15 = .ok (.iconst 0, 1) := by decide +kernel
theorem dX11_plays_16 : decode cX11_plays 16 = .ok (.istore 5, 2) := by decide +kernel
theorem dX11_plays_18 : decode cX11_plays 18 = .ok (.aload_n 0, 1) := by decide +kernel
theorem dX11_plays_19 : decode cX11_plays 19 = .ok (.iload_n 3, 1) := by decide +kernel
theorem dX11_plays_20 : decode cX11_plays 20 = .ok (.invokevirtual 399, 3) := by decide +kernel
theorem dX11_plays_23 : decode cX11_plays 23 = .ok (.iconst 0, 1) := by decide +kernel
theorem dX11_plays_24 : decode cX11_plays 24 = .ok (.istore 6, 2) := by decide +kernel
theorem dX11_plays_26 : decode cX11_plays 26 = .ok (.iload 6, 2) := by decide +kernel
theorem dX11_plays_28 : decode cX11_plays 28 = .ok (.iload 4, 2) := by decide +kernel
theorem dX11_plays_30 : decode cX11_plays 30 = .ok (.if_icmp .ge 128, 3) := by decide +kernel
theorem dX11_plays_33 : decode cX11_plays 33 = .ok (.aload_n 0, 1) := by decide +kernel
theorem dX11_plays_34 : decode cX11_plays 34 = .ok (.iload 6, 2) := by decide +kernel
theorem dX11_plays_36 : decode cX11_plays 36 = .ok (.invokevirtual 396, 3) := by decide +kernel
theorem dX11_plays_39 : decode cX11_plays 39 = .ok (.istore 7, 2) := by decide +kernel
theorem dX11_plays_41 : decode cX11_plays 41 = .ok (.aload_n 0, 1) := by decide +kernel
theorem dX11_plays_42 : decode cX11_plays 42 = .ok (.iload 7, 2) := by decide +kernel
theorem dX11_plays_44 : decode cX11_plays 44 = .ok (.bipush 10, 2) := by decide +kernel
theorem dX11_plays_46 : decode cX11_plays 46 = .ok (.idiv, 1) := by decide +kernel
theorem dX11_plays_47 : decode cX11_plays 47 = .ok (.iload 7, 2) := by decide +kernel
theorem dX11_plays_49 : decode cX11_plays 49 = .ok (.bipush 10, 2) := by decide +kernel
theorem dX11_plays_51 : decode cX11_plays 51 = .ok (.irem, 1) := by decide +kernel
theorem dX11_plays_52 : decode cX11_plays 52 = .ok (.invokevirtual 362, 3) := by decide +kernel
theorem dX11_plays_55 : decode cX11_plays 55 = .ok (.istore 8, 2) := by decide +kernel
theorem dX11_plays_57 : decode cX11_plays 57 = .ok (.iload 7, 2) := by decide +kernel
theorem dX11_plays_59 : decode cX11_plays 59 = .ok (.bipush 10, 2) := by decide +kernel
theorem dX11_plays_61 : decode cX11_plays 61 = .ok (.irem, 1) := by decide +kernel
theorem dX11_plays_62 : decode cX11_plays 62 = .ok (.bipush 7, 2) := by decide +kernel
theorem dX11_plays_64 : decode cX11_plays 64 = .ok (.if_icmp .eq 7, 3) := by decide +kernel
theorem dX11_plays_67 : decode cX11_plays 67 = .ok (.iconst 0, 1) := by decide +kernel
theorem dX11_plays_68 : decode cX11_plays 68 = .ok (.goto 29, 3) := by decide +kernel
theorem dX11_plays_71 : decode cX11_plays 71 = .ok (.iload_n 1, 1) := by decide +kernel
theorem dX11_plays_72 : decode cX11_plays 72 = .ok (.iload 8, 2) := by decide +kernel
theorem dX11_plays_74 : decode cX11_plays 74 = .ok (.invokestatic 344, 3) := by decide +kernel
theorem dX11_plays_77 : decode cX11_plays 77 = .ok (.invokestatic 244, 3) := by decide +kernel
theorem dX11_plays_80 : decode cX11_plays 80 = .ok (.ifCond .eq 11, 3) := by decide +kernel
theorem dX11_plays_83 : decode cX11_plays 83 = .ok (.iload 8, 2) := by decide +kernel
theorem dX11_plays_85 : decode cX11_plays 85 = .ok (.invokestatic 341, 3) := by decide +kernel
theorem dX11_plays_88 : decode cX11_plays 88 = .ok (.goto 9, 3) := by decide +kernel
theorem dX11_plays_91 : decode cX11_plays 91 = .ok (.iload 8, 2) := by decide +kernel
theorem dX11_plays_93 : decode cX11_plays 93 = .ok (.invokestatic 341, 3) := by decide +kernel
theorem dX11_plays_96 : decode cX11_plays 96 = .ok (.ineg, 1) := by decide +kernel
theorem dX11_plays_97 : decode cX11_plays 97 = .ok (.istore 9, 2) := by decide +kernel
theorem dX11_plays_99 : decode cX11_plays 99 = .ok (.iload 9, 2) := by decide +kernel
theorem dX11_plays_101 : decode cX11_plays 101 = .ok (.aload_n 0, 1) := by decide +kernel
theorem dX11_plays_102 : decode cX11_plays 102 = .ok (.iload_n 1, 1) := by decide +kernel
theorem dX11_plays_103 : decode cX11_plays 103 = .ok (.iload_n 2, 1) := by decide +kernel
theorem dX11_plays_104 : decode cX11_plays 104 = .ok (.iconst 1, 1) := by decide +kernel
theorem dX11_plays_105 : decode cX11_plays 105 = .ok (.isub, 1) := by decide +kernel
theorem dX11_plays_106 : decode cX11_plays 106 = .ok (.iload_n 3, 1) := by decide +kernel
theorem dX11_plays_107 : decode cX11_plays 107 = .ok (.iconst 1, 1) := by decide +kernel
theorem dX11_plays_108 : decode cX11_plays 108 = .ok (.iadd, 1) := by decide +kernel
theorem dX11_plays_109 : decode cX11_plays 109 = .ok (.invokevirtual 430, 3) := by decide +kernel
theorem dX11_plays_112 : decode cX11_plays 112 = .ok (.iadd, 1) := by decide +kernel
theorem dX11_plays_113 : decode cX11_plays 113 = .ok (.istore 9, 2) := by decide +kernel
theorem dX11_plays_115 : decode cX11_plays 115 = .ok (.aload_n 0, 1) := by decide +kernel
theorem dX11_plays_116 : decode cX11_plays 116 = .ok (.iload_n 3, 1) := by decide +kernel
theorem dX11_plays_117 : decode cX11_plays 117 = .ok (.invokevirtual 402, 3) := by decide +kernel
theorem dX11_plays_120 : decode cX11_plays 120 = .ok (.iload 6, 2) := by decide +kernel
theorem dX11_plays_122 : decode cX11_plays 122 = .ok (.ifCond .eq 26, 3) := by decide +kernel
theorem dX11_plays_125 : decode cX11_plays 125 = .ok (.iload_n 3, 1) := by decide +kernel
theorem dX11_plays_126 : decode cX11_plays 126 = .ok (.iconst 2, 1) := by decide +kernel
theorem dX11_plays_127 : decode cX11_plays 127 = .ok (.irem, 1) := by decide +kernel
theorem dX11_plays_128 : decode cX11_plays 128 = .ok (.ifCond .ne 13, 3) := by decide +kernel
theorem dX11_plays_131 : decode cX11_plays 131 = .ok (.iload 9, 2) := by decide +kernel
theorem dX11_plays_133 : decode cX11_plays 133 = .ok (.iload 5, 2) := by decide +kernel
theorem dX11_plays_135 : decode cX11_plays 135 = .ok (.if_icmp .le 17, 3) := by decide +kernel
theorem dX11_plays_138 : decode cX11_plays 138 = .ok (.goto 10, 3) := by decide +kernel
theorem dX11_plays_141 : decode cX11_plays 141 = .ok (.iload 9, 2) := by decide +kernel
theorem dX11_plays_143 : decode cX11_plays 143 = .ok (.iload 5, 2) := by decide +kernel
theorem dX11_plays_145 : decode cX11_plays 145 = .ok (.if_icmp .ge 7, 3) := by decide +kernel
theorem dX11_plays_148 : decode cX11_plays 148 = .ok (.iload 9, 2) := by decide +kernel
theorem dX11_plays_150 : decode cX11_plays 150 = .ok (.istore 5, 2) := by decide +kernel
theorem dX11_plays_152 : decode cX11_plays 152 = .ok (.iinc 6 1, 3) := by decide +kernel
theorem dX11_plays_155 : decode cX11_plays 155 = .ok (.goto (-129), 3) := by decide +kernel
theorem dX11_plays_158 : decode cX11_plays 158 = .ok (.iload 5, 2) := by decide +kernel
theorem dX11_plays_160 : decode cX11_plays 160 = .ok (.ireturn, 1) := by decide +kernel
theorem dX11_game_0 : decode cX11_game 0 = .ok (.aload_n 0, 1) := by decide +kernel
theorem dX11_game_1 : decode cX11_game 1 = .ok (.iconst 0, 1) := by decide +kernel
theorem dX11_game_2 : decode cX11_game 2 = .ok (.putfield 59, 3) := by decide +kernel
theorem dX11_game_5 : decode cX11_game 5 = .ok (.aload_n 0, 1) := by decide +kernel
theorem dX11_game_6 : decode cX11_game 6 = .ok (.aload_n 0, 1) := by decide +kernel
theorem dX11_game_7 : decode cX11_game 7 = .ok (.iload_n 1, 1) := by decide +kernel
theorem dX11_game_8 : decode cX11_game 8 = .ok (.iload_n 2, 1) := by decide +kernel
theorem dX11_game_9 : decode cX11_game 9 = .ok (.invokevirtual 427, 3) := by decide +kernel
theorem dX11_game_12 : decode cX11_game 12 = .ok (.ifCond .eq 7, 3) := by decide +kernel
theorem dX11_game_15 : decode cX11_game 15 = .ok (.iconst 0, 1) := by decide +kernel
theorem dX11_game_16 : decode cX11_game 16 = .ok (.goto 4, 3) := by decide +kernel
theorem dX11_game_19 : decode cX11_game 19 = .ok (.iconst 5, 1) := by decide +kernel
theorem dX11_game_20 : decode cX11_game 20 = .ok (.putfield 62, 3) := by decide +kernel
theorem dX11_game_23 : decode cX11_game 23 = .ok (.aload_n 0, 1) := by decide +kernel
theorem dX11_game_24 : decode cX11_game 24 = .ok (.getfield 62, 3) := by decide +kernel
theorem dX11_game_27 : decode cX11_game 27 = .ok (.ifCond .le 7, 3) := by decide +kernel
theorem dX11_game_30 : decode cX11_game 30 = .ok (.iconst (-1), 1) := by decide +kernel
theorem dX11_game_31 : decode cX11_game 31 = .ok (.goto 10, 3) := by decide +kernel
theorem dX11_game_34 : decode cX11_game 34 = .ok (.aload_n 0, 1) := by decide +kernel
theorem dX11_game_35 : decode cX11_game 35 = .ok (.iload_n 1, 1) := by decide +kernel
theorem dX11_game_36 : decode cX11_game 36 = .ok (.iload_n 2, 1) := by decide +kernel
theorem dX11_game_37 : decode cX11_game 37 = .ok (.iconst 0, 1) := by decide +kernel
theorem dX11_game_38 : decode cX11_game 38 = .ok (.invokevirtual 430, 3) := by decide +kernel
theorem dX11_game_41 : decode cX11_game 41 = .ok (.ireturn, 1) := by decide +kernel
theorem dX11_runFor_0 : decode cX11_runFor 0 = .ok (.aload_n 0, 1) := by decide +kernel
theorem dX11_runFor_1 : decode cX11_runFor 1 = .ok (.iconst 0, 1) := by decide +kernel
theorem dX11_runFor_2 : decode cX11_runFor 2 = .ok (.invokevirtual 399, 3) := by decide +kernel
theorem dX11_runFor_5 : decode cX11_runFor 5 = .ok (.aload_n 0, 1) := by decide +kernel
theorem dX11_runFor_6 : decode cX11_runFor 6 = .ok (.invokevirtual 371, 3) := by decide +kernel
theorem dX11_runFor_9 : decode cX11_runFor 9 = .ok (.pop, 1) := by decide +kernel
theorem dX11_runFor_10 : decode cX11_runFor 10 = .ok (.aload_n 0, 1) := by decide +kernel
theorem dX11_runFor_11 : decode cX11_runFor 11 = .ok (.iconst 0, 1) := by decide +kernel
theorem dX11_runFor_12 : decode cX11_runFor 12 = .ok (.invokevirtual 402, 3) := by decide +kernel
theorem dX11_runFor_15 : decode cX11_runFor 15 = .ok (.aload_n 0, 1) := by decide +kernel
theorem dX11_runFor_16 : decode cX11_runFor 16 = .ok (.getfield 47, 3) := by decide +kernel
theorem dX11_runFor_19 : decode cX11_runFor 19 = .ok (.iload_n 1, 1) := by decide +kernel
theorem dX11_runFor_20 : decode cX11_runFor 20 = .ok (.iaload, 1) := by decide +kernel
theorem dX11_runFor_21 : decode cX11_runFor 21 = .ok (.ireturn, 1) := by decide +kernel
theorem dX11_exchanges_0 : decode cX11_exchanges 0 = .ok (.bipush 20, 2) := by decide +kernel
theorem dX11_exchanges_2 : decode cX11_exchanges 2 = .ok (.bipush 12, 2) := by decide +kernel
theorem dX11_exchanges_4 : decode cX11_exchanges 4 = .ok (.iload_n 1, 1) := by decide +kernel
theorem dX11_exchanges_5 : decode cX11_exchanges 5 = .ok (.bipush 100, 2) := by decide +kernel
theorem dX11_exchanges_7 : decode cX11_exchanges 7 = .ok (.idiv, 1) := by decide +kernel
theorem dX11_exchanges_8 : decode cX11_exchanges 8 = .ok (.imul, 1) := by decide +kernel
theorem dX11_exchanges_9 : decode cX11_exchanges 9 = .ok (.iadd, 1) := by decide +kernel
theorem dX11_exchanges_10 : decode cX11_exchanges 10 = .ok (.iload_n 1, 1) := by decide +kernel
theorem dX11_exchanges_11 : decode cX11_exchanges 11 = .ok (.bipush 100, 2) := by decide +kernel
theorem dX11_exchanges_13 : decode cX11_exchanges 13 = .ok (.irem, 1) := by decide +kernel
theorem dX11_exchanges_14 : decode cX11_exchanges 14 = .ok (.iadd, 1) := by decide +kernel
theorem dX11_exchanges_15 : decode cX11_exchanges 15 = .ok (.istore_n 3, 1) := by decide +kernel
theorem dX11_exchanges_16 : decode cX11_exchanges 16 = .ok (.bipush 20, 2) := by decide +kernel
theorem dX11_exchanges_18 : decode cX11_exchanges 18 = .ok (.bipush 12, 2) := by decide +kernel
theorem dX11_exchanges_20 : decode cX11_exchanges 20 = .ok (.iload_n 2, 1) := by decide +kernel
theorem dX11_exchanges_21 : decode cX11_exchanges 21 = .ok (.bipush 100, 2) := by decide +kernel
theorem dX11_exchanges_23 : decode cX11_exchanges 23 = .ok (.idiv, 1) := by decide +kernel
theorem dX11_exchanges_24 : decode cX11_exchanges 24 = .ok (.imul, 1) := by decide +kernel
theorem dX11_exchanges_25 : decode cX11_exchanges 25 = .ok (.iadd, 1) := by decide +kernel
theorem dX11_exchanges_26 : decode cX11_exchanges 26 = .ok (.iload_n 2, 1) := by decide +kernel
theorem dX11_exchanges_27 : decode cX11_exchanges 27 = .ok (.bipush 100, 2) := by decide +kernel
theorem dX11_exchanges_29 : decode cX11_exchanges 29 = .ok (.irem, 1) := by decide +kernel
theorem dX11_exchanges_30 : decode cX11_exchanges 30 = .ok (.iadd, 1) := by decide +kernel
theorem dX11_exchanges_31 : decode cX11_exchanges 31 = .ok (.istore 4, 2) := by decide +kernel
theorem dX11_exchanges_33 : decode cX11_exchanges 33 = .ok (.aload_n 0, 1) := by decide +kernel
theorem dX11_exchanges_34 : decode cX11_exchanges 34 = .ok (.getfield 35, 3) := by decide +kernel
theorem dX11_exchanges_37 : decode cX11_exchanges 37 = .ok (.iload_n 3, 1) := by decide +kernel
theorem dX11_exchanges_38 : decode cX11_exchanges 38 = .ok (.iaload, 1) := by decide +kernel
theorem dX11_exchanges_39 : decode cX11_exchanges 39 = .ok (.istore 5, 2) := by decide +kernel
theorem dX11_exchanges_41 : decode cX11_exchanges 41 = .ok (.aload_n 0, 1) := by decide +kernel
theorem dX11_exchanges_42 : decode cX11_exchanges 42 = .ok (.getfield 35, 3) := by decide +kernel
theorem dX11_exchanges_45 : decode cX11_exchanges 45 = .ok (.iload_n 3, 1) := by decide +kernel
theorem dX11_exchanges_46 : decode cX11_exchanges 46 = .ok (.aload_n 0, 1) := by decide +kernel
theorem dX11_exchanges_47 : decode cX11_exchanges 47 = .ok (.getfield 35, 3) := by decide +kernel
theorem dX11_exchanges_50 : decode cX11_exchanges 50 = .ok (.iload 4, 2) := by decide +kernel
theorem dX11_exchanges_52 : decode cX11_exchanges 52 = .ok (.iaload, 1) := by decide +kernel
theorem dX11_exchanges_53 : decode cX11_exchanges 53 = .ok (.iastore, 1) := by decide +kernel
theorem dX11_exchanges_54 : decode cX11_exchanges 54 = .ok (.aload_n 0, 1) := by decide +kernel
theorem dX11_exchanges_55 : decode cX11_exchanges 55 = .ok (.getfield 35, 3) := by decide +kernel
theorem dX11_exchanges_58 : decode cX11_exchanges 58 = .ok (.iload 4, 2) := by decide +kernel
theorem dX11_exchanges_60 : decode cX11_exchanges 60 = .ok (.iload 5, 2) := by decide +kernel
theorem dX11_exchanges_62 : decode cX11_exchanges 62 = .ok (.iastore, 1) := by decide +kernel
theorem dX11_exchanges_63 : decode cX11_exchanges 63 = .ok (.return_, 1) := by decide +kernel
theorem dX11_isPlace_0 : decode cX11_isPlace 0 = .ok (.iload_n 1, 1) := by decide +kernel
theorem dX11_isPlace_1 : decode cX11_isPlace 1 = .ok (.bipush 100, 2) := by decide +kernel
theorem dX11_isPlace_3 : decode cX11_isPlace 3 = .ok (.idiv, 1) := by decide +kernel
theorem dX11_isPlace_4 : decode cX11_isPlace 4 = .ok (.aload_n 0, 1) := by decide +kernel
theorem dX11_isPlace_5 : decode cX11_isPlace 5 = .ok (.getfield 35, 3) := by decide +kernel
theorem dX11_isPlace_8 : decode cX11_isPlace 8 = .ok (.iconst 4, 1) := by decide +kernel
theorem dX11_isPlace_9 : decode cX11_isPlace 9 = .ok (.iaload, 1) := by decide +kernel
theorem dX11_isPlace_10 : decode cX11_isPlace 10 = .ok (.if_icmp .ge 26, 3) := by decide +kernel
theorem dX11_isPlace_13 : decode cX11_isPlace 13 = .ok (.iload_n 1, 1) := by decide +kernel
theorem dX11_isPlace_14 : decode cX11_isPlace 14 = .ok (.bipush 100, 2) := by decide +kernel
theorem dX11_isPlace_16 : decode cX11_isPlace 16 = .ok (.irem, 1) := by decide +kernel
theorem dX11_isPlace_17 : decode cX11_isPlace 17 = .ok (.aload_n 0, 1) := by decide +kernel
theorem dX11_isPlace_18 : decode cX11_isPlace 18 = .ok (.getfield 35, 3) := by decide +kernel
theorem dX11_isPlace_21 : decode cX11_isPlace 21 = .ok (.bipush 14, 2) := by decide +kernel
theorem dX11_isPlace_23 : decode cX11_isPlace 23 = .ok (.iload_n 1, 1) := by decide +kernel
theorem dX11_isPlace_24 : decode cX11_isPlace 24 = .ok (.bipush 100, 2) := by decide +kernel
theorem dX11_isPlace_26 : decode cX11_isPlace 26 = .ok (.idiv, 1) := by decide +kernel
theorem dX11_isPlace_27 : decode cX11_isPlace 27 = .ok (.iadd, 1) := by decide +kernel
theorem dX11_isPlace_28 : decode cX11_isPlace 28 = .ok (.iaload, 1) := by decide +kernel
theorem dX11_isPlace_29 : decode cX11_isPlace 29 = .ok (.if_icmp .ge 7, 3) := by decide +kernel
theorem dX11_isPlace_32 : decode cX11_isPlace 32 = .ok (.iconst 1, 1) := by decide +kernel
theorem dX11_isPlace_33 : decode cX11_isPlace 33 = .ok (.goto 4, 3) := by decide +kernel
theorem dX11_isPlace_36 : decode cX11_isPlace 36 = .ok (.iconst 0, 1) := by decide +kernel
theorem dX11_isPlace_37 : decode cX11_isPlace 37 = .ok (.ireturn, 1) := by decide +kernel
theorem dX11_cheats_0 : decode cX11_cheats 0 = .ok (.aload_n 0, 1) := by decide +kernel
theorem dX11_cheats_1 : decode cX11_cheats 1 = .ok (.iload_n 1, 1) := by decide +kernel
theorem dX11_cheats_2 : decode cX11_cheats 2 = .ok (.invokevirtual 433, 3) := by decide +kernel
theorem dX11_cheats_5 : decode cX11_cheats 5 = .ok (.istore_n 2, 1) := by decide +kernel
theorem dX11_cheats_6 : decode cX11_cheats 6 = .ok (.aload_n 0, 1) := by decide +kernel
theorem dX11_cheats_7 : decode cX11_cheats 7 = .ok (.iconst (-1), 1) := by decide +kernel
theorem dX11_cheats_8 : decode cX11_cheats 8 = .ok (.putfield 436, 3) := by decide +kernel
theorem dX11_cheats_11 : decode cX11_cheats 11 = .ok (.iconst 0, 1) := by decide +kernel
theorem dX11_cheats_12 : decode cX11_cheats 12 = .ok (.istore_n 3, 1) := by decide +kernel
theorem dX11_cheats_13 : decode cX11_cheats 13 = .ok (.iload_n 3, 1) := by decide +kernel
theorem dX11_cheats_14 : decode cX11_cheats 14 = .ok (.bipush 100, 2) := by decide +kernel
theorem dX11_cheats_16 : decode cX11_cheats 16 = .ok (.aload_n 0, 1) := by decide +kernel
theorem dX11_cheats_17 : decode cX11_cheats 17 = .ok (.getfield 35, 3) := by decide +kernel
theorem dX11_cheats_20 : decode cX11_cheats 20 = .ok (.iconst 4, 1) := by decide +kernel
theorem dX11_cheats_21 : decode cX11_cheats 21 = .ok (.iaload, 1) := by decide +kernel
theorem dX11_cheats_22 : decode cX11_cheats 22 = .ok (.imul, 1) := by decide +kernel
theorem dX11_cheats_23 : decode cX11_cheats 23 = .ok (.if_icmp .ge 98, 3) := by decide +kernel
theorem dX11_cheats_26 : decode cX11_cheats 26 = .ok (.iload_n 3, 1) := by decide +kernel
theorem dX11_cheats_27 : decode cX11_cheats 27 = .ok (.iconst 1, 1) := by decide +kernel
theorem dX11_cheats_28 : decode cX11_cheats 28 = .ok (.iadd, 1) := by decide +kernel
theorem dX11_cheats_29 : decode cX11_cheats 29 = .ok (.istore 4, 2) := by decide +kernel
theorem dX11_cheats_31 : decode cX11_cheats 31 = .ok (.iload 4, 2) := by decide +kernel
theorem dX11_cheats_33 : decode cX11_cheats 33 = .ok (.bipush 100, 2) := by decide +kernel
theorem dX11_cheats_35 : decode cX11_cheats 35 = .ok (.aload_n 0, 1) := by decide +kernel
theorem dX11_cheats_36 : decode cX11_cheats 36 = .ok (.getfield 35, 3) := by decide +kernel
theorem dX11_cheats_39 : decode cX11_cheats 39 = .ok (.iconst 4, 1) := by decide +kernel
theorem dX11_cheats_40 : decode cX11_cheats 40 = .ok (.iaload, 1) := by decide +kernel
theorem dX11_cheats_41 : decode cX11_cheats 41 = .ok (.imul, 1) := by decide +kernel
theorem dX11_cheats_42 : decode cX11_cheats 42 = .ok (.if_icmp .ge 73, 3) := by decide +kernel
theorem dX11_cheats_45 : decode cX11_cheats 45 = .ok (.aload_n 0, 1) := by decide +kernel
theorem dX11_cheats_46 : decode cX11_cheats 46 = .ok (.iload_n 3, 1) := by decide +kernel
theorem dX11_cheats_47 : decode cX11_cheats 47 = .ok (.invokevirtual 439, 3) := by decide +kernel
theorem dX11_cheats_50 : decode cX11_cheats 50 = .ok (.ifCond .eq 65, 3) := by decide +kernel
theorem dX11_cheats_53 : decode cX11_cheats 53 = .ok (.aload_n 0, 1) := by decide +kernel
theorem dX11_cheats_54 : decode cX11_cheats 54 = .ok (.iload 4, 2) := by decide +kernel
theorem dX11_cheats_56 : decode cX11_cheats 56 = .ok (.invokevirtual 439, 3) := by decide +kernel
theorem dX11_cheats_59 : decode cX11_cheats 59 = .ok (.ifCond .ne 6, 3) := by decide +kernel
theorem dX11_cheats_62 : decode cX11_cheats 62 = .ok (.goto 47, 3) := by decide +kernel
theorem dX11_cheats_65 : decode cX11_cheats 65 = .ok (.aload_n 0, 1) := by decide +kernel
theorem dX11_cheats_66 : decode cX11_cheats 66 = .ok (.iload_n 3, 1) := by decide +kernel
theorem dX11_cheats_67 : decode cX11_cheats 67 = .ok (.iload 4, 2) := by decide +kernel
theorem dX11_cheats_69 : decode cX11_cheats 69 = .ok (.invokevirtual 442, 3) := by decide +kernel
theorem dX11_cheats_72 : decode cX11_cheats 72 = .ok (.aload_n 0, 1) := by decide +kernel
theorem dX11_cheats_73 : decode cX11_cheats 73 = .ok (.iload_n 1, 1) := by decide +kernel
theorem dX11_cheats_74 : decode cX11_cheats 74 = .ok (.invokevirtual 433, 3) := by decide +kernel
theorem dX11_cheats_77 : decode cX11_cheats 77 = .ok (.istore 5, 2) := by decide +kernel
theorem dX11_cheats_79 : decode cX11_cheats 79 = .ok (.aload_n 0, 1) := by decide +kernel
theorem dX11_cheats_80 : decode cX11_cheats 80 = .ok (.iload_n 3, 1) := by decide +kernel
theorem dX11_cheats_81 : decode cX11_cheats 81 = .ok (.iload 4, 2) := by decide +kernel
theorem dX11_cheats_83 : decode cX11_cheats 83 = .ok (.invokevirtual 442, 3) := by decide +kernel
theorem dX11_cheats_86 : decode cX11_cheats 86 = .ok (.iload 5, 2) := by decide +kernel
theorem dX11_cheats_88 : decode cX11_cheats 88 = .ok (.iload_n 2, 1) := by decide +kernel
theorem dX11_cheats_89 : decode cX11_cheats 89 = .ok (.if_icmp .gt 6, 3) := by decide +kernel
theorem dX11_cheats_92 : decode cX11_cheats 92 = .ok (.goto 17, 3) := by decide +kernel
theorem dX11_cheats_95 : decode cX11_cheats 95 = .ok (.iload 5, 2) := by decide +kernel
theorem dX11_cheats_97 : decode cX11_cheats 97 = .ok (.istore_n 2, 1) := by decide +kernel
theorem dX11_cheats_98 : decode cX11_cheats 98 = .ok (.aload_n 0, 1) := by decide +kernel
theorem dX11_cheats_99 : decode cX11_cheats 99 = .ok (.iload_n 3, 1) := by decide +kernel
theorem dX11_cheats_100 : decode cX11_cheats 100 = .ok (.putfield 436, 3) := by decide +kernel
theorem dX11_cheats_103 : decode cX11_cheats 103 = .ok (.aload_n 0, 1) := by decide +kernel
theorem dX11_cheats_104 : decode cX11_cheats 104 = .ok (.iload 4, 2) := by decide +kernel
theorem dX11_cheats_106 : decode cX11_cheats 106 = .ok (.putfield 445, 3) := by decide +kernel
theorem dX11_cheats_109 : decode cX11_cheats 109 = .ok (.iinc 4 1, 3) := by decide +kernel
theorem dX11_cheats_112 : decode cX11_cheats 112 = .ok (.goto (-81), 3) := by decide +kernel
theorem dX11_cheats_115 : decode cX11_cheats 115 = .ok (.iinc 3 1, 3) := by decide +kernel
theorem dX11_cheats_118 : decode cX11_cheats 118 = .ok (.goto (-105), 3) := by decide +kernel
theorem dX11_cheats_121 : decode cX11_cheats 121 = .ok (.iload_n 2, 1) := by decide +kernel
theorem dX11_cheats_122 : decode cX11_cheats 122 = .ok (.ireturn, 1) := by decide +kernel
theorem dX11_cheat_0 : decode cX11_cheat 0 = .ok (.aload_n 0, 1) := by decide +kernel
theorem dX11_cheat_1 : decode cX11_cheat 1 = .ok (.iconst 0, 1) := by decide +kernel
theorem dX11_cheat_2 : decode cX11_cheat 2 = .ok (.putfield 59, 3) := by decide +kernel
theorem dX11_cheat_5 : decode cX11_cheat 5 = .ok (.aload_n 0, 1) := by decide +kernel
theorem dX11_cheat_6 : decode cX11_cheat 6 = .ok (.iconst 0, 1) := by decide +kernel
theorem dX11_cheat_7 : decode cX11_cheat 7 = .ok (.putfield 62, 3) := by decide +kernel
theorem dX11_cheat_10 : decode cX11_cheat 10 = .ok (.aload_n 0, 1) := by decide +kernel
theorem dX11_cheat_11 : decode cX11_cheat 11 = .ok (.iload_n 1, 1) := by decide +kernel
theorem dX11_cheat_12 : decode cX11_cheat 12 = .ok (.invokevirtual 330, 3) := by decide +kernel
theorem dX11_cheat_15 : decode cX11_cheat 15 = .ok (.ifCond .eq 11, 3) := by decide +kernel
theorem dX11_cheat_18 : decode cX11_cheat 18 = .ok (.aload_n 0, 1) := by decide +kernel
theorem dX11_cheat_19 : decode cX11_cheat 19 = .ok (.iload_n 1, 1) := by decide +kernel
theorem dX11_cheat_20 : decode cX11_cheat 20 = .ok (.invokevirtual 448, 3) := by decide +kernel
theorem dX11_cheat_23 : decode cX11_cheat 23 = .ok (.goto 8, 3) := by decide +kernel
theorem dX11_cheat_26 : decode cX11_cheat 26 = .ok (.aload_n 0, 1) := by decide +kernel
theorem dX11_cheat_27 : decode cX11_cheat 27 = .ok (.iconst 2, 1) := by decide +kernel
theorem dX11_cheat_28 : decode cX11_cheat 28 = .ok (.invokevirtual 312, 3) := by decide +kernel
theorem dX11_cheat_31 : decode cX11_cheat 31 = .ok (.ireturn, 1) := by decide +kernel
theorem dX11_cheatAt_0 : decode cX11_cheatAt 0 = .ok (.aload_n 0, 1) := by decide +kernel
theorem dX11_cheatAt_1 : decode cX11_cheatAt 1 = .ok (.iconst 0, 1) := by decide +kernel
theorem dX11_cheatAt_2 : decode cX11_cheatAt 2 = .ok (.putfield 59, 3) := by decide +kernel
theorem dX11_cheatAt_5 : decode cX11_cheatAt 5 = .ok (.aload_n 0, 1) := by decide +kernel
theorem dX11_cheatAt_6 : decode cX11_cheatAt 6 = .ok (.iconst 0, 1) := by decide +kernel
theorem dX11_cheatAt_7 : decode cX11_cheatAt 7 = .ok (.putfield 62, 3) := by decide +kernel
theorem dX11_cheatAt_10 : decode cX11_cheatAt 10 = .ok (.aload_n 0, 1) := by decide +kernel
theorem dX11_cheatAt_11 : decode cX11_cheatAt 11 = .ok (.iload_n 1, 1) := by decide +kernel
theorem dX11_cheatAt_12 : decode cX11_cheatAt 12 = .ok (.invokevirtual 330, 3) := by decide +kernel
theorem dX11_cheatAt_15 : decode cX11_cheatAt 15 = .ok (.ifCond .ne 9, 3) := by decide +kernel
theorem dX11_cheatAt_18 : decode cX11_cheatAt 18 = .ok (.aload_n 0, 1) := by decide +kernel
theorem dX11_cheatAt_19 : decode cX11_cheatAt 19 = .ok (.iconst 2, 1) := by decide +kernel
theorem dX11_cheatAt_20 : decode cX11_cheatAt 20 = .ok (.invokevirtual 312, 3) := by decide +kernel
theorem dX11_cheatAt_23 : decode cX11_cheatAt 23 = .ok (.ireturn, 1) := by decide +kernel
theorem dX11_cheatAt_24 : decode cX11_cheatAt 24 = .ok (.iload_n 2, 1) := by decide +kernel
theorem dX11_cheatAt_25 : decode cX11_cheatAt 25 = .ok (.i2l, 1) := by decide +kernel
theorem dX11_cheatAt_26 : decode cX11_cheatAt 26 = .ok (.lconst 0, 1) := by decide +kernel
theorem dX11_cheatAt_27 : decode cX11_cheatAt 27 = .ok (.lconst 1, 1) := by decide +kernel
theorem dX11_cheatAt_28 : decode cX11_cheatAt 28 = .ok (.invokestatic 94, 3) := by decide +kernel
theorem dX11_cheatAt_31 : decode cX11_cheatAt 31 = .ok (.ifCond .ne 9, 3) := by decide +kernel
theorem dX11_cheatAt_34 : decode cX11_cheatAt 34 = .ok (.aload_n 0, 1) := by decide +kernel
theorem dX11_cheatAt_35 : decode cX11_cheatAt 35 = .ok (.iconst 5, 1) := by decide +kernel
theorem dX11_cheatAt_36 : decode cX11_cheatAt 36 = .ok (.invokevirtual 312, 3) := by decide +kernel
theorem dX11_cheatAt_39 : decode cX11_cheatAt 39 = .ok (.ireturn, 1) := by decide +kernel
theorem dX11_cheatAt_40 : decode cX11_cheatAt 40 = .ok (.aload_n 0, 1) := by decide +kernel
theorem dX11_cheatAt_41 : decode cX11_cheatAt 41 = .ok (.iload_n 1, 1) := by decide +kernel
theorem dX11_cheatAt_42 : decode cX11_cheatAt 42 = .ok (.invokevirtual 448, 3) := by decide +kernel
theorem dX11_cheatAt_45 : decode cX11_cheatAt 45 = .ok (.pop, 1) := by decide +kernel
theorem dX11_cheatAt_46 : decode cX11_cheatAt 46 = .ok (.aload_n 0, 1) := by decide +kernel
theorem dX11_cheatAt_47 : decode cX11_cheatAt 47 = .ok (.getfield 436, 3) := by decide +kernel
theorem dX11_cheatAt_50 : decode cX11_cheatAt 50 = .ok (.ifCond .ge 12, 3) := by decide +kernel
theorem dX11_cheatAt_53 : decode cX11_cheatAt 53 = .ok (.aload_n 0, 1) := by decide +kernel
theorem dX11_cheatAt_54 : decode cX11_cheatAt 54 = .ok (.bipush 8, 2) := by decide +kernel
theorem dX11_cheatAt_56 : decode cX11_cheatAt 56 = .ok (.invokevirtual 312, 3) := by decide +kernel
theorem dX11_cheatAt_59 : decode cX11_cheatAt 59 = .ok (.goto 18, 3) := by decide +kernel
theorem dX11_cheatAt_62 : decode cX11_cheatAt 62 = .ok (.iload_n 2, 1) := by decide +kernel
theorem dX11_cheatAt_63 : decode cX11_cheatAt 63 = .ok (.ifCond .ne 10, 3) := by decide +kernel
theorem dX11_cheatAt_66 : decode cX11_cheatAt 66 = .ok (.aload_n 0, 1) := by decide +kernel
theorem dX11_cheatAt_67 : decode cX11_cheatAt 67 = .ok (.getfield 436, 3) := by decide +kernel
theorem dX11_cheatAt_70 : decode cX11_cheatAt 70 = .ok (.goto 7, 3) := by decide +kernel
theorem dX11_cheatAt_73 : decode cX11_cheatAt 73 = .ok (.aload_n 0, 1) := by decide +kernel
theorem dX11_cheatAt_74 : decode cX11_cheatAt 74 = .ok (.getfield 445, 3) := by decide +kernel
theorem dX11_cheatAt_77 : decode cX11_cheatAt 77 = .ok (.ireturn, 1) := by decide +kernel
theorem dX11_wetsBy_0 : decode cX11_wetsBy 0 = .ok (.aload_n 0, 1) := by decide +kernel
theorem dX11_wetsBy_1 : decode cX11_wetsBy 1 = .ok (.iconst 0, 1) := by decide +kernel
theorem dX11_wetsBy_2 : decode cX11_wetsBy 2 = .ok (.invokevirtual 399, 3) := by decide +kernel
theorem dX11_wetsBy_5 : decode cX11_wetsBy 5 = .ok (.aload_n 0, 1) := by decide +kernel
theorem dX11_wetsBy_6 : decode cX11_wetsBy 6 = .ok (.iload_n 1, 1) := by decide +kernel
theorem dX11_wetsBy_7 : decode cX11_wetsBy 7 = .ok (.invokevirtual 393, 3) := by decide +kernel
theorem dX11_wetsBy_10 : decode cX11_wetsBy 10 = .ok (.pop, 1) := by decide +kernel
theorem dX11_wetsBy_11 : decode cX11_wetsBy 11 = .ok (.aload_n 0, 1) := by decide +kernel
theorem dX11_wetsBy_12 : decode cX11_wetsBy 12 = .ok (.invokevirtual 371, 3) := by decide +kernel
theorem dX11_wetsBy_15 : decode cX11_wetsBy 15 = .ok (.pop, 1) := by decide +kernel
theorem dX11_wetsBy_16 : decode cX11_wetsBy 16 = .ok (.aload_n 0, 1) := by decide +kernel
theorem dX11_wetsBy_17 : decode cX11_wetsBy 17 = .ok (.iconst 0, 1) := by decide +kernel
theorem dX11_wetsBy_18 : decode cX11_wetsBy 18 = .ok (.invokevirtual 402, 3) := by decide +kernel
theorem dX11_wetsBy_21 : decode cX11_wetsBy 21 = .ok (.return_, 1) := by decide +kernel
theorem dX11_areSeeds_0 : decode cX11_areSeeds 0 = .ok (.iload_n 1, 1) := by decide +kernel
theorem dX11_areSeeds_1 : decode cX11_areSeeds 1 = .ok (.i2l, 1) := by decide +kernel
theorem dX11_areSeeds_2 : decode cX11_areSeeds 2 = .ok (.lconst 1, 1) := by decide +kernel
theorem dX11_areSeeds_3 : decode cX11_areSeeds 3 = .ok (.ldc2_w 451, 3) := by decide +kernel
theorem dX11_areSeeds_6 : decode cX11_areSeeds 6 = .ok (.invokestatic 94, 3) := by decide +kernel
theorem dX11_areSeeds_9 : decode cX11_areSeeds 9 = .ok (.ifCond .eq 22, 3) := by decide +kernel
theorem dX11_areSeeds_12 : decode cX11_areSeeds 12 = .ok (.iload_n 0, 1) := by decide +kernel
theorem dX11_areSeeds_13 : decode cX11_areSeeds 13 = .ok (.i2l, 1) := by decide +kernel
theorem dX11_areSeeds_14 : decode cX11_areSeeds 14 = .ok (.lconst 0, 1) := by decide +kernel
theorem dX11_areSeeds_15 : decode cX11_areSeeds 15 = .ok (.sipush 10000, 3) := by decide +kernel
theorem dX11_areSeeds_18 : decode cX11_areSeeds 18 = .ok (.iload_n 1, 1) := by decide +kernel
theorem dX11_areSeeds_19 : decode cX11_areSeeds 19 = .ok (.isub, 1) := by decide +kernel
theorem dX11_areSeeds_20 : decode cX11_areSeeds 20 = .ok (.i2l, 1) := by decide +kernel
theorem dX11_areSeeds_21 : decode cX11_areSeeds 21 = .ok (.invokestatic 94, 3) := by decide +kernel
theorem dX11_areSeeds_24 : decode cX11_areSeeds 24 = .ok (.ifCond .eq 7, 3) := by decide +kernel
theorem dX11_areSeeds_27 : decode cX11_areSeeds 27 = .ok (.iconst 1, 1) := by decide +kernel
theorem dX11_areSeeds_28 : decode cX11_areSeeds 28 = .ok (.goto 4, 3) := by decide +kernel
theorem dX11_areSeeds_31 : decode cX11_areSeeds 31 = .ok (.iconst 0, 1) := by decide +kernel
theorem dX11_areSeeds_32 : decode cX11_areSeeds 32 = .ok (.ireturn, 1) := by decide +kernel
theorem dX11_wets_0 : decode cX11_wets 0 = .ok (.aload_n 0, 1) := by decide +kernel
theorem dX11_wets_1 : decode cX11_wets 1 = .ok (.iconst 0, 1) := by decide +kernel
theorem dX11_wets_2 : decode cX11_wets 2 = .ok (.putfield 59, 3) := by decide +kernel
theorem dX11_wets_5 : decode cX11_wets 5 = .ok (.aload_n 0, 1) := by decide +kernel
theorem dX11_wets_6 : decode cX11_wets 6 = .ok (.iconst 0, 1) := by decide +kernel
theorem dX11_wets_7 : decode cX11_wets 7 = .ok (.putfield 62, 3) := by decide +kernel
theorem dX11_wets_10 : decode cX11_wets 10 = .ok (.aload_n 0, 1) := by decide +kernel
theorem dX11_wets_11 : decode cX11_wets 11 = .ok (.iload_n 1, 1) := by decide +kernel
theorem dX11_wets_12 : decode cX11_wets 12 = .ok (.invokevirtual 330, 3) := by decide +kernel
theorem dX11_wets_15 : decode cX11_wets 15 = .ok (.ifCond .ne 9, 3) := by decide +kernel
theorem dX11_wets_18 : decode cX11_wets 18 = .ok (.aload_n 0, 1) := by decide +kernel
theorem dX11_wets_19 : decode cX11_wets 19 = .ok (.iconst 2, 1) := by decide +kernel
theorem dX11_wets_20 : decode cX11_wets 20 = .ok (.invokevirtual 312, 3) := by decide +kernel
theorem dX11_wets_23 : decode cX11_wets 23 = .ok (.ireturn, 1) := by decide +kernel
theorem dX11_wets_24 : decode cX11_wets 24 = .ok (.iload_n 2, 1) := by decide +kernel
theorem dX11_wets_25 : decode cX11_wets 25 = .ok (.iconst 1, 1) := by decide +kernel
theorem dX11_wets_26 : decode cX11_wets 26 = .ok (.invokestatic 453, 3) := by decide +kernel
theorem dX11_wets_29 : decode cX11_wets 29 = .ok (.ifCond .ne 9, 3) := by decide +kernel
theorem dX11_wets_32 : decode cX11_wets 32 = .ok (.aload_n 0, 1) := by decide +kernel
theorem dX11_wets_33 : decode cX11_wets 33 = .ok (.iconst 5, 1) := by decide +kernel
theorem dX11_wets_34 : decode cX11_wets 34 = .ok (.invokevirtual 312, 3) := by decide +kernel
theorem dX11_wets_37 : decode cX11_wets 37 = .ok (.ireturn, 1) := by decide +kernel
theorem dX11_wets_38 : decode cX11_wets 38 = .ok (.aload_n 0, 1) := by decide +kernel
theorem dX11_wets_39 : decode cX11_wets 39 = .ok (.iload_n 2, 1) := by decide +kernel
theorem dX11_wets_40 : decode cX11_wets 40 = .ok (.invokevirtual 456, 3) := by decide +kernel
theorem dX11_wets_43 : decode cX11_wets 43 = .ok (.aload_n 0, 1) := by decide +kernel
theorem dX11_wets_44 : decode cX11_wets 44 = .ok (.getfield 47, 3) := by decide +kernel
theorem dX11_wets_47 : decode cX11_wets 47 = .ok (.iload_n 1, 1) := by decide +kernel
theorem dX11_wets_48 : decode cX11_wets 48 = .ok (.iaload, 1) := by decide +kernel
theorem dX11_wets_49 : decode cX11_wets 49 = .ok (.ireturn, 1) := by decide +kernel
theorem dX11_meanWets_0 : decode cX11_meanWets 0 = .ok (.aload_n 0, 1) := by decide +kernel
theorem dX11_meanWets_1 : decode cX11_meanWets 1 = .ok (.iconst 0, 1) := by decide +kernel
theorem dX11_meanWets_2 : decode cX11_meanWets 2 = .ok (.putfield 59, 3) := by decide +kernel
theorem dX11_meanWets_5 : decode cX11_meanWets 5 = .ok (.aload_n 0, 1) := by decide +kernel
theorem dX11_meanWets_6 : decode cX11_meanWets 6 = .ok (.iconst 0, 1) := by decide +kernel
theorem dX11_meanWets_7 : decode cX11_meanWets 7 = .ok (.putfield 62, 3) := by decide +kernel
theorem dX11_meanWets_10 : decode cX11_meanWets 10 = .ok (.aload_n 0, 1) := by decide +kernel
theorem dX11_meanWets_11 : decode cX11_meanWets 11 = .ok (.iload_n 1, 1) := by decide +kernel
theorem dX11_meanWets_12 : decode cX11_meanWets 12 = .ok (.invokevirtual 330, 3) := by decide +kernel
theorem dX11_meanWets_15 : decode cX11_meanWets 15 = .ok (.ifCond .ne 9, 3) := by decide +kernel
theorem dX11_meanWets_18 : decode cX11_meanWets 18 = .ok (.aload_n 0, 1) := by decide +kernel
theorem dX11_meanWets_19 : decode cX11_meanWets 19 = .ok (.iconst 2, 1) := by decide +kernel
theorem dX11_meanWets_20 : decode cX11_meanWets 20 = .ok (.invokevirtual 74, 3) := by decide +kernel
theorem dX11_meanWets_23 : decode cX11_meanWets 23 = .ok (.ireturn, 1) := by decide +kernel
theorem dX11_meanWets_24 : decode cX11_meanWets 24 = .ok (.iload_n 2, 1) := by decide +kernel
theorem dX11_meanWets_25 : decode cX11_meanWets 25 = .ok (.iload_n 3, 1) := by decide +kernel
theorem dX11_meanWets_26 : decode cX11_meanWets 26 = .ok (.invokestatic 453, 3) := by decide +kernel
theorem dX11_meanWets_29 : decode cX11_meanWets 29 = .ok (.ifCond .ne 9, 3) := by decide +kernel
theorem dX11_meanWets_32 : decode cX11_meanWets 32 = .ok (.aload_n 0, 1) := by decide +kernel
theorem dX11_meanWets_33 : decode cX11_meanWets 33 = .ok (.iconst 5, 1) := by decide +kernel
theorem dX11_meanWets_34 : decode cX11_meanWets 34 = .ok (.invokevirtual 74, 3) := by decide +kernel
theorem dX11_meanWets_37 : decode cX11_meanWets 37 = .ok (.ireturn, 1) := by decide +kernel
theorem dX11_meanWets_38 : decode cX11_meanWets 38 = .ok (.lconst 0, 1) := by decide +kernel
theorem dX11_meanWets_39 : decode cX11_meanWets 39 = .ok (.lstore 4, 2) := by decide +kernel
theorem dX11_meanWets_41 : decode cX11_meanWets 41 = .ok (.iconst 0, 1) := by decide +kernel
theorem dX11_meanWets_42 : decode cX11_meanWets 42 = .ok (.istore 6, 2) := by decide +kernel
theorem dX11_meanWets_44 : decode cX11_meanWets 44 = .ok (.iload 6, 2) := by decide +kernel
theorem dX11_meanWets_46 : decode cX11_meanWets 46 = .ok (.iload_n 3, 1) := by decide +kernel
theorem dX11_meanWets_47 : decode cX11_meanWets 47 = .ok (.if_icmp .ge 29, 3) := by decide +kernel
theorem dX11_meanWets_50 : decode cX11_meanWets 50 = .ok (.aload_n 0, 1) := by decide +kernel
theorem dX11_meanWets_51 : decode cX11_meanWets 51 = .ok (.iload_n 2, 1) := by decide +kernel
theorem dX11_meanWets_52 : decode cX11_meanWets 52 = .ok (.iload 6, 2) := by decide +kernel
theorem dX11_meanWets_54 : decode cX11_meanWets 54 = .ok (.iadd, 1) := by decide +kernel
theorem dX11_meanWets_55 : decode cX11_meanWets 55 = .ok (.invokevirtual 456, 3) := by decide +kernel
theorem dX11_meanWets_58 : decode cX11_meanWets 58 = .ok (.lload 4, 2) := by decide +kernel
theorem dX11_meanWets_60 : decode cX11_meanWets 60 = .ok (.aload_n 0, 1) := by decide +kernel
theorem dX11_meanWets_61 : decode cX11_meanWets 61 = .ok (.getfield 47, 3) := by decide +kernel
theorem dX11_meanWets_64 : decode cX11_meanWets 64 = .ok (.iload_n 1, 1) := by decide +kernel
theorem dX11_meanWets_65 : decode cX11_meanWets 65 = .ok (.iaload, 1) := by decide +kernel
theorem dX11_meanWets_66 : decode cX11_meanWets 66 = .ok (.i2l, 1) := by decide +kernel
theorem dX11_meanWets_67 : decode cX11_meanWets 67 = .ok (.ladd, 1) := by decide +kernel
theorem dX11_meanWets_68 : decode cX11_meanWets 68 = .ok (.lstore 4, 2) := by decide +kernel
theorem dX11_meanWets_70 : decode cX11_meanWets 70 = .ok (.iinc 6 1, 3) := by decide +kernel
theorem dX11_meanWets_73 : decode cX11_meanWets 73 = .ok (.goto (-29), 3) := by decide +kernel
theorem dX11_meanWets_76 : decode cX11_meanWets 76 = .ok (.aload_n 0, 1) := by decide +kernel
theorem dX11_meanWets_77 : decode cX11_meanWets 77 = .ok (.lload 4, 2) := by decide +kernel
theorem dX11_meanWets_79 : decode cX11_meanWets 79 = .ok (.iload_n 3, 1) := by decide +kernel
theorem dX11_meanWets_80 : decode cX11_meanWets 80 = .ok (.i2l, 1) := by decide +kernel
theorem dX11_meanWets_81 : decode cX11_meanWets 81 = .ok (.invokevirtual 459, 3) := by decide +kernel
theorem dX11_meanWets_84 : decode cX11_meanWets 84 = .ok (.ireturn, 1) := by decide +kernel
theorem dX11_bestSuit_0 : decode cX11_bestSuit 0 = .ok (.aload_n 0, 1) := by decide +kernel
theorem dX11_bestSuit_1 : decode cX11_bestSuit 1 = .ok (.iconst 0, 1) := by decide +kernel
theorem dX11_bestSuit_2 : decode cX11_bestSuit 2 = .ok (.putfield 59, 3) := by decide +kernel
theorem dX11_bestSuit_5 : decode cX11_bestSuit 5 = .ok (.aload_n 0, 1) := by decide +kernel
theorem dX11_bestSuit_6 : decode cX11_bestSuit 6 = .ok (.iconst 0, 1) := by decide +kernel
theorem dX11_bestSuit_7 : decode cX11_bestSuit 7 = .ok (.putfield 62, 3) := by decide +kernel
theorem dX11_bestSuit_10 : decode cX11_bestSuit 10 = .ok (.iload_n 1, 1) := by decide +kernel
theorem dX11_bestSuit_11 : decode cX11_bestSuit 11 = .ok (.iload_n 2, 1) := by decide +kernel
theorem dX11_bestSuit_12 : decode cX11_bestSuit 12 = .ok (.invokestatic 453, 3) := by decide +kernel
theorem dX11_bestSuit_15 : decode cX11_bestSuit 15 = .ok (.ifCond .ne 9, 3) := by decide +kernel
theorem dX11_bestSuit_18 : decode cX11_bestSuit 18 = .ok (.aload_n 0, 1) := by decide +kernel
theorem dX11_bestSuit_19 : decode cX11_bestSuit 19 = .ok (.iconst 5, 1) := by decide +kernel
theorem dX11_bestSuit_20 : decode cX11_bestSuit 20 = .ok (.invokevirtual 312, 3) := by decide +kernel
theorem dX11_bestSuit_23 : decode cX11_bestSuit 23 = .ok (.ireturn, 1) := by decide +kernel
theorem dX11_bestSuit_24 : decode cX11_bestSuit 24 = .ok (.aload_n 0, 1) := by decide +kernel
theorem dX11_bestSuit_25 : decode cX11_bestSuit 25 = .ok (.getfield 35, 3) := by decide +kernel
theorem dX11_bestSuit_28 : decode cX11_bestSuit 28 = .ok (.iconst 1, 1) := by decide +kernel
theorem dX11_bestSuit_29 : decode cX11_bestSuit 29 = .ok (.iaload, 1) := by decide +kernel
theorem dX11_bestSuit_30 : decode cX11_bestSuit 30 = .ok (.ifCond .ne 10, 3) := by decide +kernel
theorem dX11_bestSuit_33 : decode cX11_bestSuit 33 = .ok (.aload_n 0, 1) := by decide +kernel
theorem dX11_bestSuit_34 : decode cX11_bestSuit 34 = .ok (.bipush 8, 2) := by decide +kernel
theorem dX11_bestSuit_36 : decode cX11_bestSuit 36 = .ok (.invokevirtual 312, 3) := by decide +kernel
theorem dX11_bestSuit_39 : decode cX11_bestSuit 39 = .ok (.ireturn, 1) := by decide +kernel
theorem dX11_bestSuit_40 : decode cX11_bestSuit 40 = .ok (.iconst 0, 1) := by decide +kernel
theorem dX11_bestSuit_41 : decode cX11_bestSuit 41 = .ok (.istore_n 3, 1) := by decide +kernel
theorem dX11_bestSuit_42 : decode cX11_bestSuit 42 = .ok (.iload_n 3, 1) := by decide +kernel
theorem dX11_bestSuit_43 : decode cX11_bestSuit 43 = .ok (.iconst 4, 1) := by decide +kernel
theorem dX11_bestSuit_44 : decode cX11_bestSuit 44 = .ok (.if_icmp .ge 16, 3) := by decide +kernel
theorem dX11_bestSuit_47 : decode cX11_bestSuit 47 = .ok (.aload_n 0, 1) := by decide +kernel
theorem dX11_bestSuit_48 : decode cX11_bestSuit 48 = .ok (.getfield 53, 3) := by decide +kernel
theorem dX11_bestSuit_51 : decode cX11_bestSuit 51 = .ok (.iload_n 3, 1) := by decide +kernel
theorem dX11_bestSuit_52 : decode cX11_bestSuit 52 = .ok (.iconst 0, 1) := by decide +kernel
theorem dX11_bestSuit_53 : decode cX11_bestSuit 53 = .ok (.iastore, 1) := by decide +kernel
theorem dX11_bestSuit_54 : decode cX11_bestSuit 54 = .ok (.iinc 3 1, 3) := by decide +kernel
theorem dX11_bestSuit_57 : decode cX11_bestSuit 57 = .ok (.goto (-15), 3) := by decide +kernel
theorem dX11_bestSuit_60 : decode cX11_bestSuit 60 = .ok (.iconst 0, 1) := by decide +kernel
theorem dX11_bestSuit_61 : decode cX11_bestSuit 61 = .ok (.istore_n 3, 1) := by decide +kernel
theorem dX11_bestSuit_62 : decode cX11_bestSuit 62 = .ok (.iload_n 3, 1) := by decide +kernel
theorem dX11_bestSuit_63 : decode cX11_bestSuit 63 = .ok (.iload_n 2, 1) := by decide +kernel
theorem dX11_bestSuit_64 : decode cX11_bestSuit 64 = .ok (.if_icmp .ge 48, 3) := by decide +kernel
theorem dX11_bestSuit_67 : decode cX11_bestSuit 67 = .ok (.aload_n 0, 1) := by decide +kernel
theorem dX11_bestSuit_68 : decode cX11_bestSuit 68 = .ok (.iload_n 1, 1) := by decide +kernel
theorem dX11_bestSuit_69 : decode cX11_bestSuit 69 = .ok (.iload_n 3, 1) := by decide +kernel
theorem dX11_bestSuit_70 : decode cX11_bestSuit 70 = .ok (.iadd, 1) := by decide +kernel
theorem dX11_bestSuit_71 : decode cX11_bestSuit 71 = .ok (.invokevirtual 456, 3) := by decide +kernel
theorem dX11_bestSuit_74 : decode cX11_bestSuit 74 = .ok (.iconst 0, 1) := by decide +kernel
theorem dX11_bestSuit_75 : decode cX11_bestSuit 75 = .ok (.istore 4, 2) := by decide +kernel
theorem dX11_bestSuit_77 : decode cX11_bestSuit 77 = .ok (.iload 4, 2) := by decide +kernel
theorem dX11_bestSuit_79 : decode cX11_bestSuit 79 = .ok (.iconst 4, 1) := by decide +kernel
theorem dX11_bestSuit_80 : decode cX11_bestSuit 80 = .ok (.if_icmp .ge 26, 3) := by decide +kernel
theorem dX11_bestSuit_83 : decode cX11_bestSuit 83 = .ok (.aload_n 0, 1) := by decide +kernel
theorem dX11_bestSuit_84 : decode cX11_bestSuit 84 = .ok (.getfield 53, 3) := by decide +kernel
theorem dX11_bestSuit_87 : decode cX11_bestSuit 87 = .ok (.iload 4, 2) := by decide +kernel
theorem dX11_bestSuit_89 : decode cX11_bestSuit 89 = .ok (.dup2, 1) := by decide +kernel
theorem dX11_bestSuit_90 : decode cX11_bestSuit 90 = .ok (.iaload, 1) := by decide +kernel
theorem dX11_bestSuit_91 : decode cX11_bestSuit 91 = .ok (.aload_n 0, 1) := by decide +kernel
theorem dX11_bestSuit_92 : decode cX11_bestSuit 92 = .ok (.getfield 47, 3) := by decide +kernel
theorem dX11_bestSuit_95 : decode cX11_bestSuit 95 = .ok (.iload 4, 2) := by decide +kernel
theorem dX11_bestSuit_97 : decode cX11_bestSuit 97 = .ok (.iaload, 1) := by decide +kernel
theorem dX11_bestSuit_98 : decode cX11_bestSuit 98 = .ok (.iadd, 1) := by decide +kernel
theorem dX11_bestSuit_99 : decode cX11_bestSuit 99 = .ok (.iastore, 1) := by decide +kernel
theorem dX11_bestSuit_100 : decode cX11_bestSuit 100 = .ok (.iinc 4 1, 3) := by decide +kernel
theorem dX11_bestSuit_103 : decode cX11_bestSuit 103 = .ok (.goto (-26), 3) := by decide +kernel
theorem dX11_bestSuit_106 : decode cX11_bestSuit 106 = .ok (.iinc 3 1, 3) := by decide +kernel
theorem dX11_bestSuit_109 : decode cX11_bestSuit 109 = .ok (.goto (-47), 3) := by decide +kernel
theorem dX11_bestSuit_112 : decode cX11_bestSuit 112 = .ok (.iconst 0, 1) := by decide +kernel
theorem dX11_bestSuit_113 : decode cX11_bestSuit 113 = .ok (.istore_n 3, 1) := by decide +kernel
theorem dX11_bestSuit_114 : decode cX11_bestSuit 114 = .ok (.iconst 1, 1) := by decide +kernel
theorem dX11_bestSuit_115 : decode cX11_bestSuit 115 = .ok (.istore 4, 2) := by decide +kernel
theorem dX11_bestSuit_117 : decode cX11_bestSuit 117 = .ok (.iload 4, 2) := by decide +kernel
theorem dX11_bestSuit_119 : decode cX11_bestSuit 119 = .ok (.aload_n 0, 1) := by decide +kernel
theorem dX11_bestSuit_120 : decode cX11_bestSuit 120 = .ok (.getfield 35, 3) := by decide +kernel
theorem dX11_bestSuit_123 : decode cX11_bestSuit 123 = .ok (.iconst 1, 1) := by decide +kernel
theorem dX11_bestSuit_124 : decode cX11_bestSuit 124 = .ok (.iaload, 1) := by decide +kernel
theorem dX11_bestSuit_125 : decode cX11_bestSuit 125 = .ok (.if_icmp .ge 28, 3) := by decide +kernel
theorem dX11_bestSuit_128 : decode cX11_bestSuit 128 = .ok (.aload_n 0, 1) := by decide +kernel
theorem dX11_bestSuit_129 : decode cX11_bestSuit 129 = .ok (.getfield 53, 3) := by decide +kernel
theorem dX11_bestSuit_132 : decode cX11_bestSuit 132 = .ok (.iload 4, 2) := by decide +kernel
theorem dX11_bestSuit_134 : decode cX11_bestSuit 134 = .ok (.iaload, 1) := by decide +kernel
theorem dX11_bestSuit_135 : decode cX11_bestSuit 135 = .ok (.aload_n 0, 1) := by decide +kernel
theorem dX11_bestSuit_136 : decode cX11_bestSuit 136 = .ok (.getfield 53, 3) := by decide +kernel
theorem dX11_bestSuit_139 : decode cX11_bestSuit 139 = .ok (.iload_n 3, 1) := by decide +kernel
theorem dX11_bestSuit_140 : decode cX11_bestSuit 140 = .ok (.iaload, 1) := by decide +kernel
theorem dX11_bestSuit_141 : decode cX11_bestSuit 141 = .ok (.if_icmp .le 6, 3) := by decide +kernel
theorem dX11_bestSuit_144 : decode cX11_bestSuit 144 = .ok (.iload 4, 2) := by decide +kernel
theorem dX11_bestSuit_146 : decode cX11_bestSuit 146 = .ok (.istore_n 3, 1) := by decide +kernel
theorem dX11_bestSuit_147 : decode cX11_bestSuit 147 = .ok (.iinc 4 1, 3) := by decide +kernel
theorem dX11_bestSuit_150 : decode cX11_bestSuit 150 = .ok (.goto (-33), 3) := by decide +kernel
theorem dX11_bestSuit_153 : decode cX11_bestSuit 153 = .ok (.iload_n 3, 1) := by decide +kernel
theorem dX11_bestSuit_154 : decode cX11_bestSuit 154 = .ok (.ireturn, 1) := by decide +kernel
theorem dX11_whyNotLike_0 : decode cX11_whyNotLike 0 = .ok (.aload_n 0, 1) := by decide +kernel
theorem dX11_whyNotLike_1 : decode cX11_whyNotLike 1 = .ok (.iload_n 1, 1) := by decide +kernel
theorem dX11_whyNotLike_2 : decode cX11_whyNotLike 2 = .ok (.invokevirtual 338, 3) := by decide +kernel
theorem dX11_whyNotLike_5 : decode cX11_whyNotLike 5 = .ok (.ifCond .ne 5, 3) := by decide +kernel
theorem dX11_whyNotLike_8 : decode cX11_whyNotLike 8 = .ok (.iconst 1, 1) := by decide +kernel
theorem dX11_whyNotLike_9 : decode cX11_whyNotLike 9 = .ok (.ireturn, 1) := by decide +kernel
theorem dX11_whyNotLike_10 : decode cX11_whyNotLike 10 = .ok (.aload_n 0, 1) := by decide +kernel
theorem dX11_whyNotLike_11 : decode cX11_whyNotLike 11 = .ok (.getfield 17, 3) := by decide +kernel
theorem dX11_whyNotLike_14 : decode cX11_whyNotLike 14 = .ok (.iload_n 1, 1) := by decide +kernel
theorem dX11_whyNotLike_15 : decode cX11_whyNotLike 15 = .ok (.iaload, 1) := by decide +kernel
theorem dX11_whyNotLike_16 : decode cX11_whyNotLike 16 = .ok (.ifCond .ge 5, 3) := by decide +kernel
theorem dX11_whyNotLike_19 : decode cX11_whyNotLike 19 = .ok (.iconst 3, 1) := by decide +kernel
theorem dX11_whyNotLike_20 : decode cX11_whyNotLike 20 = .ok (.ireturn, 1) := by decide +kernel
theorem dX11_whyNotLike_21 : decode cX11_whyNotLike 21 = .ok (.aload_n 0, 1) := by decide +kernel
theorem dX11_whyNotLike_22 : decode cX11_whyNotLike 22 = .ok (.getfield 17, 3) := by decide +kernel
theorem dX11_whyNotLike_25 : decode cX11_whyNotLike 25 = .ok (.iload_n 1, 1) := by decide +kernel
theorem dX11_whyNotLike_26 : decode cX11_whyNotLike 26 = .ok (.iaload, 1) := by decide +kernel
theorem dX11_whyNotLike_27 : decode cX11_whyNotLike 27 = .ok (.aload_n 0, 1) := by decide +kernel
theorem dX11_whyNotLike_28 : decode cX11_whyNotLike 28 = .ok (.getfield 35, 3) := by decide +kernel
theorem dX11_whyNotLike_31 : decode cX11_whyNotLike 31 = .ok (.iconst 1, 1) := by decide +kernel
theorem dX11_whyNotLike_32 : decode cX11_whyNotLike 32 = .ok (.iaload, 1) := by decide +kernel
theorem dX11_whyNotLike_33 : decode cX11_whyNotLike 33 = .ok (.if_icmp .ge 5, 3) := by decide +kernel
theorem dX11_whyNotLike_36 : decode cX11_whyNotLike 36 = .ok (.iconst 4, 1) := by decide +kernel
theorem dX11_whyNotLike_37 : decode cX11_whyNotLike 37 = .ok (.ireturn, 1) := by decide +kernel
theorem dX11_whyNotLike_38 : decode cX11_whyNotLike 38 = .ok (.iload_n 2, 1) := by decide +kernel
theorem dX11_whyNotLike_39 : decode cX11_whyNotLike 39 = .ok (.iload_n 3, 1) := by decide +kernel
theorem dX11_whyNotLike_40 : decode cX11_whyNotLike 40 = .ok (.invokestatic 453, 3) := by decide +kernel
theorem dX11_whyNotLike_43 : decode cX11_whyNotLike 43 = .ok (.ifCond .eq 7, 3) := by decide +kernel
theorem dX11_whyNotLike_46 : decode cX11_whyNotLike 46 = .ok (.iconst 0, 1) := by decide +kernel
theorem dX11_whyNotLike_47 : decode cX11_whyNotLike 47 = .ok (.goto 4, 3) := by decide +kernel
theorem dX11_whyNotLike_50 : decode cX11_whyNotLike 50 = .ok (.iconst 5, 1) := by decide +kernel
theorem dX11_whyNotLike_51 : decode cX11_whyNotLike 51 = .ok (.ireturn, 1) := by decide +kernel
theorem dX11_likes_0 : decode cX11_likes 0 = .ok (.iconst 0, 1) := by decide +kernel
theorem dX11_likes_1 : decode cX11_likes 1 = .ok (.istore 4, 2) := by decide +kernel
theorem dX11_likes_3 : decode cX11_likes 3 = .ok (.aload_n 0, 1) := by decide +kernel
theorem dX11_likes_4 : decode cX11_likes 4 = .ok (.iconst (-1), 1) := by decide +kernel
theorem dX11_likes_5 : decode cX11_likes 5 = .ok (.putfield 463, 3) := by decide +kernel
theorem dX11_likes_8 : decode cX11_likes 8 = .ok (.iload_n 3, 1) := by decide +kernel
theorem dX11_likes_9 : decode cX11_likes 9 = .ok (.iconst 1, 1) := by decide +kernel
theorem dX11_likes_10 : decode cX11_likes 10 = .ok (.isub, 1) := by decide +kernel
theorem dX11_likes_11 : decode cX11_likes 11 = .ok (.istore 5, 2) := by decide +kernel
theorem dX11_likes_13 : decode cX11_likes 13 = .ok (.iload 5, 2) := by decide +kernel
theorem dX11_likes_15 : decode cX11_likes 15 = .ok (.ifCond .lt 90, 3) := by decide +kernel
theorem dX11_likes_18 : decode cX11_likes 18 = .ok (.aload_n 0, 1) := by decide +kernel
theorem dX11_likes_19 : decode cX11_likes 19 = .ok (.iload_n 2, 1) := by decide +kernel
theorem dX11_likes_20 : decode cX11_likes 20 = .ok (.iload 5, 2) := by decide +kernel
theorem dX11_likes_22 : decode cX11_likes 22 = .ok (.iadd, 1) := by decide +kernel
theorem dX11_likes_23 : decode cX11_likes 23 = .ok (.invokevirtual 456, 3) := by decide +kernel
theorem dX11_likes_26 : decode cX11_likes 26 = .ok (.iconst 1, 1) := by decide +kernel
theorem dX11_likes_27 : decode cX11_likes 27 = .ok (.istore 6, 2) := by decide +kernel
theorem dX11_likes_29 : decode cX11_likes 29 = .ok (.iconst 0, 1) := by decide +kernel
theorem dX11_likes_30 : decode cX11_likes 30 = .ok (.istore 7, 2) := by decide +kernel
theorem dX11_likes_32 : decode cX11_likes 32 = .ok (.iload 7, 2) := by decide +kernel
theorem dX11_likes_34 : decode cX11_likes 34 = .ok (.aload_n 0, 1) := by decide +kernel
theorem dX11_likes_35 : decode cX11_likes 35 = .ok (.getfield 35, 3) := by decide +kernel
theorem dX11_likes_38 : decode cX11_likes 38 = .ok (.iconst 1, 1) := by decide +kernel
theorem dX11_likes_39 : decode cX11_likes 39 = .ok (.iaload, 1) := by decide +kernel
theorem dX11_likes_40 : decode cX11_likes 40 = .ok (.if_icmp .ge 40, 3) := by decide +kernel
theorem dX11_likes_43 : decode cX11_likes 43 = .ok (.iload 6, 2) := by decide +kernel
theorem dX11_likes_45 : decode cX11_likes 45 = .ok (.ifCond .eq 26, 3) := by decide +kernel
theorem dX11_likes_48 : decode cX11_likes 48 = .ok (.aload_n 0, 1) := by decide +kernel
theorem dX11_likes_49 : decode cX11_likes 49 = .ok (.getfield 47, 3) := by decide +kernel
theorem dX11_likes_52 : decode cX11_likes 52 = .ok (.iload 7, 2) := by decide +kernel
theorem dX11_likes_54 : decode cX11_likes 54 = .ok (.iaload, 1) := by decide +kernel
theorem dX11_likes_55 : decode cX11_likes 55 = .ok (.i2l, 1) := by decide +kernel
theorem dX11_likes_56 : decode cX11_likes 56 = .ok (.aload_n 0, 1) := by decide +kernel
theorem dX11_likes_57 : decode cX11_likes 57 = .ok (.iload_n 1, 1) := by decide +kernel
theorem dX11_likes_58 : decode cX11_likes 58 = .ok (.iload 7, 2) := by decide +kernel
theorem dX11_likes_60 : decode cX11_likes 60 = .ok (.invokevirtual 466, 3) := by decide +kernel
theorem dX11_likes_63 : decode cX11_likes 63 = .ok (.lcmp, 1) := by decide +kernel
theorem dX11_likes_64 : decode cX11_likes 64 = .ok (.ifCond .ne 7, 3) := by decide +kernel
theorem dX11_likes_67 : decode cX11_likes 67 = .ok (.iconst 1, 1) := by decide +kernel
theorem dX11_likes_68 : decode cX11_likes 68 = .ok (.goto 4, 3) := by decide +kernel
theorem dX11_likes_71 : decode cX11_likes 71 = .ok (.iconst 0, 1) := by decide +kernel
theorem dX11_likes_72 : decode cX11_likes 72 = .ok (.istore 6, 2) := by decide +kernel
theorem dX11_likes_74 : decode cX11_likes 74 = .ok (.iinc 7 1, 3) := by decide +kernel
theorem dX11_likes_77 : decode cX11_likes 77 = .ok (.goto (-45), 3) := by decide +kernel
theorem dX11_likes_80 : decode cX11_likes 80 = .ok (.iload 6, 2) := by decide +kernel
theorem dX11_likes_82 : decode cX11_likes 82 = .ok (.ifCond .ne 6, 3) := by decide +kernel
theorem dX11_likes_85 : decode cX11_likes 85 = .ok (.goto 14, 3) := by decide +kernel
theorem dX11_likes_88 : decode cX11_likes 88 = .ok (.iinc 4 1, 3) := by decide +kernel
theorem dX11_likes_91 : decode cX11_likes 91 = .ok (.aload_n 0, 1) := by decide +kernel
theorem dX11_likes_92 : decode cX11_likes 92 = .ok (.iload_n 2, 1) := by decide +kernel
theorem dX11_likes_93 : decode cX11_likes 93 = .ok (.iload 5, 2) := by decide +kernel
theorem dX11_likes_95 : decode cX11_likes 95 = .ok (.iadd, 1) := by decide +kernel
theorem dX11_likes_96 : decode cX11_likes 96 = .ok (.putfield 463, 3) := by decide +kernel
theorem dX11_likes_99 : decode cX11_likes 99 = .ok (.iinc 5 (-1), 3) := by decide +kernel
theorem dX11_likes_102 : decode cX11_likes 102 = .ok (.goto (-89), 3) := by decide +kernel
theorem dX11_likes_105 : decode cX11_likes 105 = .ok (.iload 4, 2) := by decide +kernel
theorem dX11_likes_107 : decode cX11_likes 107 = .ok (.ireturn, 1) := by decide +kernel
theorem dX11_like_0 : decode cX11_like 0 = .ok (.aload_n 0, 1) := by decide +kernel
theorem dX11_like_1 : decode cX11_like 1 = .ok (.iconst 0, 1) := by decide +kernel
theorem dX11_like_2 : decode cX11_like 2 = .ok (.putfield 59, 3) := by decide +kernel
theorem dX11_like_5 : decode cX11_like 5 = .ok (.aload_n 0, 1) := by decide +kernel
theorem dX11_like_6 : decode cX11_like 6 = .ok (.aload_n 0, 1) := by decide +kernel
theorem dX11_like_7 : decode cX11_like 7 = .ok (.iload_n 1, 1) := by decide +kernel
theorem dX11_like_8 : decode cX11_like 8 = .ok (.iload_n 2, 1) := by decide +kernel
theorem dX11_like_9 : decode cX11_like 9 = .ok (.iload_n 3, 1) := by decide +kernel
theorem dX11_like_10 : decode cX11_like 10 = .ok (.invokevirtual 470, 3) := by decide +kernel
theorem dX11_like_13 : decode cX11_like 13 = .ok (.putfield 62, 3) := by decide +kernel
theorem dX11_like_16 : decode cX11_like 16 = .ok (.aload_n 0, 1) := by decide +kernel
theorem dX11_like_17 : decode cX11_like 17 = .ok (.getfield 62, 3) := by decide +kernel
theorem dX11_like_20 : decode cX11_like 20 = .ok (.ifCond .le 7, 3) := by decide +kernel
theorem dX11_like_23 : decode cX11_like 23 = .ok (.iconst (-1), 1) := by decide +kernel
theorem dX11_like_24 : decode cX11_like 24 = .ok (.goto 10, 3) := by decide +kernel
theorem dX11_like_27 : decode cX11_like 27 = .ok (.aload_n 0, 1) := by decide +kernel
theorem dX11_like_28 : decode cX11_like 28 = .ok (.iload_n 1, 1) := by decide +kernel
theorem dX11_like_29 : decode cX11_like 29 = .ok (.iload_n 2, 1) := by decide +kernel
theorem dX11_like_30 : decode cX11_like 30 = .ok (.iload_n 3, 1) := by decide +kernel
theorem dX11_like_31 : decode cX11_like 31 = .ok (.invokevirtual 473, 3) := by decide +kernel
theorem dX11_like_34 : decode cX11_like 34 = .ok (.ireturn, 1) := by decide +kernel
theorem dX11_likeFirst_0 : decode cX11_likeFirst 0 = .ok (.aload_n 0, 1) := by decide +kernel
theorem dX11_likeFirst_1 : decode cX11_likeFirst 1 = .ok (.iconst 0, 1) := by decide +kernel
theorem dX11_likeFirst_2 : decode cX11_likeFirst 2 = .ok (.putfield 59, 3) := by decide +kernel
theorem dX11_likeFirst_5 : decode cX11_likeFirst 5 = .ok (.aload_n 0, 1) := by decide +kernel
theorem dX11_likeFirst_6 : decode cX11_likeFirst 6 = .ok (.aload_n 0, 1) := by decide +kernel
theorem dX11_likeFirst_7 : decode cX11_likeFirst 7 = .ok (.iload_n 1, 1) := by decide +kernel
theorem dX11_likeFirst_8 : decode cX11_likeFirst 8 = .ok (.iload_n 2, 1) := by decide +kernel
theorem dX11_likeFirst_9 : decode cX11_likeFirst 9 = .ok (.iload_n 3, 1) := by decide +kernel
theorem dX11_likeFirst_10 : decode cX11_likeFirst 10 = .ok (.invokevirtual 470, 3) := by decide +kernel
theorem dX11_likeFirst_13 : decode cX11_likeFirst 13 = .ok (.putfield 62, 3) := by decide +kernel
theorem dX11_likeFirst_16 : decode cX11_likeFirst 16 = .ok (.aload_n 0, 1) := by decide +kernel
theorem dX11_likeFirst_17 : decode cX11_likeFirst 17 = .ok (.getfield 62, 3) := by decide +kernel
theorem dX11_likeFirst_20 : decode cX11_likeFirst 20 = .ok (.ifCond .le 5, 3) := by decide +kernel
theorem dX11_likeFirst_23 : decode cX11_likeFirst 23 = .ok (.iconst (-1), 1) := by decide +kernel
theorem dX11_likeFirst_24 : decode cX11_likeFirst 24 = .ok (.ireturn, 1) := by decide +kernel
theorem dX11_likeFirst_25 : decode cX11_likeFirst 25 = .ok (.aload_n 0, 1) := by decide +kernel
theorem dX11_likeFirst_26 : decode cX11_likeFirst 26 = .ok (.iload_n 1, 1) := by decide +kernel
theorem dX11_likeFirst_27 : decode cX11_likeFirst 27 = .ok (.iload_n 2, 1) := by decide +kernel
theorem dX11_likeFirst_28 : decode cX11_likeFirst 28 = .ok (.iload_n 3, 1) := by decide +kernel
theorem dX11_likeFirst_29 : decode cX11_likeFirst 29 = .ok (.invokevirtual 473, 3) := by decide +kernel
theorem dX11_likeFirst_32 : decode cX11_likeFirst 32 = .ok (.pop, 1) := by decide +kernel
theorem dX11_likeFirst_33 : decode cX11_likeFirst 33 = .ok (.aload_n 0, 1) := by decide +kernel
theorem dX11_likeFirst_34 : decode cX11_likeFirst 34 = .ok (.getfield 463, 3) := by decide +kernel
theorem dX11_likeFirst_37 : decode cX11_likeFirst 37 = .ok (.ifCond .ge 12, 3) := by decide +kernel
theorem dX11_likeFirst_40 : decode cX11_likeFirst 40 = .ok (.aload_n 0, 1) := by decide +kernel
theorem dX11_likeFirst_41 : decode cX11_likeFirst 41 = .ok (.bipush 8, 2) := by decide +kernel
theorem dX11_likeFirst_43 : decode cX11_likeFirst 43 = .ok (.invokevirtual 312, 3) := by decide +kernel
theorem dX11_likeFirst_46 : decode cX11_likeFirst 46 = .ok (.goto 7, 3) := by decide +kernel
theorem dX11_likeFirst_49 : decode cX11_likeFirst 49 = .ok (.aload_n 0, 1) := by decide +kernel
theorem dX11_likeFirst_50 : decode cX11_likeFirst 50 = .ok (.getfield 463, 3) := by decide +kernel
theorem dX11_likeFirst_53 : decode cX11_likeFirst 53 = .ok (.ireturn, 1) := by decide +kernel
theorem dX11_packTop_0 : decode cX11_packTop 0 = .ok (.aload_n 0, 1) := by decide +kernel
theorem dX11_packTop_1 : decode cX11_packTop 1 = .ok (.iconst 0, 1) := by decide +kernel
theorem dX11_packTop_2 : decode cX11_packTop 2 = .ok (.putfield 59, 3) := by decide +kernel
theorem dX11_packTop_5 : decode cX11_packTop 5 = .ok (.aload_n 0, 1) := by decide +kernel
theorem dX11_packTop_6 : decode cX11_packTop 6 = .ok (.iconst 0, 1) := by decide +kernel
theorem dX11_packTop_7 : decode cX11_packTop 7 = .ok (.putfield 62, 3) := by decide +kernel
theorem dX11_packTop_10 : decode cX11_packTop 10 = .ok (.aload_n 0, 1) := by decide +kernel
theorem dX11_packTop_11 : decode cX11_packTop 11 = .ok (.iload_n 1, 1) := by decide +kernel
theorem dX11_packTop_12 : decode cX11_packTop 12 = .ok (.invokevirtual 307, 3) := by decide +kernel
theorem dX11_packTop_15 : decode cX11_packTop 15 = .ok (.ifCond .ne 9, 3) := by decide +kernel
theorem dX11_packTop_18 : decode cX11_packTop 18 = .ok (.aload_n 0, 1) := by decide +kernel
theorem dX11_packTop_19 : decode cX11_packTop 19 = .ok (.iconst 2, 1) := by decide +kernel
theorem dX11_packTop_20 : decode cX11_packTop 20 = .ok (.invokevirtual 312, 3) := by decide +kernel
theorem dX11_packTop_23 : decode cX11_packTop 23 = .ok (.ireturn, 1) := by decide +kernel
theorem dX11_packTop_24 : decode cX11_packTop 24 = .ok (.iload_n 2, 1) := by decide +kernel
theorem dX11_packTop_25 : decode cX11_packTop 25 = .ok (.iconst 1, 1) := by decide +kernel
theorem dX11_packTop_26 : decode cX11_packTop 26 = .ok (.invokestatic 453, 3) := by decide +kernel
theorem dX11_packTop_29 : decode cX11_packTop 29 = .ok (.ifCond .ne 9, 3) := by decide +kernel
theorem dX11_packTop_32 : decode cX11_packTop 32 = .ok (.aload_n 0, 1) := by decide +kernel
theorem dX11_packTop_33 : decode cX11_packTop 33 = .ok (.iconst 5, 1) := by decide +kernel
theorem dX11_packTop_34 : decode cX11_packTop 34 = .ok (.invokevirtual 312, 3) := by decide +kernel
theorem dX11_packTop_37 : decode cX11_packTop 37 = .ok (.ireturn, 1) := by decide +kernel
theorem dX11_packTop_38 : decode cX11_packTop 38 = .ok (.aload_n 0, 1) := by decide +kernel
theorem dX11_packTop_39 : decode cX11_packTop 39 = .ok (.iconst 0, 1) := by decide +kernel
theorem dX11_packTop_40 : decode cX11_packTop 40 = .ok (.invokevirtual 399, 3) := by decide +kernel
theorem dX11_packTop_43 : decode cX11_packTop 43 = .ok (.aload_n 0, 1) := by decide +kernel
theorem dX11_packTop_44 : decode cX11_packTop 44 = .ok (.iload_n 2, 1) := by decide +kernel
theorem dX11_packTop_45 : decode cX11_packTop 45 = .ok (.invokevirtual 393, 3) := by decide +kernel
theorem dX11_packTop_48 : decode cX11_packTop 48 = .ok (.pop, 1) := by decide +kernel
theorem dX11_packTop_49 : decode cX11_packTop 49 = .ok (.aload_n 0, 1) := by decide +kernel
theorem dX11_packTop_50 : decode cX11_packTop 50 = .ok (.iload_n 1, 1) := by decide +kernel
theorem dX11_packTop_51 : decode cX11_packTop 51 = .ok (.invokevirtual 327, 3) := by decide +kernel
theorem dX11_packTop_54 : decode cX11_packTop 54 = .ok (.istore_n 3, 1) := by decide +kernel
theorem dX11_packTop_55 : decode cX11_packTop 55 = .ok (.aload_n 0, 1) := by decide +kernel
theorem dX11_packTop_56 : decode cX11_packTop 56 = .ok (.iconst 0, 1) := by decide +kernel
theorem dX11_packTop_57 : decode cX11_packTop 57 = .ok (.invokevirtual 402, 3) := by decide +kernel
theorem dX11_packTop_60 : decode cX11_packTop 60 = .ok (.iload_n 3, 1) := by decide +kernel
theorem dX11_packTop_61 : decode cX11_packTop 61 = .ok (.ifCond .ge 12, 3) := by decide +kernel
theorem dX11_packTop_64 : decode cX11_packTop 64 = .ok (.aload_n 0, 1) := by decide +kernel
theorem dX11_packTop_65 : decode cX11_packTop 65 = .ok (.bipush 8, 2) := by decide +kernel
theorem dX11_packTop_67 : decode cX11_packTop 67 = .ok (.invokevirtual 312, 3) := by decide +kernel
theorem dX11_packTop_70 : decode cX11_packTop 70 = .ok (.goto 4, 3) := by decide +kernel
theorem dX11_packTop_73 : decode cX11_packTop 73 = .ok (.iload_n 3, 1) := by decide +kernel
theorem dX11_packTop_74 : decode cX11_packTop 74 = .ok (.ireturn, 1) := by decide +kernel
theorem dX11_draw_0 : decode cX11_draw 0 = .ok (.aload_n 0, 1) := by decide +kernel
theorem dX11_draw_1 : decode cX11_draw 1 = .ok (.aload_n 0, 1) := by decide +kernel
theorem dX11_draw_2 : decode cX11_draw 2 = .ok (.getfield 476, 3) := by decide +kernel
theorem dX11_draw_5 : decode cX11_draw 5 = .ok (.sipush 2971, 3) := by decide +kernel
theorem dX11_draw_8 : decode cX11_draw 8 = .ok (.imul, 1) := by decide +kernel
theorem dX11_draw_9 : decode cX11_draw 9 = .ok (.sipush 10711, 3) := by decide +kernel
theorem dX11_draw_12 : decode cX11_draw 12 = .ok (.iadd, 1) := by decide +kernel
theorem dX11_draw_13 : decode cX11_draw 13 = .ok (.ldc_w 384, 3) := by decide +kernel
theorem dX11_draw_16 : decode cX11_draw 16 = .ok (.irem, 1) := by decide +kernel
theorem dX11_draw_17 : decode cX11_draw 17 = .ok (.putfield 476, 3) := by decide +kernel
theorem dX11_draw_20 : decode cX11_draw 20 = .ok (.aload_n 0, 1) := by decide +kernel
theorem dX11_draw_21 : decode cX11_draw 21 = .ok (.getfield 476, 3) := by decide +kernel
theorem dX11_draw_24 : decode cX11_draw 24 = .ok (.bipush 8, 2) := by decide +kernel
theorem dX11_draw_26 : decode cX11_draw 26 = .ok (.idiv, 1) := by decide +kernel
theorem dX11_draw_27 : decode cX11_draw 27 = .ok (.iload_n 1, 1) := by decide +kernel
theorem dX11_draw_28 : decode cX11_draw 28 = .ok (.irem, 1) := by decide +kernel
theorem dX11_draw_29 : decode cX11_draw 29 = .ok (.ireturn, 1) := by decide +kernel
theorem dX11_anyDays_0 : decode cX11_anyDays 0 = .ok (.aload_n 0, 1) := by decide +kernel
theorem dX11_anyDays_1 : decode cX11_anyDays 1 = .ok (.getfield 35, 3) := by decide +kernel
theorem dX11_anyDays_4 : decode cX11_anyDays 4 = .ok (.bipush 6, 2) := by decide +kernel
theorem dX11_anyDays_6 : decode cX11_anyDays 6 = .ok (.iaload, 1) := by decide +kernel
theorem dX11_anyDays_7 : decode cX11_anyDays 7 = .ok (.iload_n 1, 1) := by decide +kernel
theorem dX11_anyDays_8 : decode cX11_anyDays 8 = .ok (.iadd, 1) := by decide +kernel
theorem dX11_anyDays_9 : decode cX11_anyDays 9 = .ok (.sipush 9999, 3) := by decide +kernel
theorem dX11_anyDays_12 : decode cX11_anyDays 12 = .ok (.if_icmp .le 5, 3) := by decide +kernel
theorem dX11_anyDays_15 : decode cX11_anyDays 15 = .ok (.iconst 0, 1) := by decide +kernel
theorem dX11_anyDays_16 : decode cX11_anyDays 16 = .ok (.ireturn, 1) := by decide +kernel
theorem dX11_anyDays_17 : decode cX11_anyDays 17 = .ok (.iconst 0, 1) := by decide +kernel
theorem dX11_anyDays_18 : decode cX11_anyDays 18 = .ok (.istore_n 2, 1) := by decide +kernel
theorem dX11_anyDays_19 : decode cX11_anyDays 19 = .ok (.iload_n 2, 1) := by decide +kernel
theorem dX11_anyDays_20 : decode cX11_anyDays 20 = .ok (.iload_n 1, 1) := by decide +kernel
theorem dX11_anyDays_21 : decode cX11_anyDays 21 = .ok (.if_icmp .ge 13, 3) := by decide +kernel
theorem dX11_anyDays_24 : decode cX11_anyDays 24 = .ok (.aload_n 0, 1) := by decide +kernel
theorem dX11_anyDays_25 : decode cX11_anyDays 25 = .ok (.invokevirtual 376, 3) := by decide +kernel
theorem dX11_anyDays_28 : decode cX11_anyDays 28 = .ok (.iinc 2 1, 3) := by decide +kernel
theorem dX11_anyDays_31 : decode cX11_anyDays 31 = .ok (.goto (-12), 3) := by decide +kernel
theorem dX11_anyDays_34 : decode cX11_anyDays 34 = .ok (.aload_n 0, 1) := by decide +kernel
theorem dX11_anyDays_35 : decode cX11_anyDays 35 = .ok (.dup, 1) := by decide +kernel
theorem dX11_anyDays_36 : decode cX11_anyDays 36 = .ok (.getfield 479, 3) := by decide +kernel
theorem dX11_anyDays_39 : decode cX11_anyDays 39 = .ok (.iload_n 1, 1) := by decide +kernel
theorem dX11_anyDays_40 : decode cX11_anyDays 40 = .ok (.iadd, 1) := by decide +kernel
theorem dX11_anyDays_41 : decode cX11_anyDays 41 = .ok (.putfield 479, 3) := by decide +kernel
theorem dX11_anyDays_44 : decode cX11_anyDays 44 = .ok (.iconst 1, 1) := by decide +kernel
theorem dX11_anyDays_45 : decode cX11_anyDays 45 = .ok (.ireturn, 1) := by decide +kernel
theorem dX11_isMoved_0 : decode cX11_isMoved 0 = .ok (.aload_n 0, 1) := by decide +kernel
theorem dX11_isMoved_1 : decode cX11_isMoved 1 = .ok (.iload_n 1, 1) := by decide +kernel
theorem dX11_isMoved_2 : decode cX11_isMoved 2 = .ok (.invokevirtual 324, 3) := by decide +kernel
theorem dX11_isMoved_5 : decode cX11_isMoved 5 = .ok (.ifCond .eq 20, 3) := by decide +kernel
theorem dX11_isMoved_8 : decode cX11_isMoved 8 = .ok (.aload_n 0, 1) := by decide +kernel
theorem dX11_isMoved_9 : decode cX11_isMoved 9 = .ok (.iload_n 2, 1) := by decide +kernel
theorem dX11_isMoved_10 : decode cX11_isMoved 10 = .ok (.invokevirtual 356, 3) := by decide +kernel
theorem dX11_isMoved_13 : decode cX11_isMoved 13 = .ok (.ifCond .eq 12, 3) := by decide +kernel
theorem dX11_isMoved_16 : decode cX11_isMoved 16 = .ok (.aload_n 0, 1) := by decide +kernel
theorem dX11_isMoved_17 : decode cX11_isMoved 17 = .ok (.iload_n 1, 1) := by decide +kernel
theorem dX11_isMoved_18 : decode cX11_isMoved 18 = .ok (.iload_n 2, 1) := by decide +kernel
theorem dX11_isMoved_19 : decode cX11_isMoved 19 = .ok (.invokevirtual 359, 3) := by decide +kernel
theorem dX11_isMoved_22 : decode cX11_isMoved 22 = .ok (.ifCond .ne 5, 3) := by decide +kernel
theorem dX11_isMoved_25 : decode cX11_isMoved 25 = .ok (.iconst 0, 1) := by decide +kernel
theorem dX11_isMoved_26 : decode cX11_isMoved 26 = .ok (.ireturn, 1) := by decide +kernel
theorem dX11_isMoved_27 : decode cX11_isMoved 27 = .ok (.aload_n 0, 1) := by decide +kernel
theorem dX11_isMoved_28 : decode cX11_isMoved 28 = .ok (.iload_n 1, 1) := by decide +kernel
theorem dX11_isMoved_29 : decode cX11_isMoved 29 = .ok (.iload_n 2, 1) := by decide +kernel
theorem dX11_isMoved_30 : decode cX11_isMoved 30 = .ok (.invokevirtual 362, 3) := by decide +kernel
theorem dX11_isMoved_33 : decode cX11_isMoved 33 = .ok (.pop, 1) := by decide +kernel
theorem dX11_isMoved_34 : decode cX11_isMoved 34 = .ok (.aload_n 0, 1) := by decide +kernel
theorem dX11_isMoved_35 : decode cX11_isMoved 35 = .ok (.dup, 1) := by decide +kernel
theorem dX11_isMoved_36 : decode cX11_isMoved 36 = .ok (.getfield 482, 3) := by decide +kernel
theorem dX11_isMoved_39 : decode cX11_isMoved 39 = .ok (.iload_n 2, 1) := by decide +kernel
theorem dX11_isMoved_40 : decode cX11_isMoved 40 = .ok (.bipush 7, 2) := by decide +kernel
theorem dX11_isMoved_42 : decode cX11_isMoved 42 = .ok (.if_icmp .ne 7, 3) := by decide +kernel
theorem dX11_isMoved_45 : decode cX11_isMoved 45 = .ok (.iconst 1, 1) := by decide +kernel
theorem dX11_isMoved_46 : decode cX11_isMoved 46 = .ok (.goto 4, 3) := by decide +kernel
theorem dX11_isMoved_49 : decode cX11_isMoved 49 = .ok (.iconst 0, 1) := by decide +kernel
theorem dX11_isMoved_50 : decode cX11_isMoved 50 = .ok (.iadd, 1) := by decide +kernel
theorem dX11_isMoved_51 : decode cX11_isMoved 51 = .ok (.putfield 482, 3) := by decide +kernel
theorem dX11_isMoved_54 : decode cX11_isMoved 54 = .ok (.aload_n 0, 1) := by decide +kernel
theorem dX11_isMoved_55 : decode cX11_isMoved 55 = .ok (.dup, 1) := by decide +kernel
theorem dX11_isMoved_56 : decode cX11_isMoved 56 = .ok (.getfield 485, 3) := by decide +kernel
theorem dX11_isMoved_59 : decode cX11_isMoved 59 = .ok (.iconst 1, 1) := by decide +kernel
theorem dX11_isMoved_60 : decode cX11_isMoved 60 = .ok (.iadd, 1) := by decide +kernel
theorem dX11_isMoved_61 : decode cX11_isMoved 61 = .ok (.putfield 485, 3) := by decide +kernel
theorem dX11_isMoved_64 : decode cX11_isMoved 64 = .ok (.iconst 1, 1) := by decide +kernel
theorem dX11_isMoved_65 : decode cX11_isMoved 65 = .ok (.ireturn, 1) := by decide +kernel
theorem dX11_isAny_0 : decode cX11_isAny 0 = .ok (.aload_n 0, 1) := by decide +kernel
theorem dX11_isAny_1 : decode cX11_isAny 1 = .ok (.iconst (-1), 1) := by decide +kernel
theorem dX11_isAny_2 : decode cX11_isAny 2 = .ok (.invokevirtual 396, 3) := by decide +kernel
theorem dX11_isAny_5 : decode cX11_isAny 5 = .ok (.istore_n 1, 1) := by decide +kernel
theorem dX11_isAny_6 : decode cX11_isAny 6 = .ok (.iload_n 1, 1) := by decide +kernel
theorem dX11_isAny_7 : decode cX11_isAny 7 = .ok (.ifCond .ne 5, 3) := by decide +kernel
theorem dX11_isAny_10 : decode cX11_isAny 10 = .ok (.iconst 0, 1) := by decide +kernel
theorem dX11_isAny_11 : decode cX11_isAny 11 = .ok (.ireturn, 1) := by decide +kernel
theorem dX11_isAny_12 : decode cX11_isAny 12 = .ok (.aload_n 0, 1) := by decide +kernel
theorem dX11_isAny_13 : decode cX11_isAny 13 = .ok (.aload_n 0, 1) := by decide +kernel
theorem dX11_isAny_14 : decode cX11_isAny 14 = .ok (.iload_n 1, 1) := by decide +kernel
theorem dX11_isAny_15 : decode cX11_isAny 15 = .ok (.invokevirtual 488, 3) := by decide +kernel
theorem dX11_isAny_18 : decode cX11_isAny 18 = .ok (.invokevirtual 396, 3) := by decide +kernel
theorem dX11_isAny_21 : decode cX11_isAny 21 = .ok (.istore_n 2, 1) := by decide +kernel
theorem dX11_isAny_22 : decode cX11_isAny 22 = .ok (.aload_n 0, 1) := by decide +kernel
theorem dX11_isAny_23 : decode cX11_isAny 23 = .ok (.iload_n 2, 1) := by decide +kernel
theorem dX11_isAny_24 : decode cX11_isAny 24 = .ok (.bipush 10, 2) := by decide +kernel
theorem dX11_isAny_26 : decode cX11_isAny 26 = .ok (.idiv, 1) := by decide +kernel
theorem dX11_isAny_27 : decode cX11_isAny 27 = .ok (.iload_n 2, 1) := by decide +kernel
theorem dX11_isAny_28 : decode cX11_isAny 28 = .ok (.bipush 10, 2) := by decide +kernel
theorem dX11_isAny_30 : decode cX11_isAny 30 = .ok (.irem, 1) := by decide +kernel
theorem dX11_isAny_31 : decode cX11_isAny 31 = .ok (.invokevirtual 491, 3) := by decide +kernel
theorem dX11_isAny_34 : decode cX11_isAny 34 = .ok (.ireturn, 1) := by decide +kernel
theorem dX11_isRun_0 : decode cX11_isRun 0 = .ok (.aload_n 0, 1) := by decide +kernel
theorem dX11_isRun_1 : decode cX11_isRun 1 = .ok (.invokevirtual 371, 3) := by decide +kernel
theorem dX11_isRun_4 : decode cX11_isRun 4 = .ok (.istore_n 1, 1) := by decide +kernel
theorem dX11_isRun_5 : decode cX11_isRun 5 = .ok (.aload_n 0, 1) := by decide +kernel
theorem dX11_isRun_6 : decode cX11_isRun 6 = .ok (.dup, 1) := by decide +kernel
theorem dX11_isRun_7 : decode cX11_isRun 7 = .ok (.getfield 482, 3) := by decide +kernel
theorem dX11_isRun_10 : decode cX11_isRun 10 = .ok (.iload_n 1, 1) := by decide +kernel
theorem dX11_isRun_11 : decode cX11_isRun 11 = .ok (.iadd, 1) := by decide +kernel
theorem dX11_isRun_12 : decode cX11_isRun 12 = .ok (.putfield 482, 3) := by decide +kernel
theorem dX11_isRun_15 : decode cX11_isRun 15 = .ok (.iload_n 1, 1) := by decide +kernel
theorem dX11_isRun_16 : decode cX11_isRun 16 = .ok (.ifCond .le 7, 3) := by decide +kernel
theorem dX11_isRun_19 : decode cX11_isRun 19 = .ok (.iconst 1, 1) := by decide +kernel
theorem dX11_isRun_20 : decode cX11_isRun 20 = .ok (.goto 4, 3) := by decide +kernel
theorem dX11_isRun_23 : decode cX11_isRun 23 = .ok (.iconst 0, 1) := by decide +kernel
theorem dX11_isRun_24 : decode cX11_isRun 24 = .ok (.ireturn, 1) := by decide +kernel
theorem dX11_does_0 : decode cX11_does 0 = .ok (.aload_n 0, 1) := by decide +kernel
theorem dX11_does_1 : decode cX11_does 1 = .ok (.getfield 35, 3) := by decide +kernel
theorem dX11_does_4 : decode cX11_does 4 = .ok (.iload_n 1, 1) := by decide +kernel
theorem dX11_does_5 : decode cX11_does 5 = .ok (.iaload, 1) := by decide +kernel
theorem dX11_does_6 : decode cX11_does 6 = .ok (.istore_n 2, 1) := by decide +kernel
theorem dX11_does_7 : decode cX11_does 7 = .ok (.iload_n 2, 1) := by decide +kernel
theorem dX11_does_8 : decode cX11_does 8 = .ok (.ifCond .ne 16, 3) := by decide +kernel
theorem dX11_does_11 : decode cX11_does 11 = .ok (.aload_n 0, 1) := by decide +kernel
theorem dX11_does_12 : decode cX11_does 12 = .ok (.aload_n 0, 1) := by decide +kernel
theorem dX11_does_13 : decode cX11_does 13 = .ok (.getfield 35, 3) := by decide +kernel
theorem dX11_does_16 : decode cX11_does 16 = .ok (.iload_n 1, 1) := by decide +kernel
theorem dX11_does_17 : decode cX11_does 17 = .ok (.iconst 1, 1) := by decide +kernel
theorem dX11_does_18 : decode cX11_does 18 = .ok (.iadd, 1) := by decide +kernel
theorem dX11_does_19 : decode cX11_does 19 = .ok (.iaload, 1) := by decide +kernel
theorem dX11_does_20 : decode cX11_does 20 = .ok (.invokevirtual 494, 3) := by decide +kernel
theorem dX11_does_23 : decode cX11_does 23 = .ok (.ireturn, 1) := by decide +kernel
theorem dX11_does_24 : decode cX11_does 24 = .ok (.iload_n 2, 1) := by decide +kernel
theorem dX11_does_25 : decode cX11_does 25 = .ok (.iconst 1, 1) := by decide +kernel
theorem dX11_does_26 : decode cX11_does 26 = .ok (.if_icmp .ne 24, 3) := by decide +kernel
theorem dX11_does_29 : decode cX11_does 29 = .ok (.aload_n 0, 1) := by decide +kernel
theorem dX11_does_30 : decode cX11_does 30 = .ok (.aload_n 0, 1) := by decide +kernel
theorem dX11_does_31 : decode cX11_does 31 = .ok (.getfield 35, 3) := by decide +kernel
theorem dX11_does_34 : decode cX11_does 34 = .ok (.iload_n 1, 1) := by decide +kernel
theorem dX11_does_35 : decode cX11_does 35 = .ok (.iconst 1, 1) := by decide +kernel
theorem dX11_does_36 : decode cX11_does 36 = .ok (.iadd, 1) := by decide +kernel
theorem dX11_does_37 : decode cX11_does 37 = .ok (.iaload, 1) := by decide +kernel
theorem dX11_does_38 : decode cX11_does 38 = .ok (.aload_n 0, 1) := by decide +kernel
theorem dX11_does_39 : decode cX11_does 39 = .ok (.getfield 35, 3) := by decide +kernel
theorem dX11_does_42 : decode cX11_does 42 = .ok (.iload_n 1, 1) := by decide +kernel
theorem dX11_does_43 : decode cX11_does 43 = .ok (.iconst 2, 1) := by decide +kernel
theorem dX11_does_44 : decode cX11_does 44 = .ok (.iadd, 1) := by decide +kernel
theorem dX11_does_45 : decode cX11_does 45 = .ok (.iaload, 1) := by decide +kernel
theorem dX11_does_46 : decode cX11_does 46 = .ok (.invokevirtual 491, 3) := by decide +kernel
theorem dX11_does_49 : decode cX11_does 49 = .ok (.ireturn, 1) := by decide +kernel
theorem dX11_does_50 : decode cX11_does 50 = .ok (.iload_n 2, 1) := by decide +kernel
theorem dX11_does_51 : decode cX11_does 51 = .ok (.iconst 2, 1) := by decide +kernel
theorem dX11_does_52 : decode cX11_does 52 = .ok (.if_icmp .ne 10, 3) := by decide +kernel
theorem dX11_does_55 : decode cX11_does 55 = .ok (.aload_n 0, 1) := by decide +kernel
theorem dX11_does_56 : decode cX11_does 56 = .ok (.invokevirtual 368, 3) := by decide +kernel
theorem dX11_does_59 : decode cX11_does 59 = .ok (.goto 19, 3) := by decide +kernel
theorem dX11_does_62 : decode cX11_does 62 = .ok (.iload_n 2, 1) := by decide +kernel
theorem dX11_does_63 : decode cX11_does 63 = .ok (.iconst 3, 1) := by decide +kernel
theorem dX11_does_64 : decode cX11_does 64 = .ok (.if_icmp .ne 10, 3) := by decide +kernel
theorem dX11_does_67 : decode cX11_does 67 = .ok (.aload_n 0, 1) := by decide +kernel
theorem dX11_does_68 : decode cX11_does 68 = .ok (.invokevirtual 497, 3) := by decide +kernel
theorem dX11_does_71 : decode cX11_does 71 = .ok (.goto 7, 3) := by decide +kernel
theorem dX11_does_74 : decode cX11_does 74 = .ok (.aload_n 0, 1) := by decide +kernel
theorem dX11_does_75 : decode cX11_does 75 = .ok (.invokevirtual 500, 3) := by decide +kernel
theorem dX11_does_78 : decode cX11_does 78 = .ok (.ireturn, 1) := by decide +kernel
theorem dX11_isSo_0 : decode cX11_isSo 0 = .ok (.aload_n 0, 1) := by decide +kernel
theorem dX11_isSo_1 : decode cX11_isSo 1 = .ok (.getfield 35, 3) := by decide +kernel
theorem dX11_isSo_4 : decode cX11_isSo 4 = .ok (.iload_n 1, 1) := by decide +kernel
theorem dX11_isSo_5 : decode cX11_isSo 5 = .ok (.bipush 6, 2) := by decide +kernel
theorem dX11_isSo_7 : decode cX11_isSo 7 = .ok (.iadd, 1) := by decide +kernel
theorem dX11_isSo_8 : decode cX11_isSo 8 = .ok (.iaload, 1) := by decide +kernel
theorem dX11_isSo_9 : decode cX11_isSo 9 = .ok (.istore_n 2, 1) := by decide +kernel
theorem dX11_isSo_10 : decode cX11_isSo 10 = .ok (.iload_n 2, 1) := by decide +kernel
theorem dX11_isSo_11 : decode cX11_isSo 11 = .ok (.iconst 2, 1) := by decide +kernel
theorem dX11_isSo_12 : decode cX11_isSo 12 = .ok (.if_icmp .ne 17, 3) := by decide +kernel
theorem dX11_isSo_15 : decode cX11_isSo 15 = .ok (.aload_n 0, 1) := by decide +kernel
theorem dX11_isSo_16 : decode cX11_isSo 16 = .ok (.iconst (-1), 1) := by decide +kernel
theorem dX11_isSo_17 : decode cX11_isSo 17 = .ok (.invokevirtual 396, 3) := by decide +kernel
theorem dX11_isSo_20 : decode cX11_isSo 20 = .ok (.ifCond .ne 7, 3) := by decide +kernel
theorem dX11_isSo_23 : decode cX11_isSo 23 = .ok (.iconst 1, 1) := by decide +kernel
theorem dX11_isSo_24 : decode cX11_isSo 24 = .ok (.goto 4, 3) := by decide +kernel
theorem dX11_isSo_27 : decode cX11_isSo 27 = .ok (.iconst 0, 1) := by decide +kernel
theorem dX11_isSo_28 : decode cX11_isSo 28 = .ok (.ireturn, 1) := by decide +kernel
theorem dX11_isSo_29 : decode cX11_isSo 29 = .ok (.iload_n 2, 1) := by decide +kernel
theorem dX11_isSo_30 : decode cX11_isSo 30 = .ok (.ifCond .ne 22, 3) := by decide +kernel
theorem dX11_isSo_33 : decode cX11_isSo 33 = .ok (.aload_n 0, 1) := by decide +kernel
theorem dX11_isSo_34 : decode cX11_isSo 34 = .ok (.getfield 35, 3) := by decide +kernel
theorem dX11_isSo_37 : decode cX11_isSo 37 = .ok (.bipush 10, 2) := by decide +kernel
theorem dX11_isSo_39 : decode cX11_isSo 39 = .ok (.aload_n 0, 1) := by decide +kernel
theorem dX11_isSo_40 : decode cX11_isSo 40 = .ok (.getfield 35, 3) := by decide +kernel
theorem dX11_isSo_43 : decode cX11_isSo 43 = .ok (.iload_n 1, 1) := by decide +kernel
theorem dX11_isSo_44 : decode cX11_isSo 44 = .ok (.iconst 1, 1) := by decide +kernel
theorem dX11_isSo_45 : decode cX11_isSo 45 = .ok (.iadd, 1) := by decide +kernel
theorem dX11_isSo_46 : decode cX11_isSo 46 = .ok (.iaload, 1) := by decide +kernel
theorem dX11_isSo_47 : decode cX11_isSo 47 = .ok (.iadd, 1) := by decide +kernel
theorem dX11_isSo_48 : decode cX11_isSo 48 = .ok (.iaload, 1) := by decide +kernel
theorem dX11_isSo_49 : decode cX11_isSo 49 = .ok (.goto 20, 3) := by decide +kernel
theorem dX11_isSo_52 : decode cX11_isSo 52 = .ok (.aload_n 0, 1) := by decide +kernel
theorem dX11_isSo_53 : decode cX11_isSo 53 = .ok (.getfield 35, 3) := by decide +kernel
theorem dX11_isSo_56 : decode cX11_isSo 56 = .ok (.sipush 152, 3) := by decide +kernel
theorem dX11_isSo_59 : decode cX11_isSo 59 = .ok (.aload_n 0, 1) := by decide +kernel
theorem dX11_isSo_60 : decode cX11_isSo 60 = .ok (.getfield 35, 3) := by decide +kernel
theorem dX11_isSo_63 : decode cX11_isSo 63 = .ok (.iload_n 1, 1) := by decide +kernel
theorem dX11_isSo_64 : decode cX11_isSo 64 = .ok (.iconst 1, 1) := by decide +kernel
theorem dX11_isSo_65 : decode cX11_isSo 65 = .ok (.iadd, 1) := by decide +kernel
theorem dX11_isSo_66 : decode cX11_isSo 66 = .ok (.iaload, 1) := by decide +kernel
theorem dX11_isSo_67 : decode cX11_isSo 67 = .ok (.iadd, 1) := by decide +kernel
theorem dX11_isSo_68 : decode cX11_isSo 68 = .ok (.iaload, 1) := by decide +kernel
theorem dX11_isSo_69 : decode cX11_isSo 69 = .ok (.istore_n 3, 1) := by decide +kernel
theorem dX11_isSo_70 : decode cX11_isSo 70 = .ok (.aload_n 0, 1) := by decide +kernel
theorem dX11_isSo_71 : decode cX11_isSo 71 = .ok (.getfield 35, 3) := by decide +kernel
theorem dX11_isSo_74 : decode cX11_isSo 74 = .ok (.iload_n 1, 1) := by decide +kernel
theorem dX11_isSo_75 : decode cX11_isSo 75 = .ok (.bipush 7, 2) := by decide +kernel
theorem dX11_isSo_77 : decode cX11_isSo 77 = .ok (.iadd, 1) := by decide +kernel
theorem dX11_isSo_78 : decode cX11_isSo 78 = .ok (.iaload, 1) := by decide +kernel
theorem dX11_isSo_79 : decode cX11_isSo 79 = .ok (.bipush 60, 2) := by decide +kernel
theorem dX11_isSo_81 : decode cX11_isSo 81 = .ok (.if_icmp .ne 23, 3) := by decide +kernel
theorem dX11_isSo_84 : decode cX11_isSo 84 = .ok (.iload_n 3, 1) := by decide +kernel
theorem dX11_isSo_85 : decode cX11_isSo 85 = .ok (.aload_n 0, 1) := by decide +kernel
theorem dX11_isSo_86 : decode cX11_isSo 86 = .ok (.getfield 35, 3) := by decide +kernel
theorem dX11_isSo_89 : decode cX11_isSo 89 = .ok (.iload_n 1, 1) := by decide +kernel
theorem dX11_isSo_90 : decode cX11_isSo 90 = .ok (.iconst 2, 1) := by decide +kernel
theorem dX11_isSo_91 : decode cX11_isSo 91 = .ok (.iadd, 1) := by decide +kernel
theorem dX11_isSo_92 : decode cX11_isSo 92 = .ok (.iaload, 1) := by decide +kernel
theorem dX11_isSo_93 : decode cX11_isSo 93 = .ok (.if_icmp .ge 7, 3) := by decide +kernel
theorem dX11_isSo_96 : decode cX11_isSo 96 = .ok (.iconst 1, 1) := by decide +kernel
theorem dX11_isSo_97 : decode cX11_isSo 97 = .ok (.goto 58, 3) := by decide +kernel
theorem dX11_isSo_100 : decode cX11_isSo 100 = .ok (.iconst 0, 1) := by decide +kernel
theorem dX11_isSo_101 : decode cX11_isSo 101 = .ok (.goto 54, 3) := by decide +kernel
theorem dX11_isSo_104 : decode cX11_isSo 104 = .ok (.aload_n 0, 1) := by decide +kernel
theorem dX11_isSo_105 : decode cX11_isSo 105 = .ok (.getfield 35, 3) := by decide +kernel
theorem dX11_isSo_108 : decode cX11_isSo 108 = .ok (.iload_n 1, 1) := by decide +kernel
theorem dX11_isSo_109 : decode cX11_isSo 109 = .ok (.bipush 7, 2) := by decide +kernel
theorem dX11_isSo_111 : decode cX11_isSo 111 = .ok (.iadd, 1) := by decide +kernel
theorem dX11_isSo_112 : decode cX11_isSo 112 = .ok (.iaload, 1) := by decide +kernel
theorem dX11_isSo_113 : decode cX11_isSo 113 = .ok (.bipush 62, 2) := by decide +kernel
theorem dX11_isSo_115 : decode cX11_isSo 115 = .ok (.if_icmp .ne 23, 3) := by decide +kernel
theorem dX11_isSo_118 : decode cX11_isSo 118 = .ok (.iload_n 3, 1) := by decide +kernel
theorem dX11_isSo_119 : decode cX11_isSo 119 = .ok (.aload_n 0, 1) := by decide +kernel
theorem dX11_isSo_120 : decode cX11_isSo 120 = .ok (.getfield 35, 3) := by decide +kernel
theorem dX11_isSo_123 : decode cX11_isSo 123 = .ok (.iload_n 1, 1) := by decide +kernel
theorem dX11_isSo_124 : decode cX11_isSo 124 = .ok (.iconst 2, 1) := by decide +kernel
theorem dX11_isSo_125 : decode cX11_isSo 125 = .ok (.iadd, 1) := by decide +kernel
theorem dX11_isSo_126 : decode cX11_isSo 126 = .ok (.iaload, 1) := by decide +kernel
theorem dX11_isSo_127 : decode cX11_isSo 127 = .ok (.if_icmp .le 7, 3) := by decide +kernel
theorem dX11_isSo_130 : decode cX11_isSo 130 = .ok (.iconst 1, 1) := by decide +kernel
theorem dX11_isSo_131 : decode cX11_isSo 131 = .ok (.goto 24, 3) := by decide +kernel
theorem dX11_isSo_134 : decode cX11_isSo 134 = .ok (.iconst 0, 1) := by decide +kernel
theorem dX11_isSo_135 : decode cX11_isSo 135 = .ok (.goto 20, 3) := by decide +kernel
theorem dX11_isSo_138 : decode cX11_isSo 138 = .ok (.iload_n 3, 1) := by decide +kernel
theorem dX11_isSo_139 : decode cX11_isSo 139 = .ok (.aload_n 0, 1) := by decide +kernel
theorem dX11_isSo_140 : decode cX11_isSo 140 = .ok (.getfield 35, 3) := by decide +kernel
theorem dX11_isSo_143 : decode cX11_isSo 143 = .ok (.iload_n 1, 1) := by decide +kernel
theorem dX11_isSo_144 : decode cX11_isSo 144 = .ok (.iconst 2, 1) := by decide +kernel
theorem dX11_isSo_145 : decode cX11_isSo 145 = .ok (.iadd, 1) := by decide +kernel
theorem dX11_isSo_146 : decode cX11_isSo 146 = .ok (.iaload, 1) := by decide +kernel
theorem dX11_isSo_147 : decode cX11_isSo 147 = .ok (.if_icmp .ne 7, 3) := by decide +kernel
theorem dX11_isSo_150 : decode cX11_isSo 150 = .ok (.iconst 1, 1) := by decide +kernel
theorem dX11_isSo_151 : decode cX11_isSo 151 = .ok (.goto 4, 3) := by decide +kernel
theorem dX11_isSo_154 : decode cX11_isSo 154 = .ok (.iconst 0, 1) := by decide +kernel
theorem dX11_isSo_155 : decode cX11_isSo 155 = .ok (.ireturn, 1) := by decide +kernel
theorem dX11_doOne_0 : decode cX11_doOne 0 = .ok (.aload_n 0, 1) := by decide +kernel
theorem dX11_doOne_1 : decode cX11_doOne 1 = .ok (.getfield 503, 3) := by decide +kernel
theorem dX11_doOne_4 : decode cX11_doOne 4 = .ok (.sipush 300, 3) := by decide +kernel
theorem dX11_doOne_7 : decode cX11_doOne 7 = .ok (.if_icmp .ne 14, 3) := by decide +kernel
theorem dX11_doOne_10 : decode cX11_doOne 10 = .ok (.aload_n 0, 1) := by decide +kernel
theorem dX11_doOne_11 : decode cX11_doOne 11 = .ok (.iconst 1, 1) := by decide +kernel
theorem dX11_doOne_12 : decode cX11_doOne 12 = .ok (.putfield 506, 3) := by decide +kernel
theorem dX11_doOne_15 : decode cX11_doOne 15 = .ok (.aload_n 0, 1) := by decide +kernel
theorem dX11_doOne_16 : decode cX11_doOne 16 = .ok (.iconst 1, 1) := by decide +kernel
theorem dX11_doOne_17 : decode cX11_doOne 17 = .ok (.putfield 509, 3) := by decide +kernel
theorem dX11_doOne_20 : decode cX11_doOne 20 = .ok (.return_, 1) := by decide +kernel
theorem dX11_doOne_21 : decode cX11_doOne 21 = .ok (.aload_n 0, 1) := by decide +kernel
theorem dX11_doOne_22 : decode cX11_doOne 22 = .ok (.dup, 1) := by decide +kernel
theorem dX11_doOne_23 : decode cX11_doOne 23 = .ok (.getfield 503, 3) := by decide +kernel
theorem dX11_doOne_26 : decode cX11_doOne 26 = .ok (.iconst 1, 1) := by decide +kernel
theorem dX11_doOne_27 : decode cX11_doOne 27 = .ok (.iadd, 1) := by decide +kernel
theorem dX11_doOne_28 : decode cX11_doOne 28 = .ok (.putfield 503, 3) := by decide +kernel
theorem dX11_doOne_31 : decode cX11_doOne 31 = .ok (.sipush 172, 3) := by decide +kernel
theorem dX11_doOne_34 : decode cX11_doOne 34 = .ok (.bipush 9, 2) := by decide +kernel
theorem dX11_doOne_36 : decode cX11_doOne 36 = .ok (.iload_n 1, 1) := by decide +kernel
theorem dX11_doOne_37 : decode cX11_doOne 37 = .ok (.imul, 1) := by decide +kernel
theorem dX11_doOne_38 : decode cX11_doOne 38 = .ok (.iadd, 1) := by decide +kernel
theorem dX11_doOne_39 : decode cX11_doOne 39 = .ok (.istore_n 2, 1) := by decide +kernel
theorem dX11_doOne_40 : decode cX11_doOne 40 = .ok (.aload_n 0, 1) := by decide +kernel
theorem dX11_doOne_41 : decode cX11_doOne 41 = .ok (.getfield 35, 3) := by decide +kernel
theorem dX11_doOne_44 : decode cX11_doOne 44 = .ok (.iload_n 2, 1) := by decide +kernel
theorem dX11_doOne_45 : decode cX11_doOne 45 = .ok (.iaload, 1) := by decide +kernel
theorem dX11_doOne_46 : decode cX11_doOne 46 = .ok (.istore_n 3, 1) := by decide +kernel
theorem dX11_doOne_47 : decode cX11_doOne 47 = .ok (.iload_n 3, 1) := by decide +kernel
theorem dX11_doOne_48 : decode cX11_doOne 48 = .ok (.iconst 5, 1) := by decide +kernel
theorem dX11_doOne_49 : decode cX11_doOne 49 = .ok (.if_icmp .ge 28, 3) := by decide +kernel
theorem dX11_doOne_52 : decode cX11_doOne 52 = .ok (.aload_n 0, 1) := by decide +kernel
theorem dX11_doOne_53 : decode cX11_doOne 53 = .ok (.dup, 1) := by decide +kernel
theorem dX11_doOne_54 : decode cX11_doOne 54 = .ok (.getfield 512, 3) := by decide +kernel
theorem dX11_doOne_57 : decode cX11_doOne 57 = .ok (.aload_n 0, 1) := by decide +kernel
theorem dX11_doOne_58 : decode cX11_doOne 58 = .ok (.iload_n 2, 1) := by decide +kernel
theorem dX11_doOne_59 : decode cX11_doOne 59 = .ok (.invokevirtual 515, 3) := by decide +kernel
theorem dX11_doOne_62 : decode cX11_doOne 62 = .ok (.ifCond .eq 7, 3) := by decide +kernel
theorem dX11_doOne_65 : decode cX11_doOne 65 = .ok (.iconst 0, 1) := by decide +kernel
theorem dX11_doOne_66 : decode cX11_doOne 66 = .ok (.goto 4, 3) := by decide +kernel
theorem dX11_doOne_69 : decode cX11_doOne 69 = .ok (.iconst 1, 1) := by decide +kernel
theorem dX11_doOne_70 : decode cX11_doOne 70 = .ok (.iadd, 1) := by decide +kernel
theorem dX11_doOne_71 : decode cX11_doOne 71 = .ok (.putfield 512, 3) := by decide +kernel
theorem dX11_doOne_74 : decode cX11_doOne 74 = .ok (.goto 100, 3) := by decide +kernel
theorem dX11_doOne_77 : decode cX11_doOne 77 = .ok (.iload_n 3, 1) := by decide +kernel
theorem dX11_doOne_78 : decode cX11_doOne 78 = .ok (.iconst 5, 1) := by decide +kernel
theorem dX11_doOne_79 : decode cX11_doOne 79 = .ok (.if_icmp .ne 30, 3) := by decide +kernel
theorem dX11_doOne_82 : decode cX11_doOne 82 = .ok (.aload_n 0, 1) := by decide +kernel
theorem dX11_doOne_83 : decode cX11_doOne 83 = .ok (.iload_n 2, 1) := by decide +kernel
theorem dX11_doOne_84 : decode cX11_doOne 84 = .ok (.invokevirtual 518, 3) := by decide +kernel
theorem dX11_doOne_87 : decode cX11_doOne 87 = .ok (.ifCond .eq 22, 3) := by decide +kernel
theorem dX11_doOne_90 : decode cX11_doOne 90 = .ok (.aload_n 0, 1) := by decide +kernel
theorem dX11_doOne_91 : decode cX11_doOne 91 = .ok (.iload_n 1, 1) := by decide +kernel
theorem dX11_doOne_92 : decode cX11_doOne 92 = .ok (.iconst 1, 1) := by decide +kernel
theorem dX11_doOne_93 : decode cX11_doOne 93 = .ok (.iadd, 1) := by decide +kernel
theorem dX11_doOne_94 : decode cX11_doOne 94 = .ok (.aload_n 0, 1) := by decide +kernel
theorem dX11_doOne_95 : decode cX11_doOne 95 = .ok (.getfield 35, 3) := by decide +kernel
theorem dX11_doOne_98 : decode cX11_doOne 98 = .ok (.iload_n 2, 1) := by decide +kernel
theorem dX11_doOne_99 : decode cX11_doOne 99 = .ok (.bipush 8, 2) := by decide +kernel
theorem dX11_doOne_101 : decode cX11_doOne 101 = .ok (.iadd, 1) := by decide +kernel
theorem dX11_doOne_102 : decode cX11_doOne 102 = .ok (.iaload, 1) := by decide +kernel
theorem dX11_doOne_103 : decode cX11_doOne 103 = .ok (.invokevirtual 521, 3) := by decide +kernel
theorem dX11_doOne_106 : decode cX11_doOne 106 = .ok (.goto 68, 3) := by decide +kernel
theorem dX11_doOne_109 : decode cX11_doOne 109 = .ok (.iload_n 3, 1) := by decide +kernel
theorem dX11_doOne_110 : decode cX11_doOne 110 = .ok (.bipush 6, 2) := by decide +kernel
theorem dX11_doOne_112 : decode cX11_doOne 112 = .ok (.if_icmp .ne 51, 3) := by decide +kernel
theorem dX11_doOne_115 : decode cX11_doOne 115 = .ok (.iconst 0, 1) := by decide +kernel
theorem dX11_doOne_116 : decode cX11_doOne 116 = .ok (.istore 4, 2) := by decide +kernel
theorem dX11_doOne_118 : decode cX11_doOne 118 = .ok (.iload 4, 2) := by decide +kernel
theorem dX11_doOne_120 : decode cX11_doOne 120 = .ok (.aload_n 0, 1) := by decide +kernel
theorem dX11_doOne_121 : decode cX11_doOne 121 = .ok (.getfield 35, 3) := by decide +kernel
theorem dX11_doOne_124 : decode cX11_doOne 124 = .ok (.iload_n 2, 1) := by decide +kernel
theorem dX11_doOne_125 : decode cX11_doOne 125 = .ok (.iconst 1, 1) := by decide +kernel
theorem dX11_doOne_126 : decode cX11_doOne 126 = .ok (.iadd, 1) := by decide +kernel
theorem dX11_doOne_127 : decode cX11_doOne 127 = .ok (.iaload, 1) := by decide +kernel
theorem dX11_doOne_128 : decode cX11_doOne 128 = .ok (.if_icmp .ge 32, 3) := by decide +kernel
theorem dX11_doOne_131 : decode cX11_doOne 131 = .ok (.aload_n 0, 1) := by decide +kernel
theorem dX11_doOne_132 : decode cX11_doOne 132 = .ok (.getfield 506, 3) := by decide +kernel
theorem dX11_doOne_135 : decode cX11_doOne 135 = .ok (.ifCond .ne 25, 3) := by decide +kernel
theorem dX11_doOne_138 : decode cX11_doOne 138 = .ok (.aload_n 0, 1) := by decide +kernel
theorem dX11_doOne_139 : decode cX11_doOne 139 = .ok (.iload_n 1, 1) := by decide +kernel
theorem dX11_doOne_140 : decode cX11_doOne 140 = .ok (.iconst 1, 1) := by decide +kernel
theorem dX11_doOne_141 : decode cX11_doOne 141 = .ok (.iadd, 1) := by decide +kernel
theorem dX11_doOne_142 : decode cX11_doOne 142 = .ok (.aload_n 0, 1) := by decide +kernel
theorem dX11_doOne_143 : decode cX11_doOne 143 = .ok (.getfield 35, 3) := by decide +kernel
theorem dX11_doOne_146 : decode cX11_doOne 146 = .ok (.iload_n 2, 1) := by decide +kernel
theorem dX11_doOne_147 : decode cX11_doOne 147 = .ok (.bipush 8, 2) := by decide +kernel
theorem dX11_doOne_149 : decode cX11_doOne 149 = .ok (.iadd, 1) := by decide +kernel
theorem dX11_doOne_150 : decode cX11_doOne 150 = .ok (.iaload, 1) := by decide +kernel
theorem dX11_doOne_151 : decode cX11_doOne 151 = .ok (.invokevirtual 521, 3) := by decide +kernel
theorem dX11_doOne_154 : decode cX11_doOne 154 = .ok (.iinc 4 1, 3) := by decide +kernel
theorem dX11_doOne_157 : decode cX11_doOne 157 = .ok (.goto (-39), 3) := by decide +kernel
theorem dX11_doOne_160 : decode cX11_doOne 160 = .ok (.goto 14, 3) := by decide +kernel
theorem dX11_doOne_163 : decode cX11_doOne 163 = .ok (.iload_n 3, 1) := by decide +kernel
theorem dX11_doOne_164 : decode cX11_doOne 164 = .ok (.bipush 6, 2) := by decide +kernel
theorem dX11_doOne_166 : decode cX11_doOne 166 = .ok (.if_icmp .le 8, 3) := by decide +kernel
theorem dX11_doOne_169 : decode cX11_doOne 169 = .ok (.aload_n 0, 1) := by decide +kernel
theorem dX11_doOne_170 : decode cX11_doOne 170 = .ok (.iconst 1, 1) := by decide +kernel
theorem dX11_doOne_171 : decode cX11_doOne 171 = .ok (.putfield 506, 3) := by decide +kernel
theorem dX11_doOne_174 : decode cX11_doOne 174 = .ok (.return_, 1) := by decide +kernel
theorem dX11_doAll_0 : decode cX11_doAll 0 = .ok (.iload_n 1, 1) := by decide +kernel
theorem dX11_doAll_1 : decode cX11_doAll 1 = .ok (.istore_n 3, 1) := by decide +kernel
theorem dX11_doAll_2 : decode cX11_doAll 2 = .ok (.iload_n 3, 1) := by decide +kernel
theorem dX11_doAll_3 : decode cX11_doAll 3 = .ok (.iload_n 2, 1) := by decide +kernel
theorem dX11_doAll_4 : decode cX11_doAll 4 = .ok (.if_icmp .ge 35, 3) := by decide +kernel
theorem dX11_doAll_7 : decode cX11_doAll 7 = .ok (.aload_n 0, 1) := by decide +kernel
theorem dX11_doAll_8 : decode cX11_doAll 8 = .ok (.getfield 506, 3) := by decide +kernel
theorem dX11_doAll_11 : decode cX11_doAll 11 = .ok (.ifCond .ne 28, 3) := by decide +kernel
theorem dX11_doAll_14 : decode cX11_doAll 14 = .ok (.aload_n 0, 1) := by decide +kernel
theorem dX11_doAll_15 : decode cX11_doAll 15 = .ok (.iload_n 3, 1) := by decide +kernel
theorem dX11_doAll_16 : decode cX11_doAll 16 = .ok (.invokevirtual 524, 3) := by decide +kernel
theorem dX11_doAll_19 : decode cX11_doAll 19 = .ok (.aload_n 0, 1) := by decide +kernel
theorem dX11_doAll_20 : decode cX11_doAll 20 = .ok (.getfield 35, 3) := by decide +kernel
theorem dX11_doAll_23 : decode cX11_doAll 23 = .ok (.sipush 172, 3) := by decide +kernel
theorem dX11_doAll_26 : decode cX11_doAll 26 = .ok (.bipush 9, 2) := by decide +kernel
theorem dX11_doAll_28 : decode cX11_doAll 28 = .ok (.iload_n 3, 1) := by decide +kernel
theorem dX11_doAll_29 : decode cX11_doAll 29 = .ok (.imul, 1) := by decide +kernel
theorem dX11_doAll_30 : decode cX11_doAll 30 = .ok (.iadd, 1) := by decide +kernel
theorem dX11_doAll_31 : decode cX11_doAll 31 = .ok (.bipush 8, 2) := by decide +kernel
theorem dX11_doAll_33 : decode cX11_doAll 33 = .ok (.iadd, 1) := by decide +kernel
theorem dX11_doAll_34 : decode cX11_doAll 34 = .ok (.iaload, 1) := by decide +kernel
theorem dX11_doAll_35 : decode cX11_doAll 35 = .ok (.istore_n 3, 1) := by decide +kernel
theorem dX11_doAll_36 : decode cX11_doAll 36 = .ok (.goto (-34), 3) := by decide +kernel
theorem dX11_doAll_39 : decode cX11_doAll 39 = .ok (.return_, 1) := by decide +kernel
theorem dX11_runsSeasons_0 : decode cX11_runsSeasons 0 = .ok (.aload_n 0, 1) := by decide +kernel
theorem dX11_runsSeasons_1 : decode cX11_runsSeasons 1 = .ok (.iload_n 1, 1) := by decide +kernel
theorem dX11_runsSeasons_2 : decode cX11_runsSeasons 2 = .ok (.putfield 476, 3) := by decide +kernel
theorem dX11_runsSeasons_5 : decode cX11_runsSeasons 5 = .ok (.aload_n 0, 1) := by decide +kernel
theorem dX11_runsSeasons_6 : decode cX11_runsSeasons 6 = .ok (.iconst 0, 1) := by decide +kernel
theorem dX11_runsSeasons_7 : decode cX11_runsSeasons 7 = .ok (.putfield 503, 3) := by decide +kernel
theorem dX11_runsSeasons_10 : decode cX11_runsSeasons 10 = .ok (.aload_n 0, 1) := by decide +kernel
theorem dX11_runsSeasons_11 : decode cX11_runsSeasons 11 = .ok (.iconst 0, 1) := by decide +kernel
theorem dX11_runsSeasons_12 : decode cX11_runsSeasons 12 = .ok (.putfield 512, 3) := by decide +kernel
theorem dX11_runsSeasons_15 : decode cX11_runsSeasons 15 = .ok (.aload_n 0, 1) := by decide +kernel
theorem dX11_runsSeasons_16 : decode cX11_runsSeasons 16 = .ok (.iconst 0, 1) := by decide +kernel
theorem dX11_runsSeasons_17 : decode cX11_runsSeasons 17 = .ok (.putfield 479, 3) := by decide +kernel
theorem dX11_runsSeasons_20 : decode cX11_runsSeasons 20 = .ok (.aload_n 0, 1) := by decide +kernel
theorem dX11_runsSeasons_21 : decode cX11_runsSeasons 21 = .ok (.iconst 0, 1) := by decide +kernel
theorem dX11_runsSeasons_22 : decode cX11_runsSeasons 22 = .ok (.putfield 482, 3) := by decide +kernel
theorem dX11_runsSeasons_25 : decode cX11_runsSeasons 25 = .ok (.aload_n 0, 1) := by decide +kernel
theorem dX11_runsSeasons_26 : decode cX11_runsSeasons 26 = .ok (.iconst 0, 1) := by decide +kernel
theorem dX11_runsSeasons_27 : decode cX11_runsSeasons 27 = .ok (.putfield 485, 3) := by decide +kernel
theorem dX11_runsSeasons_30 : decode cX11_runsSeasons 30 = .ok (.aload_n 0, 1) := by decide +kernel
theorem dX11_runsSeasons_31 : decode cX11_runsSeasons 31 = .ok (.iconst 0, 1) := by decide +kernel
theorem dX11_runsSeasons_32 : decode cX11_runsSeasons 32 = .ok (.putfield 509, 3) := by decide +kernel
theorem dX11_runsSeasons_35 : decode cX11_runsSeasons 35 = .ok (.aload_n 0, 1) := by decide +kernel
theorem dX11_runsSeasons_36 : decode cX11_runsSeasons 36 = .ok (.iconst 0, 1) := by decide +kernel
theorem dX11_runsSeasons_37 : decode cX11_runsSeasons 37 = .ok (.putfield 506, 3) := by decide +kernel
theorem dX11_runsSeasons_40 : decode cX11_runsSeasons 40 = .ok (.aload_n 0, 1) := by decide +kernel
theorem dX11_runsSeasons_41 : decode cX11_runsSeasons 41 = .ok (.iconst 0, 1) := by decide +kernel
theorem dX11_runsSeasons_42 : decode cX11_runsSeasons 42 = .ok (.aload_n 0, 1) := by decide +kernel
theorem dX11_runsSeasons_43 : decode cX11_runsSeasons 43 = .ok (.getfield 35, 3) := by decide +kernel
theorem dX11_runsSeasons_46 : decode cX11_runsSeasons 46 = .ok (.sipush 171, 3) := by decide +kernel
theorem dX11_runsSeasons_49 : decode cX11_runsSeasons 49 = .ok (.iaload, 1) := by decide +kernel
theorem dX11_runsSeasons_50 : decode cX11_runsSeasons 50 = .ok (.invokevirtual 521, 3) := by decide +kernel
theorem dX11_runsSeasons_53 : decode cX11_runsSeasons 53 = .ok (.return_, 1) := by decide +kernel
theorem dX11_live_0 : decode cX11_live 0 = .ok (.aload_n 0, 1) := by decide +kernel
theorem dX11_live_1 : decode cX11_live 1 = .ok (.iconst 0, 1) := by decide +kernel
theorem dX11_live_2 : decode cX11_live 2 = .ok (.putfield 59, 3) := by decide +kernel
theorem dX11_live_5 : decode cX11_live 5 = .ok (.aload_n 0, 1) := by decide +kernel
theorem dX11_live_6 : decode cX11_live 6 = .ok (.iconst 0, 1) := by decide +kernel
theorem dX11_live_7 : decode cX11_live 7 = .ok (.putfield 62, 3) := by decide +kernel
theorem dX11_live_10 : decode cX11_live 10 = .ok (.iload_n 1, 1) := by decide +kernel
theorem dX11_live_11 : decode cX11_live 11 = .ok (.i2l, 1) := by decide +kernel
theorem dX11_live_12 : decode cX11_live 12 = .ok (.lconst 0, 1) := by decide +kernel
theorem dX11_live_13 : decode cX11_live 13 = .ok (.ldc2_w 391, 3) := by decide +kernel
theorem dX11_live_16 : decode cX11_live 16 = .ok (.invokestatic 94, 3) := by decide +kernel
theorem dX11_live_19 : decode cX11_live 19 = .ok (.ifCond .ne 9, 3) := by decide +kernel
theorem dX11_live_22 : decode cX11_live 22 = .ok (.aload_n 0, 1) := by decide +kernel
theorem dX11_live_23 : decode cX11_live 23 = .ok (.iconst 5, 1) := by decide +kernel
theorem dX11_live_24 : decode cX11_live 24 = .ok (.invokevirtual 312, 3) := by decide +kernel
theorem dX11_live_27 : decode cX11_live 27 = .ok (.ireturn, 1) := by decide +kernel
theorem dX11_live_28 : decode cX11_live 28 = .ok (.aload_n 0, 1) := by decide +kernel
theorem dX11_live_29 : decode cX11_live 29 = .ok (.getfield 35, 3) := by decide +kernel
theorem dX11_live_32 : decode cX11_live 32 = .ok (.sipush 170, 3) := by decide +kernel
theorem dX11_live_35 : decode cX11_live 35 = .ok (.iaload, 1) := by decide +kernel
theorem dX11_live_36 : decode cX11_live 36 = .ok (.ifCond .ne 10, 3) := by decide +kernel
theorem dX11_live_39 : decode cX11_live 39 = .ok (.aload_n 0, 1) := by decide +kernel
theorem dX11_live_40 : decode cX11_live 40 = .ok (.bipush 8, 2) := by decide +kernel
theorem dX11_live_42 : decode cX11_live 42 = .ok (.invokevirtual 312, 3) := by decide +kernel
theorem dX11_live_45 : decode cX11_live 45 = .ok (.ireturn, 1) := by decide +kernel
theorem dX11_live_46 : decode cX11_live 46 = .ok (.aload_n 0, 1) := by decide +kernel
theorem dX11_live_47 : decode cX11_live 47 = .ok (.iload_n 1, 1) := by decide +kernel
theorem dX11_live_48 : decode cX11_live 48 = .ok (.invokevirtual 527, 3) := by decide +kernel
theorem dX11_live_51 : decode cX11_live 51 = .ok (.aload_n 0, 1) := by decide +kernel
theorem dX11_live_52 : decode cX11_live 52 = .ok (.getfield 56, 3) := by decide +kernel
theorem dX11_live_55 : decode cX11_live 55 = .ok (.iconst 0, 1) := by decide +kernel
theorem dX11_live_56 : decode cX11_live 56 = .ok (.aload_n 0, 1) := by decide +kernel
theorem dX11_live_57 : decode cX11_live 57 = .ok (.getfield 512, 3) := by decide +kernel
theorem dX11_live_60 : decode cX11_live 60 = .ok (.iastore, 1) := by decide +kernel
theorem dX11_live_61 : decode cX11_live 61 = .ok (.aload_n 0, 1) := by decide +kernel
theorem dX11_live_62 : decode cX11_live 62 = .ok (.getfield 56, 3) := by decide +kernel
theorem dX11_live_65 : decode cX11_live 65 = .ok (.iconst 1, 1) := by decide +kernel
theorem dX11_live_66 : decode cX11_live 66 = .ok (.aload_n 0, 1) := by decide +kernel
theorem dX11_live_67 : decode cX11_live 67 = .ok (.getfield 479, 3) := by decide +kernel
theorem dX11_live_70 : decode cX11_live 70 = .ok (.iastore, 1) := by decide +kernel
theorem dX11_live_71 : decode cX11_live 71 = .ok (.aload_n 0, 1) := by decide +kernel
theorem dX11_live_72 : decode cX11_live 72 = .ok (.getfield 56, 3) := by decide +kernel
theorem dX11_live_75 : decode cX11_live 75 = .ok (.iconst 2, 1) := by decide +kernel
theorem dX11_live_76 : decode cX11_live 76 = .ok (.aload_n 0, 1) := by decide +kernel
theorem dX11_live_77 : decode cX11_live 77 = .ok (.getfield 482, 3) := by decide +kernel
theorem dX11_live_80 : decode cX11_live 80 = .ok (.iastore, 1) := by decide +kernel
theorem dX11_live_81 : decode cX11_live 81 = .ok (.aload_n 0, 1) := by decide +kernel
theorem dX11_live_82 : decode cX11_live 82 = .ok (.getfield 56, 3) := by decide +kernel
theorem dX11_live_85 : decode cX11_live 85 = .ok (.iconst 3, 1) := by decide +kernel
theorem dX11_live_86 : decode cX11_live 86 = .ok (.aload_n 0, 1) := by decide +kernel
theorem dX11_live_87 : decode cX11_live 87 = .ok (.getfield 485, 3) := by decide +kernel
theorem dX11_live_90 : decode cX11_live 90 = .ok (.iastore, 1) := by decide +kernel
theorem dX11_live_91 : decode cX11_live 91 = .ok (.aload_n 0, 1) := by decide +kernel
theorem dX11_live_92 : decode cX11_live 92 = .ok (.getfield 56, 3) := by decide +kernel
theorem dX11_live_95 : decode cX11_live 95 = .ok (.iconst 4, 1) := by decide +kernel
theorem dX11_live_96 : decode cX11_live 96 = .ok (.aload_n 0, 1) := by decide +kernel
theorem dX11_live_97 : decode cX11_live 97 = .ok (.getfield 509, 3) := by decide +kernel
theorem dX11_live_100 : decode cX11_live 100 = .ok (.iastore, 1) := by decide +kernel
theorem dX11_live_101 : decode cX11_live 101 = .ok (.aload_n 0, 1) := by decide +kernel
theorem dX11_live_102 : decode cX11_live 102 = .ok (.iconst 1, 1) := by decide +kernel
theorem dX11_live_103 : decode cX11_live 103 = .ok (.putfield 530, 3) := by decide +kernel
theorem dX11_live_106 : decode cX11_live 106 = .ok (.aload_n 0, 1) := by decide +kernel
theorem dX11_live_107 : decode cX11_live 107 = .ok (.getfield 503, 3) := by decide +kernel
theorem dX11_live_110 : decode cX11_live 110 = .ok (.ireturn, 1) := by decide +kernel
theorem dX11_lived_0 : decode cX11_lived 0 = .ok (.aload_n 0, 1) := by decide +kernel
theorem dX11_lived_1 : decode cX11_lived 1 = .ok (.iconst 0, 1) := by decide +kernel
theorem dX11_lived_2 : decode cX11_lived 2 = .ok (.putfield 59, 3) := by decide +kernel
theorem dX11_lived_5 : decode cX11_lived 5 = .ok (.aload_n 0, 1) := by decide +kernel
theorem dX11_lived_6 : decode cX11_lived 6 = .ok (.iconst 0, 1) := by decide +kernel
theorem dX11_lived_7 : decode cX11_lived 7 = .ok (.putfield 62, 3) := by decide +kernel
theorem dX11_lived_10 : decode cX11_lived 10 = .ok (.iload_n 1, 1) := by decide +kernel
theorem dX11_lived_11 : decode cX11_lived 11 = .ok (.i2l, 1) := by decide +kernel
theorem dX11_lived_12 : decode cX11_lived 12 = .ok (.lconst 0, 1) := by decide +kernel
theorem dX11_lived_13 : decode cX11_lived 13 = .ok (.ldc2_w 336, 3) := by decide +kernel
theorem dX11_lived_16 : decode cX11_lived 16 = .ok (.invokestatic 94, 3) := by decide +kernel
theorem dX11_lived_19 : decode cX11_lived 19 = .ok (.ifCond .ne 9, 3) := by decide +kernel
theorem dX11_lived_22 : decode cX11_lived 22 = .ok (.aload_n 0, 1) := by decide +kernel
theorem dX11_lived_23 : decode cX11_lived 23 = .ok (.iconst 5, 1) := by decide +kernel
theorem dX11_lived_24 : decode cX11_lived 24 = .ok (.invokevirtual 312, 3) := by decide +kernel
theorem dX11_lived_27 : decode cX11_lived 27 = .ok (.ireturn, 1) := by decide +kernel
theorem dX11_lived_28 : decode cX11_lived 28 = .ok (.aload_n 0, 1) := by decide +kernel
theorem dX11_lived_29 : decode cX11_lived 29 = .ok (.getfield 530, 3) := by decide +kernel
theorem dX11_lived_32 : decode cX11_lived 32 = .ok (.ifCond .eq 12, 3) := by decide +kernel
theorem dX11_lived_35 : decode cX11_lived 35 = .ok (.aload_n 0, 1) := by decide +kernel
theorem dX11_lived_36 : decode cX11_lived 36 = .ok (.getfield 56, 3) := by decide +kernel
theorem dX11_lived_39 : decode cX11_lived 39 = .ok (.iload_n 1, 1) := by decide +kernel
theorem dX11_lived_40 : decode cX11_lived 40 = .ok (.iaload, 1) := by decide +kernel
theorem dX11_lived_41 : decode cX11_lived 41 = .ok (.goto 9, 3) := by decide +kernel
theorem dX11_lived_44 : decode cX11_lived 44 = .ok (.aload_n 0, 1) := by decide +kernel
theorem dX11_lived_45 : decode cX11_lived 45 = .ok (.bipush 8, 2) := by decide +kernel
theorem dX11_lived_47 : decode cX11_lived 47 = .ok (.invokevirtual 312, 3) := by decide +kernel
theorem dX11_lived_50 : decode cX11_lived 50 = .ok (.ireturn, 1) := by decide +kernel
theorem dX11_mean_0 : decode cX11_mean 0 = .ok (.aload_n 0, 1) := by decide +kernel
theorem dX11_mean_1 : decode cX11_mean 1 = .ok (.iconst 0, 1) := by decide +kernel
theorem dX11_mean_2 : decode cX11_mean 2 = .ok (.putfield 59, 3) := by decide +kernel
theorem dX11_mean_5 : decode cX11_mean 5 = .ok (.aload_n 0, 1) := by decide +kernel
theorem dX11_mean_6 : decode cX11_mean 6 = .ok (.iconst 0, 1) := by decide +kernel
theorem dX11_mean_7 : decode cX11_mean 7 = .ok (.putfield 62, 3) := by decide +kernel
theorem dX11_mean_10 : decode cX11_mean 10 = .ok (.iload_n 2, 1) := by decide +kernel
theorem dX11_mean_11 : decode cX11_mean 11 = .ok (.i2l, 1) := by decide +kernel
theorem dX11_mean_12 : decode cX11_mean 12 = .ok (.lconst 1, 1) := by decide +kernel
theorem dX11_mean_13 : decode cX11_mean 13 = .ok (.ldc2_w 533, 3) := by decide +kernel
theorem dX11_mean_16 : decode cX11_mean 16 = .ok (.invokestatic 94, 3) := by decide +kernel
theorem dX11_mean_19 : decode cX11_mean 19 = .ok (.ifCond .eq 18, 3) := by decide +kernel
theorem dX11_mean_22 : decode cX11_mean 22 = .ok (.iload_n 1, 1) := by decide +kernel
theorem dX11_mean_23 : decode cX11_mean 23 = .ok (.i2l, 1) := by decide +kernel
theorem dX11_mean_24 : decode cX11_mean 24 = .ok (.lconst 0, 1) := by decide +kernel
theorem dX11_mean_25 : decode cX11_mean 25 = .ok (.sipush 10000, 3) := by decide +kernel
theorem dX11_mean_28 : decode cX11_mean 28 = .ok (.iload_n 2, 1) := by decide +kernel
theorem dX11_mean_29 : decode cX11_mean 29 = .ok (.isub, 1) := by decide +kernel
theorem dX11_mean_30 : decode cX11_mean 30 = .ok (.i2l, 1) := by decide +kernel
theorem dX11_mean_31 : decode cX11_mean 31 = .ok (.invokestatic 94, 3) := by decide +kernel
theorem dX11_mean_34 : decode cX11_mean 34 = .ok (.ifCond .ne 9, 3) := by decide +kernel
theorem dX11_mean_37 : decode cX11_mean 37 = .ok (.aload_n 0, 1) := by decide +kernel
theorem dX11_mean_38 : decode cX11_mean 38 = .ok (.iconst 5, 1) := by decide +kernel
theorem dX11_mean_39 : decode cX11_mean 39 = .ok (.invokevirtual 74, 3) := by decide +kernel
theorem dX11_mean_42 : decode cX11_mean 42 = .ok (.ireturn, 1) := by decide +kernel
theorem dX11_mean_43 : decode cX11_mean 43 = .ok (.aload_n 0, 1) := by decide +kernel
theorem dX11_mean_44 : decode cX11_mean 44 = .ok (.getfield 35, 3) := by decide +kernel
theorem dX11_mean_47 : decode cX11_mean 47 = .ok (.sipush 170, 3) := by decide +kernel
theorem dX11_mean_50 : decode cX11_mean 50 = .ok (.iaload, 1) := by decide +kernel
theorem dX11_mean_51 : decode cX11_mean 51 = .ok (.ifCond .ne 10, 3) := by decide +kernel
theorem dX11_mean_54 : decode cX11_mean 54 = .ok (.aload_n 0, 1) := by decide +kernel
theorem dX11_mean_55 : decode cX11_mean 55 = .ok (.bipush 8, 2) := by decide +kernel
theorem dX11_mean_57 : decode cX11_mean 57 = .ok (.invokevirtual 74, 3) := by decide +kernel
theorem dX11_mean_60 : decode cX11_mean 60 = .ok (.ireturn, 1) := by decide +kernel
theorem dX11_mean_61 : decode cX11_mean 61 = .ok (.iconst 0, 1) := by decide +kernel
theorem dX11_mean_62 : decode cX11_mean 62 = .ok (.istore_n 3, 1) := by decide +kernel
theorem dX11_mean_63 : decode cX11_mean 63 = .ok (.iload_n 3, 1) := by decide +kernel
theorem dX11_mean_64 : decode cX11_mean 64 = .ok (.sipush 170, 3) := by decide +kernel
theorem dX11_mean_67 : decode cX11_mean 67 = .ok (.if_icmp .ge 21, 3) := by decide +kernel
theorem dX11_mean_70 : decode cX11_mean 70 = .ok (.aload_n 0, 1) := by decide +kernel
theorem dX11_mean_71 : decode cX11_mean 71 = .ok (.getfield 41, 3) := by decide +kernel
theorem dX11_mean_74 : decode cX11_mean 74 = .ok (.iload_n 3, 1) := by decide +kernel
theorem dX11_mean_75 : decode cX11_mean 75 = .ok (.aload_n 0, 1) := by decide +kernel
theorem dX11_mean_76 : decode cX11_mean 76 = .ok (.getfield 35, 3) := by decide +kernel
theorem dX11_mean_79 : decode cX11_mean 79 = .ok (.iload_n 3, 1) := by decide +kernel
theorem dX11_mean_80 : decode cX11_mean 80 = .ok (.iaload, 1) := by decide +kernel
theorem dX11_mean_81 : decode cX11_mean 81 = .ok (.iastore, 1) := by decide +kernel
theorem dX11_mean_82 : decode cX11_mean 82 = .ok (.iinc 3 1, 3) := by decide +kernel
theorem dX11_mean_85 : decode cX11_mean 85 = .ok (.goto (-22), 3) := by decide +kernel
theorem dX11_mean_88 : decode cX11_mean 88 = .ok (.lconst 0, 1) := by decide +kernel
theorem dX11_mean_89 : decode cX11_mean 89 = .ok (.lstore_n 3, 1) := by decide +kernel
theorem dX11_mean_90 : decode cX11_mean 90 = .ok (.iconst 0, 1) := by decide +kernel
theorem dX11_mean_91 : decode cX11_mean 91 = .ok (.istore 5, 2) := by decide +kernel
theorem dX11_mean_93 : decode cX11_mean 93 = .ok (.iload 5, 2) := by decide +kernel
theorem dX11_mean_95 : decode cX11_mean 95 = .ok (.iload_n 2, 1) := by decide +kernel
theorem dX11_mean_96 : decode cX11_mean 96 = .ok (.if_icmp .ge 65, 3) := by decide +kernel
theorem dX11_mean_99 : decode cX11_mean 99 = .ok (.aload_n 0, 1) := by decide +kernel
theorem dX11_mean_100 : decode cX11_mean 100 = .ok (.iload_n 1, 1) := by decide +kernel
theorem dX11_mean_101 : decode cX11_mean 101 = .ok (.iload 5, 2) := by decide +kernel
theorem dX11_mean_103 : decode cX11_mean 103 = .ok (.iadd, 1) := by decide +kernel
theorem dX11_mean_104 : decode cX11_mean 104 = .ok (.invokevirtual 527, 3) := by decide +kernel
theorem dX11_mean_107 : decode cX11_mean 107 = .ok (.lload_n 3, 1) := by decide +kernel
theorem dX11_mean_108 : decode cX11_mean 108 = .ok (.aload_n 0, 1) := by decide +kernel
theorem dX11_mean_109 : decode cX11_mean 109 = .ok (.sipush 152, 3) := by decide +kernel
theorem dX11_mean_112 : decode cX11_mean 112 = .ok (.aload_n 0, 1) := by decide +kernel
theorem dX11_mean_113 : decode cX11_mean 113 = .ok (.getfield 35, 3) := by decide +kernel
theorem dX11_mean_116 : decode cX11_mean 116 = .ok (.iconst 5, 1) := by decide +kernel
theorem dX11_mean_117 : decode cX11_mean 117 = .ok (.iaload, 1) := by decide +kernel
theorem dX11_mean_118 : decode cX11_mean 118 = .ok (.invokevirtual 315, 3) := by decide +kernel
theorem dX11_mean_121 : decode cX11_mean 121 = .ok (.i2l, 1) := by decide +kernel
theorem dX11_mean_122 : decode cX11_mean 122 = .ok (.ladd, 1) := by decide +kernel
theorem dX11_mean_123 : decode cX11_mean 123 = .ok (.lstore_n 3, 1) := by decide +kernel
theorem dX11_mean_124 : decode cX11_mean 124 = .ok (.iconst 0, 1) := by decide +kernel
theorem dX11_mean_125 : decode cX11_mean 125 = .ok (.istore 6, 2) := by decide +kernel
theorem dX11_mean_127 : decode cX11_mean 127 = .ok (.iload 6, 2) := by decide +kernel
theorem dX11_mean_129 : decode cX11_mean 129 = .ok (.sipush 170, 3) := by decide +kernel
theorem dX11_mean_132 : decode cX11_mean 132 = .ok (.if_icmp .ge 23, 3) := by decide +kernel
theorem dX11_mean_135 : decode cX11_mean 135 = .ok (.aload_n 0, 1) := by decide +kernel
theorem dX11_mean_136 : decode cX11_mean 136 = .ok (.getfield 35, 3) := by decide +kernel
theorem dX11_mean_139 : decode cX11_mean 139 = .ok (.iload 6, 2) := by decide +kernel
theorem dX11_mean_141 : decode cX11_mean 141 = .ok (.aload_n 0, 1) := by decide +kernel
theorem dX11_mean_142 : decode cX11_mean 142 = .ok (.getfield 41, 3) := by decide +kernel
theorem dX11_mean_145 : decode cX11_mean 145 = .ok (.iload 6, 2) := by decide +kernel
theorem dX11_mean_147 : decode cX11_mean 147 = .ok (.iaload, 1) := by decide +kernel
theorem dX11_mean_148 : decode cX11_mean 148 = .ok (.iastore, 1) := by decide +kernel
theorem dX11_mean_149 : decode cX11_mean 149 = .ok (.iinc 6 1, 3) := by decide +kernel
theorem dX11_mean_152 : decode cX11_mean 152 = .ok (.goto (-25), 3) := by decide +kernel
theorem dX11_mean_155 : decode cX11_mean 155 = .ok (.iinc 5 1, 3) := by decide +kernel
theorem dX11_mean_158 : decode cX11_mean 158 = .ok (.goto (-65), 3) := by decide +kernel
theorem dX11_mean_161 : decode cX11_mean 161 = .ok (.aload_n 0, 1) := by decide +kernel
theorem dX11_mean_162 : decode cX11_mean 162 = .ok (.lload_n 3, 1) := by decide +kernel
theorem dX11_mean_163 : decode cX11_mean 163 = .ok (.iload_n 2, 1) := by decide +kernel
theorem dX11_mean_164 : decode cX11_mean 164 = .ok (.i2l, 1) := by decide +kernel
theorem dX11_mean_165 : decode cX11_mean 165 = .ok (.invokevirtual 459, 3) := by decide +kernel
theorem dX11_mean_168 : decode cX11_mean 168 = .ok (.ireturn, 1) := by decide +kernel
theorem dX11_copy_0 : decode cX11_copy 0 = .ok (.iconst 0, 1) := by decide +kernel
theorem dX11_copy_1 : decode cX11_copy 1 = .ok (.istore_n 3, 1) := by decide +kernel
theorem dX11_copy_2 : decode cX11_copy 2 = .ok (.iload_n 3, 1) := by decide +kernel
theorem dX11_copy_3 : decode cX11_copy 3 = .ok (.sipush 442, 3) := by decide +kernel
theorem dX11_copy_6 : decode cX11_copy 6 = .ok (.if_icmp .ge 33, 3) := by decide +kernel
theorem dX11_copy_9 : decode cX11_copy 9 = .ok (.aload_n 0, 1) := by decide +kernel
theorem dX11_copy_10 : decode cX11_copy 10 = .ok (.getfield 35, 3) := by decide +kernel
theorem dX11_copy_13 : decode cX11_copy 13 = .ok (.sipush 442, 3) := by decide +kernel
theorem dX11_copy_16 : decode cX11_copy 16 = .ok (.iload_n 2, 1) := by decide +kernel
theorem dX11_copy_17 : decode cX11_copy 17 = .ok (.imul, 1) := by decide +kernel
theorem dX11_copy_18 : decode cX11_copy 18 = .ok (.iload_n 3, 1) := by decide +kernel
theorem dX11_copy_19 : decode cX11_copy 19 = .ok (.iadd, 1) := by decide +kernel
theorem dX11_copy_20 : decode cX11_copy 20 = .ok (.aload_n 0, 1) := by decide +kernel
theorem dX11_copy_21 : decode cX11_copy 21 = .ok (.getfield 35, 3) := by decide +kernel
theorem dX11_copy_24 : decode cX11_copy 24 = .ok (.sipush 442, 3) := by decide +kernel
theorem dX11_copy_27 : decode cX11_copy 27 = .ok (.iload_n 1, 1) := by decide +kernel
theorem dX11_copy_28 : decode cX11_copy 28 = .ok (.imul, 1) := by decide +kernel
theorem dX11_copy_29 : decode cX11_copy 29 = .ok (.iload_n 3, 1) := by decide +kernel
theorem dX11_copy_30 : decode cX11_copy 30 = .ok (.iadd, 1) := by decide +kernel
theorem dX11_copy_31 : decode cX11_copy 31 = .ok (.iaload, 1) := by decide +kernel
theorem dX11_copy_32 : decode cX11_copy 32 = .ok (.iastore, 1) := by decide +kernel
theorem dX11_copy_33 : decode cX11_copy 33 = .ok (.iinc 3 1, 3) := by decide +kernel
theorem dX11_copy_36 : decode cX11_copy 36 = .ok (.goto (-34), 3) := by decide +kernel
theorem dX11_copy_39 : decode cX11_copy 39 = .ok (.iconst 0, 1) := by decide +kernel
theorem dX11_copy_40 : decode cX11_copy 40 = .ok (.istore_n 3, 1) := by decide +kernel
theorem dX11_copy_41 : decode cX11_copy 41 = .ok (.iload_n 3, 1) := by decide +kernel
theorem dX11_copy_42 : decode cX11_copy 42 = .ok (.bipush 10, 2) := by decide +kernel
theorem dX11_copy_44 : decode cX11_copy 44 = .ok (.if_icmp .ge 31, 3) := by decide +kernel
theorem dX11_copy_47 : decode cX11_copy 47 = .ok (.aload_n 0, 1) := by decide +kernel
theorem dX11_copy_48 : decode cX11_copy 48 = .ok (.getfield 44, 3) := by decide +kernel
theorem dX11_copy_51 : decode cX11_copy 51 = .ok (.bipush 10, 2) := by decide +kernel
theorem dX11_copy_53 : decode cX11_copy 53 = .ok (.iload_n 2, 1) := by decide +kernel
theorem dX11_copy_54 : decode cX11_copy 54 = .ok (.imul, 1) := by decide +kernel
theorem dX11_copy_55 : decode cX11_copy 55 = .ok (.iload_n 3, 1) := by decide +kernel
theorem dX11_copy_56 : decode cX11_copy 56 = .ok (.iadd, 1) := by decide +kernel
theorem dX11_copy_57 : decode cX11_copy 57 = .ok (.aload_n 0, 1) := by decide +kernel
theorem dX11_copy_58 : decode cX11_copy 58 = .ok (.getfield 44, 3) := by decide +kernel
theorem dX11_copy_61 : decode cX11_copy 61 = .ok (.bipush 10, 2) := by decide +kernel
theorem dX11_copy_63 : decode cX11_copy 63 = .ok (.iload_n 1, 1) := by decide +kernel
theorem dX11_copy_64 : decode cX11_copy 64 = .ok (.imul, 1) := by decide +kernel
theorem dX11_copy_65 : decode cX11_copy 65 = .ok (.iload_n 3, 1) := by decide +kernel
theorem dX11_copy_66 : decode cX11_copy 66 = .ok (.iadd, 1) := by decide +kernel
theorem dX11_copy_67 : decode cX11_copy 67 = .ok (.laload, 1) := by decide +kernel
theorem dX11_copy_68 : decode cX11_copy 68 = .ok (.lastore, 1) := by decide +kernel
theorem dX11_copy_69 : decode cX11_copy 69 = .ok (.iinc 3 1, 3) := by decide +kernel
theorem dX11_copy_72 : decode cX11_copy 72 = .ok (.goto (-31), 3) := by decide +kernel
theorem dX11_copy_75 : decode cX11_copy 75 = .ok (.return_, 1) := by decide +kernel
theorem dX11_mark_0 : decode cX11_mark 0 = .ok (.aload_n 0, 1) := by decide +kernel
theorem dX11_mark_1 : decode cX11_mark 1 = .ok (.iconst 0, 1) := by decide +kernel
theorem dX11_mark_2 : decode cX11_mark 2 = .ok (.putfield 59, 3) := by decide +kernel
theorem dX11_mark_5 : decode cX11_mark 5 = .ok (.aload_n 0, 1) := by decide +kernel
theorem dX11_mark_6 : decode cX11_mark 6 = .ok (.iconst 0, 1) := by decide +kernel
theorem dX11_mark_7 : decode cX11_mark 7 = .ok (.putfield 62, 3) := by decide +kernel
theorem dX11_mark_10 : decode cX11_mark 10 = .ok (.aload_n 0, 1) := by decide +kernel
theorem dX11_mark_11 : decode cX11_mark 11 = .ok (.getfield 535, 3) := by decide +kernel
theorem dX11_mark_14 : decode cX11_mark 14 = .ok (.iconst 3, 1) := by decide +kernel
theorem dX11_mark_15 : decode cX11_mark 15 = .ok (.if_icmp .ne 10, 3) := by decide +kernel
theorem dX11_mark_18 : decode cX11_mark 18 = .ok (.aload_n 0, 1) := by decide +kernel
theorem dX11_mark_19 : decode cX11_mark 19 = .ok (.bipush 7, 2) := by decide +kernel
theorem dX11_mark_21 : decode cX11_mark 21 = .ok (.invokevirtual 312, 3) := by decide +kernel
theorem dX11_mark_24 : decode cX11_mark 24 = .ok (.ireturn, 1) := by decide +kernel
theorem dX11_mark_25 : decode cX11_mark 25 = .ok (.aload_n 0, 1) := by decide +kernel
theorem dX11_mark_26 : decode cX11_mark 26 = .ok (.dup, 1) := by decide +kernel
theorem dX11_mark_27 : decode cX11_mark 27 = .ok (.getfield 535, 3) := by decide +kernel
theorem dX11_mark_30 : decode cX11_mark 30 = .ok (.iconst 1, 1) := by decide +kernel
theorem dX11_mark_31 : decode cX11_mark 31 = .ok (.iadd, 1) := by decide +kernel
theorem dX11_mark_32 : decode cX11_mark 32 = .ok (.putfield 535, 3) := by decide +kernel
theorem dX11_mark_35 : decode cX11_mark 35 = .ok (.aload_n 0, 1) := by decide +kernel
theorem dX11_mark_36 : decode cX11_mark 36 = .ok (.iconst 0, 1) := by decide +kernel
theorem dX11_mark_37 : decode cX11_mark 37 = .ok (.aload_n 0, 1) := by decide +kernel
theorem dX11_mark_38 : decode cX11_mark 38 = .ok (.getfield 535, 3) := by decide +kernel
theorem dX11_mark_41 : decode cX11_mark 41 = .ok (.invokevirtual 292, 3) := by decide +kernel
theorem dX11_mark_44 : decode cX11_mark 44 = .ok (.aload_n 0, 1) := by decide +kernel
theorem dX11_mark_45 : decode cX11_mark 45 = .ok (.getfield 535, 3) := by decide +kernel
theorem dX11_mark_48 : decode cX11_mark 48 = .ok (.ireturn, 1) := by decide +kernel
theorem dX11_back_0 : decode cX11_back 0 = .ok (.aload_n 0, 1) := by decide +kernel
theorem dX11_back_1 : decode cX11_back 1 = .ok (.iconst 0, 1) := by decide +kernel
theorem dX11_back_2 : decode cX11_back 2 = .ok (.putfield 59, 3) := by decide +kernel
theorem dX11_back_5 : decode cX11_back 5 = .ok (.aload_n 0, 1) := by decide +kernel
theorem dX11_back_6 : decode cX11_back 6 = .ok (.iconst 0, 1) := by decide +kernel
theorem dX11_back_7 : decode cX11_back 7 = .ok (.putfield 62, 3) := by decide +kernel
theorem dX11_back_10 : decode cX11_back 10 = .ok (.aload_n 0, 1) := by decide +kernel
theorem dX11_back_11 : decode cX11_back 11 = .ok (.getfield 535, 3) := by decide +kernel
theorem dX11_back_14 : decode cX11_back 14 = .ok (.ifCond .ne 10, 3) := by decide +kernel
theorem dX11_back_17 : decode cX11_back 17 = .ok (.aload_n 0, 1) := by decide +kernel
theorem dX11_back_18 : decode cX11_back 18 = .ok (.bipush 8, 2) := by decide +kernel
theorem dX11_back_20 : decode cX11_back 20 = .ok (.invokevirtual 312, 3) := by decide +kernel
theorem dX11_back_23 : decode cX11_back 23 = .ok (.ireturn, 1) := by decide +kernel
theorem dX11_back_24 : decode cX11_back 24 = .ok (.aload_n 0, 1) := by decide +kernel
theorem dX11_back_25 : decode cX11_back 25 = .ok (.aload_n 0, 1) := by decide +kernel
theorem dX11_back_26 : decode cX11_back 26 = .ok (.getfield 535, 3) := by decide +kernel
theorem dX11_back_29 : decode cX11_back 29 = .ok (.iconst 0, 1) := by decide +kernel
theorem dX11_back_30 : decode cX11_back 30 = .ok (.invokevirtual 292, 3) := by decide +kernel
theorem dX11_back_33 : decode cX11_back 33 = .ok (.aload_n 0, 1) := by decide +kernel
theorem dX11_back_34 : decode cX11_back 34 = .ok (.dup, 1) := by decide +kernel
theorem dX11_back_35 : decode cX11_back 35 = .ok (.getfield 535, 3) := by decide +kernel
theorem dX11_back_38 : decode cX11_back 38 = .ok (.iconst 1, 1) := by decide +kernel
theorem dX11_back_39 : decode cX11_back 39 = .ok (.isub, 1) := by decide +kernel
theorem dX11_back_40 : decode cX11_back 40 = .ok (.putfield 535, 3) := by decide +kernel
theorem dX11_back_43 : decode cX11_back 43 = .ok (.aload_n 0, 1) := by decide +kernel
theorem dX11_back_44 : decode cX11_back 44 = .ok (.getfield 535, 3) := by decide +kernel
theorem dX11_back_47 : decode cX11_back 47 = .ok (.ireturn, 1) := by decide +kernel
theorem dJ9_abs_067f4_0 : decode cJ9_abs_067f4 0 = .ok (.lload_n 0, 1) := by decide +kernel
theorem dJ9_abs_067f4_1 : decode cJ9_abs_067f4 1 = .ok (.lconst 0, 1) := by decide +kernel
theorem dJ9_abs_067f4_2 : decode cJ9_abs_067f4 2 = .ok (.lcmp, 1) := by decide +kernel
theorem dJ9_abs_067f4_3 : decode cJ9_abs_067f4 3 = .ok (.ifCond .ge 8, 3) := by decide +kernel
theorem dJ9_abs_067f4_6 : decode cJ9_abs_067f4 6 = .ok (.lload_n 0, 1) := by decide +kernel
theorem dJ9_abs_067f4_7 : decode cJ9_abs_067f4 7 = .ok (.lneg, 1) := by decide +kernel
theorem dJ9_abs_067f4_8 : decode cJ9_abs_067f4 8 = .ok (.goto 4, 3) := by decide +kernel
theorem dJ9_abs_067f4_11 : decode cJ9_abs_067f4 11 = .ok (.lload_n 0, 1) := by decide +kernel
theorem dJ9_abs_067f4_12 : decode cJ9_abs_067f4 12 = .ok (.lreturn, 1) := by decide +kernel
theorem dJ9_max_7cf53_0 : decode cJ9_max_7cf53 0 = .ok (.iload_n 0, 1) := by decide +kernel
theorem dJ9_max_7cf53_1 : decode cJ9_max_7cf53 1 = .ok (.iload_n 1, 1) := by decide +kernel
