theorem dX8_passDays_44 : decode cX8_passDays 44 = .ok (.iload_n 2, 1) := by decide +kernel
theorem dX8_passDays_45 : decode cX8_passDays 45 = .ok (.iaload, 1) := by decide +kernel
theorem dX8_passDays_46 : decode cX8_passDays 46 = .ok (.ifCond .ne 16, 3) := by decide +kernel
theorem dX8_passDays_49 : decode cX8_passDays 49 = .ok (.aload_n 0, 1) := by decide +kernel
theorem dX8_passDays_50 : decode cX8_passDays 50 = .ok (.iload_n 2, 1) := by decide +kernel
theorem dX8_passDays_51 : decode cX8_passDays 51 = .ok (.aload_n 0, 1) := by decide +kernel
theorem dX8_passDays_52 : decode cX8_passDays 52 = .ok (.getfield 36, 3) := by decide +kernel
theorem dX8_passDays_55 : decode cX8_passDays 55 = .ok (.iload_n 2, 1) := by decide +kernel
theorem dX8_passDays_56 : decode cX8_passDays 56 = .ok (.iaload, 1) := by decide +kernel
theorem dX8_passDays_57 : decode cX8_passDays 57 = .ok (.iload_n 1, 1) := by decide +kernel
theorem dX8_passDays_58 : decode cX8_passDays 58 = .ok (.imul, 1) := by decide +kernel
theorem dX8_passDays_59 : decode cX8_passDays 59 = .ok (.invokevirtual 109, 3) := by decide +kernel
theorem dX8_passDays_62 : decode cX8_passDays 62 = .ok (.iinc 2 1, 3) := by decide +kernel
theorem dX8_passDays_65 : decode cX8_passDays 65 = .ok (.goto (-39), 3) := by decide +kernel
theorem dX8_passDays_68 : decode cX8_passDays 68 = .ok (.iconst 1, 1) := by decide +kernel
theorem dX8_passDays_69 : decode cX8_passDays 69 = .ok (.ireturn, 1) := by decide +kernel
theorem dX8_dry_0 : decode cX8_dry 0 = .ok (.aload_n 0, 1) := by decide +kernel
theorem dX8_dry_1 : decode cX8_dry 1 = .ok (.getfield 39, 3) := by decide +kernel
theorem dX8_dry_4 : decode cX8_dry 4 = .ok (.iload_n 1, 1) := by decide +kernel
theorem dX8_dry_5 : decode cX8_dry 5 = .ok (.dup2, 1) := by decide +kernel
theorem dX8_dry_6 : decode cX8_dry 6 = .ok (.iaload, 1) := by decide +kernel
theorem dX8_dry_7 : decode cX8_dry 7 = .ok (.iload_n 2, 1) := by decide +kernel
theorem dX8_dry_8 : decode cX8_dry 8 = .ok (.isub, 1) := by decide +kernel
theorem dX8_dry_9 : decode cX8_dry 9 = .ok (.iastore, 1) := by decide +kernel
theorem dX8_dry_10 : decode cX8_dry 10 = .ok (.aload_n 0, 1) := by decide +kernel
theorem dX8_dry_11 : decode cX8_dry 11 = .ok (.getfield 39, 3) := by decide +kernel
theorem dX8_dry_14 : decode cX8_dry 14 = .ok (.iload_n 1, 1) := by decide +kernel
theorem dX8_dry_15 : decode cX8_dry 15 = .ok (.iaload, 1) := by decide +kernel
theorem dX8_dry_16 : decode cX8_dry 16 = .ok (.ifCond .ge 17, 3) := by decide +kernel
theorem dX8_dry_19 : decode cX8_dry 19 = .ok (.aload_n 0, 1) := by decide +kernel
theorem dX8_dry_20 : decode cX8_dry 20 = .ok (.getfield 39, 3) := by decide +kernel
theorem dX8_dry_23 : decode cX8_dry 23 = .ok (.iload_n 1, 1) := by decide +kernel
theorem dX8_dry_24 : decode cX8_dry 24 = .ok (.iconst 0, 1) := by decide +kernel
theorem dX8_dry_25 : decode cX8_dry 25 = .ok (.iastore, 1) := by decide +kernel
theorem dX8_dry_26 : decode cX8_dry 26 = .ok (.aload_n 0, 1) := by decide +kernel
theorem dX8_dry_27 : decode cX8_dry 27 = .ok (.getfield 45, 3) := by decide +kernel
theorem dX8_dry_30 : decode cX8_dry 30 = .ok (.iload_n 1, 1) := by decide +kernel
theorem dX8_dry_31 : decode cX8_dry 31 = .ok (.iconst 1, 1) := by decide +kernel
theorem dX8_dry_32 : decode cX8_dry 32 = .ok (.iastore, 1) := by decide +kernel
theorem dX8_dry_33 : decode cX8_dry 33 = .ok (.return_, 1) := by decide +kernel
theorem dX8_daysLeft_0 : decode cX8_daysLeft 0 = .ok (.iload_n 1, 1) := by decide +kernel
theorem dX8_daysLeft_1 : decode cX8_daysLeft 1 = .ok (.ifCond .lt 29, 3) := by decide +kernel
theorem dX8_daysLeft_4 : decode cX8_daysLeft 4 = .ok (.iload_n 1, 1) := by decide +kernel
theorem dX8_daysLeft_5 : decode cX8_daysLeft 5 = .ok (.aload_n 0, 1) := by decide +kernel
theorem dX8_daysLeft_6 : decode cX8_daysLeft 6 = .ok (.getfield 52, 3) := by decide +kernel
theorem dX8_daysLeft_9 : decode cX8_daysLeft 9 = .ok (.if_icmp .ge 21, 3) := by decide +kernel
theorem dX8_daysLeft_12 : decode cX8_daysLeft 12 = .ok (.aload_n 0, 1) := by decide +kernel
theorem dX8_daysLeft_13 : decode cX8_daysLeft 13 = .ok (.getfield 45, 3) := by decide +kernel
theorem dX8_daysLeft_16 : decode cX8_daysLeft 16 = .ok (.iload_n 1, 1) := by decide +kernel
theorem dX8_daysLeft_17 : decode cX8_daysLeft 17 = .ok (.iaload, 1) := by decide +kernel
theorem dX8_daysLeft_18 : decode cX8_daysLeft 18 = .ok (.ifCond .ne 12, 3) := by decide +kernel
theorem dX8_daysLeft_21 : decode cX8_daysLeft 21 = .ok (.aload_n 0, 1) := by decide +kernel
theorem dX8_daysLeft_22 : decode cX8_daysLeft 22 = .ok (.getfield 36, 3) := by decide +kernel
theorem dX8_daysLeft_25 : decode cX8_daysLeft 25 = .ok (.iload_n 1, 1) := by decide +kernel
theorem dX8_daysLeft_26 : decode cX8_daysLeft 26 = .ok (.iaload, 1) := by decide +kernel
theorem dX8_daysLeft_27 : decode cX8_daysLeft 27 = .ok (.ifCond .gt 5, 3) := by decide +kernel
theorem dX8_daysLeft_30 : decode cX8_daysLeft 30 = .ok (.iconst (-1), 1) := by decide +kernel
theorem dX8_daysLeft_31 : decode cX8_daysLeft 31 = .ok (.ireturn, 1) := by decide +kernel
theorem dX8_daysLeft_32 : decode cX8_daysLeft 32 = .ok (.aload_n 0, 1) := by decide +kernel
theorem dX8_daysLeft_33 : decode cX8_daysLeft 33 = .ok (.getfield 39, 3) := by decide +kernel
theorem dX8_daysLeft_36 : decode cX8_daysLeft 36 = .ok (.iload_n 1, 1) := by decide +kernel
theorem dX8_daysLeft_37 : decode cX8_daysLeft 37 = .ok (.iaload, 1) := by decide +kernel
theorem dX8_daysLeft_38 : decode cX8_daysLeft 38 = .ok (.aload_n 0, 1) := by decide +kernel
theorem dX8_daysLeft_39 : decode cX8_daysLeft 39 = .ok (.getfield 36, 3) := by decide +kernel
theorem dX8_daysLeft_42 : decode cX8_daysLeft 42 = .ok (.iload_n 1, 1) := by decide +kernel
theorem dX8_daysLeft_43 : decode cX8_daysLeft 43 = .ok (.iaload, 1) := by decide +kernel
theorem dX8_daysLeft_44 : decode cX8_daysLeft 44 = .ok (.idiv, 1) := by decide +kernel
theorem dX8_daysLeft_45 : decode cX8_daysLeft 45 = .ok (.iconst 1, 1) := by decide +kernel
theorem dX8_daysLeft_46 : decode cX8_daysLeft 46 = .ok (.iadd, 1) := by decide +kernel
theorem dX8_daysLeft_47 : decode cX8_daysLeft 47 = .ok (.ireturn, 1) := by decide +kernel
theorem dX8_setOf_0 : decode cX8_setOf 0 = .ok (.iconst 0, 1) := by decide +kernel
theorem dX8_setOf_1 : decode cX8_setOf 1 = .ok (.istore_n 2, 1) := by decide +kernel
theorem dX8_setOf_2 : decode cX8_setOf 2 = .ok (.iconst 0, 1) := by decide +kernel
theorem dX8_setOf_3 : decode cX8_setOf 3 = .ok (.istore_n 3, 1) := by decide +kernel
theorem dX8_setOf_4 : decode cX8_setOf 4 = .ok (.iload_n 3, 1) := by decide +kernel
theorem dX8_setOf_5 : decode cX8_setOf 5 = .ok (.aload_n 0, 1) := by decide +kernel
theorem dX8_setOf_6 : decode cX8_setOf 6 = .ok (.getfield 52, 3) := by decide +kernel
theorem dX8_setOf_9 : decode cX8_setOf 9 = .ok (.if_icmp .ge 31, 3) := by decide +kernel
theorem dX8_setOf_12 : decode cX8_setOf 12 = .ok (.iload_n 3, 1) := by decide +kernel
theorem dX8_setOf_13 : decode cX8_setOf 13 = .ok (.bipush 6, 2) := by decide +kernel
theorem dX8_setOf_15 : decode cX8_setOf 15 = .ok (.if_icmp .ge 25, 3) := by decide +kernel
theorem dX8_setOf_18 : decode cX8_setOf 18 = .ok (.aload_n 0, 1) := by decide +kernel
theorem dX8_setOf_19 : decode cX8_setOf 19 = .ok (.getfield 45, 3) := by decide +kernel
theorem dX8_setOf_22 : decode cX8_setOf 22 = .ok (.iload_n 3, 1) := by decide +kernel
theorem dX8_setOf_23 : decode cX8_setOf 23 = .ok (.iaload, 1) := by decide +kernel
theorem dX8_setOf_24 : decode cX8_setOf 24 = .ok (.iload_n 1, 1) := by decide +kernel
theorem dX8_setOf_25 : decode cX8_setOf 25 = .ok (.if_icmp .ne 9, 3) := by decide +kernel
theorem dX8_setOf_28 : decode cX8_setOf 28 = .ok (.iload_n 2, 1) := by decide +kernel
theorem dX8_setOf_29 : decode cX8_setOf 29 = .ok (.iconst 1, 1) := by decide +kernel
theorem dX8_setOf_30 : decode cX8_setOf 30 = .ok (.iload_n 3, 1) := by decide +kernel
theorem dX8_setOf_31 : decode cX8_setOf 31 = .ok (.ishl, 1) := by decide +kernel
theorem dX8_setOf_32 : decode cX8_setOf 32 = .ok (.ior, 1) := by decide +kernel
theorem dX8_setOf_33 : decode cX8_setOf 33 = .ok (.istore_n 2, 1) := by decide +kernel
theorem dX8_setOf_34 : decode cX8_setOf 34 = .ok (.iinc 3 1, 3) := by decide +kernel
theorem dX8_setOf_37 : decode cX8_setOf 37 = .ok (.goto (-33), 3) := by decide +kernel
theorem dX8_setOf_40 : decode cX8_setOf 40 = .ok (.iload_n 2, 1) := by decide +kernel
theorem dX8_setOf_41 : decode cX8_setOf 41 = .ok (.ireturn, 1) := by decide +kernel
theorem dX8_allWater_0 : decode cX8_allWater 0 = .ok (.iconst 0, 1) := by decide +kernel
theorem dX8_allWater_1 : decode cX8_allWater 1 = .ok (.istore_n 1, 1) := by decide +kernel
theorem dX8_allWater_2 : decode cX8_allWater 2 = .ok (.iconst 0, 1) := by decide +kernel
theorem dX8_allWater_3 : decode cX8_allWater 3 = .ok (.istore_n 2, 1) := by decide +kernel
theorem dX8_allWater_4 : decode cX8_allWater 4 = .ok (.iload_n 2, 1) := by decide +kernel
theorem dX8_allWater_5 : decode cX8_allWater 5 = .ok (.aload_n 0, 1) := by decide +kernel
theorem dX8_allWater_6 : decode cX8_allWater 6 = .ok (.getfield 52, 3) := by decide +kernel
theorem dX8_allWater_9 : decode cX8_allWater 9 = .ok (.if_icmp .ge 24, 3) := by decide +kernel
theorem dX8_allWater_12 : decode cX8_allWater 12 = .ok (.iload_n 2, 1) := by decide +kernel
theorem dX8_allWater_13 : decode cX8_allWater 13 = .ok (.bipush 6, 2) := by decide +kernel
theorem dX8_allWater_15 : decode cX8_allWater 15 = .ok (.if_icmp .ge 18, 3) := by decide +kernel
theorem dX8_allWater_18 : decode cX8_allWater 18 = .ok (.iload_n 1, 1) := by decide +kernel
theorem dX8_allWater_19 : decode cX8_allWater 19 = .ok (.aload_n 0, 1) := by decide +kernel
theorem dX8_allWater_20 : decode cX8_allWater 20 = .ok (.getfield 39, 3) := by decide +kernel
theorem dX8_allWater_23 : decode cX8_allWater 23 = .ok (.iload_n 2, 1) := by decide +kernel
theorem dX8_allWater_24 : decode cX8_allWater 24 = .ok (.iaload, 1) := by decide +kernel
theorem dX8_allWater_25 : decode cX8_allWater 25 = .ok (.iadd, 1) := by decide +kernel
theorem dX8_allWater_26 : decode cX8_allWater 26 = .ok (.istore_n 1, 1) := by decide +kernel
theorem dX8_allWater_27 : decode cX8_allWater 27 = .ok (.iinc 2 1, 3) := by decide +kernel
theorem dX8_allWater_30 : decode cX8_allWater 30 = .ok (.goto (-26), 3) := by decide +kernel
theorem dX8_allWater_33 : decode cX8_allWater 33 = .ok (.iload_n 1, 1) := by decide +kernel
theorem dX8_allWater_34 : decode cX8_allWater 34 = .ok (.ireturn, 1) := by decide +kernel
theorem dX9_init_0 : decode cX9_init 0 = .ok (.aload_n 0, 1) := by decide +kernel
theorem dX9_init_1 : decode cX9_init 1 = .ok (.invokespecial 3, 3) := by decide +kernel
theorem dX9_init_4 : decode cX9_init 4 = .ok (.return_, 1) := by decide +kernel
theorem dX9_take_0 : decode cX9_take 0 = .ok (.aload_n 2, 1) := by decide +kernel
theorem dX9_take_1 : decode cX9_take 1 = .ok (.invokevirtual 9, 3) := by decide +kernel
theorem dX9_take_4 : decode cX9_take 4 = .ok (.aload_n 0, 1) := by decide +kernel
theorem dX9_take_5 : decode cX9_take 5 = .ok (.iconst 0, 1) := by decide +kernel
theorem dX9_take_6 : decode cX9_take 6 = .ok (.putfield 14, 3) := by decide +kernel
theorem dX9_take_9 : decode cX9_take 9 = .ok (.aload_n 0, 1) := by decide +kernel
theorem dX9_take_10 : decode cX9_take 10 = .ok (.iconst 0, 1) := by decide +kernel
theorem dX9_take_11 : decode cX9_take 11 = .ok (.putfield 20, 3) := by decide +kernel
theorem dX9_take_14 : decode cX9_take 14 = .ok (.aload_n 0, 1) := by decide +kernel
theorem dX9_take_15 : decode cX9_take 15 = .ok (.iconst 0, 1) := by decide +kernel
theorem dX9_take_16 : decode cX9_take 16 = .ok (.putfield 23, 3) := by decide +kernel
theorem dX9_take_19 : decode cX9_take 19 = .ok (.aload_n 0, 1) := by decide +kernel
theorem dX9_take_20 : decode cX9_take 20 = .ok (.iconst 0, 1) := by decide +kernel
theorem dX9_take_21 : decode cX9_take 21 = .ok (.putfield 26, 3) := by decide +kernel
theorem dX9_take_24 : decode cX9_take 24 = .ok (.aload_n 0, 1) := by decide +kernel
theorem dX9_take_25 : decode cX9_take 25 = .ok (.iconst 0, 1) := by decide +kernel
theorem dX9_take_26 : decode cX9_take 26 = .ok (.putfield 29, 3) := by decide +kernel
theorem dX9_take_29 : decode cX9_take 29 = .ok (.iconst 0, 1) := by decide +kernel
theorem dX9_take_30 : decode cX9_take 30 = .ok (.istore_n 3, 1) := by decide +kernel
theorem dX9_take_31 : decode cX9_take 31 = .ok (.iload_n 3, 1) := by decide +kernel
theorem dX9_take_32 : decode cX9_take 32 = .ok (.sipush 900, 3) := by decide +kernel
theorem dX9_take_35 : decode cX9_take 35 = .ok (.if_icmp .gt 209, 3) := by decide +kernel
theorem dX9_take_38 : decode cX9_take 38 = .ok (.aload_n 1, 1) := by decide +kernel
theorem dX9_take_39 : decode cX9_take 39 = .ok (.invokevirtual 33, 3) := by decide +kernel
theorem dX9_take_42 : decode cX9_take 42 = .ok (.ifCond .ne 5, 3) := by decide +kernel
theorem dX9_take_45 : decode cX9_take 45 = .ok (.iconst 0, 1) := by decide +kernel
theorem dX9_take_46 : decode cX9_take 46 = .ok (.ireturn, 1) := by decide +kernel
theorem dX9_take_47 : decode cX9_take 47 = .ok (.aload_n 1, 1) := by decide +kernel
theorem dX9_take_48 : decode cX9_take 48 = .ok (.invokevirtual 39, 3) := by decide +kernel
theorem dX9_take_51 : decode cX9_take 51 = .ok (.ifCond .eq 5, 3) := by decide +kernel
theorem dX9_take_54 : decode cX9_take 54 = .ok (.iconst 1, 1) := by decide +kernel
theorem dX9_take_55 : decode cX9_take 55 = .ok (.ireturn, 1) := by decide +kernel
theorem dX9_take_56 : decode cX9_take 56 = .ok (.aload_n 1, 1) := by decide +kernel
theorem dX9_take_57 : decode cX9_take 57 = .ok (.getfield 42, 3) := by decide +kernel
theorem dX9_take_60 : decode cX9_take 60 = .ok (.tableswitch 164 0 7 #[48, 62, 164, 73, 87, 101, 140, 153], 48) := by decide +kernel
theorem dX9_take_108 : decode cX9_take 108 = .ok (.aload_n 0, 1) := by decide +kernel
theorem dX9_take_109 : decode cX9_take 109 = .ok (.aload_n 1, 1) := by decide +kernel
theorem dX9_take_110 : decode cX9_take 110 = .ok (.aload_n 2, 1) := by decide +kernel
theorem dX9_take_111 : decode cX9_take 111 = .ok (.getfield 45, 3) := by decide +kernel
theorem dX9_take_114 : decode cX9_take 114 = .ok (.invokevirtual 49, 3) := by decide +kernel
theorem dX9_take_117 : decode cX9_take 117 = .ok (.istore 4, 2) := by decide +kernel
theorem dX9_take_119 : decode cX9_take 119 = .ok (.goto 112, 3) := by decide +kernel
theorem dX9_take_122 : decode cX9_take 122 = .ok (.aload_n 0, 1) := by decide +kernel
theorem dX9_take_123 : decode cX9_take 123 = .ok (.aload_n 1, 1) := by decide +kernel
theorem dX9_take_124 : decode cX9_take 124 = .ok (.aload_n 2, 1) := by decide +kernel
theorem dX9_take_125 : decode cX9_take 125 = .ok (.invokevirtual 53, 3) := by decide +kernel
theorem dX9_take_128 : decode cX9_take 128 = .ok (.istore 4, 2) := by decide +kernel
theorem dX9_take_130 : decode cX9_take 130 = .ok (.goto 101, 3) := by decide +kernel
theorem dX9_take_133 : decode cX9_take 133 = .ok (.aload_n 0, 1) := by decide +kernel
theorem dX9_take_134 : decode cX9_take 134 = .ok (.aload_n 1, 1) := by decide +kernel
theorem dX9_take_135 : decode cX9_take 135 = .ok (.aload_n 2, 1) := by decide +kernel
theorem dX9_take_136 : decode cX9_take 136 = .ok (.getfield 45, 3) := by decide +kernel
theorem dX9_take_139 : decode cX9_take 139 = .ok (.invokevirtual 57, 3) := by decide +kernel
theorem dX9_take_142 : decode cX9_take 142 = .ok (.istore 4, 2) := by decide +kernel
theorem dX9_take_144 : decode cX9_take 144 = .ok (.goto 87, 3) := by decide +kernel
theorem dX9_take_147 : decode cX9_take 147 = .ok (.aload_n 0, 1) := by decide +kernel
theorem dX9_take_148 : decode cX9_take 148 = .ok (.aload_n 1, 1) := by decide +kernel
theorem dX9_take_149 : decode cX9_take 149 = .ok (.aload_n 2, 1) := by decide +kernel
theorem dX9_take_150 : decode cX9_take 150 = .ok (.getfield 45, 3) := by decide +kernel
theorem dX9_take_153 : decode cX9_take 153 = .ok (.invokevirtual 60, 3) := by decide +kernel
theorem dX9_take_156 : decode cX9_take 156 = .ok (.istore 4, 2) := by decide +kernel
theorem dX9_take_158 : decode cX9_take 158 = .ok (.goto 73, 3) := by decide +kernel
theorem dX9_take_161 : decode cX9_take 161 = .ok (.aload_n 1, 1) := by decide +kernel
theorem dX9_take_162 : decode cX9_take 162 = .ok (.aload_n 2, 1) := by decide +kernel
theorem dX9_take_163 : decode cX9_take 163 = .ok (.getfield 45, 3) := by decide +kernel
theorem dX9_take_166 : decode cX9_take 166 = .ok (.invokestatic 63, 3) := by decide +kernel
theorem dX9_take_169 : decode cX9_take 169 = .ok (.ifCond .eq 25, 3) := by decide +kernel
theorem dX9_take_172 : decode cX9_take 172 = .ok (.aload_n 0, 1) := by decide +kernel
theorem dX9_take_173 : decode cX9_take 173 = .ok (.aload_n 1, 1) := by decide +kernel
theorem dX9_take_174 : decode cX9_take 174 = .ok (.aload_n 2, 1) := by decide +kernel
theorem dX9_take_175 : decode cX9_take 175 = .ok (.aload_n 2, 1) := by decide +kernel
theorem dX9_take_176 : decode cX9_take 176 = .ok (.getfield 45, 3) := by decide +kernel
theorem dX9_take_179 : decode cX9_take 179 = .ok (.getfield 66, 3) := by decide +kernel
theorem dX9_take_182 : decode cX9_take 182 = .ok (.iconst 1, 1) := by decide +kernel
theorem dX9_take_183 : decode cX9_take 183 = .ok (.isub, 1) := by decide +kernel
theorem dX9_take_184 : decode cX9_take 184 = .ok (.invokevirtual 71, 3) := by decide +kernel
theorem dX9_take_187 : decode cX9_take 187 = .ok (.ifCond .eq 7, 3) := by decide +kernel
theorem dX9_take_190 : decode cX9_take 190 = .ok (.iconst 1, 1) := by decide +kernel
theorem dX9_take_191 : decode cX9_take 191 = .ok (.goto 4, 3) := by decide +kernel
theorem dX9_take_194 : decode cX9_take 194 = .ok (.iconst 0, 1) := by decide +kernel
theorem dX9_take_195 : decode cX9_take 195 = .ok (.istore 4, 2) := by decide +kernel
theorem dX9_take_197 : decode cX9_take 197 = .ok (.goto 34, 3) := by decide +kernel
theorem dX9_take_200 : decode cX9_take 200 = .ok (.aload_n 0, 1) := by decide +kernel
theorem dX9_take_201 : decode cX9_take 201 = .ok (.aload_n 1, 1) := by decide +kernel
theorem dX9_take_202 : decode cX9_take 202 = .ok (.aload_n 2, 1) := by decide +kernel
theorem dX9_take_203 : decode cX9_take 203 = .ok (.bipush 8, 2) := by decide +kernel
theorem dX9_take_205 : decode cX9_take 205 = .ok (.invokevirtual 71, 3) := by decide +kernel
theorem dX9_take_208 : decode cX9_take 208 = .ok (.istore 4, 2) := by decide +kernel
theorem dX9_take_210 : decode cX9_take 210 = .ok (.goto 21, 3) := by decide +kernel
theorem dX9_take_213 : decode cX9_take 213 = .ok (.aload_n 0, 1) := by decide +kernel
theorem dX9_take_214 : decode cX9_take 214 = .ok (.aload_n 1, 1) := by decide +kernel
theorem dX9_take_215 : decode cX9_take 215 = .ok (.aload_n 2, 1) := by decide +kernel
theorem dX9_take_216 : decode cX9_take 216 = .ok (.invokevirtual 75, 3) := by decide +kernel
theorem dX9_take_219 : decode cX9_take 219 = .ok (.istore 4, 2) := by decide +kernel
theorem dX9_take_221 : decode cX9_take 221 = .ok (.goto 10, 3) := by decide +kernel
theorem dX9_take_224 : decode cX9_take 224 = .ok (.aload_n 1, 1) := by decide +kernel
theorem dX9_take_225 : decode cX9_take 225 = .ok (.iconst 2, 1) := by decide +kernel
theorem dX9_take_226 : decode cX9_take 226 = .ok (.invokevirtual 78, 3) := by decide +kernel
theorem dX9_take_229 : decode cX9_take 229 = .ok (.istore 4, 2) := by decide +kernel
theorem dX9_take_231 : decode cX9_take 231 = .ok (.iload 4, 2) := by decide +kernel
theorem dX9_take_233 : decode cX9_take 233 = .ok (.ifCond .ne 5, 3) := by decide +kernel
theorem dX9_take_236 : decode cX9_take 236 = .ok (.iconst 0, 1) := by decide +kernel
theorem dX9_take_237 : decode cX9_take 237 = .ok (.ireturn, 1) := by decide +kernel
theorem dX9_take_238 : decode cX9_take 238 = .ok (.iinc 3 1, 3) := by decide +kernel
theorem dX9_take_241 : decode cX9_take 241 = .ok (.goto (-210), 3) := by decide +kernel
theorem dX9_take_244 : decode cX9_take 244 = .ok (.aload_n 1, 1) := by decide +kernel
theorem dX9_take_245 : decode cX9_take 245 = .ok (.iconst 2, 1) := by decide +kernel
theorem dX9_take_246 : decode cX9_take 246 = .ok (.invokevirtual 78, 3) := by decide +kernel
theorem dX9_take_249 : decode cX9_take 249 = .ok (.ireturn, 1) := by decide +kernel
theorem dX9_takeRanks_0 : decode cX9_takeRanks 0 = .ok (.aload_n 0, 1) := by decide +kernel
theorem dX9_takeRanks_1 : decode cX9_takeRanks 1 = .ok (.getfield 26, 3) := by decide +kernel
theorem dX9_takeRanks_4 : decode cX9_takeRanks 4 = .ok (.ifCond .eq 9, 3) := by decide +kernel
theorem dX9_takeRanks_7 : decode cX9_takeRanks 7 = .ok (.aload_n 1, 1) := by decide +kernel
theorem dX9_takeRanks_8 : decode cX9_takeRanks 8 = .ok (.iconst 2, 1) := by decide +kernel
theorem dX9_takeRanks_9 : decode cX9_takeRanks 9 = .ok (.invokevirtual 78, 3) := by decide +kernel
theorem dX9_takeRanks_12 : decode cX9_takeRanks 12 = .ok (.ireturn, 1) := by decide +kernel
theorem dX9_takeRanks_13 : decode cX9_takeRanks 13 = .ok (.aload_n 0, 1) := by decide +kernel
theorem dX9_takeRanks_14 : decode cX9_takeRanks 14 = .ok (.getfield 14, 3) := by decide +kernel
theorem dX9_takeRanks_17 : decode cX9_takeRanks 17 = .ok (.ifCond .eq 9, 3) := by decide +kernel
theorem dX9_takeRanks_20 : decode cX9_takeRanks 20 = .ok (.aload_n 1, 1) := by decide +kernel
theorem dX9_takeRanks_21 : decode cX9_takeRanks 21 = .ok (.iconst 5, 1) := by decide +kernel
theorem dX9_takeRanks_22 : decode cX9_takeRanks 22 = .ok (.invokevirtual 78, 3) := by decide +kernel
theorem dX9_takeRanks_25 : decode cX9_takeRanks 25 = .ok (.ireturn, 1) := by decide +kernel
theorem dX9_takeRanks_26 : decode cX9_takeRanks 26 = .ok (.aload_n 0, 1) := by decide +kernel
theorem dX9_takeRanks_27 : decode cX9_takeRanks 27 = .ok (.iconst 1, 1) := by decide +kernel
theorem dX9_takeRanks_28 : decode cX9_takeRanks 28 = .ok (.putfield 14, 3) := by decide +kernel
theorem dX9_takeRanks_31 : decode cX9_takeRanks 31 = .ok (.aload_n 1, 1) := by decide +kernel
theorem dX9_takeRanks_32 : decode cX9_takeRanks 32 = .ok (.iconst 1, 1) := by decide +kernel
theorem dX9_takeRanks_33 : decode cX9_takeRanks 33 = .ok (.bipush 6, 2) := by decide +kernel
theorem dX9_takeRanks_35 : decode cX9_takeRanks 35 = .ok (.invokevirtual 82, 3) := by decide +kernel
theorem dX9_takeRanks_38 : decode cX9_takeRanks 38 = .ok (.ifCond .ne 5, 3) := by decide +kernel
theorem dX9_takeRanks_41 : decode cX9_takeRanks 41 = .ok (.iconst 0, 1) := by decide +kernel
theorem dX9_takeRanks_42 : decode cX9_takeRanks 42 = .ok (.ireturn, 1) := by decide +kernel
theorem dX9_takeRanks_43 : decode cX9_takeRanks 43 = .ok (.aload_n 2, 1) := by decide +kernel
theorem dX9_takeRanks_44 : decode cX9_takeRanks 44 = .ok (.aload_n 1, 1) := by decide +kernel
theorem dX9_takeRanks_45 : decode cX9_takeRanks 45 = .ok (.getfield 86, 3) := by decide +kernel
theorem dX9_takeRanks_48 : decode cX9_takeRanks 48 = .ok (.putfield 89, 3) := by decide +kernel
theorem dX9_takeRanks_51 : decode cX9_takeRanks 51 = .ok (.aload_n 1, 1) := by decide +kernel
theorem dX9_takeRanks_52 : decode cX9_takeRanks 52 = .ok (.bipush 59, 2) := by decide +kernel
theorem dX9_takeRanks_54 : decode cX9_takeRanks 54 = .ok (.invokevirtual 92, 3) := by decide +kernel
theorem dX9_takeRanks_57 : decode cX9_takeRanks 57 = .ok (.ireturn, 1) := by decide +kernel
theorem dX9_takeLaw_0 : decode cX9_takeLaw 0 = .ok (.aload_n 0, 1) := by decide +kernel
theorem dX9_takeLaw_1 : decode cX9_takeLaw 1 = .ok (.getfield 20, 3) := by decide +kernel
theorem dX9_takeLaw_4 : decode cX9_takeLaw 4 = .ok (.ifCond .eq 9, 3) := by decide +kernel
theorem dX9_takeLaw_7 : decode cX9_takeLaw 7 = .ok (.aload_n 1, 1) := by decide +kernel
theorem dX9_takeLaw_8 : decode cX9_takeLaw 8 = .ok (.iconst 5, 1) := by decide +kernel
theorem dX9_takeLaw_9 : decode cX9_takeLaw 9 = .ok (.invokevirtual 78, 3) := by decide +kernel
theorem dX9_takeLaw_12 : decode cX9_takeLaw 12 = .ok (.ireturn, 1) := by decide +kernel
theorem dX9_takeLaw_13 : decode cX9_takeLaw 13 = .ok (.aload_n 0, 1) := by decide +kernel
theorem dX9_takeLaw_14 : decode cX9_takeLaw 14 = .ok (.iconst 1, 1) := by decide +kernel
theorem dX9_takeLaw_15 : decode cX9_takeLaw 15 = .ok (.putfield 20, 3) := by decide +kernel
theorem dX9_takeLaw_18 : decode cX9_takeLaw 18 = .ok (.aload_n 1, 1) := by decide +kernel
theorem dX9_takeLaw_19 : decode cX9_takeLaw 19 = .ok (.iconst 0, 1) := by decide +kernel
theorem dX9_takeLaw_20 : decode cX9_takeLaw 20 = .ok (.iconst 2, 1) := by decide +kernel
theorem dX9_takeLaw_21 : decode cX9_takeLaw 21 = .ok (.invokevirtual 82, 3) := by decide +kernel
theorem dX9_takeLaw_24 : decode cX9_takeLaw 24 = .ok (.ifCond .ne 5, 3) := by decide +kernel
theorem dX9_takeLaw_27 : decode cX9_takeLaw 27 = .ok (.iconst 0, 1) := by decide +kernel
theorem dX9_takeLaw_28 : decode cX9_takeLaw 28 = .ok (.ireturn, 1) := by decide +kernel
theorem dX9_takeLaw_29 : decode cX9_takeLaw 29 = .ok (.aload_n 2, 1) := by decide +kernel
theorem dX9_takeLaw_30 : decode cX9_takeLaw 30 = .ok (.aload_n 1, 1) := by decide +kernel
theorem dX9_takeLaw_31 : decode cX9_takeLaw 31 = .ok (.getfield 86, 3) := by decide +kernel
theorem dX9_takeLaw_34 : decode cX9_takeLaw 34 = .ok (.putfield 95, 3) := by decide +kernel
theorem dX9_takeLaw_37 : decode cX9_takeLaw 37 = .ok (.aload_n 1, 1) := by decide +kernel
theorem dX9_takeLaw_38 : decode cX9_takeLaw 38 = .ok (.bipush 59, 2) := by decide +kernel
theorem dX9_takeLaw_40 : decode cX9_takeLaw 40 = .ok (.invokevirtual 92, 3) := by decide +kernel
theorem dX9_takeLaw_43 : decode cX9_takeLaw 43 = .ok (.ireturn, 1) := by decide +kernel
theorem dX9_takeRedeals_0 : decode cX9_takeRedeals 0 = .ok (.aload_n 0, 1) := by decide +kernel
theorem dX9_takeRedeals_1 : decode cX9_takeRedeals 1 = .ok (.getfield 23, 3) := by decide +kernel
theorem dX9_takeRedeals_4 : decode cX9_takeRedeals 4 = .ok (.ifCond .eq 9, 3) := by decide +kernel
theorem dX9_takeRedeals_7 : decode cX9_takeRedeals 7 = .ok (.aload_n 1, 1) := by decide +kernel
theorem dX9_takeRedeals_8 : decode cX9_takeRedeals 8 = .ok (.iconst 5, 1) := by decide +kernel
theorem dX9_takeRedeals_9 : decode cX9_takeRedeals 9 = .ok (.invokevirtual 78, 3) := by decide +kernel
theorem dX9_takeRedeals_12 : decode cX9_takeRedeals 12 = .ok (.ireturn, 1) := by decide +kernel
theorem dX9_takeRedeals_13 : decode cX9_takeRedeals 13 = .ok (.aload_n 0, 1) := by decide +kernel
theorem dX9_takeRedeals_14 : decode cX9_takeRedeals 14 = .ok (.iconst 1, 1) := by decide +kernel
theorem dX9_takeRedeals_15 : decode cX9_takeRedeals 15 = .ok (.putfield 23, 3) := by decide +kernel
theorem dX9_takeRedeals_18 : decode cX9_takeRedeals 18 = .ok (.aload_n 1, 1) := by decide +kernel
theorem dX9_takeRedeals_19 : decode cX9_takeRedeals 19 = .ok (.iconst 0, 1) := by decide +kernel
theorem dX9_takeRedeals_20 : decode cX9_takeRedeals 20 = .ok (.bipush 9, 2) := by decide +kernel
theorem dX9_takeRedeals_22 : decode cX9_takeRedeals 22 = .ok (.invokevirtual 82, 3) := by decide +kernel
theorem dX9_takeRedeals_25 : decode cX9_takeRedeals 25 = .ok (.ifCond .ne 5, 3) := by decide +kernel
theorem dX9_takeRedeals_28 : decode cX9_takeRedeals 28 = .ok (.iconst 0, 1) := by decide +kernel
theorem dX9_takeRedeals_29 : decode cX9_takeRedeals 29 = .ok (.ireturn, 1) := by decide +kernel
theorem dX9_takeRedeals_30 : decode cX9_takeRedeals 30 = .ok (.aload_n 2, 1) := by decide +kernel
theorem dX9_takeRedeals_31 : decode cX9_takeRedeals 31 = .ok (.aload_n 1, 1) := by decide +kernel
theorem dX9_takeRedeals_32 : decode cX9_takeRedeals 32 = .ok (.getfield 86, 3) := by decide +kernel
theorem dX9_takeRedeals_35 : decode cX9_takeRedeals 35 = .ok (.putfield 98, 3) := by decide +kernel
theorem dX9_takeRedeals_38 : decode cX9_takeRedeals 38 = .ok (.aload_n 1, 1) := by decide +kernel
theorem dX9_takeRedeals_39 : decode cX9_takeRedeals 39 = .ok (.bipush 59, 2) := by decide +kernel
theorem dX9_takeRedeals_41 : decode cX9_takeRedeals 41 = .ok (.invokevirtual 92, 3) := by decide +kernel
theorem dX9_takeRedeals_44 : decode cX9_takeRedeals 44 = .ok (.ireturn, 1) := by decide +kernel
theorem dX9_takeSuit_0 : decode cX9_takeSuit 0 = .ok (.aload_n 2, 1) := by decide +kernel
theorem dX9_takeSuit_1 : decode cX9_takeSuit 1 = .ok (.getfield 45, 3) := by decide +kernel
theorem dX9_takeSuit_4 : decode cX9_takeSuit 4 = .ok (.getfield 101, 3) := by decide +kernel
theorem dX9_takeSuit_7 : decode cX9_takeSuit 7 = .ok (.iconst 4, 1) := by decide +kernel
theorem dX9_takeSuit_8 : decode cX9_takeSuit 8 = .ok (.if_icmp .lt 10, 3) := by decide +kernel
theorem dX9_takeSuit_11 : decode cX9_takeSuit 11 = .ok (.aload_n 1, 1) := by decide +kernel
theorem dX9_takeSuit_12 : decode cX9_takeSuit 12 = .ok (.bipush 6, 2) := by decide +kernel
theorem dX9_takeSuit_14 : decode cX9_takeSuit 14 = .ok (.invokevirtual 78, 3) := by decide +kernel
theorem dX9_takeSuit_17 : decode cX9_takeSuit 17 = .ok (.ireturn, 1) := by decide +kernel
theorem dX9_takeSuit_18 : decode cX9_takeSuit 18 = .ok (.aload_n 0, 1) := by decide +kernel
theorem dX9_takeSuit_19 : decode cX9_takeSuit 19 = .ok (.aload_n 1, 1) := by decide +kernel
theorem dX9_takeSuit_20 : decode cX9_takeSuit 20 = .ok (.aload_n 2, 1) := by decide +kernel
theorem dX9_takeSuit_21 : decode cX9_takeSuit 21 = .ok (.invokevirtual 104, 3) := by decide +kernel
theorem dX9_takeSuit_24 : decode cX9_takeSuit 24 = .ok (.ifCond .ne 5, 3) := by decide +kernel
theorem dX9_takeSuit_27 : decode cX9_takeSuit 27 = .ok (.iconst 0, 1) := by decide +kernel
theorem dX9_takeSuit_28 : decode cX9_takeSuit 28 = .ok (.ireturn, 1) := by decide +kernel
theorem dX9_takeSuit_29 : decode cX9_takeSuit 29 = .ok (.aload_n 2, 1) := by decide +kernel
theorem dX9_takeSuit_30 : decode cX9_takeSuit 30 = .ok (.getfield 45, 3) := by decide +kernel
theorem dX9_takeSuit_33 : decode cX9_takeSuit 33 = .ok (.getfield 101, 3) := by decide +kernel
theorem dX9_takeSuit_36 : decode cX9_takeSuit 36 = .ok (.istore_n 3, 1) := by decide +kernel
theorem dX9_takeSuit_37 : decode cX9_takeSuit 37 = .ok (.aload_n 2, 1) := by decide +kernel
theorem dX9_takeSuit_38 : decode cX9_takeSuit 38 = .ok (.aload_n 1, 1) := by decide +kernel
theorem dX9_takeSuit_39 : decode cX9_takeSuit 39 = .ok (.getfield 107, 3) := by decide +kernel
theorem dX9_takeSuit_42 : decode cX9_takeSuit 42 = .ok (.invokevirtual 111, 3) := by decide +kernel
theorem dX9_takeSuit_45 : decode cX9_takeSuit 45 = .ok (.aload_n 1, 1) := by decide +kernel
theorem dX9_takeSuit_46 : decode cX9_takeSuit 46 = .ok (.invokevirtual 33, 3) := by decide +kernel
theorem dX9_takeSuit_49 : decode cX9_takeSuit 49 = .ok (.ifCond .ne 5, 3) := by decide +kernel
theorem dX9_takeSuit_52 : decode cX9_takeSuit 52 = .ok (.iconst 0, 1) := by decide +kernel
theorem dX9_takeSuit_53 : decode cX9_takeSuit 53 = .ok (.ireturn, 1) := by decide +kernel
theorem dX9_takeSuit_54 : decode cX9_takeSuit 54 = .ok (.aload_n 1, 1) := by decide +kernel
theorem dX9_takeSuit_55 : decode cX9_takeSuit 55 = .ok (.getfield 42, 3) := by decide +kernel
theorem dX9_takeSuit_58 : decode cX9_takeSuit 58 = .ok (.iconst 2, 1) := by decide +kernel
theorem dX9_takeSuit_59 : decode cX9_takeSuit 59 = .ok (.if_icmp .ne 25, 3) := by decide +kernel
theorem dX9_takeSuit_62 : decode cX9_takeSuit 62 = .ok (.aload_n 2, 1) := by decide +kernel
theorem dX9_takeSuit_63 : decode cX9_takeSuit 63 = .ok (.getfield 45, 3) := by decide +kernel
theorem dX9_takeSuit_66 : decode cX9_takeSuit 66 = .ok (.dup, 1) := by decide +kernel
theorem dX9_takeSuit_67 : decode cX9_takeSuit 67 = .ok (.getfield 115, 3) := by decide +kernel
theorem dX9_takeSuit_70 : decode cX9_takeSuit 70 = .ok (.iconst 1, 1) := by decide +kernel
theorem dX9_takeSuit_71 : decode cX9_takeSuit 71 = .ok (.iload_n 3, 1) := by decide +kernel
theorem dX9_takeSuit_72 : decode cX9_takeSuit 72 = .ok (.ishl, 1) := by decide +kernel
theorem dX9_takeSuit_73 : decode cX9_takeSuit 73 = .ok (.ior, 1) := by decide +kernel
theorem dX9_takeSuit_74 : decode cX9_takeSuit 74 = .ok (.putfield 115, 3) := by decide +kernel
theorem dX9_takeSuit_77 : decode cX9_takeSuit 77 = .ok (.aload_n 1, 1) := by decide +kernel
theorem dX9_takeSuit_78 : decode cX9_takeSuit 78 = .ok (.bipush 59, 2) := by decide +kernel
theorem dX9_takeSuit_80 : decode cX9_takeSuit 80 = .ok (.invokevirtual 92, 3) := by decide +kernel
theorem dX9_takeSuit_83 : decode cX9_takeSuit 83 = .ok (.ireturn, 1) := by decide +kernel
theorem dX9_takeSuit_84 : decode cX9_takeSuit 84 = .ok (.aload_n 1, 1) := by decide +kernel
theorem dX9_takeSuit_85 : decode cX9_takeSuit 85 = .ok (.bipush 59, 2) := by decide +kernel
theorem dX9_takeSuit_87 : decode cX9_takeSuit 87 = .ok (.invokevirtual 118, 3) := by decide +kernel
theorem dX9_takeSuit_90 : decode cX9_takeSuit 90 = .ok (.ifCond .ne 11, 3) := by decide +kernel
theorem dX9_takeSuit_93 : decode cX9_takeSuit 93 = .ok (.aload_n 1, 1) := by decide +kernel
theorem dX9_takeSuit_94 : decode cX9_takeSuit 94 = .ok (.iconst 2, 1) := by decide +kernel
theorem dX9_takeSuit_95 : decode cX9_takeSuit 95 = .ok (.invokevirtual 78, 3) := by decide +kernel
theorem dX9_takeSuit_98 : decode cX9_takeSuit 98 = .ok (.ifCond .eq 7, 3) := by decide +kernel
theorem dX9_takeSuit_101 : decode cX9_takeSuit 101 = .ok (.iconst 1, 1) := by decide +kernel
theorem dX9_takeSuit_102 : decode cX9_takeSuit 102 = .ok (.goto 4, 3) := by decide +kernel
theorem dX9_takeSuit_105 : decode cX9_takeSuit 105 = .ok (.iconst 0, 1) := by decide +kernel
theorem dX9_takeSuit_106 : decode cX9_takeSuit 106 = .ok (.ireturn, 1) := by decide +kernel
theorem dX9_wantNewName_0 : decode cX9_wantNewName 0 = .ok (.aload_n 1, 1) := by decide +kernel
theorem dX9_wantNewName_1 : decode cX9_wantNewName 1 = .ok (.invokevirtual 121, 3) := by decide +kernel
theorem dX9_wantNewName_4 : decode cX9_wantNewName 4 = .ok (.ifCond .ne 5, 3) := by decide +kernel
theorem dX9_wantNewName_7 : decode cX9_wantNewName 7 = .ok (.iconst 0, 1) := by decide +kernel
theorem dX9_wantNewName_8 : decode cX9_wantNewName 8 = .ok (.ireturn, 1) := by decide +kernel
theorem dX9_wantNewName_9 : decode cX9_wantNewName 9 = .ok (.aload_n 2, 1) := by decide +kernel
theorem dX9_wantNewName_10 : decode cX9_wantNewName 10 = .ok (.aload_n 1, 1) := by decide +kernel
theorem dX9_wantNewName_11 : decode cX9_wantNewName 11 = .ok (.getfield 107, 3) := by decide +kernel
theorem dX9_wantNewName_14 : decode cX9_wantNewName 14 = .ok (.invokevirtual 124, 3) := by decide +kernel
theorem dX9_wantNewName_17 : decode cX9_wantNewName 17 = .ok (.iconst (-1), 1) := by decide +kernel
theorem dX9_wantNewName_18 : decode cX9_wantNewName 18 = .ok (.if_icmp .ne 15, 3) := by decide +kernel
theorem dX9_wantNewName_21 : decode cX9_wantNewName 21 = .ok (.aload_n 2, 1) := by decide +kernel
theorem dX9_wantNewName_22 : decode cX9_wantNewName 22 = .ok (.aload_n 1, 1) := by decide +kernel
theorem dX9_wantNewName_23 : decode cX9_wantNewName 23 = .ok (.getfield 107, 3) := by decide +kernel
theorem dX9_wantNewName_26 : decode cX9_wantNewName 26 = .ok (.invokevirtual 128, 3) := by decide +kernel
theorem dX9_wantNewName_29 : decode cX9_wantNewName 29 = .ok (.iconst (-1), 1) := by decide +kernel
theorem dX9_wantNewName_30 : decode cX9_wantNewName 30 = .ok (.if_icmp .eq 7, 3) := by decide +kernel
theorem dX9_wantNewName_33 : decode cX9_wantNewName 33 = .ok (.iconst 1, 1) := by decide +kernel
theorem dX9_wantNewName_34 : decode cX9_wantNewName 34 = .ok (.goto 4, 3) := by decide +kernel
theorem dX9_wantNewName_37 : decode cX9_wantNewName 37 = .ok (.iconst 0, 1) := by decide +kernel
theorem dX9_wantNewName_38 : decode cX9_wantNewName 38 = .ok (.istore_n 3, 1) := by decide +kernel
theorem dX9_wantNewName_39 : decode cX9_wantNewName 39 = .ok (.iload_n 3, 1) := by decide +kernel
theorem dX9_wantNewName_40 : decode cX9_wantNewName 40 = .ok (.ifCond .eq 11, 3) := by decide +kernel
theorem dX9_wantNewName_43 : decode cX9_wantNewName 43 = .ok (.aload_n 1, 1) := by decide +kernel
theorem dX9_wantNewName_44 : decode cX9_wantNewName 44 = .ok (.iconst 3, 1) := by decide +kernel
theorem dX9_wantNewName_45 : decode cX9_wantNewName 45 = .ok (.invokevirtual 78, 3) := by decide +kernel
theorem dX9_wantNewName_48 : decode cX9_wantNewName 48 = .ok (.ifCond .eq 7, 3) := by decide +kernel
theorem dX9_wantNewName_51 : decode cX9_wantNewName 51 = .ok (.iconst 1, 1) := by decide +kernel
theorem dX9_wantNewName_52 : decode cX9_wantNewName 52 = .ok (.goto 4, 3) := by decide +kernel
theorem dX9_wantNewName_55 : decode cX9_wantNewName 55 = .ok (.iconst 0, 1) := by decide +kernel
theorem dX9_wantNewName_56 : decode cX9_wantNewName 56 = .ok (.ireturn, 1) := by decide +kernel
theorem dX9_addRow_0 : decode cX9_addRow 0 = .ok (.aload_n 1, 1) := by decide +kernel
theorem dX9_addRow_1 : decode cX9_addRow 1 = .ok (.getfield 66, 3) := by decide +kernel
theorem dX9_addRow_4 : decode cX9_addRow 4 = .ok (.bipush 6, 2) := by decide +kernel
theorem dX9_addRow_6 : decode cX9_addRow 6 = .ok (.if_icmp .lt 10, 3) := by decide +kernel
theorem dX9_addRow_9 : decode cX9_addRow 9 = .ok (.aload_n 0, 1) := by decide +kernel
theorem dX9_addRow_10 : decode cX9_addRow 10 = .ok (.bipush 6, 2) := by decide +kernel
theorem dX9_addRow_12 : decode cX9_addRow 12 = .ok (.invokevirtual 78, 3) := by decide +kernel
theorem dX9_addRow_15 : decode cX9_addRow 15 = .ok (.ireturn, 1) := by decide +kernel
theorem dX9_addRow_16 : decode cX9_addRow 16 = .ok (.aload_n 1, 1) := by decide +kernel
theorem dX9_addRow_17 : decode cX9_addRow 17 = .ok (.dup, 1) := by decide +kernel
theorem dX9_addRow_18 : decode cX9_addRow 18 = .ok (.getfield 66, 3) := by decide +kernel
theorem dX9_addRow_21 : decode cX9_addRow 21 = .ok (.iconst 1, 1) := by decide +kernel
theorem dX9_addRow_22 : decode cX9_addRow 22 = .ok (.iadd, 1) := by decide +kernel
theorem dX9_addRow_23 : decode cX9_addRow 23 = .ok (.putfield 66, 3) := by decide +kernel
theorem dX9_addRow_26 : decode cX9_addRow 26 = .ok (.iconst 1, 1) := by decide +kernel
theorem dX9_addRow_27 : decode cX9_addRow 27 = .ok (.ireturn, 1) := by decide +kernel
theorem dX9_takeCards_0 : decode cX9_takeCards 0 = .ok (.aload_n 0, 1) := by decide +kernel
theorem dX9_takeCards_1 : decode cX9_takeCards 1 = .ok (.iconst 1, 1) := by decide +kernel
theorem dX9_takeCards_2 : decode cX9_takeCards 2 = .ok (.putfield 26, 3) := by decide +kernel
theorem dX9_takeCards_5 : decode cX9_takeCards 5 = .ok (.iconst 0, 1) := by decide +kernel
theorem dX9_takeCards_6 : decode cX9_takeCards 6 = .ok (.istore 4, 2) := by decide +kernel
theorem dX9_takeCards_8 : decode cX9_takeCards 8 = .ok (.iload 4, 2) := by decide +kernel
theorem dX9_takeCards_10 : decode cX9_takeCards 10 = .ok (.sipush 900, 3) := by decide +kernel
theorem dX9_takeCards_13 : decode cX9_takeCards 13 = .ok (.if_icmp .gt 41, 3) := by decide +kernel
theorem dX9_takeCards_16 : decode cX9_takeCards 16 = .ok (.aload_n 1, 1) := by decide +kernel
theorem dX9_takeCards_17 : decode cX9_takeCards 17 = .ok (.invokevirtual 33, 3) := by decide +kernel
theorem dX9_takeCards_20 : decode cX9_takeCards 20 = .ok (.ifCond .ne 5, 3) := by decide +kernel
theorem dX9_takeCards_23 : decode cX9_takeCards 23 = .ok (.iconst 0, 1) := by decide +kernel
theorem dX9_takeCards_24 : decode cX9_takeCards 24 = .ok (.ireturn, 1) := by decide +kernel
theorem dX9_takeCards_25 : decode cX9_takeCards 25 = .ok (.aload_n 1, 1) := by decide +kernel
theorem dX9_takeCards_26 : decode cX9_takeCards 26 = .ok (.bipush 59, 2) := by decide +kernel
theorem dX9_takeCards_28 : decode cX9_takeCards 28 = .ok (.invokevirtual 118, 3) := by decide +kernel
theorem dX9_takeCards_31 : decode cX9_takeCards 31 = .ok (.ifCond .eq 5, 3) := by decide +kernel
theorem dX9_takeCards_34 : decode cX9_takeCards 34 = .ok (.iconst 1, 1) := by decide +kernel
theorem dX9_takeCards_35 : decode cX9_takeCards 35 = .ok (.ireturn, 1) := by decide +kernel
theorem dX9_takeCards_36 : decode cX9_takeCards 36 = .ok (.aload_n 0, 1) := by decide +kernel
theorem dX9_takeCards_37 : decode cX9_takeCards 37 = .ok (.aload_n 1, 1) := by decide +kernel
theorem dX9_takeCards_38 : decode cX9_takeCards 38 = .ok (.aload_n 2, 1) := by decide +kernel
theorem dX9_takeCards_39 : decode cX9_takeCards 39 = .ok (.iload_n 3, 1) := by decide +kernel
theorem dX9_takeCards_40 : decode cX9_takeCards 40 = .ok (.invokevirtual 131, 3) := by decide +kernel
theorem dX9_takeCards_43 : decode cX9_takeCards 43 = .ok (.ifCond .ne 5, 3) := by decide +kernel
theorem dX9_takeCards_46 : decode cX9_takeCards 46 = .ok (.iconst 0, 1) := by decide +kernel
theorem dX9_takeCards_47 : decode cX9_takeCards 47 = .ok (.ireturn, 1) := by decide +kernel
theorem dX9_takeCards_48 : decode cX9_takeCards 48 = .ok (.iinc 4 1, 3) := by decide +kernel
theorem dX9_takeCards_51 : decode cX9_takeCards 51 = .ok (.goto (-43), 3) := by decide +kernel
theorem dX9_takeCards_54 : decode cX9_takeCards 54 = .ok (.aload_n 1, 1) := by decide +kernel
theorem dX9_takeCards_55 : decode cX9_takeCards 55 = .ok (.iconst 2, 1) := by decide +kernel
theorem dX9_takeCards_56 : decode cX9_takeCards 56 = .ok (.invokevirtual 78, 3) := by decide +kernel
theorem dX9_takeCards_59 : decode cX9_takeCards 59 = .ok (.ireturn, 1) := by decide +kernel
theorem dX9_takeCard_0 : decode cX9_takeCard 0 = .ok (.aload_n 1, 1) := by decide +kernel
theorem dX9_takeCard_1 : decode cX9_takeCard 1 = .ok (.invokevirtual 134, 3) := by decide +kernel
theorem dX9_takeCard_4 : decode cX9_takeCard 4 = .ok (.ifCond .ne 9, 3) := by decide +kernel
theorem dX9_takeCard_7 : decode cX9_takeCard 7 = .ok (.aload_n 1, 1) := by decide +kernel
theorem dX9_takeCard_8 : decode cX9_takeCard 8 = .ok (.iconst 2, 1) := by decide +kernel
theorem dX9_takeCard_9 : decode cX9_takeCard 9 = .ok (.invokevirtual 78, 3) := by decide +kernel
theorem dX9_takeCard_12 : decode cX9_takeCard 12 = .ok (.ireturn, 1) := by decide +kernel
theorem dX9_takeCard_13 : decode cX9_takeCard 13 = .ok (.aload_n 2, 1) := by decide +kernel
theorem dX9_takeCard_14 : decode cX9_takeCard 14 = .ok (.aload_n 1, 1) := by decide +kernel
theorem dX9_takeCard_15 : decode cX9_takeCard 15 = .ok (.getfield 107, 3) := by decide +kernel
theorem dX9_takeCard_18 : decode cX9_takeCard 18 = .ok (.invokevirtual 124, 3) := by decide +kernel
theorem dX9_takeCard_21 : decode cX9_takeCard 21 = .ok (.istore 4, 2) := by decide +kernel
theorem dX9_takeCard_23 : decode cX9_takeCard 23 = .ok (.iload 4, 2) := by decide +kernel
theorem dX9_takeCard_25 : decode cX9_takeCard 25 = .ok (.iconst (-1), 1) := by decide +kernel
theorem dX9_takeCard_26 : decode cX9_takeCard 26 = .ok (.if_icmp .ne 9, 3) := by decide +kernel
theorem dX9_takeCard_29 : decode cX9_takeCard 29 = .ok (.aload_n 1, 1) := by decide +kernel
theorem dX9_takeCard_30 : decode cX9_takeCard 30 = .ok (.iconst 3, 1) := by decide +kernel
theorem dX9_takeCard_31 : decode cX9_takeCard 31 = .ok (.invokevirtual 78, 3) := by decide +kernel
theorem dX9_takeCard_34 : decode cX9_takeCard 34 = .ok (.ireturn, 1) := by decide +kernel
theorem dX9_takeCard_35 : decode cX9_takeCard 35 = .ok (.iload_n 3, 1) := by decide +kernel
theorem dX9_takeCard_36 : decode cX9_takeCard 36 = .ok (.ifCond .lt 13, 3) := by decide +kernel
theorem dX9_takeCard_39 : decode cX9_takeCard 39 = .ok (.iload_n 3, 1) := by decide +kernel
theorem dX9_takeCard_40 : decode cX9_takeCard 40 = .ok (.bipush 6, 2) := by decide +kernel
theorem dX9_takeCard_42 : decode cX9_takeCard 42 = .ok (.if_icmp .ge 7, 3) := by decide +kernel
theorem dX9_takeCard_45 : decode cX9_takeCard 45 = .ok (.iconst 1, 1) := by decide +kernel
theorem dX9_takeCard_46 : decode cX9_takeCard 46 = .ok (.goto 4, 3) := by decide +kernel
theorem dX9_takeCard_49 : decode cX9_takeCard 49 = .ok (.iconst 0, 1) := by decide +kernel
theorem dX9_takeCard_50 : decode cX9_takeCard 50 = .ok (.istore 5, 2) := by decide +kernel
theorem dX9_takeCard_52 : decode cX9_takeCard 52 = .ok (.iload 5, 2) := by decide +kernel
theorem dX9_takeCard_54 : decode cX9_takeCard 54 = .ok (.ifCond .eq 24, 3) := by decide +kernel
theorem dX9_takeCard_57 : decode cX9_takeCard 57 = .ok (.aload_n 2, 1) := by decide +kernel
theorem dX9_takeCard_58 : decode cX9_takeCard 58 = .ok (.getfield 45, 3) := by decide +kernel
theorem dX9_takeCard_61 : decode cX9_takeCard 61 = .ok (.getfield 137, 3) := by decide +kernel
theorem dX9_takeCard_64 : decode cX9_takeCard 64 = .ok (.iload_n 3, 1) := by decide +kernel
theorem dX9_takeCard_65 : decode cX9_takeCard 65 = .ok (.iaload, 1) := by decide +kernel
theorem dX9_takeCard_66 : decode cX9_takeCard 66 = .ok (.bipush 12, 2) := by decide +kernel
theorem dX9_takeCard_68 : decode cX9_takeCard 68 = .ok (.if_icmp .lt 10, 3) := by decide +kernel
theorem dX9_takeCard_71 : decode cX9_takeCard 71 = .ok (.aload_n 1, 1) := by decide +kernel
theorem dX9_takeCard_72 : decode cX9_takeCard 72 = .ok (.bipush 6, 2) := by decide +kernel
theorem dX9_takeCard_74 : decode cX9_takeCard 74 = .ok (.invokevirtual 78, 3) := by decide +kernel
theorem dX9_takeCard_77 : decode cX9_takeCard 77 = .ok (.ireturn, 1) := by decide +kernel
theorem dX9_takeCard_78 : decode cX9_takeCard 78 = .ok (.aload_n 1, 1) := by decide +kernel
theorem dX9_takeCard_79 : decode cX9_takeCard 79 = .ok (.iconst 1, 1) := by decide +kernel
theorem dX9_takeCard_80 : decode cX9_takeCard 80 = .ok (.aload_n 2, 1) := by decide +kernel
theorem dX9_takeCard_81 : decode cX9_takeCard 81 = .ok (.getfield 45, 3) := by decide +kernel
theorem dX9_takeCard_84 : decode cX9_takeCard 84 = .ok (.getfield 89, 3) := by decide +kernel
theorem dX9_takeCard_87 : decode cX9_takeCard 87 = .ok (.invokevirtual 82, 3) := by decide +kernel
theorem dX9_takeCard_90 : decode cX9_takeCard 90 = .ok (.ifCond .ne 5, 3) := by decide +kernel
theorem dX9_takeCard_93 : decode cX9_takeCard 93 = .ok (.iconst 0, 1) := by decide +kernel
theorem dX9_takeCard_94 : decode cX9_takeCard 94 = .ok (.ireturn, 1) := by decide +kernel
theorem dX9_takeCard_95 : decode cX9_takeCard 95 = .ok (.bipush 6, 2) := by decide +kernel
theorem dX9_takeCard_97 : decode cX9_takeCard 97 = .ok (.iload 4, 2) := by decide +kernel
theorem dX9_takeCard_99 : decode cX9_takeCard 99 = .ok (.imul, 1) := by decide +kernel
theorem dX9_takeCard_100 : decode cX9_takeCard 100 = .ok (.aload_n 1, 1) := by decide +kernel
theorem dX9_takeCard_101 : decode cX9_takeCard 101 = .ok (.getfield 86, 3) := by decide +kernel
theorem dX9_takeCard_104 : decode cX9_takeCard 104 = .ok (.iadd, 1) := by decide +kernel
theorem dX9_takeCard_105 : decode cX9_takeCard 105 = .ok (.iconst 1, 1) := by decide +kernel
theorem dX9_takeCard_106 : decode cX9_takeCard 106 = .ok (.isub, 1) := by decide +kernel
theorem dX9_takeCard_107 : decode cX9_takeCard 107 = .ok (.istore 6, 2) := by decide +kernel
theorem dX9_takeCard_109 : decode cX9_takeCard 109 = .ok (.aload_n 0, 1) := by decide +kernel
theorem dX9_takeCard_110 : decode cX9_takeCard 110 = .ok (.getfield 29, 3) := by decide +kernel
theorem dX9_takeCard_113 : decode cX9_takeCard 113 = .ok (.iload 6, 2) := by decide +kernel
theorem dX9_takeCard_115 : decode cX9_takeCard 115 = .ok (.ishr, 1) := by decide +kernel
theorem dX9_takeCard_116 : decode cX9_takeCard 116 = .ok (.iconst 1, 1) := by decide +kernel
theorem dX9_takeCard_117 : decode cX9_takeCard 117 = .ok (.iand, 1) := by decide +kernel
theorem dX9_takeCard_118 : decode cX9_takeCard 118 = .ok (.iconst 1, 1) := by decide +kernel
theorem dX9_takeCard_119 : decode cX9_takeCard 119 = .ok (.if_icmp .ne 9, 3) := by decide +kernel
theorem dX9_takeCard_122 : decode cX9_takeCard 122 = .ok (.aload_n 1, 1) := by decide +kernel
theorem dX9_takeCard_123 : decode cX9_takeCard 123 = .ok (.iconst 5, 1) := by decide +kernel
theorem dX9_takeCard_124 : decode cX9_takeCard 124 = .ok (.invokevirtual 78, 3) := by decide +kernel
theorem dX9_takeCard_127 : decode cX9_takeCard 127 = .ok (.ireturn, 1) := by decide +kernel
theorem dX9_takeCard_128 : decode cX9_takeCard 128 = .ok (.aload_n 0, 1) := by decide +kernel
theorem dX9_takeCard_129 : decode cX9_takeCard 129 = .ok (.dup, 1) := by decide +kernel
theorem dX9_takeCard_130 : decode cX9_takeCard 130 = .ok (.getfield 29, 3) := by decide +kernel
theorem dX9_takeCard_133 : decode cX9_takeCard 133 = .ok (.iconst 1, 1) := by decide +kernel
theorem dX9_takeCard_134 : decode cX9_takeCard 134 = .ok (.iload 6, 2) := by decide +kernel
theorem dX9_takeCard_136 : decode cX9_takeCard 136 = .ok (.ishl, 1) := by decide +kernel
theorem dX9_takeCard_137 : decode cX9_takeCard 137 = .ok (.ior, 1) := by decide +kernel
theorem dX9_takeCard_138 : decode cX9_takeCard 138 = .ok (.putfield 29, 3) := by decide +kernel
theorem dX9_takeCard_141 : decode cX9_takeCard 141 = .ok (.iload 5, 2) := by decide +kernel
theorem dX9_takeCard_143 : decode cX9_takeCard 143 = .ok (.ifCond .eq 16, 3) := by decide +kernel
theorem dX9_takeCard_146 : decode cX9_takeCard 146 = .ok (.aload_n 2, 1) := by decide +kernel
theorem dX9_takeCard_147 : decode cX9_takeCard 147 = .ok (.getfield 45, 3) := by decide +kernel
theorem dX9_takeCard_150 : decode cX9_takeCard 150 = .ok (.iload_n 3, 1) := by decide +kernel
theorem dX9_takeCard_151 : decode cX9_takeCard 151 = .ok (.iload 6, 2) := by decide +kernel
theorem dX9_takeCard_153 : decode cX9_takeCard 153 = .ok (.invokevirtual 141, 3) := by decide +kernel
theorem dX9_takeCard_156 : decode cX9_takeCard 156 = .ok (.goto 12, 3) := by decide +kernel
theorem dX9_takeCard_159 : decode cX9_takeCard 159 = .ok (.aload_n 2, 1) := by decide +kernel
theorem dX9_takeCard_160 : decode cX9_takeCard 160 = .ok (.getfield 45, 3) := by decide +kernel
theorem dX9_takeCard_163 : decode cX9_takeCard 163 = .ok (.iload 6, 2) := by decide +kernel
theorem dX9_takeCard_165 : decode cX9_takeCard 165 = .ok (.invokevirtual 145, 3) := by decide +kernel
theorem dX9_takeCard_168 : decode cX9_takeCard 168 = .ok (.iconst 1, 1) := by decide +kernel
theorem dX9_takeCard_169 : decode cX9_takeCard 169 = .ok (.ireturn, 1) := by decide +kernel
theorem dX9_takeField_0 : decode cX9_takeField 0 = .ok (.aload_n 2, 1) := by decide +kernel
theorem dX9_takeField_1 : decode cX9_takeField 1 = .ok (.getfield 149, 3) := by decide +kernel
theorem dX9_takeField_4 : decode cX9_takeField 4 = .ok (.bipush 6, 2) := by decide +kernel
theorem dX9_takeField_6 : decode cX9_takeField 6 = .ok (.if_icmp .lt 10, 3) := by decide +kernel
theorem dX9_takeField_9 : decode cX9_takeField 9 = .ok (.aload_n 1, 1) := by decide +kernel
theorem dX9_takeField_10 : decode cX9_takeField 10 = .ok (.bipush 6, 2) := by decide +kernel
theorem dX9_takeField_12 : decode cX9_takeField 12 = .ok (.invokevirtual 78, 3) := by decide +kernel
theorem dX9_takeField_15 : decode cX9_takeField 15 = .ok (.ireturn, 1) := by decide +kernel
theorem dX9_takeField_16 : decode cX9_takeField 16 = .ok (.aload_n 0, 1) := by decide +kernel
theorem dX9_takeField_17 : decode cX9_takeField 17 = .ok (.aload_n 1, 1) := by decide +kernel
theorem dX9_takeField_18 : decode cX9_takeField 18 = .ok (.aload_n 2, 1) := by decide +kernel
theorem dX9_takeField_19 : decode cX9_takeField 19 = .ok (.invokevirtual 104, 3) := by decide +kernel
theorem dX9_takeField_22 : decode cX9_takeField 22 = .ok (.ifCond .ne 5, 3) := by decide +kernel
theorem dX9_takeField_25 : decode cX9_takeField 25 = .ok (.iconst 0, 1) := by decide +kernel
theorem dX9_takeField_26 : decode cX9_takeField 26 = .ok (.ireturn, 1) := by decide +kernel
theorem dX9_takeField_27 : decode cX9_takeField 27 = .ok (.aload_n 1, 1) := by decide +kernel
theorem dX9_takeField_28 : decode cX9_takeField 28 = .ok (.getfield 107, 3) := by decide +kernel
theorem dX9_takeField_31 : decode cX9_takeField 31 = .ok (.lstore_n 3, 1) := by decide +kernel
theorem dX9_takeField_32 : decode cX9_takeField 32 = .ok (.aload_n 1, 1) := by decide +kernel
theorem dX9_takeField_33 : decode cX9_takeField 33 = .ok (.bipush 8, 2) := by decide +kernel
theorem dX9_takeField_35 : decode cX9_takeField 35 = .ok (.invokevirtual 152, 3) := by decide +kernel
theorem dX9_takeField_38 : decode cX9_takeField 38 = .ok (.ifCond .eq 10, 3) := by decide +kernel
theorem dX9_takeField_41 : decode cX9_takeField 41 = .ok (.aload_n 1, 1) := by decide +kernel
theorem dX9_takeField_42 : decode cX9_takeField 42 = .ok (.invokevirtual 121, 3) := by decide +kernel
theorem dX9_takeField_45 : decode cX9_takeField 45 = .ok (.ifCond .ne 5, 3) := by decide +kernel
theorem dX9_takeField_48 : decode cX9_takeField 48 = .ok (.iconst 0, 1) := by decide +kernel
theorem dX9_takeField_49 : decode cX9_takeField 49 = .ok (.ireturn, 1) := by decide +kernel
theorem dX9_takeField_50 : decode cX9_takeField 50 = .ok (.aload_n 2, 1) := by decide +kernel
theorem dX9_takeField_51 : decode cX9_takeField 51 = .ok (.aload_n 1, 1) := by decide +kernel
theorem dX9_takeField_52 : decode cX9_takeField 52 = .ok (.getfield 107, 3) := by decide +kernel
theorem dX9_takeField_55 : decode cX9_takeField 55 = .ok (.invokevirtual 124, 3) := by decide +kernel
theorem dX9_takeField_58 : decode cX9_takeField 58 = .ok (.istore 5, 2) := by decide +kernel
theorem dX9_takeField_60 : decode cX9_takeField 60 = .ok (.iload 5, 2) := by decide +kernel
theorem dX9_takeField_62 : decode cX9_takeField 62 = .ok (.iconst (-1), 1) := by decide +kernel
theorem dX9_takeField_63 : decode cX9_takeField 63 = .ok (.if_icmp .ne 9, 3) := by decide +kernel
theorem dX9_takeField_66 : decode cX9_takeField 66 = .ok (.aload_n 1, 1) := by decide +kernel
theorem dX9_takeField_67 : decode cX9_takeField 67 = .ok (.iconst 3, 1) := by decide +kernel
theorem dX9_takeField_68 : decode cX9_takeField 68 = .ok (.invokevirtual 78, 3) := by decide +kernel
theorem dX9_takeField_71 : decode cX9_takeField 71 = .ok (.ireturn, 1) := by decide +kernel
theorem dX9_takeField_72 : decode cX9_takeField 72 = .ok (.aload_n 1, 1) := by decide +kernel
theorem dX9_takeField_73 : decode cX9_takeField 73 = .ok (.bipush 9, 2) := by decide +kernel
theorem dX9_takeField_75 : decode cX9_takeField 75 = .ok (.invokevirtual 152, 3) := by decide +kernel
theorem dX9_takeField_78 : decode cX9_takeField 78 = .ok (.ifCond .eq 13, 3) := by decide +kernel
theorem dX9_takeField_81 : decode cX9_takeField 81 = .ok (.aload_n 1, 1) := by decide +kernel
theorem dX9_takeField_82 : decode cX9_takeField 82 = .ok (.iconst 0, 1) := by decide +kernel
theorem dX9_takeField_83 : decode cX9_takeField 83 = .ok (.bipush 20, 2) := by decide +kernel
theorem dX9_takeField_85 : decode cX9_takeField 85 = .ok (.invokevirtual 82, 3) := by decide +kernel
theorem dX9_takeField_88 : decode cX9_takeField 88 = .ok (.ifCond .ne 5, 3) := by decide +kernel
theorem dX9_takeField_91 : decode cX9_takeField 91 = .ok (.iconst 0, 1) := by decide +kernel
theorem dX9_takeField_92 : decode cX9_takeField 92 = .ok (.ireturn, 1) := by decide +kernel
theorem dX9_takeField_93 : decode cX9_takeField 93 = .ok (.aload_n 2, 1) := by decide +kernel
theorem dX9_takeField_94 : decode cX9_takeField 94 = .ok (.getfield 149, 3) := by decide +kernel
theorem dX9_takeField_97 : decode cX9_takeField 97 = .ok (.istore 6, 2) := by decide +kernel
theorem dX9_takeField_99 : decode cX9_takeField 99 = .ok (.aload_n 2, 1) := by decide +kernel
theorem dX9_takeField_100 : decode cX9_takeField 100 = .ok (.lload_n 3, 1) := by decide +kernel
theorem dX9_takeField_101 : decode cX9_takeField 101 = .ok (.iload 5, 2) := by decide +kernel
theorem dX9_takeField_103 : decode cX9_takeField 103 = .ok (.aload_n 1, 1) := by decide +kernel
theorem dX9_takeField_104 : decode cX9_takeField 104 = .ok (.getfield 86, 3) := by decide +kernel
theorem dX9_takeField_107 : decode cX9_takeField 107 = .ok (.invokevirtual 155, 3) := by decide +kernel
theorem dX9_takeField_110 : decode cX9_takeField 110 = .ok (.aload_n 0, 1) := by decide +kernel
theorem dX9_takeField_111 : decode cX9_takeField 111 = .ok (.aload_n 1, 1) := by decide +kernel
theorem dX9_takeField_112 : decode cX9_takeField 112 = .ok (.aload_n 2, 1) := by decide +kernel
theorem dX9_takeField_113 : decode cX9_takeField 113 = .ok (.iload 6, 2) := by decide +kernel
theorem dX9_takeField_115 : decode cX9_takeField 115 = .ok (.invokevirtual 159, 3) := by decide +kernel
theorem dX9_takeField_118 : decode cX9_takeField 118 = .ok (.ireturn, 1) := by decide +kernel
theorem dX9_takeWater_0 : decode cX9_takeWater 0 = .ok (.aload_n 1, 1) := by decide +kernel
theorem dX9_takeWater_1 : decode cX9_takeWater 1 = .ok (.invokevirtual 33, 3) := by decide +kernel
theorem dX9_takeWater_4 : decode cX9_takeWater 4 = .ok (.ifCond .ne 5, 3) := by decide +kernel
theorem dX9_takeWater_7 : decode cX9_takeWater 7 = .ok (.iconst 0, 1) := by decide +kernel
theorem dX9_takeWater_8 : decode cX9_takeWater 8 = .ok (.ireturn, 1) := by decide +kernel
theorem dX9_takeWater_9 : decode cX9_takeWater 9 = .ok (.aload_n 1, 1) := by decide +kernel
theorem dX9_takeWater_10 : decode cX9_takeWater 10 = .ok (.getfield 42, 3) := by decide +kernel
theorem dX9_takeWater_13 : decode cX9_takeWater 13 = .ok (.bipush 10, 2) := by decide +kernel
theorem dX9_takeWater_15 : decode cX9_takeWater 15 = .ok (.if_icmp .ne 34, 3) := by decide +kernel
theorem dX9_takeWater_18 : decode cX9_takeWater 18 = .ok (.aload_n 1, 1) := by decide +kernel
theorem dX9_takeWater_19 : decode cX9_takeWater 19 = .ok (.iconst 0, 1) := by decide +kernel
theorem dX9_takeWater_20 : decode cX9_takeWater 20 = .ok (.bipush 99, 2) := by decide +kernel
theorem dX9_takeWater_22 : decode cX9_takeWater 22 = .ok (.invokevirtual 82, 3) := by decide +kernel
theorem dX9_takeWater_25 : decode cX9_takeWater 25 = .ok (.ifCond .ne 5, 3) := by decide +kernel
theorem dX9_takeWater_28 : decode cX9_takeWater 28 = .ok (.iconst 0, 1) := by decide +kernel
theorem dX9_takeWater_29 : decode cX9_takeWater 29 = .ok (.ireturn, 1) := by decide +kernel
theorem dX9_takeWater_30 : decode cX9_takeWater 30 = .ok (.aload_n 2, 1) := by decide +kernel
theorem dX9_takeWater_31 : decode cX9_takeWater 31 = .ok (.getfield 162, 3) := by decide +kernel
theorem dX9_takeWater_34 : decode cX9_takeWater 34 = .ok (.iload_n 3, 1) := by decide +kernel
theorem dX9_takeWater_35 : decode cX9_takeWater 35 = .ok (.aload_n 1, 1) := by decide +kernel
theorem dX9_takeWater_36 : decode cX9_takeWater 36 = .ok (.getfield 86, 3) := by decide +kernel
theorem dX9_takeWater_39 : decode cX9_takeWater 39 = .ok (.iastore, 1) := by decide +kernel
theorem dX9_takeWater_40 : decode cX9_takeWater 40 = .ok (.aload_n 1, 1) := by decide +kernel
theorem dX9_takeWater_41 : decode cX9_takeWater 41 = .ok (.invokevirtual 33, 3) := by decide +kernel
theorem dX9_takeWater_44 : decode cX9_takeWater 44 = .ok (.ifCond .ne 5, 3) := by decide +kernel
theorem dX9_takeWater_47 : decode cX9_takeWater 47 = .ok (.iconst 0, 1) := by decide +kernel
theorem dX9_takeWater_48 : decode cX9_takeWater 48 = .ok (.ireturn, 1) := by decide +kernel
theorem dX9_takeWater_49 : decode cX9_takeWater 49 = .ok (.aload_n 1, 1) := by decide +kernel
theorem dX9_takeWater_50 : decode cX9_takeWater 50 = .ok (.getfield 42, 3) := by decide +kernel
theorem dX9_takeWater_53 : decode cX9_takeWater 53 = .ok (.bipush 11, 2) := by decide +kernel
theorem dX9_takeWater_55 : decode cX9_takeWater 55 = .ok (.if_icmp .ne 32, 3) := by decide +kernel
theorem dX9_takeWater_58 : decode cX9_takeWater 58 = .ok (.aload_n 1, 1) := by decide +kernel
theorem dX9_takeWater_59 : decode cX9_takeWater 59 = .ok (.iconst 1, 1) := by decide +kernel
theorem dX9_takeWater_60 : decode cX9_takeWater 60 = .ok (.bipush 99, 2) := by decide +kernel
theorem dX9_takeWater_62 : decode cX9_takeWater 62 = .ok (.invokevirtual 82, 3) := by decide +kernel
theorem dX9_takeWater_65 : decode cX9_takeWater 65 = .ok (.ifCond .ne 5, 3) := by decide +kernel
theorem dX9_takeWater_68 : decode cX9_takeWater 68 = .ok (.iconst 0, 1) := by decide +kernel
theorem dX9_takeWater_69 : decode cX9_takeWater 69 = .ok (.ireturn, 1) := by decide +kernel
theorem dX9_takeWater_70 : decode cX9_takeWater 70 = .ok (.aload_n 2, 1) := by decide +kernel
theorem dX9_takeWater_71 : decode cX9_takeWater 71 = .ok (.getfield 165, 3) := by decide +kernel
theorem dX9_takeWater_74 : decode cX9_takeWater 74 = .ok (.iload_n 3, 1) := by decide +kernel
theorem dX9_takeWater_75 : decode cX9_takeWater 75 = .ok (.aload_n 1, 1) := by decide +kernel
theorem dX9_takeWater_76 : decode cX9_takeWater 76 = .ok (.getfield 86, 3) := by decide +kernel
theorem dX9_takeWater_79 : decode cX9_takeWater 79 = .ok (.iastore, 1) := by decide +kernel
theorem dX9_takeWater_80 : decode cX9_takeWater 80 = .ok (.aload_n 1, 1) := by decide +kernel
theorem dX9_takeWater_81 : decode cX9_takeWater 81 = .ok (.bipush 59, 2) := by decide +kernel
theorem dX9_takeWater_83 : decode cX9_takeWater 83 = .ok (.invokevirtual 92, 3) := by decide +kernel
theorem dX9_takeWater_86 : decode cX9_takeWater 86 = .ok (.ireturn, 1) := by decide +kernel
theorem dX9_takeWater_87 : decode cX9_takeWater 87 = .ok (.aload_n 1, 1) := by decide +kernel
theorem dX9_takeWater_88 : decode cX9_takeWater 88 = .ok (.bipush 59, 2) := by decide +kernel
theorem dX9_takeWater_90 : decode cX9_takeWater 90 = .ok (.invokevirtual 118, 3) := by decide +kernel
theorem dX9_takeWater_93 : decode cX9_takeWater 93 = .ok (.ifCond .ne 11, 3) := by decide +kernel
theorem dX9_takeWater_96 : decode cX9_takeWater 96 = .ok (.aload_n 1, 1) := by decide +kernel
theorem dX9_takeWater_97 : decode cX9_takeWater 97 = .ok (.iconst 2, 1) := by decide +kernel
theorem dX9_takeWater_98 : decode cX9_takeWater 98 = .ok (.invokevirtual 78, 3) := by decide +kernel
theorem dX9_takeWater_101 : decode cX9_takeWater 101 = .ok (.ifCond .eq 7, 3) := by decide +kernel
theorem dX9_takeWater_104 : decode cX9_takeWater 104 = .ok (.iconst 1, 1) := by decide +kernel
theorem dX9_takeWater_105 : decode cX9_takeWater 105 = .ok (.goto 4, 3) := by decide +kernel
theorem dX9_takeWater_108 : decode cX9_takeWater 108 = .ok (.iconst 0, 1) := by decide +kernel
theorem dX9_takeWater_109 : decode cX9_takeWater 109 = .ok (.ireturn, 1) := by decide +kernel
theorem dX10_init_0 : decode cX10_init 0 = .ok (.aload_n 0, 1) := by decide +kernel
theorem dX10_init_1 : decode cX10_init 1 = .ok (.invokespecial 3, 3) := by decide +kernel
theorem dX10_init_4 : decode cX10_init 4 = .ok (.aload_n 0, 1) := by decide +kernel
theorem dX10_init_5 : decode cX10_init 5 = .ok (.lconst 1, 1) := by decide +kernel
theorem dX10_init_6 : decode cX10_init 6 = .ok (.putfield 9, 3) := by decide +kernel
theorem dX10_init_9 : decode cX10_init 9 = .ok (.aload_n 0, 1) := by decide +kernel
theorem dX10_init_10 : decode cX10_init 10 = .ok (.iconst 4, 1) := by decide +kernel
theorem dX10_init_11 : decode cX10_init 11 = .ok (.anewarray 13, 3) := by decide +kernel
theorem dX10_init_14 : decode cX10_init 14 = .ok (.putfield 15, 3) := by decide +kernel
theorem dX10_init_17 : decode cX10_init 17 = .ok (.aload_n 0, 1) := by decide +kernel
theorem dX10_init_18 : decode cX10_init 18 = .ok (.sipush 900, 3) := by decide +kernel
theorem dX10_init_21 : decode cX10_init 21 = .ok (.newarray .byte, 2) := by decide +kernel
theorem dX10_init_23 : decode cX10_init 23 = .ok (.putfield 19, 3) := by decide +kernel
theorem dX10_init_26 : decode cX10_init 26 = .ok (.aload_n 0, 1) := by decide +kernel
theorem dX10_init_27 : decode cX10_init 27 = .ok (.new 23, 3) := by decide +kernel
theorem dX10_init_30 : decode cX10_init 30 = .ok (.dup, 1) := by decide +kernel
theorem dX10_init_31 : decode cX10_init 31 = .ok (.invokespecial 25, 3) := by decide +kernel
theorem dX10_init_34 : decode cX10_init 34 = .ok (.putfield 26, 3) := by decide +kernel
theorem dX10_init_37 : decode cX10_init 37 = .ok (.aload_n 0, 1) := by decide +kernel
theorem dX10_init_38 : decode cX10_init 38 = .ok (.new 30, 3) := by decide +kernel
theorem dX10_init_41 : decode cX10_init 41 = .ok (.dup, 1) := by decide +kernel
theorem dX10_init_42 : decode cX10_init 42 = .ok (.invokespecial 32, 3) := by decide +kernel
theorem dX10_init_45 : decode cX10_init 45 = .ok (.putfield 33, 3) := by decide +kernel
theorem dX10_init_48 : decode cX10_init 48 = .ok (.aload_n 0, 1) := by decide +kernel
theorem dX10_init_49 : decode cX10_init 49 = .ok (.new 37, 3) := by decide +kernel
theorem dX10_init_52 : decode cX10_init 52 = .ok (.dup, 1) := by decide +kernel
theorem dX10_init_53 : decode cX10_init 53 = .ok (.invokespecial 39, 3) := by decide +kernel
theorem dX10_init_56 : decode cX10_init 56 = .ok (.putfield 40, 3) := by decide +kernel
theorem dX10_init_59 : decode cX10_init 59 = .ok (.aload_n 0, 1) := by decide +kernel
theorem dX10_init_60 : decode cX10_init 60 = .ok (.new 44, 3) := by decide +kernel
theorem dX10_init_63 : decode cX10_init 63 = .ok (.dup, 1) := by decide +kernel
theorem dX10_init_64 : decode cX10_init 64 = .ok (.invokespecial 46, 3) := by decide +kernel
theorem dX10_init_67 : decode cX10_init 67 = .ok (.putfield 47, 3) := by decide +kernel
theorem dX10_init_70 : decode cX10_init 70 = .ok (.aload_n 0, 1) := by decide +kernel
theorem dX10_init_71 : decode cX10_init 71 = .ok (.new 44, 3) := by decide +kernel
theorem dX10_init_74 : decode cX10_init 74 = .ok (.dup, 1) := by decide +kernel
theorem dX10_init_75 : decode cX10_init 75 = .ok (.invokespecial 46, 3) := by decide +kernel
theorem dX10_init_78 : decode cX10_init 78 = .ok (.putfield 51, 3) := by decide +kernel
theorem dX10_init_81 : decode cX10_init 81 = .ok (.aload_n 0, 1) := by decide +kernel
theorem dX10_init_82 : decode cX10_init 82 = .ok (.iconst 3, 1) := by decide +kernel
theorem dX10_init_83 : decode cX10_init 83 = .ok (.anewarray 44, 3) := by decide +kernel
theorem dX10_init_86 : decode cX10_init 86 = .ok (.putfield 54, 3) := by decide +kernel
theorem dX10_init_89 : decode cX10_init 89 = .ok (.aload_n 0, 1) := by decide +kernel
theorem dX10_init_90 : decode cX10_init 90 = .ok (.new 58, 3) := by decide +kernel
theorem dX10_init_93 : decode cX10_init 93 = .ok (.dup, 1) := by decide +kernel
theorem dX10_init_94 : decode cX10_init 94 = .ok (.invokespecial 60, 3) := by decide +kernel
theorem dX10_init_97 : decode cX10_init 97 = .ok (.putfield 61, 3) := by decide +kernel
theorem dX10_init_100 : decode cX10_init 100 = .ok (.aload_n 0, 1) := by decide +kernel
theorem dX10_init_101 : decode cX10_init 101 = .ok (.new 58, 3) := by decide +kernel
theorem dX10_init_104 : decode cX10_init 104 = .ok (.dup, 1) := by decide +kernel
theorem dX10_init_105 : decode cX10_init 105 = .ok (.invokespecial 60, 3) := by decide +kernel
theorem dX10_init_108 : decode cX10_init 108 = .ok (.putfield 65, 3) := by decide +kernel
theorem dX10_init_111 : decode cX10_init 111 = .ok (.aload_n 0, 1) := by decide +kernel
theorem dX10_init_112 : decode cX10_init 112 = .ok (.new 68, 3) := by decide +kernel
theorem dX10_init_115 : decode cX10_init 115 = .ok (.dup, 1) := by decide +kernel
theorem dX10_init_116 : decode cX10_init 116 = .ok (.invokespecial 70, 3) := by decide +kernel
theorem dX10_init_119 : decode cX10_init 119 = .ok (.putfield 71, 3) := by decide +kernel
theorem dX10_init_122 : decode cX10_init 122 = .ok (.aload_n 0, 1) := by decide +kernel
theorem dX10_init_123 : decode cX10_init 123 = .ok (.new 75, 3) := by decide +kernel
theorem dX10_init_126 : decode cX10_init 126 = .ok (.dup, 1) := by decide +kernel
theorem dX10_init_127 : decode cX10_init 127 = .ok (.invokespecial 77, 3) := by decide +kernel
theorem dX10_init_130 : decode cX10_init 130 = .ok (.putfield 78, 3) := by decide +kernel
theorem dX10_init_133 : decode cX10_init 133 = .ok (.aload_n 0, 1) := by decide +kernel
theorem dX10_init_134 : decode cX10_init 134 = .ok (.bipush 49, 2) := by decide +kernel
theorem dX10_init_136 : decode cX10_init 136 = .ok (.newarray .int, 2) := by decide +kernel
theorem dX10_init_138 : decode cX10_init 138 = .ok (.putfield 82, 3) := by decide +kernel
theorem dX10_init_141 : decode cX10_init 141 = .ok (.iconst 0, 1) := by decide +kernel
theorem dX10_init_142 : decode cX10_init 142 = .ok (.istore_n 1, 1) := by decide +kernel
theorem dX10_init_143 : decode cX10_init 143 = .ok (.iload_n 1, 1) := by decide +kernel
theorem dX10_init_144 : decode cX10_init 144 = .ok (.iconst 4, 1) := by decide +kernel
theorem dX10_init_145 : decode cX10_init 145 = .ok (.if_icmp .ge 22, 3) := by decide +kernel
theorem dX10_init_148 : decode cX10_init 148 = .ok (.aload_n 0, 1) := by decide +kernel
theorem dX10_init_149 : decode cX10_init 149 = .ok (.getfield 15, 3) := by decide +kernel
theorem dX10_init_152 : decode cX10_init 152 = .ok (.iload_n 1, 1) := by decide +kernel
theorem dX10_init_153 : decode cX10_init 153 = .ok (.new 13, 3) := by decide +kernel
theorem dX10_init_156 : decode cX10_init 156 = .ok (.dup, 1) := by decide +kernel
theorem dX10_init_157 : decode cX10_init 157 = .ok (.invokespecial 86, 3) := by decide +kernel
theorem dX10_init_160 : decode cX10_init 160 = .ok (.aastore, 1) := by decide +kernel
theorem dX10_init_161 : decode cX10_init 161 = .ok (.iinc 1 1, 3) := by decide +kernel
theorem dX10_init_164 : decode cX10_init 164 = .ok (.goto (-21), 3) := by decide +kernel
theorem dX10_init_167 : decode cX10_init 167 = .ok (.iconst 0, 1) := by decide +kernel
theorem dX10_init_168 : decode cX10_init 168 = .ok (.istore_n 1, 1) := by decide +kernel
theorem dX10_init_169 : decode cX10_init 169 = .ok (.iload_n 1, 1) := by decide +kernel
theorem dX10_init_170 : decode cX10_init 170 = .ok (.iconst 3, 1) := by decide +kernel
theorem dX10_init_171 : decode cX10_init 171 = .ok (.if_icmp .ge 22, 3) := by decide +kernel
theorem dX10_init_174 : decode cX10_init 174 = .ok (.aload_n 0, 1) := by decide +kernel
theorem dX10_init_175 : decode cX10_init 175 = .ok (.getfield 54, 3) := by decide +kernel
theorem dX10_init_178 : decode cX10_init 178 = .ok (.iload_n 1, 1) := by decide +kernel
theorem dX10_init_179 : decode cX10_init 179 = .ok (.new 44, 3) := by decide +kernel
theorem dX10_init_182 : decode cX10_init 182 = .ok (.dup, 1) := by decide +kernel
theorem dX10_init_183 : decode cX10_init 183 = .ok (.invokespecial 46, 3) := by decide +kernel
theorem dX10_init_186 : decode cX10_init 186 = .ok (.aastore, 1) := by decide +kernel
theorem dX10_init_187 : decode cX10_init 187 = .ok (.iinc 1 1, 3) := by decide +kernel
theorem dX10_init_190 : decode cX10_init 190 = .ok (.goto (-21), 3) := by decide +kernel
theorem dX10_init_193 : decode cX10_init 193 = .ok (.return_, 1) := by decide +kernel
theorem dX10_status_0 : decode cX10_status 0 = .ok (.aload_n 0, 1) := by decide +kernel
theorem dX10_status_1 : decode cX10_status 1 = .ok (.getfield 87, 3) := by decide +kernel
theorem dX10_status_4 : decode cX10_status 4 = .ok (.ireturn, 1) := by decide +kernel
theorem dX10_top_0 : decode cX10_top 0 = .ok (.aload_n 0, 1) := by decide +kernel
theorem dX10_top_1 : decode cX10_top 1 = .ok (.getfield 91, 3) := by decide +kernel
theorem dX10_top_4 : decode cX10_top 4 = .ok (.lreturn, 1) := by decide +kernel
theorem dX10_bottom_0 : decode cX10_bottom 0 = .ok (.aload_n 0, 1) := by decide +kernel
theorem dX10_bottom_1 : decode cX10_bottom 1 = .ok (.getfield 9, 3) := by decide +kernel
theorem dX10_bottom_4 : decode cX10_bottom 4 = .ok (.lreturn, 1) := by decide +kernel
theorem dX10_tray_0 : decode cX10_tray 0 = .ok (.iload_n 1, 1) := by decide +kernel
theorem dX10_tray_1 : decode cX10_tray 1 = .ok (.invokestatic 94, 3) := by decide +kernel
theorem dX10_tray_4 : decode cX10_tray 4 = .ok (.ifCond .eq 12, 3) := by decide +kernel
theorem dX10_tray_7 : decode cX10_tray 7 = .ok (.iload_n 2, 1) := by decide +kernel
theorem dX10_tray_8 : decode cX10_tray 8 = .ok (.ifCond .lt 8, 3) := by decide +kernel
theorem dX10_tray_11 : decode cX10_tray 11 = .ok (.iload_n 2, 1) := by decide +kernel
theorem dX10_tray_12 : decode cX10_tray 12 = .ok (.iconst 4, 1) := by decide +kernel
theorem dX10_tray_13 : decode cX10_tray 13 = .ok (.if_icmp .lt 9, 3) := by decide +kernel
theorem dX10_tray_16 : decode cX10_tray 16 = .ok (.aload_n 0, 1) := by decide +kernel
theorem dX10_tray_17 : decode cX10_tray 17 = .ok (.iconst 1, 1) := by decide +kernel
theorem dX10_tray_18 : decode cX10_tray 18 = .ok (.invokevirtual 98, 3) := by decide +kernel
theorem dX10_tray_21 : decode cX10_tray 21 = .ok (.ireturn, 1) := by decide +kernel
theorem dX10_tray_22 : decode cX10_tray 22 = .ok (.iload_n 3, 1) := by decide +kernel
theorem dX10_tray_23 : decode cX10_tray 23 = .ok (.bipush 60, 2) := by decide +kernel
theorem dX10_tray_25 : decode cX10_tray 25 = .ok (.if_icmp .le 9, 3) := by decide +kernel
theorem dX10_tray_28 : decode cX10_tray 28 = .ok (.aload_n 0, 1) := by decide +kernel
theorem dX10_tray_29 : decode cX10_tray 29 = .ok (.iconst 5, 1) := by decide +kernel
theorem dX10_tray_30 : decode cX10_tray 30 = .ok (.invokevirtual 98, 3) := by decide +kernel
theorem dX10_tray_33 : decode cX10_tray 33 = .ok (.ireturn, 1) := by decide +kernel
theorem dX10_tray_34 : decode cX10_tray 34 = .ok (.iload_n 3, 1) := by decide +kernel
theorem dX10_tray_35 : decode cX10_tray 35 = .ok (.ifCond .ge 10, 3) := by decide +kernel
theorem dX10_tray_38 : decode cX10_tray 38 = .ok (.aload_n 0, 1) := by decide +kernel
theorem dX10_tray_39 : decode cX10_tray 39 = .ok (.bipush 6, 2) := by decide +kernel
theorem dX10_tray_41 : decode cX10_tray 41 = .ok (.invokevirtual 98, 3) := by decide +kernel
theorem dX10_tray_44 : decode cX10_tray 44 = .ok (.ireturn, 1) := by decide +kernel
theorem dX10_tray_45 : decode cX10_tray 45 = .ok (.aload_n 0, 1) := by decide +kernel
theorem dX10_tray_46 : decode cX10_tray 46 = .ok (.getfield 15, 3) := by decide +kernel
theorem dX10_tray_49 : decode cX10_tray 49 = .ok (.iload_n 1, 1) := by decide +kernel
theorem dX10_tray_50 : decode cX10_tray 50 = .ok (.aaload, 1) := by decide +kernel
theorem dX10_tray_51 : decode cX10_tray 51 = .ok (.iload_n 2, 1) := by decide +kernel
theorem dX10_tray_52 : decode cX10_tray 52 = .ok (.iload_n 3, 1) := by decide +kernel
theorem dX10_tray_53 : decode cX10_tray 53 = .ok (.invokevirtual 101, 3) := by decide +kernel
theorem dX10_tray_56 : decode cX10_tray 56 = .ok (.aload_n 0, 1) := by decide +kernel
theorem dX10_tray_57 : decode cX10_tray 57 = .ok (.invokevirtual 105, 3) := by decide +kernel
theorem dX10_tray_60 : decode cX10_tray 60 = .ok (.ireturn, 1) := by decide +kernel
theorem dX10_write_0 : decode cX10_write 0 = .ok (.aload_n 0, 1) := by decide +kernel
theorem dX10_write_1 : decode cX10_write 1 = .ok (.iload_n 1, 1) := by decide +kernel
theorem dX10_write_2 : decode cX10_write 2 = .ok (.iload_n 2, 1) := by decide +kernel
theorem dX10_write_3 : decode cX10_write 3 = .ok (.invokevirtual 109, 3) := by decide +kernel
theorem dX10_write_6 : decode cX10_write 6 = .ok (.istore 5, 2) := by decide +kernel
theorem dX10_write_8 : decode cX10_write 8 = .ok (.iload 5, 2) := by decide +kernel
theorem dX10_write_10 : decode cX10_write 10 = .ok (.ifCond .eq 10, 3) := by decide +kernel
theorem dX10_write_13 : decode cX10_write 13 = .ok (.aload_n 0, 1) := by decide +kernel
theorem dX10_write_14 : decode cX10_write 14 = .ok (.iload 5, 2) := by decide +kernel
theorem dX10_write_16 : decode cX10_write 16 = .ok (.invokevirtual 98, 3) := by decide +kernel
theorem dX10_write_19 : decode cX10_write 19 = .ok (.ireturn, 1) := by decide +kernel
theorem dX10_write_20 : decode cX10_write 20 = .ok (.aload_n 0, 1) := by decide +kernel
theorem dX10_write_21 : decode cX10_write 21 = .ok (.getfield 15, 3) := by decide +kernel
theorem dX10_write_24 : decode cX10_write 24 = .ok (.iload_n 1, 1) := by decide +kernel
theorem dX10_write_25 : decode cX10_write 25 = .ok (.aaload, 1) := by decide +kernel
theorem dX10_write_26 : decode cX10_write 26 = .ok (.iload_n 2, 1) := by decide +kernel
theorem dX10_write_27 : decode cX10_write 27 = .ok (.lload_n 3, 1) := by decide +kernel
theorem dX10_write_28 : decode cX10_write 28 = .ok (.invokevirtual 113, 3) := by decide +kernel
theorem dX10_write_31 : decode cX10_write 31 = .ok (.aload_n 0, 1) := by decide +kernel
theorem dX10_write_32 : decode cX10_write 32 = .ok (.invokevirtual 105, 3) := by decide +kernel
theorem dX10_write_35 : decode cX10_write 35 = .ok (.ireturn, 1) := by decide +kernel
theorem dX10_read_0 : decode cX10_read 0 = .ok (.aload_n 0, 1) := by decide +kernel
theorem dX10_read_1 : decode cX10_read 1 = .ok (.iload_n 1, 1) := by decide +kernel
theorem dX10_read_2 : decode cX10_read 2 = .ok (.iload_n 2, 1) := by decide +kernel
theorem dX10_read_3 : decode cX10_read 3 = .ok (.invokevirtual 109, 3) := by decide +kernel
theorem dX10_read_6 : decode cX10_read 6 = .ok (.istore_n 3, 1) := by decide +kernel
theorem dX10_read_7 : decode cX10_read 7 = .ok (.iload_n 3, 1) := by decide +kernel
theorem dX10_read_8 : decode cX10_read 8 = .ok (.ifCond .eq 10, 3) := by decide +kernel
theorem dX10_read_11 : decode cX10_read 11 = .ok (.aload_n 0, 1) := by decide +kernel
theorem dX10_read_12 : decode cX10_read 12 = .ok (.iload_n 3, 1) := by decide +kernel
theorem dX10_read_13 : decode cX10_read 13 = .ok (.invokevirtual 117, 3) := by decide +kernel
theorem dX10_read_16 : decode cX10_read 16 = .ok (.i2l, 1) := by decide +kernel
theorem dX10_read_17 : decode cX10_read 17 = .ok (.lreturn, 1) := by decide +kernel
theorem dX10_read_18 : decode cX10_read 18 = .ok (.aload_n 0, 1) := by decide +kernel
theorem dX10_read_19 : decode cX10_read 19 = .ok (.iconst 0, 1) := by decide +kernel
theorem dX10_read_20 : decode cX10_read 20 = .ok (.putfield 87, 3) := by decide +kernel
theorem dX10_read_23 : decode cX10_read 23 = .ok (.aload_n 0, 1) := by decide +kernel
theorem dX10_read_24 : decode cX10_read 24 = .ok (.getfield 15, 3) := by decide +kernel
theorem dX10_read_27 : decode cX10_read 27 = .ok (.iload_n 1, 1) := by decide +kernel
theorem dX10_read_28 : decode cX10_read 28 = .ok (.aaload, 1) := by decide +kernel
theorem dX10_read_29 : decode cX10_read 29 = .ok (.iload_n 2, 1) := by decide +kernel
theorem dX10_read_30 : decode cX10_read 30 = .ok (.invokevirtual 121, 3) := by decide +kernel
theorem dX10_read_33 : decode cX10_read 33 = .ok (.lreturn, 1) := by decide +kernel
theorem dX10_pour_0 : decode cX10_pour 0 = .ok (.iload_n 1, 1) := by decide +kernel
theorem dX10_pour_1 : decode cX10_pour 1 = .ok (.invokestatic 94, 3) := by decide +kernel
theorem dX10_pour_4 : decode cX10_pour 4 = .ok (.ifCond .eq 10, 3) := by decide +kernel
theorem dX10_pour_7 : decode cX10_pour 7 = .ok (.iload_n 3, 1) := by decide +kernel
theorem dX10_pour_8 : decode cX10_pour 8 = .ok (.invokestatic 94, 3) := by decide +kernel
theorem dX10_pour_11 : decode cX10_pour 11 = .ok (.ifCond .ne 9, 3) := by decide +kernel
theorem dX10_pour_14 : decode cX10_pour 14 = .ok (.aload_n 0, 1) := by decide +kernel
theorem dX10_pour_15 : decode cX10_pour 15 = .ok (.iconst 1, 1) := by decide +kernel
theorem dX10_pour_16 : decode cX10_pour 16 = .ok (.invokevirtual 98, 3) := by decide +kernel
theorem dX10_pour_19 : decode cX10_pour 19 = .ok (.ireturn, 1) := by decide +kernel
theorem dX10_pour_20 : decode cX10_pour 20 = .ok (.aload_n 0, 1) := by decide +kernel
theorem dX10_pour_21 : decode cX10_pour 21 = .ok (.getfield 15, 3) := by decide +kernel
theorem dX10_pour_24 : decode cX10_pour 24 = .ok (.iload_n 1, 1) := by decide +kernel
theorem dX10_pour_25 : decode cX10_pour 25 = .ok (.aaload, 1) := by decide +kernel
theorem dX10_pour_26 : decode cX10_pour 26 = .ok (.astore 6, 2) := by decide +kernel
theorem dX10_pour_28 : decode cX10_pour 28 = .ok (.aload_n 0, 1) := by decide +kernel
theorem dX10_pour_29 : decode cX10_pour 29 = .ok (.getfield 15, 3) := by decide +kernel
theorem dX10_pour_32 : decode cX10_pour 32 = .ok (.iload_n 3, 1) := by decide +kernel
theorem dX10_pour_33 : decode cX10_pour 33 = .ok (.aaload, 1) := by decide +kernel
theorem dX10_pour_34 : decode cX10_pour 34 = .ok (.astore 7, 2) := by decide +kernel
theorem dX10_pour_36 : decode cX10_pour 36 = .ok (.aload 6, 2) := by decide +kernel
theorem dX10_pour_38 : decode cX10_pour 38 = .ok (.getfield 125, 3) := by decide +kernel
theorem dX10_pour_41 : decode cX10_pour 41 = .ok (.ifCond .eq 11, 3) := by decide +kernel
theorem dX10_pour_44 : decode cX10_pour 44 = .ok (.aload 7, 2) := by decide +kernel
theorem dX10_pour_46 : decode cX10_pour 46 = .ok (.getfield 125, 3) := by decide +kernel
theorem dX10_pour_49 : decode cX10_pour 49 = .ok (.ifCond .ne 9, 3) := by decide +kernel
theorem dX10_pour_52 : decode cX10_pour 52 = .ok (.aload_n 0, 1) := by decide +kernel
theorem dX10_pour_53 : decode cX10_pour 53 = .ok (.iconst 3, 1) := by decide +kernel
theorem dX10_pour_54 : decode cX10_pour 54 = .ok (.invokevirtual 98, 3) := by decide +kernel
theorem dX10_pour_57 : decode cX10_pour 57 = .ok (.ireturn, 1) := by decide +kernel
theorem dX10_pour_58 : decode cX10_pour 58 = .ok (.aload 6, 2) := by decide +kernel
theorem dX10_pour_60 : decode cX10_pour 60 = .ok (.getfield 129, 3) := by decide +kernel
theorem dX10_pour_63 : decode cX10_pour 63 = .ok (.aload 7, 2) := by decide +kernel
theorem dX10_pour_65 : decode cX10_pour 65 = .ok (.getfield 129, 3) := by decide +kernel
theorem dX10_pour_68 : decode cX10_pour 68 = .ok (.if_icmp .eq 10, 3) := by decide +kernel
theorem dX10_pour_71 : decode cX10_pour 71 = .ok (.aload_n 0, 1) := by decide +kernel
theorem dX10_pour_72 : decode cX10_pour 72 = .ok (.bipush 11, 2) := by decide +kernel
theorem dX10_pour_74 : decode cX10_pour 74 = .ok (.invokevirtual 98, 3) := by decide +kernel
theorem dX10_pour_77 : decode cX10_pour 77 = .ok (.ireturn, 1) := by decide +kernel
theorem dX10_pour_78 : decode cX10_pour 78 = .ok (.iload 5, 2) := by decide +kernel
theorem dX10_pour_80 : decode cX10_pour 80 = .ok (.ifCond .ge 10, 3) := by decide +kernel
theorem dX10_pour_83 : decode cX10_pour 83 = .ok (.aload_n 0, 1) := by decide +kernel
theorem dX10_pour_84 : decode cX10_pour 84 = .ok (.bipush 6, 2) := by decide +kernel
theorem dX10_pour_86 : decode cX10_pour 86 = .ok (.invokevirtual 98, 3) := by decide +kernel
theorem dX10_pour_89 : decode cX10_pour 89 = .ok (.ireturn, 1) := by decide +kernel
theorem dX10_pour_90 : decode cX10_pour 90 = .ok (.aload 6, 2) := by decide +kernel
theorem dX10_pour_92 : decode cX10_pour 92 = .ok (.iload_n 2, 1) := by decide +kernel
theorem dX10_pour_93 : decode cX10_pour 93 = .ok (.iload 5, 2) := by decide +kernel
theorem dX10_pour_95 : decode cX10_pour 95 = .ok (.invokevirtual 132, 3) := by decide +kernel
theorem dX10_pour_98 : decode cX10_pour 98 = .ok (.ifCond .eq 15, 3) := by decide +kernel
theorem dX10_pour_101 : decode cX10_pour 101 = .ok (.aload 7, 2) := by decide +kernel
theorem dX10_pour_103 : decode cX10_pour 103 = .ok (.iload 4, 2) := by decide +kernel
theorem dX10_pour_105 : decode cX10_pour 105 = .ok (.iload 5, 2) := by decide +kernel
theorem dX10_pour_107 : decode cX10_pour 107 = .ok (.invokevirtual 132, 3) := by decide +kernel
theorem dX10_pour_110 : decode cX10_pour 110 = .ok (.ifCond .ne 9, 3) := by decide +kernel
theorem dX10_pour_113 : decode cX10_pour 113 = .ok (.aload_n 0, 1) := by decide +kernel
theorem dX10_pour_114 : decode cX10_pour 114 = .ok (.iconst 4, 1) := by decide +kernel
theorem dX10_pour_115 : decode cX10_pour 115 = .ok (.invokevirtual 98, 3) := by decide +kernel
theorem dX10_pour_118 : decode cX10_pour 118 = .ok (.ireturn, 1) := by decide +kernel
theorem dX10_pour_119 : decode cX10_pour 119 = .ok (.aload 6, 2) := by decide +kernel
theorem dX10_pour_121 : decode cX10_pour 121 = .ok (.getfield 136, 3) := by decide +kernel
theorem dX10_pour_124 : decode cX10_pour 124 = .ok (.iload_n 2, 1) := by decide +kernel
theorem dX10_pour_125 : decode cX10_pour 125 = .ok (.aload 7, 2) := by decide +kernel
theorem dX10_pour_127 : decode cX10_pour 127 = .ok (.getfield 136, 3) := by decide +kernel
theorem dX10_pour_130 : decode cX10_pour 130 = .ok (.iload 4, 2) := by decide +kernel
theorem dX10_pour_132 : decode cX10_pour 132 = .ok (.iload 5, 2) := by decide +kernel
theorem dX10_pour_134 : decode cX10_pour 134 = .ok (.invokestatic 140, 3) := by decide +kernel
theorem dX10_pour_137 : decode cX10_pour 137 = .ok (.aload_n 0, 1) := by decide +kernel
theorem dX10_pour_138 : decode cX10_pour 138 = .ok (.invokevirtual 105, 3) := by decide +kernel
theorem dX10_pour_141 : decode cX10_pour 141 = .ok (.ireturn, 1) := by decide +kernel
theorem dX10_feed_0 : decode cX10_feed 0 = .ok (.aload_n 0, 1) := by decide +kernel
theorem dX10_feed_1 : decode cX10_feed 1 = .ok (.getfield 146, 3) := by decide +kernel
theorem dX10_feed_4 : decode cX10_feed 4 = .ok (.bipush 20, 2) := by decide +kernel
theorem dX10_feed_6 : decode cX10_feed 6 = .ok (.iadd, 1) := by decide +kernel
theorem dX10_feed_7 : decode cX10_feed 7 = .ok (.sipush 900, 3) := by decide +kernel
theorem dX10_feed_10 : decode cX10_feed 10 = .ok (.if_icmp .le 5, 3) := by decide +kernel
theorem dX10_feed_13 : decode cX10_feed 13 = .ok (.iconst (-1), 1) := by decide +kernel
theorem dX10_feed_14 : decode cX10_feed 14 = .ok (.ireturn, 1) := by decide +kernel
theorem dX10_feed_15 : decode cX10_feed 15 = .ok (.aload_n 0, 1) := by decide +kernel
theorem dX10_feed_16 : decode cX10_feed 16 = .ok (.iload_n 1, 1) := by decide +kernel
theorem dX10_feed_17 : decode cX10_feed 17 = .ok (.invokevirtual 149, 3) := by decide +kernel
theorem dX10_feed_20 : decode cX10_feed 20 = .ok (.aload_n 0, 1) := by decide +kernel
theorem dX10_feed_21 : decode cX10_feed 21 = .ok (.iload_n 2, 1) := by decide +kernel
theorem dX10_feed_22 : decode cX10_feed 22 = .ok (.invokevirtual 149, 3) := by decide +kernel
theorem dX10_feed_25 : decode cX10_feed 25 = .ok (.aload_n 0, 1) := by decide +kernel
theorem dX10_feed_26 : decode cX10_feed 26 = .ok (.iload_n 3, 1) := by decide +kernel
theorem dX10_feed_27 : decode cX10_feed 27 = .ok (.invokevirtual 149, 3) := by decide +kernel
theorem dX10_feed_30 : decode cX10_feed 30 = .ok (.aload_n 0, 1) := by decide +kernel
theorem dX10_feed_31 : decode cX10_feed 31 = .ok (.iload 4, 2) := by decide +kernel
theorem dX10_feed_33 : decode cX10_feed 33 = .ok (.invokevirtual 149, 3) := by decide +kernel
theorem dX10_feed_36 : decode cX10_feed 36 = .ok (.aload_n 0, 1) := by decide +kernel
theorem dX10_feed_37 : decode cX10_feed 37 = .ok (.iload 5, 2) := by decide +kernel
theorem dX10_feed_39 : decode cX10_feed 39 = .ok (.invokevirtual 149, 3) := by decide +kernel
theorem dX10_feed_42 : decode cX10_feed 42 = .ok (.aload_n 0, 1) := by decide +kernel
theorem dX10_feed_43 : decode cX10_feed 43 = .ok (.getfield 146, 3) := by decide +kernel
theorem dX10_feed_46 : decode cX10_feed 46 = .ok (.ireturn, 1) := by decide +kernel
theorem dX10_valley_0 : decode cX10_valley 0 = .ok (.iload_n 1, 1) := by decide +kernel
theorem dX10_valley_1 : decode cX10_valley 1 = .ok (.ifCond .lt 11, 3) := by decide +kernel
theorem dX10_valley_4 : decode cX10_valley 4 = .ok (.iload_n 1, 1) := by decide +kernel
theorem dX10_valley_5 : decode cX10_valley 5 = .ok (.aload_n 0, 1) := by decide +kernel
theorem dX10_valley_6 : decode cX10_valley 6 = .ok (.getfield 146, 3) := by decide +kernel
theorem dX10_valley_9 : decode cX10_valley 9 = .ok (.if_icmp .le 9, 3) := by decide +kernel
theorem dX10_valley_12 : decode cX10_valley 12 = .ok (.aload_n 0, 1) := by decide +kernel
theorem dX10_valley_13 : decode cX10_valley 13 = .ok (.iconst 5, 1) := by decide +kernel
theorem dX10_valley_14 : decode cX10_valley 14 = .ok (.invokevirtual 117, 3) := by decide +kernel
theorem dX10_valley_17 : decode cX10_valley 17 = .ok (.ireturn, 1) := by decide +kernel
theorem dX10_valley_18 : decode cX10_valley 18 = .ok (.aload_n 0, 1) := by decide +kernel
theorem dX10_valley_19 : decode cX10_valley 19 = .ok (.iconst 0, 1) := by decide +kernel
theorem dX10_valley_20 : decode cX10_valley 20 = .ok (.putfield 146, 3) := by decide +kernel
theorem dX10_valley_23 : decode cX10_valley 23 = .ok (.aload_n 0, 1) := by decide +kernel
theorem dX10_valley_24 : decode cX10_valley 24 = .ok (.getfield 26, 3) := by decide +kernel
theorem dX10_valley_27 : decode cX10_valley 27 = .ok (.aload_n 0, 1) := by decide +kernel
theorem dX10_valley_28 : decode cX10_valley 28 = .ok (.getfield 19, 3) := by decide +kernel
theorem dX10_valley_31 : decode cX10_valley 31 = .ok (.iload_n 1, 1) := by decide +kernel
theorem dX10_valley_32 : decode cX10_valley 32 = .ok (.invokevirtual 153, 3) := by decide +kernel
theorem dX10_valley_35 : decode cX10_valley 35 = .ok (.aload_n 0, 1) := by decide +kernel
theorem dX10_valley_36 : decode cX10_valley 36 = .ok (.getfield 33, 3) := by decide +kernel
theorem dX10_valley_39 : decode cX10_valley 39 = .ok (.aload_n 0, 1) := by decide +kernel
theorem dX10_valley_40 : decode cX10_valley 40 = .ok (.getfield 26, 3) := by decide +kernel
theorem dX10_valley_43 : decode cX10_valley 43 = .ok (.aload_n 0, 1) := by decide +kernel
theorem dX10_valley_44 : decode cX10_valley 44 = .ok (.getfield 51, 3) := by decide +kernel
theorem dX10_valley_47 : decode cX10_valley 47 = .ok (.invokevirtual 157, 3) := by decide +kernel
theorem dX10_valley_50 : decode cX10_valley 50 = .ok (.ifCond .ne 10, 3) := by decide +kernel
theorem dX10_valley_53 : decode cX10_valley 53 = .ok (.aload_n 0, 1) := by decide +kernel
theorem dX10_valley_54 : decode cX10_valley 54 = .ok (.bipush 10, 2) := by decide +kernel
theorem dX10_valley_56 : decode cX10_valley 56 = .ok (.invokevirtual 117, 3) := by decide +kernel
theorem dX10_valley_59 : decode cX10_valley 59 = .ok (.ireturn, 1) := by decide +kernel
theorem dX10_valley_60 : decode cX10_valley 60 = .ok (.aload_n 0, 1) := by decide +kernel
theorem dX10_valley_61 : decode cX10_valley 61 = .ok (.getfield 47, 3) := by decide +kernel
theorem dX10_valley_64 : decode cX10_valley 64 = .ok (.aload_n 0, 1) := by decide +kernel
theorem dX10_valley_65 : decode cX10_valley 65 = .ok (.getfield 51, 3) := by decide +kernel
theorem dX10_valley_68 : decode cX10_valley 68 = .ok (.invokevirtual 161, 3) := by decide +kernel
theorem dX10_valley_71 : decode cX10_valley 71 = .ok (.aload_n 0, 1) := by decide +kernel
theorem dX10_valley_72 : decode cX10_valley 72 = .ok (.aload_n 0, 1) := by decide +kernel
theorem dX10_valley_73 : decode cX10_valley 73 = .ok (.getfield 47, 3) := by decide +kernel
theorem dX10_valley_76 : decode cX10_valley 76 = .ok (.getfield 165, 3) := by decide +kernel
theorem dX10_valley_79 : decode cX10_valley 79 = .ok (.invokevirtual 168, 3) := by decide +kernel
theorem dX10_valley_82 : decode cX10_valley 82 = .ok (.ireturn, 1) := by decide +kernel
theorem dX10_seasons_0 : decode cX10_seasons 0 = .ok (.iload_n 1, 1) := by decide +kernel
theorem dX10_seasons_1 : decode cX10_seasons 1 = .ok (.ifCond .lt 18, 3) := by decide +kernel
theorem dX10_seasons_4 : decode cX10_seasons 4 = .ok (.iload_n 1, 1) := by decide +kernel
theorem dX10_seasons_5 : decode cX10_seasons 5 = .ok (.aload_n 0, 1) := by decide +kernel
theorem dX10_seasons_6 : decode cX10_seasons 6 = .ok (.getfield 146, 3) := by decide +kernel
theorem dX10_seasons_9 : decode cX10_seasons 9 = .ok (.if_icmp .gt 10, 3) := by decide +kernel
theorem dX10_seasons_12 : decode cX10_seasons 12 = .ok (.iload_n 1, 1) := by decide +kernel
theorem dX10_seasons_13 : decode cX10_seasons 13 = .ok (.sipush 300, 3) := by decide +kernel
theorem dX10_seasons_16 : decode cX10_seasons 16 = .ok (.if_icmp .le 9, 3) := by decide +kernel
theorem dX10_seasons_19 : decode cX10_seasons 19 = .ok (.aload_n 0, 1) := by decide +kernel
theorem dX10_seasons_20 : decode cX10_seasons 20 = .ok (.iconst 5, 1) := by decide +kernel
theorem dX10_seasons_21 : decode cX10_seasons 21 = .ok (.invokevirtual 117, 3) := by decide +kernel
theorem dX10_seasons_24 : decode cX10_seasons 24 = .ok (.ireturn, 1) := by decide +kernel
theorem dX10_seasons_25 : decode cX10_seasons 25 = .ok (.aload_n 0, 1) := by decide +kernel
theorem dX10_seasons_26 : decode cX10_seasons 26 = .ok (.iconst 0, 1) := by decide +kernel
theorem dX10_seasons_27 : decode cX10_seasons 27 = .ok (.putfield 146, 3) := by decide +kernel
theorem dX10_seasons_30 : decode cX10_seasons 30 = .ok (.aload_n 0, 1) := by decide +kernel
theorem dX10_seasons_31 : decode cX10_seasons 31 = .ok (.getfield 26, 3) := by decide +kernel
theorem dX10_seasons_34 : decode cX10_seasons 34 = .ok (.aload_n 0, 1) := by decide +kernel
theorem dX10_seasons_35 : decode cX10_seasons 35 = .ok (.getfield 19, 3) := by decide +kernel
theorem dX10_seasons_38 : decode cX10_seasons 38 = .ok (.iload_n 1, 1) := by decide +kernel
theorem dX10_seasons_39 : decode cX10_seasons 39 = .ok (.invokevirtual 153, 3) := by decide +kernel
theorem dX10_seasons_42 : decode cX10_seasons 42 = .ok (.aload_n 0, 1) := by decide +kernel
theorem dX10_seasons_43 : decode cX10_seasons 43 = .ok (.getfield 40, 3) := by decide +kernel
theorem dX10_seasons_46 : decode cX10_seasons 46 = .ok (.aload_n 0, 1) := by decide +kernel
theorem dX10_seasons_47 : decode cX10_seasons 47 = .ok (.getfield 26, 3) := by decide +kernel
theorem dX10_seasons_50 : decode cX10_seasons 50 = .ok (.aload_n 0, 1) := by decide +kernel
theorem dX10_seasons_51 : decode cX10_seasons 51 = .ok (.getfield 47, 3) := by decide +kernel
theorem dX10_seasons_54 : decode cX10_seasons 54 = .ok (.aload_n 0, 1) := by decide +kernel
theorem dX10_seasons_55 : decode cX10_seasons 55 = .ok (.getfield 51, 3) := by decide +kernel
theorem dX10_seasons_58 : decode cX10_seasons 58 = .ok (.getfield 171, 3) := by decide +kernel
theorem dX10_seasons_61 : decode cX10_seasons 61 = .ok (.invokevirtual 175, 3) := by decide +kernel
theorem dX10_seasons_64 : decode cX10_seasons 64 = .ok (.ifCond .ne 10, 3) := by decide +kernel
theorem dX10_seasons_67 : decode cX10_seasons 67 = .ok (.aload_n 0, 1) := by decide +kernel
theorem dX10_seasons_68 : decode cX10_seasons 68 = .ok (.bipush 10, 2) := by decide +kernel
theorem dX10_seasons_70 : decode cX10_seasons 70 = .ok (.invokevirtual 117, 3) := by decide +kernel
theorem dX10_seasons_73 : decode cX10_seasons 73 = .ok (.ireturn, 1) := by decide +kernel
theorem dX10_seasons_74 : decode cX10_seasons 74 = .ok (.aload_n 0, 1) := by decide +kernel
theorem dX10_seasons_75 : decode cX10_seasons 75 = .ok (.getfield 47, 3) := by decide +kernel
theorem dX10_seasons_78 : decode cX10_seasons 78 = .ok (.getfield 171, 3) := by decide +kernel
theorem dX10_seasons_81 : decode cX10_seasons 81 = .ok (.aload_n 0, 1) := by decide +kernel
theorem dX10_seasons_82 : decode cX10_seasons 82 = .ok (.getfield 51, 3) := by decide +kernel
theorem dX10_seasons_85 : decode cX10_seasons 85 = .ok (.getfield 171, 3) := by decide +kernel
theorem dX10_seasons_88 : decode cX10_seasons 88 = .ok (.invokevirtual 178, 3) := by decide +kernel
theorem dX10_seasons_91 : decode cX10_seasons 91 = .ok (.aload_n 0, 1) := by decide +kernel
theorem dX10_seasons_92 : decode cX10_seasons 92 = .ok (.aload_n 0, 1) := by decide +kernel
theorem dX10_seasons_93 : decode cX10_seasons 93 = .ok (.getfield 47, 3) := by decide +kernel
theorem dX10_seasons_96 : decode cX10_seasons 96 = .ok (.getfield 171, 3) := by decide +kernel
theorem dX10_seasons_99 : decode cX10_seasons 99 = .ok (.getfield 183, 3) := by decide +kernel
theorem dX10_seasons_102 : decode cX10_seasons 102 = .ok (.invokevirtual 168, 3) := by decide +kernel
theorem dX10_seasons_105 : decode cX10_seasons 105 = .ok (.ireturn, 1) := by decide +kernel
theorem dX10_fault_0 : decode cX10_fault 0 = .ok (.iload_n 1, 1) := by decide +kernel
theorem dX10_fault_1 : decode cX10_fault 1 = .ok (.ifCond .ne 11, 3) := by decide +kernel
theorem dX10_fault_4 : decode cX10_fault 4 = .ok (.aload_n 0, 1) := by decide +kernel
theorem dX10_fault_5 : decode cX10_fault 5 = .ok (.getfield 26, 3) := by decide +kernel
theorem dX10_fault_8 : decode cX10_fault 8 = .ok (.getfield 186, 3) := by decide +kernel
theorem dX10_fault_11 : decode cX10_fault 11 = .ok (.ireturn, 1) := by decide +kernel
theorem dX10_fault_12 : decode cX10_fault 12 = .ok (.iload_n 1, 1) := by decide +kernel
theorem dX10_fault_13 : decode cX10_fault 13 = .ok (.iconst 1, 1) := by decide +kernel
theorem dX10_fault_14 : decode cX10_fault 14 = .ok (.if_icmp .ne 13, 3) := by decide +kernel
theorem dX10_fault_17 : decode cX10_fault 17 = .ok (.aload_n 0, 1) := by decide +kernel
theorem dX10_fault_18 : decode cX10_fault 18 = .ok (.getfield 26, 3) := by decide +kernel
theorem dX10_fault_21 : decode cX10_fault 21 = .ok (.getfield 189, 3) := by decide +kernel
theorem dX10_fault_24 : decode cX10_fault 24 = .ok (.goto 4, 3) := by decide +kernel
theorem dX10_fault_27 : decode cX10_fault 27 = .ok (.iconst (-1), 1) := by decide +kernel
theorem dX10_fault_28 : decode cX10_fault 28 = .ok (.ireturn, 1) := by decide +kernel
theorem dX10_many_0 : decode cX10_many 0 = .ok (.aload_n 0, 1) := by decide +kernel
theorem dX10_many_1 : decode cX10_many 1 = .ok (.getfield 47, 3) := by decide +kernel
theorem dX10_many_4 : decode cX10_many 4 = .ok (.getfield 192, 3) := by decide +kernel
theorem dX10_many_7 : decode cX10_many 7 = .ok (.astore_n 2, 1) := by decide +kernel
theorem dX10_many_8 : decode cX10_many 8 = .ok (.iload_n 1, 1) := by decide +kernel
theorem dX10_many_9 : decode cX10_many 9 = .ok (.tableswitch 214 0 13 #[71, 80, 89, 98, 107, 116, 128, 140, 149, 161, 170, 179, 192, 205], 71) := by decide +kernel
theorem dX10_many_80 : decode cX10_many 80 = .ok (.aload_n 0, 1) := by decide +kernel
theorem dX10_many_81 : decode cX10_many 81 = .ok (.aload_n 2, 1) := by decide +kernel
theorem dX10_many_82 : decode cX10_many 82 = .ok (.getfield 196, 3) := by decide +kernel
theorem dX10_many_85 : decode cX10_many 85 = .ok (.invokevirtual 168, 3) := by decide +kernel
theorem dX10_many_88 : decode cX10_many 88 = .ok (.ireturn, 1) := by decide +kernel
theorem dX10_many_89 : decode cX10_many 89 = .ok (.aload_n 0, 1) := by decide +kernel
theorem dX10_many_90 : decode cX10_many 90 = .ok (.aload_n 2, 1) := by decide +kernel
theorem dX10_many_91 : decode cX10_many 91 = .ok (.getfield 201, 3) := by decide +kernel
theorem dX10_many_94 : decode cX10_many 94 = .ok (.invokevirtual 168, 3) := by decide +kernel
theorem dX10_many_97 : decode cX10_many 97 = .ok (.ireturn, 1) := by decide +kernel
theorem dX10_many_98 : decode cX10_many 98 = .ok (.aload_n 0, 1) := by decide +kernel
theorem dX10_many_99 : decode cX10_many 99 = .ok (.aload_n 2, 1) := by decide +kernel
theorem dX10_many_100 : decode cX10_many 100 = .ok (.getfield 204, 3) := by decide +kernel
theorem dX10_many_103 : decode cX10_many 103 = .ok (.invokevirtual 168, 3) := by decide +kernel
theorem dX10_many_106 : decode cX10_many 106 = .ok (.ireturn, 1) := by decide +kernel
theorem dX10_many_107 : decode cX10_many 107 = .ok (.aload_n 0, 1) := by decide +kernel
theorem dX10_many_108 : decode cX10_many 108 = .ok (.aload_n 2, 1) := by decide +kernel
theorem dX10_many_109 : decode cX10_many 109 = .ok (.getfield 207, 3) := by decide +kernel
theorem dX10_many_112 : decode cX10_many 112 = .ok (.invokevirtual 168, 3) := by decide +kernel
theorem dX10_many_115 : decode cX10_many 115 = .ok (.ireturn, 1) := by decide +kernel
theorem dX10_many_116 : decode cX10_many 116 = .ok (.aload_n 0, 1) := by decide +kernel
theorem dX10_many_117 : decode cX10_many 117 = .ok (.aload_n 2, 1) := by decide +kernel
theorem dX10_many_118 : decode cX10_many 118 = .ok (.getfield 210, 3) := by decide +kernel
theorem dX10_many_121 : decode cX10_many 121 = .ok (.invokevirtual 168, 3) := by decide +kernel
theorem dX10_many_124 : decode cX10_many 124 = .ok (.ireturn, 1) := by decide +kernel
theorem dX10_many_125 : decode cX10_many 125 = .ok (.aload_n 0, 1) := by decide +kernel
theorem dX10_many_126 : decode cX10_many 126 = .ok (.aload_n 0, 1) := by decide +kernel
theorem dX10_many_127 : decode cX10_many 127 = .ok (.getfield 47, 3) := by decide +kernel
theorem dX10_many_130 : decode cX10_many 130 = .ok (.getfield 165, 3) := by decide +kernel
theorem dX10_many_133 : decode cX10_many 133 = .ok (.invokevirtual 168, 3) := by decide +kernel
theorem dX10_many_136 : decode cX10_many 136 = .ok (.ireturn, 1) := by decide +kernel
theorem dX10_many_137 : decode cX10_many 137 = .ok (.aload_n 0, 1) := by decide +kernel
theorem dX10_many_138 : decode cX10_many 138 = .ok (.aload_n 0, 1) := by decide +kernel
theorem dX10_many_139 : decode cX10_many 139 = .ok (.getfield 47, 3) := by decide +kernel
theorem dX10_many_142 : decode cX10_many 142 = .ok (.getfield 213, 3) := by decide +kernel
theorem dX10_many_145 : decode cX10_many 145 = .ok (.invokevirtual 168, 3) := by decide +kernel
theorem dX10_many_148 : decode cX10_many 148 = .ok (.ireturn, 1) := by decide +kernel
theorem dX10_many_149 : decode cX10_many 149 = .ok (.aload_n 0, 1) := by decide +kernel
theorem dX10_many_150 : decode cX10_many 150 = .ok (.aload_n 2, 1) := by decide +kernel
theorem dX10_many_151 : decode cX10_many 151 = .ok (.invokevirtual 216, 3) := by decide +kernel
theorem dX10_many_154 : decode cX10_many 154 = .ok (.invokevirtual 168, 3) := by decide +kernel
theorem dX10_many_157 : decode cX10_many 157 = .ok (.ireturn, 1) := by decide +kernel
theorem dX10_many_158 : decode cX10_many 158 = .ok (.aload_n 0, 1) := by decide +kernel
theorem dX10_many_159 : decode cX10_many 159 = .ok (.aload_n 2, 1) := by decide +kernel
theorem dX10_many_160 : decode cX10_many 160 = .ok (.getfield 220, 3) := by decide +kernel
theorem dX10_many_163 : decode cX10_many 163 = .ok (.bipush 6, 2) := by decide +kernel
theorem dX10_many_165 : decode cX10_many 165 = .ok (.iaload, 1) := by decide +kernel
theorem dX10_many_166 : decode cX10_many 166 = .ok (.invokevirtual 168, 3) := by decide +kernel
theorem dX10_many_169 : decode cX10_many 169 = .ok (.ireturn, 1) := by decide +kernel
theorem dX10_many_170 : decode cX10_many 170 = .ok (.aload_n 0, 1) := by decide +kernel
theorem dX10_many_171 : decode cX10_many 171 = .ok (.aload_n 2, 1) := by decide +kernel
theorem dX10_many_172 : decode cX10_many 172 = .ok (.invokevirtual 223, 3) := by decide +kernel
theorem dX10_many_175 : decode cX10_many 175 = .ok (.invokevirtual 168, 3) := by decide +kernel
theorem dX10_many_178 : decode cX10_many 178 = .ok (.ireturn, 1) := by decide +kernel
theorem dX10_many_179 : decode cX10_many 179 = .ok (.aload_n 0, 1) := by decide +kernel
theorem dX10_many_180 : decode cX10_many 180 = .ok (.aload_n 2, 1) := by decide +kernel
theorem dX10_many_181 : decode cX10_many 181 = .ok (.invokevirtual 226, 3) := by decide +kernel
theorem dX10_many_184 : decode cX10_many 184 = .ok (.invokevirtual 168, 3) := by decide +kernel
theorem dX10_many_187 : decode cX10_many 187 = .ok (.ireturn, 1) := by decide +kernel
theorem dX10_many_188 : decode cX10_many 188 = .ok (.aload_n 0, 1) := by decide +kernel
theorem dX10_many_189 : decode cX10_many 189 = .ok (.aload_n 0, 1) := by decide +kernel
theorem dX10_many_190 : decode cX10_many 190 = .ok (.getfield 47, 3) := by decide +kernel
theorem dX10_many_193 : decode cX10_many 193 = .ok (.iconst 1, 1) := by decide +kernel
theorem dX10_many_194 : decode cX10_many 194 = .ok (.invokevirtual 229, 3) := by decide +kernel
theorem dX10_many_197 : decode cX10_many 197 = .ok (.invokevirtual 168, 3) := by decide +kernel
theorem dX10_many_200 : decode cX10_many 200 = .ok (.ireturn, 1) := by decide +kernel
theorem dX10_many_201 : decode cX10_many 201 = .ok (.aload_n 0, 1) := by decide +kernel
theorem dX10_many_202 : decode cX10_many 202 = .ok (.aload_n 0, 1) := by decide +kernel
theorem dX10_many_203 : decode cX10_many 203 = .ok (.getfield 47, 3) := by decide +kernel
theorem dX10_many_206 : decode cX10_many 206 = .ok (.iconst 2, 1) := by decide +kernel
theorem dX10_many_207 : decode cX10_many 207 = .ok (.invokevirtual 229, 3) := by decide +kernel
theorem dX10_many_210 : decode cX10_many 210 = .ok (.invokevirtual 168, 3) := by decide +kernel
theorem dX10_many_213 : decode cX10_many 213 = .ok (.ireturn, 1) := by decide +kernel
theorem dX10_many_214 : decode cX10_many 214 = .ok (.aload_n 0, 1) := by decide +kernel
theorem dX10_many_215 : decode cX10_many 215 = .ok (.aload_n 2, 1) := by decide +kernel
theorem dX10_many_216 : decode cX10_many 216 = .ok (.getfield 232, 3) := by decide +kernel
theorem dX10_many_219 : decode cX10_many 219 = .ok (.invokevirtual 168, 3) := by decide +kernel
theorem dX10_many_222 : decode cX10_many 222 = .ok (.ireturn, 1) := by decide +kernel
theorem dX10_many_223 : decode cX10_many 223 = .ok (.aload_n 0, 1) := by decide +kernel
theorem dX10_many_224 : decode cX10_many 224 = .ok (.iconst 5, 1) := by decide +kernel
theorem dX10_many_225 : decode cX10_many 225 = .ok (.invokevirtual 117, 3) := by decide +kernel
theorem dX10_many_228 : decode cX10_many 228 = .ok (.ireturn, 1) := by decide +kernel
theorem dX10_card_0 : decode cX10_card 0 = .ok (.aload_n 0, 1) := by decide +kernel
theorem dX10_card_1 : decode cX10_card 1 = .ok (.iload_n 1, 1) := by decide +kernel
theorem dX10_card_2 : decode cX10_card 2 = .ok (.invokevirtual 235, 3) := by decide +kernel
theorem dX10_card_5 : decode cX10_card 5 = .ok (.ifCond .ne 9, 3) := by decide +kernel
theorem dX10_card_8 : decode cX10_card 8 = .ok (.aload_n 0, 1) := by decide +kernel
theorem dX10_card_9 : decode cX10_card 9 = .ok (.iconst 2, 1) := by decide +kernel
theorem dX10_card_10 : decode cX10_card 10 = .ok (.invokevirtual 117, 3) := by decide +kernel
theorem dX10_card_13 : decode cX10_card 13 = .ok (.ireturn, 1) := by decide +kernel
theorem dX10_card_14 : decode cX10_card 14 = .ok (.aload_n 0, 1) := by decide +kernel
theorem dX10_card_15 : decode cX10_card 15 = .ok (.aload_n 0, 1) := by decide +kernel
theorem dX10_card_16 : decode cX10_card 16 = .ok (.getfield 47, 3) := by decide +kernel
theorem dX10_card_19 : decode cX10_card 19 = .ok (.getfield 192, 3) := by decide +kernel
theorem dX10_card_22 : decode cX10_card 22 = .ok (.iload_n 1, 1) := by decide +kernel
theorem dX10_card_23 : decode cX10_card 23 = .ok (.iload_n 2, 1) := by decide +kernel
theorem dX10_card_24 : decode cX10_card 24 = .ok (.invokevirtual 238, 3) := by decide +kernel
theorem dX10_card_27 : decode cX10_card 27 = .ok (.invokevirtual 241, 3) := by decide +kernel
theorem dX10_card_30 : decode cX10_card 30 = .ok (.ireturn, 1) := by decide +kernel
theorem dX10_length_0 : decode cX10_length 0 = .ok (.aload_n 0, 1) := by decide +kernel
theorem dX10_length_1 : decode cX10_length 1 = .ok (.iload_n 1, 1) := by decide +kernel
theorem dX10_length_2 : decode cX10_length 2 = .ok (.invokevirtual 235, 3) := by decide +kernel
theorem dX10_length_5 : decode cX10_length 5 = .ok (.ifCond .ne 9, 3) := by decide +kernel
theorem dX10_length_8 : decode cX10_length 8 = .ok (.aload_n 0, 1) := by decide +kernel
theorem dX10_length_9 : decode cX10_length 9 = .ok (.iconst 2, 1) := by decide +kernel
theorem dX10_length_10 : decode cX10_length 10 = .ok (.invokevirtual 117, 3) := by decide +kernel
theorem dX10_length_13 : decode cX10_length 13 = .ok (.ireturn, 1) := by decide +kernel
theorem dX10_length_14 : decode cX10_length 14 = .ok (.aload_n 0, 1) := by decide +kernel
theorem dX10_length_15 : decode cX10_length 15 = .ok (.aload_n 0, 1) := by decide +kernel
theorem dX10_length_16 : decode cX10_length 16 = .ok (.getfield 47, 3) := by decide +kernel
theorem dX10_length_19 : decode cX10_length 19 = .ok (.getfield 192, 3) := by decide +kernel
theorem dX10_length_22 : decode cX10_length 22 = .ok (.getfield 220, 3) := by decide +kernel
theorem dX10_length_25 : decode cX10_length 25 = .ok (.iload_n 1, 1) := by decide +kernel
theorem dX10_length_26 : decode cX10_length 26 = .ok (.iaload, 1) := by decide +kernel
theorem dX10_length_27 : decode cX10_length 27 = .ok (.invokevirtual 168, 3) := by decide +kernel
theorem dX10_length_30 : decode cX10_length 30 = .ok (.ireturn, 1) := by decide +kernel
theorem dX10_topOf_0 : decode cX10_topOf 0 = .ok (.aload_n 0, 1) := by decide +kernel
theorem dX10_topOf_1 : decode cX10_topOf 1 = .ok (.iload_n 1, 1) := by decide +kernel
theorem dX10_topOf_2 : decode cX10_topOf 2 = .ok (.invokevirtual 235, 3) := by decide +kernel
theorem dX10_topOf_5 : decode cX10_topOf 5 = .ok (.ifCond .ne 15, 3) := by decide +kernel
theorem dX10_topOf_8 : decode cX10_topOf 8 = .ok (.iload_n 1, 1) := by decide +kernel
theorem dX10_topOf_9 : decode cX10_topOf 9 = .ok (.bipush 6, 2) := by decide +kernel
theorem dX10_topOf_11 : decode cX10_topOf 11 = .ok (.if_icmp .eq 9, 3) := by decide +kernel
theorem dX10_topOf_14 : decode cX10_topOf 14 = .ok (.aload_n 0, 1) := by decide +kernel
theorem dX10_topOf_15 : decode cX10_topOf 15 = .ok (.iconst 2, 1) := by decide +kernel
theorem dX10_topOf_16 : decode cX10_topOf 16 = .ok (.invokevirtual 117, 3) := by decide +kernel
theorem dX10_topOf_19 : decode cX10_topOf 19 = .ok (.ireturn, 1) := by decide +kernel
theorem dX10_topOf_20 : decode cX10_topOf 20 = .ok (.aload_n 0, 1) := by decide +kernel
theorem dX10_topOf_21 : decode cX10_topOf 21 = .ok (.aload_n 0, 1) := by decide +kernel
theorem dX10_topOf_22 : decode cX10_topOf 22 = .ok (.getfield 47, 3) := by decide +kernel
theorem dX10_topOf_25 : decode cX10_topOf 25 = .ok (.getfield 192, 3) := by decide +kernel
theorem dX10_topOf_28 : decode cX10_topOf 28 = .ok (.iload_n 1, 1) := by decide +kernel
theorem dX10_topOf_29 : decode cX10_topOf 29 = .ok (.invokevirtual 244, 3) := by decide +kernel
theorem dX10_topOf_32 : decode cX10_topOf 32 = .ok (.invokevirtual 241, 3) := by decide +kernel
theorem dX10_topOf_35 : decode cX10_topOf 35 = .ok (.ireturn, 1) := by decide +kernel
theorem dX10_stockAt_0 : decode cX10_stockAt 0 = .ok (.aload_n 0, 1) := by decide +kernel
theorem dX10_stockAt_1 : decode cX10_stockAt 1 = .ok (.aload_n 0, 1) := by decide +kernel
theorem dX10_stockAt_2 : decode cX10_stockAt 2 = .ok (.getfield 47, 3) := by decide +kernel
theorem dX10_stockAt_5 : decode cX10_stockAt 5 = .ok (.getfield 192, 3) := by decide +kernel
theorem dX10_stockAt_8 : decode cX10_stockAt 8 = .ok (.iload_n 1, 1) := by decide +kernel
theorem dX10_stockAt_9 : decode cX10_stockAt 9 = .ok (.invokevirtual 247, 3) := by decide +kernel
theorem dX10_stockAt_12 : decode cX10_stockAt 12 = .ok (.invokevirtual 241, 3) := by decide +kernel
theorem dX10_stockAt_15 : decode cX10_stockAt 15 = .ok (.ireturn, 1) := by decide +kernel
theorem dX10_homeOf_0 : decode cX10_homeOf 0 = .ok (.aload_n 0, 1) := by decide +kernel
theorem dX10_homeOf_1 : decode cX10_homeOf 1 = .ok (.iload_n 1, 1) := by decide +kernel
theorem dX10_homeOf_2 : decode cX10_homeOf 2 = .ok (.invokevirtual 250, 3) := by decide +kernel
theorem dX10_homeOf_5 : decode cX10_homeOf 5 = .ok (.ifCond .ne 9, 3) := by decide +kernel
theorem dX10_homeOf_8 : decode cX10_homeOf 8 = .ok (.aload_n 0, 1) := by decide +kernel
theorem dX10_homeOf_9 : decode cX10_homeOf 9 = .ok (.iconst 2, 1) := by decide +kernel
theorem dX10_homeOf_10 : decode cX10_homeOf 10 = .ok (.invokevirtual 117, 3) := by decide +kernel
theorem dX10_homeOf_13 : decode cX10_homeOf 13 = .ok (.ireturn, 1) := by decide +kernel
theorem dX10_homeOf_14 : decode cX10_homeOf 14 = .ok (.aload_n 0, 1) := by decide +kernel
theorem dX10_homeOf_15 : decode cX10_homeOf 15 = .ok (.aload_n 0, 1) := by decide +kernel
theorem dX10_homeOf_16 : decode cX10_homeOf 16 = .ok (.getfield 47, 3) := by decide +kernel
theorem dX10_homeOf_19 : decode cX10_homeOf 19 = .ok (.getfield 192, 3) := by decide +kernel
theorem dX10_homeOf_22 : decode cX10_homeOf 22 = .ok (.getfield 253, 3) := by decide +kernel
theorem dX10_homeOf_25 : decode cX10_homeOf 25 = .ok (.iload_n 1, 1) := by decide +kernel
theorem dX10_homeOf_26 : decode cX10_homeOf 26 = .ok (.iaload, 1) := by decide +kernel
theorem dX10_homeOf_27 : decode cX10_homeOf 27 = .ok (.invokevirtual 168, 3) := by decide +kernel
theorem dX10_homeOf_30 : decode cX10_homeOf 30 = .ok (.ireturn, 1) := by decide +kernel
theorem dX10_field_0 : decode cX10_field 0 = .ok (.aload_n 0, 1) := by decide +kernel
theorem dX10_field_1 : decode cX10_field 1 = .ok (.iload_n 1, 1) := by decide +kernel
theorem dX10_field_2 : decode cX10_field 2 = .ok (.invokevirtual 256, 3) := by decide +kernel
theorem dX10_field_5 : decode cX10_field 5 = .ok (.ifCond .ne 9, 3) := by decide +kernel
theorem dX10_field_8 : decode cX10_field 8 = .ok (.aload_n 0, 1) := by decide +kernel
theorem dX10_field_9 : decode cX10_field 9 = .ok (.iconst 2, 1) := by decide +kernel
theorem dX10_field_10 : decode cX10_field 10 = .ok (.invokevirtual 117, 3) := by decide +kernel
theorem dX10_field_13 : decode cX10_field 13 = .ok (.ireturn, 1) := by decide +kernel
theorem dX10_field_14 : decode cX10_field 14 = .ok (.iload_n 2, 1) := by decide +kernel
theorem dX10_field_15 : decode cX10_field 15 = .ok (.tableswitch 103 0 4 #[33, 47, 61, 75, 89], 33) := by decide +kernel
theorem dX10_field_48 : decode cX10_field 48 = .ok (.aload_n 0, 1) := by decide +kernel
theorem dX10_field_49 : decode cX10_field 49 = .ok (.aload_n 0, 1) := by decide +kernel
theorem dX10_field_50 : decode cX10_field 50 = .ok (.getfield 47, 3) := by decide +kernel
theorem dX10_field_53 : decode cX10_field 53 = .ok (.getfield 259, 3) := by decide +kernel
theorem dX10_field_56 : decode cX10_field 56 = .ok (.iload_n 1, 1) := by decide +kernel
theorem dX10_field_57 : decode cX10_field 57 = .ok (.iaload, 1) := by decide +kernel
theorem dX10_field_58 : decode cX10_field 58 = .ok (.invokevirtual 168, 3) := by decide +kernel
theorem dX10_field_61 : decode cX10_field 61 = .ok (.ireturn, 1) := by decide +kernel
theorem dX10_field_62 : decode cX10_field 62 = .ok (.aload_n 0, 1) := by decide +kernel
theorem dX10_field_63 : decode cX10_field 63 = .ok (.aload_n 0, 1) := by decide +kernel
theorem dX10_field_64 : decode cX10_field 64 = .ok (.getfield 47, 3) := by decide +kernel
theorem dX10_field_67 : decode cX10_field 67 = .ok (.getfield 262, 3) := by decide +kernel
theorem dX10_field_70 : decode cX10_field 70 = .ok (.iload_n 1, 1) := by decide +kernel
theorem dX10_field_71 : decode cX10_field 71 = .ok (.iaload, 1) := by decide +kernel
theorem dX10_field_72 : decode cX10_field 72 = .ok (.invokevirtual 168, 3) := by decide +kernel
theorem dX10_field_75 : decode cX10_field 75 = .ok (.ireturn, 1) := by decide +kernel
theorem dX10_field_76 : decode cX10_field 76 = .ok (.aload_n 0, 1) := by decide +kernel
theorem dX10_field_77 : decode cX10_field 77 = .ok (.aload_n 0, 1) := by decide +kernel
theorem dX10_field_78 : decode cX10_field 78 = .ok (.getfield 47, 3) := by decide +kernel
theorem dX10_field_81 : decode cX10_field 81 = .ok (.getfield 265, 3) := by decide +kernel
theorem dX10_field_84 : decode cX10_field 84 = .ok (.iload_n 1, 1) := by decide +kernel
theorem dX10_field_85 : decode cX10_field 85 = .ok (.iaload, 1) := by decide +kernel
theorem dX10_field_86 : decode cX10_field 86 = .ok (.invokevirtual 168, 3) := by decide +kernel
theorem dX10_field_89 : decode cX10_field 89 = .ok (.ireturn, 1) := by decide +kernel
theorem dX10_field_90 : decode cX10_field 90 = .ok (.aload_n 0, 1) := by decide +kernel
theorem dX10_field_91 : decode cX10_field 91 = .ok (.aload_n 0, 1) := by decide +kernel
theorem dX10_field_92 : decode cX10_field 92 = .ok (.getfield 47, 3) := by decide +kernel
theorem dX10_field_95 : decode cX10_field 95 = .ok (.getfield 268, 3) := by decide +kernel
theorem dX10_field_98 : decode cX10_field 98 = .ok (.iload_n 1, 1) := by decide +kernel
theorem dX10_field_99 : decode cX10_field 99 = .ok (.iaload, 1) := by decide +kernel
theorem dX10_field_100 : decode cX10_field 100 = .ok (.invokevirtual 168, 3) := by decide +kernel
theorem dX10_field_103 : decode cX10_field 103 = .ok (.ireturn, 1) := by decide +kernel
theorem dX10_field_104 : decode cX10_field 104 = .ok (.aload_n 0, 1) := by decide +kernel
theorem dX10_field_105 : decode cX10_field 105 = .ok (.aload_n 0, 1) := by decide +kernel
theorem dX10_field_106 : decode cX10_field 106 = .ok (.getfield 47, 3) := by decide +kernel
theorem dX10_field_109 : decode cX10_field 109 = .ok (.getfield 271, 3) := by decide +kernel
theorem dX10_field_112 : decode cX10_field 112 = .ok (.iload_n 1, 1) := by decide +kernel
theorem dX10_field_113 : decode cX10_field 113 = .ok (.iaload, 1) := by decide +kernel
theorem dX10_field_114 : decode cX10_field 114 = .ok (.invokevirtual 168, 3) := by decide +kernel
theorem dX10_field_117 : decode cX10_field 117 = .ok (.ireturn, 1) := by decide +kernel
theorem dX10_field_118 : decode cX10_field 118 = .ok (.aload_n 0, 1) := by decide +kernel
theorem dX10_field_119 : decode cX10_field 119 = .ok (.iconst 5, 1) := by decide +kernel
theorem dX10_field_120 : decode cX10_field 120 = .ok (.invokevirtual 117, 3) := by decide +kernel
theorem dX10_field_123 : decode cX10_field 123 = .ok (.ireturn, 1) := by decide +kernel
theorem dX10_copyRow_0 : decode cX10_copyRow 0 = .ok (.iload_n 2, 1) := by decide +kernel
theorem dX10_copyRow_1 : decode cX10_copyRow 1 = .ok (.invokestatic 94, 3) := by decide +kernel
theorem dX10_copyRow_4 : decode cX10_copyRow 4 = .ok (.ifCond .ne 9, 3) := by decide +kernel
theorem dX10_copyRow_7 : decode cX10_copyRow 7 = .ok (.aload_n 0, 1) := by decide +kernel
theorem dX10_copyRow_8 : decode cX10_copyRow 8 = .ok (.iconst 1, 1) := by decide +kernel
theorem dX10_copyRow_9 : decode cX10_copyRow 9 = .ok (.invokevirtual 117, 3) := by decide +kernel
theorem dX10_copyRow_12 : decode cX10_copyRow 12 = .ok (.ireturn, 1) := by decide +kernel
theorem dX10_copyRow_13 : decode cX10_copyRow 13 = .ok (.aload_n 0, 1) := by decide +kernel
theorem dX10_copyRow_14 : decode cX10_copyRow 14 = .ok (.iload_n 1, 1) := by decide +kernel
theorem dX10_copyRow_15 : decode cX10_copyRow 15 = .ok (.invokevirtual 235, 3) := by decide +kernel
theorem dX10_copyRow_18 : decode cX10_copyRow 18 = .ok (.ifCond .ne 9, 3) := by decide +kernel
theorem dX10_copyRow_21 : decode cX10_copyRow 21 = .ok (.aload_n 0, 1) := by decide +kernel
theorem dX10_copyRow_22 : decode cX10_copyRow 22 = .ok (.iconst 2, 1) := by decide +kernel
theorem dX10_copyRow_23 : decode cX10_copyRow 23 = .ok (.invokevirtual 117, 3) := by decide +kernel
theorem dX10_copyRow_26 : decode cX10_copyRow 26 = .ok (.ireturn, 1) := by decide +kernel
theorem dX10_copyRow_27 : decode cX10_copyRow 27 = .ok (.aload_n 0, 1) := by decide +kernel
theorem dX10_copyRow_28 : decode cX10_copyRow 28 = .ok (.getfield 15, 3) := by decide +kernel
theorem dX10_copyRow_31 : decode cX10_copyRow 31 = .ok (.iload_n 2, 1) := by decide +kernel
theorem dX10_copyRow_32 : decode cX10_copyRow 32 = .ok (.aaload, 1) := by decide +kernel
theorem dX10_copyRow_33 : decode cX10_copyRow 33 = .ok (.astore_n 3, 1) := by decide +kernel
theorem dX10_copyRow_34 : decode cX10_copyRow 34 = .ok (.aload_n 3, 1) := by decide +kernel
theorem dX10_copyRow_35 : decode cX10_copyRow 35 = .ok (.getfield 125, 3) := by decide +kernel
theorem dX10_copyRow_38 : decode cX10_copyRow 38 = .ok (.ifCond .ne 9, 3) := by decide +kernel
theorem dX10_copyRow_41 : decode cX10_copyRow 41 = .ok (.aload_n 0, 1) := by decide +kernel
theorem dX10_copyRow_42 : decode cX10_copyRow 42 = .ok (.iconst 3, 1) := by decide +kernel
theorem dX10_copyRow_43 : decode cX10_copyRow 43 = .ok (.invokevirtual 117, 3) := by decide +kernel
theorem dX10_copyRow_46 : decode cX10_copyRow 46 = .ok (.ireturn, 1) := by decide +kernel
theorem dX10_copyRow_47 : decode cX10_copyRow 47 = .ok (.aload_n 0, 1) := by decide +kernel
theorem dX10_copyRow_48 : decode cX10_copyRow 48 = .ok (.getfield 47, 3) := by decide +kernel
theorem dX10_copyRow_51 : decode cX10_copyRow 51 = .ok (.getfield 192, 3) := by decide +kernel
theorem dX10_copyRow_54 : decode cX10_copyRow 54 = .ok (.getfield 220, 3) := by decide +kernel
theorem dX10_copyRow_57 : decode cX10_copyRow 57 = .ok (.iload_n 1, 1) := by decide +kernel
theorem dX10_copyRow_58 : decode cX10_copyRow 58 = .ok (.iaload, 1) := by decide +kernel
theorem dX10_copyRow_59 : decode cX10_copyRow 59 = .ok (.istore 4, 2) := by decide +kernel
theorem dX10_copyRow_61 : decode cX10_copyRow 61 = .ok (.iload 4, 2) := by decide +kernel
theorem dX10_copyRow_63 : decode cX10_copyRow 63 = .ok (.aload_n 3, 1) := by decide +kernel
theorem dX10_copyRow_64 : decode cX10_copyRow 64 = .ok (.getfield 274, 3) := by decide +kernel
theorem dX10_copyRow_67 : decode cX10_copyRow 67 = .ok (.if_icmp .le 9, 3) := by decide +kernel
theorem dX10_copyRow_70 : decode cX10_copyRow 70 = .ok (.aload_n 0, 1) := by decide +kernel
theorem dX10_copyRow_71 : decode cX10_copyRow 71 = .ok (.iconst 4, 1) := by decide +kernel
theorem dX10_copyRow_72 : decode cX10_copyRow 72 = .ok (.invokevirtual 117, 3) := by decide +kernel
theorem dX10_copyRow_75 : decode cX10_copyRow 75 = .ok (.ireturn, 1) := by decide +kernel
theorem dX10_copyRow_76 : decode cX10_copyRow 76 = .ok (.iconst 0, 1) := by decide +kernel
theorem dX10_copyRow_77 : decode cX10_copyRow 77 = .ok (.istore 5, 2) := by decide +kernel
theorem dX10_copyRow_79 : decode cX10_copyRow 79 = .ok (.iload 5, 2) := by decide +kernel
theorem dX10_copyRow_81 : decode cX10_copyRow 81 = .ok (.iload 4, 2) := by decide +kernel
theorem dX10_copyRow_83 : decode cX10_copyRow 83 = .ok (.if_icmp .ge 29, 3) := by decide +kernel
theorem dX10_copyRow_86 : decode cX10_copyRow 86 = .ok (.aload_n 3, 1) := by decide +kernel
theorem dX10_copyRow_87 : decode cX10_copyRow 87 = .ok (.iload 5, 2) := by decide +kernel
theorem dX10_copyRow_89 : decode cX10_copyRow 89 = .ok (.aload_n 0, 1) := by decide +kernel
theorem dX10_copyRow_90 : decode cX10_copyRow 90 = .ok (.getfield 47, 3) := by decide +kernel
theorem dX10_copyRow_93 : decode cX10_copyRow 93 = .ok (.getfield 192, 3) := by decide +kernel
theorem dX10_copyRow_96 : decode cX10_copyRow 96 = .ok (.iload_n 1, 1) := by decide +kernel
theorem dX10_copyRow_97 : decode cX10_copyRow 97 = .ok (.iload 5, 2) := by decide +kernel
theorem dX10_copyRow_99 : decode cX10_copyRow 99 = .ok (.invokevirtual 238, 3) := by decide +kernel
theorem dX10_copyRow_102 : decode cX10_copyRow 102 = .ok (.i2l, 1) := by decide +kernel
theorem dX10_copyRow_103 : decode cX10_copyRow 103 = .ok (.invokevirtual 113, 3) := by decide +kernel
theorem dX10_copyRow_106 : decode cX10_copyRow 106 = .ok (.iinc 5 1, 3) := by decide +kernel
theorem dX10_copyRow_109 : decode cX10_copyRow 109 = .ok (.goto (-30), 3) := by decide +kernel
theorem dX10_copyRow_112 : decode cX10_copyRow 112 = .ok (.aload_n 0, 1) := by decide +kernel
theorem dX10_copyRow_113 : decode cX10_copyRow 113 = .ok (.iload 4, 2) := by decide +kernel
theorem dX10_copyRow_115 : decode cX10_copyRow 115 = .ok (.invokevirtual 168, 3) := by decide +kernel
theorem dX10_copyRow_118 : decode cX10_copyRow 118 = .ok (.ireturn, 1) := by decide +kernel
theorem dX10_move_0 : decode cX10_move 0 = .ok (.aload_n 0, 1) := by decide +kernel
theorem dX10_move_1 : decode cX10_move 1 = .ok (.iload_n 1, 1) := by decide +kernel
theorem dX10_move_2 : decode cX10_move 2 = .ok (.iload_n 2, 1) := by decide +kernel
theorem dX10_move_3 : decode cX10_move 3 = .ok (.invokevirtual 277, 3) := by decide +kernel
theorem dX10_move_6 : decode cX10_move 6 = .ok (.ifCond .ne 9, 3) := by decide +kernel
theorem dX10_move_9 : decode cX10_move 9 = .ok (.aload_n 0, 1) := by decide +kernel
theorem dX10_move_10 : decode cX10_move 10 = .ok (.iconst 2, 1) := by decide +kernel
theorem dX10_move_11 : decode cX10_move 11 = .ok (.invokevirtual 117, 3) := by decide +kernel
theorem dX10_move_14 : decode cX10_move 14 = .ok (.ireturn, 1) := by decide +kernel
theorem dX10_move_15 : decode cX10_move 15 = .ok (.aload_n 0, 1) := by decide +kernel
theorem dX10_move_16 : decode cX10_move 16 = .ok (.getfield 47, 3) := by decide +kernel
theorem dX10_move_19 : decode cX10_move 19 = .ok (.getfield 192, 3) := by decide +kernel
theorem dX10_move_22 : decode cX10_move 22 = .ok (.iload_n 1, 1) := by decide +kernel
theorem dX10_move_23 : decode cX10_move 23 = .ok (.iload_n 2, 1) := by decide +kernel
theorem dX10_move_24 : decode cX10_move 24 = .ok (.invokevirtual 280, 3) := by decide +kernel
theorem dX10_move_27 : decode cX10_move 27 = .ok (.ifCond .ne 10, 3) := by decide +kernel
theorem dX10_move_30 : decode cX10_move 30 = .ok (.aload_n 0, 1) := by decide +kernel
theorem dX10_move_31 : decode cX10_move 31 = .ok (.bipush 9, 2) := by decide +kernel
theorem dX10_move_33 : decode cX10_move 33 = .ok (.invokevirtual 117, 3) := by decide +kernel
theorem dX10_move_36 : decode cX10_move 36 = .ok (.ireturn, 1) := by decide +kernel
theorem dX10_move_37 : decode cX10_move 37 = .ok (.aload_n 0, 1) := by decide +kernel
theorem dX10_move_38 : decode cX10_move 38 = .ok (.aload_n 0, 1) := by decide +kernel
theorem dX10_move_39 : decode cX10_move 39 = .ok (.getfield 47, 3) := by decide +kernel
theorem dX10_move_42 : decode cX10_move 42 = .ok (.iload_n 1, 1) := by decide +kernel
theorem dX10_move_43 : decode cX10_move 43 = .ok (.iload_n 2, 1) := by decide +kernel
theorem dX10_move_44 : decode cX10_move 44 = .ok (.invokevirtual 283, 3) := by decide +kernel
theorem dX10_move_47 : decode cX10_move 47 = .ok (.invokevirtual 168, 3) := by decide +kernel
theorem dX10_move_50 : decode cX10_move 50 = .ok (.ireturn, 1) := by decide +kernel
theorem dX10_deal_0 : decode cX10_deal 0 = .ok (.aload_n 0, 1) := by decide +kernel
theorem dX10_deal_1 : decode cX10_deal 1 = .ok (.getfield 47, 3) := by decide +kernel
theorem dX10_deal_4 : decode cX10_deal 4 = .ok (.getfield 192, 3) := by decide +kernel
theorem dX10_deal_7 : decode cX10_deal 7 = .ok (.invokevirtual 286, 3) := by decide +kernel
theorem dX10_deal_10 : decode cX10_deal 10 = .ok (.ifCond .ne 10, 3) := by decide +kernel
theorem dX10_deal_13 : decode cX10_deal 13 = .ok (.aload_n 0, 1) := by decide +kernel
theorem dX10_deal_14 : decode cX10_deal 14 = .ok (.bipush 9, 2) := by decide +kernel
theorem dX10_deal_16 : decode cX10_deal 16 = .ok (.invokevirtual 117, 3) := by decide +kernel
theorem dX10_deal_19 : decode cX10_deal 19 = .ok (.ireturn, 1) := by decide +kernel
theorem dX10_deal_20 : decode cX10_deal 20 = .ok (.aload_n 0, 1) := by decide +kernel
theorem dX10_deal_21 : decode cX10_deal 21 = .ok (.aload_n 0, 1) := by decide +kernel
theorem dX10_deal_22 : decode cX10_deal 22 = .ok (.getfield 47, 3) := by decide +kernel
theorem dX10_deal_25 : decode cX10_deal 25 = .ok (.getfield 192, 3) := by decide +kernel
theorem dX10_deal_28 : decode cX10_deal 28 = .ok (.invokevirtual 289, 3) := by decide +kernel
theorem dX10_deal_31 : decode cX10_deal 31 = .ok (.invokevirtual 168, 3) := by decide +kernel
theorem dX10_deal_34 : decode cX10_deal 34 = .ok (.ireturn, 1) := by decide +kernel
theorem dX10_run_0 : decode cX10_run 0 = .ok (.aload_n 0, 1) := by decide +kernel
theorem dX10_run_1 : decode cX10_run 1 = .ok (.aload_n 0, 1) := by decide +kernel
theorem dX10_run_2 : decode cX10_run 2 = .ok (.getfield 47, 3) := by decide +kernel
theorem dX10_run_5 : decode cX10_run 5 = .ok (.invokevirtual 292, 3) := by decide +kernel
theorem dX10_run_8 : decode cX10_run 8 = .ok (.invokevirtual 168, 3) := by decide +kernel
theorem dX10_run_11 : decode cX10_run 11 = .ok (.ireturn, 1) := by decide +kernel
theorem dX10_day_0 : decode cX10_day 0 = .ok (.iload_n 1, 1) := by decide +kernel
theorem dX10_day_1 : decode cX10_day 1 = .ok (.iconst 1, 1) := by decide +kernel
theorem dX10_day_2 : decode cX10_day 2 = .ok (.if_icmp .lt 9, 3) := by decide +kernel
theorem dX10_day_5 : decode cX10_day 5 = .ok (.iload_n 1, 1) := by decide +kernel
theorem dX10_day_6 : decode cX10_day 6 = .ok (.bipush 99, 2) := by decide +kernel
theorem dX10_day_8 : decode cX10_day 8 = .ok (.if_icmp .le 9, 3) := by decide +kernel
theorem dX10_day_11 : decode cX10_day 11 = .ok (.aload_n 0, 1) := by decide +kernel
theorem dX10_day_12 : decode cX10_day 12 = .ok (.iconst 5, 1) := by decide +kernel
theorem dX10_day_13 : decode cX10_day 13 = .ok (.invokevirtual 117, 3) := by decide +kernel
theorem dX10_day_16 : decode cX10_day 16 = .ok (.ireturn, 1) := by decide +kernel
theorem dX10_day_17 : decode cX10_day 17 = .ok (.aload_n 0, 1) := by decide +kernel
theorem dX10_day_18 : decode cX10_day 18 = .ok (.getfield 47, 3) := by decide +kernel
theorem dX10_day_21 : decode cX10_day 21 = .ok (.iload_n 1, 1) := by decide +kernel
theorem dX10_day_22 : decode cX10_day 22 = .ok (.invokevirtual 295, 3) := by decide +kernel
theorem dX10_day_25 : decode cX10_day 25 = .ok (.ifCond .ne 10, 3) := by decide +kernel
theorem dX10_day_28 : decode cX10_day 28 = .ok (.aload_n 0, 1) := by decide +kernel
theorem dX10_day_29 : decode cX10_day 29 = .ok (.bipush 7, 2) := by decide +kernel
theorem dX10_day_31 : decode cX10_day 31 = .ok (.invokevirtual 117, 3) := by decide +kernel
theorem dX10_day_34 : decode cX10_day 34 = .ok (.ireturn, 1) := by decide +kernel
theorem dX10_day_35 : decode cX10_day 35 = .ok (.aload_n 0, 1) := by decide +kernel
theorem dX10_day_36 : decode cX10_day 36 = .ok (.aload_n 0, 1) := by decide +kernel
theorem dX10_day_37 : decode cX10_day 37 = .ok (.getfield 47, 3) := by decide +kernel
theorem dX10_day_40 : decode cX10_day 40 = .ok (.iconst 0, 1) := by decide +kernel
theorem dX10_day_41 : decode cX10_day 41 = .ok (.invokevirtual 229, 3) := by decide +kernel
theorem dX10_day_44 : decode cX10_day 44 = .ok (.invokevirtual 168, 3) := by decide +kernel
theorem dX10_day_47 : decode cX10_day 47 = .ok (.ireturn, 1) := by decide +kernel
theorem dX10_rain_0 : decode cX10_rain 0 = .ok (.aload_n 0, 1) := by decide +kernel
theorem dX10_rain_1 : decode cX10_rain 1 = .ok (.iload_n 1, 1) := by decide +kernel
theorem dX10_rain_2 : decode cX10_rain 2 = .ok (.invokevirtual 256, 3) := by decide +kernel
theorem dX10_rain_5 : decode cX10_rain 5 = .ok (.ifCond .ne 9, 3) := by decide +kernel
theorem dX10_rain_8 : decode cX10_rain 8 = .ok (.aload_n 0, 1) := by decide +kernel
theorem dX10_rain_9 : decode cX10_rain 9 = .ok (.iconst 2, 1) := by decide +kernel
theorem dX10_rain_10 : decode cX10_rain 10 = .ok (.invokevirtual 117, 3) := by decide +kernel
theorem dX10_rain_13 : decode cX10_rain 13 = .ok (.ireturn, 1) := by decide +kernel
theorem dX10_rain_14 : decode cX10_rain 14 = .ok (.iload_n 2, 1) := by decide +kernel
theorem dX10_rain_15 : decode cX10_rain 15 = .ok (.iconst 1, 1) := by decide +kernel
theorem dX10_rain_16 : decode cX10_rain 16 = .ok (.if_icmp .lt 9, 3) := by decide +kernel
theorem dX10_rain_19 : decode cX10_rain 19 = .ok (.iload_n 2, 1) := by decide +kernel
theorem dX10_rain_20 : decode cX10_rain 20 = .ok (.bipush 99, 2) := by decide +kernel
theorem dX10_rain_22 : decode cX10_rain 22 = .ok (.if_icmp .le 9, 3) := by decide +kernel
theorem dX10_rain_25 : decode cX10_rain 25 = .ok (.aload_n 0, 1) := by decide +kernel
theorem dX10_rain_26 : decode cX10_rain 26 = .ok (.iconst 5, 1) := by decide +kernel
theorem dX10_rain_27 : decode cX10_rain 27 = .ok (.invokevirtual 117, 3) := by decide +kernel
theorem dX10_rain_30 : decode cX10_rain 30 = .ok (.ireturn, 1) := by decide +kernel
theorem dX10_rain_31 : decode cX10_rain 31 = .ok (.aload_n 0, 1) := by decide +kernel
theorem dX10_rain_32 : decode cX10_rain 32 = .ok (.getfield 47, 3) := by decide +kernel
theorem dX10_rain_35 : decode cX10_rain 35 = .ok (.getfield 271, 3) := by decide +kernel
theorem dX10_rain_38 : decode cX10_rain 38 = .ok (.iload_n 1, 1) := by decide +kernel
theorem dX10_rain_39 : decode cX10_rain 39 = .ok (.iaload, 1) := by decide +kernel
theorem dX10_rain_40 : decode cX10_rain 40 = .ok (.ifCond .eq 10, 3) := by decide +kernel
theorem dX10_rain_43 : decode cX10_rain 43 = .ok (.aload_n 0, 1) := by decide +kernel
theorem dX10_rain_44 : decode cX10_rain 44 = .ok (.bipush 9, 2) := by decide +kernel
theorem dX10_rain_46 : decode cX10_rain 46 = .ok (.invokevirtual 117, 3) := by decide +kernel
theorem dX10_rain_49 : decode cX10_rain 49 = .ok (.ireturn, 1) := by decide +kernel
theorem dX10_rain_50 : decode cX10_rain 50 = .ok (.aload_n 0, 1) := by decide +kernel
theorem dX10_rain_51 : decode cX10_rain 51 = .ok (.getfield 47, 3) := by decide +kernel
theorem dX10_rain_54 : decode cX10_rain 54 = .ok (.iload_n 1, 1) := by decide +kernel
theorem dX10_rain_55 : decode cX10_rain 55 = .ok (.iload_n 2, 1) := by decide +kernel
theorem dX10_rain_56 : decode cX10_rain 56 = .ok (.invokevirtual 298, 3) := by decide +kernel
theorem dX10_rain_59 : decode cX10_rain 59 = .ok (.aload_n 0, 1) := by decide +kernel
theorem dX10_rain_60 : decode cX10_rain 60 = .ok (.aload_n 0, 1) := by decide +kernel
theorem dX10_rain_61 : decode cX10_rain 61 = .ok (.getfield 47, 3) := by decide +kernel
theorem dX10_rain_64 : decode cX10_rain 64 = .ok (.getfield 265, 3) := by decide +kernel
theorem dX10_rain_67 : decode cX10_rain 67 = .ok (.iload_n 1, 1) := by decide +kernel
theorem dX10_rain_68 : decode cX10_rain 68 = .ok (.iaload, 1) := by decide +kernel
theorem dX10_rain_69 : decode cX10_rain 69 = .ok (.invokevirtual 168, 3) := by decide +kernel
theorem dX10_rain_72 : decode cX10_rain 72 = .ok (.ireturn, 1) := by decide +kernel
theorem dX10_rule_0 : decode cX10_rule 0 = .ok (.iload_n 1, 1) := by decide +kernel
theorem dX10_rule_1 : decode cX10_rule 1 = .ok (.ifCond .lt 8, 3) := by decide +kernel
theorem dX10_rule_4 : decode cX10_rule 4 = .ok (.iload_n 1, 1) := by decide +kernel
theorem dX10_rule_5 : decode cX10_rule 5 = .ok (.iconst 2, 1) := by decide +kernel
theorem dX10_rule_6 : decode cX10_rule 6 = .ok (.if_icmp .le 9, 3) := by decide +kernel
theorem dX10_rule_9 : decode cX10_rule 9 = .ok (.aload_n 0, 1) := by decide +kernel
theorem dX10_rule_10 : decode cX10_rule 10 = .ok (.iconst 5, 1) := by decide +kernel
theorem dX10_rule_11 : decode cX10_rule 11 = .ok (.invokevirtual 98, 3) := by decide +kernel
theorem dX10_rule_14 : decode cX10_rule 14 = .ok (.ireturn, 1) := by decide +kernel
theorem dX10_rule_15 : decode cX10_rule 15 = .ok (.aload_n 0, 1) := by decide +kernel
theorem dX10_rule_16 : decode cX10_rule 16 = .ok (.getfield 47, 3) := by decide +kernel
theorem dX10_rule_19 : decode cX10_rule 19 = .ok (.getfield 192, 3) := by decide +kernel
theorem dX10_rule_22 : decode cX10_rule 22 = .ok (.iload_n 1, 1) := by decide +kernel
theorem dX10_rule_23 : decode cX10_rule 23 = .ok (.putfield 204, 3) := by decide +kernel
theorem dX10_rule_26 : decode cX10_rule 26 = .ok (.aload_n 0, 1) := by decide +kernel
theorem dX10_rule_27 : decode cX10_rule 27 = .ok (.invokevirtual 105, 3) := by decide +kernel
theorem dX10_rule_30 : decode cX10_rule 30 = .ok (.ireturn, 1) := by decide +kernel
theorem dX10_sow_0 : decode cX10_sow 0 = .ok (.aload_n 0, 1) := by decide +kernel
theorem dX10_sow_1 : decode cX10_sow 1 = .ok (.iload_n 1, 1) := by decide +kernel
theorem dX10_sow_2 : decode cX10_sow 2 = .ok (.invokevirtual 256, 3) := by decide +kernel
theorem dX10_sow_5 : decode cX10_sow 5 = .ok (.ifCond .eq 11, 3) := by decide +kernel
theorem dX10_sow_8 : decode cX10_sow 8 = .ok (.aload_n 0, 1) := by decide +kernel
theorem dX10_sow_9 : decode cX10_sow 9 = .ok (.iload_n 2, 1) := by decide +kernel
theorem dX10_sow_10 : decode cX10_sow 10 = .ok (.invokevirtual 250, 3) := by decide +kernel
theorem dX10_sow_13 : decode cX10_sow 13 = .ok (.ifCond .ne 9, 3) := by decide +kernel
theorem dX10_sow_16 : decode cX10_sow 16 = .ok (.aload_n 0, 1) := by decide +kernel
theorem dX10_sow_17 : decode cX10_sow 17 = .ok (.iconst 2, 1) := by decide +kernel
theorem dX10_sow_18 : decode cX10_sow 18 = .ok (.invokevirtual 98, 3) := by decide +kernel
theorem dX10_sow_21 : decode cX10_sow 21 = .ok (.ireturn, 1) := by decide +kernel
theorem dX10_sow_22 : decode cX10_sow 22 = .ok (.aload_n 0, 1) := by decide +kernel
theorem dX10_sow_23 : decode cX10_sow 23 = .ok (.getfield 47, 3) := by decide +kernel
theorem dX10_sow_26 : decode cX10_sow 26 = .ok (.getfield 259, 3) := by decide +kernel
theorem dX10_sow_29 : decode cX10_sow 29 = .ok (.iload_n 1, 1) := by decide +kernel
theorem dX10_sow_30 : decode cX10_sow 30 = .ok (.iload_n 2, 1) := by decide +kernel
theorem dX10_sow_31 : decode cX10_sow 31 = .ok (.iastore, 1) := by decide +kernel
theorem dX10_sow_32 : decode cX10_sow 32 = .ok (.aload_n 0, 1) := by decide +kernel
theorem dX10_sow_33 : decode cX10_sow 33 = .ok (.getfield 47, 3) := by decide +kernel
theorem dX10_sow_36 : decode cX10_sow 36 = .ok (.getfield 265, 3) := by decide +kernel
theorem dX10_sow_39 : decode cX10_sow 39 = .ok (.iload_n 1, 1) := by decide +kernel
theorem dX10_sow_40 : decode cX10_sow 40 = .ok (.bipush 10, 2) := by decide +kernel
theorem dX10_sow_42 : decode cX10_sow 42 = .ok (.iastore, 1) := by decide +kernel
theorem dX10_sow_43 : decode cX10_sow 43 = .ok (.aload_n 0, 1) := by decide +kernel
theorem dX10_sow_44 : decode cX10_sow 44 = .ok (.getfield 47, 3) := by decide +kernel
theorem dX10_sow_47 : decode cX10_sow 47 = .ok (.getfield 271, 3) := by decide +kernel
theorem dX10_sow_50 : decode cX10_sow 50 = .ok (.iload_n 1, 1) := by decide +kernel
theorem dX10_sow_51 : decode cX10_sow 51 = .ok (.iconst 0, 1) := by decide +kernel
theorem dX10_sow_52 : decode cX10_sow 52 = .ok (.iastore, 1) := by decide +kernel
theorem dX10_sow_53 : decode cX10_sow 53 = .ok (.aload_n 0, 1) := by decide +kernel
theorem dX10_sow_54 : decode cX10_sow 54 = .ok (.invokevirtual 105, 3) := by decide +kernel
theorem dX10_sow_57 : decode cX10_sow 57 = .ok (.ireturn, 1) := by decide +kernel
theorem dX10_shuffle_0 : decode cX10_shuffle 0 = .ok (.iload_n 1, 1) := by decide +kernel
theorem dX10_shuffle_1 : decode cX10_shuffle 1 = .ok (.invokestatic 301, 3) := by decide +kernel
theorem dX10_shuffle_4 : decode cX10_shuffle 4 = .ok (.ifCond .ne 9, 3) := by decide +kernel
theorem dX10_shuffle_7 : decode cX10_shuffle 7 = .ok (.aload_n 0, 1) := by decide +kernel
theorem dX10_shuffle_8 : decode cX10_shuffle 8 = .ok (.iconst 5, 1) := by decide +kernel
theorem dX10_shuffle_9 : decode cX10_shuffle 9 = .ok (.invokevirtual 117, 3) := by decide +kernel
theorem dX10_shuffle_12 : decode cX10_shuffle 12 = .ok (.ireturn, 1) := by decide +kernel
theorem dX10_shuffle_13 : decode cX10_shuffle 13 = .ok (.aload_n 0, 1) := by decide +kernel
theorem dX10_shuffle_14 : decode cX10_shuffle 14 = .ok (.getfield 78, 3) := by decide +kernel
theorem dX10_shuffle_17 : decode cX10_shuffle 17 = .ok (.aload_n 0, 1) := by decide +kernel
theorem dX10_shuffle_18 : decode cX10_shuffle 18 = .ok (.getfield 47, 3) := by decide +kernel
theorem dX10_shuffle_21 : decode cX10_shuffle 21 = .ok (.getfield 192, 3) := by decide +kernel
theorem dX10_shuffle_24 : decode cX10_shuffle 24 = .ok (.iload_n 1, 1) := by decide +kernel
theorem dX10_shuffle_25 : decode cX10_shuffle 25 = .ok (.invokevirtual 304, 3) := by decide +kernel
theorem dX10_shuffle_28 : decode cX10_shuffle 28 = .ok (.aload_n 0, 1) := by decide +kernel
theorem dX10_shuffle_29 : decode cX10_shuffle 29 = .ok (.aload_n 0, 1) := by decide +kernel
theorem dX10_shuffle_30 : decode cX10_shuffle 30 = .ok (.getfield 47, 3) := by decide +kernel
theorem dX10_shuffle_33 : decode cX10_shuffle 33 = .ok (.getfield 192, 3) := by decide +kernel
theorem dX10_shuffle_36 : decode cX10_shuffle 36 = .ok (.getfield 201, 3) := by decide +kernel
theorem dX10_shuffle_39 : decode cX10_shuffle 39 = .ok (.aload_n 0, 1) := by decide +kernel
theorem dX10_shuffle_40 : decode cX10_shuffle 40 = .ok (.getfield 47, 3) := by decide +kernel
theorem dX10_shuffle_43 : decode cX10_shuffle 43 = .ok (.getfield 192, 3) := by decide +kernel
theorem dX10_shuffle_46 : decode cX10_shuffle 46 = .ok (.getfield 196, 3) := by decide +kernel
theorem dX10_shuffle_49 : decode cX10_shuffle 49 = .ok (.imul, 1) := by decide +kernel
theorem dX10_shuffle_50 : decode cX10_shuffle 50 = .ok (.invokevirtual 168, 3) := by decide +kernel
theorem dX10_shuffle_53 : decode cX10_shuffle 53 = .ok (.ireturn, 1) := by decide +kernel
theorem dX10_canMove_0 : decode cX10_canMove 0 = .ok (.aload_n 0, 1) := by decide +kernel
theorem dX10_canMove_1 : decode cX10_canMove 1 = .ok (.iload_n 1, 1) := by decide +kernel
theorem dX10_canMove_2 : decode cX10_canMove 2 = .ok (.iload_n 2, 1) := by decide +kernel
theorem dX10_canMove_3 : decode cX10_canMove 3 = .ok (.invokevirtual 277, 3) := by decide +kernel
theorem dX10_canMove_6 : decode cX10_canMove 6 = .ok (.ifCond .ne 9, 3) := by decide +kernel
theorem dX10_canMove_9 : decode cX10_canMove 9 = .ok (.aload_n 0, 1) := by decide +kernel
theorem dX10_canMove_10 : decode cX10_canMove 10 = .ok (.iconst 2, 1) := by decide +kernel
theorem dX10_canMove_11 : decode cX10_canMove 11 = .ok (.invokevirtual 117, 3) := by decide +kernel
theorem dX10_canMove_14 : decode cX10_canMove 14 = .ok (.ireturn, 1) := by decide +kernel
theorem dX10_canMove_15 : decode cX10_canMove 15 = .ok (.aload_n 0, 1) := by decide +kernel
theorem dX10_canMove_16 : decode cX10_canMove 16 = .ok (.aload_n 0, 1) := by decide +kernel
theorem dX10_canMove_17 : decode cX10_canMove 17 = .ok (.getfield 47, 3) := by decide +kernel
theorem dX10_canMove_20 : decode cX10_canMove 20 = .ok (.getfield 192, 3) := by decide +kernel
theorem dX10_canMove_23 : decode cX10_canMove 23 = .ok (.iload_n 1, 1) := by decide +kernel
theorem dX10_canMove_24 : decode cX10_canMove 24 = .ok (.iload_n 2, 1) := by decide +kernel
theorem dX10_canMove_25 : decode cX10_canMove 25 = .ok (.invokevirtual 280, 3) := by decide +kernel
theorem dX10_canMove_28 : decode cX10_canMove 28 = .ok (.ifCond .eq 7, 3) := by decide +kernel
theorem dX10_canMove_31 : decode cX10_canMove 31 = .ok (.iconst 1, 1) := by decide +kernel
theorem dX10_canMove_32 : decode cX10_canMove 32 = .ok (.goto 4, 3) := by decide +kernel
theorem dX10_canMove_35 : decode cX10_canMove 35 = .ok (.iconst 0, 1) := by decide +kernel
theorem dX10_canMove_36 : decode cX10_canMove 36 = .ok (.invokevirtual 168, 3) := by decide +kernel
theorem dX10_canMove_39 : decode cX10_canMove 39 = .ok (.ireturn, 1) := by decide +kernel
theorem dX10_moves_0 : decode cX10_moves 0 = .ok (.aload_n 0, 1) := by decide +kernel
theorem dX10_moves_1 : decode cX10_moves 1 = .ok (.aload_n 0, 1) := by decide +kernel
theorem dX10_moves_2 : decode cX10_moves 2 = .ok (.getfield 47, 3) := by decide +kernel
theorem dX10_moves_5 : decode cX10_moves 5 = .ok (.getfield 192, 3) := by decide +kernel
theorem dX10_moves_8 : decode cX10_moves 8 = .ok (.aload_n 0, 1) := by decide +kernel
theorem dX10_moves_9 : decode cX10_moves 9 = .ok (.getfield 82, 3) := by decide +kernel
theorem dX10_moves_12 : decode cX10_moves 12 = .ok (.iconst 0, 1) := by decide +kernel
theorem dX10_moves_13 : decode cX10_moves 13 = .ok (.invokevirtual 308, 3) := by decide +kernel
theorem dX10_moves_16 : decode cX10_moves 16 = .ok (.invokevirtual 168, 3) := by decide +kernel
theorem dX10_moves_19 : decode cX10_moves 19 = .ok (.ireturn, 1) := by decide +kernel
theorem dX10_moveAt_0 : decode cX10_moveAt 0 = .ok (.aload_n 0, 1) := by decide +kernel
theorem dX10_moveAt_1 : decode cX10_moveAt 1 = .ok (.getfield 47, 3) := by decide +kernel
theorem dX10_moveAt_4 : decode cX10_moveAt 4 = .ok (.getfield 192, 3) := by decide +kernel
theorem dX10_moveAt_7 : decode cX10_moveAt 7 = .ok (.aload_n 0, 1) := by decide +kernel
theorem dX10_moveAt_8 : decode cX10_moveAt 8 = .ok (.getfield 82, 3) := by decide +kernel
theorem dX10_moveAt_11 : decode cX10_moveAt 11 = .ok (.iconst 0, 1) := by decide +kernel
theorem dX10_moveAt_12 : decode cX10_moveAt 12 = .ok (.invokevirtual 308, 3) := by decide +kernel
theorem dX10_moveAt_15 : decode cX10_moveAt 15 = .ok (.istore_n 2, 1) := by decide +kernel
theorem dX10_moveAt_16 : decode cX10_moveAt 16 = .ok (.iload_n 1, 1) := by decide +kernel
theorem dX10_moveAt_17 : decode cX10_moveAt 17 = .ok (.ifCond .lt 17, 3) := by decide +kernel
theorem dX10_moveAt_20 : decode cX10_moveAt 20 = .ok (.iload_n 1, 1) := by decide +kernel
theorem dX10_moveAt_21 : decode cX10_moveAt 21 = .ok (.iload_n 2, 1) := by decide +kernel
theorem dX10_moveAt_22 : decode cX10_moveAt 22 = .ok (.if_icmp .ge 12, 3) := by decide +kernel
theorem dX10_moveAt_25 : decode cX10_moveAt 25 = .ok (.iload_n 1, 1) := by decide +kernel
theorem dX10_moveAt_26 : decode cX10_moveAt 26 = .ok (.aload_n 0, 1) := by decide +kernel
theorem dX10_moveAt_27 : decode cX10_moveAt 27 = .ok (.getfield 82, 3) := by decide +kernel
theorem dX10_moveAt_30 : decode cX10_moveAt 30 = .ok (.arraylength, 1) := by decide +kernel
theorem dX10_moveAt_31 : decode cX10_moveAt 31 = .ok (.if_icmp .lt 10, 3) := by decide +kernel
theorem dX10_moveAt_34 : decode cX10_moveAt 34 = .ok (.aload_n 0, 1) := by decide +kernel
theorem dX10_moveAt_35 : decode cX10_moveAt 35 = .ok (.bipush 8, 2) := by decide +kernel
theorem dX10_moveAt_37 : decode cX10_moveAt 37 = .ok (.invokevirtual 117, 3) := by decide +kernel
theorem dX10_moveAt_40 : decode cX10_moveAt 40 = .ok (.ireturn, 1) := by decide +kernel
theorem dX10_moveAt_41 : decode cX10_moveAt 41 = .ok (.aload_n 0, 1) := by decide +kernel
theorem dX10_moveAt_42 : decode cX10_moveAt 42 = .ok (.aload_n 0, 1) := by decide +kernel
theorem dX10_moveAt_43 : decode cX10_moveAt 43 = .ok (.getfield 82, 3) := by decide +kernel
theorem dX10_moveAt_46 : decode cX10_moveAt 46 = .ok (.iload_n 1, 1) := by decide +kernel
theorem dX10_moveAt_47 : decode cX10_moveAt 47 = .ok (.iaload, 1) := by decide +kernel
theorem dX10_moveAt_48 : decode cX10_moveAt 48 = .ok (.invokevirtual 168, 3) := by decide +kernel
theorem dX10_moveAt_51 : decode cX10_moveAt 51 = .ok (.ireturn, 1) := by decide +kernel
theorem dX10_runs_0 : decode cX10_runs 0 = .ok (.aload_n 0, 1) := by decide +kernel
theorem dX10_runs_1 : decode cX10_runs 1 = .ok (.getfield 47, 3) := by decide +kernel
theorem dX10_runs_4 : decode cX10_runs 4 = .ok (.getfield 192, 3) := by decide +kernel
theorem dX10_runs_7 : decode cX10_runs 7 = .ok (.invokevirtual 312, 3) := by decide +kernel
theorem dX10_runs_10 : decode cX10_runs 10 = .ok (.aload_n 0, 1) := by decide +kernel
theorem dX10_runs_11 : decode cX10_runs 11 = .ok (.aload_n 0, 1) := by decide +kernel
theorem dX10_runs_12 : decode cX10_runs 12 = .ok (.getfield 47, 3) := by decide +kernel
theorem dX10_runs_15 : decode cX10_runs 15 = .ok (.getfield 192, 3) := by decide +kernel
theorem dX10_runs_18 : decode cX10_runs 18 = .ok (.invokevirtual 315, 3) := by decide +kernel
theorem dX10_runs_21 : decode cX10_runs 21 = .ok (.invokevirtual 168, 3) := by decide +kernel
theorem dX10_runs_24 : decode cX10_runs 24 = .ok (.ireturn, 1) := by decide +kernel
theorem dX10_runWater_0 : decode cX10_runWater 0 = .ok (.aload_n 0, 1) := by decide +kernel
theorem dX10_runWater_1 : decode cX10_runWater 1 = .ok (.iload_n 1, 1) := by decide +kernel
theorem dX10_runWater_2 : decode cX10_runWater 2 = .ok (.invokevirtual 250, 3) := by decide +kernel
theorem dX10_runWater_5 : decode cX10_runWater 5 = .ok (.ifCond .ne 9, 3) := by decide +kernel
theorem dX10_runWater_8 : decode cX10_runWater 8 = .ok (.aload_n 0, 1) := by decide +kernel
theorem dX10_runWater_9 : decode cX10_runWater 9 = .ok (.iconst 2, 1) := by decide +kernel
theorem dX10_runWater_10 : decode cX10_runWater 10 = .ok (.invokevirtual 117, 3) := by decide +kernel
theorem dX10_runWater_13 : decode cX10_runWater 13 = .ok (.ireturn, 1) := by decide +kernel
theorem dX10_runWater_14 : decode cX10_runWater 14 = .ok (.aload_n 0, 1) := by decide +kernel
theorem dX10_runWater_15 : decode cX10_runWater 15 = .ok (.getfield 47, 3) := by decide +kernel
theorem dX10_runWater_18 : decode cX10_runWater 18 = .ok (.getfield 192, 3) := by decide +kernel
theorem dX10_runWater_21 : decode cX10_runWater 21 = .ok (.invokevirtual 312, 3) := by decide +kernel
theorem dX10_runWater_24 : decode cX10_runWater 24 = .ok (.aload_n 0, 1) := by decide +kernel
theorem dX10_runWater_25 : decode cX10_runWater 25 = .ok (.aload_n 0, 1) := by decide +kernel
theorem dX10_runWater_26 : decode cX10_runWater 26 = .ok (.getfield 47, 3) := by decide +kernel
theorem dX10_runWater_29 : decode cX10_runWater 29 = .ok (.getfield 192, 3) := by decide +kernel
theorem dX10_runWater_32 : decode cX10_runWater 32 = .ok (.iload_n 1, 1) := by decide +kernel
theorem dX10_runWater_33 : decode cX10_runWater 33 = .ok (.invokevirtual 318, 3) := by decide +kernel
theorem dX10_runWater_36 : decode cX10_runWater 36 = .ok (.invokevirtual 168, 3) := by decide +kernel
theorem dX10_runWater_39 : decode cX10_runWater 39 = .ok (.ireturn, 1) := by decide +kernel
theorem dX10_next_0 : decode cX10_next 0 = .ok (.aload_n 0, 1) := by decide +kernel
theorem dX10_next_1 : decode cX10_next 1 = .ok (.iload_n 1, 1) := by decide +kernel
theorem dX10_next_2 : decode cX10_next 2 = .ok (.invokevirtual 321, 3) := by decide +kernel
theorem dX10_next_5 : decode cX10_next 5 = .ok (.istore_n 2, 1) := by decide +kernel
theorem dX10_next_6 : decode cX10_next 6 = .ok (.iload_n 2, 1) := by decide +kernel
theorem dX10_next_7 : decode cX10_next 7 = .ok (.ifCond .eq 11, 3) := by decide +kernel
theorem dX10_next_10 : decode cX10_next 10 = .ok (.aload_n 0, 1) := by decide +kernel
theorem dX10_next_11 : decode cX10_next 11 = .ok (.iload_n 2, 1) := by decide +kernel
theorem dX10_next_12 : decode cX10_next 12 = .ok (.invokevirtual 117, 3) := by decide +kernel
theorem dX10_next_15 : decode cX10_next 15 = .ok (.goto 18, 3) := by decide +kernel
theorem dX10_next_18 : decode cX10_next 18 = .ok (.aload_n 0, 1) := by decide +kernel
theorem dX10_next_19 : decode cX10_next 19 = .ok (.aload_n 0, 1) := by decide +kernel
theorem dX10_next_20 : decode cX10_next 20 = .ok (.getfield 47, 3) := by decide +kernel
theorem dX10_next_23 : decode cX10_next 23 = .ok (.getfield 192, 3) := by decide +kernel
theorem dX10_next_26 : decode cX10_next 26 = .ok (.iload_n 1, 1) := by decide +kernel
theorem dX10_next_27 : decode cX10_next 27 = .ok (.invokevirtual 324, 3) := by decide +kernel
theorem dX10_next_30 : decode cX10_next 30 = .ok (.invokevirtual 168, 3) := by decide +kernel
theorem dX10_next_33 : decode cX10_next 33 = .ok (.ireturn, 1) := by decide +kernel
theorem dX10_nextAt_0 : decode cX10_nextAt 0 = .ok (.aload_n 0, 1) := by decide +kernel
theorem dX10_nextAt_1 : decode cX10_nextAt 1 = .ok (.iload_n 1, 1) := by decide +kernel
theorem dX10_nextAt_2 : decode cX10_nextAt 2 = .ok (.invokevirtual 321, 3) := by decide +kernel
theorem dX10_nextAt_5 : decode cX10_nextAt 5 = .ok (.istore_n 2, 1) := by decide +kernel
theorem dX10_nextAt_6 : decode cX10_nextAt 6 = .ok (.iload_n 2, 1) := by decide +kernel
theorem dX10_nextAt_7 : decode cX10_nextAt 7 = .ok (.ifCond .eq 11, 3) := by decide +kernel
theorem dX10_nextAt_10 : decode cX10_nextAt 10 = .ok (.aload_n 0, 1) := by decide +kernel
theorem dX10_nextAt_11 : decode cX10_nextAt 11 = .ok (.iload_n 2, 1) := by decide +kernel
theorem dX10_nextAt_12 : decode cX10_nextAt 12 = .ok (.invokevirtual 117, 3) := by decide +kernel
theorem dX10_nextAt_15 : decode cX10_nextAt 15 = .ok (.goto 28, 3) := by decide +kernel
theorem dX10_nextAt_18 : decode cX10_nextAt 18 = .ok (.aload_n 0, 1) := by decide +kernel
theorem dX10_nextAt_19 : decode cX10_nextAt 19 = .ok (.aload_n 0, 1) := by decide +kernel
theorem dX10_nextAt_20 : decode cX10_nextAt 20 = .ok (.getfield 47, 3) := by decide +kernel
theorem dX10_nextAt_23 : decode cX10_nextAt 23 = .ok (.getfield 192, 3) := by decide +kernel
theorem dX10_nextAt_26 : decode cX10_nextAt 26 = .ok (.aload_n 0, 1) := by decide +kernel
theorem dX10_nextAt_27 : decode cX10_nextAt 27 = .ok (.getfield 47, 3) := by decide +kernel
theorem dX10_nextAt_30 : decode cX10_nextAt 30 = .ok (.getfield 192, 3) := by decide +kernel
theorem dX10_nextAt_33 : decode cX10_nextAt 33 = .ok (.iload_n 1, 1) := by decide +kernel
theorem dX10_nextAt_34 : decode cX10_nextAt 34 = .ok (.invokevirtual 324, 3) := by decide +kernel
theorem dX10_nextAt_37 : decode cX10_nextAt 37 = .ok (.invokevirtual 327, 3) := by decide +kernel
theorem dX10_nextAt_40 : decode cX10_nextAt 40 = .ok (.invokevirtual 168, 3) := by decide +kernel
theorem dX10_nextAt_43 : decode cX10_nextAt 43 = .ok (.ireturn, 1) := by decide +kernel
theorem dX10_over_0 : decode cX10_over 0 = .ok (.aload_n 0, 1) := by decide +kernel
theorem dX10_over_1 : decode cX10_over 1 = .ok (.iload_n 1, 1) := by decide +kernel
theorem dX10_over_2 : decode cX10_over 2 = .ok (.invokevirtual 321, 3) := by decide +kernel
theorem dX10_over_5 : decode cX10_over 5 = .ok (.istore_n 2, 1) := by decide +kernel
theorem dX10_over_6 : decode cX10_over 6 = .ok (.iload_n 2, 1) := by decide +kernel
theorem dX10_over_7 : decode cX10_over 7 = .ok (.ifCond .eq 11, 3) := by decide +kernel
theorem dX10_over_10 : decode cX10_over 10 = .ok (.aload_n 0, 1) := by decide +kernel
theorem dX10_over_11 : decode cX10_over 11 = .ok (.iload_n 2, 1) := by decide +kernel
theorem dX10_over_12 : decode cX10_over 12 = .ok (.invokevirtual 117, 3) := by decide +kernel
theorem dX10_over_15 : decode cX10_over 15 = .ok (.goto 28, 3) := by decide +kernel
theorem dX10_over_18 : decode cX10_over 18 = .ok (.aload_n 0, 1) := by decide +kernel
theorem dX10_over_19 : decode cX10_over 19 = .ok (.aload_n 0, 1) := by decide +kernel
theorem dX10_over_20 : decode cX10_over 20 = .ok (.getfield 47, 3) := by decide +kernel
theorem dX10_over_23 : decode cX10_over 23 = .ok (.getfield 192, 3) := by decide +kernel
theorem dX10_over_26 : decode cX10_over 26 = .ok (.aload_n 0, 1) := by decide +kernel
theorem dX10_over_27 : decode cX10_over 27 = .ok (.getfield 47, 3) := by decide +kernel
theorem dX10_over_30 : decode cX10_over 30 = .ok (.getfield 192, 3) := by decide +kernel
theorem dX10_over_33 : decode cX10_over 33 = .ok (.iload_n 1, 1) := by decide +kernel
theorem dX10_over_34 : decode cX10_over 34 = .ok (.invokevirtual 324, 3) := by decide +kernel
theorem dX10_over_37 : decode cX10_over 37 = .ok (.invokevirtual 330, 3) := by decide +kernel
theorem dX10_over_40 : decode cX10_over 40 = .ok (.invokevirtual 168, 3) := by decide +kernel
theorem dX10_over_43 : decode cX10_over 43 = .ok (.ireturn, 1) := by decide +kernel
theorem dX10_easiest_0 : decode cX10_easiest 0 = .ok (.aload_n 0, 1) := by decide +kernel
theorem dX10_easiest_1 : decode cX10_easiest 1 = .ok (.getfield 47, 3) := by decide +kernel
theorem dX10_easiest_4 : decode cX10_easiest 4 = .ok (.getfield 192, 3) := by decide +kernel
theorem dX10_easiest_7 : decode cX10_easiest 7 = .ok (.astore_n 1, 1) := by decide +kernel
theorem dX10_easiest_8 : decode cX10_easiest 8 = .ok (.iconst (-1), 1) := by decide +kernel
theorem dX10_easiest_9 : decode cX10_easiest 9 = .ok (.istore_n 2, 1) := by decide +kernel
theorem dX10_easiest_10 : decode cX10_easiest 10 = .ok (.iconst 0, 1) := by decide +kernel
theorem dX10_easiest_11 : decode cX10_easiest 11 = .ok (.istore_n 3, 1) := by decide +kernel
theorem dX10_easiest_12 : decode cX10_easiest 12 = .ok (.iconst 0, 1) := by decide +kernel
theorem dX10_easiest_13 : decode cX10_easiest 13 = .ok (.istore 4, 2) := by decide +kernel
theorem dX10_easiest_15 : decode cX10_easiest 15 = .ok (.iload 4, 2) := by decide +kernel
theorem dX10_easiest_17 : decode cX10_easiest 17 = .ok (.aload_n 1, 1) := by decide +kernel
theorem dX10_easiest_18 : decode cX10_easiest 18 = .ok (.getfield 201, 3) := by decide +kernel
theorem dX10_easiest_21 : decode cX10_easiest 21 = .ok (.if_icmp .ge 51, 3) := by decide +kernel
theorem dX10_easiest_24 : decode cX10_easiest 24 = .ok (.aload_n 1, 1) := by decide +kernel
