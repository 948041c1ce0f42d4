theorem dX10_easiest_25 : decode cX10_easiest 25 = .ok (.iload 4, 2) := by decide +kernel
theorem dX10_easiest_27 : decode cX10_easiest 27 = .ok (.invokevirtual 324, 3) := by decide +kernel
theorem dX10_easiest_30 : decode cX10_easiest 30 = .ok (.istore 5, 2) := by decide +kernel
theorem dX10_easiest_32 : decode cX10_easiest 32 = .ok (.iload 5, 2) := by decide +kernel
theorem dX10_easiest_34 : decode cX10_easiest 34 = .ok (.iconst (-1), 1) := by decide +kernel
theorem dX10_easiest_35 : decode cX10_easiest 35 = .ok (.if_icmp .ne 6, 3) := by decide +kernel
theorem dX10_easiest_38 : decode cX10_easiest 38 = .ok (.goto 28, 3) := by decide +kernel
theorem dX10_easiest_41 : decode cX10_easiest 41 = .ok (.aload_n 1, 1) := by decide +kernel
theorem dX10_easiest_42 : decode cX10_easiest 42 = .ok (.iload 5, 2) := by decide +kernel
theorem dX10_easiest_44 : decode cX10_easiest 44 = .ok (.invokevirtual 330, 3) := by decide +kernel
theorem dX10_easiest_47 : decode cX10_easiest 47 = .ok (.istore 6, 2) := by decide +kernel
theorem dX10_easiest_49 : decode cX10_easiest 49 = .ok (.iload_n 2, 1) := by decide +kernel
theorem dX10_easiest_50 : decode cX10_easiest 50 = .ok (.iconst (-1), 1) := by decide +kernel
theorem dX10_easiest_51 : decode cX10_easiest 51 = .ok (.if_icmp .eq 9, 3) := by decide +kernel
theorem dX10_easiest_54 : decode cX10_easiest 54 = .ok (.iload 6, 2) := by decide +kernel
theorem dX10_easiest_56 : decode cX10_easiest 56 = .ok (.iload_n 3, 1) := by decide +kernel
theorem dX10_easiest_57 : decode cX10_easiest 57 = .ok (.if_icmp .ge 9, 3) := by decide +kernel
theorem dX10_easiest_60 : decode cX10_easiest 60 = .ok (.iload 4, 2) := by decide +kernel
theorem dX10_easiest_62 : decode cX10_easiest 62 = .ok (.istore_n 2, 1) := by decide +kernel
theorem dX10_easiest_63 : decode cX10_easiest 63 = .ok (.iload 6, 2) := by decide +kernel
theorem dX10_easiest_65 : decode cX10_easiest 65 = .ok (.istore_n 3, 1) := by decide +kernel
theorem dX10_easiest_66 : decode cX10_easiest 66 = .ok (.iinc 4 1, 3) := by decide +kernel
theorem dX10_easiest_69 : decode cX10_easiest 69 = .ok (.goto (-54), 3) := by decide +kernel
theorem dX10_easiest_72 : decode cX10_easiest 72 = .ok (.iload_n 2, 1) := by decide +kernel
theorem dX10_easiest_73 : decode cX10_easiest 73 = .ok (.iconst (-1), 1) := by decide +kernel
theorem dX10_easiest_74 : decode cX10_easiest 74 = .ok (.if_icmp .ne 12, 3) := by decide +kernel
theorem dX10_easiest_77 : decode cX10_easiest 77 = .ok (.aload_n 0, 1) := by decide +kernel
theorem dX10_easiest_78 : decode cX10_easiest 78 = .ok (.bipush 8, 2) := by decide +kernel
theorem dX10_easiest_80 : decode cX10_easiest 80 = .ok (.invokevirtual 117, 3) := by decide +kernel
theorem dX10_easiest_83 : decode cX10_easiest 83 = .ok (.goto 8, 3) := by decide +kernel
theorem dX10_easiest_86 : decode cX10_easiest 86 = .ok (.aload_n 0, 1) := by decide +kernel
theorem dX10_easiest_87 : decode cX10_easiest 87 = .ok (.iload_n 2, 1) := by decide +kernel
theorem dX10_easiest_88 : decode cX10_easiest 88 = .ok (.invokevirtual 168, 3) := by decide +kernel
theorem dX10_easiest_91 : decode cX10_easiest 91 = .ok (.ireturn, 1) := by decide +kernel
theorem dX10_wilts_0 : decode cX10_wilts 0 = .ok (.aload_n 0, 1) := by decide +kernel
theorem dX10_wilts_1 : decode cX10_wilts 1 = .ok (.iload_n 1, 1) := by decide +kernel
theorem dX10_wilts_2 : decode cX10_wilts 2 = .ok (.invokevirtual 256, 3) := by decide +kernel
theorem dX10_wilts_5 : decode cX10_wilts 5 = .ok (.ifCond .ne 9, 3) := by decide +kernel
theorem dX10_wilts_8 : decode cX10_wilts 8 = .ok (.aload_n 0, 1) := by decide +kernel
theorem dX10_wilts_9 : decode cX10_wilts 9 = .ok (.iconst 2, 1) := by decide +kernel
theorem dX10_wilts_10 : decode cX10_wilts 10 = .ok (.invokevirtual 117, 3) := by decide +kernel
theorem dX10_wilts_13 : decode cX10_wilts 13 = .ok (.ireturn, 1) := by decide +kernel
theorem dX10_wilts_14 : decode cX10_wilts 14 = .ok (.aload_n 0, 1) := by decide +kernel
theorem dX10_wilts_15 : decode cX10_wilts 15 = .ok (.getfield 47, 3) := by decide +kernel
theorem dX10_wilts_18 : decode cX10_wilts 18 = .ok (.iload_n 1, 1) := by decide +kernel
theorem dX10_wilts_19 : decode cX10_wilts 19 = .ok (.invokevirtual 333, 3) := by decide +kernel
theorem dX10_wilts_22 : decode cX10_wilts 22 = .ok (.istore_n 2, 1) := by decide +kernel
theorem dX10_wilts_23 : decode cX10_wilts 23 = .ok (.iload_n 2, 1) := by decide +kernel
theorem dX10_wilts_24 : decode cX10_wilts 24 = .ok (.iconst (-1), 1) := by decide +kernel
theorem dX10_wilts_25 : decode cX10_wilts 25 = .ok (.if_icmp .ne 12, 3) := by decide +kernel
theorem dX10_wilts_28 : decode cX10_wilts 28 = .ok (.aload_n 0, 1) := by decide +kernel
theorem dX10_wilts_29 : decode cX10_wilts 29 = .ok (.bipush 8, 2) := by decide +kernel
theorem dX10_wilts_31 : decode cX10_wilts 31 = .ok (.invokevirtual 117, 3) := by decide +kernel
theorem dX10_wilts_34 : decode cX10_wilts 34 = .ok (.goto 8, 3) := by decide +kernel
theorem dX10_wilts_37 : decode cX10_wilts 37 = .ok (.aload_n 0, 1) := by decide +kernel
theorem dX10_wilts_38 : decode cX10_wilts 38 = .ok (.iload_n 2, 1) := by decide +kernel
theorem dX10_wilts_39 : decode cX10_wilts 39 = .ok (.invokevirtual 168, 3) := by decide +kernel
theorem dX10_wilts_42 : decode cX10_wilts 42 = .ok (.ireturn, 1) := by decide +kernel
theorem dX10_thirstiest_0 : decode cX10_thirstiest 0 = .ok (.iconst (-1), 1) := by decide +kernel
theorem dX10_thirstiest_1 : decode cX10_thirstiest 1 = .ok (.istore_n 1, 1) := by decide +kernel
theorem dX10_thirstiest_2 : decode cX10_thirstiest 2 = .ok (.iconst 0, 1) := by decide +kernel
theorem dX10_thirstiest_3 : decode cX10_thirstiest 3 = .ok (.istore_n 2, 1) := by decide +kernel
theorem dX10_thirstiest_4 : decode cX10_thirstiest 4 = .ok (.iconst 0, 1) := by decide +kernel
theorem dX10_thirstiest_5 : decode cX10_thirstiest 5 = .ok (.istore_n 3, 1) := by decide +kernel
theorem dX10_thirstiest_6 : decode cX10_thirstiest 6 = .ok (.iload_n 3, 1) := by decide +kernel
theorem dX10_thirstiest_7 : decode cX10_thirstiest 7 = .ok (.aload_n 0, 1) := by decide +kernel
theorem dX10_thirstiest_8 : decode cX10_thirstiest 8 = .ok (.getfield 47, 3) := by decide +kernel
theorem dX10_thirstiest_11 : decode cX10_thirstiest 11 = .ok (.getfield 165, 3) := by decide +kernel
theorem dX10_thirstiest_14 : decode cX10_thirstiest 14 = .ok (.if_icmp .ge 41, 3) := by decide +kernel
theorem dX10_thirstiest_17 : decode cX10_thirstiest 17 = .ok (.aload_n 0, 1) := by decide +kernel
theorem dX10_thirstiest_18 : decode cX10_thirstiest 18 = .ok (.getfield 47, 3) := by decide +kernel
theorem dX10_thirstiest_21 : decode cX10_thirstiest 21 = .ok (.iload_n 3, 1) := by decide +kernel
theorem dX10_thirstiest_22 : decode cX10_thirstiest 22 = .ok (.invokevirtual 333, 3) := by decide +kernel
theorem dX10_thirstiest_25 : decode cX10_thirstiest 25 = .ok (.istore 4, 2) := by decide +kernel
theorem dX10_thirstiest_27 : decode cX10_thirstiest 27 = .ok (.iload 4, 2) := by decide +kernel
theorem dX10_thirstiest_29 : decode cX10_thirstiest 29 = .ok (.iconst (-1), 1) := by decide +kernel
theorem dX10_thirstiest_30 : decode cX10_thirstiest 30 = .ok (.if_icmp .eq 19, 3) := by decide +kernel
theorem dX10_thirstiest_33 : decode cX10_thirstiest 33 = .ok (.iload_n 1, 1) := by decide +kernel
theorem dX10_thirstiest_34 : decode cX10_thirstiest 34 = .ok (.iconst (-1), 1) := by decide +kernel
theorem dX10_thirstiest_35 : decode cX10_thirstiest 35 = .ok (.if_icmp .eq 9, 3) := by decide +kernel
theorem dX10_thirstiest_38 : decode cX10_thirstiest 38 = .ok (.iload 4, 2) := by decide +kernel
theorem dX10_thirstiest_40 : decode cX10_thirstiest 40 = .ok (.iload_n 2, 1) := by decide +kernel
theorem dX10_thirstiest_41 : decode cX10_thirstiest 41 = .ok (.if_icmp .ge 8, 3) := by decide +kernel
theorem dX10_thirstiest_44 : decode cX10_thirstiest 44 = .ok (.iload_n 3, 1) := by decide +kernel
theorem dX10_thirstiest_45 : decode cX10_thirstiest 45 = .ok (.istore_n 1, 1) := by decide +kernel
theorem dX10_thirstiest_46 : decode cX10_thirstiest 46 = .ok (.iload 4, 2) := by decide +kernel
theorem dX10_thirstiest_48 : decode cX10_thirstiest 48 = .ok (.istore_n 2, 1) := by decide +kernel
theorem dX10_thirstiest_49 : decode cX10_thirstiest 49 = .ok (.iinc 3 1, 3) := by decide +kernel
theorem dX10_thirstiest_52 : decode cX10_thirstiest 52 = .ok (.goto (-46), 3) := by decide +kernel
theorem dX10_thirstiest_55 : decode cX10_thirstiest 55 = .ok (.iload_n 1, 1) := by decide +kernel
theorem dX10_thirstiest_56 : decode cX10_thirstiest 56 = .ok (.iconst (-1), 1) := by decide +kernel
theorem dX10_thirstiest_57 : decode cX10_thirstiest 57 = .ok (.if_icmp .ne 12, 3) := by decide +kernel
theorem dX10_thirstiest_60 : decode cX10_thirstiest 60 = .ok (.aload_n 0, 1) := by decide +kernel
theorem dX10_thirstiest_61 : decode cX10_thirstiest 61 = .ok (.bipush 8, 2) := by decide +kernel
theorem dX10_thirstiest_63 : decode cX10_thirstiest 63 = .ok (.invokevirtual 117, 3) := by decide +kernel
theorem dX10_thirstiest_66 : decode cX10_thirstiest 66 = .ok (.goto 8, 3) := by decide +kernel
theorem dX10_thirstiest_69 : decode cX10_thirstiest 69 = .ok (.aload_n 0, 1) := by decide +kernel
theorem dX10_thirstiest_70 : decode cX10_thirstiest 70 = .ok (.iload_n 1, 1) := by decide +kernel
theorem dX10_thirstiest_71 : decode cX10_thirstiest 71 = .ok (.invokevirtual 168, 3) := by decide +kernel
theorem dX10_thirstiest_74 : decode cX10_thirstiest 74 = .ok (.ireturn, 1) := by decide +kernel
theorem dX10_yields_0 : decode cX10_yields 0 = .ok (.aload_n 0, 1) := by decide +kernel
theorem dX10_yields_1 : decode cX10_yields 1 = .ok (.iload_n 1, 1) := by decide +kernel
theorem dX10_yields_2 : decode cX10_yields 2 = .ok (.invokevirtual 336, 3) := by decide +kernel
theorem dX10_yields_5 : decode cX10_yields 5 = .ok (.ifCond .eq 10, 3) := by decide +kernel
theorem dX10_yields_8 : decode cX10_yields 8 = .ok (.iload_n 2, 1) := by decide +kernel
theorem dX10_yields_9 : decode cX10_yields 9 = .ok (.invokestatic 339, 3) := by decide +kernel
theorem dX10_yields_12 : decode cX10_yields 12 = .ok (.ifCond .ne 9, 3) := by decide +kernel
theorem dX10_yields_15 : decode cX10_yields 15 = .ok (.aload_n 0, 1) := by decide +kernel
theorem dX10_yields_16 : decode cX10_yields 16 = .ok (.iconst 5, 1) := by decide +kernel
theorem dX10_yields_17 : decode cX10_yields 17 = .ok (.invokevirtual 117, 3) := by decide +kernel
theorem dX10_yields_20 : decode cX10_yields 20 = .ok (.ireturn, 1) := by decide +kernel
theorem dX10_yields_21 : decode cX10_yields 21 = .ok (.aload_n 0, 1) := by decide +kernel
theorem dX10_yields_22 : decode cX10_yields 22 = .ok (.aload_n 0, 1) := by decide +kernel
theorem dX10_yields_23 : decode cX10_yields 23 = .ok (.getfield 71, 3) := by decide +kernel
theorem dX10_yields_26 : decode cX10_yields 26 = .ok (.aload_n 0, 1) := by decide +kernel
theorem dX10_yields_27 : decode cX10_yields 27 = .ok (.getfield 47, 3) := by decide +kernel
theorem dX10_yields_30 : decode cX10_yields 30 = .ok (.getfield 192, 3) := by decide +kernel
theorem dX10_yields_33 : decode cX10_yields 33 = .ok (.iload_n 1, 1) := by decide +kernel
theorem dX10_yields_34 : decode cX10_yields 34 = .ok (.iload_n 2, 1) := by decide +kernel
theorem dX10_yields_35 : decode cX10_yields 35 = .ok (.invokestatic 342, 3) := by decide +kernel
theorem dX10_yields_38 : decode cX10_yields 38 = .ok (.invokevirtual 168, 3) := by decide +kernel
theorem dX10_yields_41 : decode cX10_yields 41 = .ok (.ireturn, 1) := by decide +kernel
theorem dX10_first_0 : decode cX10_first 0 = .ok (.aload_n 0, 1) := by decide +kernel
theorem dX10_first_1 : decode cX10_first 1 = .ok (.iload_n 1, 1) := by decide +kernel
theorem dX10_first_2 : decode cX10_first 2 = .ok (.invokevirtual 336, 3) := by decide +kernel
theorem dX10_first_5 : decode cX10_first 5 = .ok (.ifCond .eq 10, 3) := by decide +kernel
theorem dX10_first_8 : decode cX10_first 8 = .ok (.iload_n 2, 1) := by decide +kernel
theorem dX10_first_9 : decode cX10_first 9 = .ok (.invokestatic 339, 3) := by decide +kernel
theorem dX10_first_12 : decode cX10_first 12 = .ok (.ifCond .ne 9, 3) := by decide +kernel
theorem dX10_first_15 : decode cX10_first 15 = .ok (.aload_n 0, 1) := by decide +kernel
theorem dX10_first_16 : decode cX10_first 16 = .ok (.iconst 5, 1) := by decide +kernel
theorem dX10_first_17 : decode cX10_first 17 = .ok (.invokevirtual 117, 3) := by decide +kernel
theorem dX10_first_20 : decode cX10_first 20 = .ok (.ireturn, 1) := by decide +kernel
theorem dX10_first_21 : decode cX10_first 21 = .ok (.aload_n 0, 1) := by decide +kernel
theorem dX10_first_22 : decode cX10_first 22 = .ok (.getfield 71, 3) := by decide +kernel
theorem dX10_first_25 : decode cX10_first 25 = .ok (.aload_n 0, 1) := by decide +kernel
theorem dX10_first_26 : decode cX10_first 26 = .ok (.getfield 47, 3) := by decide +kernel
theorem dX10_first_29 : decode cX10_first 29 = .ok (.getfield 192, 3) := by decide +kernel
theorem dX10_first_32 : decode cX10_first 32 = .ok (.iload_n 1, 1) := by decide +kernel
theorem dX10_first_33 : decode cX10_first 33 = .ok (.iload_n 2, 1) := by decide +kernel
theorem dX10_first_34 : decode cX10_first 34 = .ok (.invokestatic 342, 3) := by decide +kernel
theorem dX10_first_37 : decode cX10_first 37 = .ok (.pop, 1) := by decide +kernel
theorem dX10_first_38 : decode cX10_first 38 = .ok (.aload_n 0, 1) := by decide +kernel
theorem dX10_first_39 : decode cX10_first 39 = .ok (.getfield 71, 3) := by decide +kernel
theorem dX10_first_42 : decode cX10_first 42 = .ok (.iload_n 2, 1) := by decide +kernel
theorem dX10_first_43 : decode cX10_first 43 = .ok (.invokevirtual 346, 3) := by decide +kernel
theorem dX10_first_46 : decode cX10_first 46 = .ok (.istore_n 3, 1) := by decide +kernel
theorem dX10_first_47 : decode cX10_first 47 = .ok (.iload_n 3, 1) := by decide +kernel
theorem dX10_first_48 : decode cX10_first 48 = .ok (.iconst (-1), 1) := by decide +kernel
theorem dX10_first_49 : decode cX10_first 49 = .ok (.if_icmp .ne 12, 3) := by decide +kernel
theorem dX10_first_52 : decode cX10_first 52 = .ok (.aload_n 0, 1) := by decide +kernel
theorem dX10_first_53 : decode cX10_first 53 = .ok (.bipush 8, 2) := by decide +kernel
theorem dX10_first_55 : decode cX10_first 55 = .ok (.invokevirtual 117, 3) := by decide +kernel
theorem dX10_first_58 : decode cX10_first 58 = .ok (.goto 8, 3) := by decide +kernel
theorem dX10_first_61 : decode cX10_first 61 = .ok (.aload_n 0, 1) := by decide +kernel
theorem dX10_first_62 : decode cX10_first 62 = .ok (.iload_n 3, 1) := by decide +kernel
theorem dX10_first_63 : decode cX10_first 63 = .ok (.invokevirtual 168, 3) := by decide +kernel
theorem dX10_first_66 : decode cX10_first 66 = .ok (.ireturn, 1) := by decide +kernel
theorem dX10_game_0 : decode cX10_game 0 = .ok (.aload_n 0, 1) := by decide +kernel
theorem dX10_game_1 : decode cX10_game 1 = .ok (.iload_n 1, 1) := by decide +kernel
theorem dX10_game_2 : decode cX10_game 2 = .ok (.invokevirtual 336, 3) := by decide +kernel
theorem dX10_game_5 : decode cX10_game 5 = .ok (.ifCond .eq 10, 3) := by decide +kernel
theorem dX10_game_8 : decode cX10_game 8 = .ok (.iload_n 2, 1) := by decide +kernel
theorem dX10_game_9 : decode cX10_game 9 = .ok (.invokestatic 339, 3) := by decide +kernel
theorem dX10_game_12 : decode cX10_game 12 = .ok (.ifCond .ne 9, 3) := by decide +kernel
theorem dX10_game_15 : decode cX10_game 15 = .ok (.aload_n 0, 1) := by decide +kernel
theorem dX10_game_16 : decode cX10_game 16 = .ok (.iconst 5, 1) := by decide +kernel
theorem dX10_game_17 : decode cX10_game 17 = .ok (.invokevirtual 117, 3) := by decide +kernel
theorem dX10_game_20 : decode cX10_game 20 = .ok (.ireturn, 1) := by decide +kernel
theorem dX10_game_21 : decode cX10_game 21 = .ok (.aload_n 0, 1) := by decide +kernel
theorem dX10_game_22 : decode cX10_game 22 = .ok (.aload_n 0, 1) := by decide +kernel
theorem dX10_game_23 : decode cX10_game 23 = .ok (.getfield 71, 3) := by decide +kernel
theorem dX10_game_26 : decode cX10_game 26 = .ok (.aload_n 0, 1) := by decide +kernel
theorem dX10_game_27 : decode cX10_game 27 = .ok (.getfield 47, 3) := by decide +kernel
theorem dX10_game_30 : decode cX10_game 30 = .ok (.getfield 192, 3) := by decide +kernel
theorem dX10_game_33 : decode cX10_game 33 = .ok (.iload_n 1, 1) := by decide +kernel
theorem dX10_game_34 : decode cX10_game 34 = .ok (.iload_n 2, 1) := by decide +kernel
theorem dX10_game_35 : decode cX10_game 35 = .ok (.iconst 1, 1) := by decide +kernel
theorem dX10_game_36 : decode cX10_game 36 = .ok (.invokestatic 349, 3) := by decide +kernel
theorem dX10_game_39 : decode cX10_game 39 = .ok (.invokevirtual 168, 3) := by decide +kernel
theorem dX10_game_42 : decode cX10_game 42 = .ok (.ireturn, 1) := by decide +kernel
theorem dX10_cheat_0 : decode cX10_cheat 0 = .ok (.aload_n 0, 1) := by decide +kernel
theorem dX10_cheat_1 : decode cX10_cheat 1 = .ok (.iload_n 1, 1) := by decide +kernel
theorem dX10_cheat_2 : decode cX10_cheat 2 = .ok (.invokevirtual 250, 3) := by decide +kernel
theorem dX10_cheat_5 : decode cX10_cheat 5 = .ok (.ifCond .ne 9, 3) := by decide +kernel
theorem dX10_cheat_8 : decode cX10_cheat 8 = .ok (.aload_n 0, 1) := by decide +kernel
theorem dX10_cheat_9 : decode cX10_cheat 9 = .ok (.iconst 2, 1) := by decide +kernel
theorem dX10_cheat_10 : decode cX10_cheat 10 = .ok (.invokevirtual 117, 3) := by decide +kernel
theorem dX10_cheat_13 : decode cX10_cheat 13 = .ok (.ireturn, 1) := by decide +kernel
theorem dX10_cheat_14 : decode cX10_cheat 14 = .ok (.aload_n 0, 1) := by decide +kernel
theorem dX10_cheat_15 : decode cX10_cheat 15 = .ok (.aload_n 0, 1) := by decide +kernel
theorem dX10_cheat_16 : decode cX10_cheat 16 = .ok (.getfield 71, 3) := by decide +kernel
theorem dX10_cheat_19 : decode cX10_cheat 19 = .ok (.aload_n 0, 1) := by decide +kernel
theorem dX10_cheat_20 : decode cX10_cheat 20 = .ok (.getfield 47, 3) := by decide +kernel
theorem dX10_cheat_23 : decode cX10_cheat 23 = .ok (.getfield 192, 3) := by decide +kernel
theorem dX10_cheat_26 : decode cX10_cheat 26 = .ok (.iload_n 1, 1) := by decide +kernel
theorem dX10_cheat_27 : decode cX10_cheat 27 = .ok (.invokevirtual 353, 3) := by decide +kernel
theorem dX10_cheat_30 : decode cX10_cheat 30 = .ok (.invokevirtual 168, 3) := by decide +kernel
theorem dX10_cheat_33 : decode cX10_cheat 33 = .ok (.ireturn, 1) := by decide +kernel
theorem dX10_cheatAt_0 : decode cX10_cheatAt 0 = .ok (.aload_n 0, 1) := by decide +kernel
theorem dX10_cheatAt_1 : decode cX10_cheatAt 1 = .ok (.iload_n 1, 1) := by decide +kernel
theorem dX10_cheatAt_2 : decode cX10_cheatAt 2 = .ok (.invokevirtual 250, 3) := by decide +kernel
theorem dX10_cheatAt_5 : decode cX10_cheatAt 5 = .ok (.ifCond .ne 9, 3) := by decide +kernel
theorem dX10_cheatAt_8 : decode cX10_cheatAt 8 = .ok (.aload_n 0, 1) := by decide +kernel
theorem dX10_cheatAt_9 : decode cX10_cheatAt 9 = .ok (.iconst 2, 1) := by decide +kernel
theorem dX10_cheatAt_10 : decode cX10_cheatAt 10 = .ok (.invokevirtual 117, 3) := by decide +kernel
theorem dX10_cheatAt_13 : decode cX10_cheatAt 13 = .ok (.ireturn, 1) := by decide +kernel
theorem dX10_cheatAt_14 : decode cX10_cheatAt 14 = .ok (.iload_n 2, 1) := by decide +kernel
theorem dX10_cheatAt_15 : decode cX10_cheatAt 15 = .ok (.ifCond .eq 14, 3) := by decide +kernel
theorem dX10_cheatAt_18 : decode cX10_cheatAt 18 = .ok (.iload_n 2, 1) := by decide +kernel
theorem dX10_cheatAt_19 : decode cX10_cheatAt 19 = .ok (.iconst 1, 1) := by decide +kernel
theorem dX10_cheatAt_20 : decode cX10_cheatAt 20 = .ok (.if_icmp .eq 9, 3) := by decide +kernel
theorem dX10_cheatAt_23 : decode cX10_cheatAt 23 = .ok (.aload_n 0, 1) := by decide +kernel
theorem dX10_cheatAt_24 : decode cX10_cheatAt 24 = .ok (.iconst 5, 1) := by decide +kernel
theorem dX10_cheatAt_25 : decode cX10_cheatAt 25 = .ok (.invokevirtual 117, 3) := by decide +kernel
theorem dX10_cheatAt_28 : decode cX10_cheatAt 28 = .ok (.ireturn, 1) := by decide +kernel
theorem dX10_cheatAt_29 : decode cX10_cheatAt 29 = .ok (.aload_n 0, 1) := by decide +kernel
theorem dX10_cheatAt_30 : decode cX10_cheatAt 30 = .ok (.getfield 71, 3) := by decide +kernel
theorem dX10_cheatAt_33 : decode cX10_cheatAt 33 = .ok (.aload_n 0, 1) := by decide +kernel
theorem dX10_cheatAt_34 : decode cX10_cheatAt 34 = .ok (.getfield 47, 3) := by decide +kernel
theorem dX10_cheatAt_37 : decode cX10_cheatAt 37 = .ok (.getfield 192, 3) := by decide +kernel
theorem dX10_cheatAt_40 : decode cX10_cheatAt 40 = .ok (.iload_n 1, 1) := by decide +kernel
theorem dX10_cheatAt_41 : decode cX10_cheatAt 41 = .ok (.invokevirtual 353, 3) := by decide +kernel
theorem dX10_cheatAt_44 : decode cX10_cheatAt 44 = .ok (.pop, 1) := by decide +kernel
theorem dX10_cheatAt_45 : decode cX10_cheatAt 45 = .ok (.iload_n 2, 1) := by decide +kernel
theorem dX10_cheatAt_46 : decode cX10_cheatAt 46 = .ok (.ifCond .ne 13, 3) := by decide +kernel
theorem dX10_cheatAt_49 : decode cX10_cheatAt 49 = .ok (.aload_n 0, 1) := by decide +kernel
theorem dX10_cheatAt_50 : decode cX10_cheatAt 50 = .ok (.getfield 71, 3) := by decide +kernel
theorem dX10_cheatAt_53 : decode cX10_cheatAt 53 = .ok (.getfield 357, 3) := by decide +kernel
theorem dX10_cheatAt_56 : decode cX10_cheatAt 56 = .ok (.goto 10, 3) := by decide +kernel
theorem dX10_cheatAt_59 : decode cX10_cheatAt 59 = .ok (.aload_n 0, 1) := by decide +kernel
theorem dX10_cheatAt_60 : decode cX10_cheatAt 60 = .ok (.getfield 71, 3) := by decide +kernel
theorem dX10_cheatAt_63 : decode cX10_cheatAt 63 = .ok (.getfield 360, 3) := by decide +kernel
theorem dX10_cheatAt_66 : decode cX10_cheatAt 66 = .ok (.istore_n 3, 1) := by decide +kernel
theorem dX10_cheatAt_67 : decode cX10_cheatAt 67 = .ok (.iload_n 3, 1) := by decide +kernel
theorem dX10_cheatAt_68 : decode cX10_cheatAt 68 = .ok (.iconst (-1), 1) := by decide +kernel
theorem dX10_cheatAt_69 : decode cX10_cheatAt 69 = .ok (.if_icmp .ne 12, 3) := by decide +kernel
theorem dX10_cheatAt_72 : decode cX10_cheatAt 72 = .ok (.aload_n 0, 1) := by decide +kernel
theorem dX10_cheatAt_73 : decode cX10_cheatAt 73 = .ok (.bipush 8, 2) := by decide +kernel
theorem dX10_cheatAt_75 : decode cX10_cheatAt 75 = .ok (.invokevirtual 117, 3) := by decide +kernel
theorem dX10_cheatAt_78 : decode cX10_cheatAt 78 = .ok (.goto 8, 3) := by decide +kernel
theorem dX10_cheatAt_81 : decode cX10_cheatAt 81 = .ok (.aload_n 0, 1) := by decide +kernel
theorem dX10_cheatAt_82 : decode cX10_cheatAt 82 = .ok (.iload_n 3, 1) := by decide +kernel
theorem dX10_cheatAt_83 : decode cX10_cheatAt 83 = .ok (.invokevirtual 168, 3) := by decide +kernel
theorem dX10_cheatAt_86 : decode cX10_cheatAt 86 = .ok (.ireturn, 1) := by decide +kernel
theorem dX10_wets_0 : decode cX10_wets 0 = .ok (.aload_n 0, 1) := by decide +kernel
theorem dX10_wets_1 : decode cX10_wets 1 = .ok (.iload_n 1, 1) := by decide +kernel
theorem dX10_wets_2 : decode cX10_wets 2 = .ok (.invokevirtual 250, 3) := by decide +kernel
theorem dX10_wets_5 : decode cX10_wets 5 = .ok (.ifCond .ne 9, 3) := by decide +kernel
theorem dX10_wets_8 : decode cX10_wets 8 = .ok (.aload_n 0, 1) := by decide +kernel
theorem dX10_wets_9 : decode cX10_wets 9 = .ok (.iconst 2, 1) := by decide +kernel
theorem dX10_wets_10 : decode cX10_wets 10 = .ok (.invokevirtual 117, 3) := by decide +kernel
theorem dX10_wets_13 : decode cX10_wets 13 = .ok (.ireturn, 1) := by decide +kernel
theorem dX10_wets_14 : decode cX10_wets 14 = .ok (.iload_n 2, 1) := by decide +kernel
theorem dX10_wets_15 : decode cX10_wets 15 = .ok (.invokestatic 301, 3) := by decide +kernel
theorem dX10_wets_18 : decode cX10_wets 18 = .ok (.ifCond .ne 9, 3) := by decide +kernel
theorem dX10_wets_21 : decode cX10_wets 21 = .ok (.aload_n 0, 1) := by decide +kernel
theorem dX10_wets_22 : decode cX10_wets 22 = .ok (.iconst 5, 1) := by decide +kernel
theorem dX10_wets_23 : decode cX10_wets 23 = .ok (.invokevirtual 117, 3) := by decide +kernel
theorem dX10_wets_26 : decode cX10_wets 26 = .ok (.ireturn, 1) := by decide +kernel
theorem dX10_wets_27 : decode cX10_wets 27 = .ok (.aload_n 0, 1) := by decide +kernel
theorem dX10_wets_28 : decode cX10_wets 28 = .ok (.getfield 78, 3) := by decide +kernel
theorem dX10_wets_31 : decode cX10_wets 31 = .ok (.aload_n 0, 1) := by decide +kernel
theorem dX10_wets_32 : decode cX10_wets 32 = .ok (.getfield 47, 3) := by decide +kernel
theorem dX10_wets_35 : decode cX10_wets 35 = .ok (.getfield 192, 3) := by decide +kernel
theorem dX10_wets_38 : decode cX10_wets 38 = .ok (.iload_n 2, 1) := by decide +kernel
theorem dX10_wets_39 : decode cX10_wets 39 = .ok (.invokevirtual 363, 3) := by decide +kernel
theorem dX10_wets_42 : decode cX10_wets 42 = .ok (.aload_n 0, 1) := by decide +kernel
theorem dX10_wets_43 : decode cX10_wets 43 = .ok (.aload_n 0, 1) := by decide +kernel
theorem dX10_wets_44 : decode cX10_wets 44 = .ok (.getfield 78, 3) := by decide +kernel
theorem dX10_wets_47 : decode cX10_wets 47 = .ok (.iload_n 1, 1) := by decide +kernel
theorem dX10_wets_48 : decode cX10_wets 48 = .ok (.invokevirtual 366, 3) := by decide +kernel
theorem dX10_wets_51 : decode cX10_wets 51 = .ok (.invokevirtual 168, 3) := by decide +kernel
theorem dX10_wets_54 : decode cX10_wets 54 = .ok (.ireturn, 1) := by decide +kernel
theorem dX10_meanWets_0 : decode cX10_meanWets 0 = .ok (.aload_n 0, 1) := by decide +kernel
theorem dX10_meanWets_1 : decode cX10_meanWets 1 = .ok (.iload_n 1, 1) := by decide +kernel
theorem dX10_meanWets_2 : decode cX10_meanWets 2 = .ok (.invokevirtual 250, 3) := by decide +kernel
theorem dX10_meanWets_5 : decode cX10_meanWets 5 = .ok (.ifCond .ne 9, 3) := by decide +kernel
theorem dX10_meanWets_8 : decode cX10_meanWets 8 = .ok (.aload_n 0, 1) := by decide +kernel
theorem dX10_meanWets_9 : decode cX10_meanWets 9 = .ok (.iconst 2, 1) := by decide +kernel
theorem dX10_meanWets_10 : decode cX10_meanWets 10 = .ok (.invokevirtual 98, 3) := by decide +kernel
theorem dX10_meanWets_13 : decode cX10_meanWets 13 = .ok (.ireturn, 1) := by decide +kernel
theorem dX10_meanWets_14 : decode cX10_meanWets 14 = .ok (.iload_n 2, 1) := by decide +kernel
theorem dX10_meanWets_15 : decode cX10_meanWets 15 = .ok (.iload_n 3, 1) := by decide +kernel
theorem dX10_meanWets_16 : decode cX10_meanWets 16 = .ok (.bipush 50, 2) := by decide +kernel
theorem dX10_meanWets_18 : decode cX10_meanWets 18 = .ok (.invokestatic 369, 3) := by decide +kernel
theorem dX10_meanWets_21 : decode cX10_meanWets 21 = .ok (.ifCond .ne 9, 3) := by decide +kernel
theorem dX10_meanWets_24 : decode cX10_meanWets 24 = .ok (.aload_n 0, 1) := by decide +kernel
theorem dX10_meanWets_25 : decode cX10_meanWets 25 = .ok (.iconst 5, 1) := by decide +kernel
theorem dX10_meanWets_26 : decode cX10_meanWets 26 = .ok (.invokevirtual 98, 3) := by decide +kernel
theorem dX10_meanWets_29 : decode cX10_meanWets 29 = .ok (.ireturn, 1) := by decide +kernel
theorem dX10_meanWets_30 : decode cX10_meanWets 30 = .ok (.aload_n 0, 1) := by decide +kernel
theorem dX10_meanWets_31 : decode cX10_meanWets 31 = .ok (.getfield 78, 3) := by decide +kernel
theorem dX10_meanWets_34 : decode cX10_meanWets 34 = .ok (.aload_n 0, 1) := by decide +kernel
theorem dX10_meanWets_35 : decode cX10_meanWets 35 = .ok (.getfield 47, 3) := by decide +kernel
theorem dX10_meanWets_38 : decode cX10_meanWets 38 = .ok (.getfield 192, 3) := by decide +kernel
theorem dX10_meanWets_41 : decode cX10_meanWets 41 = .ok (.iload_n 2, 1) := by decide +kernel
theorem dX10_meanWets_42 : decode cX10_meanWets 42 = .ok (.iload_n 3, 1) := by decide +kernel
theorem dX10_meanWets_43 : decode cX10_meanWets 43 = .ok (.invokevirtual 373, 3) := by decide +kernel
theorem dX10_meanWets_46 : decode cX10_meanWets 46 = .ok (.aload_n 0, 1) := by decide +kernel
theorem dX10_meanWets_47 : decode cX10_meanWets 47 = .ok (.aload_n 0, 1) := by decide +kernel
theorem dX10_meanWets_48 : decode cX10_meanWets 48 = .ok (.getfield 78, 3) := by decide +kernel
theorem dX10_meanWets_51 : decode cX10_meanWets 51 = .ok (.getfield 377, 3) := by decide +kernel
theorem dX10_meanWets_54 : decode cX10_meanWets 54 = .ok (.iload_n 1, 1) := by decide +kernel
theorem dX10_meanWets_55 : decode cX10_meanWets 55 = .ok (.iaload, 1) := by decide +kernel
theorem dX10_meanWets_56 : decode cX10_meanWets 56 = .ok (.i2l, 1) := by decide +kernel
theorem dX10_meanWets_57 : decode cX10_meanWets 57 = .ok (.iload_n 3, 1) := by decide +kernel
theorem dX10_meanWets_58 : decode cX10_meanWets 58 = .ok (.i2l, 1) := by decide +kernel
theorem dX10_meanWets_59 : decode cX10_meanWets 59 = .ok (.invokevirtual 380, 3) := by decide +kernel
theorem dX10_meanWets_62 : decode cX10_meanWets 62 = .ok (.aload_n 0, 1) := by decide +kernel
theorem dX10_meanWets_63 : decode cX10_meanWets 63 = .ok (.invokevirtual 105, 3) := by decide +kernel
theorem dX10_meanWets_66 : decode cX10_meanWets 66 = .ok (.ireturn, 1) := by decide +kernel
theorem dX10_bestSuit_0 : decode cX10_bestSuit 0 = .ok (.iload_n 1, 1) := by decide +kernel
theorem dX10_bestSuit_1 : decode cX10_bestSuit 1 = .ok (.iload_n 2, 1) := by decide +kernel
theorem dX10_bestSuit_2 : decode cX10_bestSuit 2 = .ok (.bipush 50, 2) := by decide +kernel
theorem dX10_bestSuit_4 : decode cX10_bestSuit 4 = .ok (.invokestatic 369, 3) := by decide +kernel
theorem dX10_bestSuit_7 : decode cX10_bestSuit 7 = .ok (.ifCond .ne 9, 3) := by decide +kernel
theorem dX10_bestSuit_10 : decode cX10_bestSuit 10 = .ok (.aload_n 0, 1) := by decide +kernel
theorem dX10_bestSuit_11 : decode cX10_bestSuit 11 = .ok (.iconst 5, 1) := by decide +kernel
theorem dX10_bestSuit_12 : decode cX10_bestSuit 12 = .ok (.invokevirtual 117, 3) := by decide +kernel
theorem dX10_bestSuit_15 : decode cX10_bestSuit 15 = .ok (.ireturn, 1) := by decide +kernel
theorem dX10_bestSuit_16 : decode cX10_bestSuit 16 = .ok (.aload_n 0, 1) := by decide +kernel
theorem dX10_bestSuit_17 : decode cX10_bestSuit 17 = .ok (.getfield 47, 3) := by decide +kernel
theorem dX10_bestSuit_20 : decode cX10_bestSuit 20 = .ok (.getfield 192, 3) := by decide +kernel
theorem dX10_bestSuit_23 : decode cX10_bestSuit 23 = .ok (.getfield 201, 3) := by decide +kernel
theorem dX10_bestSuit_26 : decode cX10_bestSuit 26 = .ok (.ifCond .ne 10, 3) := by decide +kernel
theorem dX10_bestSuit_29 : decode cX10_bestSuit 29 = .ok (.aload_n 0, 1) := by decide +kernel
theorem dX10_bestSuit_30 : decode cX10_bestSuit 30 = .ok (.bipush 8, 2) := by decide +kernel
theorem dX10_bestSuit_32 : decode cX10_bestSuit 32 = .ok (.invokevirtual 117, 3) := by decide +kernel
theorem dX10_bestSuit_35 : decode cX10_bestSuit 35 = .ok (.ireturn, 1) := by decide +kernel
theorem dX10_bestSuit_36 : decode cX10_bestSuit 36 = .ok (.aload_n 0, 1) := by decide +kernel
theorem dX10_bestSuit_37 : decode cX10_bestSuit 37 = .ok (.getfield 78, 3) := by decide +kernel
theorem dX10_bestSuit_40 : decode cX10_bestSuit 40 = .ok (.aload_n 0, 1) := by decide +kernel
theorem dX10_bestSuit_41 : decode cX10_bestSuit 41 = .ok (.getfield 47, 3) := by decide +kernel
theorem dX10_bestSuit_44 : decode cX10_bestSuit 44 = .ok (.getfield 192, 3) := by decide +kernel
theorem dX10_bestSuit_47 : decode cX10_bestSuit 47 = .ok (.iload_n 1, 1) := by decide +kernel
theorem dX10_bestSuit_48 : decode cX10_bestSuit 48 = .ok (.iload_n 2, 1) := by decide +kernel
theorem dX10_bestSuit_49 : decode cX10_bestSuit 49 = .ok (.invokevirtual 373, 3) := by decide +kernel
theorem dX10_bestSuit_52 : decode cX10_bestSuit 52 = .ok (.iconst 0, 1) := by decide +kernel
theorem dX10_bestSuit_53 : decode cX10_bestSuit 53 = .ok (.istore_n 3, 1) := by decide +kernel
theorem dX10_bestSuit_54 : decode cX10_bestSuit 54 = .ok (.iconst 1, 1) := by decide +kernel
theorem dX10_bestSuit_55 : decode cX10_bestSuit 55 = .ok (.istore 4, 2) := by decide +kernel
theorem dX10_bestSuit_57 : decode cX10_bestSuit 57 = .ok (.iload 4, 2) := by decide +kernel
theorem dX10_bestSuit_59 : decode cX10_bestSuit 59 = .ok (.aload_n 0, 1) := by decide +kernel
theorem dX10_bestSuit_60 : decode cX10_bestSuit 60 = .ok (.getfield 47, 3) := by decide +kernel
theorem dX10_bestSuit_63 : decode cX10_bestSuit 63 = .ok (.getfield 192, 3) := by decide +kernel
theorem dX10_bestSuit_66 : decode cX10_bestSuit 66 = .ok (.getfield 201, 3) := by decide +kernel
theorem dX10_bestSuit_69 : decode cX10_bestSuit 69 = .ok (.if_icmp .ge 34, 3) := by decide +kernel
theorem dX10_bestSuit_72 : decode cX10_bestSuit 72 = .ok (.aload_n 0, 1) := by decide +kernel
theorem dX10_bestSuit_73 : decode cX10_bestSuit 73 = .ok (.getfield 78, 3) := by decide +kernel
theorem dX10_bestSuit_76 : decode cX10_bestSuit 76 = .ok (.getfield 377, 3) := by decide +kernel
theorem dX10_bestSuit_79 : decode cX10_bestSuit 79 = .ok (.iload 4, 2) := by decide +kernel
theorem dX10_bestSuit_81 : decode cX10_bestSuit 81 = .ok (.iaload, 1) := by decide +kernel
theorem dX10_bestSuit_82 : decode cX10_bestSuit 82 = .ok (.aload_n 0, 1) := by decide +kernel
theorem dX10_bestSuit_83 : decode cX10_bestSuit 83 = .ok (.getfield 78, 3) := by decide +kernel
theorem dX10_bestSuit_86 : decode cX10_bestSuit 86 = .ok (.getfield 377, 3) := by decide +kernel
theorem dX10_bestSuit_89 : decode cX10_bestSuit 89 = .ok (.iload_n 3, 1) := by decide +kernel
theorem dX10_bestSuit_90 : decode cX10_bestSuit 90 = .ok (.iaload, 1) := by decide +kernel
theorem dX10_bestSuit_91 : decode cX10_bestSuit 91 = .ok (.if_icmp .le 6, 3) := by decide +kernel
theorem dX10_bestSuit_94 : decode cX10_bestSuit 94 = .ok (.iload 4, 2) := by decide +kernel
theorem dX10_bestSuit_96 : decode cX10_bestSuit 96 = .ok (.istore_n 3, 1) := by decide +kernel
theorem dX10_bestSuit_97 : decode cX10_bestSuit 97 = .ok (.iinc 4 1, 3) := by decide +kernel
theorem dX10_bestSuit_100 : decode cX10_bestSuit 100 = .ok (.goto (-43), 3) := by decide +kernel
theorem dX10_bestSuit_103 : decode cX10_bestSuit 103 = .ok (.aload_n 0, 1) := by decide +kernel
theorem dX10_bestSuit_104 : decode cX10_bestSuit 104 = .ok (.iload_n 3, 1) := by decide +kernel
theorem dX10_bestSuit_105 : decode cX10_bestSuit 105 = .ok (.invokevirtual 168, 3) := by decide +kernel
theorem dX10_bestSuit_108 : decode cX10_bestSuit 108 = .ok (.ireturn, 1) := by decide +kernel
theorem dX10_like_0 : decode cX10_like 0 = .ok (.aload_n 0, 1) := by decide +kernel
theorem dX10_like_1 : decode cX10_like 1 = .ok (.iload_n 1, 1) := by decide +kernel
theorem dX10_like_2 : decode cX10_like 2 = .ok (.iload_n 2, 1) := by decide +kernel
theorem dX10_like_3 : decode cX10_like 3 = .ok (.iload_n 3, 1) := by decide +kernel
theorem dX10_like_4 : decode cX10_like 4 = .ok (.invokevirtual 384, 3) := by decide +kernel
theorem dX10_like_7 : decode cX10_like 7 = .ok (.istore 4, 2) := by decide +kernel
theorem dX10_like_9 : decode cX10_like 9 = .ok (.iload 4, 2) := by decide +kernel
theorem dX10_like_11 : decode cX10_like 11 = .ok (.ifCond .eq 10, 3) := by decide +kernel
theorem dX10_like_14 : decode cX10_like 14 = .ok (.aload_n 0, 1) := by decide +kernel
theorem dX10_like_15 : decode cX10_like 15 = .ok (.iload 4, 2) := by decide +kernel
theorem dX10_like_17 : decode cX10_like 17 = .ok (.invokevirtual 117, 3) := by decide +kernel
theorem dX10_like_20 : decode cX10_like 20 = .ok (.ireturn, 1) := by decide +kernel
theorem dX10_like_21 : decode cX10_like 21 = .ok (.iconst 0, 1) := by decide +kernel
theorem dX10_like_22 : decode cX10_like 22 = .ok (.istore 5, 2) := by decide +kernel
theorem dX10_like_24 : decode cX10_like 24 = .ok (.iconst 0, 1) := by decide +kernel
theorem dX10_like_25 : decode cX10_like 25 = .ok (.istore 6, 2) := by decide +kernel
theorem dX10_like_27 : decode cX10_like 27 = .ok (.iload 6, 2) := by decide +kernel
theorem dX10_like_29 : decode cX10_like 29 = .ok (.iload_n 3, 1) := by decide +kernel
theorem dX10_like_30 : decode cX10_like 30 = .ok (.if_icmp .ge 29, 3) := by decide +kernel
theorem dX10_like_33 : decode cX10_like 33 = .ok (.aload_n 0, 1) := by decide +kernel
theorem dX10_like_34 : decode cX10_like 34 = .ok (.aload_n 0, 1) := by decide +kernel
theorem dX10_like_35 : decode cX10_like 35 = .ok (.getfield 15, 3) := by decide +kernel
theorem dX10_like_38 : decode cX10_like 38 = .ok (.iload_n 1, 1) := by decide +kernel
theorem dX10_like_39 : decode cX10_like 39 = .ok (.aaload, 1) := by decide +kernel
theorem dX10_like_40 : decode cX10_like 40 = .ok (.iload_n 2, 1) := by decide +kernel
theorem dX10_like_41 : decode cX10_like 41 = .ok (.iload 6, 2) := by decide +kernel
theorem dX10_like_43 : decode cX10_like 43 = .ok (.iadd, 1) := by decide +kernel
theorem dX10_like_44 : decode cX10_like 44 = .ok (.invokevirtual 388, 3) := by decide +kernel
theorem dX10_like_47 : decode cX10_like 47 = .ok (.ifCond .eq 6, 3) := by decide +kernel
theorem dX10_like_50 : decode cX10_like 50 = .ok (.iinc 5 1, 3) := by decide +kernel
theorem dX10_like_53 : decode cX10_like 53 = .ok (.iinc 6 1, 3) := by decide +kernel
theorem dX10_like_56 : decode cX10_like 56 = .ok (.goto (-29), 3) := by decide +kernel
theorem dX10_like_59 : decode cX10_like 59 = .ok (.aload_n 0, 1) := by decide +kernel
theorem dX10_like_60 : decode cX10_like 60 = .ok (.iload 5, 2) := by decide +kernel
theorem dX10_like_62 : decode cX10_like 62 = .ok (.invokevirtual 168, 3) := by decide +kernel
theorem dX10_like_65 : decode cX10_like 65 = .ok (.ireturn, 1) := by decide +kernel
theorem dX10_likeFirst_0 : decode cX10_likeFirst 0 = .ok (.aload_n 0, 1) := by decide +kernel
theorem dX10_likeFirst_1 : decode cX10_likeFirst 1 = .ok (.iload_n 1, 1) := by decide +kernel
theorem dX10_likeFirst_2 : decode cX10_likeFirst 2 = .ok (.iload_n 2, 1) := by decide +kernel
theorem dX10_likeFirst_3 : decode cX10_likeFirst 3 = .ok (.iload_n 3, 1) := by decide +kernel
theorem dX10_likeFirst_4 : decode cX10_likeFirst 4 = .ok (.invokevirtual 384, 3) := by decide +kernel
theorem dX10_likeFirst_7 : decode cX10_likeFirst 7 = .ok (.istore 4, 2) := by decide +kernel
theorem dX10_likeFirst_9 : decode cX10_likeFirst 9 = .ok (.iload 4, 2) := by decide +kernel
theorem dX10_likeFirst_11 : decode cX10_likeFirst 11 = .ok (.ifCond .eq 10, 3) := by decide +kernel
theorem dX10_likeFirst_14 : decode cX10_likeFirst 14 = .ok (.aload_n 0, 1) := by decide +kernel
theorem dX10_likeFirst_15 : decode cX10_likeFirst 15 = .ok (.iload 4, 2) := by decide +kernel
theorem dX10_likeFirst_17 : decode cX10_likeFirst 17 = .ok (.invokevirtual 117, 3) := by decide +kernel
theorem dX10_likeFirst_20 : decode cX10_likeFirst 20 = .ok (.ireturn, 1) := by decide +kernel
theorem dX10_likeFirst_21 : decode cX10_likeFirst 21 = .ok (.iconst 0, 1) := by decide +kernel
theorem dX10_likeFirst_22 : decode cX10_likeFirst 22 = .ok (.istore 5, 2) := by decide +kernel
theorem dX10_likeFirst_24 : decode cX10_likeFirst 24 = .ok (.iload 5, 2) := by decide +kernel
theorem dX10_likeFirst_26 : decode cX10_likeFirst 26 = .ok (.iload_n 3, 1) := by decide +kernel
theorem dX10_likeFirst_27 : decode cX10_likeFirst 27 = .ok (.if_icmp .ge 35, 3) := by decide +kernel
theorem dX10_likeFirst_30 : decode cX10_likeFirst 30 = .ok (.aload_n 0, 1) := by decide +kernel
theorem dX10_likeFirst_31 : decode cX10_likeFirst 31 = .ok (.aload_n 0, 1) := by decide +kernel
theorem dX10_likeFirst_32 : decode cX10_likeFirst 32 = .ok (.getfield 15, 3) := by decide +kernel
theorem dX10_likeFirst_35 : decode cX10_likeFirst 35 = .ok (.iload_n 1, 1) := by decide +kernel
theorem dX10_likeFirst_36 : decode cX10_likeFirst 36 = .ok (.aaload, 1) := by decide +kernel
theorem dX10_likeFirst_37 : decode cX10_likeFirst 37 = .ok (.iload_n 2, 1) := by decide +kernel
theorem dX10_likeFirst_38 : decode cX10_likeFirst 38 = .ok (.iload 5, 2) := by decide +kernel
theorem dX10_likeFirst_40 : decode cX10_likeFirst 40 = .ok (.iadd, 1) := by decide +kernel
theorem dX10_likeFirst_41 : decode cX10_likeFirst 41 = .ok (.invokevirtual 388, 3) := by decide +kernel
theorem dX10_likeFirst_44 : decode cX10_likeFirst 44 = .ok (.ifCond .eq 12, 3) := by decide +kernel
theorem dX10_likeFirst_47 : decode cX10_likeFirst 47 = .ok (.aload_n 0, 1) := by decide +kernel
theorem dX10_likeFirst_48 : decode cX10_likeFirst 48 = .ok (.iload_n 2, 1) := by decide +kernel
theorem dX10_likeFirst_49 : decode cX10_likeFirst 49 = .ok (.iload 5, 2) := by decide +kernel
theorem dX10_likeFirst_51 : decode cX10_likeFirst 51 = .ok (.iadd, 1) := by decide +kernel
theorem dX10_likeFirst_52 : decode cX10_likeFirst 52 = .ok (.invokevirtual 168, 3) := by decide +kernel
theorem dX10_likeFirst_55 : decode cX10_likeFirst 55 = .ok (.ireturn, 1) := by decide +kernel
theorem dX10_likeFirst_56 : decode cX10_likeFirst 56 = .ok (.iinc 5 1, 3) := by decide +kernel
theorem dX10_likeFirst_59 : decode cX10_likeFirst 59 = .ok (.goto (-35), 3) := by decide +kernel
theorem dX10_likeFirst_62 : decode cX10_likeFirst 62 = .ok (.aload_n 0, 1) := by decide +kernel
theorem dX10_likeFirst_63 : decode cX10_likeFirst 63 = .ok (.bipush 8, 2) := by decide +kernel
theorem dX10_likeFirst_65 : decode cX10_likeFirst 65 = .ok (.invokevirtual 117, 3) := by decide +kernel
theorem dX10_likeFirst_68 : decode cX10_likeFirst 68 = .ok (.ireturn, 1) := by decide +kernel
theorem dX10_packTop_0 : decode cX10_packTop 0 = .ok (.aload_n 0, 1) := by decide +kernel
theorem dX10_packTop_1 : decode cX10_packTop 1 = .ok (.iload_n 1, 1) := by decide +kernel
theorem dX10_packTop_2 : decode cX10_packTop 2 = .ok (.invokevirtual 235, 3) := by decide +kernel
theorem dX10_packTop_5 : decode cX10_packTop 5 = .ok (.ifCond .ne 9, 3) := by decide +kernel
theorem dX10_packTop_8 : decode cX10_packTop 8 = .ok (.aload_n 0, 1) := by decide +kernel
theorem dX10_packTop_9 : decode cX10_packTop 9 = .ok (.iconst 2, 1) := by decide +kernel
theorem dX10_packTop_10 : decode cX10_packTop 10 = .ok (.invokevirtual 117, 3) := by decide +kernel
theorem dX10_packTop_13 : decode cX10_packTop 13 = .ok (.ireturn, 1) := by decide +kernel
theorem dX10_packTop_14 : decode cX10_packTop 14 = .ok (.iload_n 2, 1) := by decide +kernel
theorem dX10_packTop_15 : decode cX10_packTop 15 = .ok (.invokestatic 301, 3) := by decide +kernel
theorem dX10_packTop_18 : decode cX10_packTop 18 = .ok (.ifCond .ne 9, 3) := by decide +kernel
theorem dX10_packTop_21 : decode cX10_packTop 21 = .ok (.aload_n 0, 1) := by decide +kernel
theorem dX10_packTop_22 : decode cX10_packTop 22 = .ok (.iconst 5, 1) := by decide +kernel
theorem dX10_packTop_23 : decode cX10_packTop 23 = .ok (.invokevirtual 117, 3) := by decide +kernel
theorem dX10_packTop_26 : decode cX10_packTop 26 = .ok (.ireturn, 1) := by decide +kernel
theorem dX10_packTop_27 : decode cX10_packTop 27 = .ok (.aload_n 0, 1) := by decide +kernel
theorem dX10_packTop_28 : decode cX10_packTop 28 = .ok (.getfield 78, 3) := by decide +kernel
theorem dX10_packTop_31 : decode cX10_packTop 31 = .ok (.aload_n 0, 1) := by decide +kernel
theorem dX10_packTop_32 : decode cX10_packTop 32 = .ok (.getfield 47, 3) := by decide +kernel
theorem dX10_packTop_35 : decode cX10_packTop 35 = .ok (.getfield 192, 3) := by decide +kernel
theorem dX10_packTop_38 : decode cX10_packTop 38 = .ok (.iload_n 2, 1) := by decide +kernel
theorem dX10_packTop_39 : decode cX10_packTop 39 = .ok (.invokevirtual 363, 3) := by decide +kernel
theorem dX10_packTop_42 : decode cX10_packTop 42 = .ok (.aload_n 0, 1) := by decide +kernel
theorem dX10_packTop_43 : decode cX10_packTop 43 = .ok (.aload_n 0, 1) := by decide +kernel
theorem dX10_packTop_44 : decode cX10_packTop 44 = .ok (.getfield 78, 3) := by decide +kernel
theorem dX10_packTop_47 : decode cX10_packTop 47 = .ok (.getfield 392, 3) := by decide +kernel
theorem dX10_packTop_50 : decode cX10_packTop 50 = .ok (.iload_n 1, 1) := by decide +kernel
theorem dX10_packTop_51 : decode cX10_packTop 51 = .ok (.invokevirtual 244, 3) := by decide +kernel
theorem dX10_packTop_54 : decode cX10_packTop 54 = .ok (.invokevirtual 241, 3) := by decide +kernel
theorem dX10_packTop_57 : decode cX10_packTop 57 = .ok (.ireturn, 1) := by decide +kernel
theorem dX10_live_0 : decode cX10_live 0 = .ok (.iload_n 1, 1) := by decide +kernel
theorem dX10_live_1 : decode cX10_live 1 = .ok (.invokestatic 301, 3) := by decide +kernel
theorem dX10_live_4 : decode cX10_live 4 = .ok (.ifCond .ne 9, 3) := by decide +kernel
theorem dX10_live_7 : decode cX10_live 7 = .ok (.aload_n 0, 1) := by decide +kernel
theorem dX10_live_8 : decode cX10_live 8 = .ok (.iconst 5, 1) := by decide +kernel
theorem dX10_live_9 : decode cX10_live 9 = .ok (.invokevirtual 117, 3) := by decide +kernel
theorem dX10_live_12 : decode cX10_live 12 = .ok (.ireturn, 1) := by decide +kernel
theorem dX10_live_13 : decode cX10_live 13 = .ok (.aload_n 0, 1) := by decide +kernel
theorem dX10_live_14 : decode cX10_live 14 = .ok (.getfield 47, 3) := by decide +kernel
theorem dX10_live_17 : decode cX10_live 17 = .ok (.getfield 171, 3) := by decide +kernel
theorem dX10_live_20 : decode cX10_live 20 = .ok (.getfield 393, 3) := by decide +kernel
theorem dX10_live_23 : decode cX10_live 23 = .ok (.ifCond .ne 10, 3) := by decide +kernel
theorem dX10_live_26 : decode cX10_live 26 = .ok (.aload_n 0, 1) := by decide +kernel
theorem dX10_live_27 : decode cX10_live 27 = .ok (.bipush 8, 2) := by decide +kernel
theorem dX10_live_29 : decode cX10_live 29 = .ok (.invokevirtual 117, 3) := by decide +kernel
theorem dX10_live_32 : decode cX10_live 32 = .ok (.ireturn, 1) := by decide +kernel
theorem dX10_live_33 : decode cX10_live 33 = .ok (.aload_n 0, 1) := by decide +kernel
theorem dX10_live_34 : decode cX10_live 34 = .ok (.getfield 61, 3) := by decide +kernel
theorem dX10_live_37 : decode cX10_live 37 = .ok (.aload_n 0, 1) := by decide +kernel
theorem dX10_live_38 : decode cX10_live 38 = .ok (.getfield 47, 3) := by decide +kernel
theorem dX10_live_41 : decode cX10_live 41 = .ok (.iload_n 1, 1) := by decide +kernel
theorem dX10_live_42 : decode cX10_live 42 = .ok (.invokevirtual 394, 3) := by decide +kernel
theorem dX10_live_45 : decode cX10_live 45 = .ok (.aload_n 0, 1) := by decide +kernel
theorem dX10_live_46 : decode cX10_live 46 = .ok (.iconst 1, 1) := by decide +kernel
theorem dX10_live_47 : decode cX10_live 47 = .ok (.putfield 398, 3) := by decide +kernel
theorem dX10_live_50 : decode cX10_live 50 = .ok (.aload_n 0, 1) := by decide +kernel
theorem dX10_live_51 : decode cX10_live 51 = .ok (.aload_n 0, 1) := by decide +kernel
theorem dX10_live_52 : decode cX10_live 52 = .ok (.getfield 61, 3) := by decide +kernel
theorem dX10_live_55 : decode cX10_live 55 = .ok (.getfield 401, 3) := by decide +kernel
theorem dX10_live_58 : decode cX10_live 58 = .ok (.invokevirtual 168, 3) := by decide +kernel
theorem dX10_live_61 : decode cX10_live 61 = .ok (.ireturn, 1) := by decide +kernel
theorem dX10_lived_0 : decode cX10_lived 0 = .ok (.iload_n 1, 1) := by decide +kernel
theorem dX10_lived_1 : decode cX10_lived 1 = .ok (.ifCond .lt 8, 3) := by decide +kernel
theorem dX10_lived_4 : decode cX10_lived 4 = .ok (.iload_n 1, 1) := by decide +kernel
theorem dX10_lived_5 : decode cX10_lived 5 = .ok (.iconst 4, 1) := by decide +kernel
theorem dX10_lived_6 : decode cX10_lived 6 = .ok (.if_icmp .le 9, 3) := by decide +kernel
theorem dX10_lived_9 : decode cX10_lived 9 = .ok (.aload_n 0, 1) := by decide +kernel
theorem dX10_lived_10 : decode cX10_lived 10 = .ok (.iconst 5, 1) := by decide +kernel
theorem dX10_lived_11 : decode cX10_lived 11 = .ok (.invokevirtual 117, 3) := by decide +kernel
theorem dX10_lived_14 : decode cX10_lived 14 = .ok (.ireturn, 1) := by decide +kernel
theorem dX10_lived_15 : decode cX10_lived 15 = .ok (.aload_n 0, 1) := by decide +kernel
theorem dX10_lived_16 : decode cX10_lived 16 = .ok (.getfield 398, 3) := by decide +kernel
theorem dX10_lived_19 : decode cX10_lived 19 = .ok (.ifCond .ne 10, 3) := by decide +kernel
theorem dX10_lived_22 : decode cX10_lived 22 = .ok (.aload_n 0, 1) := by decide +kernel
theorem dX10_lived_23 : decode cX10_lived 23 = .ok (.bipush 8, 2) := by decide +kernel
theorem dX10_lived_25 : decode cX10_lived 25 = .ok (.invokevirtual 117, 3) := by decide +kernel
theorem dX10_lived_28 : decode cX10_lived 28 = .ok (.ireturn, 1) := by decide +kernel
theorem dX10_lived_29 : decode cX10_lived 29 = .ok (.iload_n 1, 1) := by decide +kernel
theorem dX10_lived_30 : decode cX10_lived 30 = .ok (.tableswitch 78 0 3 #[30, 42, 54, 66], 30) := by decide +kernel
theorem dX10_lived_60 : decode cX10_lived 60 = .ok (.aload_n 0, 1) := by decide +kernel
theorem dX10_lived_61 : decode cX10_lived 61 = .ok (.aload_n 0, 1) := by decide +kernel
theorem dX10_lived_62 : decode cX10_lived 62 = .ok (.getfield 61, 3) := by decide +kernel
theorem dX10_lived_65 : decode cX10_lived 65 = .ok (.getfield 404, 3) := by decide +kernel
theorem dX10_lived_68 : decode cX10_lived 68 = .ok (.invokevirtual 168, 3) := by decide +kernel
theorem dX10_lived_71 : decode cX10_lived 71 = .ok (.ireturn, 1) := by decide +kernel
theorem dX10_lived_72 : decode cX10_lived 72 = .ok (.aload_n 0, 1) := by decide +kernel
theorem dX10_lived_73 : decode cX10_lived 73 = .ok (.aload_n 0, 1) := by decide +kernel
theorem dX10_lived_74 : decode cX10_lived 74 = .ok (.getfield 61, 3) := by decide +kernel
theorem dX10_lived_77 : decode cX10_lived 77 = .ok (.getfield 407, 3) := by decide +kernel
theorem dX10_lived_80 : decode cX10_lived 80 = .ok (.invokevirtual 168, 3) := by decide +kernel
theorem dX10_lived_83 : decode cX10_lived 83 = .ok (.ireturn, 1) := by decide +kernel
theorem dX10_lived_84 : decode cX10_lived 84 = .ok (.aload_n 0, 1) := by decide +kernel
theorem dX10_lived_85 : decode cX10_lived 85 = .ok (.aload_n 0, 1) := by decide +kernel
theorem dX10_lived_86 : decode cX10_lived 86 = .ok (.getfield 61, 3) := by decide +kernel
theorem dX10_lived_89 : decode cX10_lived 89 = .ok (.getfield 410, 3) := by decide +kernel
theorem dX10_lived_92 : decode cX10_lived 92 = .ok (.invokevirtual 168, 3) := by decide +kernel
theorem dX10_lived_95 : decode cX10_lived 95 = .ok (.ireturn, 1) := by decide +kernel
theorem dX10_lived_96 : decode cX10_lived 96 = .ok (.aload_n 0, 1) := by decide +kernel
theorem dX10_lived_97 : decode cX10_lived 97 = .ok (.aload_n 0, 1) := by decide +kernel
theorem dX10_lived_98 : decode cX10_lived 98 = .ok (.getfield 61, 3) := by decide +kernel
theorem dX10_lived_101 : decode cX10_lived 101 = .ok (.getfield 413, 3) := by decide +kernel
theorem dX10_lived_104 : decode cX10_lived 104 = .ok (.invokevirtual 168, 3) := by decide +kernel
theorem dX10_lived_107 : decode cX10_lived 107 = .ok (.ireturn, 1) := by decide +kernel
theorem dX10_lived_108 : decode cX10_lived 108 = .ok (.aload_n 0, 1) := by decide +kernel
theorem dX10_lived_109 : decode cX10_lived 109 = .ok (.aload_n 0, 1) := by decide +kernel
theorem dX10_lived_110 : decode cX10_lived 110 = .ok (.getfield 61, 3) := by decide +kernel
theorem dX10_lived_113 : decode cX10_lived 113 = .ok (.getfield 416, 3) := by decide +kernel
theorem dX10_lived_116 : decode cX10_lived 116 = .ok (.ifCond .eq 7, 3) := by decide +kernel
theorem dX10_lived_119 : decode cX10_lived 119 = .ok (.iconst 1, 1) := by decide +kernel
theorem dX10_lived_120 : decode cX10_lived 120 = .ok (.goto 4, 3) := by decide +kernel
theorem dX10_lived_123 : decode cX10_lived 123 = .ok (.iconst 0, 1) := by decide +kernel
theorem dX10_lived_124 : decode cX10_lived 124 = .ok (.invokevirtual 168, 3) := by decide +kernel
theorem dX10_lived_127 : decode cX10_lived 127 = .ok (.ireturn, 1) := by decide +kernel
theorem dX10_mean_0 : decode cX10_mean 0 = .ok (.iload_n 1, 1) := by decide +kernel
theorem dX10_mean_1 : decode cX10_mean 1 = .ok (.iload_n 2, 1) := by decide +kernel
theorem dX10_mean_2 : decode cX10_mean 2 = .ok (.bipush 20, 2) := by decide +kernel
theorem dX10_mean_4 : decode cX10_mean 4 = .ok (.invokestatic 369, 3) := by decide +kernel
theorem dX10_mean_7 : decode cX10_mean 7 = .ok (.ifCond .ne 9, 3) := by decide +kernel
theorem dX10_mean_10 : decode cX10_mean 10 = .ok (.aload_n 0, 1) := by decide +kernel
theorem dX10_mean_11 : decode cX10_mean 11 = .ok (.iconst 5, 1) := by decide +kernel
theorem dX10_mean_12 : decode cX10_mean 12 = .ok (.invokevirtual 98, 3) := by decide +kernel
theorem dX10_mean_15 : decode cX10_mean 15 = .ok (.ireturn, 1) := by decide +kernel
theorem dX10_mean_16 : decode cX10_mean 16 = .ok (.aload_n 0, 1) := by decide +kernel
theorem dX10_mean_17 : decode cX10_mean 17 = .ok (.getfield 47, 3) := by decide +kernel
theorem dX10_mean_20 : decode cX10_mean 20 = .ok (.getfield 171, 3) := by decide +kernel
theorem dX10_mean_23 : decode cX10_mean 23 = .ok (.getfield 393, 3) := by decide +kernel
theorem dX10_mean_26 : decode cX10_mean 26 = .ok (.ifCond .ne 10, 3) := by decide +kernel
theorem dX10_mean_29 : decode cX10_mean 29 = .ok (.aload_n 0, 1) := by decide +kernel
theorem dX10_mean_30 : decode cX10_mean 30 = .ok (.bipush 8, 2) := by decide +kernel
theorem dX10_mean_32 : decode cX10_mean 32 = .ok (.invokevirtual 98, 3) := by decide +kernel
theorem dX10_mean_35 : decode cX10_mean 35 = .ok (.ireturn, 1) := by decide +kernel
theorem dX10_mean_36 : decode cX10_mean 36 = .ok (.lconst 0, 1) := by decide +kernel
theorem dX10_mean_37 : decode cX10_mean 37 = .ok (.lstore_n 3, 1) := by decide +kernel
theorem dX10_mean_38 : decode cX10_mean 38 = .ok (.iconst 0, 1) := by decide +kernel
theorem dX10_mean_39 : decode cX10_mean 39 = .ok (.istore 5, 2) := by decide +kernel
theorem dX10_mean_41 : decode cX10_mean 41 = .ok (.iload 5, 2) := by decide +kernel
theorem dX10_mean_43 : decode cX10_mean 43 = .ok (.iload_n 2, 1) := by decide +kernel
theorem dX10_mean_44 : decode cX10_mean 44 = .ok (.if_icmp .ge 46, 3) := by decide +kernel
theorem dX10_mean_47 : decode cX10_mean 47 = .ok (.aload_n 0, 1) := by decide +kernel
theorem dX10_mean_48 : decode cX10_mean 48 = .ok (.getfield 51, 3) := by decide +kernel
theorem dX10_mean_51 : decode cX10_mean 51 = .ok (.aload_n 0, 1) := by decide +kernel
theorem dX10_mean_52 : decode cX10_mean 52 = .ok (.getfield 47, 3) := by decide +kernel
theorem dX10_mean_55 : decode cX10_mean 55 = .ok (.invokevirtual 161, 3) := by decide +kernel
theorem dX10_mean_58 : decode cX10_mean 58 = .ok (.aload_n 0, 1) := by decide +kernel
theorem dX10_mean_59 : decode cX10_mean 59 = .ok (.getfield 65, 3) := by decide +kernel
theorem dX10_mean_62 : decode cX10_mean 62 = .ok (.aload_n 0, 1) := by decide +kernel
theorem dX10_mean_63 : decode cX10_mean 63 = .ok (.getfield 51, 3) := by decide +kernel
theorem dX10_mean_66 : decode cX10_mean 66 = .ok (.iload_n 1, 1) := by decide +kernel
theorem dX10_mean_67 : decode cX10_mean 67 = .ok (.iload 5, 2) := by decide +kernel
theorem dX10_mean_69 : decode cX10_mean 69 = .ok (.iadd, 1) := by decide +kernel
theorem dX10_mean_70 : decode cX10_mean 70 = .ok (.invokevirtual 394, 3) := by decide +kernel
theorem dX10_mean_73 : decode cX10_mean 73 = .ok (.lload_n 3, 1) := by decide +kernel
theorem dX10_mean_74 : decode cX10_mean 74 = .ok (.aload_n 0, 1) := by decide +kernel
theorem dX10_mean_75 : decode cX10_mean 75 = .ok (.getfield 51, 3) := by decide +kernel
theorem dX10_mean_78 : decode cX10_mean 78 = .ok (.invokevirtual 419, 3) := by decide +kernel
theorem dX10_mean_81 : decode cX10_mean 81 = .ok (.i2l, 1) := by decide +kernel
theorem dX10_mean_82 : decode cX10_mean 82 = .ok (.ladd, 1) := by decide +kernel
theorem dX10_mean_83 : decode cX10_mean 83 = .ok (.lstore_n 3, 1) := by decide +kernel
theorem dX10_mean_84 : decode cX10_mean 84 = .ok (.iinc 5 1, 3) := by decide +kernel
theorem dX10_mean_87 : decode cX10_mean 87 = .ok (.goto (-46), 3) := by decide +kernel
theorem dX10_mean_90 : decode cX10_mean 90 = .ok (.aload_n 0, 1) := by decide +kernel
theorem dX10_mean_91 : decode cX10_mean 91 = .ok (.lload_n 3, 1) := by decide +kernel
theorem dX10_mean_92 : decode cX10_mean 92 = .ok (.iload_n 2, 1) := by decide +kernel
theorem dX10_mean_93 : decode cX10_mean 93 = .ok (.i2l, 1) := by decide +kernel
theorem dX10_mean_94 : decode cX10_mean 94 = .ok (.invokevirtual 380, 3) := by decide +kernel
theorem dX10_mean_97 : decode cX10_mean 97 = .ok (.aload_n 0, 1) := by decide +kernel
theorem dX10_mean_98 : decode cX10_mean 98 = .ok (.invokevirtual 105, 3) := by decide +kernel
theorem dX10_mean_101 : decode cX10_mean 101 = .ok (.ireturn, 1) := by decide +kernel
theorem dX10_mark_0 : decode cX10_mark 0 = .ok (.aload_n 0, 1) := by decide +kernel
theorem dX10_mark_1 : decode cX10_mark 1 = .ok (.getfield 422, 3) := by decide +kernel
theorem dX10_mark_4 : decode cX10_mark 4 = .ok (.iconst 3, 1) := by decide +kernel
theorem dX10_mark_5 : decode cX10_mark 5 = .ok (.if_icmp .lt 10, 3) := by decide +kernel
theorem dX10_mark_8 : decode cX10_mark 8 = .ok (.aload_n 0, 1) := by decide +kernel
theorem dX10_mark_9 : decode cX10_mark 9 = .ok (.bipush 7, 2) := by decide +kernel
theorem dX10_mark_11 : decode cX10_mark 11 = .ok (.invokevirtual 117, 3) := by decide +kernel
theorem dX10_mark_14 : decode cX10_mark 14 = .ok (.ireturn, 1) := by decide +kernel
theorem dX10_mark_15 : decode cX10_mark 15 = .ok (.aload_n 0, 1) := by decide +kernel
theorem dX10_mark_16 : decode cX10_mark 16 = .ok (.getfield 54, 3) := by decide +kernel
theorem dX10_mark_19 : decode cX10_mark 19 = .ok (.aload_n 0, 1) := by decide +kernel
theorem dX10_mark_20 : decode cX10_mark 20 = .ok (.getfield 422, 3) := by decide +kernel
theorem dX10_mark_23 : decode cX10_mark 23 = .ok (.aaload, 1) := by decide +kernel
theorem dX10_mark_24 : decode cX10_mark 24 = .ok (.aload_n 0, 1) := by decide +kernel
theorem dX10_mark_25 : decode cX10_mark 25 = .ok (.getfield 47, 3) := by decide +kernel
theorem dX10_mark_28 : decode cX10_mark 28 = .ok (.invokevirtual 161, 3) := by decide +kernel
theorem dX10_mark_31 : decode cX10_mark 31 = .ok (.aload_n 0, 1) := by decide +kernel
theorem dX10_mark_32 : decode cX10_mark 32 = .ok (.dup, 1) := by decide +kernel
theorem dX10_mark_33 : decode cX10_mark 33 = .ok (.getfield 422, 3) := by decide +kernel
theorem dX10_mark_36 : decode cX10_mark 36 = .ok (.iconst 1, 1) := by decide +kernel
theorem dX10_mark_37 : decode cX10_mark 37 = .ok (.iadd, 1) := by decide +kernel
theorem dX10_mark_38 : decode cX10_mark 38 = .ok (.putfield 422, 3) := by decide +kernel
theorem dX10_mark_41 : decode cX10_mark 41 = .ok (.aload_n 0, 1) := by decide +kernel
theorem dX10_mark_42 : decode cX10_mark 42 = .ok (.aload_n 0, 1) := by decide +kernel
theorem dX10_mark_43 : decode cX10_mark 43 = .ok (.getfield 422, 3) := by decide +kernel
theorem dX10_mark_46 : decode cX10_mark 46 = .ok (.invokevirtual 168, 3) := by decide +kernel
theorem dX10_mark_49 : decode cX10_mark 49 = .ok (.ireturn, 1) := by decide +kernel
theorem dX10_back_0 : decode cX10_back 0 = .ok (.aload_n 0, 1) := by decide +kernel
theorem dX10_back_1 : decode cX10_back 1 = .ok (.getfield 422, 3) := by decide +kernel
theorem dX10_back_4 : decode cX10_back 4 = .ok (.ifCond .gt 10, 3) := by decide +kernel
theorem dX10_back_7 : decode cX10_back 7 = .ok (.aload_n 0, 1) := by decide +kernel
theorem dX10_back_8 : decode cX10_back 8 = .ok (.bipush 8, 2) := by decide +kernel
theorem dX10_back_10 : decode cX10_back 10 = .ok (.invokevirtual 117, 3) := by decide +kernel
theorem dX10_back_13 : decode cX10_back 13 = .ok (.ireturn, 1) := by decide +kernel
theorem dX10_back_14 : decode cX10_back 14 = .ok (.aload_n 0, 1) := by decide +kernel
theorem dX10_back_15 : decode cX10_back 15 = .ok (.dup, 1) := by decide +kernel
theorem dX10_back_16 : decode cX10_back 16 = .ok (.getfield 422, 3) := by decide +kernel
theorem dX10_back_19 : decode cX10_back 19 = .ok (.iconst 1, 1) := by decide +kernel
theorem dX10_back_20 : decode cX10_back 20 = .ok (.isub, 1) := by decide +kernel
theorem dX10_back_21 : decode cX10_back 21 = .ok (.putfield 422, 3) := by decide +kernel
theorem dX10_back_24 : decode cX10_back 24 = .ok (.aload_n 0, 1) := by decide +kernel
theorem dX10_back_25 : decode cX10_back 25 = .ok (.getfield 47, 3) := by decide +kernel
theorem dX10_back_28 : decode cX10_back 28 = .ok (.aload_n 0, 1) := by decide +kernel
theorem dX10_back_29 : decode cX10_back 29 = .ok (.getfield 54, 3) := by decide +kernel
theorem dX10_back_32 : decode cX10_back 32 = .ok (.aload_n 0, 1) := by decide +kernel
theorem dX10_back_33 : decode cX10_back 33 = .ok (.getfield 422, 3) := by decide +kernel
theorem dX10_back_36 : decode cX10_back 36 = .ok (.aaload, 1) := by decide +kernel
theorem dX10_back_37 : decode cX10_back 37 = .ok (.invokevirtual 161, 3) := by decide +kernel
theorem dX10_back_40 : decode cX10_back 40 = .ok (.aload_n 0, 1) := by decide +kernel
theorem dX10_back_41 : decode cX10_back 41 = .ok (.aload_n 0, 1) := by decide +kernel
theorem dX10_back_42 : decode cX10_back 42 = .ok (.getfield 422, 3) := by decide +kernel
theorem dX10_back_45 : decode cX10_back 45 = .ok (.invokevirtual 168, 3) := by decide +kernel
theorem dX10_back_48 : decode cX10_back 48 = .ok (.ireturn, 1) := by decide +kernel
theorem dX10_give_0 : decode cX10_give 0 = .ok (.aload_n 0, 1) := by decide +kernel
theorem dX10_give_1 : decode cX10_give 1 = .ok (.iconst 0, 1) := by decide +kernel
theorem dX10_give_2 : decode cX10_give 2 = .ok (.putfield 87, 3) := by decide +kernel
theorem dX10_give_5 : decode cX10_give 5 = .ok (.iload_n 1, 1) := by decide +kernel
theorem dX10_give_6 : decode cX10_give 6 = .ok (.ireturn, 1) := by decide +kernel
theorem dX10_giveCard_0 : decode cX10_giveCard 0 = .ok (.iload_n 1, 1) := by decide +kernel
theorem dX10_giveCard_1 : decode cX10_giveCard 1 = .ok (.iconst (-1), 1) := by decide +kernel
theorem dX10_giveCard_2 : decode cX10_giveCard 2 = .ok (.if_icmp .ne 12, 3) := by decide +kernel
theorem dX10_giveCard_5 : decode cX10_giveCard 5 = .ok (.aload_n 0, 1) := by decide +kernel
theorem dX10_giveCard_6 : decode cX10_giveCard 6 = .ok (.bipush 8, 2) := by decide +kernel
theorem dX10_giveCard_8 : decode cX10_giveCard 8 = .ok (.invokevirtual 117, 3) := by decide +kernel
theorem dX10_giveCard_11 : decode cX10_giveCard 11 = .ok (.goto 8, 3) := by decide +kernel
theorem dX10_giveCard_14 : decode cX10_giveCard 14 = .ok (.aload_n 0, 1) := by decide +kernel
theorem dX10_giveCard_15 : decode cX10_giveCard 15 = .ok (.iload_n 1, 1) := by decide +kernel
theorem dX10_giveCard_16 : decode cX10_giveCard 16 = .ok (.invokevirtual 168, 3) := by decide +kernel
theorem dX10_giveCard_19 : decode cX10_giveCard 19 = .ok (.ireturn, 1) := by decide +kernel
theorem dX10_fail_0 : decode cX10_fail 0 = .ok (.aload_n 0, 1) := by decide +kernel
theorem dX10_fail_1 : decode cX10_fail 1 = .ok (.iload_n 1, 1) := by decide +kernel
theorem dX10_fail_2 : decode cX10_fail 2 = .ok (.putfield 87, 3) := by decide +kernel
theorem dX10_fail_5 : decode cX10_fail 5 = .ok (.iconst (-1), 1) := by decide +kernel
theorem dX10_fail_6 : decode cX10_fail 6 = .ok (.ireturn, 1) := by decide +kernel
theorem dX10_accept_0 : decode cX10_accept 0 = .ok (.aload_n 0, 1) := by decide +kernel
theorem dX10_accept_1 : decode cX10_accept 1 = .ok (.iconst 0, 1) := by decide +kernel
theorem dX10_accept_2 : decode cX10_accept 2 = .ok (.putfield 87, 3) := by decide +kernel
theorem dX10_accept_5 : decode cX10_accept 5 = .ok (.iconst 1, 1) := by decide +kernel
theorem dX10_accept_6 : decode cX10_accept 6 = .ok (.ireturn, 1) := by decide +kernel
theorem dX10_refuse_0 : decode cX10_refuse 0 = .ok (.aload_n 0, 1) := by decide +kernel
theorem dX10_refuse_1 : decode cX10_refuse 1 = .ok (.iload_n 1, 1) := by decide +kernel
theorem dX10_refuse_2 : decode cX10_refuse 2 = .ok (.putfield 87, 3) := by decide +kernel
theorem dX10_refuse_5 : decode cX10_refuse 5 = .ok (.iconst 0, 1) := by decide +kernel
theorem dX10_refuse_6 : decode cX10_refuse 6 = .ok (.ireturn, 1) := by decide +kernel
theorem dX10_tellFraction_0 : decode cX10_tellFraction 0 = .ok (.lload_n 1, 1) := by decide +kernel
theorem dX10_tellFraction_1 : decode cX10_tellFraction 1 = .ok (.lload_n 3, 1) := by decide +kernel
theorem dX10_tellFraction_2 : decode cX10_tellFraction 2 = .ok (.invokestatic 425, 3) := by decide +kernel
theorem dX10_tellFraction_5 : decode cX10_tellFraction 5 = .ok (.lstore 5, 2) := by decide +kernel
theorem dX10_tellFraction_7 : decode cX10_tellFraction 7 = .ok (.lload 5, 2) := by decide +kernel
theorem dX10_tellFraction_9 : decode cX10_tellFraction 9 = .ok (.lconst 1, 1) := by decide +kernel
theorem dX10_tellFraction_10 : decode cX10_tellFraction 10 = .ok (.lcmp, 1) := by decide +kernel
theorem dX10_tellFraction_11 : decode cX10_tellFraction 11 = .ok (.ifCond .ge 4, 3) := by decide +kernel
theorem dX10_tellFraction_14 : decode cX10_tellFraction 14 = .ok (.return_, 1) := by decide +kernel
theorem dX10_tellFraction_15 : decode cX10_tellFraction 15 = .ok (.aload_n 0, 1) := by decide +kernel
theorem dX10_tellFraction_16 : decode cX10_tellFraction 16 = .ok (.lload_n 1, 1) := by decide +kernel
theorem dX10_tellFraction_17 : decode cX10_tellFraction 17 = .ok (.lload 5, 2) := by decide +kernel
theorem dX10_tellFraction_19 : decode cX10_tellFraction 19 = .ok (.ldiv, 1) := by decide +kernel
theorem dX10_tellFraction_20 : decode cX10_tellFraction 20 = .ok (.putfield 91, 3) := by decide +kernel
theorem dX10_tellFraction_23 : decode cX10_tellFraction 23 = .ok (.aload_n 0, 1) := by decide +kernel
theorem dX10_tellFraction_24 : decode cX10_tellFraction 24 = .ok (.lload_n 3, 1) := by decide +kernel
theorem dX10_tellFraction_25 : decode cX10_tellFraction 25 = .ok (.lload 5, 2) := by decide +kernel
theorem dX10_tellFraction_27 : decode cX10_tellFraction 27 = .ok (.ldiv, 1) := by decide +kernel
theorem dX10_tellFraction_28 : decode cX10_tellFraction 28 = .ok (.putfield 9, 3) := by decide +kernel
theorem dX10_tellFraction_31 : decode cX10_tellFraction 31 = .ok (.return_, 1) := by decide +kernel
theorem dX10_commonDivisor_0 : decode cX10_commonDivisor 0 = .ok (.lload_n 0, 1) := by decide +kernel
theorem dX10_commonDivisor_1 : decode cX10_commonDivisor 1 = .ok (.lstore 4, 2) := by decide +kernel
theorem dX10_commonDivisor_3 : decode cX10_commonDivisor 3 = .ok (.lload_n 2, 1) := by decide +kernel
theorem dX10_commonDivisor_4 : decode cX10_commonDivisor 4 = .ok (.lstore 6, 2) := by decide +kernel
theorem dX10_commonDivisor_6 : decode cX10_commonDivisor 6 = .ok (.iconst 0, 1) := by decide +kernel
theorem dX10_commonDivisor_7 : decode cX10_commonDivisor 7 = .ok (.istore 8, 2) := by decide +kernel
theorem dX10_commonDivisor_9 : decode cX10_commonDivisor 9 = .ok (.iload 8, 2) := by decide +kernel
theorem dX10_commonDivisor_11 : decode cX10_commonDivisor 11 = .ok (.bipush 100, 2) := by decide +kernel
theorem dX10_commonDivisor_13 : decode cX10_commonDivisor 13 = .ok (.if_icmp .ge 31, 3) := by decide +kernel
theorem dX10_commonDivisor_16 : decode cX10_commonDivisor 16 = .ok (.lload 6, 2) := by decide +kernel
theorem dX10_commonDivisor_18 : decode cX10_commonDivisor 18 = .ok (.lconst 0, 1) := by decide +kernel
theorem dX10_commonDivisor_19 : decode cX10_commonDivisor 19 = .ok (.lcmp, 1) := by decide +kernel
theorem dX10_commonDivisor_20 : decode cX10_commonDivisor 20 = .ok (.ifCond .eq 24, 3) := by decide +kernel
theorem dX10_commonDivisor_23 : decode cX10_commonDivisor 23 = .ok (.lload 4, 2) := by decide +kernel
theorem dX10_commonDivisor_25 : decode cX10_commonDivisor 25 = .ok (.lload 6, 2) := by decide +kernel
theorem dX10_commonDivisor_27 : decode cX10_commonDivisor 27 = .ok (.lrem, 1) := by decide +kernel
theorem dX10_commonDivisor_28 : decode cX10_commonDivisor 28 = .ok (.lstore 9, 2) := by decide +kernel
theorem dX10_commonDivisor_30 : decode cX10_commonDivisor 30 = .ok (.lload 6, 2) := by decide +kernel
theorem dX10_commonDivisor_32 : decode cX10_commonDivisor 32 = .ok (.lstore 4, 2) := by decide +kernel
theorem dX10_commonDivisor_34 : decode cX10_commonDivisor 34 = .ok (.lload 9, 2) := by decide +kernel
theorem dX10_commonDivisor_36 : decode cX10_commonDivisor 36 = .ok (.lstore 6, 2) := by decide +kernel
theorem dX10_commonDivisor_38 : decode cX10_commonDivisor 38 = .ok (.iinc 8 1, 3) := by decide +kernel
theorem dX10_commonDivisor_41 : decode cX10_commonDivisor 41 = .ok (.goto (-32), 3) := by decide +kernel
theorem dX10_commonDivisor_44 : decode cX10_commonDivisor 44 = .ok (.lload 4, 2) := by decide +kernel
theorem dX10_commonDivisor_46 : decode cX10_commonDivisor 46 = .ok (.lreturn, 1) := by decide +kernel
theorem dX10_isTray_0 : decode cX10_isTray 0 = .ok (.iload_n 0, 1) := by decide +kernel
theorem dX10_isTray_1 : decode cX10_isTray 1 = .ok (.ifCond .lt 12, 3) := by decide +kernel
theorem dX10_isTray_4 : decode cX10_isTray 4 = .ok (.iload_n 0, 1) := by decide +kernel
theorem dX10_isTray_5 : decode cX10_isTray 5 = .ok (.iconst 4, 1) := by decide +kernel
theorem dX10_isTray_6 : decode cX10_isTray 6 = .ok (.if_icmp .ge 7, 3) := by decide +kernel
theorem dX10_isTray_9 : decode cX10_isTray 9 = .ok (.iconst 1, 1) := by decide +kernel
theorem dX10_isTray_10 : decode cX10_isTray 10 = .ok (.goto 4, 3) := by decide +kernel
theorem dX10_isTray_13 : decode cX10_isTray 13 = .ok (.iconst 0, 1) := by decide +kernel
theorem dX10_isTray_14 : decode cX10_isTray 14 = .ok (.ireturn, 1) := by decide +kernel
theorem dX10_isSuit_0 : decode cX10_isSuit 0 = .ok (.iload_n 1, 1) := by decide +kernel
theorem dX10_isSuit_1 : decode cX10_isSuit 1 = .ok (.ifCond .lt 21, 3) := by decide +kernel
theorem dX10_isSuit_4 : decode cX10_isSuit 4 = .ok (.iload_n 1, 1) := by decide +kernel
theorem dX10_isSuit_5 : decode cX10_isSuit 5 = .ok (.aload_n 0, 1) := by decide +kernel
theorem dX10_isSuit_6 : decode cX10_isSuit 6 = .ok (.getfield 47, 3) := by decide +kernel
theorem dX10_isSuit_9 : decode cX10_isSuit 9 = .ok (.getfield 192, 3) := by decide +kernel
theorem dX10_isSuit_12 : decode cX10_isSuit 12 = .ok (.getfield 201, 3) := by decide +kernel
theorem dX10_isSuit_15 : decode cX10_isSuit 15 = .ok (.if_icmp .ge 7, 3) := by decide +kernel
theorem dX10_isSuit_18 : decode cX10_isSuit 18 = .ok (.iconst 1, 1) := by decide +kernel
theorem dX10_isSuit_19 : decode cX10_isSuit 19 = .ok (.goto 4, 3) := by decide +kernel
theorem dX10_isSuit_22 : decode cX10_isSuit 22 = .ok (.iconst 0, 1) := by decide +kernel
theorem dX10_isSuit_23 : decode cX10_isSuit 23 = .ok (.ireturn, 1) := by decide +kernel
theorem dX10_isRow_0 : decode cX10_isRow 0 = .ok (.iload_n 1, 1) := by decide +kernel
theorem dX10_isRow_1 : decode cX10_isRow 1 = .ok (.ifCond .lt 21, 3) := by decide +kernel
theorem dX10_isRow_4 : decode cX10_isRow 4 = .ok (.iload_n 1, 1) := by decide +kernel
theorem dX10_isRow_5 : decode cX10_isRow 5 = .ok (.aload_n 0, 1) := by decide +kernel
theorem dX10_isRow_6 : decode cX10_isRow 6 = .ok (.getfield 47, 3) := by decide +kernel
theorem dX10_isRow_9 : decode cX10_isRow 9 = .ok (.getfield 192, 3) := by decide +kernel
theorem dX10_isRow_12 : decode cX10_isRow 12 = .ok (.getfield 210, 3) := by decide +kernel
theorem dX10_isRow_15 : decode cX10_isRow 15 = .ok (.if_icmp .ge 7, 3) := by decide +kernel
theorem dX10_isRow_18 : decode cX10_isRow 18 = .ok (.iconst 1, 1) := by decide +kernel
theorem dX10_isRow_19 : decode cX10_isRow 19 = .ok (.goto 4, 3) := by decide +kernel
theorem dX10_isRow_22 : decode cX10_isRow 22 = .ok (.iconst 0, 1) := by decide +kernel
theorem dX10_isRow_23 : decode cX10_isRow 23 = .ok (.ireturn, 1) := by decide +kernel
theorem dX10_isField_0 : decode cX10_isField 0 = .ok (.iload_n 1, 1) := by decide +kernel
theorem dX10_isField_1 : decode cX10_isField 1 = .ok (.ifCond .lt 18, 3) := by decide +kernel
theorem dX10_isField_4 : decode cX10_isField 4 = .ok (.iload_n 1, 1) := by decide +kernel
theorem dX10_isField_5 : decode cX10_isField 5 = .ok (.aload_n 0, 1) := by decide +kernel
theorem dX10_isField_6 : decode cX10_isField 6 = .ok (.getfield 47, 3) := by decide +kernel
theorem dX10_isField_9 : decode cX10_isField 9 = .ok (.getfield 165, 3) := by decide +kernel
theorem dX10_isField_12 : decode cX10_isField 12 = .ok (.if_icmp .ge 7, 3) := by decide +kernel
theorem dX10_isField_15 : decode cX10_isField 15 = .ok (.iconst 1, 1) := by decide +kernel
theorem dX10_isField_16 : decode cX10_isField 16 = .ok (.goto 4, 3) := by decide +kernel
theorem dX10_isField_19 : decode cX10_isField 19 = .ok (.iconst 0, 1) := by decide +kernel
theorem dX10_isField_20 : decode cX10_isField 20 = .ok (.ireturn, 1) := by decide +kernel
theorem dX10_arePlaces_0 : decode cX10_arePlaces 0 = .ok (.aload_n 0, 1) := by decide +kernel
theorem dX10_arePlaces_1 : decode cX10_arePlaces 1 = .ok (.getfield 47, 3) := by decide +kernel
theorem dX10_arePlaces_4 : decode cX10_arePlaces 4 = .ok (.getfield 192, 3) := by decide +kernel
theorem dX10_arePlaces_7 : decode cX10_arePlaces 7 = .ok (.iload_n 1, 1) := by decide +kernel
theorem dX10_arePlaces_8 : decode cX10_arePlaces 8 = .ok (.invokevirtual 429, 3) := by decide +kernel
theorem dX10_arePlaces_11 : decode cX10_arePlaces 11 = .ok (.ifCond .eq 21, 3) := by decide +kernel
theorem dX10_arePlaces_14 : decode cX10_arePlaces 14 = .ok (.aload_n 0, 1) := by decide +kernel
theorem dX10_arePlaces_15 : decode cX10_arePlaces 15 = .ok (.getfield 47, 3) := by decide +kernel
theorem dX10_arePlaces_18 : decode cX10_arePlaces 18 = .ok (.getfield 192, 3) := by decide +kernel
theorem dX10_arePlaces_21 : decode cX10_arePlaces 21 = .ok (.iload_n 2, 1) := by decide +kernel
theorem dX10_arePlaces_22 : decode cX10_arePlaces 22 = .ok (.invokevirtual 432, 3) := by decide +kernel
theorem dX10_arePlaces_25 : decode cX10_arePlaces 25 = .ok (.ifCond .eq 7, 3) := by decide +kernel
theorem dX10_arePlaces_28 : decode cX10_arePlaces 28 = .ok (.iconst 1, 1) := by decide +kernel
theorem dX10_arePlaces_29 : decode cX10_arePlaces 29 = .ok (.goto 4, 3) := by decide +kernel
theorem dX10_arePlaces_32 : decode cX10_arePlaces 32 = .ok (.iconst 0, 1) := by decide +kernel
theorem dX10_arePlaces_33 : decode cX10_arePlaces 33 = .ok (.ireturn, 1) := by decide +kernel
theorem dX10_isSet_0 : decode cX10_isSet 0 = .ok (.iload_n 1, 1) := by decide +kernel
theorem dX10_isSet_1 : decode cX10_isSet 1 = .ok (.ifCond .lt 23, 3) := by decide +kernel
theorem dX10_isSet_4 : decode cX10_isSet 4 = .ok (.iload_n 1, 1) := by decide +kernel
theorem dX10_isSet_5 : decode cX10_isSet 5 = .ok (.iconst 1, 1) := by decide +kernel
theorem dX10_isSet_6 : decode cX10_isSet 6 = .ok (.aload_n 0, 1) := by decide +kernel
theorem dX10_isSet_7 : decode cX10_isSet 7 = .ok (.getfield 47, 3) := by decide +kernel
theorem dX10_isSet_10 : decode cX10_isSet 10 = .ok (.getfield 192, 3) := by decide +kernel
theorem dX10_isSet_13 : decode cX10_isSet 13 = .ok (.getfield 201, 3) := by decide +kernel
theorem dX10_isSet_16 : decode cX10_isSet 16 = .ok (.ishl, 1) := by decide +kernel
theorem dX10_isSet_17 : decode cX10_isSet 17 = .ok (.if_icmp .ge 7, 3) := by decide +kernel
theorem dX10_isSet_20 : decode cX10_isSet 20 = .ok (.iconst 1, 1) := by decide +kernel
theorem dX10_isSet_21 : decode cX10_isSet 21 = .ok (.goto 4, 3) := by decide +kernel
theorem dX10_isSet_24 : decode cX10_isSet 24 = .ok (.iconst 0, 1) := by decide +kernel
theorem dX10_isSet_25 : decode cX10_isSet 25 = .ok (.ireturn, 1) := by decide +kernel
theorem dX10_areTurns_0 : decode cX10_areTurns 0 = .ok (.iload_n 0, 1) := by decide +kernel
theorem dX10_areTurns_1 : decode cX10_areTurns 1 = .ok (.iconst 1, 1) := by decide +kernel
theorem dX10_areTurns_2 : decode cX10_areTurns 2 = .ok (.if_icmp .lt 12, 3) := by decide +kernel
theorem dX10_areTurns_5 : decode cX10_areTurns 5 = .ok (.iload_n 0, 1) := by decide +kernel
theorem dX10_areTurns_6 : decode cX10_areTurns 6 = .ok (.iconst 3, 1) := by decide +kernel
theorem dX10_areTurns_7 : decode cX10_areTurns 7 = .ok (.if_icmp .gt 7, 3) := by decide +kernel
theorem dX10_areTurns_10 : decode cX10_areTurns 10 = .ok (.iconst 1, 1) := by decide +kernel
theorem dX10_areTurns_11 : decode cX10_areTurns 11 = .ok (.goto 4, 3) := by decide +kernel
theorem dX10_areTurns_14 : decode cX10_areTurns 14 = .ok (.iconst 0, 1) := by decide +kernel
theorem dX10_areTurns_15 : decode cX10_areTurns 15 = .ok (.ireturn, 1) := by decide +kernel
theorem dX10_isSeed_0 : decode cX10_isSeed 0 = .ok (.iload_n 0, 1) := by decide +kernel
theorem dX10_isSeed_1 : decode cX10_isSeed 1 = .ok (.ifCond .lt 14, 3) := by decide +kernel
theorem dX10_isSeed_4 : decode cX10_isSeed 4 = .ok (.iload_n 0, 1) := by decide +kernel
theorem dX10_isSeed_5 : decode cX10_isSeed 5 = .ok (.sipush 9999, 3) := by decide +kernel
theorem dX10_isSeed_8 : decode cX10_isSeed 8 = .ok (.if_icmp .gt 7, 3) := by decide +kernel
theorem dX10_isSeed_11 : decode cX10_isSeed 11 = .ok (.iconst 1, 1) := by decide +kernel
theorem dX10_isSeed_12 : decode cX10_isSeed 12 = .ok (.goto 4, 3) := by decide +kernel
theorem dX10_isSeed_15 : decode cX10_isSeed 15 = .ok (.iconst 0, 1) := by decide +kernel
theorem dX10_isSeed_16 : decode cX10_isSeed 16 = .ok (.ireturn, 1) := by decide +kernel
theorem dX10_areSeeds_0 : decode cX10_areSeeds 0 = .ok (.iload_n 0, 1) := by decide +kernel
theorem dX10_areSeeds_1 : decode cX10_areSeeds 1 = .ok (.invokestatic 301, 3) := by decide +kernel
theorem dX10_areSeeds_4 : decode cX10_areSeeds 4 = .ok (.ifCond .eq 28, 3) := by decide +kernel
theorem dX10_areSeeds_7 : decode cX10_areSeeds 7 = .ok (.iload_n 1, 1) := by decide +kernel
theorem dX10_areSeeds_8 : decode cX10_areSeeds 8 = .ok (.iconst 1, 1) := by decide +kernel
theorem dX10_areSeeds_9 : decode cX10_areSeeds 9 = .ok (.if_icmp .lt 23, 3) := by decide +kernel
theorem dX10_areSeeds_12 : decode cX10_areSeeds 12 = .ok (.iload_n 1, 1) := by decide +kernel
theorem dX10_areSeeds_13 : decode cX10_areSeeds 13 = .ok (.iload_n 2, 1) := by decide +kernel
theorem dX10_areSeeds_14 : decode cX10_areSeeds 14 = .ok (.if_icmp .gt 18, 3) := by decide +kernel
theorem dX10_areSeeds_17 : decode cX10_areSeeds 17 = .ok (.iload_n 0, 1) := by decide +kernel
theorem dX10_areSeeds_18 : decode cX10_areSeeds 18 = .ok (.iload_n 1, 1) := by decide +kernel
theorem dX10_areSeeds_19 : decode cX10_areSeeds 19 = .ok (.iadd, 1) := by decide +kernel
theorem dX10_areSeeds_20 : decode cX10_areSeeds 20 = .ok (.iconst 1, 1) := by decide +kernel
theorem dX10_areSeeds_21 : decode cX10_areSeeds 21 = .ok (.isub, 1) := by decide +kernel
theorem dX10_areSeeds_22 : decode cX10_areSeeds 22 = .ok (.invokestatic 301, 3) := by decide +kernel
theorem dX10_areSeeds_25 : decode cX10_areSeeds 25 = .ok (.ifCond .eq 7, 3) := by decide +kernel
theorem dX10_areSeeds_28 : decode cX10_areSeeds 28 = .ok (.iconst 1, 1) := by decide +kernel
theorem dX10_areSeeds_29 : decode cX10_areSeeds 29 = .ok (.goto 4, 3) := by decide +kernel
theorem dX10_areSeeds_32 : decode cX10_areSeeds 32 = .ok (.iconst 0, 1) := by decide +kernel
theorem dX10_areSeeds_33 : decode cX10_areSeeds 33 = .ok (.ireturn, 1) := by decide +kernel
theorem dX10_placeWrong_0 : decode cX10_placeWrong 0 = .ok (.iload_n 1, 1) := by decide +kernel
theorem dX10_placeWrong_1 : decode cX10_placeWrong 1 = .ok (.invokestatic 94, 3) := by decide +kernel
theorem dX10_placeWrong_4 : decode cX10_placeWrong 4 = .ok (.ifCond .ne 5, 3) := by decide +kernel
theorem dX10_placeWrong_7 : decode cX10_placeWrong 7 = .ok (.iconst 1, 1) := by decide +kernel
theorem dX10_placeWrong_8 : decode cX10_placeWrong 8 = .ok (.ireturn, 1) := by decide +kernel
theorem dX10_placeWrong_9 : decode cX10_placeWrong 9 = .ok (.aload_n 0, 1) := by decide +kernel
theorem dX10_placeWrong_10 : decode cX10_placeWrong 10 = .ok (.getfield 15, 3) := by decide +kernel
theorem dX10_placeWrong_13 : decode cX10_placeWrong 13 = .ok (.iload_n 1, 1) := by decide +kernel
theorem dX10_placeWrong_14 : decode cX10_placeWrong 14 = .ok (.aaload, 1) := by decide +kernel
theorem dX10_placeWrong_15 : decode cX10_placeWrong 15 = .ok (.getfield 125, 3) := by decide +kernel
theorem dX10_placeWrong_18 : decode cX10_placeWrong 18 = .ok (.ifCond .ne 5, 3) := by decide +kernel
theorem dX10_placeWrong_21 : decode cX10_placeWrong 21 = .ok (.iconst 3, 1) := by decide +kernel
theorem dX10_placeWrong_22 : decode cX10_placeWrong 22 = .ok (.ireturn, 1) := by decide +kernel
theorem dX10_placeWrong_23 : decode cX10_placeWrong 23 = .ok (.aload_n 0, 1) := by decide +kernel
theorem dX10_placeWrong_24 : decode cX10_placeWrong 24 = .ok (.getfield 15, 3) := by decide +kernel
theorem dX10_placeWrong_27 : decode cX10_placeWrong 27 = .ok (.iload_n 1, 1) := by decide +kernel
theorem dX10_placeWrong_28 : decode cX10_placeWrong 28 = .ok (.aaload, 1) := by decide +kernel
theorem dX10_placeWrong_29 : decode cX10_placeWrong 29 = .ok (.iload_n 2, 1) := by decide +kernel
theorem dX10_placeWrong_30 : decode cX10_placeWrong 30 = .ok (.iconst 1, 1) := by decide +kernel
theorem dX10_placeWrong_31 : decode cX10_placeWrong 31 = .ok (.invokevirtual 132, 3) := by decide +kernel
theorem dX10_placeWrong_34 : decode cX10_placeWrong 34 = .ok (.ifCond .eq 7, 3) := by decide +kernel
theorem dX10_placeWrong_37 : decode cX10_placeWrong 37 = .ok (.iconst 0, 1) := by decide +kernel
theorem dX10_placeWrong_38 : decode cX10_placeWrong 38 = .ok (.goto 4, 3) := by decide +kernel
theorem dX10_placeWrong_41 : decode cX10_placeWrong 41 = .ok (.iconst 4, 1) := by decide +kernel
theorem dX10_placeWrong_42 : decode cX10_placeWrong 42 = .ok (.ireturn, 1) := by decide +kernel
theorem dX10_nextWrong_0 : decode cX10_nextWrong 0 = .ok (.aload_n 0, 1) := by decide +kernel
theorem dX10_nextWrong_1 : decode cX10_nextWrong 1 = .ok (.iload_n 1, 1) := by decide +kernel
theorem dX10_nextWrong_2 : decode cX10_nextWrong 2 = .ok (.invokevirtual 250, 3) := by decide +kernel
theorem dX10_nextWrong_5 : decode cX10_nextWrong 5 = .ok (.ifCond .ne 5, 3) := by decide +kernel
theorem dX10_nextWrong_8 : decode cX10_nextWrong 8 = .ok (.iconst 2, 1) := by decide +kernel
theorem dX10_nextWrong_9 : decode cX10_nextWrong 9 = .ok (.ireturn, 1) := by decide +kernel
theorem dX10_nextWrong_10 : decode cX10_nextWrong 10 = .ok (.aload_n 0, 1) := by decide +kernel
theorem dX10_nextWrong_11 : decode cX10_nextWrong 11 = .ok (.getfield 47, 3) := by decide +kernel
theorem dX10_nextWrong_14 : decode cX10_nextWrong 14 = .ok (.getfield 192, 3) := by decide +kernel
theorem dX10_nextWrong_17 : decode cX10_nextWrong 17 = .ok (.iload_n 1, 1) := by decide +kernel
theorem dX10_nextWrong_18 : decode cX10_nextWrong 18 = .ok (.invokevirtual 324, 3) := by decide +kernel
theorem dX10_nextWrong_21 : decode cX10_nextWrong 21 = .ok (.iconst (-1), 1) := by decide +kernel
theorem dX10_nextWrong_22 : decode cX10_nextWrong 22 = .ok (.if_icmp .ne 8, 3) := by decide +kernel
theorem dX10_nextWrong_25 : decode cX10_nextWrong 25 = .ok (.bipush 8, 2) := by decide +kernel
theorem dX10_nextWrong_27 : decode cX10_nextWrong 27 = .ok (.goto 4, 3) := by decide +kernel
theorem dX10_nextWrong_30 : decode cX10_nextWrong 30 = .ok (.iconst 0, 1) := by decide +kernel
theorem dX10_nextWrong_31 : decode cX10_nextWrong 31 = .ok (.ireturn, 1) := by decide +kernel
theorem dX10_likeWrong_0 : decode cX10_likeWrong 0 = .ok (.iload_n 1, 1) := by decide +kernel
theorem dX10_likeWrong_1 : decode cX10_likeWrong 1 = .ok (.invokestatic 94, 3) := by decide +kernel
theorem dX10_likeWrong_4 : decode cX10_likeWrong 4 = .ok (.ifCond .ne 5, 3) := by decide +kernel
theorem dX10_likeWrong_7 : decode cX10_likeWrong 7 = .ok (.iconst 1, 1) := by decide +kernel
theorem dX10_likeWrong_8 : decode cX10_likeWrong 8 = .ok (.ireturn, 1) := by decide +kernel
theorem dX10_likeWrong_9 : decode cX10_likeWrong 9 = .ok (.aload_n 0, 1) := by decide +kernel
theorem dX10_likeWrong_10 : decode cX10_likeWrong 10 = .ok (.getfield 15, 3) := by decide +kernel
theorem dX10_likeWrong_13 : decode cX10_likeWrong 13 = .ok (.iload_n 1, 1) := by decide +kernel
theorem dX10_likeWrong_14 : decode cX10_likeWrong 14 = .ok (.aaload, 1) := by decide +kernel
theorem dX10_likeWrong_15 : decode cX10_likeWrong 15 = .ok (.getfield 125, 3) := by decide +kernel
theorem dX10_likeWrong_18 : decode cX10_likeWrong 18 = .ok (.ifCond .ne 5, 3) := by decide +kernel
theorem dX10_likeWrong_21 : decode cX10_likeWrong 21 = .ok (.iconst 3, 1) := by decide +kernel
theorem dX10_likeWrong_22 : decode cX10_likeWrong 22 = .ok (.ireturn, 1) := by decide +kernel
theorem dX10_likeWrong_23 : decode cX10_likeWrong 23 = .ok (.aload_n 0, 1) := by decide +kernel
theorem dX10_likeWrong_24 : decode cX10_likeWrong 24 = .ok (.getfield 15, 3) := by decide +kernel
theorem dX10_likeWrong_27 : decode cX10_likeWrong 27 = .ok (.iload_n 1, 1) := by decide +kernel
theorem dX10_likeWrong_28 : decode cX10_likeWrong 28 = .ok (.aaload, 1) := by decide +kernel
theorem dX10_likeWrong_29 : decode cX10_likeWrong 29 = .ok (.getfield 274, 3) := by decide +kernel
theorem dX10_likeWrong_32 : decode cX10_likeWrong 32 = .ok (.aload_n 0, 1) := by decide +kernel
theorem dX10_likeWrong_33 : decode cX10_likeWrong 33 = .ok (.getfield 47, 3) := by decide +kernel
theorem dX10_likeWrong_36 : decode cX10_likeWrong 36 = .ok (.getfield 192, 3) := by decide +kernel
theorem dX10_likeWrong_39 : decode cX10_likeWrong 39 = .ok (.getfield 201, 3) := by decide +kernel
theorem dX10_likeWrong_42 : decode cX10_likeWrong 42 = .ok (.if_icmp .ge 5, 3) := by decide +kernel
theorem dX10_likeWrong_45 : decode cX10_likeWrong 45 = .ok (.iconst 4, 1) := by decide +kernel
theorem dX10_likeWrong_46 : decode cX10_likeWrong 46 = .ok (.ireturn, 1) := by decide +kernel
theorem dX10_likeWrong_47 : decode cX10_likeWrong 47 = .ok (.iload_n 2, 1) := by decide +kernel
theorem dX10_likeWrong_48 : decode cX10_likeWrong 48 = .ok (.iload_n 3, 1) := by decide +kernel
theorem dX10_likeWrong_49 : decode cX10_likeWrong 49 = .ok (.bipush 50, 2) := by decide +kernel
theorem dX10_likeWrong_51 : decode cX10_likeWrong 51 = .ok (.invokestatic 369, 3) := by decide +kernel
theorem dX10_likeWrong_54 : decode cX10_likeWrong 54 = .ok (.ifCond .eq 7, 3) := by decide +kernel
theorem dX10_likeWrong_57 : decode cX10_likeWrong 57 = .ok (.iconst 0, 1) := by decide +kernel
theorem dX10_likeWrong_58 : decode cX10_likeWrong 58 = .ok (.goto 4, 3) := by decide +kernel
theorem dX10_likeWrong_61 : decode cX10_likeWrong 61 = .ok (.iconst 5, 1) := by decide +kernel
theorem dX10_likeWrong_62 : decode cX10_likeWrong 62 = .ok (.ireturn, 1) := by decide +kernel
theorem dX10_isLike_0 : decode cX10_isLike 0 = .ok (.aload_n 0, 1) := by decide +kernel
theorem dX10_isLike_1 : decode cX10_isLike 1 = .ok (.getfield 78, 3) := by decide +kernel
theorem dX10_isLike_4 : decode cX10_isLike 4 = .ok (.aload_n 0, 1) := by decide +kernel
theorem dX10_isLike_5 : decode cX10_isLike 5 = .ok (.getfield 47, 3) := by decide +kernel
theorem dX10_isLike_8 : decode cX10_isLike 8 = .ok (.getfield 192, 3) := by decide +kernel
theorem dX10_isLike_11 : decode cX10_isLike 11 = .ok (.iload_n 2, 1) := by decide +kernel
theorem dX10_isLike_12 : decode cX10_isLike 12 = .ok (.invokevirtual 363, 3) := by decide +kernel
theorem dX10_isLike_15 : decode cX10_isLike 15 = .ok (.iconst 0, 1) := by decide +kernel
theorem dX10_isLike_16 : decode cX10_isLike 16 = .ok (.istore_n 3, 1) := by decide +kernel
theorem dX10_isLike_17 : decode cX10_isLike 17 = .ok (.iload_n 3, 1) := by decide +kernel
theorem dX10_isLike_18 : decode cX10_isLike 18 = .ok (.aload_n 0, 1) := by decide +kernel
theorem dX10_isLike_19 : decode cX10_isLike 19 = .ok (.getfield 47, 3) := by decide +kernel
theorem dX10_isLike_22 : decode cX10_isLike 22 = .ok (.getfield 192, 3) := by decide +kernel
theorem dX10_isLike_25 : decode cX10_isLike 25 = .ok (.getfield 201, 3) := by decide +kernel
theorem dX10_isLike_28 : decode cX10_isLike 28 = .ok (.if_icmp .ge 29, 3) := by decide +kernel
theorem dX10_isLike_31 : decode cX10_isLike 31 = .ok (.aload_n 1, 1) := by decide +kernel
theorem dX10_isLike_32 : decode cX10_isLike 32 = .ok (.iload_n 3, 1) := by decide +kernel
theorem dX10_isLike_33 : decode cX10_isLike 33 = .ok (.invokevirtual 121, 3) := by decide +kernel
theorem dX10_isLike_36 : decode cX10_isLike 36 = .ok (.aload_n 0, 1) := by decide +kernel
theorem dX10_isLike_37 : decode cX10_isLike 37 = .ok (.getfield 78, 3) := by decide +kernel
theorem dX10_isLike_40 : decode cX10_isLike 40 = .ok (.iload_n 3, 1) := by decide +kernel
theorem dX10_isLike_41 : decode cX10_isLike 41 = .ok (.invokevirtual 366, 3) := by decide +kernel
theorem dX10_isLike_44 : decode cX10_isLike 44 = .ok (.i2l, 1) := by decide +kernel
theorem dX10_isLike_45 : decode cX10_isLike 45 = .ok (.lcmp, 1) := by decide +kernel
theorem dX10_isLike_46 : decode cX10_isLike 46 = .ok (.ifCond .eq 5, 3) := by decide +kernel
theorem dX10_isLike_49 : decode cX10_isLike 49 = .ok (.iconst 0, 1) := by decide +kernel
theorem dX10_isLike_50 : decode cX10_isLike 50 = .ok (.ireturn, 1) := by decide +kernel
theorem dX10_isLike_51 : decode cX10_isLike 51 = .ok (.iinc 3 1, 3) := by decide +kernel
theorem dX10_isLike_54 : decode cX10_isLike 54 = .ok (.goto (-37), 3) := by decide +kernel
theorem dX10_isLike_57 : decode cX10_isLike 57 = .ok (.iconst 1, 1) := by decide +kernel
theorem dX10_isLike_58 : decode cX10_isLike 58 = .ok (.ireturn, 1) := by decide +kernel
theorem dX10_tapeInt_0 : decode cX10_tapeInt 0 = .ok (.bipush 24, 2) := by decide +kernel
theorem dX10_tapeInt_2 : decode cX10_tapeInt 2 = .ok (.istore_n 2, 1) := by decide +kernel
theorem dX10_tapeInt_3 : decode cX10_tapeInt 3 = .ok (.iload_n 2, 1) := by decide +kernel
theorem dX10_tapeInt_4 : decode cX10_tapeInt 4 = .ok (.ifCond .lt 44, 3) := by decide +kernel
theorem dX10_tapeInt_7 : decode cX10_tapeInt 7 = .ok (.aload_n 0, 1) := by decide +kernel
theorem dX10_tapeInt_8 : decode cX10_tapeInt 8 = .ok (.getfield 146, 3) := by decide +kernel
theorem dX10_tapeInt_11 : decode cX10_tapeInt 11 = .ok (.aload_n 0, 1) := by decide +kernel
theorem dX10_tapeInt_12 : decode cX10_tapeInt 12 = .ok (.getfield 19, 3) := by decide +kernel
theorem dX10_tapeInt_15 : decode cX10_tapeInt 15 = .ok (.arraylength, 1) := by decide +kernel
theorem dX10_tapeInt_16 : decode cX10_tapeInt 16 = .ok (.if_icmp .ge 32, 3) := by decide +kernel
theorem dX10_tapeInt_19 : decode cX10_tapeInt 19 = .ok (.aload_n 0, 1) := by decide +kernel
theorem dX10_tapeInt_20 : decode cX10_tapeInt 20 = .ok (.getfield 19, 3) := by decide +kernel
theorem dX10_tapeInt_23 : decode cX10_tapeInt 23 = .ok (.aload_n 0, 1) := by decide +kernel
theorem dX10_tapeInt_24 : decode cX10_tapeInt 24 = .ok (.getfield 146, 3) := by decide +kernel
theorem dX10_tapeInt_27 : decode cX10_tapeInt 27 = .ok (.iload_n 1, 1) := by decide +kernel
theorem dX10_tapeInt_28 : decode cX10_tapeInt 28 = .ok (.iload_n 2, 1) := by decide +kernel
theorem dX10_tapeInt_29 : decode cX10_tapeInt 29 = .ok (.iushr, 1) := by decide +kernel
theorem dX10_tapeInt_30 : decode cX10_tapeInt 30 = .ok (.i2b, 1) := by decide +kernel
theorem dX10_tapeInt_31 : decode cX10_tapeInt 31 = .ok (.bastore, 1) := by decide +kernel
theorem dX10_tapeInt_32 : decode cX10_tapeInt 32 = .ok (.aload_n 0, 1) := by decide +kernel
theorem dX10_tapeInt_33 : decode cX10_tapeInt 33 = .ok (.dup, 1) := by decide +kernel
theorem dX10_tapeInt_34 : decode cX10_tapeInt 34 = .ok (.getfield 146, 3) := by decide +kernel
theorem dX10_tapeInt_37 : decode cX10_tapeInt 37 = .ok (.iconst 1, 1) := by decide +kernel
theorem dX10_tapeInt_38 : decode cX10_tapeInt 38 = .ok (.iadd, 1) := by decide +kernel
theorem dX10_tapeInt_39 : decode cX10_tapeInt 39 = .ok (.putfield 146, 3) := by decide +kernel
theorem dX10_tapeInt_42 : decode cX10_tapeInt 42 = .ok (.iinc 2 (-8), 3) := by decide +kernel
theorem dX10_tapeInt_45 : decode cX10_tapeInt 45 = .ok (.goto (-42), 3) := by decide +kernel
theorem dX10_tapeInt_48 : decode cX10_tapeInt 48 = .ok (.return_, 1) := by decide +kernel
theorem dX10_suitOf_0 : decode cX10_suitOf 0 = .ok (.iload_n 0, 1) := by decide +kernel
theorem dX10_suitOf_1 : decode cX10_suitOf 1 = .ok (.bipush 6, 2) := by decide +kernel
theorem dX10_suitOf_3 : decode cX10_suitOf 3 = .ok (.idiv, 1) := by decide +kernel
theorem dX10_suitOf_4 : decode cX10_suitOf 4 = .ok (.ireturn, 1) := by decide +kernel
theorem dX10_rankOf_0 : decode cX10_rankOf 0 = .ok (.iload_n 0, 1) := by decide +kernel
theorem dX10_rankOf_1 : decode cX10_rankOf 1 = .ok (.bipush 6, 2) := by decide +kernel
theorem dX10_rankOf_3 : decode cX10_rankOf 3 = .ok (.irem, 1) := by decide +kernel
theorem dX10_rankOf_4 : decode cX10_rankOf 4 = .ok (.iconst 1, 1) := by decide +kernel
theorem dX10_rankOf_5 : decode cX10_rankOf 5 = .ok (.iadd, 1) := by decide +kernel
theorem dX10_rankOf_6 : decode cX10_rankOf 6 = .ok (.ireturn, 1) := by decide +kernel
theorem dX10_ranksUpTo_0 : decode cX10_ranksUpTo 0 = .ok (.iload_n 0, 1) := by decide +kernel
theorem dX10_ranksUpTo_1 : decode cX10_ranksUpTo 1 = .ok (.iload_n 0, 1) := by decide +kernel
theorem dX10_ranksUpTo_2 : decode cX10_ranksUpTo 2 = .ok (.iconst 1, 1) := by decide +kernel
theorem dX10_ranksUpTo_3 : decode cX10_ranksUpTo 3 = .ok (.iadd, 1) := by decide +kernel
theorem dX10_ranksUpTo_4 : decode cX10_ranksUpTo 4 = .ok (.imul, 1) := by decide +kernel
theorem dX10_ranksUpTo_5 : decode cX10_ranksUpTo 5 = .ok (.iconst 2, 1) := by decide +kernel
theorem dX10_ranksUpTo_6 : decode cX10_ranksUpTo 6 = .ok (.idiv, 1) := by decide +kernel
theorem dX10_ranksUpTo_7 : decode cX10_ranksUpTo 7 = .ok (.ireturn, 1) := by decide +kernel
theorem dX10_stir_0 : decode cX10_stir 0 = .ok (.iload_n 0, 1) := by decide +kernel
theorem dX10_stir_1 : decode cX10_stir 1 = .ok (.sipush 2971, 3) := by decide +kernel
theorem dX10_stir_4 : decode cX10_stir 4 = .ok (.imul, 1) := by decide +kernel
theorem dX10_stir_5 : decode cX10_stir 5 = .ok (.sipush 10711, 3) := by decide +kernel
theorem dX10_stir_8 : decode cX10_stir 8 = .ok (.iadd, 1) := by decide +kernel
theorem dX10_stir_9 : decode cX10_stir 9 = .ok (.ldc_w 435, 3) := by decide +kernel
theorem dX10_stir_12 : decode cX10_stir 12 = .ok (.irem, 1) := by decide +kernel
theorem dX10_stir_13 : decode cX10_stir 13 = .ok (.ireturn, 1) := by decide +kernel
theorem dX11_init_0 : decode cX11_init 0 = .ok (.aload_n 0, 1) := by decide +kernel
theorem dX11_init_1 : decode cX11_init 1 = .ok (.invokespecial 1, 3) := by decide +kernel
theorem dX11_init_4 : decode cX11_init 4 = .ok (.aload_n 0, 1) := by decide +kernel
theorem dX11_init_5 : decode cX11_init 5 = .ok (.lconst 1, 1) := by decide +kernel
theorem dX11_init_6 : decode cX11_init 6 = .ok (.putfield 7, 3) := by decide +kernel
theorem dX11_init_9 : decode cX11_init 9 = .ok (.aload_n 0, 1) := by decide +kernel
theorem dX11_init_10 : decode cX11_init 10 = .ok (.iconst 4, 1) := by decide +kernel
theorem dX11_init_11 : decode cX11_init 11 = .ok (.newarray .int, 2) := by decide +kernel
theorem dX11_init_13 : decode cX11_init 13 = .ok (.putfield 13, 3) := by decide +kernel
theorem dX11_init_16 : decode cX11_init 16 = .ok (.aload_n 0, 1) := by decide +kernel
theorem dX11_init_17 : decode cX11_init 17 = .ok (.iconst 4, 1) := by decide +kernel
theorem dX11_init_18 : decode cX11_init 18 = .ok (.newarray .int, 2) := by decide +kernel
theorem dX11_init_20 : decode cX11_init 20 = .ok (.putfield 17, 3) := by decide +kernel
theorem dX11_init_23 : decode cX11_init 23 = .ok (.aload_n 0, 1) := by decide +kernel
theorem dX11_init_24 : decode cX11_init 24 = .ok (.sipush 240, 3) := by decide +kernel
theorem dX11_init_27 : decode cX11_init 27 = .ok (.newarray .long, 2) := by decide +kernel
theorem dX11_init_29 : decode cX11_init 29 = .ok (.putfield 20, 3) := by decide +kernel
theorem dX11_init_32 : decode cX11_init 32 = .ok (.aload_n 0, 1) := by decide +kernel
theorem dX11_init_33 : decode cX11_init 33 = .ok (.sipush 900, 3) := by decide +kernel
theorem dX11_init_36 : decode cX11_init 36 = .ok (.newarray .byte, 2) := by decide +kernel
theorem dX11_init_38 : decode cX11_init 38 = .ok (.putfield 24, 3) := by decide +kernel
theorem dX11_init_41 : decode cX11_init 41 = .ok (.aload_n 0, 1) := by decide +kernel
theorem dX11_init_42 : decode cX11_init 42 = .ok (.iconst (-1), 1) := by decide +kernel
theorem dX11_init_43 : decode cX11_init 43 = .ok (.putfield 28, 3) := by decide +kernel
theorem dX11_init_46 : decode cX11_init 46 = .ok (.aload_n 0, 1) := by decide +kernel
theorem dX11_init_47 : decode cX11_init 47 = .ok (.iconst (-1), 1) := by decide +kernel
theorem dX11_init_48 : decode cX11_init 48 = .ok (.putfield 32, 3) := by decide +kernel
theorem dX11_init_51 : decode cX11_init 51 = .ok (.aload_n 0, 1) := by decide +kernel
theorem dX11_init_52 : decode cX11_init 52 = .ok (.sipush 2210, 3) := by decide +kernel
theorem dX11_init_55 : decode cX11_init 55 = .ok (.newarray .int, 2) := by decide +kernel
theorem dX11_init_57 : decode cX11_init 57 = .ok (.putfield 35, 3) := by decide +kernel
theorem dX11_init_60 : decode cX11_init 60 = .ok (.aload_n 0, 1) := by decide +kernel
theorem dX11_init_61 : decode cX11_init 61 = .ok (.sipush 1020, 3) := by decide +kernel
theorem dX11_init_64 : decode cX11_init 64 = .ok (.newarray .int, 2) := by decide +kernel
theorem dX11_init_66 : decode cX11_init 66 = .ok (.putfield 38, 3) := by decide +kernel
theorem dX11_init_69 : decode cX11_init 69 = .ok (.aload_n 0, 1) := by decide +kernel
theorem dX11_init_70 : decode cX11_init 70 = .ok (.sipush 170, 3) := by decide +kernel
theorem dX11_init_73 : decode cX11_init 73 = .ok (.newarray .int, 2) := by decide +kernel
theorem dX11_init_75 : decode cX11_init 75 = .ok (.putfield 41, 3) := by decide +kernel
theorem dX11_init_78 : decode cX11_init 78 = .ok (.aload_n 0, 1) := by decide +kernel
theorem dX11_init_79 : decode cX11_init 79 = .ok (.bipush 50, 2) := by decide +kernel
theorem dX11_init_81 : decode cX11_init 81 = .ok (.newarray .long, 2) := by decide +kernel
theorem dX11_init_83 : decode cX11_init 83 = .ok (.putfield 44, 3) := by decide +kernel
theorem dX11_init_86 : decode cX11_init 86 = .ok (.aload_n 0, 1) := by decide +kernel
theorem dX11_init_87 : decode cX11_init 87 = .ok (.iconst 4, 1) := by decide +kernel
theorem dX11_init_88 : decode cX11_init 88 = .ok (.newarray .int, 2) := by decide +kernel
theorem dX11_init_90 : decode cX11_init 90 = .ok (.putfield 47, 3) := by decide +kernel
theorem dX11_init_93 : decode cX11_init 93 = .ok (.aload_n 0, 1) := by decide +kernel
theorem dX11_init_94 : decode cX11_init 94 = .ok (.bipush 24, 2) := by decide +kernel
theorem dX11_init_96 : decode cX11_init 96 = .ok (.newarray .int, 2) := by decide +kernel
theorem dX11_init_98 : decode cX11_init 98 = .ok (.putfield 50, 3) := by decide +kernel
theorem dX11_init_101 : decode cX11_init 101 = .ok (.aload_n 0, 1) := by decide +kernel
theorem dX11_init_102 : decode cX11_init 102 = .ok (.iconst 4, 1) := by decide +kernel
theorem dX11_init_103 : decode cX11_init 103 = .ok (.newarray .int, 2) := by decide +kernel
theorem dX11_init_105 : decode cX11_init 105 = .ok (.putfield 53, 3) := by decide +kernel
theorem dX11_init_108 : decode cX11_init 108 = .ok (.aload_n 0, 1) := by decide +kernel
theorem dX11_init_109 : decode cX11_init 109 = .ok (.iconst 5, 1) := by decide +kernel
theorem dX11_init_110 : decode cX11_init 110 = .ok (.newarray .int, 2) := by decide +kernel
theorem dX11_init_112 : decode cX11_init 112 = .ok (.putfield 56, 3) := by decide +kernel
theorem dX11_init_115 : decode cX11_init 115 = .ok (.iconst 0, 1) := by decide +kernel
theorem dX11_init_116 : decode cX11_init 116 = .ok (.istore_n 1, 1) := by decide +kernel
theorem dX11_init_117 : decode cX11_init 117 = .ok (.iload_n 1, 1) := by decide +kernel
theorem dX11_init_118 : decode cX11_init 118 = .ok (.iconst 4, 1) := by decide +kernel
theorem dX11_init_119 : decode cX11_init 119 = .ok (.if_icmp .ge 16, 3) := by decide +kernel
theorem dX11_init_122 : decode cX11_init 122 = .ok (.aload_n 0, 1) := by decide +kernel
theorem dX11_init_123 : decode cX11_init 123 = .ok (.getfield 17, 3) := by decide +kernel
theorem dX11_init_126 : decode cX11_init 126 = .ok (.iload_n 1, 1) := by decide +kernel
theorem dX11_init_127 : decode cX11_init 127 = .ok (.iconst (-1), 1) := by decide +kernel
theorem dX11_init_128 : decode cX11_init 128 = .ok (.iastore, 1) := by decide +kernel
theorem dX11_init_129 : decode cX11_init 129 = .ok (.iinc 1 1, 3) := by decide +kernel
theorem dX11_init_132 : decode cX11_init 132 = .ok (.goto (-15), 3) := by decide +kernel
theorem dX11_init_135 : decode cX11_init 135 = .ok (.aload_n 0, 1) := by decide +kernel
theorem dX11_init_136 : decode cX11_init 136 = .ok (.getfield 35, 3) := by decide +kernel
theorem dX11_init_139 : decode cX11_init 139 = .ok (.iconst 0, 1) := by decide +kernel
theorem dX11_init_140 : decode cX11_init 140 = .ok (.iconst 4, 1) := by decide +kernel
theorem dX11_init_141 : decode cX11_init 141 = .ok (.iastore, 1) := by decide +kernel
theorem dX11_init_142 : decode cX11_init 142 = .ok (.return_, 1) := by decide +kernel
theorem dX11_status_0 : decode cX11_status 0 = .ok (.aload_n 0, 1) := by decide +kernel
theorem dX11_status_1 : decode cX11_status 1 = .ok (.iconst 0, 1) := by decide +kernel
theorem dX11_status_2 : decode cX11_status 2 = .ok (.putfield 59, 3) := by decide +kernel
theorem dX11_status_5 : decode cX11_status 5 = .ok (.aload_n 0, 1) := by decide +kernel
theorem dX11_status_6 : decode cX11_status 6 = .ok (.getfield 62, 3) := by decide +kernel
theorem dX11_status_9 : decode cX11_status 9 = .ok (.ireturn, 1) := by decide +kernel
theorem dX11_top_0 : decode cX11_top 0 = .ok (.aload_n 0, 1) := by decide +kernel
theorem dX11_top_1 : decode cX11_top 1 = .ok (.iconst 0, 1) := by decide +kernel
theorem dX11_top_2 : decode cX11_top 2 = .ok (.putfield 59, 3) := by decide +kernel
theorem dX11_top_5 : decode cX11_top 5 = .ok (.aload_n 0, 1) := by decide +kernel
theorem dX11_top_6 : decode cX11_top 6 = .ok (.getfield 65, 3) := by decide +kernel
theorem dX11_top_9 : decode cX11_top 9 = .ok (.lreturn, 1) := by decide +kernel
theorem dX11_bottom_0 : decode cX11_bottom 0 = .ok (.aload_n 0, 1) := by decide +kernel
theorem dX11_bottom_1 : decode cX11_bottom 1 = .ok (.iconst 0, 1) := by decide +kernel
theorem dX11_bottom_2 : decode cX11_bottom 2 = .ok (.putfield 59, 3) := by decide +kernel
theorem dX11_bottom_5 : decode cX11_bottom 5 = .ok (.aload_n 0, 1) := by decide +kernel
theorem dX11_bottom_6 : decode cX11_bottom 6 = .ok (.getfield 7, 3) := by decide +kernel
theorem dX11_bottom_9 : decode cX11_bottom 9 = .ok (.lreturn, 1) := by decide +kernel
theorem dX11_refuse_0 : decode cX11_refuse 0 = .ok (.aload_n 0, 1) := by decide +kernel
theorem dX11_refuse_1 : decode cX11_refuse 1 = .ok (.iload_n 1, 1) := by decide +kernel
theorem dX11_refuse_2 : decode cX11_refuse 2 = .ok (.putfield 62, 3) := by decide +kernel
theorem dX11_refuse_5 : decode cX11_refuse 5 = .ok (.iconst (-1), 1) := by decide +kernel
theorem dX11_refuse_6 : decode cX11_refuse 6 = .ok (.ireturn, 1) := by decide +kernel
theorem dX11_no_0 : decode cX11_no 0 = .ok (.aload_n 0, 1) := by decide +kernel
theorem dX11_no_1 : decode cX11_no 1 = .ok (.iload_n 1, 1) := by decide +kernel
theorem dX11_no_2 : decode cX11_no 2 = .ok (.putfield 62, 3) := by decide +kernel
theorem dX11_no_5 : decode cX11_no 5 = .ok (.iconst 0, 1) := by decide +kernel
theorem dX11_no_6 : decode cX11_no 6 = .ok (.ireturn, 1) := by decide +kernel
theorem dX11_isIn_0 : decode cX11_isIn 0 = .ok (.lload_n 0, 1) := by decide +kernel
theorem dX11_isIn_1 : decode cX11_isIn 1 = .ok (.lload_n 2, 1) := by decide +kernel
theorem dX11_isIn_2 : decode cX11_isIn 2 = .ok (.lcmp, 1) := by decide +kernel
theorem dX11_isIn_3 : decode cX11_isIn 3 = .ok (.ifCond .lt 14, 3) := by decide +kernel
theorem dX11_isIn_6 : decode cX11_isIn 6 = .ok (.lload_n 0, 1) := by decide +kernel
theorem dX11_isIn_7 : decode cX11_isIn 7 = .ok (.lload 4, 2) := by decide +kernel
theorem dX11_isIn_9 : decode cX11_isIn 9 = .ok (.lcmp, 1) := by decide +kernel
theorem dX11_isIn_10 : decode cX11_isIn 10 = .ok (.ifCond .gt 7, 3) := by decide +kernel
theorem dX11_isIn_13 : decode cX11_isIn 13 = .ok (.iconst 1, 1) := by decide +kernel
theorem dX11_isIn_14 : decode cX11_isIn 14 = .ok (.goto 4, 3) := by decide +kernel
theorem dX11_isIn_17 : decode cX11_isIn 17 = .ok (.iconst 0, 1) := by decide +kernel
theorem dX11_isIn_18 : decode cX11_isIn 18 = .ok (.ireturn, 1) := by decide +kernel
theorem dX11_fraction_0 : decode cX11_fraction 0 = .ok (.lload_n 1, 1) := by decide +kernel
theorem dX11_fraction_1 : decode cX11_fraction 1 = .ok (.invokestatic 68, 3) := by decide +kernel
theorem dX11_fraction_4 : decode cX11_fraction 4 = .ok (.lstore 5, 2) := by decide +kernel
theorem dX11_fraction_6 : decode cX11_fraction 6 = .ok (.lload_n 3, 1) := by decide +kernel
theorem dX11_fraction_7 : decode cX11_fraction 7 = .ok (.lstore 7, 2) := by decide +kernel
theorem dX11_fraction_9 : decode cX11_fraction 9 = .ok (.lload 7, 2) := by decide +kernel
theorem dX11_fraction_11 : decode cX11_fraction 11 = .ok (.lconst 0, 1) := by decide +kernel
theorem dX11_fraction_12 : decode cX11_fraction 12 = .ok (.lcmp, 1) := by decide +kernel
theorem dX11_fraction_13 : decode cX11_fraction 13 = .ok (.ifCond .eq 21, 3) := by decide +kernel
theorem dX11_fraction_16 : decode cX11_fraction 16 = .ok (.lload 5, 2) := by decide +kernel
theorem dX11_fraction_18 : decode cX11_fraction 18 = .ok (.lload 7, 2) := by decide +kernel
theorem dX11_fraction_20 : decode cX11_fraction 20 = .ok (.lrem, 1) := by decide +kernel
theorem dX11_fraction_21 : decode cX11_fraction 21 = .ok (.lstore 9, 2) := by decide +kernel
theorem dX11_fraction_23 : decode cX11_fraction 23 = .ok (.lload 7, 2) := by decide +kernel
theorem dX11_fraction_25 : decode cX11_fraction 25 = .ok (.lstore 5, 2) := by decide +kernel
theorem dX11_fraction_27 : decode cX11_fraction 27 = .ok (.lload 9, 2) := by decide +kernel
theorem dX11_fraction_29 : decode cX11_fraction 29 = .ok (.lstore 7, 2) := by decide +kernel
theorem dX11_fraction_31 : decode cX11_fraction 31 = .ok (.goto (-22), 3) := by decide +kernel
theorem dX11_fraction_34 : decode cX11_fraction 34 = .ok (.aload_n 0, 1) := by decide +kernel
theorem dX11_fraction_35 : decode cX11_fraction 35 = .ok (.lload_n 1, 1) := by decide +kernel
theorem dX11_fraction_36 : decode cX11_fraction 36 = .ok (.lload 5, 2) := by decide +kernel
theorem dX11_fraction_38 : decode cX11_fraction 38 = .ok (.ldiv, 1) := by decide +kernel
theorem dX11_fraction_39 : decode cX11_fraction 39 = .ok (.putfield 65, 3) := by decide +kernel
theorem dX11_fraction_42 : decode cX11_fraction 42 = .ok (.aload_n 0, 1) := by decide +kernel
theorem dX11_fraction_43 : decode cX11_fraction 43 = .ok (.lload_n 3, 1) := by decide +kernel
theorem dX11_fraction_44 : decode cX11_fraction 44 = .ok (.lload 5, 2) := by decide +kernel
theorem dX11_fraction_46 : decode cX11_fraction 46 = .ok (.ldiv, 1) := by decide +kernel
theorem dX11_fraction_47 : decode cX11_fraction 47 = .ok (.putfield 7, 3) := by decide +kernel
theorem dX11_fraction_50 : decode cX11_fraction 50 = .ok (.iconst 1, 1) := by decide +kernel
theorem dX11_fraction_51 : decode cX11_fraction 51 = .ok (.ireturn, 1) := by decide +kernel
theorem dX11_cut_0 : decode cX11_cut 0 = .ok (.iload_n 0, 1) := by decide +kernel
theorem dX11_cut_1 : decode cX11_cut 1 = .ok (.ifCond .ne 10, 3) := by decide +kernel
theorem dX11_cut_4 : decode cX11_cut 4 = .ok (.lload_n 1, 1) := by decide +kernel
theorem dX11_cut_5 : decode cX11_cut 5 = .ok (.l2i, 1) := by decide +kernel
theorem dX11_cut_6 : decode cX11_cut 6 = .ok (.i2b, 1) := by decide +kernel
theorem dX11_cut_7 : decode cX11_cut 7 = .ok (.i2l, 1) := by decide +kernel
theorem dX11_cut_8 : decode cX11_cut 8 = .ok (.goto 27, 3) := by decide +kernel
theorem dX11_cut_11 : decode cX11_cut 11 = .ok (.iload_n 0, 1) := by decide +kernel
theorem dX11_cut_12 : decode cX11_cut 12 = .ok (.iconst 1, 1) := by decide +kernel
theorem dX11_cut_13 : decode cX11_cut 13 = .ok (.if_icmp .ne 10, 3) := by decide +kernel
theorem dX11_cut_16 : decode cX11_cut 16 = .ok (.lload_n 1, 1) := by decide +kernel
theorem dX11_cut_17 : decode cX11_cut 17 = .ok (.l2i, 1) := by decide +kernel
theorem dX11_cut_18 : decode cX11_cut 18 = .ok (.i2s, 1) := by decide +kernel
theorem dX11_cut_19 : decode cX11_cut 19 = .ok (.i2l, 1) := by decide +kernel
theorem dX11_cut_20 : decode cX11_cut 20 = .ok (.goto 15, 3) := by decide +kernel
theorem dX11_cut_23 : decode cX11_cut 23 = .ok (.iload_n 0, 1) := by decide +kernel
theorem dX11_cut_24 : decode cX11_cut 24 = .ok (.iconst 2, 1) := by decide +kernel
theorem dX11_cut_25 : decode cX11_cut 25 = .ok (.if_icmp .ne 9, 3) := by decide +kernel
theorem dX11_cut_28 : decode cX11_cut 28 = .ok (.lload_n 1, 1) := by decide +kernel
theorem dX11_cut_29 : decode cX11_cut 29 = .ok (.l2i, 1) := by decide +kernel
theorem dX11_cut_30 : decode cX11_cut 30 = .ok (.i2l, 1) := by decide +kernel
theorem dX11_cut_31 : decode cX11_cut 31 = .ok (.goto 4, 3) := by decide +kernel
theorem dX11_cut_34 : decode cX11_cut 34 = .ok (.lload_n 1, 1) := by decide +kernel
theorem dX11_cut_35 : decode cX11_cut 35 = .ok (.lreturn, 1) := by decide +kernel
theorem dX11_tray_0 : decode cX11_tray 0 = .ok (.aload_n 0, 1) := by decide +kernel
theorem dX11_tray_1 : decode cX11_tray 1 = .ok (.iconst 0, 1) := by decide +kernel
theorem dX11_tray_2 : decode cX11_tray 2 = .ok (.putfield 59, 3) := by decide +kernel
theorem dX11_tray_5 : decode cX11_tray 5 = .ok (.aload_n 0, 1) := by decide +kernel
theorem dX11_tray_6 : decode cX11_tray 6 = .ok (.iconst 0, 1) := by decide +kernel
theorem dX11_tray_7 : decode cX11_tray 7 = .ok (.putfield 62, 3) := by decide +kernel
theorem dX11_tray_10 : decode cX11_tray 10 = .ok (.iload_n 1, 1) := by decide +kernel
theorem dX11_tray_11 : decode cX11_tray 11 = .ok (.ifCond .lt 17, 3) := by decide +kernel
theorem dX11_tray_14 : decode cX11_tray 14 = .ok (.iload_n 1, 1) := by decide +kernel
theorem dX11_tray_15 : decode cX11_tray 15 = .ok (.iconst 4, 1) := by decide +kernel
theorem dX11_tray_16 : decode cX11_tray 16 = .ok (.if_icmp .ge 12, 3) := by decide +kernel
theorem dX11_tray_19 : decode cX11_tray 19 = .ok (.iload_n 2, 1) := by decide +kernel
theorem dX11_tray_20 : decode cX11_tray 20 = .ok (.ifCond .lt 8, 3) := by decide +kernel
theorem dX11_tray_23 : decode cX11_tray 23 = .ok (.iload_n 2, 1) := by decide +kernel
theorem dX11_tray_24 : decode cX11_tray 24 = .ok (.iconst 3, 1) := by decide +kernel
theorem dX11_tray_25 : decode cX11_tray 25 = .ok (.if_icmp .le 9, 3) := by decide +kernel
theorem dX11_tray_28 : decode cX11_tray 28 = .ok (.aload_n 0, 1) := by decide +kernel
theorem dX11_tray_29 : decode cX11_tray 29 = .ok (.iconst 1, 1) := by decide +kernel
theorem dX11_tray_30 : decode cX11_tray 30 = .ok (.invokevirtual 74, 3) := by decide +kernel
theorem dX11_tray_33 : decode cX11_tray 33 = .ok (.ireturn, 1) := by decide +kernel
theorem dX11_tray_34 : decode cX11_tray 34 = .ok (.iload_n 3, 1) := by decide +kernel
theorem dX11_tray_35 : decode cX11_tray 35 = .ok (.bipush 60, 2) := by decide +kernel
theorem dX11_tray_37 : decode cX11_tray 37 = .ok (.if_icmp .le 9, 3) := by decide +kernel
theorem dX11_tray_40 : decode cX11_tray 40 = .ok (.aload_n 0, 1) := by decide +kernel
theorem dX11_tray_41 : decode cX11_tray 41 = .ok (.iconst 5, 1) := by decide +kernel
theorem dX11_tray_42 : decode cX11_tray 42 = .ok (.invokevirtual 74, 3) := by decide +kernel
theorem dX11_tray_45 : decode cX11_tray 45 = .ok (.ireturn, 1) := by decide +kernel
theorem dX11_tray_46 : decode cX11_tray 46 = .ok (.iload_n 3, 1) := by decide +kernel
theorem dX11_tray_47 : decode cX11_tray 47 = .ok (.ifCond .ge 10, 3) := by decide +kernel
theorem dX11_tray_50 : decode cX11_tray 50 = .ok (.aload_n 0, 1) := by decide +kernel
theorem dX11_tray_51 : decode cX11_tray 51 = .ok (.bipush 6, 2) := by decide +kernel
theorem dX11_tray_53 : decode cX11_tray 53 = .ok (.invokevirtual 74, 3) := by decide +kernel
theorem dX11_tray_56 : decode cX11_tray 56 = .ok (.ireturn, 1) := by decide +kernel
theorem dX11_tray_57 : decode cX11_tray 57 = .ok (.aload_n 0, 1) := by decide +kernel
theorem dX11_tray_58 : decode cX11_tray 58 = .ok (.getfield 13, 3) := by decide +kernel
theorem dX11_tray_61 : decode cX11_tray 61 = .ok (.iload_n 1, 1) := by decide +kernel
theorem dX11_tray_62 : decode cX11_tray 62 = .ok (.iload_n 2, 1) := by decide +kernel
theorem dX11_tray_63 : decode cX11_tray 63 = .ok (.iastore, 1) := by decide +kernel
theorem dX11_tray_64 : decode cX11_tray 64 = .ok (.aload_n 0, 1) := by decide +kernel
theorem dX11_tray_65 : decode cX11_tray 65 = .ok (.getfield 17, 3) := by decide +kernel
theorem dX11_tray_68 : decode cX11_tray 68 = .ok (.iload_n 1, 1) := by decide +kernel
theorem dX11_tray_69 : decode cX11_tray 69 = .ok (.iload_n 3, 1) := by decide +kernel
theorem dX11_tray_70 : decode cX11_tray 70 = .ok (.iastore, 1) := by decide +kernel
theorem dX11_tray_71 : decode cX11_tray 71 = .ok (.iconst 0, 1) := by decide +kernel
theorem dX11_tray_72 : decode cX11_tray 72 = .ok (.istore 4, 2) := by decide +kernel
theorem dX11_tray_74 : decode cX11_tray 74 = .ok (.iload 4, 2) := by decide +kernel
theorem dX11_tray_76 : decode cX11_tray 76 = .ok (.iload_n 3, 1) := by decide +kernel
theorem dX11_tray_77 : decode cX11_tray 77 = .ok (.if_icmp .ge 22, 3) := by decide +kernel
theorem dX11_tray_80 : decode cX11_tray 80 = .ok (.aload_n 0, 1) := by decide +kernel
theorem dX11_tray_81 : decode cX11_tray 81 = .ok (.getfield 20, 3) := by decide +kernel
theorem dX11_tray_84 : decode cX11_tray 84 = .ok (.bipush 60, 2) := by decide +kernel
theorem dX11_tray_86 : decode cX11_tray 86 = .ok (.iload_n 1, 1) := by decide +kernel
theorem dX11_tray_87 : decode cX11_tray 87 = .ok (.imul, 1) := by decide +kernel
theorem dX11_tray_88 : decode cX11_tray 88 = .ok (.iload 4, 2) := by decide +kernel
theorem dX11_tray_90 : decode cX11_tray 90 = .ok (.iadd, 1) := by decide +kernel
theorem dX11_tray_91 : decode cX11_tray 91 = .ok (.lconst 0, 1) := by decide +kernel
theorem dX11_tray_92 : decode cX11_tray 92 = .ok (.lastore, 1) := by decide +kernel
theorem dX11_tray_93 : decode cX11_tray 93 = .ok (.iinc 4 1, 3) := by decide +kernel
theorem dX11_tray_96 : decode cX11_tray 96 = .ok (.goto (-22), 3) := by decide +kernel
theorem dX11_tray_99 : decode cX11_tray 99 = .ok (.iconst 1, 1) := by decide +kernel
theorem dX11_tray_100 : decode cX11_tray 100 = .ok (.ireturn, 1) := by decide +kernel
theorem dX11_trayed_0 : decode cX11_trayed 0 = .ok (.iload_n 1, 1) := by decide +kernel
theorem dX11_trayed_1 : decode cX11_trayed 1 = .ok (.ifCond .lt 8, 3) := by decide +kernel
theorem dX11_trayed_4 : decode cX11_trayed 4 = .ok (.iload_n 1, 1) := by decide +kernel
theorem dX11_trayed_5 : decode cX11_trayed 5 = .ok (.iconst 4, 1) := by decide +kernel
theorem dX11_trayed_6 : decode cX11_trayed 6 = .ok (.if_icmp .lt 7, 3) := by decide +kernel
theorem dX11_trayed_9 : decode cX11_trayed 9 = .ok (.iconst 1, 1) := by decide +kernel
theorem dX11_trayed_10 : decode cX11_trayed 10 = .ok (.goto 17, 3) := by decide +kernel
theorem dX11_trayed_13 : decode cX11_trayed 13 = .ok (.aload_n 0, 1) := by decide +kernel
theorem dX11_trayed_14 : decode cX11_trayed 14 = .ok (.getfield 17, 3) := by decide +kernel
theorem dX11_trayed_17 : decode cX11_trayed 17 = .ok (.iload_n 1, 1) := by decide +kernel
theorem dX11_trayed_18 : decode cX11_trayed 18 = .ok (.iaload, 1) := by decide +kernel
theorem dX11_trayed_19 : decode cX11_trayed 19 = .ok (.ifCond .ge 7, 3) := by decide +kernel
theorem dX11_trayed_22 : decode cX11_trayed 22 = .ok (.iconst 3, 1) := by decide +kernel
theorem dX11_trayed_23 : decode cX11_trayed 23 = .ok (.goto 4, 3) := by decide +kernel
theorem dX11_trayed_26 : decode cX11_trayed 26 = .ok (.iconst 0, 1) := by decide +kernel
theorem dX11_trayed_27 : decode cX11_trayed 27 = .ok (.ireturn, 1) := by decide +kernel
theorem dX11_placed_0 : decode cX11_placed 0 = .ok (.aload_n 0, 1) := by decide +kernel
theorem dX11_placed_1 : decode cX11_placed 1 = .ok (.iload_n 1, 1) := by decide +kernel
theorem dX11_placed_2 : decode cX11_placed 2 = .ok (.invokevirtual 78, 3) := by decide +kernel
theorem dX11_placed_5 : decode cX11_placed 5 = .ok (.istore_n 3, 1) := by decide +kernel
theorem dX11_placed_6 : decode cX11_placed 6 = .ok (.iload_n 3, 1) := by decide +kernel
theorem dX11_placed_7 : decode cX11_placed 7 = .ok (.ifCond .le 7, 3) := by decide +kernel
theorem dX11_placed_10 : decode cX11_placed 10 = .ok (.iload_n 3, 1) := by decide +kernel
theorem dX11_placed_11 : decode cX11_placed 11 = .ok (.goto 22, 3) := by decide +kernel
theorem dX11_placed_14 : decode cX11_placed 14 = .ok (.iload_n 2, 1) := by decide +kernel
theorem dX11_placed_15 : decode cX11_placed 15 = .ok (.ifCond .lt 13, 3) := by decide +kernel
theorem dX11_placed_18 : decode cX11_placed 18 = .ok (.iload_n 2, 1) := by decide +kernel
theorem dX11_placed_19 : decode cX11_placed 19 = .ok (.aload_n 0, 1) := by decide +kernel
theorem dX11_placed_20 : decode cX11_placed 20 = .ok (.getfield 17, 3) := by decide +kernel
theorem dX11_placed_23 : decode cX11_placed 23 = .ok (.iload_n 1, 1) := by decide +kernel
theorem dX11_placed_24 : decode cX11_placed 24 = .ok (.iaload, 1) := by decide +kernel
theorem dX11_placed_25 : decode cX11_placed 25 = .ok (.if_icmp .lt 7, 3) := by decide +kernel
theorem dX11_placed_28 : decode cX11_placed 28 = .ok (.iconst 4, 1) := by decide +kernel
theorem dX11_placed_29 : decode cX11_placed 29 = .ok (.goto 4, 3) := by decide +kernel
theorem dX11_placed_32 : decode cX11_placed 32 = .ok (.iconst 0, 1) := by decide +kernel
theorem dX11_placed_33 : decode cX11_placed 33 = .ok (.ireturn, 1) := by decide +kernel
theorem dX11_write_0 : decode cX11_write 0 = .ok (.aload_n 0, 1) := by decide +kernel
theorem dX11_write_1 : decode cX11_write 1 = .ok (.iconst 0, 1) := by decide +kernel
theorem dX11_write_2 : decode cX11_write 2 = .ok (.putfield 59, 3) := by decide +kernel
theorem dX11_write_5 : decode cX11_write 5 = .ok (.aload_n 0, 1) := by decide +kernel
theorem dX11_write_6 : decode cX11_write 6 = .ok (.aload_n 0, 1) := by decide +kernel
theorem dX11_write_7 : decode cX11_write 7 = .ok (.iload_n 1, 1) := by decide +kernel
theorem dX11_write_8 : decode cX11_write 8 = .ok (.iload_n 2, 1) := by decide +kernel
theorem dX11_write_9 : decode cX11_write 9 = .ok (.invokevirtual 82, 3) := by decide +kernel
theorem dX11_write_12 : decode cX11_write 12 = .ok (.putfield 62, 3) := by decide +kernel
theorem dX11_write_15 : decode cX11_write 15 = .ok (.aload_n 0, 1) := by decide +kernel
theorem dX11_write_16 : decode cX11_write 16 = .ok (.getfield 62, 3) := by decide +kernel
theorem dX11_write_19 : decode cX11_write 19 = .ok (.ifCond .le 5, 3) := by decide +kernel
theorem dX11_write_22 : decode cX11_write 22 = .ok (.iconst 0, 1) := by decide +kernel
theorem dX11_write_23 : decode cX11_write 23 = .ok (.ireturn, 1) := by decide +kernel
theorem dX11_write_24 : decode cX11_write 24 = .ok (.aload_n 0, 1) := by decide +kernel
theorem dX11_write_25 : decode cX11_write 25 = .ok (.getfield 20, 3) := by decide +kernel
theorem dX11_write_28 : decode cX11_write 28 = .ok (.bipush 60, 2) := by decide +kernel
theorem dX11_write_30 : decode cX11_write 30 = .ok (.iload_n 1, 1) := by decide +kernel
theorem dX11_write_31 : decode cX11_write 31 = .ok (.imul, 1) := by decide +kernel
theorem dX11_write_32 : decode cX11_write 32 = .ok (.iload_n 2, 1) := by decide +kernel
theorem dX11_write_33 : decode cX11_write 33 = .ok (.iadd, 1) := by decide +kernel
theorem dX11_write_34 : decode cX11_write 34 = .ok (.aload_n 0, 1) := by decide +kernel
theorem dX11_write_35 : decode cX11_write 35 = .ok (.getfield 13, 3) := by decide +kernel
theorem dX11_write_38 : decode cX11_write 38 = .ok (.iload_n 1, 1) := by decide +kernel
theorem dX11_write_39 : decode cX11_write 39 = .ok (.iaload, 1) := by decide +kernel
theorem dX11_write_40 : decode cX11_write 40 = .ok (.lload_n 3, 1) := by decide +kernel
theorem dX11_write_41 : decode cX11_write 41 = .ok (.invokestatic 86, 3) := by decide +kernel
theorem dX11_write_44 : decode cX11_write 44 = .ok (.lastore, 1) := by decide +kernel
theorem dX11_write_45 : decode cX11_write 45 = .ok (.iconst 1, 1) := by decide +kernel
theorem dX11_write_46 : decode cX11_write 46 = .ok (.ireturn, 1) := by decide +kernel
theorem dX11_read_0 : decode cX11_read 0 = .ok (.aload_n 0, 1) := by decide +kernel
theorem dX11_read_1 : decode cX11_read 1 = .ok (.iconst 0, 1) := by decide +kernel
theorem dX11_read_2 : decode cX11_read 2 = .ok (.putfield 59, 3) := by decide +kernel
theorem dX11_read_5 : decode cX11_read 5 = .ok (.aload_n 0, 1) := by decide +kernel
theorem dX11_read_6 : decode cX11_read 6 = .ok (.aload_n 0, 1) := by decide +kernel
theorem dX11_read_7 : decode cX11_read 7 = .ok (.iload_n 1, 1) := by decide +kernel
theorem dX11_read_8 : decode cX11_read 8 = .ok (.iload_n 2, 1) := by decide +kernel
theorem dX11_read_9 : decode cX11_read 9 = .ok (.invokevirtual 82, 3) := by decide +kernel
theorem dX11_read_12 : decode cX11_read 12 = .ok (.putfield 62, 3) := by decide +kernel
theorem dX11_read_15 : decode cX11_read 15 = .ok (.aload_n 0, 1) := by decide +kernel
theorem dX11_read_16 : decode cX11_read 16 = .ok (.getfield 62, 3) := by decide +kernel
theorem dX11_read_19 : decode cX11_read 19 = .ok (.ifCond .le 9, 3) := by decide +kernel
theorem dX11_read_22 : decode cX11_read 22 = .ok (.ldc2_w 90, 3) := by decide +kernel
theorem dX11_read_25 : decode cX11_read 25 = .ok (.goto 14, 3) := by decide +kernel
theorem dX11_read_28 : decode cX11_read 28 = .ok (.aload_n 0, 1) := by decide +kernel
theorem dX11_read_29 : decode cX11_read 29 = .ok (.getfield 20, 3) := by decide +kernel
theorem dX11_read_32 : decode cX11_read 32 = .ok (.bipush 60, 2) := by decide +kernel
theorem dX11_read_34 : decode cX11_read 34 = .ok (.iload_n 1, 1) := by decide +kernel
theorem dX11_read_35 : decode cX11_read 35 = .ok (.imul, 1) := by decide +kernel
theorem dX11_read_36 : decode cX11_read 36 = .ok (.iload_n 2, 1) := by decide +kernel
theorem dX11_read_37 : decode cX11_read 37 = .ok (.iadd, 1) := by decide +kernel
theorem dX11_read_38 : decode cX11_read 38 = .ok (.laload, 1) := by decide +kernel
theorem dX11_read_39 : decode cX11_read 39 = .ok (.lreturn, 1) := by decide +kernel
theorem dX11_pour_0 : decode cX11_pour 0 = .ok (.aload_n 0, 1) := by decide +kernel
theorem dX11_pour_1 : decode cX11_pour 1 = .ok (.iconst 0, 1) := by decide +kernel
theorem dX11_pour_2 : decode cX11_pour 2 = .ok (.putfield 59, 3) := by decide +kernel
theorem dX11_pour_5 : decode cX11_pour 5 = .ok (.aload_n 0, 1) := by decide +kernel
theorem dX11_pour_6 : decode cX11_pour 6 = .ok (.iconst 0, 1) := by decide +kernel
theorem dX11_pour_7 : decode cX11_pour 7 = .ok (.putfield 62, 3) := by decide +kernel
theorem dX11_pour_10 : decode cX11_pour 10 = .ok (.iload_n 1, 1) := by decide +kernel
theorem dX11_pour_11 : decode cX11_pour 11 = .ok (.ifCond .lt 17, 3) := by decide +kernel
theorem dX11_pour_14 : decode cX11_pour 14 = .ok (.iload_n 1, 1) := by decide +kernel
theorem dX11_pour_15 : decode cX11_pour 15 = .ok (.iconst 4, 1) := by decide +kernel
theorem dX11_pour_16 : decode cX11_pour 16 = .ok (.if_icmp .ge 12, 3) := by decide +kernel
theorem dX11_pour_19 : decode cX11_pour 19 = .ok (.iload_n 3, 1) := by decide +kernel
theorem dX11_pour_20 : decode cX11_pour 20 = .ok (.ifCond .lt 8, 3) := by decide +kernel
theorem dX11_pour_23 : decode cX11_pour 23 = .ok (.iload_n 3, 1) := by decide +kernel
theorem dX11_pour_24 : decode cX11_pour 24 = .ok (.iconst 4, 1) := by decide +kernel
theorem dX11_pour_25 : decode cX11_pour 25 = .ok (.if_icmp .lt 9, 3) := by decide +kernel
theorem dX11_pour_28 : decode cX11_pour 28 = .ok (.aload_n 0, 1) := by decide +kernel
theorem dX11_pour_29 : decode cX11_pour 29 = .ok (.iconst 1, 1) := by decide +kernel
theorem dX11_pour_30 : decode cX11_pour 30 = .ok (.invokevirtual 74, 3) := by decide +kernel
theorem dX11_pour_33 : decode cX11_pour 33 = .ok (.ireturn, 1) := by decide +kernel
theorem dX11_pour_34 : decode cX11_pour 34 = .ok (.aload_n 0, 1) := by decide +kernel
theorem dX11_pour_35 : decode cX11_pour 35 = .ok (.getfield 17, 3) := by decide +kernel
theorem dX11_pour_38 : decode cX11_pour 38 = .ok (.iload_n 1, 1) := by decide +kernel
theorem dX11_pour_39 : decode cX11_pour 39 = .ok (.iaload, 1) := by decide +kernel
theorem dX11_pour_40 : decode cX11_pour 40 = .ok (.ifCond .lt 12, 3) := by decide +kernel
theorem dX11_pour_43 : decode cX11_pour 43 = .ok (.aload_n 0, 1) := by decide +kernel
theorem dX11_pour_44 : decode cX11_pour 44 = .ok (.getfield 17, 3) := by decide +kernel
theorem dX11_pour_47 : decode cX11_pour 47 = .ok (.iload_n 3, 1) := by decide +kernel
theorem dX11_pour_48 : decode cX11_pour 48 = .ok (.iaload, 1) := by decide +kernel
theorem dX11_pour_49 : decode cX11_pour 49 = .ok (.ifCond .ge 9, 3) := by decide +kernel
theorem dX11_pour_52 : decode cX11_pour 52 = .ok (.aload_n 0, 1) := by decide +kernel
theorem dX11_pour_53 : decode cX11_pour 53 = .ok (.iconst 3, 1) := by decide +kernel
theorem dX11_pour_54 : decode cX11_pour 54 = .ok (.invokevirtual 74, 3) := by decide +kernel
theorem dX11_pour_57 : decode cX11_pour 57 = .ok (.ireturn, 1) := by decide +kernel
theorem dX11_pour_58 : decode cX11_pour 58 = .ok (.aload_n 0, 1) := by decide +kernel
theorem dX11_pour_59 : decode cX11_pour 59 = .ok (.getfield 13, 3) := by decide +kernel
theorem dX11_pour_62 : decode cX11_pour 62 = .ok (.iload_n 1, 1) := by decide +kernel
theorem dX11_pour_63 : decode cX11_pour 63 = .ok (.iaload, 1) := by decide +kernel
theorem dX11_pour_64 : decode cX11_pour 64 = .ok (.aload_n 0, 1) := by decide +kernel
theorem dX11_pour_65 : decode cX11_pour 65 = .ok (.getfield 13, 3) := by decide +kernel
theorem dX11_pour_68 : decode cX11_pour 68 = .ok (.iload_n 3, 1) := by decide +kernel
theorem dX11_pour_69 : decode cX11_pour 69 = .ok (.iaload, 1) := by decide +kernel
theorem dX11_pour_70 : decode cX11_pour 70 = .ok (.if_icmp .eq 10, 3) := by decide +kernel
theorem dX11_pour_73 : decode cX11_pour 73 = .ok (.aload_n 0, 1) := by decide +kernel
theorem dX11_pour_74 : decode cX11_pour 74 = .ok (.bipush 11, 2) := by decide +kernel
theorem dX11_pour_76 : decode cX11_pour 76 = .ok (.invokevirtual 74, 3) := by decide +kernel
theorem dX11_pour_79 : decode cX11_pour 79 = .ok (.ireturn, 1) := by decide +kernel
theorem dX11_pour_80 : decode cX11_pour 80 = .ok (.iload 5, 2) := by decide +kernel
theorem dX11_pour_82 : decode cX11_pour 82 = .ok (.ifCond .ge 10, 3) := by decide +kernel
theorem dX11_pour_85 : decode cX11_pour 85 = .ok (.aload_n 0, 1) := by decide +kernel
theorem dX11_pour_86 : decode cX11_pour 86 = .ok (.bipush 6, 2) := by decide +kernel
theorem dX11_pour_88 : decode cX11_pour 88 = .ok (.invokevirtual 74, 3) := by decide +kernel
theorem dX11_pour_91 : decode cX11_pour 91 = .ok (.ireturn, 1) := by decide +kernel
theorem dX11_pour_92 : decode cX11_pour 92 = .ok (.iload_n 2, 1) := by decide +kernel
theorem dX11_pour_93 : decode cX11_pour 93 = .ok (.ifCond .lt 43, 3) := by decide +kernel
theorem dX11_pour_96 : decode cX11_pour 96 = .ok (.iload 4, 2) := by decide +kernel
theorem dX11_pour_98 : decode cX11_pour 98 = .ok (.ifCond .lt 38, 3) := by decide +kernel
theorem dX11_pour_101 : decode cX11_pour 101 = .ok (.iload_n 2, 1) := by decide +kernel
theorem dX11_pour_102 : decode cX11_pour 102 = .ok (.i2l, 1) := by decide +kernel
theorem dX11_pour_103 : decode cX11_pour 103 = .ok (.iload 5, 2) := by decide +kernel
theorem dX11_pour_105 : decode cX11_pour 105 = .ok (.i2l, 1) := by decide +kernel
theorem dX11_pour_106 : decode cX11_pour 106 = .ok (.ladd, 1) := by decide +kernel
theorem dX11_pour_107 : decode cX11_pour 107 = .ok (.aload_n 0, 1) := by decide +kernel
theorem dX11_pour_108 : decode cX11_pour 108 = .ok (.getfield 17, 3) := by decide +kernel
theorem dX11_pour_111 : decode cX11_pour 111 = .ok (.iload_n 1, 1) := by decide +kernel
theorem dX11_pour_112 : decode cX11_pour 112 = .ok (.iaload, 1) := by decide +kernel
theorem dX11_pour_113 : decode cX11_pour 113 = .ok (.i2l, 1) := by decide +kernel
theorem dX11_pour_114 : decode cX11_pour 114 = .ok (.lcmp, 1) := by decide +kernel
theorem dX11_pour_115 : decode cX11_pour 115 = .ok (.ifCond .gt 21, 3) := by decide +kernel
theorem dX11_pour_118 : decode cX11_pour 118 = .ok (.iload 4, 2) := by decide +kernel
theorem dX11_pour_120 : decode cX11_pour 120 = .ok (.i2l, 1) := by decide +kernel
theorem dX11_pour_121 : decode cX11_pour 121 = .ok (.iload 5, 2) := by decide +kernel
theorem dX11_pour_123 : decode cX11_pour 123 = .ok (.i2l, 1) := by decide +kernel
theorem dX11_pour_124 : decode cX11_pour 124 = .ok (.ladd, 1) := by decide +kernel
theorem dX11_pour_125 : decode cX11_pour 125 = .ok (.aload_n 0, 1) := by decide +kernel
theorem dX11_pour_126 : decode cX11_pour 126 = .ok (.getfield 17, 3) := by decide +kernel
theorem dX11_pour_129 : decode cX11_pour 129 = .ok (.iload_n 3, 1) := by decide +kernel
theorem dX11_pour_130 : decode cX11_pour 130 = .ok (.iaload, 1) := by decide +kernel
theorem dX11_pour_131 : decode cX11_pour 131 = .ok (.i2l, 1) := by decide +kernel
theorem dX11_pour_132 : decode cX11_pour 132 = .ok (.lcmp, 1) := by decide +kernel
theorem dX11_pour_133 : decode cX11_pour 133 = .ok (.ifCond .le 9, 3) := by decide +kernel
theorem dX11_pour_136 : decode cX11_pour 136 = .ok (.aload_n 0, 1) := by decide +kernel
theorem dX11_pour_137 : decode cX11_pour 137 = .ok (.iconst 4, 1) := by decide +kernel
theorem dX11_pour_138 : decode cX11_pour 138 = .ok (.invokevirtual 74, 3) := by decide +kernel
theorem dX11_pour_141 : decode cX11_pour 141 = .ok (.ireturn, 1) := by decide +kernel
theorem dX11_pour_142 : decode cX11_pour 142 = .ok (.iload_n 2, 1) := by decide +kernel
theorem dX11_pour_143 : decode cX11_pour 143 = .ok (.iload 4, 2) := by decide +kernel
theorem dX11_pour_145 : decode cX11_pour 145 = .ok (.if_icmp .ge 7, 3) := by decide +kernel
theorem dX11_pour_148 : decode cX11_pour 148 = .ok (.iconst 1, 1) := by decide +kernel
theorem dX11_pour_149 : decode cX11_pour 149 = .ok (.goto 4, 3) := by decide +kernel
theorem dX11_pour_152 : decode cX11_pour 152 = .ok (.iconst 0, 1) := by decide +kernel
theorem dX11_pour_153 : decode cX11_pour 153 = .ok (.istore 6, 2) := by decide +kernel
theorem dX11_pour_155 : decode cX11_pour 155 = .ok (.iconst 0, 1) := by decide +kernel
theorem dX11_pour_156 : decode cX11_pour 156 = .ok (.istore 7, 2) := by decide +kernel
theorem dX11_pour_158 : decode cX11_pour 158 = .ok (.iload 7, 2) := by decide +kernel
theorem dX11_pour_160 : decode cX11_pour 160 = .ok (.iload 5, 2) := by decide +kernel
theorem dX11_pour_162 : decode cX11_pour 162 = .ok (.if_icmp .ge 57, 3) := by decide +kernel
theorem dX11_pour_165 : decode cX11_pour 165 = .ok (.iload 6, 2) := by decide +kernel
theorem dX11_pour_167 : decode cX11_pour 167 = .ok (.ifCond .eq 13, 3) := by decide +kernel
theorem dX11_pour_170 : decode cX11_pour 170 = .ok (.iload 5, 2) := by decide +kernel
theorem dX11_pour_172 : decode cX11_pour 172 = .ok (.iconst 1, 1) := by decide +kernel
theorem dX11_pour_173 : decode cX11_pour 173 = .ok (.isub, 1) := by decide +kernel
theorem dX11_pour_174 : decode cX11_pour 174 = .ok (.iload 7, 2) := by decide +kernel
theorem dX11_pour_176 : decode cX11_pour 176 = .ok (.isub, 1) := by decide +kernel
theorem dX11_pour_177 : decode cX11_pour 177 = .ok (.goto 5, 3) := by decide +kernel
theorem dX11_pour_180 : decode cX11_pour 180 = .ok (.iload 7, 2) := by decide +kernel
theorem dX11_pour_182 : decode cX11_pour 182 = .ok (.istore 8, 2) := by decide +kernel
theorem dX11_pour_184 : decode cX11_pour 184 = .ok (.aload_n 0, 1) := by decide +kernel
theorem dX11_pour_185 : decode cX11_pour 185 = .ok (.getfield 20, 3) := by decide +kernel
theorem dX11_pour_188 : decode cX11_pour 188 = .ok (.bipush 60, 2) := by decide +kernel
theorem dX11_pour_190 : decode cX11_pour 190 = .ok (.iload_n 3, 1) := by decide +kernel
theorem dX11_pour_191 : decode cX11_pour 191 = .ok (.imul, 1) := by decide +kernel
theorem dX11_pour_192 : decode cX11_pour 192 = .ok (.iload 4, 2) := by decide +kernel
theorem dX11_pour_194 : decode cX11_pour 194 = .ok (.iadd, 1) := by decide +kernel
theorem dX11_pour_195 : decode cX11_pour 195 = .ok (.iload 8, 2) := by decide +kernel
theorem dX11_pour_197 : decode cX11_pour 197 = .ok (.iadd, 1) := by decide +kernel
theorem dX11_pour_198 : decode cX11_pour 198 = .ok (.aload_n 0, 1) := by decide +kernel
theorem dX11_pour_199 : decode cX11_pour 199 = .ok (.getfield 20, 3) := by decide +kernel
theorem dX11_pour_202 : decode cX11_pour 202 = .ok (.bipush 60, 2) := by decide +kernel
theorem dX11_pour_204 : decode cX11_pour 204 = .ok (.iload_n 1, 1) := by decide +kernel
theorem dX11_pour_205 : decode cX11_pour 205 = .ok (.imul, 1) := by decide +kernel
theorem dX11_pour_206 : decode cX11_pour 206 = .ok (.iload_n 2, 1) := by decide +kernel
theorem dX11_pour_207 : decode cX11_pour 207 = .ok (.iadd, 1) := by decide +kernel
theorem dX11_pour_208 : decode cX11_pour 208 = .ok (.iload 8, 2) := by decide +kernel
theorem dX11_pour_210 : decode cX11_pour 210 = .ok (.iadd, 1) := by decide +kernel
theorem dX11_pour_211 : decode cX11_pour 211 = .ok (.laload, 1) := by decide +kernel
theorem dX11_pour_212 : decode cX11_pour 212 = .ok (.lastore, 1) := by decide +kernel
theorem dX11_pour_213 : decode cX11_pour 213 = .ok (.iinc 7 1, 3) := by decide +kernel
theorem dX11_pour_216 : decode cX11_pour 216 = .ok (.goto (-58), 3) := by decide +kernel
theorem dX11_pour_219 : decode cX11_pour 219 = .ok (.iconst 1, 1) := by decide +kernel
theorem dX11_pour_220 : decode cX11_pour 220 = .ok (.ireturn, 1) := by decide +kernel
theorem dX11_numberOf_0 : decode cX11_numberOf 0 = .ok (.aload_n 0, 1) := by decide +kernel
theorem dX11_numberOf_1 : decode cX11_numberOf 1 = .ok (.getfield 20, 3) := by decide +kernel
theorem dX11_numberOf_4 : decode cX11_numberOf 4 = .ok (.bipush 60, 2) := by decide +kernel
theorem dX11_numberOf_6 : decode cX11_numberOf 6 = .ok (.iload_n 1, 1) := by decide +kernel
theorem dX11_numberOf_7 : decode cX11_numberOf 7 = .ok (.imul, 1) := by decide +kernel
theorem dX11_numberOf_8 : decode cX11_numberOf 8 = .ok (.iload_n 2, 1) := by decide +kernel
theorem dX11_numberOf_9 : decode cX11_numberOf 9 = .ok (.iadd, 1) := by decide +kernel
theorem dX11_numberOf_10 : decode cX11_numberOf 10 = .ok (.laload, 1) := by decide +kernel
theorem dX11_numberOf_11 : decode cX11_numberOf 11 = .ok (.lreturn, 1) := by decide +kernel
theorem dX11_isTray_0 : decode cX11_isTray 0 = .ok (.iload_n 1, 1) := by decide +kernel
theorem dX11_isTray_1 : decode cX11_isTray 1 = .ok (.i2l, 1) := by decide +kernel
theorem dX11_isTray_2 : decode cX11_isTray 2 = .ok (.lconst 0, 1) := by decide +kernel
theorem dX11_isTray_3 : decode cX11_isTray 3 = .ok (.ldc2_w 92, 3) := by decide +kernel
theorem dX11_isTray_6 : decode cX11_isTray 6 = .ok (.invokestatic 94, 3) := by decide +kernel
theorem dX11_isTray_9 : decode cX11_isTray 9 = .ok (.ireturn, 1) := by decide +kernel
theorem dX11_has_0 : decode cX11_has 0 = .ok (.iload_n 0, 1) := by decide +kernel
theorem dX11_has_1 : decode cX11_has 1 = .ok (.iload_n 1, 1) := by decide +kernel
theorem dX11_has_2 : decode cX11_has 2 = .ok (.ishr, 1) := by decide +kernel
theorem dX11_has_3 : decode cX11_has 3 = .ok (.iconst 1, 1) := by decide +kernel
theorem dX11_has_4 : decode cX11_has 4 = .ok (.iand, 1) := by decide +kernel
theorem dX11_has_5 : decode cX11_has 5 = .ok (.iconst 1, 1) := by decide +kernel
theorem dX11_has_6 : decode cX11_has 6 = .ok (.if_icmp .ne 7, 3) := by decide +kernel
theorem dX11_has_9 : decode cX11_has 9 = .ok (.iconst 1, 1) := by decide +kernel
theorem dX11_has_10 : decode cX11_has 10 = .ok (.goto 4, 3) := by decide +kernel
theorem dX11_has_13 : decode cX11_has 13 = .ok (.iconst 0, 1) := by decide +kernel
theorem dX11_has_14 : decode cX11_has 14 = .ok (.ireturn, 1) := by decide +kernel
theorem dX11_look2_0 : decode cX11_look2 0 = .ok (.iload_n 1, 1) := by decide +kernel
theorem dX11_look2_1 : decode cX11_look2 1 = .ok (.aload_n 0, 1) := by decide +kernel
theorem dX11_look2_2 : decode cX11_look2 2 = .ok (.getfield 98, 3) := by decide +kernel
theorem dX11_look2_5 : decode cX11_look2 5 = .ok (.if_icmp .ge 16, 3) := by decide +kernel
theorem dX11_look2_8 : decode cX11_look2 8 = .ok (.aload_n 0, 1) := by decide +kernel
theorem dX11_look2_9 : decode cX11_look2 9 = .ok (.getfield 24, 3) := by decide +kernel
theorem dX11_look2_12 : decode cX11_look2 12 = .ok (.iload_n 1, 1) := by decide +kernel
theorem dX11_look2_13 : decode cX11_look2 13 = .ok (.baload, 1) := by decide +kernel
theorem dX11_look2_14 : decode cX11_look2 14 = .ok (.sipush 255, 3) := by decide +kernel
theorem dX11_look2_17 : decode cX11_look2 17 = .ok (.iand, 1) := by decide +kernel
theorem dX11_look2_18 : decode cX11_look2 18 = .ok (.goto 4, 3) := by decide +kernel
theorem dX11_look2_21 : decode cX11_look2 21 = .ok (.iconst 0, 1) := by decide +kernel
theorem dX11_look2_22 : decode cX11_look2 22 = .ok (.ireturn, 1) := by decide +kernel
theorem dX11_isLetter_0 : decode cX11_isLetter 0 = .ok (.iload_n 0, 1) := by decide +kernel
theorem dX11_isLetter_1 : decode cX11_isLetter 1 = .ok (.bipush 97, 2) := by decide +kernel
theorem dX11_isLetter_3 : decode cX11_isLetter 3 = .ok (.if_icmp .lt 13, 3) := by decide +kernel
theorem dX11_isLetter_6 : decode cX11_isLetter 6 = .ok (.iload_n 0, 1) := by decide +kernel
theorem dX11_isLetter_7 : decode cX11_isLetter 7 = .ok (.bipush 122, 2) := by decide +kernel
theorem dX11_isLetter_9 : decode cX11_isLetter 9 = .ok (.if_icmp .gt 7, 3) := by decide +kernel
theorem dX11_isLetter_12 : decode cX11_isLetter 12 = .ok (.iconst 1, 1) := by decide +kernel
theorem dX11_isLetter_13 : decode cX11_isLetter 13 = .ok (.goto 4, 3) := by decide +kernel
theorem dX11_isLetter_16 : decode cX11_isLetter 16 = .ok (.iconst 0, 1) := by decide +kernel
theorem dX11_isLetter_17 : decode cX11_isLetter 17 = .ok (.ireturn, 1) := by decide +kernel
theorem dX11_isDigit_0 : decode cX11_isDigit 0 = .ok (.iload_n 0, 1) := by decide +kernel
theorem dX11_isDigit_1 : decode cX11_isDigit 1 = .ok (.bipush 48, 2) := by decide +kernel
theorem dX11_isDigit_3 : decode cX11_isDigit 3 = .ok (.if_icmp .lt 13, 3) := by decide +kernel
theorem dX11_isDigit_6 : decode cX11_isDigit 6 = .ok (.iload_n 0, 1) := by decide +kernel
theorem dX11_isDigit_7 : decode cX11_isDigit 7 = .ok (.bipush 57, 2) := by decide +kernel
theorem dX11_isDigit_9 : decode cX11_isDigit 9 = .ok (.if_icmp .gt 7, 3) := by decide +kernel
theorem dX11_isDigit_12 : decode cX11_isDigit 12 = .ok (.iconst 1, 1) := by decide +kernel
theorem dX11_isDigit_13 : decode cX11_isDigit 13 = .ok (.goto 4, 3) := by decide +kernel
theorem dX11_isDigit_16 : decode cX11_isDigit 16 = .ok (.iconst 0, 1) := by decide +kernel
theorem dX11_isDigit_17 : decode cX11_isDigit 17 = .ok (.ireturn, 1) := by decide +kernel
theorem dX11_isSignByte_0 : decode cX11_isSignByte 0 = .ok (.iload_n 1, 1) := by decide +kernel
theorem dX11_isSignByte_1 : decode cX11_isSignByte 1 = .ok (.bipush 59, 2) := by decide +kernel
theorem dX11_isSignByte_3 : decode cX11_isSignByte 3 = .ok (.if_icmp .eq 21, 3) := by decide +kernel
theorem dX11_isSignByte_6 : decode cX11_isSignByte 6 = .ok (.iload_n 1, 1) := by decide +kernel
theorem dX11_isSignByte_7 : decode cX11_isSignByte 7 = .ok (.bipush 60, 2) := by decide +kernel
theorem dX11_isSignByte_9 : decode cX11_isSignByte 9 = .ok (.if_icmp .eq 15, 3) := by decide +kernel
theorem dX11_isSignByte_12 : decode cX11_isSignByte 12 = .ok (.iload_n 1, 1) := by decide +kernel
theorem dX11_isSignByte_13 : decode cX11_isSignByte 13 = .ok (.bipush 62, 2) := by decide +kernel
theorem dX11_isSignByte_15 : decode cX11_isSignByte 15 = .ok (.if_icmp .eq 9, 3) := by decide +kernel
theorem dX11_isSignByte_18 : decode cX11_isSignByte 18 = .ok (.iload_n 1, 1) := by decide +kernel
theorem dX11_isSignByte_19 : decode cX11_isSignByte 19 = .ok (.bipush 61, 2) := by decide +kernel
theorem dX11_isSignByte_21 : decode cX11_isSignByte 21 = .ok (.if_icmp .ne 7, 3) := by decide +kernel
theorem dX11_isSignByte_24 : decode cX11_isSignByte 24 = .ok (.iconst 1, 1) := by decide +kernel
theorem dX11_isSignByte_25 : decode cX11_isSignByte 25 = .ok (.goto 4, 3) := by decide +kernel
theorem dX11_isSignByte_28 : decode cX11_isSignByte 28 = .ok (.iconst 0, 1) := by decide +kernel
theorem dX11_isSignByte_29 : decode cX11_isSignByte 29 = .ok (.ireturn, 1) := by decide +kernel
theorem dX11_advance_0 : decode cX11_advance 0 = .ok (.aload_n 0, 1) := by decide +kernel
theorem dX11_advance_1 : decode cX11_advance 1 = .ok (.aload_n 0, 1) := by decide +kernel
theorem dX11_advance_2 : decode cX11_advance 2 = .ok (.getfield 101, 3) := by decide +kernel
theorem dX11_advance_5 : decode cX11_advance 5 = .ok (.putfield 104, 3) := by decide +kernel
theorem dX11_advance_8 : decode cX11_advance 8 = .ok (.aload_n 0, 1) := by decide +kernel
theorem dX11_advance_9 : decode cX11_advance 9 = .ok (.getfield 104, 3) := by decide +kernel
theorem dX11_advance_12 : decode cX11_advance 12 = .ok (.aload_n 0, 1) := by decide +kernel
theorem dX11_advance_13 : decode cX11_advance 13 = .ok (.getfield 98, 3) := by decide +kernel
theorem dX11_advance_16 : decode cX11_advance 16 = .ok (.if_icmp .ge 42, 3) := by decide +kernel
theorem dX11_advance_19 : decode cX11_advance 19 = .ok (.aload_n 0, 1) := by decide +kernel
theorem dX11_advance_20 : decode cX11_advance 20 = .ok (.aload_n 0, 1) := by decide +kernel
theorem dX11_advance_21 : decode cX11_advance 21 = .ok (.getfield 104, 3) := by decide +kernel
theorem dX11_advance_24 : decode cX11_advance 24 = .ok (.invokevirtual 107, 3) := by decide +kernel
theorem dX11_advance_27 : decode cX11_advance 27 = .ok (.bipush 10, 2) := by decide +kernel
theorem dX11_advance_29 : decode cX11_advance 29 = .ok (.if_icmp .eq 16, 3) := by decide +kernel
theorem dX11_advance_32 : decode cX11_advance 32 = .ok (.aload_n 0, 1) := by decide +kernel
theorem dX11_advance_33 : decode cX11_advance 33 = .ok (.aload_n 0, 1) := by decide +kernel
theorem dX11_advance_34 : decode cX11_advance 34 = .ok (.getfield 104, 3) := by decide +kernel
theorem dX11_advance_37 : decode cX11_advance 37 = .ok (.invokevirtual 107, 3) := by decide +kernel
theorem dX11_advance_40 : decode cX11_advance 40 = .ok (.bipush 32, 2) := by decide +kernel
theorem dX11_advance_42 : decode cX11_advance 42 = .ok (.if_icmp .ne 16, 3) := by decide +kernel
theorem dX11_advance_45 : decode cX11_advance 45 = .ok (.aload_n 0, 1) := by decide +kernel
theorem dX11_advance_46 : decode cX11_advance 46 = .ok (.dup, 1) := by decide +kernel
theorem dX11_advance_47 : decode cX11_advance 47 = .ok (.getfield 104, 3) := by decide +kernel
theorem dX11_advance_50 : decode cX11_advance 50 = .ok (.iconst 1, 1) := by decide +kernel
theorem dX11_advance_51 : decode cX11_advance 51 = .ok (.iadd, 1) := by decide +kernel
theorem dX11_advance_52 : decode cX11_advance 52 = .ok (.putfield 104, 3) := by decide +kernel
theorem dX11_advance_55 : decode cX11_advance 55 = .ok (.goto (-47), 3) := by decide +kernel
theorem dX11_advance_58 : decode cX11_advance 58 = .ok (.aload_n 0, 1) := by decide +kernel
theorem dX11_advance_59 : decode cX11_advance 59 = .ok (.aload_n 0, 1) := by decide +kernel
theorem dX11_advance_60 : decode cX11_advance 60 = .ok (.getfield 104, 3) := by decide +kernel
theorem dX11_advance_63 : decode cX11_advance 63 = .ok (.putfield 101, 3) := by decide +kernel
theorem dX11_advance_66 : decode cX11_advance 66 = .ok (.aload_n 0, 1) := by decide +kernel
theorem dX11_advance_67 : decode cX11_advance 67 = .ok (.getfield 104, 3) := by decide +kernel
theorem dX11_advance_70 : decode cX11_advance 70 = .ok (.aload_n 0, 1) := by decide +kernel
theorem dX11_advance_71 : decode cX11_advance 71 = .ok (.getfield 98, 3) := by decide +kernel
theorem dX11_advance_74 : decode cX11_advance 74 = .ok (.if_icmp .lt 9, 3) := by decide +kernel
theorem dX11_advance_77 : decode cX11_advance 77 = .ok (.aload_n 0, 1) := by decide +kernel
theorem dX11_advance_78 : decode cX11_advance 78 = .ok (.iconst 0, 1) := by decide +kernel
theorem dX11_advance_79 : decode cX11_advance 79 = .ok (.putfield 110, 3) := by decide +kernel
theorem dX11_advance_82 : decode cX11_advance 82 = .ok (.return_, 1) := by decide +kernel
theorem dX11_advance_83 : decode cX11_advance 83 = .ok (.aload_n 0, 1) := by decide +kernel
theorem dX11_advance_84 : decode cX11_advance 84 = .ok (.aload_n 0, 1) := by decide +kernel
theorem dX11_advance_85 : decode cX11_advance 85 = .ok (.getfield 104, 3) := by decide +kernel
theorem dX11_advance_88 : decode cX11_advance 88 = .ok (.invokevirtual 107, 3) := by decide +kernel
theorem dX11_advance_91 : decode cX11_advance 91 = .ok (.istore_n 1, 1) := by decide +kernel
theorem dX11_advance_92 : decode cX11_advance 92 = .ok (.iload_n 1, 1) := by decide +kernel
theorem dX11_advance_93 : decode cX11_advance 93 = .ok (.invokestatic 113, 3) := by decide +kernel
theorem dX11_advance_96 : decode cX11_advance 96 = .ok (.ifCond .eq 102, 3) := by decide +kernel
theorem dX11_advance_99 : decode cX11_advance 99 = .ok (.aload_n 0, 1) := by decide +kernel
theorem dX11_advance_100 : decode cX11_advance 100 = .ok (.iconst 1, 1) := by decide +kernel
theorem dX11_advance_101 : decode cX11_advance 101 = .ok (.putfield 110, 3) := by decide +kernel
theorem dX11_advance_104 : decode cX11_advance 104 = .ok (.aload_n 0, 1) := by decide +kernel
theorem dX11_advance_105 : decode cX11_advance 105 = .ok (.lconst 0, 1) := by decide +kernel
theorem dX11_advance_106 : decode cX11_advance 106 = .ok (.putfield 116, 3) := by decide +kernel
theorem dX11_advance_109 : decode cX11_advance 109 = .ok (.aload_n 0, 1) := by decide +kernel
theorem dX11_advance_110 : decode cX11_advance 110 = .ok (.aload_n 0, 1) := by decide +kernel
theorem dX11_advance_111 : decode cX11_advance 111 = .ok (.getfield 101, 3) := by decide +kernel
theorem dX11_advance_114 : decode cX11_advance 114 = .ok (.invokevirtual 107, 3) := by decide +kernel
theorem dX11_advance_117 : decode cX11_advance 117 = .ok (.invokestatic 113, 3) := by decide +kernel
theorem dX11_advance_120 : decode cX11_advance 120 = .ok (.ifCond .eq 62, 3) := by decide +kernel
theorem dX11_advance_123 : decode cX11_advance 123 = .ok (.aload_n 0, 1) := by decide +kernel
theorem dX11_advance_124 : decode cX11_advance 124 = .ok (.aload_n 0, 1) := by decide +kernel
theorem dX11_advance_125 : decode cX11_advance 125 = .ok (.getfield 101, 3) := by decide +kernel
theorem dX11_advance_128 : decode cX11_advance 128 = .ok (.aload_n 0, 1) := by decide +kernel
theorem dX11_advance_129 : decode cX11_advance 129 = .ok (.getfield 104, 3) := by decide +kernel
theorem dX11_advance_132 : decode cX11_advance 132 = .ok (.isub, 1) := by decide +kernel
theorem dX11_advance_133 : decode cX11_advance 133 = .ok (.bipush 8, 2) := by decide +kernel
theorem dX11_advance_135 : decode cX11_advance 135 = .ok (.if_icmp .ge 28, 3) := by decide +kernel
theorem dX11_advance_138 : decode cX11_advance 138 = .ok (.aload_n 0, 1) := by decide +kernel
theorem dX11_advance_139 : decode cX11_advance 139 = .ok (.getfield 116, 3) := by decide +kernel
theorem dX11_advance_142 : decode cX11_advance 142 = .ok (.ldc2_w 119, 3) := by decide +kernel
theorem dX11_advance_145 : decode cX11_advance 145 = .ok (.lmul, 1) := by decide +kernel
theorem dX11_advance_146 : decode cX11_advance 146 = .ok (.aload_n 0, 1) := by decide +kernel
theorem dX11_advance_147 : decode cX11_advance 147 = .ok (.aload_n 0, 1) := by decide +kernel
theorem dX11_advance_148 : decode cX11_advance 148 = .ok (.getfield 101, 3) := by decide +kernel
theorem dX11_advance_151 : decode cX11_advance 151 = .ok (.invokevirtual 107, 3) := by decide +kernel
theorem dX11_advance_154 : decode cX11_advance 154 = .ok (.i2l, 1) := by decide +kernel
theorem dX11_advance_155 : decode cX11_advance 155 = .ok (.ladd, 1) := by decide +kernel
theorem dX11_advance_156 : decode cX11_advance 156 = .ok (.ldc2_w 121, 3) := by decide +kernel
theorem dX11_advance_159 : decode cX11_advance 159 = .ok (.lsub, 1) := by decide +kernel
theorem dX11_advance_160 : decode cX11_advance 160 = .ok (.goto 6, 3) := by decide +kernel
theorem dX11_advance_163 : decode cX11_advance 163 = .ok (.ldc2_w 90, 3) := by decide +kernel
theorem dX11_advance_166 : decode cX11_advance 166 = .ok (.putfield 116, 3) := by decide +kernel
theorem dX11_advance_169 : decode cX11_advance 169 = .ok (.aload_n 0, 1) := by decide +kernel
theorem dX11_advance_170 : decode cX11_advance 170 = .ok (.dup, 1) := by decide +kernel
theorem dX11_advance_171 : decode cX11_advance 171 = .ok (.getfield 101, 3) := by decide +kernel
theorem dX11_advance_174 : decode cX11_advance 174 = .ok (.iconst 1, 1) := by decide +kernel
theorem dX11_advance_175 : decode cX11_advance 175 = .ok (.iadd, 1) := by decide +kernel
theorem dX11_advance_176 : decode cX11_advance 176 = .ok (.putfield 101, 3) := by decide +kernel
theorem dX11_advance_179 : decode cX11_advance 179 = .ok (.goto (-70), 3) := by decide +kernel
theorem dX11_advance_182 : decode cX11_advance 182 = .ok (.aload_n 0, 1) := by decide +kernel
theorem dX11_advance_183 : decode cX11_advance 183 = .ok (.aload_n 0, 1) := by decide +kernel
theorem dX11_advance_184 : decode cX11_advance 184 = .ok (.getfield 101, 3) := by decide +kernel
theorem dX11_advance_187 : decode cX11_advance 187 = .ok (.aload_n 0, 1) := by decide +kernel
theorem dX11_advance_188 : decode cX11_advance 188 = .ok (.getfield 104, 3) := by decide +kernel
theorem dX11_advance_191 : decode cX11_advance 191 = .ok (.isub, 1) := by decide +kernel
theorem dX11_advance_192 : decode cX11_advance 192 = .ok (.putfield 123, 3) := by decide +kernel
theorem dX11_advance_195 : decode cX11_advance 195 = .ok (.goto 135, 3) := by decide +kernel
theorem dX11_advance_198 : decode cX11_advance 198 = .ok (.iload_n 1, 1) := by decide +kernel
theorem dX11_advance_199 : decode cX11_advance 199 = .ok (.invokestatic 126, 3) := by decide +kernel
theorem dX11_advance_202 : decode cX11_advance 202 = .ok (.ifCond .eq 96, 3) := by decide +kernel
theorem dX11_advance_205 : decode cX11_advance 205 = .ok (.aload_n 0, 1) := by decide +kernel
theorem dX11_advance_206 : decode cX11_advance 206 = .ok (.iconst 0, 1) := by decide +kernel
theorem dX11_advance_207 : decode cX11_advance 207 = .ok (.putfield 129, 3) := by decide +kernel
theorem dX11_advance_210 : decode cX11_advance 210 = .ok (.aload_n 0, 1) := by decide +kernel
theorem dX11_advance_211 : decode cX11_advance 211 = .ok (.aload_n 0, 1) := by decide +kernel
theorem dX11_advance_212 : decode cX11_advance 212 = .ok (.getfield 101, 3) := by decide +kernel
theorem dX11_advance_215 : decode cX11_advance 215 = .ok (.invokevirtual 107, 3) := by decide +kernel
theorem dX11_advance_218 : decode cX11_advance 218 = .ok (.invokestatic 126, 3) := by decide +kernel
theorem dX11_advance_221 : decode cX11_advance 221 = .ok (.ifCond .eq 52, 3) := by decide +kernel
theorem dX11_advance_224 : decode cX11_advance 224 = .ok (.aload_n 0, 1) := by decide +kernel
theorem dX11_advance_225 : decode cX11_advance 225 = .ok (.getfield 101, 3) := by decide +kernel
theorem dX11_advance_228 : decode cX11_advance 228 = .ok (.aload_n 0, 1) := by decide +kernel
theorem dX11_advance_229 : decode cX11_advance 229 = .ok (.getfield 104, 3) := by decide +kernel
theorem dX11_advance_232 : decode cX11_advance 232 = .ok (.isub, 1) := by decide +kernel
theorem dX11_advance_233 : decode cX11_advance 233 = .ok (.iconst 4, 1) := by decide +kernel
theorem dX11_advance_234 : decode cX11_advance 234 = .ok (.if_icmp .ge 26, 3) := by decide +kernel
theorem dX11_advance_237 : decode cX11_advance 237 = .ok (.aload_n 0, 1) := by decide +kernel
theorem dX11_advance_238 : decode cX11_advance 238 = .ok (.bipush 10, 2) := by decide +kernel
theorem dX11_advance_240 : decode cX11_advance 240 = .ok (.aload_n 0, 1) := by decide +kernel
theorem dX11_advance_241 : decode cX11_advance 241 = .ok (.getfield 129, 3) := by decide +kernel
theorem dX11_advance_244 : decode cX11_advance 244 = .ok (.imul, 1) := by decide +kernel
theorem dX11_advance_245 : decode cX11_advance 245 = .ok (.aload_n 0, 1) := by decide +kernel
theorem dX11_advance_246 : decode cX11_advance 246 = .ok (.aload_n 0, 1) := by decide +kernel
theorem dX11_advance_247 : decode cX11_advance 247 = .ok (.getfield 101, 3) := by decide +kernel
theorem dX11_advance_250 : decode cX11_advance 250 = .ok (.invokevirtual 107, 3) := by decide +kernel
theorem dX11_advance_253 : decode cX11_advance 253 = .ok (.iadd, 1) := by decide +kernel
theorem dX11_advance_254 : decode cX11_advance 254 = .ok (.bipush 48, 2) := by decide +kernel
theorem dX11_advance_256 : decode cX11_advance 256 = .ok (.isub, 1) := by decide +kernel
theorem dX11_advance_257 : decode cX11_advance 257 = .ok (.putfield 129, 3) := by decide +kernel
theorem dX11_advance_260 : decode cX11_advance 260 = .ok (.aload_n 0, 1) := by decide +kernel
theorem dX11_advance_261 : decode cX11_advance 261 = .ok (.dup, 1) := by decide +kernel
theorem dX11_advance_262 : decode cX11_advance 262 = .ok (.getfield 101, 3) := by decide +kernel
theorem dX11_advance_265 : decode cX11_advance 265 = .ok (.iconst 1, 1) := by decide +kernel
theorem dX11_advance_266 : decode cX11_advance 266 = .ok (.iadd, 1) := by decide +kernel
theorem dX11_advance_267 : decode cX11_advance 267 = .ok (.putfield 101, 3) := by decide +kernel
theorem dX11_advance_270 : decode cX11_advance 270 = .ok (.goto (-60), 3) := by decide +kernel
theorem dX11_advance_273 : decode cX11_advance 273 = .ok (.aload_n 0, 1) := by decide +kernel
theorem dX11_advance_274 : decode cX11_advance 274 = .ok (.aload_n 0, 1) := by decide +kernel
theorem dX11_advance_275 : decode cX11_advance 275 = .ok (.getfield 101, 3) := by decide +kernel
theorem dX11_advance_278 : decode cX11_advance 278 = .ok (.aload_n 0, 1) := by decide +kernel
theorem dX11_advance_279 : decode cX11_advance 279 = .ok (.getfield 104, 3) := by decide +kernel
theorem dX11_advance_282 : decode cX11_advance 282 = .ok (.isub, 1) := by decide +kernel
theorem dX11_advance_283 : decode cX11_advance 283 = .ok (.iconst 4, 1) := by decide +kernel
theorem dX11_advance_284 : decode cX11_advance 284 = .ok (.if_icmp .le 7, 3) := by decide +kernel
theorem dX11_advance_287 : decode cX11_advance 287 = .ok (.iconst 4, 1) := by decide +kernel
theorem dX11_advance_288 : decode cX11_advance 288 = .ok (.goto 4, 3) := by decide +kernel
theorem dX11_advance_291 : decode cX11_advance 291 = .ok (.iconst 2, 1) := by decide +kernel
theorem dX11_advance_292 : decode cX11_advance 292 = .ok (.putfield 110, 3) := by decide +kernel
theorem dX11_advance_295 : decode cX11_advance 295 = .ok (.goto 35, 3) := by decide +kernel
theorem dX11_advance_298 : decode cX11_advance 298 = .ok (.aload_n 0, 1) := by decide +kernel
theorem dX11_advance_299 : decode cX11_advance 299 = .ok (.aload_n 0, 1) := by decide +kernel
theorem dX11_advance_300 : decode cX11_advance 300 = .ok (.getfield 104, 3) := by decide +kernel
theorem dX11_advance_303 : decode cX11_advance 303 = .ok (.iconst 1, 1) := by decide +kernel
theorem dX11_advance_304 : decode cX11_advance 304 = .ok (.iadd, 1) := by decide +kernel
theorem dX11_advance_305 : decode cX11_advance 305 = .ok (.putfield 101, 3) := by decide +kernel
theorem dX11_advance_308 : decode cX11_advance 308 = .ok (.aload_n 0, 1) := by decide +kernel
theorem dX11_advance_309 : decode cX11_advance 309 = .ok (.iload_n 1, 1) := by decide +kernel
theorem dX11_advance_310 : decode cX11_advance 310 = .ok (.putfield 129, 3) := by decide +kernel
