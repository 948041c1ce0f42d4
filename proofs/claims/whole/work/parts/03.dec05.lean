theorem dX11_many_82 : decode cX11_many 82 = .ok (.aload_n 0, 1) := by decide +kernel
theorem dX11_many_83 : decode cX11_many 83 = .ok (.bipush 14, 2) := by decide +kernel
theorem dX11_many_85 : decode cX11_many 85 = .ok (.bipush 6, 2) := by decide +kernel
theorem dX11_many_87 : decode cX11_many 87 = .ok (.invokevirtual 315, 3) := by decide +kernel
theorem dX11_many_90 : decode cX11_many 90 = .ok (.ireturn, 1) := by decide +kernel
theorem dX11_many_91 : decode cX11_many 91 = .ok (.iload_n 1, 1) := by decide +kernel
theorem dX11_many_92 : decode cX11_many 92 = .ok (.bipush 13, 2) := by decide +kernel
theorem dX11_many_94 : decode cX11_many 94 = .ok (.if_icmp .ne 13, 3) := by decide +kernel
theorem dX11_many_97 : decode cX11_many 97 = .ok (.aload_n 0, 1) := by decide +kernel
theorem dX11_many_98 : decode cX11_many 98 = .ok (.getfield 35, 3) := by decide +kernel
theorem dX11_many_101 : decode cX11_many 101 = .ok (.bipush 7, 2) := by decide +kernel
theorem dX11_many_103 : decode cX11_many 103 = .ok (.iaload, 1) := by decide +kernel
theorem dX11_many_104 : decode cX11_many 104 = .ok (.goto 11, 3) := by decide +kernel
theorem dX11_many_107 : decode cX11_many 107 = .ok (.aload_n 0, 1) := by decide +kernel
theorem dX11_many_108 : decode cX11_many 108 = .ok (.iload_n 1, 1) := by decide +kernel
theorem dX11_many_109 : decode cX11_many 109 = .ok (.bipush 10, 2) := by decide +kernel
theorem dX11_many_111 : decode cX11_many 111 = .ok (.isub, 1) := by decide +kernel
theorem dX11_many_112 : decode cX11_many 112 = .ok (.invokevirtual 318, 3) := by decide +kernel
theorem dX11_many_115 : decode cX11_many 115 = .ok (.ireturn, 1) := by decide +kernel
theorem dX11_cardAt_0 : decode cX11_cardAt 0 = .ok (.aload_n 0, 1) := by decide +kernel
theorem dX11_cardAt_1 : decode cX11_cardAt 1 = .ok (.getfield 35, 3) := by decide +kernel
theorem dX11_cardAt_4 : decode cX11_cardAt 4 = .ok (.bipush 20, 2) := by decide +kernel
theorem dX11_cardAt_6 : decode cX11_cardAt 6 = .ok (.bipush 12, 2) := by decide +kernel
theorem dX11_cardAt_8 : decode cX11_cardAt 8 = .ok (.iload_n 1, 1) := by decide +kernel
theorem dX11_cardAt_9 : decode cX11_cardAt 9 = .ok (.imul, 1) := by decide +kernel
theorem dX11_cardAt_10 : decode cX11_cardAt 10 = .ok (.iadd, 1) := by decide +kernel
theorem dX11_cardAt_11 : decode cX11_cardAt 11 = .ok (.iload_n 2, 1) := by decide +kernel
theorem dX11_cardAt_12 : decode cX11_cardAt 12 = .ok (.iadd, 1) := by decide +kernel
theorem dX11_cardAt_13 : decode cX11_cardAt 13 = .ok (.iaload, 1) := by decide +kernel
theorem dX11_cardAt_14 : decode cX11_cardAt 14 = .ok (.ireturn, 1) := by decide +kernel
theorem dX11_card_0 : decode cX11_card 0 = .ok (.aload_n 0, 1) := by decide +kernel
theorem dX11_card_1 : decode cX11_card 1 = .ok (.iconst 0, 1) := by decide +kernel
theorem dX11_card_2 : decode cX11_card 2 = .ok (.putfield 59, 3) := by decide +kernel
theorem dX11_card_5 : decode cX11_card 5 = .ok (.aload_n 0, 1) := by decide +kernel
theorem dX11_card_6 : decode cX11_card 6 = .ok (.iconst 0, 1) := by decide +kernel
theorem dX11_card_7 : decode cX11_card 7 = .ok (.putfield 62, 3) := by decide +kernel
theorem dX11_card_10 : decode cX11_card 10 = .ok (.aload_n 0, 1) := by decide +kernel
theorem dX11_card_11 : decode cX11_card 11 = .ok (.iload_n 1, 1) := by decide +kernel
theorem dX11_card_12 : decode cX11_card 12 = .ok (.invokevirtual 307, 3) := by decide +kernel
theorem dX11_card_15 : decode cX11_card 15 = .ok (.ifCond .ne 9, 3) := by decide +kernel
theorem dX11_card_18 : decode cX11_card 18 = .ok (.aload_n 0, 1) := by decide +kernel
theorem dX11_card_19 : decode cX11_card 19 = .ok (.iconst 2, 1) := by decide +kernel
theorem dX11_card_20 : decode cX11_card 20 = .ok (.invokevirtual 312, 3) := by decide +kernel
theorem dX11_card_23 : decode cX11_card 23 = .ok (.ireturn, 1) := by decide +kernel
theorem dX11_card_24 : decode cX11_card 24 = .ok (.iload_n 2, 1) := by decide +kernel
theorem dX11_card_25 : decode cX11_card 25 = .ok (.i2l, 1) := by decide +kernel
theorem dX11_card_26 : decode cX11_card 26 = .ok (.lconst 0, 1) := by decide +kernel
theorem dX11_card_27 : decode cX11_card 27 = .ok (.aload_n 0, 1) := by decide +kernel
theorem dX11_card_28 : decode cX11_card 28 = .ok (.getfield 35, 3) := by decide +kernel
theorem dX11_card_31 : decode cX11_card 31 = .ok (.bipush 14, 2) := by decide +kernel
theorem dX11_card_33 : decode cX11_card 33 = .ok (.iload_n 1, 1) := by decide +kernel
theorem dX11_card_34 : decode cX11_card 34 = .ok (.iadd, 1) := by decide +kernel
theorem dX11_card_35 : decode cX11_card 35 = .ok (.iaload, 1) := by decide +kernel
theorem dX11_card_36 : decode cX11_card 36 = .ok (.iconst 1, 1) := by decide +kernel
theorem dX11_card_37 : decode cX11_card 37 = .ok (.isub, 1) := by decide +kernel
theorem dX11_card_38 : decode cX11_card 38 = .ok (.i2l, 1) := by decide +kernel
theorem dX11_card_39 : decode cX11_card 39 = .ok (.invokestatic 94, 3) := by decide +kernel
theorem dX11_card_42 : decode cX11_card 42 = .ok (.ifCond .eq 12, 3) := by decide +kernel
theorem dX11_card_45 : decode cX11_card 45 = .ok (.aload_n 0, 1) := by decide +kernel
theorem dX11_card_46 : decode cX11_card 46 = .ok (.iload_n 1, 1) := by decide +kernel
theorem dX11_card_47 : decode cX11_card 47 = .ok (.iload_n 2, 1) := by decide +kernel
theorem dX11_card_48 : decode cX11_card 48 = .ok (.invokevirtual 321, 3) := by decide +kernel
theorem dX11_card_51 : decode cX11_card 51 = .ok (.goto 9, 3) := by decide +kernel
theorem dX11_card_54 : decode cX11_card 54 = .ok (.aload_n 0, 1) := by decide +kernel
theorem dX11_card_55 : decode cX11_card 55 = .ok (.bipush 8, 2) := by decide +kernel
theorem dX11_card_57 : decode cX11_card 57 = .ok (.invokevirtual 312, 3) := by decide +kernel
theorem dX11_card_60 : decode cX11_card 60 = .ok (.ireturn, 1) := by decide +kernel
theorem dX11_length_0 : decode cX11_length 0 = .ok (.aload_n 0, 1) := by decide +kernel
theorem dX11_length_1 : decode cX11_length 1 = .ok (.iconst 0, 1) := by decide +kernel
theorem dX11_length_2 : decode cX11_length 2 = .ok (.putfield 59, 3) := by decide +kernel
theorem dX11_length_5 : decode cX11_length 5 = .ok (.aload_n 0, 1) := by decide +kernel
theorem dX11_length_6 : decode cX11_length 6 = .ok (.iconst 0, 1) := by decide +kernel
theorem dX11_length_7 : decode cX11_length 7 = .ok (.putfield 62, 3) := by decide +kernel
theorem dX11_length_10 : decode cX11_length 10 = .ok (.aload_n 0, 1) := by decide +kernel
theorem dX11_length_11 : decode cX11_length 11 = .ok (.iload_n 1, 1) := by decide +kernel
theorem dX11_length_12 : decode cX11_length 12 = .ok (.invokevirtual 307, 3) := by decide +kernel
theorem dX11_length_15 : decode cX11_length 15 = .ok (.ifCond .eq 15, 3) := by decide +kernel
theorem dX11_length_18 : decode cX11_length 18 = .ok (.aload_n 0, 1) := by decide +kernel
theorem dX11_length_19 : decode cX11_length 19 = .ok (.getfield 35, 3) := by decide +kernel
theorem dX11_length_22 : decode cX11_length 22 = .ok (.bipush 14, 2) := by decide +kernel
theorem dX11_length_24 : decode cX11_length 24 = .ok (.iload_n 1, 1) := by decide +kernel
theorem dX11_length_25 : decode cX11_length 25 = .ok (.iadd, 1) := by decide +kernel
theorem dX11_length_26 : decode cX11_length 26 = .ok (.iaload, 1) := by decide +kernel
theorem dX11_length_27 : decode cX11_length 27 = .ok (.goto 8, 3) := by decide +kernel
theorem dX11_length_30 : decode cX11_length 30 = .ok (.aload_n 0, 1) := by decide +kernel
theorem dX11_length_31 : decode cX11_length 31 = .ok (.iconst 2, 1) := by decide +kernel
theorem dX11_length_32 : decode cX11_length 32 = .ok (.invokevirtual 312, 3) := by decide +kernel
theorem dX11_length_35 : decode cX11_length 35 = .ok (.ireturn, 1) := by decide +kernel
theorem dX11_topCard_0 : decode cX11_topCard 0 = .ok (.iload_n 1, 1) := by decide +kernel
theorem dX11_topCard_1 : decode cX11_topCard 1 = .ok (.bipush 6, 2) := by decide +kernel
theorem dX11_topCard_3 : decode cX11_topCard 3 = .ok (.if_icmp .ne 35, 3) := by decide +kernel
theorem dX11_topCard_6 : decode cX11_topCard 6 = .ok (.aload_n 0, 1) := by decide +kernel
theorem dX11_topCard_7 : decode cX11_topCard 7 = .ok (.getfield 35, 3) := by decide +kernel
theorem dX11_topCard_10 : decode cX11_topCard 10 = .ok (.bipush 9, 2) := by decide +kernel
theorem dX11_topCard_12 : decode cX11_topCard 12 = .ok (.iaload, 1) := by decide +kernel
theorem dX11_topCard_13 : decode cX11_topCard 13 = .ok (.ifCond .ne 7, 3) := by decide +kernel
theorem dX11_topCard_16 : decode cX11_topCard 16 = .ok (.iconst (-1), 1) := by decide +kernel
theorem dX11_topCard_17 : decode cX11_topCard 17 = .ok (.goto 20, 3) := by decide +kernel
theorem dX11_topCard_20 : decode cX11_topCard 20 = .ok (.aload_n 0, 1) := by decide +kernel
theorem dX11_topCard_21 : decode cX11_topCard 21 = .ok (.getfield 35, 3) := by decide +kernel
theorem dX11_topCard_24 : decode cX11_topCard 24 = .ok (.bipush 116, 2) := by decide +kernel
theorem dX11_topCard_26 : decode cX11_topCard 26 = .ok (.aload_n 0, 1) := by decide +kernel
theorem dX11_topCard_27 : decode cX11_topCard 27 = .ok (.getfield 35, 3) := by decide +kernel
theorem dX11_topCard_30 : decode cX11_topCard 30 = .ok (.bipush 9, 2) := by decide +kernel
theorem dX11_topCard_32 : decode cX11_topCard 32 = .ok (.iaload, 1) := by decide +kernel
theorem dX11_topCard_33 : decode cX11_topCard 33 = .ok (.iadd, 1) := by decide +kernel
theorem dX11_topCard_34 : decode cX11_topCard 34 = .ok (.iconst 1, 1) := by decide +kernel
theorem dX11_topCard_35 : decode cX11_topCard 35 = .ok (.isub, 1) := by decide +kernel
theorem dX11_topCard_36 : decode cX11_topCard 36 = .ok (.iaload, 1) := by decide +kernel
theorem dX11_topCard_37 : decode cX11_topCard 37 = .ok (.ireturn, 1) := by decide +kernel
theorem dX11_topCard_38 : decode cX11_topCard 38 = .ok (.aload_n 0, 1) := by decide +kernel
theorem dX11_topCard_39 : decode cX11_topCard 39 = .ok (.getfield 35, 3) := by decide +kernel
theorem dX11_topCard_42 : decode cX11_topCard 42 = .ok (.bipush 14, 2) := by decide +kernel
theorem dX11_topCard_44 : decode cX11_topCard 44 = .ok (.iload_n 1, 1) := by decide +kernel
theorem dX11_topCard_45 : decode cX11_topCard 45 = .ok (.iadd, 1) := by decide +kernel
theorem dX11_topCard_46 : decode cX11_topCard 46 = .ok (.iaload, 1) := by decide +kernel
theorem dX11_topCard_47 : decode cX11_topCard 47 = .ok (.ifCond .ne 7, 3) := by decide +kernel
theorem dX11_topCard_50 : decode cX11_topCard 50 = .ok (.iconst (-1), 1) := by decide +kernel
theorem dX11_topCard_51 : decode cX11_topCard 51 = .ok (.goto 19, 3) := by decide +kernel
theorem dX11_topCard_54 : decode cX11_topCard 54 = .ok (.aload_n 0, 1) := by decide +kernel
theorem dX11_topCard_55 : decode cX11_topCard 55 = .ok (.iload_n 1, 1) := by decide +kernel
theorem dX11_topCard_56 : decode cX11_topCard 56 = .ok (.aload_n 0, 1) := by decide +kernel
theorem dX11_topCard_57 : decode cX11_topCard 57 = .ok (.getfield 35, 3) := by decide +kernel
theorem dX11_topCard_60 : decode cX11_topCard 60 = .ok (.bipush 14, 2) := by decide +kernel
theorem dX11_topCard_62 : decode cX11_topCard 62 = .ok (.iload_n 1, 1) := by decide +kernel
theorem dX11_topCard_63 : decode cX11_topCard 63 = .ok (.iadd, 1) := by decide +kernel
theorem dX11_topCard_64 : decode cX11_topCard 64 = .ok (.iaload, 1) := by decide +kernel
theorem dX11_topCard_65 : decode cX11_topCard 65 = .ok (.iconst 1, 1) := by decide +kernel
theorem dX11_topCard_66 : decode cX11_topCard 66 = .ok (.isub, 1) := by decide +kernel
theorem dX11_topCard_67 : decode cX11_topCard 67 = .ok (.invokevirtual 321, 3) := by decide +kernel
theorem dX11_topCard_70 : decode cX11_topCard 70 = .ok (.ireturn, 1) := by decide +kernel
theorem dX11_topOf_0 : decode cX11_topOf 0 = .ok (.aload_n 0, 1) := by decide +kernel
theorem dX11_topOf_1 : decode cX11_topOf 1 = .ok (.iconst 0, 1) := by decide +kernel
theorem dX11_topOf_2 : decode cX11_topOf 2 = .ok (.putfield 59, 3) := by decide +kernel
theorem dX11_topOf_5 : decode cX11_topOf 5 = .ok (.aload_n 0, 1) := by decide +kernel
theorem dX11_topOf_6 : decode cX11_topOf 6 = .ok (.iconst 0, 1) := by decide +kernel
theorem dX11_topOf_7 : decode cX11_topOf 7 = .ok (.putfield 62, 3) := by decide +kernel
theorem dX11_topOf_10 : decode cX11_topOf 10 = .ok (.aload_n 0, 1) := by decide +kernel
theorem dX11_topOf_11 : decode cX11_topOf 11 = .ok (.iload_n 1, 1) := by decide +kernel
theorem dX11_topOf_12 : decode cX11_topOf 12 = .ok (.invokevirtual 324, 3) := by decide +kernel
theorem dX11_topOf_15 : decode cX11_topOf 15 = .ok (.ifCond .ne 9, 3) := by decide +kernel
theorem dX11_topOf_18 : decode cX11_topOf 18 = .ok (.aload_n 0, 1) := by decide +kernel
theorem dX11_topOf_19 : decode cX11_topOf 19 = .ok (.iconst 2, 1) := by decide +kernel
theorem dX11_topOf_20 : decode cX11_topOf 20 = .ok (.invokevirtual 312, 3) := by decide +kernel
theorem dX11_topOf_23 : decode cX11_topOf 23 = .ok (.ireturn, 1) := by decide +kernel
theorem dX11_topOf_24 : decode cX11_topOf 24 = .ok (.aload_n 0, 1) := by decide +kernel
theorem dX11_topOf_25 : decode cX11_topOf 25 = .ok (.iload_n 1, 1) := by decide +kernel
theorem dX11_topOf_26 : decode cX11_topOf 26 = .ok (.invokevirtual 327, 3) := by decide +kernel
theorem dX11_topOf_29 : decode cX11_topOf 29 = .ok (.istore_n 2, 1) := by decide +kernel
theorem dX11_topOf_30 : decode cX11_topOf 30 = .ok (.iload_n 2, 1) := by decide +kernel
theorem dX11_topOf_31 : decode cX11_topOf 31 = .ok (.ifCond .ge 12, 3) := by decide +kernel
theorem dX11_topOf_34 : decode cX11_topOf 34 = .ok (.aload_n 0, 1) := by decide +kernel
theorem dX11_topOf_35 : decode cX11_topOf 35 = .ok (.bipush 8, 2) := by decide +kernel
theorem dX11_topOf_37 : decode cX11_topOf 37 = .ok (.invokevirtual 312, 3) := by decide +kernel
theorem dX11_topOf_40 : decode cX11_topOf 40 = .ok (.goto 4, 3) := by decide +kernel
theorem dX11_topOf_43 : decode cX11_topOf 43 = .ok (.iload_n 2, 1) := by decide +kernel
theorem dX11_topOf_44 : decode cX11_topOf 44 = .ok (.ireturn, 1) := by decide +kernel
theorem dX11_stockAt_0 : decode cX11_stockAt 0 = .ok (.aload_n 0, 1) := by decide +kernel
theorem dX11_stockAt_1 : decode cX11_stockAt 1 = .ok (.iconst 0, 1) := by decide +kernel
theorem dX11_stockAt_2 : decode cX11_stockAt 2 = .ok (.putfield 59, 3) := by decide +kernel
theorem dX11_stockAt_5 : decode cX11_stockAt 5 = .ok (.aload_n 0, 1) := by decide +kernel
theorem dX11_stockAt_6 : decode cX11_stockAt 6 = .ok (.iconst 0, 1) := by decide +kernel
theorem dX11_stockAt_7 : decode cX11_stockAt 7 = .ok (.putfield 62, 3) := by decide +kernel
theorem dX11_stockAt_10 : decode cX11_stockAt 10 = .ok (.iload_n 1, 1) := by decide +kernel
theorem dX11_stockAt_11 : decode cX11_stockAt 11 = .ok (.i2l, 1) := by decide +kernel
theorem dX11_stockAt_12 : decode cX11_stockAt 12 = .ok (.lconst 0, 1) := by decide +kernel
theorem dX11_stockAt_13 : decode cX11_stockAt 13 = .ok (.aload_n 0, 1) := by decide +kernel
theorem dX11_stockAt_14 : decode cX11_stockAt 14 = .ok (.getfield 35, 3) := by decide +kernel
theorem dX11_stockAt_17 : decode cX11_stockAt 17 = .ok (.bipush 8, 2) := by decide +kernel
theorem dX11_stockAt_19 : decode cX11_stockAt 19 = .ok (.iaload, 1) := by decide +kernel
theorem dX11_stockAt_20 : decode cX11_stockAt 20 = .ok (.iconst 1, 1) := by decide +kernel
theorem dX11_stockAt_21 : decode cX11_stockAt 21 = .ok (.isub, 1) := by decide +kernel
theorem dX11_stockAt_22 : decode cX11_stockAt 22 = .ok (.i2l, 1) := by decide +kernel
theorem dX11_stockAt_23 : decode cX11_stockAt 23 = .ok (.invokestatic 94, 3) := by decide +kernel
theorem dX11_stockAt_26 : decode cX11_stockAt 26 = .ok (.ifCond .eq 15, 3) := by decide +kernel
theorem dX11_stockAt_29 : decode cX11_stockAt 29 = .ok (.aload_n 0, 1) := by decide +kernel
theorem dX11_stockAt_30 : decode cX11_stockAt 30 = .ok (.getfield 35, 3) := by decide +kernel
theorem dX11_stockAt_33 : decode cX11_stockAt 33 = .ok (.bipush 92, 2) := by decide +kernel
theorem dX11_stockAt_35 : decode cX11_stockAt 35 = .ok (.iload_n 1, 1) := by decide +kernel
theorem dX11_stockAt_36 : decode cX11_stockAt 36 = .ok (.iadd, 1) := by decide +kernel
theorem dX11_stockAt_37 : decode cX11_stockAt 37 = .ok (.iaload, 1) := by decide +kernel
theorem dX11_stockAt_38 : decode cX11_stockAt 38 = .ok (.goto 9, 3) := by decide +kernel
theorem dX11_stockAt_41 : decode cX11_stockAt 41 = .ok (.aload_n 0, 1) := by decide +kernel
theorem dX11_stockAt_42 : decode cX11_stockAt 42 = .ok (.bipush 8, 2) := by decide +kernel
theorem dX11_stockAt_44 : decode cX11_stockAt 44 = .ok (.invokevirtual 312, 3) := by decide +kernel
theorem dX11_stockAt_47 : decode cX11_stockAt 47 = .ok (.ireturn, 1) := by decide +kernel
theorem dX11_homeOf_0 : decode cX11_homeOf 0 = .ok (.aload_n 0, 1) := by decide +kernel
theorem dX11_homeOf_1 : decode cX11_homeOf 1 = .ok (.iconst 0, 1) := by decide +kernel
theorem dX11_homeOf_2 : decode cX11_homeOf 2 = .ok (.putfield 59, 3) := by decide +kernel
theorem dX11_homeOf_5 : decode cX11_homeOf 5 = .ok (.aload_n 0, 1) := by decide +kernel
theorem dX11_homeOf_6 : decode cX11_homeOf 6 = .ok (.iconst 0, 1) := by decide +kernel
theorem dX11_homeOf_7 : decode cX11_homeOf 7 = .ok (.putfield 62, 3) := by decide +kernel
theorem dX11_homeOf_10 : decode cX11_homeOf 10 = .ok (.aload_n 0, 1) := by decide +kernel
theorem dX11_homeOf_11 : decode cX11_homeOf 11 = .ok (.iload_n 1, 1) := by decide +kernel
theorem dX11_homeOf_12 : decode cX11_homeOf 12 = .ok (.invokevirtual 330, 3) := by decide +kernel
theorem dX11_homeOf_15 : decode cX11_homeOf 15 = .ok (.ifCond .eq 15, 3) := by decide +kernel
theorem dX11_homeOf_18 : decode cX11_homeOf 18 = .ok (.aload_n 0, 1) := by decide +kernel
theorem dX11_homeOf_19 : decode cX11_homeOf 19 = .ok (.getfield 35, 3) := by decide +kernel
theorem dX11_homeOf_22 : decode cX11_homeOf 22 = .ok (.bipush 10, 2) := by decide +kernel
theorem dX11_homeOf_24 : decode cX11_homeOf 24 = .ok (.iload_n 1, 1) := by decide +kernel
theorem dX11_homeOf_25 : decode cX11_homeOf 25 = .ok (.iadd, 1) := by decide +kernel
theorem dX11_homeOf_26 : decode cX11_homeOf 26 = .ok (.iaload, 1) := by decide +kernel
theorem dX11_homeOf_27 : decode cX11_homeOf 27 = .ok (.goto 8, 3) := by decide +kernel
theorem dX11_homeOf_30 : decode cX11_homeOf 30 = .ok (.aload_n 0, 1) := by decide +kernel
theorem dX11_homeOf_31 : decode cX11_homeOf 31 = .ok (.iconst 2, 1) := by decide +kernel
theorem dX11_homeOf_32 : decode cX11_homeOf 32 = .ok (.invokevirtual 312, 3) := by decide +kernel
theorem dX11_homeOf_35 : decode cX11_homeOf 35 = .ok (.ireturn, 1) := by decide +kernel
theorem dX11_field_0 : decode cX11_field 0 = .ok (.aload_n 0, 1) := by decide +kernel
theorem dX11_field_1 : decode cX11_field 1 = .ok (.iconst 0, 1) := by decide +kernel
theorem dX11_field_2 : decode cX11_field 2 = .ok (.putfield 59, 3) := by decide +kernel
theorem dX11_field_5 : decode cX11_field 5 = .ok (.aload_n 0, 1) := by decide +kernel
theorem dX11_field_6 : decode cX11_field 6 = .ok (.iconst 0, 1) := by decide +kernel
theorem dX11_field_7 : decode cX11_field 7 = .ok (.putfield 62, 3) := by decide +kernel
theorem dX11_field_10 : decode cX11_field 10 = .ok (.aload_n 0, 1) := by decide +kernel
theorem dX11_field_11 : decode cX11_field 11 = .ok (.iload_n 1, 1) := by decide +kernel
theorem dX11_field_12 : decode cX11_field 12 = .ok (.invokevirtual 333, 3) := by decide +kernel
theorem dX11_field_15 : decode cX11_field 15 = .ok (.ifCond .ne 9, 3) := by decide +kernel
theorem dX11_field_18 : decode cX11_field 18 = .ok (.aload_n 0, 1) := by decide +kernel
theorem dX11_field_19 : decode cX11_field 19 = .ok (.iconst 2, 1) := by decide +kernel
theorem dX11_field_20 : decode cX11_field 20 = .ok (.invokevirtual 312, 3) := by decide +kernel
theorem dX11_field_23 : decode cX11_field 23 = .ok (.ireturn, 1) := by decide +kernel
theorem dX11_field_24 : decode cX11_field 24 = .ok (.iload_n 2, 1) := by decide +kernel
theorem dX11_field_25 : decode cX11_field 25 = .ok (.i2l, 1) := by decide +kernel
theorem dX11_field_26 : decode cX11_field 26 = .ok (.lconst 0, 1) := by decide +kernel
theorem dX11_field_27 : decode cX11_field 27 = .ok (.ldc2_w 336, 3) := by decide +kernel
theorem dX11_field_30 : decode cX11_field 30 = .ok (.invokestatic 94, 3) := by decide +kernel
theorem dX11_field_33 : decode cX11_field 33 = .ok (.ifCond .eq 21, 3) := by decide +kernel
theorem dX11_field_36 : decode cX11_field 36 = .ok (.aload_n 0, 1) := by decide +kernel
theorem dX11_field_37 : decode cX11_field 37 = .ok (.getfield 35, 3) := by decide +kernel
theorem dX11_field_40 : decode cX11_field 40 = .ok (.sipush 140, 3) := by decide +kernel
theorem dX11_field_43 : decode cX11_field 43 = .ok (.bipush 6, 2) := by decide +kernel
theorem dX11_field_45 : decode cX11_field 45 = .ok (.iload_n 2, 1) := by decide +kernel
theorem dX11_field_46 : decode cX11_field 46 = .ok (.imul, 1) := by decide +kernel
theorem dX11_field_47 : decode cX11_field 47 = .ok (.iadd, 1) := by decide +kernel
theorem dX11_field_48 : decode cX11_field 48 = .ok (.iload_n 1, 1) := by decide +kernel
theorem dX11_field_49 : decode cX11_field 49 = .ok (.iadd, 1) := by decide +kernel
theorem dX11_field_50 : decode cX11_field 50 = .ok (.iaload, 1) := by decide +kernel
theorem dX11_field_51 : decode cX11_field 51 = .ok (.goto 8, 3) := by decide +kernel
theorem dX11_field_54 : decode cX11_field 54 = .ok (.aload_n 0, 1) := by decide +kernel
theorem dX11_field_55 : decode cX11_field 55 = .ok (.iconst 5, 1) := by decide +kernel
theorem dX11_field_56 : decode cX11_field 56 = .ok (.invokevirtual 312, 3) := by decide +kernel
theorem dX11_field_59 : decode cX11_field 59 = .ok (.ireturn, 1) := by decide +kernel
theorem dX11_copyRow_0 : decode cX11_copyRow 0 = .ok (.aload_n 0, 1) := by decide +kernel
theorem dX11_copyRow_1 : decode cX11_copyRow 1 = .ok (.iconst 0, 1) := by decide +kernel
theorem dX11_copyRow_2 : decode cX11_copyRow 2 = .ok (.putfield 59, 3) := by decide +kernel
theorem dX11_copyRow_5 : decode cX11_copyRow 5 = .ok (.aload_n 0, 1) := by decide +kernel
theorem dX11_copyRow_6 : decode cX11_copyRow 6 = .ok (.iconst 0, 1) := by decide +kernel
theorem dX11_copyRow_7 : decode cX11_copyRow 7 = .ok (.putfield 62, 3) := by decide +kernel
theorem dX11_copyRow_10 : decode cX11_copyRow 10 = .ok (.aload_n 0, 1) := by decide +kernel
theorem dX11_copyRow_11 : decode cX11_copyRow 11 = .ok (.iload_n 2, 1) := by decide +kernel
theorem dX11_copyRow_12 : decode cX11_copyRow 12 = .ok (.invokevirtual 338, 3) := by decide +kernel
theorem dX11_copyRow_15 : decode cX11_copyRow 15 = .ok (.ifCond .ne 9, 3) := by decide +kernel
theorem dX11_copyRow_18 : decode cX11_copyRow 18 = .ok (.aload_n 0, 1) := by decide +kernel
theorem dX11_copyRow_19 : decode cX11_copyRow 19 = .ok (.iconst 1, 1) := by decide +kernel
theorem dX11_copyRow_20 : decode cX11_copyRow 20 = .ok (.invokevirtual 312, 3) := by decide +kernel
theorem dX11_copyRow_23 : decode cX11_copyRow 23 = .ok (.ireturn, 1) := by decide +kernel
theorem dX11_copyRow_24 : decode cX11_copyRow 24 = .ok (.aload_n 0, 1) := by decide +kernel
theorem dX11_copyRow_25 : decode cX11_copyRow 25 = .ok (.iload_n 1, 1) := by decide +kernel
theorem dX11_copyRow_26 : decode cX11_copyRow 26 = .ok (.invokevirtual 307, 3) := by decide +kernel
theorem dX11_copyRow_29 : decode cX11_copyRow 29 = .ok (.ifCond .ne 9, 3) := by decide +kernel
theorem dX11_copyRow_32 : decode cX11_copyRow 32 = .ok (.aload_n 0, 1) := by decide +kernel
theorem dX11_copyRow_33 : decode cX11_copyRow 33 = .ok (.iconst 2, 1) := by decide +kernel
theorem dX11_copyRow_34 : decode cX11_copyRow 34 = .ok (.invokevirtual 312, 3) := by decide +kernel
theorem dX11_copyRow_37 : decode cX11_copyRow 37 = .ok (.ireturn, 1) := by decide +kernel
theorem dX11_copyRow_38 : decode cX11_copyRow 38 = .ok (.aload_n 0, 1) := by decide +kernel
theorem dX11_copyRow_39 : decode cX11_copyRow 39 = .ok (.getfield 17, 3) := by decide +kernel
theorem dX11_copyRow_42 : decode cX11_copyRow 42 = .ok (.iload_n 2, 1) := by decide +kernel
theorem dX11_copyRow_43 : decode cX11_copyRow 43 = .ok (.iaload, 1) := by decide +kernel
theorem dX11_copyRow_44 : decode cX11_copyRow 44 = .ok (.ifCond .ge 9, 3) := by decide +kernel
theorem dX11_copyRow_47 : decode cX11_copyRow 47 = .ok (.aload_n 0, 1) := by decide +kernel
theorem dX11_copyRow_48 : decode cX11_copyRow 48 = .ok (.iconst 3, 1) := by decide +kernel
theorem dX11_copyRow_49 : decode cX11_copyRow 49 = .ok (.invokevirtual 312, 3) := by decide +kernel
theorem dX11_copyRow_52 : decode cX11_copyRow 52 = .ok (.ireturn, 1) := by decide +kernel
theorem dX11_copyRow_53 : decode cX11_copyRow 53 = .ok (.aload_n 0, 1) := by decide +kernel
theorem dX11_copyRow_54 : decode cX11_copyRow 54 = .ok (.getfield 17, 3) := by decide +kernel
theorem dX11_copyRow_57 : decode cX11_copyRow 57 = .ok (.iload_n 2, 1) := by decide +kernel
theorem dX11_copyRow_58 : decode cX11_copyRow 58 = .ok (.iaload, 1) := by decide +kernel
theorem dX11_copyRow_59 : decode cX11_copyRow 59 = .ok (.aload_n 0, 1) := by decide +kernel
theorem dX11_copyRow_60 : decode cX11_copyRow 60 = .ok (.getfield 35, 3) := by decide +kernel
theorem dX11_copyRow_63 : decode cX11_copyRow 63 = .ok (.bipush 14, 2) := by decide +kernel
theorem dX11_copyRow_65 : decode cX11_copyRow 65 = .ok (.iload_n 1, 1) := by decide +kernel
theorem dX11_copyRow_66 : decode cX11_copyRow 66 = .ok (.iadd, 1) := by decide +kernel
theorem dX11_copyRow_67 : decode cX11_copyRow 67 = .ok (.iaload, 1) := by decide +kernel
theorem dX11_copyRow_68 : decode cX11_copyRow 68 = .ok (.if_icmp .ge 9, 3) := by decide +kernel
theorem dX11_copyRow_71 : decode cX11_copyRow 71 = .ok (.aload_n 0, 1) := by decide +kernel
theorem dX11_copyRow_72 : decode cX11_copyRow 72 = .ok (.iconst 4, 1) := by decide +kernel
theorem dX11_copyRow_73 : decode cX11_copyRow 73 = .ok (.invokevirtual 312, 3) := by decide +kernel
theorem dX11_copyRow_76 : decode cX11_copyRow 76 = .ok (.ireturn, 1) := by decide +kernel
theorem dX11_copyRow_77 : decode cX11_copyRow 77 = .ok (.iconst 0, 1) := by decide +kernel
theorem dX11_copyRow_78 : decode cX11_copyRow 78 = .ok (.istore_n 3, 1) := by decide +kernel
theorem dX11_copyRow_79 : decode cX11_copyRow 79 = .ok (.iload_n 3, 1) := by decide +kernel
theorem dX11_copyRow_80 : decode cX11_copyRow 80 = .ok (.aload_n 0, 1) := by decide +kernel
theorem dX11_copyRow_81 : decode cX11_copyRow 81 = .ok (.getfield 35, 3) := by decide +kernel
theorem dX11_copyRow_84 : decode cX11_copyRow 84 = .ok (.bipush 14, 2) := by decide +kernel
theorem dX11_copyRow_86 : decode cX11_copyRow 86 = .ok (.iload_n 1, 1) := by decide +kernel
theorem dX11_copyRow_87 : decode cX11_copyRow 87 = .ok (.iadd, 1) := by decide +kernel
theorem dX11_copyRow_88 : decode cX11_copyRow 88 = .ok (.iaload, 1) := by decide +kernel
theorem dX11_copyRow_89 : decode cX11_copyRow 89 = .ok (.if_icmp .ge 27, 3) := by decide +kernel
theorem dX11_copyRow_92 : decode cX11_copyRow 92 = .ok (.aload_n 0, 1) := by decide +kernel
theorem dX11_copyRow_93 : decode cX11_copyRow 93 = .ok (.getfield 20, 3) := by decide +kernel
theorem dX11_copyRow_96 : decode cX11_copyRow 96 = .ok (.bipush 60, 2) := by decide +kernel
theorem dX11_copyRow_98 : decode cX11_copyRow 98 = .ok (.iload_n 2, 1) := by decide +kernel
theorem dX11_copyRow_99 : decode cX11_copyRow 99 = .ok (.imul, 1) := by decide +kernel
theorem dX11_copyRow_100 : decode cX11_copyRow 100 = .ok (.iload_n 3, 1) := by decide +kernel
theorem dX11_copyRow_101 : decode cX11_copyRow 101 = .ok (.iadd, 1) := by decide +kernel
theorem dX11_copyRow_102 : decode cX11_copyRow 102 = .ok (.aload_n 0, 1) := by decide +kernel
theorem dX11_copyRow_103 : decode cX11_copyRow 103 = .ok (.iload_n 1, 1) := by decide +kernel
theorem dX11_copyRow_104 : decode cX11_copyRow 104 = .ok (.iload_n 3, 1) := by decide +kernel
theorem dX11_copyRow_105 : decode cX11_copyRow 105 = .ok (.invokevirtual 321, 3) := by decide +kernel
theorem dX11_copyRow_108 : decode cX11_copyRow 108 = .ok (.i2l, 1) := by decide +kernel
theorem dX11_copyRow_109 : decode cX11_copyRow 109 = .ok (.lastore, 1) := by decide +kernel
theorem dX11_copyRow_110 : decode cX11_copyRow 110 = .ok (.iinc 3 1, 3) := by decide +kernel
theorem dX11_copyRow_113 : decode cX11_copyRow 113 = .ok (.goto (-34), 3) := by decide +kernel
theorem dX11_copyRow_116 : decode cX11_copyRow 116 = .ok (.aload_n 0, 1) := by decide +kernel
theorem dX11_copyRow_117 : decode cX11_copyRow 117 = .ok (.getfield 35, 3) := by decide +kernel
theorem dX11_copyRow_120 : decode cX11_copyRow 120 = .ok (.bipush 14, 2) := by decide +kernel
theorem dX11_copyRow_122 : decode cX11_copyRow 122 = .ok (.iload_n 1, 1) := by decide +kernel
theorem dX11_copyRow_123 : decode cX11_copyRow 123 = .ok (.iadd, 1) := by decide +kernel
theorem dX11_copyRow_124 : decode cX11_copyRow 124 = .ok (.iaload, 1) := by decide +kernel
theorem dX11_copyRow_125 : decode cX11_copyRow 125 = .ok (.ireturn, 1) := by decide +kernel
theorem dX11_suitOf_0 : decode cX11_suitOf 0 = .ok (.iload_n 0, 1) := by decide +kernel
theorem dX11_suitOf_1 : decode cX11_suitOf 1 = .ok (.bipush 6, 2) := by decide +kernel
theorem dX11_suitOf_3 : decode cX11_suitOf 3 = .ok (.idiv, 1) := by decide +kernel
theorem dX11_suitOf_4 : decode cX11_suitOf 4 = .ok (.ireturn, 1) := by decide +kernel
theorem dX11_rankOf_0 : decode cX11_rankOf 0 = .ok (.iload_n 0, 1) := by decide +kernel
theorem dX11_rankOf_1 : decode cX11_rankOf 1 = .ok (.bipush 6, 2) := by decide +kernel
theorem dX11_rankOf_3 : decode cX11_rankOf 3 = .ok (.irem, 1) := by decide +kernel
theorem dX11_rankOf_4 : decode cX11_rankOf 4 = .ok (.iconst 1, 1) := by decide +kernel
theorem dX11_rankOf_5 : decode cX11_rankOf 5 = .ok (.iadd, 1) := by decide +kernel
theorem dX11_rankOf_6 : decode cX11_rankOf 6 = .ok (.ireturn, 1) := by decide +kernel
theorem dX11_goesHome_0 : decode cX11_goesHome 0 = .ok (.iload_n 1, 1) := by decide +kernel
theorem dX11_goesHome_1 : decode cX11_goesHome 1 = .ok (.ifCond .lt 28, 3) := by decide +kernel
theorem dX11_goesHome_4 : decode cX11_goesHome 4 = .ok (.iload_n 1, 1) := by decide +kernel
theorem dX11_goesHome_5 : decode cX11_goesHome 5 = .ok (.invokestatic 341, 3) := by decide +kernel
theorem dX11_goesHome_8 : decode cX11_goesHome 8 = .ok (.aload_n 0, 1) := by decide +kernel
theorem dX11_goesHome_9 : decode cX11_goesHome 9 = .ok (.getfield 35, 3) := by decide +kernel
theorem dX11_goesHome_12 : decode cX11_goesHome 12 = .ok (.bipush 10, 2) := by decide +kernel
theorem dX11_goesHome_14 : decode cX11_goesHome 14 = .ok (.iload_n 1, 1) := by decide +kernel
theorem dX11_goesHome_15 : decode cX11_goesHome 15 = .ok (.invokestatic 344, 3) := by decide +kernel
theorem dX11_goesHome_18 : decode cX11_goesHome 18 = .ok (.iadd, 1) := by decide +kernel
theorem dX11_goesHome_19 : decode cX11_goesHome 19 = .ok (.iaload, 1) := by decide +kernel
theorem dX11_goesHome_20 : decode cX11_goesHome 20 = .ok (.iconst 1, 1) := by decide +kernel
theorem dX11_goesHome_21 : decode cX11_goesHome 21 = .ok (.iadd, 1) := by decide +kernel
theorem dX11_goesHome_22 : decode cX11_goesHome 22 = .ok (.if_icmp .ne 7, 3) := by decide +kernel
theorem dX11_goesHome_25 : decode cX11_goesHome 25 = .ok (.iconst 1, 1) := by decide +kernel
theorem dX11_goesHome_26 : decode cX11_goesHome 26 = .ok (.goto 4, 3) := by decide +kernel
theorem dX11_goesHome_29 : decode cX11_goesHome 29 = .ok (.iconst 0, 1) := by decide +kernel
theorem dX11_goesHome_30 : decode cX11_goesHome 30 = .ok (.ireturn, 1) := by decide +kernel
theorem dX11_fits_0 : decode cX11_fits 0 = .ok (.iload_n 1, 1) := by decide +kernel
theorem dX11_fits_1 : decode cX11_fits 1 = .ok (.invokestatic 341, 3) := by decide +kernel
theorem dX11_fits_4 : decode cX11_fits 4 = .ok (.iload_n 2, 1) := by decide +kernel
theorem dX11_fits_5 : decode cX11_fits 5 = .ok (.invokestatic 341, 3) := by decide +kernel
theorem dX11_fits_8 : decode cX11_fits 8 = .ok (.iconst 1, 1) := by decide +kernel
theorem dX11_fits_9 : decode cX11_fits 9 = .ok (.isub, 1) := by decide +kernel
theorem dX11_fits_10 : decode cX11_fits 10 = .ok (.if_icmp .eq 5, 3) := by decide +kernel
theorem dX11_fits_13 : decode cX11_fits 13 = .ok (.iconst 0, 1) := by decide +kernel
theorem dX11_fits_14 : decode cX11_fits 14 = .ok (.ireturn, 1) := by decide +kernel
theorem dX11_fits_15 : decode cX11_fits 15 = .ok (.aload_n 0, 1) := by decide +kernel
theorem dX11_fits_16 : decode cX11_fits 16 = .ok (.getfield 35, 3) := by decide +kernel
theorem dX11_fits_19 : decode cX11_fits 19 = .ok (.iconst 2, 1) := by decide +kernel
theorem dX11_fits_20 : decode cX11_fits 20 = .ok (.iaload, 1) := by decide +kernel
theorem dX11_fits_21 : decode cX11_fits 21 = .ok (.ifCond .ne 40, 3) := by decide +kernel
theorem dX11_fits_24 : decode cX11_fits 24 = .ok (.aload_n 0, 1) := by decide +kernel
theorem dX11_fits_25 : decode cX11_fits 25 = .ok (.getfield 35, 3) := by decide +kernel
theorem dX11_fits_28 : decode cX11_fits 28 = .ok (.bipush 7, 2) := by decide +kernel
theorem dX11_fits_30 : decode cX11_fits 30 = .ok (.iaload, 1) := by decide +kernel
theorem dX11_fits_31 : decode cX11_fits 31 = .ok (.iload_n 1, 1) := by decide +kernel
theorem dX11_fits_32 : decode cX11_fits 32 = .ok (.invokestatic 344, 3) := by decide +kernel
theorem dX11_fits_35 : decode cX11_fits 35 = .ok (.invokestatic 244, 3) := by decide +kernel
theorem dX11_fits_38 : decode cX11_fits 38 = .ok (.aload_n 0, 1) := by decide +kernel
theorem dX11_fits_39 : decode cX11_fits 39 = .ok (.getfield 35, 3) := by decide +kernel
theorem dX11_fits_42 : decode cX11_fits 42 = .ok (.bipush 7, 2) := by decide +kernel
theorem dX11_fits_44 : decode cX11_fits 44 = .ok (.iaload, 1) := by decide +kernel
theorem dX11_fits_45 : decode cX11_fits 45 = .ok (.iload_n 2, 1) := by decide +kernel
theorem dX11_fits_46 : decode cX11_fits 46 = .ok (.invokestatic 344, 3) := by decide +kernel
theorem dX11_fits_49 : decode cX11_fits 49 = .ok (.invokestatic 244, 3) := by decide +kernel
theorem dX11_fits_52 : decode cX11_fits 52 = .ok (.if_icmp .eq 7, 3) := by decide +kernel
theorem dX11_fits_55 : decode cX11_fits 55 = .ok (.iconst 1, 1) := by decide +kernel
theorem dX11_fits_56 : decode cX11_fits 56 = .ok (.goto 4, 3) := by decide +kernel
theorem dX11_fits_59 : decode cX11_fits 59 = .ok (.iconst 0, 1) := by decide +kernel
theorem dX11_fits_60 : decode cX11_fits 60 = .ok (.ireturn, 1) := by decide +kernel
theorem dX11_fits_61 : decode cX11_fits 61 = .ok (.aload_n 0, 1) := by decide +kernel
theorem dX11_fits_62 : decode cX11_fits 62 = .ok (.getfield 35, 3) := by decide +kernel
theorem dX11_fits_65 : decode cX11_fits 65 = .ok (.iconst 2, 1) := by decide +kernel
theorem dX11_fits_66 : decode cX11_fits 66 = .ok (.iaload, 1) := by decide +kernel
theorem dX11_fits_67 : decode cX11_fits 67 = .ok (.iconst 1, 1) := by decide +kernel
theorem dX11_fits_68 : decode cX11_fits 68 = .ok (.if_icmp .eq 14, 3) := by decide +kernel
theorem dX11_fits_71 : decode cX11_fits 71 = .ok (.iload_n 1, 1) := by decide +kernel
theorem dX11_fits_72 : decode cX11_fits 72 = .ok (.invokestatic 344, 3) := by decide +kernel
theorem dX11_fits_75 : decode cX11_fits 75 = .ok (.iload_n 2, 1) := by decide +kernel
theorem dX11_fits_76 : decode cX11_fits 76 = .ok (.invokestatic 344, 3) := by decide +kernel
theorem dX11_fits_79 : decode cX11_fits 79 = .ok (.if_icmp .ne 7, 3) := by decide +kernel
theorem dX11_fits_82 : decode cX11_fits 82 = .ok (.iconst 1, 1) := by decide +kernel
theorem dX11_fits_83 : decode cX11_fits 83 = .ok (.goto 4, 3) := by decide +kernel
theorem dX11_fits_86 : decode cX11_fits 86 = .ok (.iconst 0, 1) := by decide +kernel
theorem dX11_fits_87 : decode cX11_fits 87 = .ok (.ireturn, 1) := by decide +kernel
theorem dX11_isMove_0 : decode cX11_isMove 0 = .ok (.aload_n 0, 1) := by decide +kernel
theorem dX11_isMove_1 : decode cX11_isMove 1 = .ok (.iload_n 1, 1) := by decide +kernel
theorem dX11_isMove_2 : decode cX11_isMove 2 = .ok (.invokevirtual 327, 3) := by decide +kernel
theorem dX11_isMove_5 : decode cX11_isMove 5 = .ok (.istore_n 3, 1) := by decide +kernel
theorem dX11_isMove_6 : decode cX11_isMove 6 = .ok (.iload_n 3, 1) := by decide +kernel
theorem dX11_isMove_7 : decode cX11_isMove 7 = .ok (.ifCond .lt 8, 3) := by decide +kernel
theorem dX11_isMove_10 : decode cX11_isMove 10 = .ok (.iload_n 1, 1) := by decide +kernel
theorem dX11_isMove_11 : decode cX11_isMove 11 = .ok (.iload_n 2, 1) := by decide +kernel
theorem dX11_isMove_12 : decode cX11_isMove 12 = .ok (.if_icmp .ne 5, 3) := by decide +kernel
theorem dX11_isMove_15 : decode cX11_isMove 15 = .ok (.iconst 0, 1) := by decide +kernel
theorem dX11_isMove_16 : decode cX11_isMove 16 = .ok (.ireturn, 1) := by decide +kernel
theorem dX11_isMove_17 : decode cX11_isMove 17 = .ok (.iload_n 2, 1) := by decide +kernel
theorem dX11_isMove_18 : decode cX11_isMove 18 = .ok (.bipush 7, 2) := by decide +kernel
theorem dX11_isMove_20 : decode cX11_isMove 20 = .ok (.if_icmp .ne 9, 3) := by decide +kernel
theorem dX11_isMove_23 : decode cX11_isMove 23 = .ok (.aload_n 0, 1) := by decide +kernel
theorem dX11_isMove_24 : decode cX11_isMove 24 = .ok (.iload_n 3, 1) := by decide +kernel
theorem dX11_isMove_25 : decode cX11_isMove 25 = .ok (.invokevirtual 347, 3) := by decide +kernel
theorem dX11_isMove_28 : decode cX11_isMove 28 = .ok (.ireturn, 1) := by decide +kernel
theorem dX11_isMove_29 : decode cX11_isMove 29 = .ok (.aload_n 0, 1) := by decide +kernel
theorem dX11_isMove_30 : decode cX11_isMove 30 = .ok (.getfield 35, 3) := by decide +kernel
theorem dX11_isMove_33 : decode cX11_isMove 33 = .ok (.bipush 14, 2) := by decide +kernel
theorem dX11_isMove_35 : decode cX11_isMove 35 = .ok (.iload_n 2, 1) := by decide +kernel
theorem dX11_isMove_36 : decode cX11_isMove 36 = .ok (.iadd, 1) := by decide +kernel
theorem dX11_isMove_37 : decode cX11_isMove 37 = .ok (.iaload, 1) := by decide +kernel
theorem dX11_isMove_38 : decode cX11_isMove 38 = .ok (.ifCond .ne 5, 3) := by decide +kernel
theorem dX11_isMove_41 : decode cX11_isMove 41 = .ok (.iconst 1, 1) := by decide +kernel
theorem dX11_isMove_42 : decode cX11_isMove 42 = .ok (.ireturn, 1) := by decide +kernel
theorem dX11_isMove_43 : decode cX11_isMove 43 = .ok (.aload_n 0, 1) := by decide +kernel
theorem dX11_isMove_44 : decode cX11_isMove 44 = .ok (.getfield 35, 3) := by decide +kernel
theorem dX11_isMove_47 : decode cX11_isMove 47 = .ok (.bipush 14, 2) := by decide +kernel
theorem dX11_isMove_49 : decode cX11_isMove 49 = .ok (.iload_n 2, 1) := by decide +kernel
theorem dX11_isMove_50 : decode cX11_isMove 50 = .ok (.iadd, 1) := by decide +kernel
theorem dX11_isMove_51 : decode cX11_isMove 51 = .ok (.iaload, 1) := by decide +kernel
theorem dX11_isMove_52 : decode cX11_isMove 52 = .ok (.bipush 12, 2) := by decide +kernel
theorem dX11_isMove_54 : decode cX11_isMove 54 = .ok (.if_icmp .ge 20, 3) := by decide +kernel
theorem dX11_isMove_57 : decode cX11_isMove 57 = .ok (.aload_n 0, 1) := by decide +kernel
theorem dX11_isMove_58 : decode cX11_isMove 58 = .ok (.iload_n 3, 1) := by decide +kernel
theorem dX11_isMove_59 : decode cX11_isMove 59 = .ok (.aload_n 0, 1) := by decide +kernel
theorem dX11_isMove_60 : decode cX11_isMove 60 = .ok (.iload_n 2, 1) := by decide +kernel
theorem dX11_isMove_61 : decode cX11_isMove 61 = .ok (.invokevirtual 327, 3) := by decide +kernel
theorem dX11_isMove_64 : decode cX11_isMove 64 = .ok (.invokevirtual 350, 3) := by decide +kernel
theorem dX11_isMove_67 : decode cX11_isMove 67 = .ok (.ifCond .eq 7, 3) := by decide +kernel
theorem dX11_isMove_70 : decode cX11_isMove 70 = .ok (.iconst 1, 1) := by decide +kernel
theorem dX11_isMove_71 : decode cX11_isMove 71 = .ok (.goto 4, 3) := by decide +kernel
theorem dX11_isMove_74 : decode cX11_isMove 74 = .ok (.iconst 0, 1) := by decide +kernel
theorem dX11_isMove_75 : decode cX11_isMove 75 = .ok (.ireturn, 1) := by decide +kernel
theorem dX11_waters_0 : decode cX11_waters 0 = .ok (.sipush 152, 3) := by decide +kernel
theorem dX11_waters_3 : decode cX11_waters 3 = .ok (.iload_n 1, 1) := by decide +kernel
theorem dX11_waters_4 : decode cX11_waters 4 = .ok (.iadd, 1) := by decide +kernel
theorem dX11_waters_5 : decode cX11_waters 5 = .ok (.istore_n 3, 1) := by decide +kernel
theorem dX11_waters_6 : decode cX11_waters 6 = .ok (.aload_n 0, 1) := by decide +kernel
theorem dX11_waters_7 : decode cX11_waters 7 = .ok (.getfield 35, 3) := by decide +kernel
theorem dX11_waters_10 : decode cX11_waters 10 = .ok (.iload_n 3, 1) := by decide +kernel
theorem dX11_waters_11 : decode cX11_waters 11 = .ok (.bipush 12, 2) := by decide +kernel
theorem dX11_waters_13 : decode cX11_waters 13 = .ok (.iadd, 1) := by decide +kernel
theorem dX11_waters_14 : decode cX11_waters 14 = .ok (.iaload, 1) := by decide +kernel
theorem dX11_waters_15 : decode cX11_waters 15 = .ok (.ifCond .eq 4, 3) := by decide +kernel
theorem dX11_waters_18 : decode cX11_waters 18 = .ok (.return_, 1) := by decide +kernel
theorem dX11_waters_19 : decode cX11_waters 19 = .ok (.aload_n 0, 1) := by decide +kernel
theorem dX11_waters_20 : decode cX11_waters 20 = .ok (.getfield 35, 3) := by decide +kernel
theorem dX11_waters_23 : decode cX11_waters 23 = .ok (.iload_n 3, 1) := by decide +kernel
theorem dX11_waters_24 : decode cX11_waters 24 = .ok (.dup2, 1) := by decide +kernel
theorem dX11_waters_25 : decode cX11_waters 25 = .ok (.iaload, 1) := by decide +kernel
theorem dX11_waters_26 : decode cX11_waters 26 = .ok (.iload_n 2, 1) := by decide +kernel
theorem dX11_waters_27 : decode cX11_waters 27 = .ok (.iadd, 1) := by decide +kernel
theorem dX11_waters_28 : decode cX11_waters 28 = .ok (.iastore, 1) := by decide +kernel
theorem dX11_waters_29 : decode cX11_waters 29 = .ok (.aload_n 0, 1) := by decide +kernel
theorem dX11_waters_30 : decode cX11_waters 30 = .ok (.getfield 35, 3) := by decide +kernel
theorem dX11_waters_33 : decode cX11_waters 33 = .ok (.iload_n 3, 1) := by decide +kernel
theorem dX11_waters_34 : decode cX11_waters 34 = .ok (.iaload, 1) := by decide +kernel
theorem dX11_waters_35 : decode cX11_waters 35 = .ok (.aload_n 0, 1) := by decide +kernel
theorem dX11_waters_36 : decode cX11_waters 36 = .ok (.getfield 35, 3) := by decide +kernel
theorem dX11_waters_39 : decode cX11_waters 39 = .ok (.iload_n 3, 1) := by decide +kernel
theorem dX11_waters_40 : decode cX11_waters 40 = .ok (.bipush 6, 2) := by decide +kernel
theorem dX11_waters_42 : decode cX11_waters 42 = .ok (.iadd, 1) := by decide +kernel
theorem dX11_waters_43 : decode cX11_waters 43 = .ok (.iaload, 1) := by decide +kernel
theorem dX11_waters_44 : decode cX11_waters 44 = .ok (.if_icmp .le 13, 3) := by decide +kernel
theorem dX11_waters_47 : decode cX11_waters 47 = .ok (.aload_n 0, 1) := by decide +kernel
theorem dX11_waters_48 : decode cX11_waters 48 = .ok (.getfield 35, 3) := by decide +kernel
theorem dX11_waters_51 : decode cX11_waters 51 = .ok (.iload_n 3, 1) := by decide +kernel
theorem dX11_waters_52 : decode cX11_waters 52 = .ok (.bipush 12, 2) := by decide +kernel
theorem dX11_waters_54 : decode cX11_waters 54 = .ok (.iadd, 1) := by decide +kernel
theorem dX11_waters_55 : decode cX11_waters 55 = .ok (.iconst 2, 1) := by decide +kernel
theorem dX11_waters_56 : decode cX11_waters 56 = .ok (.iastore, 1) := by decide +kernel
theorem dX11_waters_57 : decode cX11_waters 57 = .ok (.return_, 1) := by decide +kernel
theorem dX11_goes_0 : decode cX11_goes 0 = .ok (.aload_n 0, 1) := by decide +kernel
theorem dX11_goes_1 : decode cX11_goes 1 = .ok (.iload_n 1, 1) := by decide +kernel
theorem dX11_goes_2 : decode cX11_goes 2 = .ok (.invokevirtual 327, 3) := by decide +kernel
theorem dX11_goes_5 : decode cX11_goes 5 = .ok (.istore_n 3, 1) := by decide +kernel
theorem dX11_goes_6 : decode cX11_goes 6 = .ok (.iload_n 1, 1) := by decide +kernel
theorem dX11_goes_7 : decode cX11_goes 7 = .ok (.bipush 6, 2) := by decide +kernel
theorem dX11_goes_9 : decode cX11_goes 9 = .ok (.if_icmp .ne 17, 3) := by decide +kernel
theorem dX11_goes_12 : decode cX11_goes 12 = .ok (.aload_n 0, 1) := by decide +kernel
theorem dX11_goes_13 : decode cX11_goes 13 = .ok (.getfield 35, 3) := by decide +kernel
theorem dX11_goes_16 : decode cX11_goes 16 = .ok (.bipush 9, 2) := by decide +kernel
theorem dX11_goes_18 : decode cX11_goes 18 = .ok (.dup2, 1) := by decide +kernel
theorem dX11_goes_19 : decode cX11_goes 19 = .ok (.iaload, 1) := by decide +kernel
theorem dX11_goes_20 : decode cX11_goes 20 = .ok (.iconst 1, 1) := by decide +kernel
theorem dX11_goes_21 : decode cX11_goes 21 = .ok (.isub, 1) := by decide +kernel
theorem dX11_goes_22 : decode cX11_goes 22 = .ok (.iastore, 1) := by decide +kernel
theorem dX11_goes_23 : decode cX11_goes 23 = .ok (.goto 16, 3) := by decide +kernel
theorem dX11_goes_26 : decode cX11_goes 26 = .ok (.aload_n 0, 1) := by decide +kernel
theorem dX11_goes_27 : decode cX11_goes 27 = .ok (.getfield 35, 3) := by decide +kernel
theorem dX11_goes_30 : decode cX11_goes 30 = .ok (.bipush 14, 2) := by decide +kernel
theorem dX11_goes_32 : decode cX11_goes 32 = .ok (.iload_n 1, 1) := by decide +kernel
theorem dX11_goes_33 : decode cX11_goes 33 = .ok (.iadd, 1) := by decide +kernel
theorem dX11_goes_34 : decode cX11_goes 34 = .ok (.dup2, 1) := by decide +kernel
theorem dX11_goes_35 : decode cX11_goes 35 = .ok (.iaload, 1) := by decide +kernel
theorem dX11_goes_36 : decode cX11_goes 36 = .ok (.iconst 1, 1) := by decide +kernel
theorem dX11_goes_37 : decode cX11_goes 37 = .ok (.isub, 1) := by decide +kernel
theorem dX11_goes_38 : decode cX11_goes 38 = .ok (.iastore, 1) := by decide +kernel
theorem dX11_goes_39 : decode cX11_goes 39 = .ok (.iload_n 2, 1) := by decide +kernel
theorem dX11_goes_40 : decode cX11_goes 40 = .ok (.bipush 7, 2) := by decide +kernel
theorem dX11_goes_42 : decode cX11_goes 42 = .ok (.if_icmp .eq 41, 3) := by decide +kernel
theorem dX11_goes_45 : decode cX11_goes 45 = .ok (.aload_n 0, 1) := by decide +kernel
theorem dX11_goes_46 : decode cX11_goes 46 = .ok (.getfield 35, 3) := by decide +kernel
theorem dX11_goes_49 : decode cX11_goes 49 = .ok (.bipush 20, 2) := by decide +kernel
theorem dX11_goes_51 : decode cX11_goes 51 = .ok (.bipush 12, 2) := by decide +kernel
theorem dX11_goes_53 : decode cX11_goes 53 = .ok (.iload_n 2, 1) := by decide +kernel
theorem dX11_goes_54 : decode cX11_goes 54 = .ok (.imul, 1) := by decide +kernel
theorem dX11_goes_55 : decode cX11_goes 55 = .ok (.iadd, 1) := by decide +kernel
theorem dX11_goes_56 : decode cX11_goes 56 = .ok (.aload_n 0, 1) := by decide +kernel
theorem dX11_goes_57 : decode cX11_goes 57 = .ok (.getfield 35, 3) := by decide +kernel
theorem dX11_goes_60 : decode cX11_goes 60 = .ok (.bipush 14, 2) := by decide +kernel
theorem dX11_goes_62 : decode cX11_goes 62 = .ok (.iload_n 2, 1) := by decide +kernel
theorem dX11_goes_63 : decode cX11_goes 63 = .ok (.iadd, 1) := by decide +kernel
theorem dX11_goes_64 : decode cX11_goes 64 = .ok (.iaload, 1) := by decide +kernel
theorem dX11_goes_65 : decode cX11_goes 65 = .ok (.iadd, 1) := by decide +kernel
theorem dX11_goes_66 : decode cX11_goes 66 = .ok (.iload_n 3, 1) := by decide +kernel
theorem dX11_goes_67 : decode cX11_goes 67 = .ok (.iastore, 1) := by decide +kernel
theorem dX11_goes_68 : decode cX11_goes 68 = .ok (.aload_n 0, 1) := by decide +kernel
theorem dX11_goes_69 : decode cX11_goes 69 = .ok (.getfield 35, 3) := by decide +kernel
theorem dX11_goes_72 : decode cX11_goes 72 = .ok (.bipush 14, 2) := by decide +kernel
theorem dX11_goes_74 : decode cX11_goes 74 = .ok (.iload_n 2, 1) := by decide +kernel
theorem dX11_goes_75 : decode cX11_goes 75 = .ok (.iadd, 1) := by decide +kernel
theorem dX11_goes_76 : decode cX11_goes 76 = .ok (.dup2, 1) := by decide +kernel
theorem dX11_goes_77 : decode cX11_goes 77 = .ok (.iaload, 1) := by decide +kernel
theorem dX11_goes_78 : decode cX11_goes 78 = .ok (.iconst 1, 1) := by decide +kernel
theorem dX11_goes_79 : decode cX11_goes 79 = .ok (.iadd, 1) := by decide +kernel
theorem dX11_goes_80 : decode cX11_goes 80 = .ok (.iastore, 1) := by decide +kernel
theorem dX11_goes_81 : decode cX11_goes 81 = .ok (.iload_n 3, 1) := by decide +kernel
theorem dX11_goes_82 : decode cX11_goes 82 = .ok (.ireturn, 1) := by decide +kernel
theorem dX11_goes_83 : decode cX11_goes 83 = .ok (.aload_n 0, 1) := by decide +kernel
theorem dX11_goes_84 : decode cX11_goes 84 = .ok (.getfield 35, 3) := by decide +kernel
theorem dX11_goes_87 : decode cX11_goes 87 = .ok (.bipush 10, 2) := by decide +kernel
theorem dX11_goes_89 : decode cX11_goes 89 = .ok (.iload_n 3, 1) := by decide +kernel
theorem dX11_goes_90 : decode cX11_goes 90 = .ok (.invokestatic 344, 3) := by decide +kernel
theorem dX11_goes_93 : decode cX11_goes 93 = .ok (.iadd, 1) := by decide +kernel
theorem dX11_goes_94 : decode cX11_goes 94 = .ok (.dup2, 1) := by decide +kernel
theorem dX11_goes_95 : decode cX11_goes 95 = .ok (.iaload, 1) := by decide +kernel
theorem dX11_goes_96 : decode cX11_goes 96 = .ok (.iconst 1, 1) := by decide +kernel
theorem dX11_goes_97 : decode cX11_goes 97 = .ok (.iadd, 1) := by decide +kernel
theorem dX11_goes_98 : decode cX11_goes 98 = .ok (.iastore, 1) := by decide +kernel
theorem dX11_goes_99 : decode cX11_goes 99 = .ok (.iconst 0, 1) := by decide +kernel
theorem dX11_goes_100 : decode cX11_goes 100 = .ok (.istore 4, 2) := by decide +kernel
theorem dX11_goes_102 : decode cX11_goes 102 = .ok (.iload 4, 2) := by decide +kernel
theorem dX11_goes_104 : decode cX11_goes 104 = .ok (.aload_n 0, 1) := by decide +kernel
theorem dX11_goes_105 : decode cX11_goes 105 = .ok (.getfield 35, 3) := by decide +kernel
theorem dX11_goes_108 : decode cX11_goes 108 = .ok (.iconst 5, 1) := by decide +kernel
theorem dX11_goes_109 : decode cX11_goes 109 = .ok (.iaload, 1) := by decide +kernel
theorem dX11_goes_110 : decode cX11_goes 110 = .ok (.if_icmp .ge 37, 3) := by decide +kernel
theorem dX11_goes_113 : decode cX11_goes 113 = .ok (.aload_n 0, 1) := by decide +kernel
theorem dX11_goes_114 : decode cX11_goes 114 = .ok (.getfield 35, 3) := by decide +kernel
theorem dX11_goes_117 : decode cX11_goes 117 = .ok (.sipush 140, 3) := by decide +kernel
theorem dX11_goes_120 : decode cX11_goes 120 = .ok (.iload 4, 2) := by decide +kernel
theorem dX11_goes_122 : decode cX11_goes 122 = .ok (.iadd, 1) := by decide +kernel
theorem dX11_goes_123 : decode cX11_goes 123 = .ok (.iaload, 1) := by decide +kernel
theorem dX11_goes_124 : decode cX11_goes 124 = .ok (.iload_n 3, 1) := by decide +kernel
theorem dX11_goes_125 : decode cX11_goes 125 = .ok (.invokestatic 344, 3) := by decide +kernel
theorem dX11_goes_128 : decode cX11_goes 128 = .ok (.if_icmp .ne 13, 3) := by decide +kernel
theorem dX11_goes_131 : decode cX11_goes 131 = .ok (.aload_n 0, 1) := by decide +kernel
theorem dX11_goes_132 : decode cX11_goes 132 = .ok (.iload 4, 2) := by decide +kernel
theorem dX11_goes_134 : decode cX11_goes 134 = .ok (.iload_n 3, 1) := by decide +kernel
theorem dX11_goes_135 : decode cX11_goes 135 = .ok (.invokestatic 341, 3) := by decide +kernel
theorem dX11_goes_138 : decode cX11_goes 138 = .ok (.invokevirtual 353, 3) := by decide +kernel
theorem dX11_goes_141 : decode cX11_goes 141 = .ok (.iinc 4 1, 3) := by decide +kernel
theorem dX11_goes_144 : decode cX11_goes 144 = .ok (.goto (-42), 3) := by decide +kernel
theorem dX11_goes_147 : decode cX11_goes 147 = .ok (.iload_n 3, 1) := by decide +kernel
theorem dX11_goes_148 : decode cX11_goes 148 = .ok (.ireturn, 1) := by decide +kernel
theorem dX11_move_0 : decode cX11_move 0 = .ok (.aload_n 0, 1) := by decide +kernel
theorem dX11_move_1 : decode cX11_move 1 = .ok (.iconst 0, 1) := by decide +kernel
theorem dX11_move_2 : decode cX11_move 2 = .ok (.putfield 59, 3) := by decide +kernel
theorem dX11_move_5 : decode cX11_move 5 = .ok (.aload_n 0, 1) := by decide +kernel
theorem dX11_move_6 : decode cX11_move 6 = .ok (.iconst 0, 1) := by decide +kernel
theorem dX11_move_7 : decode cX11_move 7 = .ok (.putfield 62, 3) := by decide +kernel
theorem dX11_move_10 : decode cX11_move 10 = .ok (.aload_n 0, 1) := by decide +kernel
theorem dX11_move_11 : decode cX11_move 11 = .ok (.iload_n 1, 1) := by decide +kernel
theorem dX11_move_12 : decode cX11_move 12 = .ok (.invokevirtual 324, 3) := by decide +kernel
theorem dX11_move_15 : decode cX11_move 15 = .ok (.ifCond .eq 11, 3) := by decide +kernel
theorem dX11_move_18 : decode cX11_move 18 = .ok (.aload_n 0, 1) := by decide +kernel
theorem dX11_move_19 : decode cX11_move 19 = .ok (.iload_n 2, 1) := by decide +kernel
theorem dX11_move_20 : decode cX11_move 20 = .ok (.invokevirtual 356, 3) := by decide +kernel
theorem dX11_move_23 : decode cX11_move 23 = .ok (.ifCond .ne 9, 3) := by decide +kernel
theorem dX11_move_26 : decode cX11_move 26 = .ok (.aload_n 0, 1) := by decide +kernel
theorem dX11_move_27 : decode cX11_move 27 = .ok (.iconst 2, 1) := by decide +kernel
theorem dX11_move_28 : decode cX11_move 28 = .ok (.invokevirtual 312, 3) := by decide +kernel
theorem dX11_move_31 : decode cX11_move 31 = .ok (.ireturn, 1) := by decide +kernel
theorem dX11_move_32 : decode cX11_move 32 = .ok (.aload_n 0, 1) := by decide +kernel
theorem dX11_move_33 : decode cX11_move 33 = .ok (.iload_n 1, 1) := by decide +kernel
theorem dX11_move_34 : decode cX11_move 34 = .ok (.iload_n 2, 1) := by decide +kernel
theorem dX11_move_35 : decode cX11_move 35 = .ok (.invokevirtual 359, 3) := by decide +kernel
theorem dX11_move_38 : decode cX11_move 38 = .ok (.ifCond .eq 12, 3) := by decide +kernel
theorem dX11_move_41 : decode cX11_move 41 = .ok (.aload_n 0, 1) := by decide +kernel
theorem dX11_move_42 : decode cX11_move 42 = .ok (.iload_n 1, 1) := by decide +kernel
theorem dX11_move_43 : decode cX11_move 43 = .ok (.iload_n 2, 1) := by decide +kernel
theorem dX11_move_44 : decode cX11_move 44 = .ok (.invokevirtual 362, 3) := by decide +kernel
theorem dX11_move_47 : decode cX11_move 47 = .ok (.goto 9, 3) := by decide +kernel
theorem dX11_move_50 : decode cX11_move 50 = .ok (.aload_n 0, 1) := by decide +kernel
theorem dX11_move_51 : decode cX11_move 51 = .ok (.bipush 9, 2) := by decide +kernel
theorem dX11_move_53 : decode cX11_move 53 = .ok (.invokevirtual 312, 3) := by decide +kernel
theorem dX11_move_56 : decode cX11_move 56 = .ok (.ireturn, 1) := by decide +kernel
theorem dX11_deals_0 : decode cX11_deals 0 = .ok (.aload_n 0, 1) := by decide +kernel
theorem dX11_deals_1 : decode cX11_deals 1 = .ok (.getfield 35, 3) := by decide +kernel
theorem dX11_deals_4 : decode cX11_deals 4 = .ok (.bipush 8, 2) := by decide +kernel
theorem dX11_deals_6 : decode cX11_deals 6 = .ok (.iaload, 1) := by decide +kernel
theorem dX11_deals_7 : decode cX11_deals 7 = .ok (.ifCond .ne 100, 3) := by decide +kernel
theorem dX11_deals_10 : decode cX11_deals 10 = .ok (.aload_n 0, 1) := by decide +kernel
theorem dX11_deals_11 : decode cX11_deals 11 = .ok (.getfield 35, 3) := by decide +kernel
theorem dX11_deals_14 : decode cX11_deals 14 = .ok (.iconst 3, 1) := by decide +kernel
theorem dX11_deals_15 : decode cX11_deals 15 = .ok (.iaload, 1) := by decide +kernel
theorem dX11_deals_16 : decode cX11_deals 16 = .ok (.ifCond .eq 13, 3) := by decide +kernel
theorem dX11_deals_19 : decode cX11_deals 19 = .ok (.aload_n 0, 1) := by decide +kernel
theorem dX11_deals_20 : decode cX11_deals 20 = .ok (.getfield 35, 3) := by decide +kernel
theorem dX11_deals_23 : decode cX11_deals 23 = .ok (.bipush 9, 2) := by decide +kernel
theorem dX11_deals_25 : decode cX11_deals 25 = .ok (.iaload, 1) := by decide +kernel
theorem dX11_deals_26 : decode cX11_deals 26 = .ok (.ifCond .ne 5, 3) := by decide +kernel
theorem dX11_deals_29 : decode cX11_deals 29 = .ok (.iconst 0, 1) := by decide +kernel
theorem dX11_deals_30 : decode cX11_deals 30 = .ok (.ireturn, 1) := by decide +kernel
theorem dX11_deals_31 : decode cX11_deals 31 = .ok (.iconst 0, 1) := by decide +kernel
theorem dX11_deals_32 : decode cX11_deals 32 = .ok (.istore_n 1, 1) := by decide +kernel
theorem dX11_deals_33 : decode cX11_deals 33 = .ok (.iload_n 1, 1) := by decide +kernel
theorem dX11_deals_34 : decode cX11_deals 34 = .ok (.aload_n 0, 1) := by decide +kernel
theorem dX11_deals_35 : decode cX11_deals 35 = .ok (.getfield 35, 3) := by decide +kernel
theorem dX11_deals_38 : decode cX11_deals 38 = .ok (.bipush 9, 2) := by decide +kernel
theorem dX11_deals_40 : decode cX11_deals 40 = .ok (.iaload, 1) := by decide +kernel
theorem dX11_deals_41 : decode cX11_deals 41 = .ok (.if_icmp .ge 27, 3) := by decide +kernel
theorem dX11_deals_44 : decode cX11_deals 44 = .ok (.aload_n 0, 1) := by decide +kernel
theorem dX11_deals_45 : decode cX11_deals 45 = .ok (.getfield 35, 3) := by decide +kernel
theorem dX11_deals_48 : decode cX11_deals 48 = .ok (.bipush 92, 2) := by decide +kernel
theorem dX11_deals_50 : decode cX11_deals 50 = .ok (.iload_n 1, 1) := by decide +kernel
theorem dX11_deals_51 : decode cX11_deals 51 = .ok (.iadd, 1) := by decide +kernel
theorem dX11_deals_52 : decode cX11_deals 52 = .ok (.aload_n 0, 1) := by decide +kernel
theorem dX11_deals_53 : decode cX11_deals 53 = .ok (.getfield 35, 3) := by decide +kernel
theorem dX11_deals_56 : decode cX11_deals 56 = .ok (.bipush 116, 2) := by decide +kernel
theorem dX11_deals_58 : decode cX11_deals 58 = .ok (.iload_n 1, 1) := by decide +kernel
theorem dX11_deals_59 : decode cX11_deals 59 = .ok (.iadd, 1) := by decide +kernel
theorem dX11_deals_60 : decode cX11_deals 60 = .ok (.iaload, 1) := by decide +kernel
theorem dX11_deals_61 : decode cX11_deals 61 = .ok (.iastore, 1) := by decide +kernel
theorem dX11_deals_62 : decode cX11_deals 62 = .ok (.iinc 1 1, 3) := by decide +kernel
theorem dX11_deals_65 : decode cX11_deals 65 = .ok (.goto (-32), 3) := by decide +kernel
theorem dX11_deals_68 : decode cX11_deals 68 = .ok (.aload_n 0, 1) := by decide +kernel
theorem dX11_deals_69 : decode cX11_deals 69 = .ok (.getfield 35, 3) := by decide +kernel
theorem dX11_deals_72 : decode cX11_deals 72 = .ok (.bipush 8, 2) := by decide +kernel
theorem dX11_deals_74 : decode cX11_deals 74 = .ok (.aload_n 0, 1) := by decide +kernel
theorem dX11_deals_75 : decode cX11_deals 75 = .ok (.getfield 35, 3) := by decide +kernel
theorem dX11_deals_78 : decode cX11_deals 78 = .ok (.bipush 9, 2) := by decide +kernel
theorem dX11_deals_80 : decode cX11_deals 80 = .ok (.iaload, 1) := by decide +kernel
theorem dX11_deals_81 : decode cX11_deals 81 = .ok (.iastore, 1) := by decide +kernel
theorem dX11_deals_82 : decode cX11_deals 82 = .ok (.aload_n 0, 1) := by decide +kernel
theorem dX11_deals_83 : decode cX11_deals 83 = .ok (.getfield 35, 3) := by decide +kernel
theorem dX11_deals_86 : decode cX11_deals 86 = .ok (.bipush 9, 2) := by decide +kernel
theorem dX11_deals_88 : decode cX11_deals 88 = .ok (.iconst 0, 1) := by decide +kernel
theorem dX11_deals_89 : decode cX11_deals 89 = .ok (.iastore, 1) := by decide +kernel
theorem dX11_deals_90 : decode cX11_deals 90 = .ok (.aload_n 0, 1) := by decide +kernel
theorem dX11_deals_91 : decode cX11_deals 91 = .ok (.getfield 35, 3) := by decide +kernel
theorem dX11_deals_94 : decode cX11_deals 94 = .ok (.iconst 3, 1) := by decide +kernel
theorem dX11_deals_95 : decode cX11_deals 95 = .ok (.dup2, 1) := by decide +kernel
theorem dX11_deals_96 : decode cX11_deals 96 = .ok (.iaload, 1) := by decide +kernel
theorem dX11_deals_97 : decode cX11_deals 97 = .ok (.iconst 1, 1) := by decide +kernel
theorem dX11_deals_98 : decode cX11_deals 98 = .ok (.isub, 1) := by decide +kernel
theorem dX11_deals_99 : decode cX11_deals 99 = .ok (.iastore, 1) := by decide +kernel
theorem dX11_deals_100 : decode cX11_deals 100 = .ok (.aload_n 0, 1) := by decide +kernel
theorem dX11_deals_101 : decode cX11_deals 101 = .ok (.iconst (-1), 1) := by decide +kernel
theorem dX11_deals_102 : decode cX11_deals 102 = .ok (.putfield 365, 3) := by decide +kernel
theorem dX11_deals_105 : decode cX11_deals 105 = .ok (.iconst 1, 1) := by decide +kernel
theorem dX11_deals_106 : decode cX11_deals 106 = .ok (.ireturn, 1) := by decide +kernel
theorem dX11_deals_107 : decode cX11_deals 107 = .ok (.aload_n 0, 1) := by decide +kernel
theorem dX11_deals_108 : decode cX11_deals 108 = .ok (.aload_n 0, 1) := by decide +kernel
theorem dX11_deals_109 : decode cX11_deals 109 = .ok (.getfield 35, 3) := by decide +kernel
theorem dX11_deals_112 : decode cX11_deals 112 = .ok (.bipush 92, 2) := by decide +kernel
theorem dX11_deals_114 : decode cX11_deals 114 = .ok (.iaload, 1) := by decide +kernel
theorem dX11_deals_115 : decode cX11_deals 115 = .ok (.putfield 365, 3) := by decide +kernel
theorem dX11_deals_118 : decode cX11_deals 118 = .ok (.aload_n 0, 1) := by decide +kernel
theorem dX11_deals_119 : decode cX11_deals 119 = .ok (.getfield 35, 3) := by decide +kernel
theorem dX11_deals_122 : decode cX11_deals 122 = .ok (.bipush 8, 2) := by decide +kernel
theorem dX11_deals_124 : decode cX11_deals 124 = .ok (.dup2, 1) := by decide +kernel
theorem dX11_deals_125 : decode cX11_deals 125 = .ok (.iaload, 1) := by decide +kernel
theorem dX11_deals_126 : decode cX11_deals 126 = .ok (.iconst 1, 1) := by decide +kernel
theorem dX11_deals_127 : decode cX11_deals 127 = .ok (.isub, 1) := by decide +kernel
theorem dX11_deals_128 : decode cX11_deals 128 = .ok (.iastore, 1) := by decide +kernel
theorem dX11_deals_129 : decode cX11_deals 129 = .ok (.iconst 0, 1) := by decide +kernel
theorem dX11_deals_130 : decode cX11_deals 130 = .ok (.istore_n 1, 1) := by decide +kernel
theorem dX11_deals_131 : decode cX11_deals 131 = .ok (.iload_n 1, 1) := by decide +kernel
theorem dX11_deals_132 : decode cX11_deals 132 = .ok (.aload_n 0, 1) := by decide +kernel
theorem dX11_deals_133 : decode cX11_deals 133 = .ok (.getfield 35, 3) := by decide +kernel
theorem dX11_deals_136 : decode cX11_deals 136 = .ok (.bipush 8, 2) := by decide +kernel
theorem dX11_deals_138 : decode cX11_deals 138 = .ok (.iaload, 1) := by decide +kernel
theorem dX11_deals_139 : decode cX11_deals 139 = .ok (.if_icmp .ge 29, 3) := by decide +kernel
theorem dX11_deals_142 : decode cX11_deals 142 = .ok (.aload_n 0, 1) := by decide +kernel
theorem dX11_deals_143 : decode cX11_deals 143 = .ok (.getfield 35, 3) := by decide +kernel
theorem dX11_deals_146 : decode cX11_deals 146 = .ok (.bipush 92, 2) := by decide +kernel
theorem dX11_deals_148 : decode cX11_deals 148 = .ok (.iload_n 1, 1) := by decide +kernel
theorem dX11_deals_149 : decode cX11_deals 149 = .ok (.iadd, 1) := by decide +kernel
theorem dX11_deals_150 : decode cX11_deals 150 = .ok (.aload_n 0, 1) := by decide +kernel
theorem dX11_deals_151 : decode cX11_deals 151 = .ok (.getfield 35, 3) := by decide +kernel
theorem dX11_deals_154 : decode cX11_deals 154 = .ok (.bipush 92, 2) := by decide +kernel
theorem dX11_deals_156 : decode cX11_deals 156 = .ok (.iload_n 1, 1) := by decide +kernel
theorem dX11_deals_157 : decode cX11_deals 157 = .ok (.iadd, 1) := by decide +kernel
theorem dX11_deals_158 : decode cX11_deals 158 = .ok (.iconst 1, 1) := by decide +kernel
theorem dX11_deals_159 : decode cX11_deals 159 = .ok (.iadd, 1) := by decide +kernel
theorem dX11_deals_160 : decode cX11_deals 160 = .ok (.iaload, 1) := by decide +kernel
theorem dX11_deals_161 : decode cX11_deals 161 = .ok (.iastore, 1) := by decide +kernel
theorem dX11_deals_162 : decode cX11_deals 162 = .ok (.iinc 1 1, 3) := by decide +kernel
theorem dX11_deals_165 : decode cX11_deals 165 = .ok (.goto (-34), 3) := by decide +kernel
theorem dX11_deals_168 : decode cX11_deals 168 = .ok (.aload_n 0, 1) := by decide +kernel
theorem dX11_deals_169 : decode cX11_deals 169 = .ok (.getfield 35, 3) := by decide +kernel
theorem dX11_deals_172 : decode cX11_deals 172 = .ok (.bipush 116, 2) := by decide +kernel
theorem dX11_deals_174 : decode cX11_deals 174 = .ok (.aload_n 0, 1) := by decide +kernel
theorem dX11_deals_175 : decode cX11_deals 175 = .ok (.getfield 35, 3) := by decide +kernel
theorem dX11_deals_178 : decode cX11_deals 178 = .ok (.bipush 9, 2) := by decide +kernel
theorem dX11_deals_180 : decode cX11_deals 180 = .ok (.iaload, 1) := by decide +kernel
theorem dX11_deals_181 : decode cX11_deals 181 = .ok (.iadd, 1) := by decide +kernel
theorem dX11_deals_182 : decode cX11_deals 182 = .ok (.aload_n 0, 1) := by decide +kernel
theorem dX11_deals_183 : decode cX11_deals 183 = .ok (.getfield 365, 3) := by decide +kernel
theorem dX11_deals_186 : decode cX11_deals 186 = .ok (.iastore, 1) := by decide +kernel
theorem dX11_deals_187 : decode cX11_deals 187 = .ok (.aload_n 0, 1) := by decide +kernel
theorem dX11_deals_188 : decode cX11_deals 188 = .ok (.getfield 35, 3) := by decide +kernel
theorem dX11_deals_191 : decode cX11_deals 191 = .ok (.bipush 9, 2) := by decide +kernel
theorem dX11_deals_193 : decode cX11_deals 193 = .ok (.dup2, 1) := by decide +kernel
theorem dX11_deals_194 : decode cX11_deals 194 = .ok (.iaload, 1) := by decide +kernel
theorem dX11_deals_195 : decode cX11_deals 195 = .ok (.iconst 1, 1) := by decide +kernel
theorem dX11_deals_196 : decode cX11_deals 196 = .ok (.iadd, 1) := by decide +kernel
theorem dX11_deals_197 : decode cX11_deals 197 = .ok (.iastore, 1) := by decide +kernel
theorem dX11_deals_198 : decode cX11_deals 198 = .ok (.iconst 1, 1) := by decide +kernel
theorem dX11_deals_199 : decode cX11_deals 199 = .ok (.ireturn, 1) := by decide +kernel
theorem dX11_deal_0 : decode cX11_deal 0 = .ok (.aload_n 0, 1) := by decide +kernel
theorem dX11_deal_1 : decode cX11_deal 1 = .ok (.iconst 0, 1) := by decide +kernel
theorem dX11_deal_2 : decode cX11_deal 2 = .ok (.putfield 59, 3) := by decide +kernel
theorem dX11_deal_5 : decode cX11_deal 5 = .ok (.aload_n 0, 1) := by decide +kernel
theorem dX11_deal_6 : decode cX11_deal 6 = .ok (.iconst 0, 1) := by decide +kernel
theorem dX11_deal_7 : decode cX11_deal 7 = .ok (.putfield 62, 3) := by decide +kernel
theorem dX11_deal_10 : decode cX11_deal 10 = .ok (.aload_n 0, 1) := by decide +kernel
theorem dX11_deal_11 : decode cX11_deal 11 = .ok (.invokevirtual 368, 3) := by decide +kernel
theorem dX11_deal_14 : decode cX11_deal 14 = .ok (.ifCond .eq 10, 3) := by decide +kernel
theorem dX11_deal_17 : decode cX11_deal 17 = .ok (.aload_n 0, 1) := by decide +kernel
theorem dX11_deal_18 : decode cX11_deal 18 = .ok (.getfield 365, 3) := by decide +kernel
theorem dX11_deal_21 : decode cX11_deal 21 = .ok (.goto 9, 3) := by decide +kernel
theorem dX11_deal_24 : decode cX11_deal 24 = .ok (.aload_n 0, 1) := by decide +kernel
theorem dX11_deal_25 : decode cX11_deal 25 = .ok (.bipush 9, 2) := by decide +kernel
theorem dX11_deal_27 : decode cX11_deal 27 = .ok (.invokevirtual 312, 3) := by decide +kernel
theorem dX11_deal_30 : decode cX11_deal 30 = .ok (.ireturn, 1) := by decide +kernel
theorem dX11_runsAll_0 : decode cX11_runsAll 0 = .ok (.iconst 0, 1) := by decide +kernel
theorem dX11_runsAll_1 : decode cX11_runsAll 1 = .ok (.istore_n 1, 1) := by decide +kernel
theorem dX11_runsAll_2 : decode cX11_runsAll 2 = .ok (.iconst 0, 1) := by decide +kernel
theorem dX11_runsAll_3 : decode cX11_runsAll 3 = .ok (.istore_n 2, 1) := by decide +kernel
theorem dX11_runsAll_4 : decode cX11_runsAll 4 = .ok (.iload_n 2, 1) := by decide +kernel
theorem dX11_runsAll_5 : decode cX11_runsAll 5 = .ok (.iconst 4, 1) := by decide +kernel
theorem dX11_runsAll_6 : decode cX11_runsAll 6 = .ok (.if_icmp .ge 16, 3) := by decide +kernel
theorem dX11_runsAll_9 : decode cX11_runsAll 9 = .ok (.aload_n 0, 1) := by decide +kernel
theorem dX11_runsAll_10 : decode cX11_runsAll 10 = .ok (.getfield 47, 3) := by decide +kernel
theorem dX11_runsAll_13 : decode cX11_runsAll 13 = .ok (.iload_n 2, 1) := by decide +kernel
theorem dX11_runsAll_14 : decode cX11_runsAll 14 = .ok (.iconst 0, 1) := by decide +kernel
theorem dX11_runsAll_15 : decode cX11_runsAll 15 = .ok (.iastore, 1) := by decide +kernel
theorem dX11_runsAll_16 : decode cX11_runsAll 16 = .ok (.iinc 2 1, 3) := by decide +kernel
theorem dX11_runsAll_19 : decode cX11_runsAll 19 = .ok (.goto (-15), 3) := by decide +kernel
theorem dX11_runsAll_22 : decode cX11_runsAll 22 = .ok (.iconst 1, 1) := by decide +kernel
theorem dX11_runsAll_23 : decode cX11_runsAll 23 = .ok (.istore_n 2, 1) := by decide +kernel
theorem dX11_runsAll_24 : decode cX11_runsAll 24 = .ok (.iload_n 2, 1) := by decide +kernel
theorem dX11_runsAll_25 : decode cX11_runsAll 25 = .ok (.ifCond .eq 85, 3) := by decide +kernel
theorem dX11_runsAll_28 : decode cX11_runsAll 28 = .ok (.iconst 0, 1) := by decide +kernel
theorem dX11_runsAll_29 : decode cX11_runsAll 29 = .ok (.istore_n 2, 1) := by decide +kernel
theorem dX11_runsAll_30 : decode cX11_runsAll 30 = .ok (.iconst 0, 1) := by decide +kernel
theorem dX11_runsAll_31 : decode cX11_runsAll 31 = .ok (.istore_n 3, 1) := by decide +kernel
theorem dX11_runsAll_32 : decode cX11_runsAll 32 = .ok (.iload_n 3, 1) := by decide +kernel
theorem dX11_runsAll_33 : decode cX11_runsAll 33 = .ok (.bipush 6, 2) := by decide +kernel
theorem dX11_runsAll_35 : decode cX11_runsAll 35 = .ok (.if_icmp .gt 72, 3) := by decide +kernel
theorem dX11_runsAll_38 : decode cX11_runsAll 38 = .ok (.iload_n 3, 1) := by decide +kernel
theorem dX11_runsAll_39 : decode cX11_runsAll 39 = .ok (.bipush 6, 2) := by decide +kernel
theorem dX11_runsAll_41 : decode cX11_runsAll 41 = .ok (.if_icmp .ge 13, 3) := by decide +kernel
theorem dX11_runsAll_44 : decode cX11_runsAll 44 = .ok (.iload_n 3, 1) := by decide +kernel
theorem dX11_runsAll_45 : decode cX11_runsAll 45 = .ok (.aload_n 0, 1) := by decide +kernel
theorem dX11_runsAll_46 : decode cX11_runsAll 46 = .ok (.getfield 35, 3) := by decide +kernel
theorem dX11_runsAll_49 : decode cX11_runsAll 49 = .ok (.iconst 4, 1) := by decide +kernel
theorem dX11_runsAll_50 : decode cX11_runsAll 50 = .ok (.iaload, 1) := by decide +kernel
theorem dX11_runsAll_51 : decode cX11_runsAll 51 = .ok (.if_icmp .ge 50, 3) := by decide +kernel
theorem dX11_runsAll_54 : decode cX11_runsAll 54 = .ok (.aload_n 0, 1) := by decide +kernel
theorem dX11_runsAll_55 : decode cX11_runsAll 55 = .ok (.aload_n 0, 1) := by decide +kernel
theorem dX11_runsAll_56 : decode cX11_runsAll 56 = .ok (.iload_n 3, 1) := by decide +kernel
theorem dX11_runsAll_57 : decode cX11_runsAll 57 = .ok (.invokevirtual 327, 3) := by decide +kernel
theorem dX11_runsAll_60 : decode cX11_runsAll 60 = .ok (.invokevirtual 347, 3) := by decide +kernel
theorem dX11_runsAll_63 : decode cX11_runsAll 63 = .ok (.ifCond .ne 6, 3) := by decide +kernel
theorem dX11_runsAll_66 : decode cX11_runsAll 66 = .ok (.goto 35, 3) := by decide +kernel
theorem dX11_runsAll_69 : decode cX11_runsAll 69 = .ok (.aload_n 0, 1) := by decide +kernel
theorem dX11_runsAll_70 : decode cX11_runsAll 70 = .ok (.iload_n 3, 1) := by decide +kernel
theorem dX11_runsAll_71 : decode cX11_runsAll 71 = .ok (.bipush 7, 2) := by decide +kernel
theorem dX11_runsAll_73 : decode cX11_runsAll 73 = .ok (.invokevirtual 362, 3) := by decide +kernel
theorem dX11_runsAll_76 : decode cX11_runsAll 76 = .ok (.istore 4, 2) := by decide +kernel
theorem dX11_runsAll_78 : decode cX11_runsAll 78 = .ok (.aload_n 0, 1) := by decide +kernel
theorem dX11_runsAll_79 : decode cX11_runsAll 79 = .ok (.getfield 47, 3) := by decide +kernel
theorem dX11_runsAll_82 : decode cX11_runsAll 82 = .ok (.iload 4, 2) := by decide +kernel
theorem dX11_runsAll_84 : decode cX11_runsAll 84 = .ok (.invokestatic 344, 3) := by decide +kernel
theorem dX11_runsAll_87 : decode cX11_runsAll 87 = .ok (.dup2, 1) := by decide +kernel
theorem dX11_runsAll_88 : decode cX11_runsAll 88 = .ok (.iaload, 1) := by decide +kernel
theorem dX11_runsAll_89 : decode cX11_runsAll 89 = .ok (.iload 4, 2) := by decide +kernel
theorem dX11_runsAll_91 : decode cX11_runsAll 91 = .ok (.invokestatic 341, 3) := by decide +kernel
theorem dX11_runsAll_94 : decode cX11_runsAll 94 = .ok (.iadd, 1) := by decide +kernel
theorem dX11_runsAll_95 : decode cX11_runsAll 95 = .ok (.iastore, 1) := by decide +kernel
theorem dX11_runsAll_96 : decode cX11_runsAll 96 = .ok (.iinc 1 1, 3) := by decide +kernel
theorem dX11_runsAll_99 : decode cX11_runsAll 99 = .ok (.iconst 1, 1) := by decide +kernel
theorem dX11_runsAll_100 : decode cX11_runsAll 100 = .ok (.istore_n 2, 1) := by decide +kernel
theorem dX11_runsAll_101 : decode cX11_runsAll 101 = .ok (.iinc 3 1, 3) := by decide +kernel
theorem dX11_runsAll_104 : decode cX11_runsAll 104 = .ok (.goto (-72), 3) := by decide +kernel
theorem dX11_runsAll_107 : decode cX11_runsAll 107 = .ok (.goto (-83), 3) := by decide +kernel
theorem dX11_runsAll_110 : decode cX11_runsAll 110 = .ok (.iload_n 1, 1) := by decide +kernel
theorem dX11_runsAll_111 : decode cX11_runsAll 111 = .ok (.ireturn, 1) := by decide +kernel
theorem dX11_run_0 : decode cX11_run 0 = .ok (.aload_n 0, 1) := by decide +kernel
theorem dX11_run_1 : decode cX11_run 1 = .ok (.iconst 0, 1) := by decide +kernel
theorem dX11_run_2 : decode cX11_run 2 = .ok (.putfield 59, 3) := by decide +kernel
theorem dX11_run_5 : decode cX11_run 5 = .ok (.aload_n 0, 1) := by decide +kernel
theorem dX11_run_6 : decode cX11_run 6 = .ok (.iconst 0, 1) := by decide +kernel
theorem dX11_run_7 : decode cX11_run 7 = .ok (.putfield 62, 3) := by decide +kernel
theorem dX11_run_10 : decode cX11_run 10 = .ok (.aload_n 0, 1) := by decide +kernel
theorem dX11_run_11 : decode cX11_run 11 = .ok (.invokevirtual 371, 3) := by decide +kernel
theorem dX11_run_14 : decode cX11_run 14 = .ok (.ireturn, 1) := by decide +kernel
theorem dX11_goesDay_0 : decode cX11_goesDay 0 = .ok (.iconst 0, 1) := by decide +kernel
theorem dX11_goesDay_1 : decode cX11_goesDay 1 = .ok (.istore_n 1, 1) := by decide +kernel
theorem dX11_goesDay_2 : decode cX11_goesDay 2 = .ok (.iload_n 1, 1) := by decide +kernel
theorem dX11_goesDay_3 : decode cX11_goesDay 3 = .ok (.aload_n 0, 1) := by decide +kernel
theorem dX11_goesDay_4 : decode cX11_goesDay 4 = .ok (.getfield 35, 3) := by decide +kernel
theorem dX11_goesDay_7 : decode cX11_goesDay 7 = .ok (.iconst 5, 1) := by decide +kernel
theorem dX11_goesDay_8 : decode cX11_goesDay 8 = .ok (.iaload, 1) := by decide +kernel
theorem dX11_goesDay_9 : decode cX11_goesDay 9 = .ok (.if_icmp .ge 77, 3) := by decide +kernel
theorem dX11_goesDay_12 : decode cX11_goesDay 12 = .ok (.sipush 152, 3) := by decide +kernel
theorem dX11_goesDay_15 : decode cX11_goesDay 15 = .ok (.iload_n 1, 1) := by decide +kernel
theorem dX11_goesDay_16 : decode cX11_goesDay 16 = .ok (.iadd, 1) := by decide +kernel
theorem dX11_goesDay_17 : decode cX11_goesDay 17 = .ok (.istore_n 2, 1) := by decide +kernel
theorem dX11_goesDay_18 : decode cX11_goesDay 18 = .ok (.aload_n 0, 1) := by decide +kernel
theorem dX11_goesDay_19 : decode cX11_goesDay 19 = .ok (.getfield 35, 3) := by decide +kernel
theorem dX11_goesDay_22 : decode cX11_goesDay 22 = .ok (.iload_n 2, 1) := by decide +kernel
theorem dX11_goesDay_23 : decode cX11_goesDay 23 = .ok (.bipush 12, 2) := by decide +kernel
theorem dX11_goesDay_25 : decode cX11_goesDay 25 = .ok (.iadd, 1) := by decide +kernel
theorem dX11_goesDay_26 : decode cX11_goesDay 26 = .ok (.iaload, 1) := by decide +kernel
theorem dX11_goesDay_27 : decode cX11_goesDay 27 = .ok (.ifCond .eq 6, 3) := by decide +kernel
theorem dX11_goesDay_30 : decode cX11_goesDay 30 = .ok (.goto 50, 3) := by decide +kernel
theorem dX11_goesDay_33 : decode cX11_goesDay 33 = .ok (.aload_n 0, 1) := by decide +kernel
theorem dX11_goesDay_34 : decode cX11_goesDay 34 = .ok (.getfield 35, 3) := by decide +kernel
theorem dX11_goesDay_37 : decode cX11_goesDay 37 = .ok (.iload_n 2, 1) := by decide +kernel
theorem dX11_goesDay_38 : decode cX11_goesDay 38 = .ok (.dup2, 1) := by decide +kernel
theorem dX11_goesDay_39 : decode cX11_goesDay 39 = .ok (.iaload, 1) := by decide +kernel
theorem dX11_goesDay_40 : decode cX11_goesDay 40 = .ok (.aload_n 0, 1) := by decide +kernel
theorem dX11_goesDay_41 : decode cX11_goesDay 41 = .ok (.getfield 35, 3) := by decide +kernel
theorem dX11_goesDay_44 : decode cX11_goesDay 44 = .ok (.iload_n 2, 1) := by decide +kernel
theorem dX11_goesDay_45 : decode cX11_goesDay 45 = .ok (.bipush 6, 2) := by decide +kernel
theorem dX11_goesDay_47 : decode cX11_goesDay 47 = .ok (.isub, 1) := by decide +kernel
theorem dX11_goesDay_48 : decode cX11_goesDay 48 = .ok (.iaload, 1) := by decide +kernel
theorem dX11_goesDay_49 : decode cX11_goesDay 49 = .ok (.isub, 1) := by decide +kernel
theorem dX11_goesDay_50 : decode cX11_goesDay 50 = .ok (.iastore, 1) := by decide +kernel
theorem dX11_goesDay_51 : decode cX11_goesDay 51 = .ok (.aload_n 0, 1) := by decide +kernel
theorem dX11_goesDay_52 : decode cX11_goesDay 52 = .ok (.getfield 35, 3) := by decide +kernel
theorem dX11_goesDay_55 : decode cX11_goesDay 55 = .ok (.iload_n 2, 1) := by decide +kernel
theorem dX11_goesDay_56 : decode cX11_goesDay 56 = .ok (.iaload, 1) := by decide +kernel
theorem dX11_goesDay_57 : decode cX11_goesDay 57 = .ok (.ifCond .lt 6, 3) := by decide +kernel
theorem dX11_goesDay_60 : decode cX11_goesDay 60 = .ok (.goto 20, 3) := by decide +kernel
theorem dX11_goesDay_63 : decode cX11_goesDay 63 = .ok (.aload_n 0, 1) := by decide +kernel
theorem dX11_goesDay_64 : decode cX11_goesDay 64 = .ok (.getfield 35, 3) := by decide +kernel
theorem dX11_goesDay_67 : decode cX11_goesDay 67 = .ok (.iload_n 2, 1) := by decide +kernel
theorem dX11_goesDay_68 : decode cX11_goesDay 68 = .ok (.iconst 0, 1) := by decide +kernel
theorem dX11_goesDay_69 : decode cX11_goesDay 69 = .ok (.iastore, 1) := by decide +kernel
theorem dX11_goesDay_70 : decode cX11_goesDay 70 = .ok (.aload_n 0, 1) := by decide +kernel
theorem dX11_goesDay_71 : decode cX11_goesDay 71 = .ok (.getfield 35, 3) := by decide +kernel
theorem dX11_goesDay_74 : decode cX11_goesDay 74 = .ok (.iload_n 2, 1) := by decide +kernel
theorem dX11_goesDay_75 : decode cX11_goesDay 75 = .ok (.bipush 12, 2) := by decide +kernel
theorem dX11_goesDay_77 : decode cX11_goesDay 77 = .ok (.iadd, 1) := by decide +kernel
theorem dX11_goesDay_78 : decode cX11_goesDay 78 = .ok (.iconst 1, 1) := by decide +kernel
theorem dX11_goesDay_79 : decode cX11_goesDay 79 = .ok (.iastore, 1) := by decide +kernel
theorem dX11_goesDay_80 : decode cX11_goesDay 80 = .ok (.iinc 1 1, 3) := by decide +kernel
theorem dX11_goesDay_83 : decode cX11_goesDay 83 = .ok (.goto (-81), 3) := by decide +kernel
theorem dX11_goesDay_86 : decode cX11_goesDay 86 = .ok (.aload_n 0, 1) := by decide +kernel
theorem dX11_goesDay_87 : decode cX11_goesDay 87 = .ok (.getfield 35, 3) := by decide +kernel
theorem dX11_goesDay_90 : decode cX11_goesDay 90 = .ok (.bipush 6, 2) := by decide +kernel
theorem dX11_goesDay_92 : decode cX11_goesDay 92 = .ok (.dup2, 1) := by decide +kernel
theorem dX11_goesDay_93 : decode cX11_goesDay 93 = .ok (.iaload, 1) := by decide +kernel
theorem dX11_goesDay_94 : decode cX11_goesDay 94 = .ok (.iconst 1, 1) := by decide +kernel
theorem dX11_goesDay_95 : decode cX11_goesDay 95 = .ok (.iadd, 1) := by decide +kernel
theorem dX11_goesDay_96 : decode cX11_goesDay 96 = .ok (.iastore, 1) := by decide +kernel
theorem dX11_goesDay_97 : decode cX11_goesDay 97 = .ok (.return_, 1) := by decide +kernel
theorem dX11_day_0 : decode cX11_day 0 = .ok (.aload_n 0, 1) := by decide +kernel
theorem dX11_day_1 : decode cX11_day 1 = .ok (.iconst 0, 1) := by decide +kernel
theorem dX11_day_2 : decode cX11_day 2 = .ok (.putfield 59, 3) := by decide +kernel
theorem dX11_day_5 : decode cX11_day 5 = .ok (.aload_n 0, 1) := by decide +kernel
theorem dX11_day_6 : decode cX11_day 6 = .ok (.iconst 0, 1) := by decide +kernel
theorem dX11_day_7 : decode cX11_day 7 = .ok (.putfield 62, 3) := by decide +kernel
theorem dX11_day_10 : decode cX11_day 10 = .ok (.iload_n 1, 1) := by decide +kernel
theorem dX11_day_11 : decode cX11_day 11 = .ok (.i2l, 1) := by decide +kernel
theorem dX11_day_12 : decode cX11_day 12 = .ok (.lconst 1, 1) := by decide +kernel
theorem dX11_day_13 : decode cX11_day 13 = .ok (.ldc2_w 374, 3) := by decide +kernel
theorem dX11_day_16 : decode cX11_day 16 = .ok (.invokestatic 94, 3) := by decide +kernel
theorem dX11_day_19 : decode cX11_day 19 = .ok (.ifCond .ne 9, 3) := by decide +kernel
theorem dX11_day_22 : decode cX11_day 22 = .ok (.aload_n 0, 1) := by decide +kernel
theorem dX11_day_23 : decode cX11_day 23 = .ok (.iconst 5, 1) := by decide +kernel
theorem dX11_day_24 : decode cX11_day 24 = .ok (.invokevirtual 312, 3) := by decide +kernel
theorem dX11_day_27 : decode cX11_day 27 = .ok (.ireturn, 1) := by decide +kernel
theorem dX11_day_28 : decode cX11_day 28 = .ok (.aload_n 0, 1) := by decide +kernel
theorem dX11_day_29 : decode cX11_day 29 = .ok (.getfield 35, 3) := by decide +kernel
theorem dX11_day_32 : decode cX11_day 32 = .ok (.bipush 6, 2) := by decide +kernel
theorem dX11_day_34 : decode cX11_day 34 = .ok (.iaload, 1) := by decide +kernel
theorem dX11_day_35 : decode cX11_day 35 = .ok (.iload_n 1, 1) := by decide +kernel
theorem dX11_day_36 : decode cX11_day 36 = .ok (.iadd, 1) := by decide +kernel
theorem dX11_day_37 : decode cX11_day 37 = .ok (.sipush 9999, 3) := by decide +kernel
theorem dX11_day_40 : decode cX11_day 40 = .ok (.if_icmp .le 10, 3) := by decide +kernel
theorem dX11_day_43 : decode cX11_day 43 = .ok (.aload_n 0, 1) := by decide +kernel
theorem dX11_day_44 : decode cX11_day 44 = .ok (.bipush 7, 2) := by decide +kernel
theorem dX11_day_46 : decode cX11_day 46 = .ok (.invokevirtual 312, 3) := by decide +kernel
theorem dX11_day_49 : decode cX11_day 49 = .ok (.ireturn, 1) := by decide +kernel
theorem dX11_day_50 : decode cX11_day 50 = .ok (.iconst 0, 1) := by decide +kernel
theorem dX11_day_51 : decode cX11_day 51 = .ok (.istore_n 2, 1) := by decide +kernel
theorem dX11_day_52 : decode cX11_day 52 = .ok (.iload_n 2, 1) := by decide +kernel
theorem dX11_day_53 : decode cX11_day 53 = .ok (.iload_n 1, 1) := by decide +kernel
theorem dX11_day_54 : decode cX11_day 54 = .ok (.if_icmp .ge 13, 3) := by decide +kernel
theorem dX11_day_57 : decode cX11_day 57 = .ok (.aload_n 0, 1) := by decide +kernel
theorem dX11_day_58 : decode cX11_day 58 = .ok (.invokevirtual 376, 3) := by decide +kernel
theorem dX11_day_61 : decode cX11_day 61 = .ok (.iinc 2 1, 3) := by decide +kernel
theorem dX11_day_64 : decode cX11_day 64 = .ok (.goto (-12), 3) := by decide +kernel
theorem dX11_day_67 : decode cX11_day 67 = .ok (.aload_n 0, 1) := by decide +kernel
theorem dX11_day_68 : decode cX11_day 68 = .ok (.iconst 0, 1) := by decide +kernel
theorem dX11_day_69 : decode cX11_day 69 = .ok (.invokevirtual 318, 3) := by decide +kernel
theorem dX11_day_72 : decode cX11_day 72 = .ok (.ireturn, 1) := by decide +kernel
theorem dX11_rain_0 : decode cX11_rain 0 = .ok (.aload_n 0, 1) := by decide +kernel
theorem dX11_rain_1 : decode cX11_rain 1 = .ok (.iconst 0, 1) := by decide +kernel
theorem dX11_rain_2 : decode cX11_rain 2 = .ok (.putfield 59, 3) := by decide +kernel
theorem dX11_rain_5 : decode cX11_rain 5 = .ok (.aload_n 0, 1) := by decide +kernel
theorem dX11_rain_6 : decode cX11_rain 6 = .ok (.iconst 0, 1) := by decide +kernel
theorem dX11_rain_7 : decode cX11_rain 7 = .ok (.putfield 62, 3) := by decide +kernel
theorem dX11_rain_10 : decode cX11_rain 10 = .ok (.aload_n 0, 1) := by decide +kernel
theorem dX11_rain_11 : decode cX11_rain 11 = .ok (.iload_n 1, 1) := by decide +kernel
theorem dX11_rain_12 : decode cX11_rain 12 = .ok (.invokevirtual 333, 3) := by decide +kernel
theorem dX11_rain_15 : decode cX11_rain 15 = .ok (.ifCond .ne 9, 3) := by decide +kernel
theorem dX11_rain_18 : decode cX11_rain 18 = .ok (.aload_n 0, 1) := by decide +kernel
theorem dX11_rain_19 : decode cX11_rain 19 = .ok (.iconst 2, 1) := by decide +kernel
theorem dX11_rain_20 : decode cX11_rain 20 = .ok (.invokevirtual 312, 3) := by decide +kernel
theorem dX11_rain_23 : decode cX11_rain 23 = .ok (.ireturn, 1) := by decide +kernel
theorem dX11_rain_24 : decode cX11_rain 24 = .ok (.iload_n 2, 1) := by decide +kernel
theorem dX11_rain_25 : decode cX11_rain 25 = .ok (.i2l, 1) := by decide +kernel
theorem dX11_rain_26 : decode cX11_rain 26 = .ok (.lconst 1, 1) := by decide +kernel
theorem dX11_rain_27 : decode cX11_rain 27 = .ok (.ldc2_w 374, 3) := by decide +kernel
theorem dX11_rain_30 : decode cX11_rain 30 = .ok (.invokestatic 94, 3) := by decide +kernel
theorem dX11_rain_33 : decode cX11_rain 33 = .ok (.ifCond .ne 9, 3) := by decide +kernel
theorem dX11_rain_36 : decode cX11_rain 36 = .ok (.aload_n 0, 1) := by decide +kernel
theorem dX11_rain_37 : decode cX11_rain 37 = .ok (.iconst 5, 1) := by decide +kernel
theorem dX11_rain_38 : decode cX11_rain 38 = .ok (.invokevirtual 312, 3) := by decide +kernel
theorem dX11_rain_41 : decode cX11_rain 41 = .ok (.ireturn, 1) := by decide +kernel
theorem dX11_rain_42 : decode cX11_rain 42 = .ok (.aload_n 0, 1) := by decide +kernel
theorem dX11_rain_43 : decode cX11_rain 43 = .ok (.getfield 35, 3) := by decide +kernel
theorem dX11_rain_46 : decode cX11_rain 46 = .ok (.sipush 164, 3) := by decide +kernel
theorem dX11_rain_49 : decode cX11_rain 49 = .ok (.iload_n 1, 1) := by decide +kernel
theorem dX11_rain_50 : decode cX11_rain 50 = .ok (.iadd, 1) := by decide +kernel
theorem dX11_rain_51 : decode cX11_rain 51 = .ok (.iaload, 1) := by decide +kernel
theorem dX11_rain_52 : decode cX11_rain 52 = .ok (.ifCond .eq 10, 3) := by decide +kernel
theorem dX11_rain_55 : decode cX11_rain 55 = .ok (.aload_n 0, 1) := by decide +kernel
theorem dX11_rain_56 : decode cX11_rain 56 = .ok (.bipush 9, 2) := by decide +kernel
theorem dX11_rain_58 : decode cX11_rain 58 = .ok (.invokevirtual 312, 3) := by decide +kernel
theorem dX11_rain_61 : decode cX11_rain 61 = .ok (.ireturn, 1) := by decide +kernel
theorem dX11_rain_62 : decode cX11_rain 62 = .ok (.aload_n 0, 1) := by decide +kernel
theorem dX11_rain_63 : decode cX11_rain 63 = .ok (.iload_n 1, 1) := by decide +kernel
theorem dX11_rain_64 : decode cX11_rain 64 = .ok (.iload_n 2, 1) := by decide +kernel
theorem dX11_rain_65 : decode cX11_rain 65 = .ok (.invokevirtual 353, 3) := by decide +kernel
theorem dX11_rain_68 : decode cX11_rain 68 = .ok (.aload_n 0, 1) := by decide +kernel
theorem dX11_rain_69 : decode cX11_rain 69 = .ok (.getfield 35, 3) := by decide +kernel
theorem dX11_rain_72 : decode cX11_rain 72 = .ok (.sipush 152, 3) := by decide +kernel
theorem dX11_rain_75 : decode cX11_rain 75 = .ok (.iload_n 1, 1) := by decide +kernel
theorem dX11_rain_76 : decode cX11_rain 76 = .ok (.iadd, 1) := by decide +kernel
theorem dX11_rain_77 : decode cX11_rain 77 = .ok (.iaload, 1) := by decide +kernel
theorem dX11_rain_78 : decode cX11_rain 78 = .ok (.ireturn, 1) := by decide +kernel
theorem dX11_rule_0 : decode cX11_rule 0 = .ok (.aload_n 0, 1) := by decide +kernel
theorem dX11_rule_1 : decode cX11_rule 1 = .ok (.iconst 0, 1) := by decide +kernel
theorem dX11_rule_2 : decode cX11_rule 2 = .ok (.putfield 59, 3) := by decide +kernel
theorem dX11_rule_5 : decode cX11_rule 5 = .ok (.aload_n 0, 1) := by decide +kernel
theorem dX11_rule_6 : decode cX11_rule 6 = .ok (.iconst 0, 1) := by decide +kernel
theorem dX11_rule_7 : decode cX11_rule 7 = .ok (.putfield 62, 3) := by decide +kernel
theorem dX11_rule_10 : decode cX11_rule 10 = .ok (.iload_n 1, 1) := by decide +kernel
theorem dX11_rule_11 : decode cX11_rule 11 = .ok (.i2l, 1) := by decide +kernel
theorem dX11_rule_12 : decode cX11_rule 12 = .ok (.lconst 0, 1) := by decide +kernel
theorem dX11_rule_13 : decode cX11_rule 13 = .ok (.ldc2_w 379, 3) := by decide +kernel
theorem dX11_rule_16 : decode cX11_rule 16 = .ok (.invokestatic 94, 3) := by decide +kernel
theorem dX11_rule_19 : decode cX11_rule 19 = .ok (.ifCond .ne 9, 3) := by decide +kernel
theorem dX11_rule_22 : decode cX11_rule 22 = .ok (.aload_n 0, 1) := by decide +kernel
theorem dX11_rule_23 : decode cX11_rule 23 = .ok (.iconst 5, 1) := by decide +kernel
theorem dX11_rule_24 : decode cX11_rule 24 = .ok (.invokevirtual 74, 3) := by decide +kernel
theorem dX11_rule_27 : decode cX11_rule 27 = .ok (.ireturn, 1) := by decide +kernel
theorem dX11_rule_28 : decode cX11_rule 28 = .ok (.aload_n 0, 1) := by decide +kernel
theorem dX11_rule_29 : decode cX11_rule 29 = .ok (.getfield 35, 3) := by decide +kernel
theorem dX11_rule_32 : decode cX11_rule 32 = .ok (.iconst 2, 1) := by decide +kernel
theorem dX11_rule_33 : decode cX11_rule 33 = .ok (.iload_n 1, 1) := by decide +kernel
theorem dX11_rule_34 : decode cX11_rule 34 = .ok (.iastore, 1) := by decide +kernel
theorem dX11_rule_35 : decode cX11_rule 35 = .ok (.iconst 1, 1) := by decide +kernel
theorem dX11_rule_36 : decode cX11_rule 36 = .ok (.ireturn, 1) := by decide +kernel
theorem dX11_sow_0 : decode cX11_sow 0 = .ok (.aload_n 0, 1) := by decide +kernel
theorem dX11_sow_1 : decode cX11_sow 1 = .ok (.iconst 0, 1) := by decide +kernel
theorem dX11_sow_2 : decode cX11_sow 2 = .ok (.putfield 59, 3) := by decide +kernel
theorem dX11_sow_5 : decode cX11_sow 5 = .ok (.aload_n 0, 1) := by decide +kernel
theorem dX11_sow_6 : decode cX11_sow 6 = .ok (.iconst 0, 1) := by decide +kernel
theorem dX11_sow_7 : decode cX11_sow 7 = .ok (.putfield 62, 3) := by decide +kernel
theorem dX11_sow_10 : decode cX11_sow 10 = .ok (.aload_n 0, 1) := by decide +kernel
theorem dX11_sow_11 : decode cX11_sow 11 = .ok (.iload_n 1, 1) := by decide +kernel
theorem dX11_sow_12 : decode cX11_sow 12 = .ok (.invokevirtual 333, 3) := by decide +kernel
theorem dX11_sow_15 : decode cX11_sow 15 = .ok (.ifCond .eq 11, 3) := by decide +kernel
theorem dX11_sow_18 : decode cX11_sow 18 = .ok (.aload_n 0, 1) := by decide +kernel
theorem dX11_sow_19 : decode cX11_sow 19 = .ok (.iload_n 2, 1) := by decide +kernel
theorem dX11_sow_20 : decode cX11_sow 20 = .ok (.invokevirtual 330, 3) := by decide +kernel
theorem dX11_sow_23 : decode cX11_sow 23 = .ok (.ifCond .ne 9, 3) := by decide +kernel
theorem dX11_sow_26 : decode cX11_sow 26 = .ok (.aload_n 0, 1) := by decide +kernel
theorem dX11_sow_27 : decode cX11_sow 27 = .ok (.iconst 2, 1) := by decide +kernel
theorem dX11_sow_28 : decode cX11_sow 28 = .ok (.invokevirtual 74, 3) := by decide +kernel
theorem dX11_sow_31 : decode cX11_sow 31 = .ok (.ireturn, 1) := by decide +kernel
theorem dX11_sow_32 : decode cX11_sow 32 = .ok (.aload_n 0, 1) := by decide +kernel
theorem dX11_sow_33 : decode cX11_sow 33 = .ok (.getfield 35, 3) := by decide +kernel
theorem dX11_sow_36 : decode cX11_sow 36 = .ok (.sipush 140, 3) := by decide +kernel
theorem dX11_sow_39 : decode cX11_sow 39 = .ok (.iload_n 1, 1) := by decide +kernel
theorem dX11_sow_40 : decode cX11_sow 40 = .ok (.iadd, 1) := by decide +kernel
theorem dX11_sow_41 : decode cX11_sow 41 = .ok (.iload_n 2, 1) := by decide +kernel
theorem dX11_sow_42 : decode cX11_sow 42 = .ok (.iastore, 1) := by decide +kernel
theorem dX11_sow_43 : decode cX11_sow 43 = .ok (.aload_n 0, 1) := by decide +kernel
theorem dX11_sow_44 : decode cX11_sow 44 = .ok (.getfield 35, 3) := by decide +kernel
theorem dX11_sow_47 : decode cX11_sow 47 = .ok (.sipush 152, 3) := by decide +kernel
theorem dX11_sow_50 : decode cX11_sow 50 = .ok (.iload_n 1, 1) := by decide +kernel
theorem dX11_sow_51 : decode cX11_sow 51 = .ok (.iadd, 1) := by decide +kernel
theorem dX11_sow_52 : decode cX11_sow 52 = .ok (.bipush 10, 2) := by decide +kernel
theorem dX11_sow_54 : decode cX11_sow 54 = .ok (.iastore, 1) := by decide +kernel
theorem dX11_sow_55 : decode cX11_sow 55 = .ok (.aload_n 0, 1) := by decide +kernel
theorem dX11_sow_56 : decode cX11_sow 56 = .ok (.getfield 35, 3) := by decide +kernel
theorem dX11_sow_59 : decode cX11_sow 59 = .ok (.sipush 164, 3) := by decide +kernel
theorem dX11_sow_62 : decode cX11_sow 62 = .ok (.iload_n 1, 1) := by decide +kernel
theorem dX11_sow_63 : decode cX11_sow 63 = .ok (.iadd, 1) := by decide +kernel
theorem dX11_sow_64 : decode cX11_sow 64 = .ok (.iconst 0, 1) := by decide +kernel
theorem dX11_sow_65 : decode cX11_sow 65 = .ok (.iastore, 1) := by decide +kernel
theorem dX11_sow_66 : decode cX11_sow 66 = .ok (.iconst 1, 1) := by decide +kernel
theorem dX11_sow_67 : decode cX11_sow 67 = .ok (.ireturn, 1) := by decide +kernel
theorem dX11_mix_0 : decode cX11_mix 0 = .ok (.aload_n 0, 1) := by decide +kernel
theorem dX11_mix_1 : decode cX11_mix 1 = .ok (.aload_n 0, 1) := by decide +kernel
theorem dX11_mix_2 : decode cX11_mix 2 = .ok (.getfield 381, 3) := by decide +kernel
theorem dX11_mix_5 : decode cX11_mix 5 = .ok (.sipush 2971, 3) := by decide +kernel
theorem dX11_mix_8 : decode cX11_mix 8 = .ok (.imul, 1) := by decide +kernel
theorem dX11_mix_9 : decode cX11_mix 9 = .ok (.sipush 10711, 3) := by decide +kernel
theorem dX11_mix_12 : decode cX11_mix 12 = .ok (.iadd, 1) := by decide +kernel
theorem dX11_mix_13 : decode cX11_mix 13 = .ok (.ldc_w 384, 3) := by decide +kernel
theorem dX11_mix_16 : decode cX11_mix 16 = .ok (.irem, 1) := by decide +kernel
theorem dX11_mix_17 : decode cX11_mix 17 = .ok (.putfield 381, 3) := by decide +kernel
theorem dX11_mix_20 : decode cX11_mix 20 = .ok (.aload_n 0, 1) := by decide +kernel
theorem dX11_mix_21 : decode cX11_mix 21 = .ok (.getfield 381, 3) := by decide +kernel
theorem dX11_mix_24 : decode cX11_mix 24 = .ok (.bipush 8, 2) := by decide +kernel
theorem dX11_mix_26 : decode cX11_mix 26 = .ok (.idiv, 1) := by decide +kernel
theorem dX11_mix_27 : decode cX11_mix 27 = .ok (.iload_n 1, 1) := by decide +kernel
theorem dX11_mix_28 : decode cX11_mix 28 = .ok (.irem, 1) := by decide +kernel
theorem dX11_mix_29 : decode cX11_mix 29 = .ok (.ireturn, 1) := by decide +kernel
theorem dX11_packs_0 : decode cX11_packs 0 = .ok (.aload_n 0, 1) := by decide +kernel
theorem dX11_packs_1 : decode cX11_packs 1 = .ok (.getfield 35, 3) := by decide +kernel
theorem dX11_packs_4 : decode cX11_packs 4 = .ok (.iconst 1, 1) := by decide +kernel
theorem dX11_packs_5 : decode cX11_packs 5 = .ok (.iaload, 1) := by decide +kernel
theorem dX11_packs_6 : decode cX11_packs 6 = .ok (.aload_n 0, 1) := by decide +kernel
theorem dX11_packs_7 : decode cX11_packs 7 = .ok (.getfield 35, 3) := by decide +kernel
theorem dX11_packs_10 : decode cX11_packs 10 = .ok (.iconst 0, 1) := by decide +kernel
theorem dX11_packs_11 : decode cX11_packs 11 = .ok (.iaload, 1) := by decide +kernel
theorem dX11_packs_12 : decode cX11_packs 12 = .ok (.imul, 1) := by decide +kernel
theorem dX11_packs_13 : decode cX11_packs 13 = .ok (.istore_n 2, 1) := by decide +kernel
theorem dX11_packs_14 : decode cX11_packs 14 = .ok (.iconst 0, 1) := by decide +kernel
theorem dX11_packs_15 : decode cX11_packs 15 = .ok (.istore_n 3, 1) := by decide +kernel
theorem dX11_packs_16 : decode cX11_packs 16 = .ok (.iload_n 3, 1) := by decide +kernel
theorem dX11_packs_17 : decode cX11_packs 17 = .ok (.iload_n 2, 1) := by decide +kernel
theorem dX11_packs_18 : decode cX11_packs 18 = .ok (.if_icmp .ge 35, 3) := by decide +kernel
theorem dX11_packs_21 : decode cX11_packs 21 = .ok (.aload_n 0, 1) := by decide +kernel
theorem dX11_packs_22 : decode cX11_packs 22 = .ok (.getfield 50, 3) := by decide +kernel
theorem dX11_packs_25 : decode cX11_packs 25 = .ok (.iload_n 3, 1) := by decide +kernel
theorem dX11_packs_26 : decode cX11_packs 26 = .ok (.bipush 6, 2) := by decide +kernel
theorem dX11_packs_28 : decode cX11_packs 28 = .ok (.iload_n 3, 1) := by decide +kernel
theorem dX11_packs_29 : decode cX11_packs 29 = .ok (.aload_n 0, 1) := by decide +kernel
theorem dX11_packs_30 : decode cX11_packs 30 = .ok (.getfield 35, 3) := by decide +kernel
theorem dX11_packs_33 : decode cX11_packs 33 = .ok (.iconst 0, 1) := by decide +kernel
theorem dX11_packs_34 : decode cX11_packs 34 = .ok (.iaload, 1) := by decide +kernel
theorem dX11_packs_35 : decode cX11_packs 35 = .ok (.idiv, 1) := by decide +kernel
theorem dX11_packs_36 : decode cX11_packs 36 = .ok (.imul, 1) := by decide +kernel
theorem dX11_packs_37 : decode cX11_packs 37 = .ok (.iload_n 3, 1) := by decide +kernel
theorem dX11_packs_38 : decode cX11_packs 38 = .ok (.aload_n 0, 1) := by decide +kernel
theorem dX11_packs_39 : decode cX11_packs 39 = .ok (.getfield 35, 3) := by decide +kernel
theorem dX11_packs_42 : decode cX11_packs 42 = .ok (.iconst 0, 1) := by decide +kernel
theorem dX11_packs_43 : decode cX11_packs 43 = .ok (.iaload, 1) := by decide +kernel
theorem dX11_packs_44 : decode cX11_packs 44 = .ok (.irem, 1) := by decide +kernel
theorem dX11_packs_45 : decode cX11_packs 45 = .ok (.iadd, 1) := by decide +kernel
theorem dX11_packs_46 : decode cX11_packs 46 = .ok (.iastore, 1) := by decide +kernel
theorem dX11_packs_47 : decode cX11_packs 47 = .ok (.iinc 3 1, 3) := by decide +kernel
theorem dX11_packs_50 : decode cX11_packs 50 = .ok (.goto (-34), 3) := by decide +kernel
theorem dX11_packs_53 : decode cX11_packs 53 = .ok (.aload_n 0, 1) := by decide +kernel
theorem dX11_packs_54 : decode cX11_packs 54 = .ok (.iload_n 1, 1) := by decide +kernel
theorem dX11_packs_55 : decode cX11_packs 55 = .ok (.putfield 381, 3) := by decide +kernel
theorem dX11_packs_58 : decode cX11_packs 58 = .ok (.iload_n 2, 1) := by decide +kernel
theorem dX11_packs_59 : decode cX11_packs 59 = .ok (.iconst 1, 1) := by decide +kernel
theorem dX11_packs_60 : decode cX11_packs 60 = .ok (.isub, 1) := by decide +kernel
theorem dX11_packs_61 : decode cX11_packs 61 = .ok (.istore_n 3, 1) := by decide +kernel
theorem dX11_packs_62 : decode cX11_packs 62 = .ok (.iload_n 3, 1) := by decide +kernel
theorem dX11_packs_63 : decode cX11_packs 63 = .ok (.ifCond .le 48, 3) := by decide +kernel
theorem dX11_packs_66 : decode cX11_packs 66 = .ok (.aload_n 0, 1) := by decide +kernel
theorem dX11_packs_67 : decode cX11_packs 67 = .ok (.iload_n 3, 1) := by decide +kernel
theorem dX11_packs_68 : decode cX11_packs 68 = .ok (.iconst 1, 1) := by decide +kernel
theorem dX11_packs_69 : decode cX11_packs 69 = .ok (.iadd, 1) := by decide +kernel
theorem dX11_packs_70 : decode cX11_packs 70 = .ok (.invokevirtual 385, 3) := by decide +kernel
theorem dX11_packs_73 : decode cX11_packs 73 = .ok (.istore 4, 2) := by decide +kernel
theorem dX11_packs_75 : decode cX11_packs 75 = .ok (.aload_n 0, 1) := by decide +kernel
theorem dX11_packs_76 : decode cX11_packs 76 = .ok (.getfield 50, 3) := by decide +kernel
theorem dX11_packs_79 : decode cX11_packs 79 = .ok (.iload_n 3, 1) := by decide +kernel
theorem dX11_packs_80 : decode cX11_packs 80 = .ok (.iaload, 1) := by decide +kernel
theorem dX11_packs_81 : decode cX11_packs 81 = .ok (.istore 5, 2) := by decide +kernel
theorem dX11_packs_83 : decode cX11_packs 83 = .ok (.aload_n 0, 1) := by decide +kernel
theorem dX11_packs_84 : decode cX11_packs 84 = .ok (.getfield 50, 3) := by decide +kernel
theorem dX11_packs_87 : decode cX11_packs 87 = .ok (.iload_n 3, 1) := by decide +kernel
theorem dX11_packs_88 : decode cX11_packs 88 = .ok (.aload_n 0, 1) := by decide +kernel
theorem dX11_packs_89 : decode cX11_packs 89 = .ok (.getfield 50, 3) := by decide +kernel
theorem dX11_packs_92 : decode cX11_packs 92 = .ok (.iload 4, 2) := by decide +kernel
theorem dX11_packs_94 : decode cX11_packs 94 = .ok (.iaload, 1) := by decide +kernel
theorem dX11_packs_95 : decode cX11_packs 95 = .ok (.iastore, 1) := by decide +kernel
theorem dX11_packs_96 : decode cX11_packs 96 = .ok (.aload_n 0, 1) := by decide +kernel
theorem dX11_packs_97 : decode cX11_packs 97 = .ok (.getfield 50, 3) := by decide +kernel
theorem dX11_packs_100 : decode cX11_packs 100 = .ok (.iload 4, 2) := by decide +kernel
theorem dX11_packs_102 : decode cX11_packs 102 = .ok (.iload 5, 2) := by decide +kernel
theorem dX11_packs_104 : decode cX11_packs 104 = .ok (.iastore, 1) := by decide +kernel
theorem dX11_packs_105 : decode cX11_packs 105 = .ok (.iinc 3 (-1), 3) := by decide +kernel
theorem dX11_packs_108 : decode cX11_packs 108 = .ok (.goto (-46), 3) := by decide +kernel
theorem dX11_packs_111 : decode cX11_packs 111 = .ok (.iconst 0, 1) := by decide +kernel
theorem dX11_packs_112 : decode cX11_packs 112 = .ok (.istore_n 3, 1) := by decide +kernel
theorem dX11_packs_113 : decode cX11_packs 113 = .ok (.iload_n 3, 1) := by decide +kernel
theorem dX11_packs_114 : decode cX11_packs 114 = .ok (.iconst 4, 1) := by decide +kernel
theorem dX11_packs_115 : decode cX11_packs 115 = .ok (.if_icmp .ge 19, 3) := by decide +kernel
theorem dX11_packs_118 : decode cX11_packs 118 = .ok (.aload_n 0, 1) := by decide +kernel
theorem dX11_packs_119 : decode cX11_packs 119 = .ok (.getfield 35, 3) := by decide +kernel
theorem dX11_packs_122 : decode cX11_packs 122 = .ok (.bipush 10, 2) := by decide +kernel
theorem dX11_packs_124 : decode cX11_packs 124 = .ok (.iload_n 3, 1) := by decide +kernel
theorem dX11_packs_125 : decode cX11_packs 125 = .ok (.iadd, 1) := by decide +kernel
theorem dX11_packs_126 : decode cX11_packs 126 = .ok (.iconst 0, 1) := by decide +kernel
theorem dX11_packs_127 : decode cX11_packs 127 = .ok (.iastore, 1) := by decide +kernel
theorem dX11_packs_128 : decode cX11_packs 128 = .ok (.iinc 3 1, 3) := by decide +kernel
theorem dX11_packs_131 : decode cX11_packs 131 = .ok (.goto (-18), 3) := by decide +kernel
theorem dX11_packs_134 : decode cX11_packs 134 = .ok (.aload_n 0, 1) := by decide +kernel
theorem dX11_packs_135 : decode cX11_packs 135 = .ok (.getfield 35, 3) := by decide +kernel
theorem dX11_packs_138 : decode cX11_packs 138 = .ok (.bipush 9, 2) := by decide +kernel
theorem dX11_packs_140 : decode cX11_packs 140 = .ok (.iconst 0, 1) := by decide +kernel
theorem dX11_packs_141 : decode cX11_packs 141 = .ok (.iastore, 1) := by decide +kernel
theorem dX11_packs_142 : decode cX11_packs 142 = .ok (.iconst 0, 1) := by decide +kernel
theorem dX11_packs_143 : decode cX11_packs 143 = .ok (.istore_n 3, 1) := by decide +kernel
theorem dX11_packs_144 : decode cX11_packs 144 = .ok (.iconst 0, 1) := by decide +kernel
theorem dX11_packs_145 : decode cX11_packs 145 = .ok (.istore 4, 2) := by decide +kernel
theorem dX11_packs_147 : decode cX11_packs 147 = .ok (.iload 4, 2) := by decide +kernel
theorem dX11_packs_149 : decode cX11_packs 149 = .ok (.aload_n 0, 1) := by decide +kernel
theorem dX11_packs_150 : decode cX11_packs 150 = .ok (.getfield 35, 3) := by decide +kernel
theorem dX11_packs_153 : decode cX11_packs 153 = .ok (.iconst 4, 1) := by decide +kernel
theorem dX11_packs_154 : decode cX11_packs 154 = .ok (.iaload, 1) := by decide +kernel
theorem dX11_packs_155 : decode cX11_packs 155 = .ok (.if_icmp .ge 91, 3) := by decide +kernel
theorem dX11_packs_158 : decode cX11_packs 158 = .ok (.aload_n 0, 1) := by decide +kernel
theorem dX11_packs_159 : decode cX11_packs 159 = .ok (.getfield 35, 3) := by decide +kernel
theorem dX11_packs_162 : decode cX11_packs 162 = .ok (.bipush 14, 2) := by decide +kernel
theorem dX11_packs_164 : decode cX11_packs 164 = .ok (.iload 4, 2) := by decide +kernel
theorem dX11_packs_166 : decode cX11_packs 166 = .ok (.iadd, 1) := by decide +kernel
theorem dX11_packs_167 : decode cX11_packs 167 = .ok (.iload 4, 2) := by decide +kernel
theorem dX11_packs_169 : decode cX11_packs 169 = .ok (.iconst 1, 1) := by decide +kernel
theorem dX11_packs_170 : decode cX11_packs 170 = .ok (.iadd, 1) := by decide +kernel
theorem dX11_packs_171 : decode cX11_packs 171 = .ok (.iload_n 2, 1) := by decide +kernel
theorem dX11_packs_172 : decode cX11_packs 172 = .ok (.iload_n 3, 1) := by decide +kernel
theorem dX11_packs_173 : decode cX11_packs 173 = .ok (.isub, 1) := by decide +kernel
theorem dX11_packs_174 : decode cX11_packs 174 = .ok (.invokestatic 388, 3) := by decide +kernel
theorem dX11_packs_177 : decode cX11_packs 177 = .ok (.iastore, 1) := by decide +kernel
theorem dX11_packs_178 : decode cX11_packs 178 = .ok (.iconst 0, 1) := by decide +kernel
theorem dX11_packs_179 : decode cX11_packs 179 = .ok (.istore 5, 2) := by decide +kernel
theorem dX11_packs_181 : decode cX11_packs 181 = .ok (.iload 5, 2) := by decide +kernel
theorem dX11_packs_183 : decode cX11_packs 183 = .ok (.aload_n 0, 1) := by decide +kernel
theorem dX11_packs_184 : decode cX11_packs 184 = .ok (.getfield 35, 3) := by decide +kernel
theorem dX11_packs_187 : decode cX11_packs 187 = .ok (.bipush 14, 2) := by decide +kernel
theorem dX11_packs_189 : decode cX11_packs 189 = .ok (.iload 4, 2) := by decide +kernel
theorem dX11_packs_191 : decode cX11_packs 191 = .ok (.iadd, 1) := by decide +kernel
theorem dX11_packs_192 : decode cX11_packs 192 = .ok (.iaload, 1) := by decide +kernel
theorem dX11_packs_193 : decode cX11_packs 193 = .ok (.if_icmp .ge 34, 3) := by decide +kernel
theorem dX11_packs_196 : decode cX11_packs 196 = .ok (.aload_n 0, 1) := by decide +kernel
theorem dX11_packs_197 : decode cX11_packs 197 = .ok (.getfield 35, 3) := by decide +kernel
theorem dX11_packs_200 : decode cX11_packs 200 = .ok (.bipush 20, 2) := by decide +kernel
theorem dX11_packs_202 : decode cX11_packs 202 = .ok (.bipush 12, 2) := by decide +kernel
theorem dX11_packs_204 : decode cX11_packs 204 = .ok (.iload 4, 2) := by decide +kernel
theorem dX11_packs_206 : decode cX11_packs 206 = .ok (.imul, 1) := by decide +kernel
theorem dX11_packs_207 : decode cX11_packs 207 = .ok (.iadd, 1) := by decide +kernel
theorem dX11_packs_208 : decode cX11_packs 208 = .ok (.iload 5, 2) := by decide +kernel
theorem dX11_packs_210 : decode cX11_packs 210 = .ok (.iadd, 1) := by decide +kernel
theorem dX11_packs_211 : decode cX11_packs 211 = .ok (.aload_n 0, 1) := by decide +kernel
theorem dX11_packs_212 : decode cX11_packs 212 = .ok (.getfield 50, 3) := by decide +kernel
theorem dX11_packs_215 : decode cX11_packs 215 = .ok (.iload_n 3, 1) := by decide +kernel
theorem dX11_packs_216 : decode cX11_packs 216 = .ok (.iload 5, 2) := by decide +kernel
theorem dX11_packs_218 : decode cX11_packs 218 = .ok (.iadd, 1) := by decide +kernel
theorem dX11_packs_219 : decode cX11_packs 219 = .ok (.iaload, 1) := by decide +kernel
theorem dX11_packs_220 : decode cX11_packs 220 = .ok (.iastore, 1) := by decide +kernel
theorem dX11_packs_221 : decode cX11_packs 221 = .ok (.iinc 5 1, 3) := by decide +kernel
theorem dX11_packs_224 : decode cX11_packs 224 = .ok (.goto (-43), 3) := by decide +kernel
theorem dX11_packs_227 : decode cX11_packs 227 = .ok (.iload_n 3, 1) := by decide +kernel
theorem dX11_packs_228 : decode cX11_packs 228 = .ok (.aload_n 0, 1) := by decide +kernel
theorem dX11_packs_229 : decode cX11_packs 229 = .ok (.getfield 35, 3) := by decide +kernel
theorem dX11_packs_232 : decode cX11_packs 232 = .ok (.bipush 14, 2) := by decide +kernel
theorem dX11_packs_234 : decode cX11_packs 234 = .ok (.iload 4, 2) := by decide +kernel
theorem dX11_packs_236 : decode cX11_packs 236 = .ok (.iadd, 1) := by decide +kernel
theorem dX11_packs_237 : decode cX11_packs 237 = .ok (.iaload, 1) := by decide +kernel
theorem dX11_packs_238 : decode cX11_packs 238 = .ok (.iadd, 1) := by decide +kernel
theorem dX11_packs_239 : decode cX11_packs 239 = .ok (.istore_n 3, 1) := by decide +kernel
theorem dX11_packs_240 : decode cX11_packs 240 = .ok (.iinc 4 1, 3) := by decide +kernel
theorem dX11_packs_243 : decode cX11_packs 243 = .ok (.goto (-96), 3) := by decide +kernel
theorem dX11_packs_246 : decode cX11_packs 246 = .ok (.aload_n 0, 1) := by decide +kernel
theorem dX11_packs_247 : decode cX11_packs 247 = .ok (.getfield 35, 3) := by decide +kernel
theorem dX11_packs_250 : decode cX11_packs 250 = .ok (.bipush 8, 2) := by decide +kernel
theorem dX11_packs_252 : decode cX11_packs 252 = .ok (.iload_n 2, 1) := by decide +kernel
theorem dX11_packs_253 : decode cX11_packs 253 = .ok (.iload_n 3, 1) := by decide +kernel
theorem dX11_packs_254 : decode cX11_packs 254 = .ok (.isub, 1) := by decide +kernel
theorem dX11_packs_255 : decode cX11_packs 255 = .ok (.iastore, 1) := by decide +kernel
theorem dX11_packs_256 : decode cX11_packs 256 = .ok (.iconst 0, 1) := by decide +kernel
theorem dX11_packs_257 : decode cX11_packs 257 = .ok (.istore 4, 2) := by decide +kernel
theorem dX11_packs_259 : decode cX11_packs 259 = .ok (.iload 4, 2) := by decide +kernel
theorem dX11_packs_261 : decode cX11_packs 261 = .ok (.iload_n 2, 1) := by decide +kernel
theorem dX11_packs_262 : decode cX11_packs 262 = .ok (.iload_n 3, 1) := by decide +kernel
theorem dX11_packs_263 : decode cX11_packs 263 = .ok (.isub, 1) := by decide +kernel
theorem dX11_packs_264 : decode cX11_packs 264 = .ok (.if_icmp .ge 28, 3) := by decide +kernel
theorem dX11_packs_267 : decode cX11_packs 267 = .ok (.aload_n 0, 1) := by decide +kernel
theorem dX11_packs_268 : decode cX11_packs 268 = .ok (.getfield 35, 3) := by decide +kernel
theorem dX11_packs_271 : decode cX11_packs 271 = .ok (.bipush 92, 2) := by decide +kernel
theorem dX11_packs_273 : decode cX11_packs 273 = .ok (.iload 4, 2) := by decide +kernel
theorem dX11_packs_275 : decode cX11_packs 275 = .ok (.iadd, 1) := by decide +kernel
theorem dX11_packs_276 : decode cX11_packs 276 = .ok (.aload_n 0, 1) := by decide +kernel
theorem dX11_packs_277 : decode cX11_packs 277 = .ok (.getfield 50, 3) := by decide +kernel
theorem dX11_packs_280 : decode cX11_packs 280 = .ok (.iload_n 3, 1) := by decide +kernel
theorem dX11_packs_281 : decode cX11_packs 281 = .ok (.iload 4, 2) := by decide +kernel
theorem dX11_packs_283 : decode cX11_packs 283 = .ok (.iadd, 1) := by decide +kernel
theorem dX11_packs_284 : decode cX11_packs 284 = .ok (.iaload, 1) := by decide +kernel
theorem dX11_packs_285 : decode cX11_packs 285 = .ok (.iastore, 1) := by decide +kernel
theorem dX11_packs_286 : decode cX11_packs 286 = .ok (.iinc 4 1, 3) := by decide +kernel
theorem dX11_packs_289 : decode cX11_packs 289 = .ok (.goto (-30), 3) := by decide +kernel
theorem dX11_packs_292 : decode cX11_packs 292 = .ok (.iload_n 2, 1) := by decide +kernel
theorem dX11_packs_293 : decode cX11_packs 293 = .ok (.ireturn, 1) := by decide +kernel
theorem dX11_shuffle_0 : decode cX11_shuffle 0 = .ok (.aload_n 0, 1) := by decide +kernel
theorem dX11_shuffle_1 : decode cX11_shuffle 1 = .ok (.iconst 0, 1) := by decide +kernel
theorem dX11_shuffle_2 : decode cX11_shuffle 2 = .ok (.putfield 59, 3) := by decide +kernel
theorem dX11_shuffle_5 : decode cX11_shuffle 5 = .ok (.aload_n 0, 1) := by decide +kernel
theorem dX11_shuffle_6 : decode cX11_shuffle 6 = .ok (.iconst 0, 1) := by decide +kernel
theorem dX11_shuffle_7 : decode cX11_shuffle 7 = .ok (.putfield 62, 3) := by decide +kernel
theorem dX11_shuffle_10 : decode cX11_shuffle 10 = .ok (.iload_n 1, 1) := by decide +kernel
theorem dX11_shuffle_11 : decode cX11_shuffle 11 = .ok (.i2l, 1) := by decide +kernel
theorem dX11_shuffle_12 : decode cX11_shuffle 12 = .ok (.lconst 0, 1) := by decide +kernel
theorem dX11_shuffle_13 : decode cX11_shuffle 13 = .ok (.ldc2_w 391, 3) := by decide +kernel
theorem dX11_shuffle_16 : decode cX11_shuffle 16 = .ok (.invokestatic 94, 3) := by decide +kernel
theorem dX11_shuffle_19 : decode cX11_shuffle 19 = .ok (.ifCond .eq 11, 3) := by decide +kernel
theorem dX11_shuffle_22 : decode cX11_shuffle 22 = .ok (.aload_n 0, 1) := by decide +kernel
theorem dX11_shuffle_23 : decode cX11_shuffle 23 = .ok (.iload_n 1, 1) := by decide +kernel
theorem dX11_shuffle_24 : decode cX11_shuffle 24 = .ok (.invokevirtual 393, 3) := by decide +kernel
theorem dX11_shuffle_27 : decode cX11_shuffle 27 = .ok (.goto 8, 3) := by decide +kernel
theorem dX11_shuffle_30 : decode cX11_shuffle 30 = .ok (.aload_n 0, 1) := by decide +kernel
theorem dX11_shuffle_31 : decode cX11_shuffle 31 = .ok (.iconst 5, 1) := by decide +kernel
theorem dX11_shuffle_32 : decode cX11_shuffle 32 = .ok (.invokevirtual 312, 3) := by decide +kernel
theorem dX11_shuffle_35 : decode cX11_shuffle 35 = .ok (.ireturn, 1) := by decide +kernel
theorem dX11_canMove_0 : decode cX11_canMove 0 = .ok (.aload_n 0, 1) := by decide +kernel
theorem dX11_canMove_1 : decode cX11_canMove 1 = .ok (.iconst 0, 1) := by decide +kernel
theorem dX11_canMove_2 : decode cX11_canMove 2 = .ok (.putfield 59, 3) := by decide +kernel
theorem dX11_canMove_5 : decode cX11_canMove 5 = .ok (.aload_n 0, 1) := by decide +kernel
theorem dX11_canMove_6 : decode cX11_canMove 6 = .ok (.iconst 0, 1) := by decide +kernel
theorem dX11_canMove_7 : decode cX11_canMove 7 = .ok (.putfield 62, 3) := by decide +kernel
theorem dX11_canMove_10 : decode cX11_canMove 10 = .ok (.aload_n 0, 1) := by decide +kernel
theorem dX11_canMove_11 : decode cX11_canMove 11 = .ok (.iload_n 1, 1) := by decide +kernel
theorem dX11_canMove_12 : decode cX11_canMove 12 = .ok (.invokevirtual 324, 3) := by decide +kernel
theorem dX11_canMove_15 : decode cX11_canMove 15 = .ok (.ifCond .eq 11, 3) := by decide +kernel
theorem dX11_canMove_18 : decode cX11_canMove 18 = .ok (.aload_n 0, 1) := by decide +kernel
theorem dX11_canMove_19 : decode cX11_canMove 19 = .ok (.iload_n 2, 1) := by decide +kernel
theorem dX11_canMove_20 : decode cX11_canMove 20 = .ok (.invokevirtual 356, 3) := by decide +kernel
theorem dX11_canMove_23 : decode cX11_canMove 23 = .ok (.ifCond .ne 9, 3) := by decide +kernel
theorem dX11_canMove_26 : decode cX11_canMove 26 = .ok (.aload_n 0, 1) := by decide +kernel
theorem dX11_canMove_27 : decode cX11_canMove 27 = .ok (.iconst 2, 1) := by decide +kernel
theorem dX11_canMove_28 : decode cX11_canMove 28 = .ok (.invokevirtual 312, 3) := by decide +kernel
theorem dX11_canMove_31 : decode cX11_canMove 31 = .ok (.ireturn, 1) := by decide +kernel
theorem dX11_canMove_32 : decode cX11_canMove 32 = .ok (.aload_n 0, 1) := by decide +kernel
theorem dX11_canMove_33 : decode cX11_canMove 33 = .ok (.iload_n 1, 1) := by decide +kernel
theorem dX11_canMove_34 : decode cX11_canMove 34 = .ok (.iload_n 2, 1) := by decide +kernel
theorem dX11_canMove_35 : decode cX11_canMove 35 = .ok (.invokevirtual 359, 3) := by decide +kernel
theorem dX11_canMove_38 : decode cX11_canMove 38 = .ok (.ifCond .eq 7, 3) := by decide +kernel
theorem dX11_canMove_41 : decode cX11_canMove 41 = .ok (.iconst 1, 1) := by decide +kernel
theorem dX11_canMove_42 : decode cX11_canMove 42 = .ok (.goto 4, 3) := by decide +kernel
theorem dX11_canMove_45 : decode cX11_canMove 45 = .ok (.iconst 0, 1) := by decide +kernel
theorem dX11_canMove_46 : decode cX11_canMove 46 = .ok (.ireturn, 1) := by decide +kernel
theorem dX11_moveBy_0 : decode cX11_moveBy 0 = .ok (.iconst 0, 1) := by decide +kernel
theorem dX11_moveBy_1 : decode cX11_moveBy 1 = .ok (.istore_n 2, 1) := by decide +kernel
theorem dX11_moveBy_2 : decode cX11_moveBy 2 = .ok (.iconst 0, 1) := by decide +kernel
theorem dX11_moveBy_3 : decode cX11_moveBy 3 = .ok (.istore_n 3, 1) := by decide +kernel
theorem dX11_moveBy_4 : decode cX11_moveBy 4 = .ok (.iload_n 3, 1) := by decide +kernel
theorem dX11_moveBy_5 : decode cX11_moveBy 5 = .ok (.bipush 6, 2) := by decide +kernel
theorem dX11_moveBy_7 : decode cX11_moveBy 7 = .ok (.if_icmp .gt 71, 3) := by decide +kernel
theorem dX11_moveBy_10 : decode cX11_moveBy 10 = .ok (.iconst 0, 1) := by decide +kernel
theorem dX11_moveBy_11 : decode cX11_moveBy 11 = .ok (.istore 4, 2) := by decide +kernel
theorem dX11_moveBy_13 : decode cX11_moveBy 13 = .ok (.iload 4, 2) := by decide +kernel
theorem dX11_moveBy_15 : decode cX11_moveBy 15 = .ok (.bipush 7, 2) := by decide +kernel
theorem dX11_moveBy_17 : decode cX11_moveBy 17 = .ok (.if_icmp .gt 55, 3) := by decide +kernel
theorem dX11_moveBy_20 : decode cX11_moveBy 20 = .ok (.aload_n 0, 1) := by decide +kernel
theorem dX11_moveBy_21 : decode cX11_moveBy 21 = .ok (.iload_n 3, 1) := by decide +kernel
theorem dX11_moveBy_22 : decode cX11_moveBy 22 = .ok (.invokevirtual 324, 3) := by decide +kernel
theorem dX11_moveBy_25 : decode cX11_moveBy 25 = .ok (.ifCond .eq 41, 3) := by decide +kernel
theorem dX11_moveBy_28 : decode cX11_moveBy 28 = .ok (.aload_n 0, 1) := by decide +kernel
theorem dX11_moveBy_29 : decode cX11_moveBy 29 = .ok (.iload 4, 2) := by decide +kernel
theorem dX11_moveBy_31 : decode cX11_moveBy 31 = .ok (.invokevirtual 356, 3) := by decide +kernel
theorem dX11_moveBy_34 : decode cX11_moveBy 34 = .ok (.ifCond .eq 32, 3) := by decide +kernel
theorem dX11_moveBy_37 : decode cX11_moveBy 37 = .ok (.aload_n 0, 1) := by decide +kernel
theorem dX11_moveBy_38 : decode cX11_moveBy 38 = .ok (.iload_n 3, 1) := by decide +kernel
theorem dX11_moveBy_39 : decode cX11_moveBy 39 = .ok (.iload 4, 2) := by decide +kernel
theorem dX11_moveBy_41 : decode cX11_moveBy 41 = .ok (.invokevirtual 359, 3) := by decide +kernel
theorem dX11_moveBy_44 : decode cX11_moveBy 44 = .ok (.ifCond .ne 6, 3) := by decide +kernel
theorem dX11_moveBy_47 : decode cX11_moveBy 47 = .ok (.goto 19, 3) := by decide +kernel
theorem dX11_moveBy_50 : decode cX11_moveBy 50 = .ok (.iload_n 2, 1) := by decide +kernel
theorem dX11_moveBy_51 : decode cX11_moveBy 51 = .ok (.iload_n 1, 1) := by decide +kernel
theorem dX11_moveBy_52 : decode cX11_moveBy 52 = .ok (.if_icmp .ne 11, 3) := by decide +kernel
theorem dX11_moveBy_55 : decode cX11_moveBy 55 = .ok (.bipush 10, 2) := by decide +kernel
theorem dX11_moveBy_57 : decode cX11_moveBy 57 = .ok (.iload_n 3, 1) := by decide +kernel
theorem dX11_moveBy_58 : decode cX11_moveBy 58 = .ok (.imul, 1) := by decide +kernel
theorem dX11_moveBy_59 : decode cX11_moveBy 59 = .ok (.iload 4, 2) := by decide +kernel
theorem dX11_moveBy_61 : decode cX11_moveBy 61 = .ok (.iadd, 1) := by decide +kernel
theorem dX11_moveBy_62 : decode cX11_moveBy 62 = .ok (.ireturn, 1) := by decide +kernel
theorem dX11_moveBy_63 : decode cX11_moveBy 63 = .ok (.iinc 2 1, 3) := by decide +kernel
theorem dX11_moveBy_66 : decode cX11_moveBy 66 = .ok (.iinc 4 1, 3) := by decide +kernel
theorem dX11_moveBy_69 : decode cX11_moveBy 69 = .ok (.goto (-56), 3) := by decide +kernel
theorem dX11_moveBy_72 : decode cX11_moveBy 72 = .ok (.iinc 3 1, 3) := by decide +kernel
theorem dX11_moveBy_75 : decode cX11_moveBy 75 = .ok (.goto (-71), 3) := by decide +kernel
theorem dX11_moveBy_78 : decode cX11_moveBy 78 = .ok (.iload_n 1, 1) := by decide +kernel
theorem dX11_moveBy_79 : decode cX11_moveBy 79 = .ok (.ifCond .ge 7, 3) := by decide +kernel
theorem dX11_moveBy_82 : decode cX11_moveBy 82 = .ok (.iload_n 2, 1) := by decide +kernel
theorem dX11_moveBy_83 : decode cX11_moveBy 83 = .ok (.goto 4, 3) := by decide +kernel
theorem dX11_moveBy_86 : decode cX11_moveBy 86 = .ok (.iconst (-1), 1) := by decide +kernel
theorem dX11_moveBy_87 : decode cX11_moveBy 87 = .ok (.ireturn, 1) := by decide +kernel
theorem dX11_moves_0 : decode cX11_moves 0 = .ok (.aload_n 0, 1) := by decide +kernel
theorem dX11_moves_1 : decode cX11_moves 1 = .ok (.iconst 0, 1) := by decide +kernel
theorem dX11_moves_2 : decode cX11_moves 2 = .ok (.putfield 59, 3) := by decide +kernel
theorem dX11_moves_5 : decode cX11_moves 5 = .ok (.aload_n 0, 1) := by decide +kernel
theorem dX11_moves_6 : decode cX11_moves 6 = .ok (.iconst 0, 1) := by decide +kernel
theorem dX11_moves_7 : decode cX11_moves 7 = .ok (.putfield 62, 3) := by decide +kernel
theorem dX11_moves_10 : decode cX11_moves 10 = .ok (.aload_n 0, 1) := by decide +kernel
theorem dX11_moves_11 : decode cX11_moves 11 = .ok (.iconst (-1), 1) := by decide +kernel
theorem dX11_moves_12 : decode cX11_moves 12 = .ok (.invokevirtual 396, 3) := by decide +kernel
theorem dX11_moves_15 : decode cX11_moves 15 = .ok (.ireturn, 1) := by decide +kernel
theorem dX11_moveAt_0 : decode cX11_moveAt 0 = .ok (.aload_n 0, 1) := by decide +kernel
theorem dX11_moveAt_1 : decode cX11_moveAt 1 = .ok (.iconst 0, 1) := by decide +kernel
theorem dX11_moveAt_2 : decode cX11_moveAt 2 = .ok (.putfield 59, 3) := by decide +kernel
theorem dX11_moveAt_5 : decode cX11_moveAt 5 = .ok (.aload_n 0, 1) := by decide +kernel
theorem dX11_moveAt_6 : decode cX11_moveAt 6 = .ok (.iconst 0, 1) := by decide +kernel
theorem dX11_moveAt_7 : decode cX11_moveAt 7 = .ok (.putfield 62, 3) := by decide +kernel
theorem dX11_moveAt_10 : decode cX11_moveAt 10 = .ok (.iload_n 1, 1) := by decide +kernel
theorem dX11_moveAt_11 : decode cX11_moveAt 11 = .ok (.ifCond .ge 7, 3) := by decide +kernel
theorem dX11_moveAt_14 : decode cX11_moveAt 14 = .ok (.iconst (-1), 1) := by decide +kernel
theorem dX11_moveAt_15 : decode cX11_moveAt 15 = .ok (.goto 8, 3) := by decide +kernel
theorem dX11_moveAt_18 : decode cX11_moveAt 18 = .ok (.aload_n 0, 1) := by decide +kernel
theorem dX11_moveAt_19 : decode cX11_moveAt 19 = .ok (.iload_n 1, 1) := by decide +kernel
theorem dX11_moveAt_20 : decode cX11_moveAt 20 = .ok (.invokevirtual 396, 3) := by decide +kernel
theorem dX11_moveAt_23 : decode cX11_moveAt 23 = .ok (.istore_n 2, 1) := by decide +kernel
theorem dX11_moveAt_24 : decode cX11_moveAt 24 = .ok (.iload_n 2, 1) := by decide +kernel
theorem dX11_moveAt_25 : decode cX11_moveAt 25 = .ok (.ifCond .ge 12, 3) := by decide +kernel
theorem dX11_moveAt_28 : decode cX11_moveAt 28 = .ok (.aload_n 0, 1) := by decide +kernel
theorem dX11_moveAt_29 : decode cX11_moveAt 29 = .ok (.bipush 8, 2) := by decide +kernel
theorem dX11_moveAt_31 : decode cX11_moveAt 31 = .ok (.invokevirtual 312, 3) := by decide +kernel
theorem dX11_moveAt_34 : decode cX11_moveAt 34 = .ok (.goto 4, 3) := by decide +kernel
theorem dX11_moveAt_37 : decode cX11_moveAt 37 = .ok (.iload_n 2, 1) := by decide +kernel
theorem dX11_moveAt_38 : decode cX11_moveAt 38 = .ok (.ireturn, 1) := by decide +kernel
theorem dX11_keeps_0 : decode cX11_keeps 0 = .ok (.iconst 0, 1) := by decide +kernel
theorem dX11_keeps_1 : decode cX11_keeps 1 = .ok (.istore_n 2, 1) := by decide +kernel
theorem dX11_keeps_2 : decode cX11_keeps 2 = .ok (.iload_n 2, 1) := by decide +kernel
theorem dX11_keeps_3 : decode cX11_keeps 3 = .ok (.sipush 170, 3) := by decide +kernel
theorem dX11_keeps_6 : decode cX11_keeps 6 = .ok (.if_icmp .ge 27, 3) := by decide +kernel
theorem dX11_keeps_9 : decode cX11_keeps 9 = .ok (.aload_n 0, 1) := by decide +kernel
theorem dX11_keeps_10 : decode cX11_keeps 10 = .ok (.getfield 38, 3) := by decide +kernel
theorem dX11_keeps_13 : decode cX11_keeps 13 = .ok (.sipush 170, 3) := by decide +kernel
theorem dX11_keeps_16 : decode cX11_keeps 16 = .ok (.iload_n 1, 1) := by decide +kernel
theorem dX11_keeps_17 : decode cX11_keeps 17 = .ok (.imul, 1) := by decide +kernel
theorem dX11_keeps_18 : decode cX11_keeps 18 = .ok (.iload_n 2, 1) := by decide +kernel
theorem dX11_keeps_19 : decode cX11_keeps 19 = .ok (.iadd, 1) := by decide +kernel
theorem dX11_keeps_20 : decode cX11_keeps 20 = .ok (.aload_n 0, 1) := by decide +kernel
theorem dX11_keeps_21 : decode cX11_keeps 21 = .ok (.getfield 35, 3) := by decide +kernel
theorem dX11_keeps_24 : decode cX11_keeps 24 = .ok (.iload_n 2, 1) := by decide +kernel
theorem dX11_keeps_25 : decode cX11_keeps 25 = .ok (.iaload, 1) := by decide +kernel
theorem dX11_keeps_26 : decode cX11_keeps 26 = .ok (.iastore, 1) := by decide +kernel
theorem dX11_keeps_27 : decode cX11_keeps 27 = .ok (.iinc 2 1, 3) := by decide +kernel
theorem dX11_keeps_30 : decode cX11_keeps 30 = .ok (.goto (-28), 3) := by decide +kernel
theorem dX11_keeps_33 : decode cX11_keeps 33 = .ok (.return_, 1) := by decide +kernel
theorem dX11_gives_0 : decode cX11_gives 0 = .ok (.iconst 0, 1) := by decide +kernel
theorem dX11_gives_1 : decode cX11_gives 1 = .ok (.istore_n 2, 1) := by decide +kernel
theorem dX11_gives_2 : decode cX11_gives 2 = .ok (.iload_n 2, 1) := by decide +kernel
theorem dX11_gives_3 : decode cX11_gives 3 = .ok (.sipush 170, 3) := by decide +kernel
theorem dX11_gives_6 : decode cX11_gives 6 = .ok (.if_icmp .ge 27, 3) := by decide +kernel
theorem dX11_gives_9 : decode cX11_gives 9 = .ok (.aload_n 0, 1) := by decide +kernel
theorem dX11_gives_10 : decode cX11_gives 10 = .ok (.getfield 35, 3) := by decide +kernel
theorem dX11_gives_13 : decode cX11_gives 13 = .ok (.iload_n 2, 1) := by decide +kernel
theorem dX11_gives_14 : decode cX11_gives 14 = .ok (.aload_n 0, 1) := by decide +kernel
theorem dX11_gives_15 : decode cX11_gives 15 = .ok (.getfield 38, 3) := by decide +kernel
theorem dX11_gives_18 : decode cX11_gives 18 = .ok (.sipush 170, 3) := by decide +kernel
theorem dX11_gives_21 : decode cX11_gives 21 = .ok (.iload_n 1, 1) := by decide +kernel
theorem dX11_gives_22 : decode cX11_gives 22 = .ok (.imul, 1) := by decide +kernel
theorem dX11_gives_23 : decode cX11_gives 23 = .ok (.iload_n 2, 1) := by decide +kernel
theorem dX11_gives_24 : decode cX11_gives 24 = .ok (.iadd, 1) := by decide +kernel
theorem dX11_gives_25 : decode cX11_gives 25 = .ok (.iaload, 1) := by decide +kernel
theorem dX11_gives_26 : decode cX11_gives 26 = .ok (.iastore, 1) := by decide +kernel
theorem dX11_gives_27 : decode cX11_gives 27 = .ok (.iinc 2 1, 3) := by decide +kernel
theorem dX11_gives_30 : decode cX11_gives 30 = .ok (.goto (-28), 3) := by decide +kernel
theorem dX11_gives_33 : decode cX11_gives 33 = .ok (.return_, 1) := by decide +kernel
theorem dX11_runs_0 : decode cX11_runs 0 = .ok (.aload_n 0, 1) := by decide +kernel
theorem dX11_runs_1 : decode cX11_runs 1 = .ok (.iconst 0, 1) := by decide +kernel
theorem dX11_runs_2 : decode cX11_runs 2 = .ok (.putfield 59, 3) := by decide +kernel
theorem dX11_runs_5 : decode cX11_runs 5 = .ok (.aload_n 0, 1) := by decide +kernel
theorem dX11_runs_6 : decode cX11_runs 6 = .ok (.iconst 0, 1) := by decide +kernel
theorem dX11_runs_7 : decode cX11_runs 7 = .ok (.putfield 62, 3) := by decide +kernel
theorem dX11_runs_10 : decode cX11_runs 10 = .ok (.aload_n 0, 1) := by decide +kernel
theorem dX11_runs_11 : decode cX11_runs 11 = .ok (.iconst 0, 1) := by decide +kernel
theorem dX11_runs_12 : decode cX11_runs 12 = .ok (.invokevirtual 399, 3) := by decide +kernel
theorem dX11_runs_15 : decode cX11_runs 15 = .ok (.aload_n 0, 1) := by decide +kernel
theorem dX11_runs_16 : decode cX11_runs 16 = .ok (.invokevirtual 371, 3) := by decide +kernel
theorem dX11_runs_19 : decode cX11_runs 19 = .ok (.istore_n 1, 1) := by decide +kernel
theorem dX11_runs_20 : decode cX11_runs 20 = .ok (.aload_n 0, 1) := by decide +kernel
theorem dX11_runs_21 : decode cX11_runs 21 = .ok (.iconst 0, 1) := by decide +kernel
theorem dX11_runs_22 : decode cX11_runs 22 = .ok (.invokevirtual 402, 3) := by decide +kernel
theorem dX11_runs_25 : decode cX11_runs 25 = .ok (.iload_n 1, 1) := by decide +kernel
theorem dX11_runs_26 : decode cX11_runs 26 = .ok (.ireturn, 1) := by decide +kernel
theorem dX11_runWater_0 : decode cX11_runWater 0 = .ok (.aload_n 0, 1) := by decide +kernel
theorem dX11_runWater_1 : decode cX11_runWater 1 = .ok (.iconst 0, 1) := by decide +kernel
theorem dX11_runWater_2 : decode cX11_runWater 2 = .ok (.putfield 59, 3) := by decide +kernel
theorem dX11_runWater_5 : decode cX11_runWater 5 = .ok (.aload_n 0, 1) := by decide +kernel
theorem dX11_runWater_6 : decode cX11_runWater 6 = .ok (.iconst 0, 1) := by decide +kernel
theorem dX11_runWater_7 : decode cX11_runWater 7 = .ok (.putfield 62, 3) := by decide +kernel
theorem dX11_runWater_10 : decode cX11_runWater 10 = .ok (.aload_n 0, 1) := by decide +kernel
theorem dX11_runWater_11 : decode cX11_runWater 11 = .ok (.iload_n 1, 1) := by decide +kernel
theorem dX11_runWater_12 : decode cX11_runWater 12 = .ok (.invokevirtual 330, 3) := by decide +kernel
theorem dX11_runWater_15 : decode cX11_runWater 15 = .ok (.ifCond .ne 9, 3) := by decide +kernel
theorem dX11_runWater_18 : decode cX11_runWater 18 = .ok (.aload_n 0, 1) := by decide +kernel
theorem dX11_runWater_19 : decode cX11_runWater 19 = .ok (.iconst 2, 1) := by decide +kernel
theorem dX11_runWater_20 : decode cX11_runWater 20 = .ok (.invokevirtual 312, 3) := by decide +kernel
theorem dX11_runWater_23 : decode cX11_runWater 23 = .ok (.ireturn, 1) := by decide +kernel
theorem dX11_runWater_24 : decode cX11_runWater 24 = .ok (.aload_n 0, 1) := by decide +kernel
theorem dX11_runWater_25 : decode cX11_runWater 25 = .ok (.iconst 0, 1) := by decide +kernel
theorem dX11_runWater_26 : decode cX11_runWater 26 = .ok (.invokevirtual 399, 3) := by decide +kernel
theorem dX11_runWater_29 : decode cX11_runWater 29 = .ok (.aload_n 0, 1) := by decide +kernel
theorem dX11_runWater_30 : decode cX11_runWater 30 = .ok (.invokevirtual 371, 3) := by decide +kernel
theorem dX11_runWater_33 : decode cX11_runWater 33 = .ok (.pop, 1) := by decide +kernel
theorem dX11_runWater_34 : decode cX11_runWater 34 = .ok (.aload_n 0, 1) := by decide +kernel
theorem dX11_runWater_35 : decode cX11_runWater 35 = .ok (.iconst 0, 1) := by decide +kernel
theorem dX11_runWater_36 : decode cX11_runWater 36 = .ok (.invokevirtual 402, 3) := by decide +kernel
theorem dX11_runWater_39 : decode cX11_runWater 39 = .ok (.aload_n 0, 1) := by decide +kernel
theorem dX11_runWater_40 : decode cX11_runWater 40 = .ok (.getfield 47, 3) := by decide +kernel
theorem dX11_runWater_43 : decode cX11_runWater 43 = .ok (.iload_n 1, 1) := by decide +kernel
theorem dX11_runWater_44 : decode cX11_runWater 44 = .ok (.iaload, 1) := by decide +kernel
theorem dX11_runWater_45 : decode cX11_runWater 45 = .ok (.ireturn, 1) := by decide +kernel
theorem dX11_finds_0 : decode cX11_finds 0 = .ok (.iconst 0, 1) := by decide +kernel
theorem dX11_finds_1 : decode cX11_finds 1 = .ok (.istore_n 2, 1) := by decide +kernel
theorem dX11_finds_2 : decode cX11_finds 2 = .ok (.iload_n 2, 1) := by decide +kernel
theorem dX11_finds_3 : decode cX11_finds 3 = .ok (.aload_n 0, 1) := by decide +kernel
theorem dX11_finds_4 : decode cX11_finds 4 = .ok (.getfield 35, 3) := by decide +kernel
theorem dX11_finds_7 : decode cX11_finds 7 = .ok (.iconst 4, 1) := by decide +kernel
theorem dX11_finds_8 : decode cX11_finds 8 = .ok (.iaload, 1) := by decide +kernel
theorem dX11_finds_9 : decode cX11_finds 9 = .ok (.if_icmp .ge 67, 3) := by decide +kernel
theorem dX11_finds_12 : decode cX11_finds 12 = .ok (.iconst 0, 1) := by decide +kernel
theorem dX11_finds_13 : decode cX11_finds 13 = .ok (.istore_n 3, 1) := by decide +kernel
theorem dX11_finds_14 : decode cX11_finds 14 = .ok (.iload_n 3, 1) := by decide +kernel
theorem dX11_finds_15 : decode cX11_finds 15 = .ok (.aload_n 0, 1) := by decide +kernel
theorem dX11_finds_16 : decode cX11_finds 16 = .ok (.getfield 35, 3) := by decide +kernel
theorem dX11_finds_19 : decode cX11_finds 19 = .ok (.bipush 14, 2) := by decide +kernel
theorem dX11_finds_21 : decode cX11_finds 21 = .ok (.iload_n 2, 1) := by decide +kernel
theorem dX11_finds_22 : decode cX11_finds 22 = .ok (.iadd, 1) := by decide +kernel
theorem dX11_finds_23 : decode cX11_finds 23 = .ok (.iaload, 1) := by decide +kernel
theorem dX11_finds_24 : decode cX11_finds 24 = .ok (.if_icmp .ge 46, 3) := by decide +kernel
theorem dX11_finds_27 : decode cX11_finds 27 = .ok (.aload_n 0, 1) := by decide +kernel
theorem dX11_finds_28 : decode cX11_finds 28 = .ok (.iload_n 2, 1) := by decide +kernel
theorem dX11_finds_29 : decode cX11_finds 29 = .ok (.iload_n 3, 1) := by decide +kernel
theorem dX11_finds_30 : decode cX11_finds 30 = .ok (.invokevirtual 321, 3) := by decide +kernel
theorem dX11_finds_33 : decode cX11_finds 33 = .ok (.iload_n 1, 1) := by decide +kernel
theorem dX11_finds_34 : decode cX11_finds 34 = .ok (.if_icmp .eq 6, 3) := by decide +kernel
theorem dX11_finds_37 : decode cX11_finds 37 = .ok (.goto 27, 3) := by decide +kernel
theorem dX11_finds_40 : decode cX11_finds 40 = .ok (.aload_n 0, 1) := by decide +kernel
theorem dX11_finds_41 : decode cX11_finds 41 = .ok (.iload_n 2, 1) := by decide +kernel
theorem dX11_finds_42 : decode cX11_finds 42 = .ok (.putfield 405, 3) := by decide +kernel
theorem dX11_finds_45 : decode cX11_finds 45 = .ok (.aload_n 0, 1) := by decide +kernel
theorem dX11_finds_46 : decode cX11_finds 46 = .ok (.aload_n 0, 1) := by decide +kernel
theorem dX11_finds_47 : decode cX11_finds 47 = .ok (.getfield 35, 3) := by decide +kernel
theorem dX11_finds_50 : decode cX11_finds 50 = .ok (.bipush 14, 2) := by decide +kernel
theorem dX11_finds_52 : decode cX11_finds 52 = .ok (.iload_n 2, 1) := by decide +kernel
theorem dX11_finds_53 : decode cX11_finds 53 = .ok (.iadd, 1) := by decide +kernel
theorem dX11_finds_54 : decode cX11_finds 54 = .ok (.iaload, 1) := by decide +kernel
theorem dX11_finds_55 : decode cX11_finds 55 = .ok (.iconst 1, 1) := by decide +kernel
theorem dX11_finds_56 : decode cX11_finds 56 = .ok (.isub, 1) := by decide +kernel
theorem dX11_finds_57 : decode cX11_finds 57 = .ok (.iload_n 3, 1) := by decide +kernel
theorem dX11_finds_58 : decode cX11_finds 58 = .ok (.isub, 1) := by decide +kernel
theorem dX11_finds_59 : decode cX11_finds 59 = .ok (.putfield 408, 3) := by decide +kernel
theorem dX11_finds_62 : decode cX11_finds 62 = .ok (.iconst 1, 1) := by decide +kernel
theorem dX11_finds_63 : decode cX11_finds 63 = .ok (.ireturn, 1) := by decide +kernel
theorem dX11_finds_64 : decode cX11_finds 64 = .ok (.iinc 3 1, 3) := by decide +kernel
theorem dX11_finds_67 : decode cX11_finds 67 = .ok (.goto (-53), 3) := by decide +kernel
theorem dX11_finds_70 : decode cX11_finds 70 = .ok (.iinc 2 1, 3) := by decide +kernel
theorem dX11_finds_73 : decode cX11_finds 73 = .ok (.goto (-71), 3) := by decide +kernel
theorem dX11_finds_76 : decode cX11_finds 76 = .ok (.iconst 0, 1) := by decide +kernel
theorem dX11_finds_77 : decode cX11_finds 77 = .ok (.istore_n 2, 1) := by decide +kernel
theorem dX11_finds_78 : decode cX11_finds 78 = .ok (.iload_n 2, 1) := by decide +kernel
theorem dX11_finds_79 : decode cX11_finds 79 = .ok (.aload_n 0, 1) := by decide +kernel
theorem dX11_finds_80 : decode cX11_finds 80 = .ok (.getfield 35, 3) := by decide +kernel
theorem dX11_finds_83 : decode cX11_finds 83 = .ok (.bipush 9, 2) := by decide +kernel
theorem dX11_finds_85 : decode cX11_finds 85 = .ok (.iaload, 1) := by decide +kernel
theorem dX11_finds_86 : decode cX11_finds 86 = .ok (.if_icmp .ge 48, 3) := by decide +kernel
theorem dX11_finds_89 : decode cX11_finds 89 = .ok (.aload_n 0, 1) := by decide +kernel
theorem dX11_finds_90 : decode cX11_finds 90 = .ok (.getfield 35, 3) := by decide +kernel
theorem dX11_finds_93 : decode cX11_finds 93 = .ok (.bipush 116, 2) := by decide +kernel
theorem dX11_finds_95 : decode cX11_finds 95 = .ok (.iload_n 2, 1) := by decide +kernel
theorem dX11_finds_96 : decode cX11_finds 96 = .ok (.iadd, 1) := by decide +kernel
theorem dX11_finds_97 : decode cX11_finds 97 = .ok (.iaload, 1) := by decide +kernel
theorem dX11_finds_98 : decode cX11_finds 98 = .ok (.iload_n 1, 1) := by decide +kernel
theorem dX11_finds_99 : decode cX11_finds 99 = .ok (.if_icmp .eq 6, 3) := by decide +kernel
theorem dX11_finds_102 : decode cX11_finds 102 = .ok (.goto 26, 3) := by decide +kernel
theorem dX11_finds_105 : decode cX11_finds 105 = .ok (.aload_n 0, 1) := by decide +kernel
theorem dX11_finds_106 : decode cX11_finds 106 = .ok (.bipush 6, 2) := by decide +kernel
theorem dX11_finds_108 : decode cX11_finds 108 = .ok (.putfield 405, 3) := by decide +kernel
theorem dX11_finds_111 : decode cX11_finds 111 = .ok (.aload_n 0, 1) := by decide +kernel
theorem dX11_finds_112 : decode cX11_finds 112 = .ok (.aload_n 0, 1) := by decide +kernel
theorem dX11_finds_113 : decode cX11_finds 113 = .ok (.getfield 35, 3) := by decide +kernel
theorem dX11_finds_116 : decode cX11_finds 116 = .ok (.bipush 9, 2) := by decide +kernel
theorem dX11_finds_118 : decode cX11_finds 118 = .ok (.iaload, 1) := by decide +kernel
theorem dX11_finds_119 : decode cX11_finds 119 = .ok (.iconst 1, 1) := by decide +kernel
theorem dX11_finds_120 : decode cX11_finds 120 = .ok (.isub, 1) := by decide +kernel
theorem dX11_finds_121 : decode cX11_finds 121 = .ok (.iload_n 2, 1) := by decide +kernel
theorem dX11_finds_122 : decode cX11_finds 122 = .ok (.isub, 1) := by decide +kernel
theorem dX11_finds_123 : decode cX11_finds 123 = .ok (.putfield 408, 3) := by decide +kernel
theorem dX11_finds_126 : decode cX11_finds 126 = .ok (.iconst 1, 1) := by decide +kernel
theorem dX11_finds_127 : decode cX11_finds 127 = .ok (.ireturn, 1) := by decide +kernel
theorem dX11_finds_128 : decode cX11_finds 128 = .ok (.iinc 2 1, 3) := by decide +kernel
theorem dX11_finds_131 : decode cX11_finds 131 = .ok (.goto (-53), 3) := by decide +kernel
theorem dX11_finds_134 : decode cX11_finds 134 = .ok (.iconst 0, 1) := by decide +kernel
theorem dX11_finds_135 : decode cX11_finds 135 = .ok (.istore_n 2, 1) := by decide +kernel
theorem dX11_finds_136 : decode cX11_finds 136 = .ok (.iload_n 2, 1) := by decide +kernel
theorem dX11_finds_137 : decode cX11_finds 137 = .ok (.aload_n 0, 1) := by decide +kernel
theorem dX11_finds_138 : decode cX11_finds 138 = .ok (.getfield 35, 3) := by decide +kernel
theorem dX11_finds_141 : decode cX11_finds 141 = .ok (.bipush 8, 2) := by decide +kernel
theorem dX11_finds_143 : decode cX11_finds 143 = .ok (.iaload, 1) := by decide +kernel
theorem dX11_finds_144 : decode cX11_finds 144 = .ok (.if_icmp .ge 38, 3) := by decide +kernel
theorem dX11_finds_147 : decode cX11_finds 147 = .ok (.aload_n 0, 1) := by decide +kernel
theorem dX11_finds_148 : decode cX11_finds 148 = .ok (.getfield 35, 3) := by decide +kernel
theorem dX11_finds_151 : decode cX11_finds 151 = .ok (.bipush 92, 2) := by decide +kernel
theorem dX11_finds_153 : decode cX11_finds 153 = .ok (.iload_n 2, 1) := by decide +kernel
theorem dX11_finds_154 : decode cX11_finds 154 = .ok (.iadd, 1) := by decide +kernel
theorem dX11_finds_155 : decode cX11_finds 155 = .ok (.iaload, 1) := by decide +kernel
theorem dX11_finds_156 : decode cX11_finds 156 = .ok (.iload_n 1, 1) := by decide +kernel
theorem dX11_finds_157 : decode cX11_finds 157 = .ok (.if_icmp .eq 6, 3) := by decide +kernel
theorem dX11_finds_160 : decode cX11_finds 160 = .ok (.goto 16, 3) := by decide +kernel
theorem dX11_finds_163 : decode cX11_finds 163 = .ok (.aload_n 0, 1) := by decide +kernel
theorem dX11_finds_164 : decode cX11_finds 164 = .ok (.bipush 8, 2) := by decide +kernel
theorem dX11_finds_166 : decode cX11_finds 166 = .ok (.putfield 405, 3) := by decide +kernel
theorem dX11_finds_169 : decode cX11_finds 169 = .ok (.aload_n 0, 1) := by decide +kernel
theorem dX11_finds_170 : decode cX11_finds 170 = .ok (.iload_n 2, 1) := by decide +kernel
theorem dX11_finds_171 : decode cX11_finds 171 = .ok (.putfield 408, 3) := by decide +kernel
theorem dX11_finds_174 : decode cX11_finds 174 = .ok (.iconst 1, 1) := by decide +kernel
theorem dX11_finds_175 : decode cX11_finds 175 = .ok (.ireturn, 1) := by decide +kernel
theorem dX11_finds_176 : decode cX11_finds 176 = .ok (.iinc 2 1, 3) := by decide +kernel
theorem dX11_finds_179 : decode cX11_finds 179 = .ok (.goto (-43), 3) := by decide +kernel
theorem dX11_finds_182 : decode cX11_finds 182 = .ok (.iconst 0, 1) := by decide +kernel
theorem dX11_finds_183 : decode cX11_finds 183 = .ok (.ireturn, 1) := by decide +kernel
theorem dX11_findsNext_0 : decode cX11_findsNext 0 = .ok (.aload_n 0, 1) := by decide +kernel
theorem dX11_findsNext_1 : decode cX11_findsNext 1 = .ok (.getfield 35, 3) := by decide +kernel
theorem dX11_findsNext_4 : decode cX11_findsNext 4 = .ok (.bipush 10, 2) := by decide +kernel
theorem dX11_findsNext_6 : decode cX11_findsNext 6 = .ok (.iload_n 1, 1) := by decide +kernel
theorem dX11_findsNext_7 : decode cX11_findsNext 7 = .ok (.iadd, 1) := by decide +kernel
theorem dX11_findsNext_8 : decode cX11_findsNext 8 = .ok (.iaload, 1) := by decide +kernel
theorem dX11_findsNext_9 : decode cX11_findsNext 9 = .ok (.aload_n 0, 1) := by decide +kernel
theorem dX11_findsNext_10 : decode cX11_findsNext 10 = .ok (.getfield 35, 3) := by decide +kernel
theorem dX11_findsNext_13 : decode cX11_findsNext 13 = .ok (.iconst 0, 1) := by decide +kernel
theorem dX11_findsNext_14 : decode cX11_findsNext 14 = .ok (.iaload, 1) := by decide +kernel
theorem dX11_findsNext_15 : decode cX11_findsNext 15 = .ok (.if_icmp .ge 28, 3) := by decide +kernel
theorem dX11_findsNext_18 : decode cX11_findsNext 18 = .ok (.aload_n 0, 1) := by decide +kernel
theorem dX11_findsNext_19 : decode cX11_findsNext 19 = .ok (.bipush 6, 2) := by decide +kernel
theorem dX11_findsNext_21 : decode cX11_findsNext 21 = .ok (.iload_n 1, 1) := by decide +kernel
theorem dX11_findsNext_22 : decode cX11_findsNext 22 = .ok (.imul, 1) := by decide +kernel
theorem dX11_findsNext_23 : decode cX11_findsNext 23 = .ok (.aload_n 0, 1) := by decide +kernel
theorem dX11_findsNext_24 : decode cX11_findsNext 24 = .ok (.getfield 35, 3) := by decide +kernel
theorem dX11_findsNext_27 : decode cX11_findsNext 27 = .ok (.bipush 10, 2) := by decide +kernel
theorem dX11_findsNext_29 : decode cX11_findsNext 29 = .ok (.iload_n 1, 1) := by decide +kernel
theorem dX11_findsNext_30 : decode cX11_findsNext 30 = .ok (.iadd, 1) := by decide +kernel
theorem dX11_findsNext_31 : decode cX11_findsNext 31 = .ok (.iaload, 1) := by decide +kernel
theorem dX11_findsNext_32 : decode cX11_findsNext 32 = .ok (.iadd, 1) := by decide +kernel
theorem dX11_findsNext_33 : decode cX11_findsNext 33 = .ok (.invokevirtual 411, 3) := by decide +kernel
theorem dX11_findsNext_36 : decode cX11_findsNext 36 = .ok (.ifCond .eq 7, 3) := by decide +kernel
theorem dX11_findsNext_39 : decode cX11_findsNext 39 = .ok (.iconst 1, 1) := by decide +kernel
theorem dX11_findsNext_40 : decode cX11_findsNext 40 = .ok (.goto 4, 3) := by decide +kernel
theorem dX11_findsNext_43 : decode cX11_findsNext 43 = .ok (.iconst 0, 1) := by decide +kernel
theorem dX11_findsNext_44 : decode cX11_findsNext 44 = .ok (.ireturn, 1) := by decide +kernel
theorem dX11_next_0 : decode cX11_next 0 = .ok (.aload_n 0, 1) := by decide +kernel
theorem dX11_next_1 : decode cX11_next 1 = .ok (.iconst 0, 1) := by decide +kernel
theorem dX11_next_2 : decode cX11_next 2 = .ok (.putfield 59, 3) := by decide +kernel
theorem dX11_next_5 : decode cX11_next 5 = .ok (.aload_n 0, 1) := by decide +kernel
theorem dX11_next_6 : decode cX11_next 6 = .ok (.iconst 0, 1) := by decide +kernel
theorem dX11_next_7 : decode cX11_next 7 = .ok (.putfield 62, 3) := by decide +kernel
theorem dX11_next_10 : decode cX11_next 10 = .ok (.aload_n 0, 1) := by decide +kernel
theorem dX11_next_11 : decode cX11_next 11 = .ok (.iload_n 1, 1) := by decide +kernel
theorem dX11_next_12 : decode cX11_next 12 = .ok (.invokevirtual 330, 3) := by decide +kernel
theorem dX11_next_15 : decode cX11_next 15 = .ok (.ifCond .ne 9, 3) := by decide +kernel
theorem dX11_next_18 : decode cX11_next 18 = .ok (.aload_n 0, 1) := by decide +kernel
theorem dX11_next_19 : decode cX11_next 19 = .ok (.iconst 2, 1) := by decide +kernel
theorem dX11_next_20 : decode cX11_next 20 = .ok (.invokevirtual 312, 3) := by decide +kernel
theorem dX11_next_23 : decode cX11_next 23 = .ok (.ireturn, 1) := by decide +kernel
theorem dX11_next_24 : decode cX11_next 24 = .ok (.aload_n 0, 1) := by decide +kernel
theorem dX11_next_25 : decode cX11_next 25 = .ok (.iload_n 1, 1) := by decide +kernel
theorem dX11_next_26 : decode cX11_next 26 = .ok (.invokevirtual 414, 3) := by decide +kernel
theorem dX11_next_29 : decode cX11_next 29 = .ok (.ifCond .eq 20, 3) := by decide +kernel
theorem dX11_next_32 : decode cX11_next 32 = .ok (.bipush 6, 2) := by decide +kernel
theorem dX11_next_34 : decode cX11_next 34 = .ok (.iload_n 1, 1) := by decide +kernel
theorem dX11_next_35 : decode cX11_next 35 = .ok (.imul, 1) := by decide +kernel
theorem dX11_next_36 : decode cX11_next 36 = .ok (.aload_n 0, 1) := by decide +kernel
theorem dX11_next_37 : decode cX11_next 37 = .ok (.getfield 35, 3) := by decide +kernel
theorem dX11_next_40 : decode cX11_next 40 = .ok (.bipush 10, 2) := by decide +kernel
theorem dX11_next_42 : decode cX11_next 42 = .ok (.iload_n 1, 1) := by decide +kernel
theorem dX11_next_43 : decode cX11_next 43 = .ok (.iadd, 1) := by decide +kernel
theorem dX11_next_44 : decode cX11_next 44 = .ok (.iaload, 1) := by decide +kernel
theorem dX11_next_45 : decode cX11_next 45 = .ok (.iadd, 1) := by decide +kernel
theorem dX11_next_46 : decode cX11_next 46 = .ok (.goto 9, 3) := by decide +kernel
theorem dX11_next_49 : decode cX11_next 49 = .ok (.aload_n 0, 1) := by decide +kernel
theorem dX11_next_50 : decode cX11_next 50 = .ok (.bipush 8, 2) := by decide +kernel
theorem dX11_next_52 : decode cX11_next 52 = .ok (.invokevirtual 312, 3) := by decide +kernel
theorem dX11_next_55 : decode cX11_next 55 = .ok (.ireturn, 1) := by decide +kernel
theorem dX11_nextAt_0 : decode cX11_nextAt 0 = .ok (.aload_n 0, 1) := by decide +kernel
theorem dX11_nextAt_1 : decode cX11_nextAt 1 = .ok (.iconst 0, 1) := by decide +kernel
theorem dX11_nextAt_2 : decode cX11_nextAt 2 = .ok (.putfield 59, 3) := by decide +kernel
theorem dX11_nextAt_5 : decode cX11_nextAt 5 = .ok (.aload_n 0, 1) := by decide +kernel
theorem dX11_nextAt_6 : decode cX11_nextAt 6 = .ok (.iconst 0, 1) := by decide +kernel
theorem dX11_nextAt_7 : decode cX11_nextAt 7 = .ok (.putfield 62, 3) := by decide +kernel
theorem dX11_nextAt_10 : decode cX11_nextAt 10 = .ok (.aload_n 0, 1) := by decide +kernel
theorem dX11_nextAt_11 : decode cX11_nextAt 11 = .ok (.iload_n 1, 1) := by decide +kernel
theorem dX11_nextAt_12 : decode cX11_nextAt 12 = .ok (.invokevirtual 330, 3) := by decide +kernel
theorem dX11_nextAt_15 : decode cX11_nextAt 15 = .ok (.ifCond .ne 9, 3) := by decide +kernel
theorem dX11_nextAt_18 : decode cX11_nextAt 18 = .ok (.aload_n 0, 1) := by decide +kernel
theorem dX11_nextAt_19 : decode cX11_nextAt 19 = .ok (.iconst 2, 1) := by decide +kernel
theorem dX11_nextAt_20 : decode cX11_nextAt 20 = .ok (.invokevirtual 312, 3) := by decide +kernel
theorem dX11_nextAt_23 : decode cX11_nextAt 23 = .ok (.ireturn, 1) := by decide +kernel
theorem dX11_nextAt_24 : decode cX11_nextAt 24 = .ok (.aload_n 0, 1) := by decide +kernel
theorem dX11_nextAt_25 : decode cX11_nextAt 25 = .ok (.iload_n 1, 1) := by decide +kernel
theorem dX11_nextAt_26 : decode cX11_nextAt 26 = .ok (.invokevirtual 414, 3) := by decide +kernel
theorem dX11_nextAt_29 : decode cX11_nextAt 29 = .ok (.ifCond .eq 10, 3) := by decide +kernel
theorem dX11_nextAt_32 : decode cX11_nextAt 32 = .ok (.aload_n 0, 1) := by decide +kernel
theorem dX11_nextAt_33 : decode cX11_nextAt 33 = .ok (.getfield 405, 3) := by decide +kernel
theorem dX11_nextAt_36 : decode cX11_nextAt 36 = .ok (.goto 9, 3) := by decide +kernel
theorem dX11_nextAt_39 : decode cX11_nextAt 39 = .ok (.aload_n 0, 1) := by decide +kernel
theorem dX11_nextAt_40 : decode cX11_nextAt 40 = .ok (.bipush 8, 2) := by decide +kernel
theorem dX11_nextAt_42 : decode cX11_nextAt 42 = .ok (.invokevirtual 312, 3) := by decide +kernel
theorem dX11_nextAt_45 : decode cX11_nextAt 45 = .ok (.ireturn, 1) := by decide +kernel
theorem dX11_over_0 : decode cX11_over 0 = .ok (.aload_n 0, 1) := by decide +kernel
theorem dX11_over_1 : decode cX11_over 1 = .ok (.iconst 0, 1) := by decide +kernel
theorem dX11_over_2 : decode cX11_over 2 = .ok (.putfield 59, 3) := by decide +kernel
theorem dX11_over_5 : decode cX11_over 5 = .ok (.aload_n 0, 1) := by decide +kernel
theorem dX11_over_6 : decode cX11_over 6 = .ok (.iconst 0, 1) := by decide +kernel
theorem dX11_over_7 : decode cX11_over 7 = .ok (.putfield 62, 3) := by decide +kernel
theorem dX11_over_10 : decode cX11_over 10 = .ok (.aload_n 0, 1) := by decide +kernel
theorem dX11_over_11 : decode cX11_over 11 = .ok (.iload_n 1, 1) := by decide +kernel
theorem dX11_over_12 : decode cX11_over 12 = .ok (.invokevirtual 330, 3) := by decide +kernel
theorem dX11_over_15 : decode cX11_over 15 = .ok (.ifCond .ne 9, 3) := by decide +kernel
theorem dX11_over_18 : decode cX11_over 18 = .ok (.aload_n 0, 1) := by decide +kernel
theorem dX11_over_19 : decode cX11_over 19 = .ok (.iconst 2, 1) := by decide +kernel
theorem dX11_over_20 : decode cX11_over 20 = .ok (.invokevirtual 312, 3) := by decide +kernel
theorem dX11_over_23 : decode cX11_over 23 = .ok (.ireturn, 1) := by decide +kernel
theorem dX11_over_24 : decode cX11_over 24 = .ok (.aload_n 0, 1) := by decide +kernel
theorem dX11_over_25 : decode cX11_over 25 = .ok (.iload_n 1, 1) := by decide +kernel
theorem dX11_over_26 : decode cX11_over 26 = .ok (.invokevirtual 414, 3) := by decide +kernel
theorem dX11_over_29 : decode cX11_over 29 = .ok (.ifCond .eq 10, 3) := by decide +kernel
theorem dX11_over_32 : decode cX11_over 32 = .ok (.aload_n 0, 1) := by decide +kernel
theorem dX11_over_33 : decode cX11_over 33 = .ok (.getfield 408, 3) := by decide +kernel
theorem dX11_over_36 : decode cX11_over 36 = .ok (.goto 9, 3) := by decide +kernel
theorem dX11_over_39 : decode cX11_over 39 = .ok (.aload_n 0, 1) := by decide +kernel
theorem dX11_over_40 : decode cX11_over 40 = .ok (.bipush 8, 2) := by decide +kernel
theorem dX11_over_42 : decode cX11_over 42 = .ok (.invokevirtual 312, 3) := by decide +kernel
theorem dX11_over_45 : decode cX11_over 45 = .ok (.ireturn, 1) := by decide +kernel
theorem dX11_easiest_0 : decode cX11_easiest 0 = .ok (.aload_n 0, 1) := by decide +kernel
theorem dX11_easiest_1 : decode cX11_easiest 1 = .ok (.iconst 0, 1) := by decide +kernel
theorem dX11_easiest_2 : decode cX11_easiest 2 = .ok (.putfield 59, 3) := by decide +kernel
theorem dX11_easiest_5 : decode cX11_easiest 5 = .ok (.aload_n 0, 1) := by decide +kernel
theorem dX11_easiest_6 : decode cX11_easiest 6 = .ok (.iconst 0, 1) := by decide +kernel
theorem dX11_easiest_7 : decode cX11_easiest 7 = .ok (.putfield 62, 3) := by decide +kernel
theorem dX11_easiest_10 : decode cX11_easiest 10 = .ok (.iconst (-1), 1) := by decide +kernel
theorem dX11_easiest_11 : decode cX11_easiest 11 = .ok (.istore_n 1, 1) := by decide +kernel
theorem dX11_easiest_12 : decode cX11_easiest 12 = .ok (.iconst 0, 1) := by decide +kernel
theorem dX11_easiest_13 : decode cX11_easiest 13 = .ok (.istore_n 2, 1) := by decide +kernel
theorem dX11_easiest_14 : decode cX11_easiest 14 = .ok (.iconst 0, 1) := by decide +kernel
theorem dX11_easiest_15 : decode cX11_easiest 15 = .ok (.istore_n 3, 1) := by decide +kernel
theorem dX11_easiest_16 : decode cX11_easiest 16 = .ok (.iload_n 3, 1) := by decide +kernel
theorem dX11_easiest_17 : decode cX11_easiest 17 = .ok (.aload_n 0, 1) := by decide +kernel
theorem dX11_easiest_18 : decode cX11_easiest 18 = .ok (.getfield 35, 3) := by decide +kernel
theorem dX11_easiest_21 : decode cX11_easiest 21 = .ok (.iconst 1, 1) := by decide +kernel
theorem dX11_easiest_22 : decode cX11_easiest 22 = .ok (.iaload, 1) := by decide +kernel
theorem dX11_easiest_23 : decode cX11_easiest 23 = .ok (.if_icmp .ge 39, 3) := by decide +kernel
theorem dX11_easiest_26 : decode cX11_easiest 26 = .ok (.aload_n 0, 1) := by decide +kernel
theorem dX11_easiest_27 : decode cX11_easiest 27 = .ok (.iload_n 3, 1) := by decide +kernel
theorem dX11_easiest_28 : decode cX11_easiest 28 = .ok (.invokevirtual 414, 3) := by decide +kernel
theorem dX11_easiest_31 : decode cX11_easiest 31 = .ok (.ifCond .eq 25, 3) := by decide +kernel
theorem dX11_easiest_34 : decode cX11_easiest 34 = .ok (.iload_n 1, 1) := by decide +kernel
theorem dX11_easiest_35 : decode cX11_easiest 35 = .ok (.ifCond .lt 14, 3) := by decide +kernel
theorem dX11_easiest_38 : decode cX11_easiest 38 = .ok (.aload_n 0, 1) := by decide +kernel
theorem dX11_easiest_39 : decode cX11_easiest 39 = .ok (.getfield 408, 3) := by decide +kernel
theorem dX11_easiest_42 : decode cX11_easiest 42 = .ok (.iload_n 2, 1) := by decide +kernel
theorem dX11_easiest_43 : decode cX11_easiest 43 = .ok (.if_icmp .lt 6, 3) := by decide +kernel
theorem dX11_easiest_46 : decode cX11_easiest 46 = .ok (.goto 10, 3) := by decide +kernel
theorem dX11_easiest_49 : decode cX11_easiest 49 = .ok (.iload_n 3, 1) := by decide +kernel
theorem dX11_easiest_50 : decode cX11_easiest 50 = .ok (.istore_n 1, 1) := by decide +kernel
theorem dX11_easiest_51 : decode cX11_easiest 51 = .ok (.aload_n 0, 1) := by decide +kernel
theorem dX11_easiest_52 : decode cX11_easiest 52 = .ok (.getfield 408, 3) := by decide +kernel
theorem dX11_easiest_55 : decode cX11_easiest 55 = .ok (.istore_n 2, 1) := by decide +kernel
theorem dX11_easiest_56 : decode cX11_easiest 56 = .ok (.iinc 3 1, 3) := by decide +kernel
theorem dX11_easiest_59 : decode cX11_easiest 59 = .ok (.goto (-43), 3) := by decide +kernel
theorem dX11_easiest_62 : decode cX11_easiest 62 = .ok (.iload_n 1, 1) := by decide +kernel
theorem dX11_easiest_63 : decode cX11_easiest 63 = .ok (.ifCond .ge 12, 3) := by decide +kernel
