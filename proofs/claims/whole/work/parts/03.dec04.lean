theorem dX11_advance_313 : decode cX11_advance 313 = .ok (.aload_n 0, 1) := by decide +kernel
theorem dX11_advance_314 : decode cX11_advance 314 = .ok (.aload_n 0, 1) := by decide +kernel
theorem dX11_advance_315 : decode cX11_advance 315 = .ok (.iload_n 1, 1) := by decide +kernel
theorem dX11_advance_316 : decode cX11_advance 316 = .ok (.invokevirtual 132, 3) := by decide +kernel
theorem dX11_advance_319 : decode cX11_advance 319 = .ok (.ifCond .eq 7, 3) := by decide +kernel
theorem dX11_advance_322 : decode cX11_advance 322 = .ok (.iconst 3, 1) := by decide +kernel
theorem dX11_advance_323 : decode cX11_advance 323 = .ok (.goto 4, 3) := by decide +kernel
theorem dX11_advance_326 : decode cX11_advance 326 = .ok (.iconst 4, 1) := by decide +kernel
theorem dX11_advance_327 : decode cX11_advance 327 = .ok (.putfield 110, 3) := by decide +kernel
theorem dX11_advance_330 : decode cX11_advance 330 = .ok (.return_, 1) := by decide +kernel
theorem dX11_isSign_0 : decode cX11_isSign 0 = .ok (.aload_n 0, 1) := by decide +kernel
theorem dX11_isSign_1 : decode cX11_isSign 1 = .ok (.getfield 110, 3) := by decide +kernel
theorem dX11_isSign_4 : decode cX11_isSign 4 = .ok (.iconst 3, 1) := by decide +kernel
theorem dX11_isSign_5 : decode cX11_isSign 5 = .ok (.if_icmp .ne 15, 3) := by decide +kernel
theorem dX11_isSign_8 : decode cX11_isSign 8 = .ok (.aload_n 0, 1) := by decide +kernel
theorem dX11_isSign_9 : decode cX11_isSign 9 = .ok (.getfield 129, 3) := by decide +kernel
theorem dX11_isSign_12 : decode cX11_isSign 12 = .ok (.iload_n 1, 1) := by decide +kernel
theorem dX11_isSign_13 : decode cX11_isSign 13 = .ok (.if_icmp .ne 7, 3) := by decide +kernel
theorem dX11_isSign_16 : decode cX11_isSign 16 = .ok (.iconst 1, 1) := by decide +kernel
theorem dX11_isSign_17 : decode cX11_isSign 17 = .ok (.goto 4, 3) := by decide +kernel
theorem dX11_isSign_20 : decode cX11_isSign 20 = .ok (.iconst 0, 1) := by decide +kernel
theorem dX11_isSign_21 : decode cX11_isSign 21 = .ok (.ireturn, 1) := by decide +kernel
theorem dX11_spelled_0 : decode cX11_spelled 0 = .ok (.iload_n 0, 1) := by decide +kernel
theorem dX11_spelled_1 : decode cX11_spelled 1 = .ok (.i2l, 1) := by decide +kernel
theorem dX11_spelled_2 : decode cX11_spelled 2 = .ok (.ldc2_w 121, 3) := by decide +kernel
theorem dX11_spelled_5 : decode cX11_spelled 5 = .ok (.lsub, 1) := by decide +kernel
theorem dX11_spelled_6 : decode cX11_spelled 6 = .ok (.ldc2_w 119, 3) := by decide +kernel
theorem dX11_spelled_9 : decode cX11_spelled 9 = .ok (.lmul, 1) := by decide +kernel
theorem dX11_spelled_10 : decode cX11_spelled 10 = .ok (.iload_n 1, 1) := by decide +kernel
theorem dX11_spelled_11 : decode cX11_spelled 11 = .ok (.i2l, 1) := by decide +kernel
theorem dX11_spelled_12 : decode cX11_spelled 12 = .ok (.ladd, 1) := by decide +kernel
theorem dX11_spelled_13 : decode cX11_spelled 13 = .ok (.ldc2_w 121, 3) := by decide +kernel
theorem dX11_spelled_16 : decode cX11_spelled 16 = .ok (.lsub, 1) := by decide +kernel
theorem dX11_spelled_17 : decode cX11_spelled 17 = .ok (.lstore 6, 2) := by decide +kernel
theorem dX11_spelled_19 : decode cX11_spelled 19 = .ok (.iload_n 2, 1) := by decide +kernel
theorem dX11_spelled_20 : decode cX11_spelled 20 = .ok (.ifCond .le 19, 3) := by decide +kernel
theorem dX11_spelled_23 : decode cX11_spelled 23 = .ok (.lload 6, 2) := by decide +kernel
theorem dX11_spelled_25 : decode cX11_spelled 25 = .ok (.ldc2_w 119, 3) := by decide +kernel
theorem dX11_spelled_28 : decode cX11_spelled 28 = .ok (.lmul, 1) := by decide +kernel
theorem dX11_spelled_29 : decode cX11_spelled 29 = .ok (.iload_n 2, 1) := by decide +kernel
theorem dX11_spelled_30 : decode cX11_spelled 30 = .ok (.i2l, 1) := by decide +kernel
theorem dX11_spelled_31 : decode cX11_spelled 31 = .ok (.ladd, 1) := by decide +kernel
theorem dX11_spelled_32 : decode cX11_spelled 32 = .ok (.ldc2_w 121, 3) := by decide +kernel
theorem dX11_spelled_35 : decode cX11_spelled 35 = .ok (.lsub, 1) := by decide +kernel
theorem dX11_spelled_36 : decode cX11_spelled 36 = .ok (.goto 5, 3) := by decide +kernel
theorem dX11_spelled_39 : decode cX11_spelled 39 = .ok (.lload 6, 2) := by decide +kernel
theorem dX11_spelled_41 : decode cX11_spelled 41 = .ok (.lstore 6, 2) := by decide +kernel
theorem dX11_spelled_43 : decode cX11_spelled 43 = .ok (.iload_n 3, 1) := by decide +kernel
theorem dX11_spelled_44 : decode cX11_spelled 44 = .ok (.ifCond .le 19, 3) := by decide +kernel
theorem dX11_spelled_47 : decode cX11_spelled 47 = .ok (.lload 6, 2) := by decide +kernel
theorem dX11_spelled_49 : decode cX11_spelled 49 = .ok (.ldc2_w 119, 3) := by decide +kernel
theorem dX11_spelled_52 : decode cX11_spelled 52 = .ok (.lmul, 1) := by decide +kernel
theorem dX11_spelled_53 : decode cX11_spelled 53 = .ok (.iload_n 3, 1) := by decide +kernel
theorem dX11_spelled_54 : decode cX11_spelled 54 = .ok (.i2l, 1) := by decide +kernel
theorem dX11_spelled_55 : decode cX11_spelled 55 = .ok (.ladd, 1) := by decide +kernel
theorem dX11_spelled_56 : decode cX11_spelled 56 = .ok (.ldc2_w 121, 3) := by decide +kernel
theorem dX11_spelled_59 : decode cX11_spelled 59 = .ok (.lsub, 1) := by decide +kernel
theorem dX11_spelled_60 : decode cX11_spelled 60 = .ok (.goto 5, 3) := by decide +kernel
theorem dX11_spelled_63 : decode cX11_spelled 63 = .ok (.lload 6, 2) := by decide +kernel
theorem dX11_spelled_65 : decode cX11_spelled 65 = .ok (.lstore 6, 2) := by decide +kernel
theorem dX11_spelled_67 : decode cX11_spelled 67 = .ok (.iload 4, 2) := by decide +kernel
theorem dX11_spelled_69 : decode cX11_spelled 69 = .ok (.ifCond .le 20, 3) := by decide +kernel
theorem dX11_spelled_72 : decode cX11_spelled 72 = .ok (.lload 6, 2) := by decide +kernel
theorem dX11_spelled_74 : decode cX11_spelled 74 = .ok (.ldc2_w 119, 3) := by decide +kernel
theorem dX11_spelled_77 : decode cX11_spelled 77 = .ok (.lmul, 1) := by decide +kernel
theorem dX11_spelled_78 : decode cX11_spelled 78 = .ok (.iload 4, 2) := by decide +kernel
theorem dX11_spelled_80 : decode cX11_spelled 80 = .ok (.i2l, 1) := by decide +kernel
theorem dX11_spelled_81 : decode cX11_spelled 81 = .ok (.ladd, 1) := by decide +kernel
theorem dX11_spelled_82 : decode cX11_spelled 82 = .ok (.ldc2_w 121, 3) := by decide +kernel
theorem dX11_spelled_85 : decode cX11_spelled 85 = .ok (.lsub, 1) := by decide +kernel
theorem dX11_spelled_86 : decode cX11_spelled 86 = .ok (.goto 5, 3) := by decide +kernel
theorem dX11_spelled_89 : decode cX11_spelled 89 = .ok (.lload 6, 2) := by decide +kernel
theorem dX11_spelled_91 : decode cX11_spelled 91 = .ok (.lstore 6, 2) := by decide +kernel
theorem dX11_spelled_93 : decode cX11_spelled 93 = .ok (.iload 5, 2) := by decide +kernel
theorem dX11_spelled_95 : decode cX11_spelled 95 = .ok (.ifCond .le 20, 3) := by decide +kernel
theorem dX11_spelled_98 : decode cX11_spelled 98 = .ok (.lload 6, 2) := by decide +kernel
theorem dX11_spelled_100 : decode cX11_spelled 100 = .ok (.ldc2_w 119, 3) := by decide +kernel
theorem dX11_spelled_103 : decode cX11_spelled 103 = .ok (.lmul, 1) := by decide +kernel
theorem dX11_spelled_104 : decode cX11_spelled 104 = .ok (.iload 5, 2) := by decide +kernel
theorem dX11_spelled_106 : decode cX11_spelled 106 = .ok (.i2l, 1) := by decide +kernel
theorem dX11_spelled_107 : decode cX11_spelled 107 = .ok (.ladd, 1) := by decide +kernel
theorem dX11_spelled_108 : decode cX11_spelled 108 = .ok (.ldc2_w 121, 3) := by decide +kernel
theorem dX11_spelled_111 : decode cX11_spelled 111 = .ok (.lsub, 1) := by decide +kernel
theorem dX11_spelled_112 : decode cX11_spelled 112 = .ok (.goto 5, 3) := by decide +kernel
theorem dX11_spelled_115 : decode cX11_spelled 115 = .ok (.lload 6, 2) := by decide +kernel
theorem dX11_spelled_117 : decode cX11_spelled 117 = .ok (.lreturn, 1) := by decide +kernel
theorem dX11_isWord_0 : decode cX11_isWord 0 = .ok (.aload_n 0, 1) := by decide +kernel
theorem dX11_isWord_1 : decode cX11_isWord 1 = .ok (.getfield 110, 3) := by decide +kernel
theorem dX11_isWord_4 : decode cX11_isWord 4 = .ok (.iconst 1, 1) := by decide +kernel
theorem dX11_isWord_5 : decode cX11_isWord 5 = .ok (.if_icmp .ne 16, 3) := by decide +kernel
theorem dX11_isWord_8 : decode cX11_isWord 8 = .ok (.aload_n 0, 1) := by decide +kernel
theorem dX11_isWord_9 : decode cX11_isWord 9 = .ok (.getfield 116, 3) := by decide +kernel
theorem dX11_isWord_12 : decode cX11_isWord 12 = .ok (.lload_n 1, 1) := by decide +kernel
theorem dX11_isWord_13 : decode cX11_isWord 13 = .ok (.lcmp, 1) := by decide +kernel
theorem dX11_isWord_14 : decode cX11_isWord 14 = .ok (.ifCond .ne 7, 3) := by decide +kernel
theorem dX11_isWord_17 : decode cX11_isWord 17 = .ok (.iconst 1, 1) := by decide +kernel
theorem dX11_isWord_18 : decode cX11_isWord 18 = .ok (.goto 4, 3) := by decide +kernel
theorem dX11_isWord_21 : decode cX11_isWord 21 = .ok (.iconst 0, 1) := by decide +kernel
theorem dX11_isWord_22 : decode cX11_isWord 22 = .ok (.ireturn, 1) := by decide +kernel
theorem dX11_isRanks_0 : decode cX11_isRanks 0 = .ok (.aload_n 0, 1) := by decide +kernel
theorem dX11_isRanks_1 : decode cX11_isRanks 1 = .ok (.bipush 114, 2) := by decide +kernel
theorem dX11_isRanks_3 : decode cX11_isRanks 3 = .ok (.bipush 97, 2) := by decide +kernel
theorem dX11_isRanks_5 : decode cX11_isRanks 5 = .ok (.bipush 110, 2) := by decide +kernel
theorem dX11_isRanks_7 : decode cX11_isRanks 7 = .ok (.bipush 107, 2) := by decide +kernel
theorem dX11_isRanks_9 : decode cX11_isRanks 9 = .ok (.bipush 115, 2) := by decide +kernel
theorem dX11_isRanks_11 : decode cX11_isRanks 11 = .ok (.iconst 0, 1) := by decide +kernel
theorem dX11_isRanks_12 : decode cX11_isRanks 12 = .ok (.invokestatic 135, 3) := by decide +kernel
theorem dX11_isRanks_15 : decode cX11_isRanks 15 = .ok (.invokevirtual 139, 3) := by decide +kernel
theorem dX11_isRanks_18 : decode cX11_isRanks 18 = .ok (.ireturn, 1) := by decide +kernel
theorem dX11_isSuit_0 : decode cX11_isSuit 0 = .ok (.aload_n 0, 1) := by decide +kernel
theorem dX11_isSuit_1 : decode cX11_isSuit 1 = .ok (.bipush 115, 2) := by decide +kernel
theorem dX11_isSuit_3 : decode cX11_isSuit 3 = .ok (.bipush 117, 2) := by decide +kernel
theorem dX11_isSuit_5 : decode cX11_isSuit 5 = .ok (.bipush 105, 2) := by decide +kernel
theorem dX11_isSuit_7 : decode cX11_isSuit 7 = .ok (.bipush 116, 2) := by decide +kernel
theorem dX11_isSuit_9 : decode cX11_isSuit 9 = .ok (.iconst 0, 1) := by decide +kernel
theorem dX11_isSuit_10 : decode cX11_isSuit 10 = .ok (.iconst 0, 1) := by decide +kernel
theorem dX11_isSuit_11 : decode cX11_isSuit 11 = .ok (.invokestatic 135, 3) := by decide +kernel
theorem dX11_isSuit_14 : decode cX11_isSuit 14 = .ok (.invokevirtual 139, 3) := by decide +kernel
theorem dX11_isSuit_17 : decode cX11_isSuit 17 = .ok (.ireturn, 1) := by decide +kernel
theorem dX11_isRed_0 : decode cX11_isRed 0 = .ok (.aload_n 0, 1) := by decide +kernel
theorem dX11_isRed_1 : decode cX11_isRed 1 = .ok (.bipush 114, 2) := by decide +kernel
theorem dX11_isRed_3 : decode cX11_isRed 3 = .ok (.bipush 101, 2) := by decide +kernel
theorem dX11_isRed_5 : decode cX11_isRed 5 = .ok (.bipush 100, 2) := by decide +kernel
theorem dX11_isRed_7 : decode cX11_isRed 7 = .ok (.iconst 0, 1) := by decide +kernel
theorem dX11_isRed_8 : decode cX11_isRed 8 = .ok (.iconst 0, 1) := by decide +kernel
theorem dX11_isRed_9 : decode cX11_isRed 9 = .ok (.iconst 0, 1) := by decide +kernel
theorem dX11_isRed_10 : decode cX11_isRed 10 = .ok (.invokestatic 135, 3) := by decide +kernel
theorem dX11_isRed_13 : decode cX11_isRed 13 = .ok (.invokevirtual 139, 3) := by decide +kernel
theorem dX11_isRed_16 : decode cX11_isRed 16 = .ok (.ireturn, 1) := by decide +kernel
theorem dX11_isLaw_0 : decode cX11_isLaw 0 = .ok (.aload_n 0, 1) := by decide +kernel
theorem dX11_isLaw_1 : decode cX11_isLaw 1 = .ok (.bipush 108, 2) := by decide +kernel
theorem dX11_isLaw_3 : decode cX11_isLaw 3 = .ok (.bipush 97, 2) := by decide +kernel
theorem dX11_isLaw_5 : decode cX11_isLaw 5 = .ok (.bipush 119, 2) := by decide +kernel
theorem dX11_isLaw_7 : decode cX11_isLaw 7 = .ok (.iconst 0, 1) := by decide +kernel
theorem dX11_isLaw_8 : decode cX11_isLaw 8 = .ok (.iconst 0, 1) := by decide +kernel
theorem dX11_isLaw_9 : decode cX11_isLaw 9 = .ok (.iconst 0, 1) := by decide +kernel
theorem dX11_isLaw_10 : decode cX11_isLaw 10 = .ok (.invokestatic 135, 3) := by decide +kernel
theorem dX11_isLaw_13 : decode cX11_isLaw 13 = .ok (.invokevirtual 139, 3) := by decide +kernel
theorem dX11_isLaw_16 : decode cX11_isLaw 16 = .ok (.ireturn, 1) := by decide +kernel
theorem dX11_isRedeals_0 : decode cX11_isRedeals 0 = .ok (.aload_n 0, 1) := by decide +kernel
theorem dX11_isRedeals_1 : decode cX11_isRedeals 1 = .ok (.bipush 114, 2) := by decide +kernel
theorem dX11_isRedeals_3 : decode cX11_isRedeals 3 = .ok (.bipush 101, 2) := by decide +kernel
theorem dX11_isRedeals_5 : decode cX11_isRedeals 5 = .ok (.bipush 100, 2) := by decide +kernel
theorem dX11_isRedeals_7 : decode cX11_isRedeals 7 = .ok (.bipush 101, 2) := by decide +kernel
theorem dX11_isRedeals_9 : decode cX11_isRedeals 9 = .ok (.bipush 97, 2) := by decide +kernel
theorem dX11_isRedeals_11 : decode cX11_isRedeals 11 = .ok (.bipush 108, 2) := by decide +kernel
theorem dX11_isRedeals_13 : decode cX11_isRedeals 13 = .ok (.invokestatic 135, 3) := by decide +kernel
theorem dX11_isRedeals_16 : decode cX11_isRedeals 16 = .ok (.ldc2_w 119, 3) := by decide +kernel
theorem dX11_isRedeals_19 : decode cX11_isRedeals 19 = .ok (.lmul, 1) := by decide +kernel
theorem dX11_isRedeals_20 : decode cX11_isRedeals 20 = .ok (.ldc2_w 143, 3) := by decide +kernel
theorem dX11_isRedeals_23 : decode cX11_isRedeals 23 = .ok (.ladd, 1) := by decide +kernel
theorem dX11_isRedeals_24 : decode cX11_isRedeals 24 = .ok (.invokevirtual 139, 3) := by decide +kernel
theorem dX11_isRedeals_27 : decode cX11_isRedeals 27 = .ok (.ireturn, 1) := by decide +kernel
theorem dX11_isRow_0 : decode cX11_isRow 0 = .ok (.aload_n 0, 1) := by decide +kernel
theorem dX11_isRow_1 : decode cX11_isRow 1 = .ok (.bipush 114, 2) := by decide +kernel
theorem dX11_isRow_3 : decode cX11_isRow 3 = .ok (.bipush 111, 2) := by decide +kernel
theorem dX11_isRow_5 : decode cX11_isRow 5 = .ok (.bipush 119, 2) := by decide +kernel
theorem dX11_isRow_7 : decode cX11_isRow 7 = .ok (.iconst 0, 1) := by decide +kernel
theorem dX11_isRow_8 : decode cX11_isRow 8 = .ok (.iconst 0, 1) := by decide +kernel
theorem dX11_isRow_9 : decode cX11_isRow 9 = .ok (.iconst 0, 1) := by decide +kernel
theorem dX11_isRow_10 : decode cX11_isRow 10 = .ok (.invokestatic 135, 3) := by decide +kernel
theorem dX11_isRow_13 : decode cX11_isRow 13 = .ok (.invokevirtual 139, 3) := by decide +kernel
theorem dX11_isRow_16 : decode cX11_isRow 16 = .ok (.ireturn, 1) := by decide +kernel
theorem dX11_isStock_0 : decode cX11_isStock 0 = .ok (.aload_n 0, 1) := by decide +kernel
theorem dX11_isStock_1 : decode cX11_isStock 1 = .ok (.bipush 115, 2) := by decide +kernel
theorem dX11_isStock_3 : decode cX11_isStock 3 = .ok (.bipush 116, 2) := by decide +kernel
theorem dX11_isStock_5 : decode cX11_isStock 5 = .ok (.bipush 111, 2) := by decide +kernel
theorem dX11_isStock_7 : decode cX11_isStock 7 = .ok (.bipush 99, 2) := by decide +kernel
theorem dX11_isStock_9 : decode cX11_isStock 9 = .ok (.bipush 107, 2) := by decide +kernel
theorem dX11_isStock_11 : decode cX11_isStock 11 = .ok (.iconst 0, 1) := by decide +kernel
theorem dX11_isStock_12 : decode cX11_isStock 12 = .ok (.invokestatic 135, 3) := by decide +kernel
theorem dX11_isStock_15 : decode cX11_isStock 15 = .ok (.invokevirtual 139, 3) := by decide +kernel
theorem dX11_isStock_18 : decode cX11_isStock 18 = .ok (.ireturn, 1) := by decide +kernel
theorem dX11_isField_0 : decode cX11_isField 0 = .ok (.aload_n 0, 1) := by decide +kernel
theorem dX11_isField_1 : decode cX11_isField 1 = .ok (.bipush 102, 2) := by decide +kernel
theorem dX11_isField_3 : decode cX11_isField 3 = .ok (.bipush 105, 2) := by decide +kernel
theorem dX11_isField_5 : decode cX11_isField 5 = .ok (.bipush 101, 2) := by decide +kernel
theorem dX11_isField_7 : decode cX11_isField 7 = .ok (.bipush 108, 2) := by decide +kernel
theorem dX11_isField_9 : decode cX11_isField 9 = .ok (.bipush 100, 2) := by decide +kernel
theorem dX11_isField_11 : decode cX11_isField 11 = .ok (.iconst 0, 1) := by decide +kernel
theorem dX11_isField_12 : decode cX11_isField 12 = .ok (.invokestatic 135, 3) := by decide +kernel
theorem dX11_isField_15 : decode cX11_isField 15 = .ok (.invokevirtual 139, 3) := by decide +kernel
theorem dX11_isField_18 : decode cX11_isField 18 = .ok (.ireturn, 1) := by decide +kernel
theorem dX11_isOf_0 : decode cX11_isOf 0 = .ok (.aload_n 0, 1) := by decide +kernel
theorem dX11_isOf_1 : decode cX11_isOf 1 = .ok (.bipush 111, 2) := by decide +kernel
theorem dX11_isOf_3 : decode cX11_isOf 3 = .ok (.bipush 102, 2) := by decide +kernel
theorem dX11_isOf_5 : decode cX11_isOf 5 = .ok (.iconst 0, 1) := by decide +kernel
theorem dX11_isOf_6 : decode cX11_isOf 6 = .ok (.iconst 0, 1) := by decide +kernel
theorem dX11_isOf_7 : decode cX11_isOf 7 = .ok (.iconst 0, 1) := by decide +kernel
theorem dX11_isOf_8 : decode cX11_isOf 8 = .ok (.iconst 0, 1) := by decide +kernel
theorem dX11_isOf_9 : decode cX11_isOf 9 = .ok (.invokestatic 135, 3) := by decide +kernel
theorem dX11_isOf_12 : decode cX11_isOf 12 = .ok (.invokevirtual 139, 3) := by decide +kernel
theorem dX11_isOf_15 : decode cX11_isOf 15 = .ok (.ireturn, 1) := by decide +kernel
theorem dX11_isDries_0 : decode cX11_isDries 0 = .ok (.aload_n 0, 1) := by decide +kernel
theorem dX11_isDries_1 : decode cX11_isDries 1 = .ok (.bipush 100, 2) := by decide +kernel
theorem dX11_isDries_3 : decode cX11_isDries 3 = .ok (.bipush 114, 2) := by decide +kernel
theorem dX11_isDries_5 : decode cX11_isDries 5 = .ok (.bipush 105, 2) := by decide +kernel
theorem dX11_isDries_7 : decode cX11_isDries 7 = .ok (.bipush 101, 2) := by decide +kernel
theorem dX11_isDries_9 : decode cX11_isDries 9 = .ok (.bipush 115, 2) := by decide +kernel
theorem dX11_isDries_11 : decode cX11_isDries 11 = .ok (.iconst 0, 1) := by decide +kernel
theorem dX11_isDries_12 : decode cX11_isDries 12 = .ok (.invokestatic 135, 3) := by decide +kernel
theorem dX11_isDries_15 : decode cX11_isDries 15 = .ok (.invokevirtual 139, 3) := by decide +kernel
theorem dX11_isDries_18 : decode cX11_isDries 18 = .ok (.ireturn, 1) := by decide +kernel
theorem dX11_isWater_0 : decode cX11_isWater 0 = .ok (.aload_n 0, 1) := by decide +kernel
theorem dX11_isWater_1 : decode cX11_isWater 1 = .ok (.bipush 119, 2) := by decide +kernel
theorem dX11_isWater_3 : decode cX11_isWater 3 = .ok (.bipush 97, 2) := by decide +kernel
theorem dX11_isWater_5 : decode cX11_isWater 5 = .ok (.bipush 116, 2) := by decide +kernel
theorem dX11_isWater_7 : decode cX11_isWater 7 = .ok (.bipush 101, 2) := by decide +kernel
theorem dX11_isWater_9 : decode cX11_isWater 9 = .ok (.bipush 114, 2) := by decide +kernel
theorem dX11_isWater_11 : decode cX11_isWater 11 = .ok (.iconst 0, 1) := by decide +kernel
theorem dX11_isWater_12 : decode cX11_isWater 12 = .ok (.invokestatic 135, 3) := by decide +kernel
theorem dX11_isWater_15 : decode cX11_isWater 15 = .ok (.invokevirtual 139, 3) := by decide +kernel
theorem dX11_isWater_18 : decode cX11_isWater 18 = .ok (.ireturn, 1) := by decide +kernel
theorem dX11_isHigh_0 : decode cX11_isHigh 0 = .ok (.aload_n 0, 1) := by decide +kernel
theorem dX11_isHigh_1 : decode cX11_isHigh 1 = .ok (.bipush 104, 2) := by decide +kernel
theorem dX11_isHigh_3 : decode cX11_isHigh 3 = .ok (.bipush 105, 2) := by decide +kernel
theorem dX11_isHigh_5 : decode cX11_isHigh 5 = .ok (.bipush 103, 2) := by decide +kernel
theorem dX11_isHigh_7 : decode cX11_isHigh 7 = .ok (.bipush 104, 2) := by decide +kernel
theorem dX11_isHigh_9 : decode cX11_isHigh 9 = .ok (.iconst 0, 1) := by decide +kernel
theorem dX11_isHigh_10 : decode cX11_isHigh 10 = .ok (.iconst 0, 1) := by decide +kernel
theorem dX11_isHigh_11 : decode cX11_isHigh 11 = .ok (.invokestatic 135, 3) := by decide +kernel
theorem dX11_isHigh_14 : decode cX11_isHigh 14 = .ok (.invokevirtual 139, 3) := by decide +kernel
theorem dX11_isHigh_17 : decode cX11_isHigh 17 = .ok (.ireturn, 1) := by decide +kernel
theorem dX11_stepWord_0 : decode cX11_stepWord 0 = .ok (.aload_n 0, 1) := by decide +kernel
theorem dX11_stepWord_1 : decode cX11_stepWord 1 = .ok (.bipush 100, 2) := by decide +kernel
theorem dX11_stepWord_3 : decode cX11_stepWord 3 = .ok (.bipush 97, 2) := by decide +kernel
theorem dX11_stepWord_5 : decode cX11_stepWord 5 = .ok (.bipush 121, 2) := by decide +kernel
theorem dX11_stepWord_7 : decode cX11_stepWord 7 = .ok (.iconst 0, 1) := by decide +kernel
theorem dX11_stepWord_8 : decode cX11_stepWord 8 = .ok (.iconst 0, 1) := by decide +kernel
theorem dX11_stepWord_9 : decode cX11_stepWord 9 = .ok (.iconst 0, 1) := by decide +kernel
theorem dX11_stepWord_10 : decode cX11_stepWord 10 = .ok (.invokestatic 135, 3) := by decide +kernel
theorem dX11_stepWord_13 : decode cX11_stepWord 13 = .ok (.invokevirtual 139, 3) := by decide +kernel
theorem dX11_stepWord_16 : decode cX11_stepWord 16 = .ok (.ifCond .eq 5, 3) := by decide +kernel
theorem dX11_stepWord_19 : decode cX11_stepWord 19 = .ok (.iconst 0, 1) := by decide +kernel
theorem dX11_stepWord_20 : decode cX11_stepWord 20 = .ok (.ireturn, 1) := by decide +kernel
theorem dX11_stepWord_21 : decode cX11_stepWord 21 = .ok (.aload_n 0, 1) := by decide +kernel
theorem dX11_stepWord_22 : decode cX11_stepWord 22 = .ok (.bipush 109, 2) := by decide +kernel
theorem dX11_stepWord_24 : decode cX11_stepWord 24 = .ok (.bipush 111, 2) := by decide +kernel
theorem dX11_stepWord_26 : decode cX11_stepWord 26 = .ok (.bipush 118, 2) := by decide +kernel
theorem dX11_stepWord_28 : decode cX11_stepWord 28 = .ok (.bipush 101, 2) := by decide +kernel
theorem dX11_stepWord_30 : decode cX11_stepWord 30 = .ok (.iconst 0, 1) := by decide +kernel
theorem dX11_stepWord_31 : decode cX11_stepWord 31 = .ok (.iconst 0, 1) := by decide +kernel
theorem dX11_stepWord_32 : decode cX11_stepWord 32 = .ok (.invokestatic 135, 3) := by decide +kernel
theorem dX11_stepWord_35 : decode cX11_stepWord 35 = .ok (.invokevirtual 139, 3) := by decide +kernel
theorem dX11_stepWord_38 : decode cX11_stepWord 38 = .ok (.ifCond .eq 5, 3) := by decide +kernel
theorem dX11_stepWord_41 : decode cX11_stepWord 41 = .ok (.iconst 1, 1) := by decide +kernel
theorem dX11_stepWord_42 : decode cX11_stepWord 42 = .ok (.ireturn, 1) := by decide +kernel
theorem dX11_stepWord_43 : decode cX11_stepWord 43 = .ok (.aload_n 0, 1) := by decide +kernel
theorem dX11_stepWord_44 : decode cX11_stepWord 44 = .ok (.bipush 100, 2) := by decide +kernel
theorem dX11_stepWord_46 : decode cX11_stepWord 46 = .ok (.bipush 101, 2) := by decide +kernel
theorem dX11_stepWord_48 : decode cX11_stepWord 48 = .ok (.bipush 97, 2) := by decide +kernel
theorem dX11_stepWord_50 : decode cX11_stepWord 50 = .ok (.bipush 108, 2) := by decide +kernel
theorem dX11_stepWord_52 : decode cX11_stepWord 52 = .ok (.iconst 0, 1) := by decide +kernel
theorem dX11_stepWord_53 : decode cX11_stepWord 53 = .ok (.iconst 0, 1) := by decide +kernel
theorem dX11_stepWord_54 : decode cX11_stepWord 54 = .ok (.invokestatic 135, 3) := by decide +kernel
theorem dX11_stepWord_57 : decode cX11_stepWord 57 = .ok (.invokevirtual 139, 3) := by decide +kernel
theorem dX11_stepWord_60 : decode cX11_stepWord 60 = .ok (.ifCond .eq 5, 3) := by decide +kernel
theorem dX11_stepWord_63 : decode cX11_stepWord 63 = .ok (.iconst 2, 1) := by decide +kernel
theorem dX11_stepWord_64 : decode cX11_stepWord 64 = .ok (.ireturn, 1) := by decide +kernel
theorem dX11_stepWord_65 : decode cX11_stepWord 65 = .ok (.aload_n 0, 1) := by decide +kernel
theorem dX11_stepWord_66 : decode cX11_stepWord 66 = .ok (.bipush 114, 2) := by decide +kernel
theorem dX11_stepWord_68 : decode cX11_stepWord 68 = .ok (.bipush 117, 2) := by decide +kernel
theorem dX11_stepWord_70 : decode cX11_stepWord 70 = .ok (.bipush 110, 2) := by decide +kernel
theorem dX11_stepWord_72 : decode cX11_stepWord 72 = .ok (.iconst 0, 1) := by decide +kernel
theorem dX11_stepWord_73 : decode cX11_stepWord 73 = .ok (.iconst 0, 1) := by decide +kernel
theorem dX11_stepWord_74 : decode cX11_stepWord 74 = .ok (.iconst 0, 1) := by decide +kernel
theorem dX11_stepWord_75 : decode cX11_stepWord 75 = .ok (.invokestatic 135, 3) := by decide +kernel
theorem dX11_stepWord_78 : decode cX11_stepWord 78 = .ok (.invokevirtual 139, 3) := by decide +kernel
theorem dX11_stepWord_81 : decode cX11_stepWord 81 = .ok (.ifCond .eq 5, 3) := by decide +kernel
theorem dX11_stepWord_84 : decode cX11_stepWord 84 = .ok (.iconst 3, 1) := by decide +kernel
theorem dX11_stepWord_85 : decode cX11_stepWord 85 = .ok (.ireturn, 1) := by decide +kernel
theorem dX11_stepWord_86 : decode cX11_stepWord 86 = .ok (.aload_n 0, 1) := by decide +kernel
theorem dX11_stepWord_87 : decode cX11_stepWord 87 = .ok (.bipush 97, 2) := by decide +kernel
theorem dX11_stepWord_89 : decode cX11_stepWord 89 = .ok (.bipush 110, 2) := by decide +kernel
theorem dX11_stepWord_91 : decode cX11_stepWord 91 = .ok (.bipush 121, 2) := by decide +kernel
theorem dX11_stepWord_93 : decode cX11_stepWord 93 = .ok (.iconst 0, 1) := by decide +kernel
theorem dX11_stepWord_94 : decode cX11_stepWord 94 = .ok (.iconst 0, 1) := by decide +kernel
theorem dX11_stepWord_95 : decode cX11_stepWord 95 = .ok (.iconst 0, 1) := by decide +kernel
theorem dX11_stepWord_96 : decode cX11_stepWord 96 = .ok (.invokestatic 135, 3) := by decide +kernel
theorem dX11_stepWord_99 : decode cX11_stepWord 99 = .ok (.invokevirtual 139, 3) := by decide +kernel
theorem dX11_stepWord_102 : decode cX11_stepWord 102 = .ok (.ifCond .eq 5, 3) := by decide +kernel
theorem dX11_stepWord_105 : decode cX11_stepWord 105 = .ok (.iconst 4, 1) := by decide +kernel
theorem dX11_stepWord_106 : decode cX11_stepWord 106 = .ok (.ireturn, 1) := by decide +kernel
theorem dX11_stepWord_107 : decode cX11_stepWord 107 = .ok (.aload_n 0, 1) := by decide +kernel
theorem dX11_stepWord_108 : decode cX11_stepWord 108 = .ok (.bipush 119, 2) := by decide +kernel
theorem dX11_stepWord_110 : decode cX11_stepWord 110 = .ok (.bipush 104, 2) := by decide +kernel
theorem dX11_stepWord_112 : decode cX11_stepWord 112 = .ok (.bipush 101, 2) := by decide +kernel
theorem dX11_stepWord_114 : decode cX11_stepWord 114 = .ok (.bipush 110, 2) := by decide +kernel
theorem dX11_stepWord_116 : decode cX11_stepWord 116 = .ok (.iconst 0, 1) := by decide +kernel
theorem dX11_stepWord_117 : decode cX11_stepWord 117 = .ok (.iconst 0, 1) := by decide +kernel
theorem dX11_stepWord_118 : decode cX11_stepWord 118 = .ok (.invokestatic 135, 3) := by decide +kernel
theorem dX11_stepWord_121 : decode cX11_stepWord 121 = .ok (.invokevirtual 139, 3) := by decide +kernel
theorem dX11_stepWord_124 : decode cX11_stepWord 124 = .ok (.ifCond .eq 5, 3) := by decide +kernel
theorem dX11_stepWord_127 : decode cX11_stepWord 127 = .ok (.iconst 5, 1) := by decide +kernel
theorem dX11_stepWord_128 : decode cX11_stepWord 128 = .ok (.ireturn, 1) := by decide +kernel
theorem dX11_stepWord_129 : decode cX11_stepWord 129 = .ok (.aload_n 0, 1) := by decide +kernel
theorem dX11_stepWord_130 : decode cX11_stepWord 130 = .ok (.bipush 108, 2) := by decide +kernel
theorem dX11_stepWord_132 : decode cX11_stepWord 132 = .ok (.bipush 111, 2) := by decide +kernel
theorem dX11_stepWord_134 : decode cX11_stepWord 134 = .ok (.bipush 111, 2) := by decide +kernel
theorem dX11_stepWord_136 : decode cX11_stepWord 136 = .ok (.bipush 112, 2) := by decide +kernel
theorem dX11_stepWord_138 : decode cX11_stepWord 138 = .ok (.iconst 0, 1) := by decide +kernel
theorem dX11_stepWord_139 : decode cX11_stepWord 139 = .ok (.iconst 0, 1) := by decide +kernel
theorem dX11_stepWord_140 : decode cX11_stepWord 140 = .ok (.invokestatic 135, 3) := by decide +kernel
theorem dX11_stepWord_143 : decode cX11_stepWord 143 = .ok (.invokevirtual 139, 3) := by decide +kernel
theorem dX11_stepWord_146 : decode cX11_stepWord 146 = .ok (.ifCond .eq 6, 3) := by decide +kernel
theorem dX11_stepWord_149 : decode cX11_stepWord 149 = .ok (.bipush 6, 2) := by decide +kernel
theorem dX11_stepWord_151 : decode cX11_stepWord 151 = .ok (.ireturn, 1) := by decide +kernel
theorem dX11_stepWord_152 : decode cX11_stepWord 152 = .ok (.aload_n 0, 1) := by decide +kernel
theorem dX11_stepWord_153 : decode cX11_stepWord 153 = .ok (.bipush 115, 2) := by decide +kernel
theorem dX11_stepWord_155 : decode cX11_stepWord 155 = .ok (.bipush 116, 2) := by decide +kernel
theorem dX11_stepWord_157 : decode cX11_stepWord 157 = .ok (.bipush 111, 2) := by decide +kernel
theorem dX11_stepWord_159 : decode cX11_stepWord 159 = .ok (.bipush 112, 2) := by decide +kernel
theorem dX11_stepWord_161 : decode cX11_stepWord 161 = .ok (.iconst 0, 1) := by decide +kernel
theorem dX11_stepWord_162 : decode cX11_stepWord 162 = .ok (.iconst 0, 1) := by decide +kernel
theorem dX11_stepWord_163 : decode cX11_stepWord 163 = .ok (.invokestatic 135, 3) := by decide +kernel
theorem dX11_stepWord_166 : decode cX11_stepWord 166 = .ok (.invokevirtual 139, 3) := by decide +kernel
theorem dX11_stepWord_169 : decode cX11_stepWord 169 = .ok (.ifCond .eq 8, 3) := by decide +kernel
theorem dX11_stepWord_172 : decode cX11_stepWord 172 = .ok (.bipush 7, 2) := by decide +kernel
theorem dX11_stepWord_174 : decode cX11_stepWord 174 = .ok (.goto 4, 3) := by decide +kernel
theorem dX11_stepWord_177 : decode cX11_stepWord 177 = .ok (.iconst (-1), 1) := by decide +kernel
theorem dX11_stepWord_178 : decode cX11_stepWord 178 = .ok (.ireturn, 1) := by decide +kernel
theorem dX11_testWord_0 : decode cX11_testWord 0 = .ok (.aload_n 0, 1) := by decide +kernel
theorem dX11_testWord_1 : decode cX11_testWord 1 = .ok (.bipush 104, 2) := by decide +kernel
theorem dX11_testWord_3 : decode cX11_testWord 3 = .ok (.bipush 111, 2) := by decide +kernel
theorem dX11_testWord_5 : decode cX11_testWord 5 = .ok (.bipush 109, 2) := by decide +kernel
theorem dX11_testWord_7 : decode cX11_testWord 7 = .ok (.bipush 101, 2) := by decide +kernel
theorem dX11_testWord_9 : decode cX11_testWord 9 = .ok (.iconst 0, 1) := by decide +kernel
theorem dX11_testWord_10 : decode cX11_testWord 10 = .ok (.iconst 0, 1) := by decide +kernel
theorem dX11_testWord_11 : decode cX11_testWord 11 = .ok (.invokestatic 135, 3) := by decide +kernel
theorem dX11_testWord_14 : decode cX11_testWord 14 = .ok (.invokevirtual 139, 3) := by decide +kernel
theorem dX11_testWord_17 : decode cX11_testWord 17 = .ok (.ifCond .eq 5, 3) := by decide +kernel
theorem dX11_testWord_20 : decode cX11_testWord 20 = .ok (.iconst 0, 1) := by decide +kernel
theorem dX11_testWord_21 : decode cX11_testWord 21 = .ok (.ireturn, 1) := by decide +kernel
theorem dX11_testWord_22 : decode cX11_testWord 22 = .ok (.aload_n 0, 1) := by decide +kernel
theorem dX11_testWord_23 : decode cX11_testWord 23 = .ok (.invokevirtual 145, 3) := by decide +kernel
theorem dX11_testWord_26 : decode cX11_testWord 26 = .ok (.ifCond .eq 7, 3) := by decide +kernel
theorem dX11_testWord_29 : decode cX11_testWord 29 = .ok (.iconst 1, 1) := by decide +kernel
theorem dX11_testWord_30 : decode cX11_testWord 30 = .ok (.goto 29, 3) := by decide +kernel
theorem dX11_testWord_33 : decode cX11_testWord 33 = .ok (.aload_n 0, 1) := by decide +kernel
theorem dX11_testWord_34 : decode cX11_testWord 34 = .ok (.bipush 115, 2) := by decide +kernel
theorem dX11_testWord_36 : decode cX11_testWord 36 = .ok (.bipush 116, 2) := by decide +kernel
theorem dX11_testWord_38 : decode cX11_testWord 38 = .ok (.bipush 117, 2) := by decide +kernel
theorem dX11_testWord_40 : decode cX11_testWord 40 = .ok (.bipush 99, 2) := by decide +kernel
theorem dX11_testWord_42 : decode cX11_testWord 42 = .ok (.bipush 107, 2) := by decide +kernel
theorem dX11_testWord_44 : decode cX11_testWord 44 = .ok (.iconst 0, 1) := by decide +kernel
theorem dX11_testWord_45 : decode cX11_testWord 45 = .ok (.invokestatic 135, 3) := by decide +kernel
theorem dX11_testWord_48 : decode cX11_testWord 48 = .ok (.invokevirtual 139, 3) := by decide +kernel
theorem dX11_testWord_51 : decode cX11_testWord 51 = .ok (.ifCond .eq 7, 3) := by decide +kernel
theorem dX11_testWord_54 : decode cX11_testWord 54 = .ok (.iconst 2, 1) := by decide +kernel
theorem dX11_testWord_55 : decode cX11_testWord 55 = .ok (.goto 4, 3) := by decide +kernel
theorem dX11_testWord_58 : decode cX11_testWord 58 = .ok (.iconst (-1), 1) := by decide +kernel
theorem dX11_testWord_59 : decode cX11_testWord 59 = .ok (.ireturn, 1) := by decide +kernel
theorem dX11_isEnd_0 : decode cX11_isEnd 0 = .ok (.aload_n 0, 1) := by decide +kernel
theorem dX11_isEnd_1 : decode cX11_isEnd 1 = .ok (.bipush 101, 2) := by decide +kernel
theorem dX11_isEnd_3 : decode cX11_isEnd 3 = .ok (.bipush 110, 2) := by decide +kernel
theorem dX11_isEnd_5 : decode cX11_isEnd 5 = .ok (.bipush 100, 2) := by decide +kernel
theorem dX11_isEnd_7 : decode cX11_isEnd 7 = .ok (.iconst 0, 1) := by decide +kernel
theorem dX11_isEnd_8 : decode cX11_isEnd 8 = .ok (.iconst 0, 1) := by decide +kernel
theorem dX11_isEnd_9 : decode cX11_isEnd 9 = .ok (.iconst 0, 1) := by decide +kernel
theorem dX11_isEnd_10 : decode cX11_isEnd 10 = .ok (.invokestatic 135, 3) := by decide +kernel
theorem dX11_isEnd_13 : decode cX11_isEnd 13 = .ok (.invokevirtual 139, 3) := by decide +kernel
theorem dX11_isEnd_16 : decode cX11_isEnd 16 = .ok (.ireturn, 1) := by decide +kernel
theorem dX11_isKept_0 : decode cX11_isKept 0 = .ok (.aload_n 0, 1) := by decide +kernel
theorem dX11_isKept_1 : decode cX11_isKept 1 = .ok (.invokevirtual 149, 3) := by decide +kernel
theorem dX11_isKept_4 : decode cX11_isKept 4 = .ok (.ifCond .ne 73, 3) := by decide +kernel
theorem dX11_isKept_7 : decode cX11_isKept 7 = .ok (.aload_n 0, 1) := by decide +kernel
theorem dX11_isKept_8 : decode cX11_isKept 8 = .ok (.invokevirtual 152, 3) := by decide +kernel
theorem dX11_isKept_11 : decode cX11_isKept 11 = .ok (.ifCond .ne 66, 3) := by decide +kernel
theorem dX11_isKept_14 : decode cX11_isKept 14 = .ok (.aload_n 0, 1) := by decide +kernel
theorem dX11_isKept_15 : decode cX11_isKept 15 = .ok (.invokevirtual 155, 3) := by decide +kernel
theorem dX11_isKept_18 : decode cX11_isKept 18 = .ok (.ifCond .ne 59, 3) := by decide +kernel
theorem dX11_isKept_21 : decode cX11_isKept 21 = .ok (.aload_n 0, 1) := by decide +kernel
theorem dX11_isKept_22 : decode cX11_isKept 22 = .ok (.invokevirtual 158, 3) := by decide +kernel
theorem dX11_isKept_25 : decode cX11_isKept 25 = .ok (.ifCond .ne 52, 3) := by decide +kernel
theorem dX11_isKept_28 : decode cX11_isKept 28 = .ok (.aload_n 0, 1) := by decide +kernel
theorem dX11_isKept_29 : decode cX11_isKept 29 = .ok (.invokevirtual 161, 3) := by decide +kernel
theorem dX11_isKept_32 : decode cX11_isKept 32 = .ok (.ifCond .ne 45, 3) := by decide +kernel
theorem dX11_isKept_35 : decode cX11_isKept 35 = .ok (.aload_n 0, 1) := by decide +kernel
theorem dX11_isKept_36 : decode cX11_isKept 36 = .ok (.invokevirtual 164, 3) := by decide +kernel
theorem dX11_isKept_39 : decode cX11_isKept 39 = .ok (.ifCond .ne 38, 3) := by decide +kernel
theorem dX11_isKept_42 : decode cX11_isKept 42 = .ok (.aload_n 0, 1) := by decide +kernel
theorem dX11_isKept_43 : decode cX11_isKept 43 = .ok (.invokevirtual 167, 3) := by decide +kernel
theorem dX11_isKept_46 : decode cX11_isKept 46 = .ok (.ifCond .ne 31, 3) := by decide +kernel
theorem dX11_isKept_49 : decode cX11_isKept 49 = .ok (.aload_n 0, 1) := by decide +kernel
theorem dX11_isKept_50 : decode cX11_isKept 50 = .ok (.invokevirtual 170, 3) := by decide +kernel
theorem dX11_isKept_53 : decode cX11_isKept 53 = .ok (.ifCond .ne 24, 3) := by decide +kernel
theorem dX11_isKept_56 : decode cX11_isKept 56 = .ok (.aload_n 0, 1) := by decide +kernel
theorem dX11_isKept_57 : decode cX11_isKept 57 = .ok (.invokevirtual 173, 3) := by decide +kernel
theorem dX11_isKept_60 : decode cX11_isKept 60 = .ok (.ifCond .ne 17, 3) := by decide +kernel
theorem dX11_isKept_63 : decode cX11_isKept 63 = .ok (.aload_n 0, 1) := by decide +kernel
theorem dX11_isKept_64 : decode cX11_isKept 64 = .ok (.invokevirtual 176, 3) := by decide +kernel
theorem dX11_isKept_67 : decode cX11_isKept 67 = .ok (.ifCond .ne 10, 3) := by decide +kernel
theorem dX11_isKept_70 : decode cX11_isKept 70 = .ok (.aload_n 0, 1) := by decide +kernel
theorem dX11_isKept_71 : decode cX11_isKept 71 = .ok (.invokevirtual 179, 3) := by decide +kernel
theorem dX11_isKept_74 : decode cX11_isKept 74 = .ok (.ifCond .eq 5, 3) := by decide +kernel
theorem dX11_isKept_77 : decode cX11_isKept 77 = .ok (.iconst 1, 1) := by decide +kernel
theorem dX11_isKept_78 : decode cX11_isKept 78 = .ok (.ireturn, 1) := by decide +kernel
theorem dX11_isKept_79 : decode cX11_isKept 79 = .ok (.aload_n 0, 1) := by decide +kernel
theorem dX11_isKept_80 : decode cX11_isKept 80 = .ok (.invokevirtual 182, 3) := by decide +kernel
theorem dX11_isKept_83 : decode cX11_isKept 83 = .ok (.ifCond .ge 17, 3) := by decide +kernel
theorem dX11_isKept_86 : decode cX11_isKept 86 = .ok (.aload_n 0, 1) := by decide +kernel
theorem dX11_isKept_87 : decode cX11_isKept 87 = .ok (.invokevirtual 186, 3) := by decide +kernel
theorem dX11_isKept_90 : decode cX11_isKept 90 = .ok (.ifCond .ge 10, 3) := by decide +kernel
theorem dX11_isKept_93 : decode cX11_isKept 93 = .ok (.aload_n 0, 1) := by decide +kernel
theorem dX11_isKept_94 : decode cX11_isKept 94 = .ok (.invokevirtual 189, 3) := by decide +kernel
theorem dX11_isKept_97 : decode cX11_isKept 97 = .ok (.ifCond .eq 7, 3) := by decide +kernel
theorem dX11_isKept_100 : decode cX11_isKept 100 = .ok (.iconst 1, 1) := by decide +kernel
theorem dX11_isKept_101 : decode cX11_isKept 101 = .ok (.goto 4, 3) := by decide +kernel
theorem dX11_isKept_104 : decode cX11_isKept 104 = .ok (.iconst 0, 1) := by decide +kernel
theorem dX11_isKept_105 : decode cX11_isKept 105 = .ok (.ireturn, 1) := by decide +kernel
theorem dX11_isName_0 : decode cX11_isName 0 = .ok (.aload_n 0, 1) := by decide +kernel
theorem dX11_isName_1 : decode cX11_isName 1 = .ok (.getfield 110, 3) := by decide +kernel
theorem dX11_isName_4 : decode cX11_isName 4 = .ok (.iconst 1, 1) := by decide +kernel
theorem dX11_isName_5 : decode cX11_isName 5 = .ok (.if_icmp .ne 23, 3) := by decide +kernel
theorem dX11_isName_8 : decode cX11_isName 8 = .ok (.aload_n 0, 1) := by decide +kernel
theorem dX11_isName_9 : decode cX11_isName 9 = .ok (.getfield 123, 3) := by decide +kernel
theorem dX11_isName_12 : decode cX11_isName 12 = .ok (.bipush 8, 2) := by decide +kernel
theorem dX11_isName_14 : decode cX11_isName 14 = .ok (.if_icmp .gt 14, 3) := by decide +kernel
theorem dX11_isName_17 : decode cX11_isName 17 = .ok (.aload_n 0, 1) := by decide +kernel
theorem dX11_isName_18 : decode cX11_isName 18 = .ok (.invokevirtual 192, 3) := by decide +kernel
theorem dX11_isName_21 : decode cX11_isName 21 = .ok (.ifCond .ne 7, 3) := by decide +kernel
theorem dX11_isName_24 : decode cX11_isName 24 = .ok (.iconst 1, 1) := by decide +kernel
theorem dX11_isName_25 : decode cX11_isName 25 = .ok (.goto 4, 3) := by decide +kernel
theorem dX11_isName_28 : decode cX11_isName 28 = .ok (.iconst 0, 1) := by decide +kernel
theorem dX11_isName_29 : decode cX11_isName 29 = .ok (.ireturn, 1) := by decide +kernel
theorem dX11_fail_0 : decode cX11_fail 0 = .ok (.aload_n 0, 1) := by decide +kernel
theorem dX11_fail_1 : decode cX11_fail 1 = .ok (.getfield 195, 3) := by decide +kernel
theorem dX11_fail_4 : decode cX11_fail 4 = .ok (.ifCond .le 4, 3) := by decide +kernel
theorem dX11_fail_7 : decode cX11_fail 7 = .ok (.return_, 1) := by decide +kernel
theorem dX11_fail_8 : decode cX11_fail 8 = .ok (.aload_n 0, 1) := by decide +kernel
theorem dX11_fail_9 : decode cX11_fail 9 = .ok (.iload_n 1, 1) := by decide +kernel
theorem dX11_fail_10 : decode cX11_fail 10 = .ok (.putfield 195, 3) := by decide +kernel
theorem dX11_fail_13 : decode cX11_fail 13 = .ok (.aload_n 0, 1) := by decide +kernel
theorem dX11_fail_14 : decode cX11_fail 14 = .ok (.iload_n 2, 1) := by decide +kernel
theorem dX11_fail_15 : decode cX11_fail 15 = .ok (.putfield 198, 3) := by decide +kernel
theorem dX11_fail_18 : decode cX11_fail 18 = .ok (.return_, 1) := by decide +kernel
theorem dX11_amiss_0 : decode cX11_amiss 0 = .ok (.aload_n 0, 1) := by decide +kernel
theorem dX11_amiss_1 : decode cX11_amiss 1 = .ok (.aload_n 0, 1) := by decide +kernel
theorem dX11_amiss_2 : decode cX11_amiss 2 = .ok (.getfield 110, 3) := by decide +kernel
theorem dX11_amiss_5 : decode cX11_amiss 5 = .ok (.iconst 4, 1) := by decide +kernel
theorem dX11_amiss_6 : decode cX11_amiss 6 = .ok (.if_icmp .ne 7, 3) := by decide +kernel
theorem dX11_amiss_9 : decode cX11_amiss 9 = .ok (.iconst 1, 1) := by decide +kernel
theorem dX11_amiss_10 : decode cX11_amiss 10 = .ok (.goto 4, 3) := by decide +kernel
theorem dX11_amiss_13 : decode cX11_amiss 13 = .ok (.iconst 2, 1) := by decide +kernel
theorem dX11_amiss_14 : decode cX11_amiss 14 = .ok (.aload_n 0, 1) := by decide +kernel
theorem dX11_amiss_15 : decode cX11_amiss 15 = .ok (.getfield 104, 3) := by decide +kernel
theorem dX11_amiss_18 : decode cX11_amiss 18 = .ok (.invokevirtual 201, 3) := by decide +kernel
theorem dX11_amiss_21 : decode cX11_amiss 21 = .ok (.return_, 1) := by decide +kernel
theorem dX11_must_0 : decode cX11_must 0 = .ok (.aload_n 0, 1) := by decide +kernel
theorem dX11_must_1 : decode cX11_must 1 = .ok (.getfield 195, 3) := by decide +kernel
theorem dX11_must_4 : decode cX11_must 4 = .ok (.ifCond .le 4, 3) := by decide +kernel
theorem dX11_must_7 : decode cX11_must 7 = .ok (.return_, 1) := by decide +kernel
theorem dX11_must_8 : decode cX11_must 8 = .ok (.iload_n 1, 1) := by decide +kernel
theorem dX11_must_9 : decode cX11_must 9 = .ok (.ifCond .eq 10, 3) := by decide +kernel
theorem dX11_must_12 : decode cX11_must 12 = .ok (.aload_n 0, 1) := by decide +kernel
theorem dX11_must_13 : decode cX11_must 13 = .ok (.invokevirtual 205, 3) := by decide +kernel
theorem dX11_must_16 : decode cX11_must 16 = .ok (.goto 7, 3) := by decide +kernel
theorem dX11_must_19 : decode cX11_must 19 = .ok (.aload_n 0, 1) := by decide +kernel
theorem dX11_must_20 : decode cX11_must 20 = .ok (.invokevirtual 208, 3) := by decide +kernel
theorem dX11_must_23 : decode cX11_must 23 = .ok (.return_, 1) := by decide +kernel
theorem dX11_count_0 : decode cX11_count 0 = .ok (.aload_n 0, 1) := by decide +kernel
theorem dX11_count_1 : decode cX11_count 1 = .ok (.getfield 195, 3) := by decide +kernel
theorem dX11_count_4 : decode cX11_count 4 = .ok (.ifCond .ne 15, 3) := by decide +kernel
theorem dX11_count_7 : decode cX11_count 7 = .ok (.aload_n 0, 1) := by decide +kernel
theorem dX11_count_8 : decode cX11_count 8 = .ok (.getfield 110, 3) := by decide +kernel
theorem dX11_count_11 : decode cX11_count 11 = .ok (.iconst 2, 1) := by decide +kernel
theorem dX11_count_12 : decode cX11_count 12 = .ok (.if_icmp .eq 7, 3) := by decide +kernel
theorem dX11_count_15 : decode cX11_count 15 = .ok (.aload_n 0, 1) := by decide +kernel
theorem dX11_count_16 : decode cX11_count 16 = .ok (.invokevirtual 208, 3) := by decide +kernel
theorem dX11_count_19 : decode cX11_count 19 = .ok (.aload_n 0, 1) := by decide +kernel
theorem dX11_count_20 : decode cX11_count 20 = .ok (.getfield 195, 3) := by decide +kernel
theorem dX11_count_23 : decode cX11_count 23 = .ok (.ifCond .ne 27, 3) := by decide +kernel
theorem dX11_count_26 : decode cX11_count 26 = .ok (.aload_n 0, 1) := by decide +kernel
theorem dX11_count_27 : decode cX11_count 27 = .ok (.getfield 129, 3) := by decide +kernel
theorem dX11_count_30 : decode cX11_count 30 = .ok (.i2l, 1) := by decide +kernel
theorem dX11_count_31 : decode cX11_count 31 = .ok (.iload_n 1, 1) := by decide +kernel
theorem dX11_count_32 : decode cX11_count 32 = .ok (.i2l, 1) := by decide +kernel
theorem dX11_count_33 : decode cX11_count 33 = .ok (.iload_n 2, 1) := by decide +kernel
theorem dX11_count_34 : decode cX11_count 34 = .ok (.i2l, 1) := by decide +kernel
theorem dX11_count_35 : decode cX11_count 35 = .ok (.invokestatic 94, 3) := by decide +kernel
theorem dX11_count_38 : decode cX11_count 38 = .ok (.ifCond .ne 12, 3) := by decide +kernel
theorem dX11_count_41 : decode cX11_count 41 = .ok (.aload_n 0, 1) := by decide +kernel
theorem dX11_count_42 : decode cX11_count 42 = .ok (.iconst 4, 1) := by decide +kernel
theorem dX11_count_43 : decode cX11_count 43 = .ok (.aload_n 0, 1) := by decide +kernel
theorem dX11_count_44 : decode cX11_count 44 = .ok (.getfield 104, 3) := by decide +kernel
theorem dX11_count_47 : decode cX11_count 47 = .ok (.invokevirtual 201, 3) := by decide +kernel
theorem dX11_count_50 : decode cX11_count 50 = .ok (.aload_n 0, 1) := by decide +kernel
theorem dX11_count_51 : decode cX11_count 51 = .ok (.getfield 195, 3) := by decide +kernel
theorem dX11_count_54 : decode cX11_count 54 = .ok (.ifCond .le 5, 3) := by decide +kernel
theorem dX11_count_57 : decode cX11_count 57 = .ok (.iconst 0, 1) := by decide +kernel
theorem dX11_count_58 : decode cX11_count 58 = .ok (.ireturn, 1) := by decide +kernel
theorem dX11_count_59 : decode cX11_count 59 = .ok (.aload_n 0, 1) := by decide +kernel
theorem dX11_count_60 : decode cX11_count 60 = .ok (.getfield 129, 3) := by decide +kernel
theorem dX11_count_63 : decode cX11_count 63 = .ok (.istore_n 3, 1) := by decide +kernel
theorem dX11_count_64 : decode cX11_count 64 = .ok (.aload_n 0, 1) := by decide +kernel
theorem dX11_count_65 : decode cX11_count 65 = .ok (.invokevirtual 205, 3) := by decide +kernel
theorem dX11_count_68 : decode cX11_count 68 = .ok (.iload_n 3, 1) := by decide +kernel
theorem dX11_count_69 : decode cX11_count 69 = .ok (.ireturn, 1) := by decide +kernel
theorem dX11_behindWord_0 : decode cX11_behindWord 0 = .ok (.aload_n 0, 1) := by decide +kernel
theorem dX11_behindWord_1 : decode cX11_behindWord 1 = .ok (.iload_n 1, 1) := by decide +kernel
theorem dX11_behindWord_2 : decode cX11_behindWord 2 = .ok (.invokevirtual 211, 3) := by decide +kernel
theorem dX11_behindWord_5 : decode cX11_behindWord 5 = .ok (.aload_n 0, 1) := by decide +kernel
theorem dX11_behindWord_6 : decode cX11_behindWord 6 = .ok (.iload_n 2, 1) := by decide +kernel
theorem dX11_behindWord_7 : decode cX11_behindWord 7 = .ok (.iload_n 3, 1) := by decide +kernel
theorem dX11_behindWord_8 : decode cX11_behindWord 8 = .ok (.invokevirtual 215, 3) := by decide +kernel
theorem dX11_behindWord_11 : decode cX11_behindWord 11 = .ok (.ireturn, 1) := by decide +kernel
theorem dX11_feed_0 : decode cX11_feed 0 = .ok (.aload_n 0, 1) := by decide +kernel
theorem dX11_feed_1 : decode cX11_feed 1 = .ok (.iconst 0, 1) := by decide +kernel
theorem dX11_feed_2 : decode cX11_feed 2 = .ok (.putfield 59, 3) := by decide +kernel
theorem dX11_feed_5 : decode cX11_feed 5 = .ok (.aload_n 0, 1) := by decide +kernel
theorem dX11_feed_6 : decode cX11_feed 6 = .ok (.getfield 218, 3) := by decide +kernel
theorem dX11_feed_9 : decode cX11_feed 9 = .ok (.bipush 20, 2) := by decide +kernel
theorem dX11_feed_11 : decode cX11_feed 11 = .ok (.iadd, 1) := by decide +kernel
theorem dX11_feed_12 : decode cX11_feed 12 = .ok (.sipush 900, 3) := by decide +kernel
theorem dX11_feed_15 : decode cX11_feed 15 = .ok (.if_icmp .le 5, 3) := by decide +kernel
theorem dX11_feed_18 : decode cX11_feed 18 = .ok (.iconst (-1), 1) := by decide +kernel
theorem dX11_feed_19 : decode cX11_feed 19 = .ok (.ireturn, 1) := by decide +kernel
theorem dX11_feed_20 : decode cX11_feed 20 = .ok (.aload_n 0, 1) := by decide +kernel
theorem dX11_feed_21 : decode cX11_feed 21 = .ok (.iload_n 1, 1) := by decide +kernel
theorem dX11_feed_22 : decode cX11_feed 22 = .ok (.invokevirtual 221, 3) := by decide +kernel
theorem dX11_feed_25 : decode cX11_feed 25 = .ok (.aload_n 0, 1) := by decide +kernel
theorem dX11_feed_26 : decode cX11_feed 26 = .ok (.iload_n 2, 1) := by decide +kernel
theorem dX11_feed_27 : decode cX11_feed 27 = .ok (.invokevirtual 221, 3) := by decide +kernel
theorem dX11_feed_30 : decode cX11_feed 30 = .ok (.aload_n 0, 1) := by decide +kernel
theorem dX11_feed_31 : decode cX11_feed 31 = .ok (.iload_n 3, 1) := by decide +kernel
theorem dX11_feed_32 : decode cX11_feed 32 = .ok (.invokevirtual 221, 3) := by decide +kernel
theorem dX11_feed_35 : decode cX11_feed 35 = .ok (.aload_n 0, 1) := by decide +kernel
theorem dX11_feed_36 : decode cX11_feed 36 = .ok (.iload 4, 2) := by decide +kernel
theorem dX11_feed_38 : decode cX11_feed 38 = .ok (.invokevirtual 221, 3) := by decide +kernel
theorem dX11_feed_41 : decode cX11_feed 41 = .ok (.aload_n 0, 1) := by decide +kernel
theorem dX11_feed_42 : decode cX11_feed 42 = .ok (.iload 5, 2) := by decide +kernel
theorem dX11_feed_44 : decode cX11_feed 44 = .ok (.invokevirtual 221, 3) := by decide +kernel
theorem dX11_feed_47 : decode cX11_feed 47 = .ok (.aload_n 0, 1) := by decide +kernel
theorem dX11_feed_48 : decode cX11_feed 48 = .ok (.getfield 218, 3) := by decide +kernel
theorem dX11_feed_51 : decode cX11_feed 51 = .ok (.ireturn, 1) := by decide +kernel
theorem dX11_lay_0 : decode cX11_lay 0 = .ok (.iconst 3, 1) := by decide +kernel
theorem dX11_lay_1 : decode cX11_lay 1 = .ok (.istore_n 2, 1) := by decide +kernel
theorem dX11_lay_2 : decode cX11_lay 2 = .ok (.iload_n 2, 1) := by decide +kernel
theorem dX11_lay_3 : decode cX11_lay 3 = .ok (.ifCond .lt 35, 3) := by decide +kernel
theorem dX11_lay_6 : decode cX11_lay 6 = .ok (.aload_n 0, 1) := by decide +kernel
theorem dX11_lay_7 : decode cX11_lay 7 = .ok (.getfield 24, 3) := by decide +kernel
theorem dX11_lay_10 : decode cX11_lay 10 = .ok (.aload_n 0, 1) := by decide +kernel
theorem dX11_lay_11 : decode cX11_lay 11 = .ok (.getfield 218, 3) := by decide +kernel
theorem dX11_lay_14 : decode cX11_lay 14 = .ok (.iload_n 1, 1) := by decide +kernel
theorem dX11_lay_15 : decode cX11_lay 15 = .ok (.bipush 8, 2) := by decide +kernel
theorem dX11_lay_17 : decode cX11_lay 17 = .ok (.iload_n 2, 1) := by decide +kernel
theorem dX11_lay_18 : decode cX11_lay 18 = .ok (.imul, 1) := by decide +kernel
theorem dX11_lay_19 : decode cX11_lay 19 = .ok (.ishr, 1) := by decide +kernel
theorem dX11_lay_20 : decode cX11_lay 20 = .ok (.i2b, 1) := by decide +kernel
theorem dX11_lay_21 : decode cX11_lay 21 = .ok (.bastore, 1) := by decide +kernel
theorem dX11_lay_22 : decode cX11_lay 22 = .ok (.aload_n 0, 1) := by decide +kernel
theorem dX11_lay_23 : decode cX11_lay 23 = .ok (.dup, 1) := by decide +kernel
theorem dX11_lay_24 : decode cX11_lay 24 = .ok (.getfield 218, 3) := by decide +kernel
theorem dX11_lay_27 : decode cX11_lay 27 = .ok (.iconst 1, 1) := by decide +kernel
theorem dX11_lay_28 : decode cX11_lay 28 = .ok (.iadd, 1) := by decide +kernel
theorem dX11_lay_29 : decode cX11_lay 29 = .ok (.putfield 218, 3) := by decide +kernel
theorem dX11_lay_32 : decode cX11_lay 32 = .ok (.iinc 2 (-1), 3) := by decide +kernel
theorem dX11_lay_35 : decode cX11_lay 35 = .ok (.goto (-33), 3) := by decide +kernel
theorem dX11_lay_38 : decode cX11_lay 38 = .ok (.return_, 1) := by decide +kernel
theorem dX11_starts_0 : decode cX11_starts 0 = .ok (.iload_n 1, 1) := by decide +kernel
theorem dX11_starts_1 : decode cX11_starts 1 = .ok (.ifCond .lt 16, 3) := by decide +kernel
theorem dX11_starts_4 : decode cX11_starts 4 = .ok (.iload_n 1, 1) := by decide +kernel
theorem dX11_starts_5 : decode cX11_starts 5 = .ok (.aload_n 0, 1) := by decide +kernel
theorem dX11_starts_6 : decode cX11_starts 6 = .ok (.getfield 218, 3) := by decide +kernel
theorem dX11_starts_9 : decode cX11_starts 9 = .ok (.if_icmp .gt 8, 3) := by decide +kernel
theorem dX11_starts_12 : decode cX11_starts 12 = .ok (.iload_n 1, 1) := by decide +kernel
theorem dX11_starts_13 : decode cX11_starts 13 = .ok (.iload_n 2, 1) := by decide +kernel
theorem dX11_starts_14 : decode cX11_starts 14 = .ok (.if_icmp .le 9, 3) := by decide +kernel
theorem dX11_starts_17 : decode cX11_starts 17 = .ok (.aload_n 0, 1) := by decide +kernel
theorem dX11_starts_18 : decode cX11_starts 18 = .ok (.iconst 5, 1) := by decide +kernel
theorem dX11_starts_19 : decode cX11_starts 19 = .ok (.invokevirtual 74, 3) := by decide +kernel
theorem dX11_starts_22 : decode cX11_starts 22 = .ok (.ireturn, 1) := by decide +kernel
theorem dX11_starts_23 : decode cX11_starts 23 = .ok (.aload_n 0, 1) := by decide +kernel
theorem dX11_starts_24 : decode cX11_starts 24 = .ok (.iload_n 1, 1) := by decide +kernel
theorem dX11_starts_25 : decode cX11_starts 25 = .ok (.putfield 98, 3) := by decide +kernel
theorem dX11_starts_28 : decode cX11_starts 28 = .ok (.aload_n 0, 1) := by decide +kernel
theorem dX11_starts_29 : decode cX11_starts 29 = .ok (.iconst 0, 1) := by decide +kernel
theorem dX11_starts_30 : decode cX11_starts 30 = .ok (.putfield 218, 3) := by decide +kernel
theorem dX11_starts_33 : decode cX11_starts 33 = .ok (.aload_n 0, 1) := by decide +kernel
theorem dX11_starts_34 : decode cX11_starts 34 = .ok (.iconst 0, 1) := by decide +kernel
theorem dX11_starts_35 : decode cX11_starts 35 = .ok (.putfield 101, 3) := by decide +kernel
theorem dX11_starts_38 : decode cX11_starts 38 = .ok (.aload_n 0, 1) := by decide +kernel
theorem dX11_starts_39 : decode cX11_starts 39 = .ok (.iconst 0, 1) := by decide +kernel
theorem dX11_starts_40 : decode cX11_starts 40 = .ok (.putfield 195, 3) := by decide +kernel
theorem dX11_starts_43 : decode cX11_starts 43 = .ok (.aload_n 0, 1) := by decide +kernel
theorem dX11_starts_44 : decode cX11_starts 44 = .ok (.invokevirtual 205, 3) := by decide +kernel
theorem dX11_starts_47 : decode cX11_starts 47 = .ok (.iconst 1, 1) := by decide +kernel
theorem dX11_starts_48 : decode cX11_starts 48 = .ok (.ireturn, 1) := by decide +kernel
theorem dX11_isWell_0 : decode cX11_isWell 0 = .ok (.aload_n 0, 1) := by decide +kernel
theorem dX11_isWell_1 : decode cX11_isWell 1 = .ok (.aload_n 0, 1) := by decide +kernel
theorem dX11_isWell_2 : decode cX11_isWell 2 = .ok (.getfield 195, 3) := by decide +kernel
theorem dX11_isWell_5 : decode cX11_isWell 5 = .ok (.putfield 28, 3) := by decide +kernel
theorem dX11_isWell_8 : decode cX11_isWell 8 = .ok (.aload_n 0, 1) := by decide +kernel
theorem dX11_isWell_9 : decode cX11_isWell 9 = .ok (.aload_n 0, 1) := by decide +kernel
theorem dX11_isWell_10 : decode cX11_isWell 10 = .ok (.getfield 195, 3) := by decide +kernel
theorem dX11_isWell_13 : decode cX11_isWell 13 = .ok (.ifCond .ne 7, 3) := by decide +kernel
theorem dX11_isWell_16 : decode cX11_isWell 16 = .ok (.iconst (-1), 1) := by decide +kernel
theorem dX11_isWell_17 : decode cX11_isWell 17 = .ok (.goto 7, 3) := by decide +kernel
theorem dX11_isWell_20 : decode cX11_isWell 20 = .ok (.aload_n 0, 1) := by decide +kernel
theorem dX11_isWell_21 : decode cX11_isWell 21 = .ok (.getfield 198, 3) := by decide +kernel
theorem dX11_isWell_24 : decode cX11_isWell 24 = .ok (.putfield 32, 3) := by decide +kernel
theorem dX11_isWell_27 : decode cX11_isWell 27 = .ok (.aload_n 0, 1) := by decide +kernel
theorem dX11_isWell_28 : decode cX11_isWell 28 = .ok (.getfield 195, 3) := by decide +kernel
theorem dX11_isWell_31 : decode cX11_isWell 31 = .ok (.ifCond .eq 12, 3) := by decide +kernel
theorem dX11_isWell_34 : decode cX11_isWell 34 = .ok (.aload_n 0, 1) := by decide +kernel
theorem dX11_isWell_35 : decode cX11_isWell 35 = .ok (.bipush 10, 2) := by decide +kernel
theorem dX11_isWell_37 : decode cX11_isWell 37 = .ok (.invokevirtual 74, 3) := by decide +kernel
theorem dX11_isWell_40 : decode cX11_isWell 40 = .ok (.ifCond .eq 7, 3) := by decide +kernel
theorem dX11_isWell_43 : decode cX11_isWell 43 = .ok (.iconst 1, 1) := by decide +kernel
theorem dX11_isWell_44 : decode cX11_isWell 44 = .ok (.goto 4, 3) := by decide +kernel
theorem dX11_isWell_47 : decode cX11_isWell 47 = .ok (.iconst 0, 1) := by decide +kernel
theorem dX11_isWell_48 : decode cX11_isWell 48 = .ok (.ireturn, 1) := by decide +kernel
theorem dX11_fault_0 : decode cX11_fault 0 = .ok (.aload_n 0, 1) := by decide +kernel
theorem dX11_fault_1 : decode cX11_fault 1 = .ok (.iconst 0, 1) := by decide +kernel
theorem dX11_fault_2 : decode cX11_fault 2 = .ok (.putfield 59, 3) := by decide +kernel
theorem dX11_fault_5 : decode cX11_fault 5 = .ok (.iload_n 1, 1) := by decide +kernel
theorem dX11_fault_6 : decode cX11_fault 6 = .ok (.ifCond .ne 10, 3) := by decide +kernel
theorem dX11_fault_9 : decode cX11_fault 9 = .ok (.aload_n 0, 1) := by decide +kernel
theorem dX11_fault_10 : decode cX11_fault 10 = .ok (.getfield 28, 3) := by decide +kernel
theorem dX11_fault_13 : decode cX11_fault 13 = .ok (.goto 16, 3) := by decide +kernel
theorem dX11_fault_16 : decode cX11_fault 16 = .ok (.iload_n 1, 1) := by decide +kernel
theorem dX11_fault_17 : decode cX11_fault 17 = .ok (.iconst 1, 1) := by decide +kernel
theorem dX11_fault_18 : decode cX11_fault 18 = .ok (.if_icmp .ne 10, 3) := by decide +kernel
theorem dX11_fault_21 : decode cX11_fault 21 = .ok (.aload_n 0, 1) := by decide +kernel
theorem dX11_fault_22 : decode cX11_fault 22 = .ok (.getfield 32, 3) := by decide +kernel
theorem dX11_fault_25 : decode cX11_fault 25 = .ok (.goto 4, 3) := by decide +kernel
theorem dX11_fault_28 : decode cX11_fault 28 = .ok (.iconst (-1), 1) := by decide +kernel
theorem dX11_fault_29 : decode cX11_fault 29 = .ok (.ireturn, 1) := by decide +kernel
theorem dX11_named_0 : decode cX11_named 0 = .ok (.aload_n 0, 1) := by decide +kernel
theorem dX11_named_1 : decode cX11_named 1 = .ok (.getfield 35, 3) := by decide +kernel
theorem dX11_named_4 : decode cX11_named 4 = .ok (.sipush 442, 3) := by decide +kernel
theorem dX11_named_7 : decode cX11_named 7 = .ok (.iload_n 1, 1) := by decide +kernel
theorem dX11_named_8 : decode cX11_named 8 = .ok (.imul, 1) := by decide +kernel
theorem dX11_named_9 : decode cX11_named 9 = .ok (.iload_n 2, 1) := by decide +kernel
theorem dX11_named_10 : decode cX11_named 10 = .ok (.ifCond .ne 7, 3) := by decide +kernel
theorem dX11_named_13 : decode cX11_named 13 = .ok (.iconst 1, 1) := by decide +kernel
theorem dX11_named_14 : decode cX11_named 14 = .ok (.goto 4, 3) := by decide +kernel
theorem dX11_named_17 : decode cX11_named 17 = .ok (.iconst 5, 1) := by decide +kernel
theorem dX11_named_18 : decode cX11_named 18 = .ok (.iadd, 1) := by decide +kernel
theorem dX11_named_19 : decode cX11_named 19 = .ok (.iaload, 1) := by decide +kernel
theorem dX11_named_20 : decode cX11_named 20 = .ok (.istore_n 3, 1) := by decide +kernel
theorem dX11_named_21 : decode cX11_named 21 = .ok (.iconst 0, 1) := by decide +kernel
theorem dX11_named_22 : decode cX11_named 22 = .ok (.istore 4, 2) := by decide +kernel
theorem dX11_named_24 : decode cX11_named 24 = .ok (.iload 4, 2) := by decide +kernel
theorem dX11_named_26 : decode cX11_named 26 = .ok (.iload_n 3, 1) := by decide +kernel
theorem dX11_named_27 : decode cX11_named 27 = .ok (.if_icmp .ge 36, 3) := by decide +kernel
theorem dX11_named_30 : decode cX11_named 30 = .ok (.aload_n 0, 1) := by decide +kernel
theorem dX11_named_31 : decode cX11_named 31 = .ok (.getfield 44, 3) := by decide +kernel
theorem dX11_named_34 : decode cX11_named 34 = .ok (.bipush 10, 2) := by decide +kernel
theorem dX11_named_36 : decode cX11_named 36 = .ok (.iload_n 1, 1) := by decide +kernel
theorem dX11_named_37 : decode cX11_named 37 = .ok (.imul, 1) := by decide +kernel
theorem dX11_named_38 : decode cX11_named 38 = .ok (.iconst 4, 1) := by decide +kernel
theorem dX11_named_39 : decode cX11_named 39 = .ok (.iload_n 2, 1) := by decide +kernel
theorem dX11_named_40 : decode cX11_named 40 = .ok (.imul, 1) := by decide +kernel
theorem dX11_named_41 : decode cX11_named 41 = .ok (.iadd, 1) := by decide +kernel
theorem dX11_named_42 : decode cX11_named 42 = .ok (.iload 4, 2) := by decide +kernel
theorem dX11_named_44 : decode cX11_named 44 = .ok (.iadd, 1) := by decide +kernel
theorem dX11_named_45 : decode cX11_named 45 = .ok (.laload, 1) := by decide +kernel
theorem dX11_named_46 : decode cX11_named 46 = .ok (.aload_n 0, 1) := by decide +kernel
theorem dX11_named_47 : decode cX11_named 47 = .ok (.getfield 116, 3) := by decide +kernel
theorem dX11_named_50 : decode cX11_named 50 = .ok (.lcmp, 1) := by decide +kernel
theorem dX11_named_51 : decode cX11_named 51 = .ok (.ifCond .ne 6, 3) := by decide +kernel
theorem dX11_named_54 : decode cX11_named 54 = .ok (.iload 4, 2) := by decide +kernel
theorem dX11_named_56 : decode cX11_named 56 = .ok (.ireturn, 1) := by decide +kernel
theorem dX11_named_57 : decode cX11_named 57 = .ok (.iinc 4 1, 3) := by decide +kernel
theorem dX11_named_60 : decode cX11_named 60 = .ok (.goto (-36), 3) := by decide +kernel
theorem dX11_named_63 : decode cX11_named 63 = .ok (.iconst (-1), 1) := by decide +kernel
theorem dX11_named_64 : decode cX11_named 64 = .ok (.ireturn, 1) := by decide +kernel
theorem dX11_readNew_0 : decode cX11_readNew 0 = .ok (.aload_n 0, 1) := by decide +kernel
theorem dX11_readNew_1 : decode cX11_readNew 1 = .ok (.getfield 35, 3) := by decide +kernel
theorem dX11_readNew_4 : decode cX11_readNew 4 = .ok (.sipush 1768, 3) := by decide +kernel
theorem dX11_readNew_7 : decode cX11_readNew 7 = .ok (.iload_n 1, 1) := by decide +kernel
theorem dX11_readNew_8 : decode cX11_readNew 8 = .ok (.ifCond .ne 7, 3) := by decide +kernel
theorem dX11_readNew_11 : decode cX11_readNew 11 = .ok (.iconst 1, 1) := by decide +kernel
theorem dX11_readNew_12 : decode cX11_readNew 12 = .ok (.goto 4, 3) := by decide +kernel
theorem dX11_readNew_15 : decode cX11_readNew 15 = .ok (.iconst 5, 1) := by decide +kernel
theorem dX11_readNew_16 : decode cX11_readNew 16 = .ok (.iadd, 1) := by decide +kernel
theorem dX11_readNew_17 : decode cX11_readNew 17 = .ok (.iaload, 1) := by decide +kernel
theorem dX11_readNew_18 : decode cX11_readNew 18 = .ok (.istore_n 3, 1) := by decide +kernel
theorem dX11_readNew_19 : decode cX11_readNew 19 = .ok (.iload_n 3, 1) := by decide +kernel
theorem dX11_readNew_20 : decode cX11_readNew 20 = .ok (.iload_n 2, 1) := by decide +kernel
theorem dX11_readNew_21 : decode cX11_readNew 21 = .ok (.if_icmp .ne 13, 3) := by decide +kernel
theorem dX11_readNew_24 : decode cX11_readNew 24 = .ok (.aload_n 0, 1) := by decide +kernel
theorem dX11_readNew_25 : decode cX11_readNew 25 = .ok (.bipush 6, 2) := by decide +kernel
theorem dX11_readNew_27 : decode cX11_readNew 27 = .ok (.aload_n 0, 1) := by decide +kernel
theorem dX11_readNew_28 : decode cX11_readNew 28 = .ok (.getfield 104, 3) := by decide +kernel
theorem dX11_readNew_31 : decode cX11_readNew 31 = .ok (.invokevirtual 201, 3) := by decide +kernel
theorem dX11_readNew_34 : decode cX11_readNew 34 = .ok (.aload_n 0, 1) := by decide +kernel
theorem dX11_readNew_35 : decode cX11_readNew 35 = .ok (.getfield 195, 3) := by decide +kernel
theorem dX11_readNew_38 : decode cX11_readNew 38 = .ok (.ifCond .le 5, 3) := by decide +kernel
theorem dX11_readNew_41 : decode cX11_readNew 41 = .ok (.iconst 0, 1) := by decide +kernel
theorem dX11_readNew_42 : decode cX11_readNew 42 = .ok (.ireturn, 1) := by decide +kernel
theorem dX11_readNew_43 : decode cX11_readNew 43 = .ok (.aload_n 0, 1) := by decide +kernel
theorem dX11_readNew_44 : decode cX11_readNew 44 = .ok (.invokevirtual 205, 3) := by decide +kernel
theorem dX11_readNew_47 : decode cX11_readNew 47 = .ok (.aload_n 0, 1) := by decide +kernel
theorem dX11_readNew_48 : decode cX11_readNew 48 = .ok (.invokevirtual 225, 3) := by decide +kernel
theorem dX11_readNew_51 : decode cX11_readNew 51 = .ok (.ifCond .ne 7, 3) := by decide +kernel
theorem dX11_readNew_54 : decode cX11_readNew 54 = .ok (.aload_n 0, 1) := by decide +kernel
theorem dX11_readNew_55 : decode cX11_readNew 55 = .ok (.invokevirtual 208, 3) := by decide +kernel
theorem dX11_readNew_58 : decode cX11_readNew 58 = .ok (.aload_n 0, 1) := by decide +kernel
theorem dX11_readNew_59 : decode cX11_readNew 59 = .ok (.getfield 195, 3) := by decide +kernel
theorem dX11_readNew_62 : decode cX11_readNew 62 = .ok (.ifCond .ne 30, 3) := by decide +kernel
theorem dX11_readNew_65 : decode cX11_readNew 65 = .ok (.aload_n 0, 1) := by decide +kernel
theorem dX11_readNew_66 : decode cX11_readNew 66 = .ok (.iconst 4, 1) := by decide +kernel
theorem dX11_readNew_67 : decode cX11_readNew 67 = .ok (.iconst 0, 1) := by decide +kernel
theorem dX11_readNew_68 : decode cX11_readNew 68 = .ok (.invokevirtual 228, 3) := by decide +kernel
theorem dX11_readNew_71 : decode cX11_readNew 71 = .ok (.ifCond .ge 12, 3) := by decide +kernel
theorem dX11_readNew_74 : decode cX11_readNew 74 = .ok (.aload_n 0, 1) := by decide +kernel
theorem dX11_readNew_75 : decode cX11_readNew 75 = .ok (.iconst 4, 1) := by decide +kernel
theorem dX11_readNew_76 : decode cX11_readNew 76 = .ok (.iconst 1, 1) := by decide +kernel
theorem dX11_readNew_77 : decode cX11_readNew 77 = .ok (.invokevirtual 228, 3) := by decide +kernel
theorem dX11_readNew_80 : decode cX11_readNew 80 = .ok (.ifCond .lt 12, 3) := by decide +kernel
theorem dX11_readNew_83 : decode cX11_readNew 83 = .ok (.aload_n 0, 1) := by decide +kernel
theorem dX11_readNew_84 : decode cX11_readNew 84 = .ok (.iconst 3, 1) := by decide +kernel
theorem dX11_readNew_85 : decode cX11_readNew 85 = .ok (.aload_n 0, 1) := by decide +kernel
theorem dX11_readNew_86 : decode cX11_readNew 86 = .ok (.getfield 104, 3) := by decide +kernel
theorem dX11_readNew_89 : decode cX11_readNew 89 = .ok (.invokevirtual 201, 3) := by decide +kernel
theorem dX11_readNew_92 : decode cX11_readNew 92 = .ok (.aload_n 0, 1) := by decide +kernel
theorem dX11_readNew_93 : decode cX11_readNew 93 = .ok (.getfield 195, 3) := by decide +kernel
theorem dX11_readNew_96 : decode cX11_readNew 96 = .ok (.ifCond .le 5, 3) := by decide +kernel
theorem dX11_readNew_99 : decode cX11_readNew 99 = .ok (.iconst 0, 1) := by decide +kernel
theorem dX11_readNew_100 : decode cX11_readNew 100 = .ok (.ireturn, 1) := by decide +kernel
theorem dX11_readNew_101 : decode cX11_readNew 101 = .ok (.aload_n 0, 1) := by decide +kernel
theorem dX11_readNew_102 : decode cX11_readNew 102 = .ok (.getfield 44, 3) := by decide +kernel
theorem dX11_readNew_105 : decode cX11_readNew 105 = .ok (.bipush 40, 2) := by decide +kernel
theorem dX11_readNew_107 : decode cX11_readNew 107 = .ok (.iconst 4, 1) := by decide +kernel
theorem dX11_readNew_108 : decode cX11_readNew 108 = .ok (.iload_n 1, 1) := by decide +kernel
theorem dX11_readNew_109 : decode cX11_readNew 109 = .ok (.imul, 1) := by decide +kernel
theorem dX11_readNew_110 : decode cX11_readNew 110 = .ok (.iadd, 1) := by decide +kernel
theorem dX11_readNew_111 : decode cX11_readNew 111 = .ok (.iload_n 3, 1) := by decide +kernel
theorem dX11_readNew_112 : decode cX11_readNew 112 = .ok (.iadd, 1) := by decide +kernel
theorem dX11_readNew_113 : decode cX11_readNew 113 = .ok (.aload_n 0, 1) := by decide +kernel
theorem dX11_readNew_114 : decode cX11_readNew 114 = .ok (.getfield 116, 3) := by decide +kernel
theorem dX11_readNew_117 : decode cX11_readNew 117 = .ok (.lastore, 1) := by decide +kernel
theorem dX11_readNew_118 : decode cX11_readNew 118 = .ok (.aload_n 0, 1) := by decide +kernel
theorem dX11_readNew_119 : decode cX11_readNew 119 = .ok (.invokevirtual 205, 3) := by decide +kernel
theorem dX11_readNew_122 : decode cX11_readNew 122 = .ok (.iload_n 3, 1) := by decide +kernel
theorem dX11_readNew_123 : decode cX11_readNew 123 = .ok (.ireturn, 1) := by decide +kernel
theorem dX11_told_0 : decode cX11_told 0 = .ok (.aload_n 0, 1) := by decide +kernel
theorem dX11_told_1 : decode cX11_told 1 = .ok (.getfield 195, 3) := by decide +kernel
theorem dX11_told_4 : decode cX11_told 4 = .ok (.ifCond .ne 14, 3) := by decide +kernel
theorem dX11_told_7 : decode cX11_told 7 = .ok (.aload_n 0, 1) := by decide +kernel
theorem dX11_told_8 : decode cX11_told 8 = .ok (.invokevirtual 225, 3) := by decide +kernel
theorem dX11_told_11 : decode cX11_told 11 = .ok (.ifCond .ne 7, 3) := by decide +kernel
theorem dX11_told_14 : decode cX11_told 14 = .ok (.aload_n 0, 1) := by decide +kernel
theorem dX11_told_15 : decode cX11_told 15 = .ok (.invokevirtual 208, 3) := by decide +kernel
theorem dX11_told_18 : decode cX11_told 18 = .ok (.aload_n 0, 1) := by decide +kernel
theorem dX11_told_19 : decode cX11_told 19 = .ok (.getfield 195, 3) := by decide +kernel
theorem dX11_told_22 : decode cX11_told 22 = .ok (.ifCond .le 5, 3) := by decide +kernel
theorem dX11_told_25 : decode cX11_told 25 = .ok (.iconst 0, 1) := by decide +kernel
theorem dX11_told_26 : decode cX11_told 26 = .ok (.ireturn, 1) := by decide +kernel
theorem dX11_told_27 : decode cX11_told 27 = .ok (.aload_n 0, 1) := by decide +kernel
theorem dX11_told_28 : decode cX11_told 28 = .ok (.iload_n 1, 1) := by decide +kernel
theorem dX11_told_29 : decode cX11_told 29 = .ok (.iload_n 2, 1) := by decide +kernel
theorem dX11_told_30 : decode cX11_told 30 = .ok (.invokevirtual 228, 3) := by decide +kernel
theorem dX11_told_33 : decode cX11_told 33 = .ok (.istore_n 3, 1) := by decide +kernel
theorem dX11_told_34 : decode cX11_told 34 = .ok (.iload_n 3, 1) := by decide +kernel
theorem dX11_told_35 : decode cX11_told 35 = .ok (.ifCond .ge 12, 3) := by decide +kernel
theorem dX11_told_38 : decode cX11_told 38 = .ok (.aload_n 0, 1) := by decide +kernel
theorem dX11_told_39 : decode cX11_told 39 = .ok (.iconst 3, 1) := by decide +kernel
theorem dX11_told_40 : decode cX11_told 40 = .ok (.aload_n 0, 1) := by decide +kernel
theorem dX11_told_41 : decode cX11_told 41 = .ok (.getfield 104, 3) := by decide +kernel
theorem dX11_told_44 : decode cX11_told 44 = .ok (.invokevirtual 201, 3) := by decide +kernel
theorem dX11_told_47 : decode cX11_told 47 = .ok (.iconst 0, 1) := by decide +kernel
theorem dX11_told_48 : decode cX11_told 48 = .ok (.iload_n 3, 1) := by decide +kernel
theorem dX11_told_49 : decode cX11_told 49 = .ok (.invokestatic 231, 3) := by decide +kernel
theorem dX11_told_52 : decode cX11_told 52 = .ok (.ireturn, 1) := by decide +kernel
theorem dX11_readTold_0 : decode cX11_readTold 0 = .ok (.aload_n 0, 1) := by decide +kernel
theorem dX11_readTold_1 : decode cX11_readTold 1 = .ok (.iload_n 1, 1) := by decide +kernel
theorem dX11_readTold_2 : decode cX11_readTold 2 = .ok (.iload_n 2, 1) := by decide +kernel
theorem dX11_readTold_3 : decode cX11_readTold 3 = .ok (.invokevirtual 234, 3) := by decide +kernel
theorem dX11_readTold_6 : decode cX11_readTold 6 = .ok (.istore_n 3, 1) := by decide +kernel
theorem dX11_readTold_7 : decode cX11_readTold 7 = .ok (.aload_n 0, 1) := by decide +kernel
theorem dX11_readTold_8 : decode cX11_readTold 8 = .ok (.iconst 1, 1) := by decide +kernel
theorem dX11_readTold_9 : decode cX11_readTold 9 = .ok (.invokevirtual 211, 3) := by decide +kernel
theorem dX11_readTold_12 : decode cX11_readTold 12 = .ok (.iload_n 3, 1) := by decide +kernel
theorem dX11_readTold_13 : decode cX11_readTold 13 = .ok (.ireturn, 1) := by decide +kernel
theorem dX11_readOnce_0 : decode cX11_readOnce 0 = .ok (.iload_n 1, 1) := by decide +kernel
theorem dX11_readOnce_1 : decode cX11_readOnce 1 = .ok (.ifCond .ne 14, 3) := by decide +kernel
theorem dX11_readOnce_4 : decode cX11_readOnce 4 = .ok (.aload_n 0, 1) := by decide +kernel
theorem dX11_readOnce_5 : decode cX11_readOnce 5 = .ok (.getfield 237, 3) := by decide +kernel
theorem dX11_readOnce_8 : decode cX11_readOnce 8 = .ok (.ifCond .eq 7, 3) := by decide +kernel
theorem dX11_readOnce_11 : decode cX11_readOnce 11 = .ok (.aload_n 0, 1) := by decide +kernel
theorem dX11_readOnce_12 : decode cX11_readOnce 12 = .ok (.invokevirtual 208, 3) := by decide +kernel
theorem dX11_readOnce_15 : decode cX11_readOnce 15 = .ok (.aload_n 0, 1) := by decide +kernel
theorem dX11_readOnce_16 : decode cX11_readOnce 16 = .ok (.getfield 195, 3) := by decide +kernel
theorem dX11_readOnce_19 : decode cX11_readOnce 19 = .ok (.ifCond .ne 23, 3) := by decide +kernel
theorem dX11_readOnce_22 : decode cX11_readOnce 22 = .ok (.aload_n 0, 1) := by decide +kernel
theorem dX11_readOnce_23 : decode cX11_readOnce 23 = .ok (.getfield 241, 3) := by decide +kernel
theorem dX11_readOnce_26 : decode cX11_readOnce 26 = .ok (.iload_n 1, 1) := by decide +kernel
theorem dX11_readOnce_27 : decode cX11_readOnce 27 = .ok (.invokestatic 244, 3) := by decide +kernel
theorem dX11_readOnce_30 : decode cX11_readOnce 30 = .ok (.ifCond .eq 12, 3) := by decide +kernel
theorem dX11_readOnce_33 : decode cX11_readOnce 33 = .ok (.aload_n 0, 1) := by decide +kernel
theorem dX11_readOnce_34 : decode cX11_readOnce 34 = .ok (.iconst 5, 1) := by decide +kernel
theorem dX11_readOnce_35 : decode cX11_readOnce 35 = .ok (.aload_n 0, 1) := by decide +kernel
theorem dX11_readOnce_36 : decode cX11_readOnce 36 = .ok (.getfield 104, 3) := by decide +kernel
theorem dX11_readOnce_39 : decode cX11_readOnce 39 = .ok (.invokevirtual 201, 3) := by decide +kernel
theorem dX11_readOnce_42 : decode cX11_readOnce 42 = .ok (.aload_n 0, 1) := by decide +kernel
theorem dX11_readOnce_43 : decode cX11_readOnce 43 = .ok (.getfield 195, 3) := by decide +kernel
theorem dX11_readOnce_46 : decode cX11_readOnce 46 = .ok (.ifCond .le 4, 3) := by decide +kernel
theorem dX11_readOnce_49 : decode cX11_readOnce 49 = .ok (.return_, 1) := by decide +kernel
theorem dX11_readOnce_50 : decode cX11_readOnce 50 = .ok (.aload_n 0, 1) := by decide +kernel
theorem dX11_readOnce_51 : decode cX11_readOnce 51 = .ok (.dup, 1) := by decide +kernel
theorem dX11_readOnce_52 : decode cX11_readOnce 52 = .ok (.getfield 241, 3) := by decide +kernel
theorem dX11_readOnce_55 : decode cX11_readOnce 55 = .ok (.iconst 1, 1) := by decide +kernel
theorem dX11_readOnce_56 : decode cX11_readOnce 56 = .ok (.iload_n 1, 1) := by decide +kernel
theorem dX11_readOnce_57 : decode cX11_readOnce 57 = .ok (.ishl, 1) := by decide +kernel
theorem dX11_readOnce_58 : decode cX11_readOnce 58 = .ok (.ior, 1) := by decide +kernel
theorem dX11_readOnce_59 : decode cX11_readOnce 59 = .ok (.putfield 241, 3) := by decide +kernel
theorem dX11_readOnce_62 : decode cX11_readOnce 62 = .ok (.aload_n 0, 1) := by decide +kernel
theorem dX11_readOnce_63 : decode cX11_readOnce 63 = .ok (.invokevirtual 205, 3) := by decide +kernel
theorem dX11_readOnce_66 : decode cX11_readOnce 66 = .ok (.aload_n 0, 1) := by decide +kernel
theorem dX11_readOnce_67 : decode cX11_readOnce 67 = .ok (.getfield 35, 3) := by decide +kernel
theorem dX11_readOnce_70 : decode cX11_readOnce 70 = .ok (.sipush 1768, 3) := by decide +kernel
theorem dX11_readOnce_73 : decode cX11_readOnce 73 = .ok (.iload_n 2, 1) := by decide +kernel
theorem dX11_readOnce_74 : decode cX11_readOnce 74 = .ok (.iadd, 1) := by decide +kernel
theorem dX11_readOnce_75 : decode cX11_readOnce 75 = .ok (.aload_n 0, 1) := by decide +kernel
theorem dX11_readOnce_76 : decode cX11_readOnce 76 = .ok (.iload_n 3, 1) := by decide +kernel
theorem dX11_readOnce_77 : decode cX11_readOnce 77 = .ok (.iload 4, 2) := by decide +kernel
theorem dX11_readOnce_79 : decode cX11_readOnce 79 = .ok (.invokevirtual 215, 3) := by decide +kernel
theorem dX11_readOnce_82 : decode cX11_readOnce 82 = .ok (.iastore, 1) := by decide +kernel
theorem dX11_readOnce_83 : decode cX11_readOnce 83 = .ok (.return_, 1) := by decide +kernel
theorem dX11_readSuit_0 : decode cX11_readSuit 0 = .ok (.aload_n 0, 1) := by decide +kernel
theorem dX11_readSuit_1 : decode cX11_readSuit 1 = .ok (.iconst 0, 1) := by decide +kernel
theorem dX11_readSuit_2 : decode cX11_readSuit 2 = .ok (.iconst 4, 1) := by decide +kernel
theorem dX11_readSuit_3 : decode cX11_readSuit 3 = .ok (.invokevirtual 248, 3) := by decide +kernel
theorem dX11_readSuit_6 : decode cX11_readSuit 6 = .ok (.istore_n 1, 1) := by decide +kernel
theorem dX11_readSuit_7 : decode cX11_readSuit 7 = .ok (.aload_n 0, 1) := by decide +kernel
theorem dX11_readSuit_8 : decode cX11_readSuit 8 = .ok (.getfield 195, 3) := by decide +kernel
theorem dX11_readSuit_11 : decode cX11_readSuit 11 = .ok (.ifCond .ne 28, 3) := by decide +kernel
theorem dX11_readSuit_14 : decode cX11_readSuit 14 = .ok (.aload_n 0, 1) := by decide +kernel
theorem dX11_readSuit_15 : decode cX11_readSuit 15 = .ok (.invokevirtual 155, 3) := by decide +kernel
theorem dX11_readSuit_18 : decode cX11_readSuit 18 = .ok (.ifCond .eq 21, 3) := by decide +kernel
theorem dX11_readSuit_21 : decode cX11_readSuit 21 = .ok (.aload_n 0, 1) := by decide +kernel
theorem dX11_readSuit_22 : decode cX11_readSuit 22 = .ok (.invokevirtual 205, 3) := by decide +kernel
theorem dX11_readSuit_25 : decode cX11_readSuit 25 = .ok (.aload_n 0, 1) := by decide +kernel
theorem dX11_readSuit_26 : decode cX11_readSuit 26 = .ok (.getfield 35, 3) := by decide +kernel
theorem dX11_readSuit_29 : decode cX11_readSuit 29 = .ok (.sipush 1775, 3) := by decide +kernel
theorem dX11_readSuit_32 : decode cX11_readSuit 32 = .ok (.dup2, 1) := by decide +kernel
theorem dX11_readSuit_33 : decode cX11_readSuit 33 = .ok (.iaload, 1) := by decide +kernel
theorem dX11_readSuit_34 : decode cX11_readSuit 34 = .ok (.iconst 1, 1) := by decide +kernel
theorem dX11_readSuit_35 : decode cX11_readSuit 35 = .ok (.iload_n 1, 1) := by decide +kernel
theorem dX11_readSuit_36 : decode cX11_readSuit 36 = .ok (.ishl, 1) := by decide +kernel
theorem dX11_readSuit_37 : decode cX11_readSuit 37 = .ok (.ior, 1) := by decide +kernel
theorem dX11_readSuit_38 : decode cX11_readSuit 38 = .ok (.iastore, 1) := by decide +kernel
theorem dX11_readSuit_39 : decode cX11_readSuit 39 = .ok (.aload_n 0, 1) := by decide +kernel
theorem dX11_readSuit_40 : decode cX11_readSuit 40 = .ok (.getfield 195, 3) := by decide +kernel
theorem dX11_readSuit_43 : decode cX11_readSuit 43 = .ok (.ifCond .ne 15, 3) := by decide +kernel
theorem dX11_readSuit_46 : decode cX11_readSuit 46 = .ok (.aload_n 0, 1) := by decide +kernel
theorem dX11_readSuit_47 : decode cX11_readSuit 47 = .ok (.getfield 35, 3) := by decide +kernel
theorem dX11_readSuit_50 : decode cX11_readSuit 50 = .ok (.sipush 1769, 3) := by decide +kernel
theorem dX11_readSuit_53 : decode cX11_readSuit 53 = .ok (.dup2, 1) := by decide +kernel
theorem dX11_readSuit_54 : decode cX11_readSuit 54 = .ok (.iaload, 1) := by decide +kernel
theorem dX11_readSuit_55 : decode cX11_readSuit 55 = .ok (.iconst 1, 1) := by decide +kernel
theorem dX11_readSuit_56 : decode cX11_readSuit 56 = .ok (.iadd, 1) := by decide +kernel
theorem dX11_readSuit_57 : decode cX11_readSuit 57 = .ok (.iastore, 1) := by decide +kernel
theorem dX11_readSuit_58 : decode cX11_readSuit 58 = .ok (.return_, 1) := by decide +kernel
theorem dX11_readCards_0 : decode cX11_readCards 0 = .ok (.iconst 0, 1) := by decide +kernel
theorem dX11_readCards_1 : decode cX11_readCards 1 = .ok (.istore_n 3, 1) := by decide +kernel
theorem dX11_readCards_2 : decode cX11_readCards 2 = .ok (.aload_n 0, 1) := by decide +kernel
theorem dX11_readCards_3 : decode cX11_readCards 3 = .ok (.iconst 1, 1) := by decide +kernel
theorem dX11_readCards_4 : decode cX11_readCards 4 = .ok (.putfield 237, 3) := by decide +kernel
theorem dX11_readCards_7 : decode cX11_readCards 7 = .ok (.aload_n 0, 1) := by decide +kernel
theorem dX11_readCards_8 : decode cX11_readCards 8 = .ok (.getfield 195, 3) := by decide +kernel
theorem dX11_readCards_11 : decode cX11_readCards 11 = .ok (.ifCond .ne 139, 3) := by decide +kernel
theorem dX11_readCards_14 : decode cX11_readCards 14 = .ok (.aload_n 0, 1) := by decide +kernel
theorem dX11_readCards_15 : decode cX11_readCards 15 = .ok (.getfield 110, 3) := by decide +kernel
theorem dX11_readCards_18 : decode cX11_readCards 18 = .ok (.iconst 1, 1) := by decide +kernel
theorem dX11_readCards_19 : decode cX11_readCards 19 = .ok (.if_icmp .ne 131, 3) := by decide +kernel
theorem dX11_readCards_22 : decode cX11_readCards 22 = .ok (.aload_n 0, 1) := by decide +kernel
theorem dX11_readCards_23 : decode cX11_readCards 23 = .ok (.iconst 4, 1) := by decide +kernel
theorem dX11_readCards_24 : decode cX11_readCards 24 = .ok (.iconst 0, 1) := by decide +kernel
theorem dX11_readCards_25 : decode cX11_readCards 25 = .ok (.invokevirtual 234, 3) := by decide +kernel
theorem dX11_readCards_28 : decode cX11_readCards 28 = .ok (.istore 4, 2) := by decide +kernel
theorem dX11_readCards_30 : decode cX11_readCards 30 = .ok (.aload_n 0, 1) := by decide +kernel
theorem dX11_readCards_31 : decode cX11_readCards 31 = .ok (.getfield 195, 3) := by decide +kernel
theorem dX11_readCards_34 : decode cX11_readCards 34 = .ok (.ifCond .ne 18, 3) := by decide +kernel
theorem dX11_readCards_37 : decode cX11_readCards 37 = .ok (.iload_n 3, 1) := by decide +kernel
theorem dX11_readCards_38 : decode cX11_readCards 38 = .ok (.iload_n 2, 1) := by decide +kernel
theorem dX11_readCards_39 : decode cX11_readCards 39 = .ok (.if_icmp .ne 13, 3) := by decide +kernel
theorem dX11_readCards_42 : decode cX11_readCards 42 = .ok (.aload_n 0, 1) := by decide +kernel
theorem dX11_readCards_43 : decode cX11_readCards 43 = .ok (.bipush 6, 2) := by decide +kernel
theorem dX11_readCards_45 : decode cX11_readCards 45 = .ok (.aload_n 0, 1) := by decide +kernel
theorem dX11_readCards_46 : decode cX11_readCards 46 = .ok (.getfield 104, 3) := by decide +kernel
theorem dX11_readCards_49 : decode cX11_readCards 49 = .ok (.invokevirtual 201, 3) := by decide +kernel
theorem dX11_readCards_52 : decode cX11_readCards 52 = .ok (.aload_n 0, 1) := by decide +kernel
theorem dX11_readCards_53 : decode cX11_readCards 53 = .ok (.iconst 1, 1) := by decide +kernel
theorem dX11_readCards_54 : decode cX11_readCards 54 = .ok (.invokevirtual 211, 3) := by decide +kernel
theorem dX11_readCards_57 : decode cX11_readCards 57 = .ok (.aload_n 0, 1) := by decide +kernel
theorem dX11_readCards_58 : decode cX11_readCards 58 = .ok (.getfield 104, 3) := by decide +kernel
theorem dX11_readCards_61 : decode cX11_readCards 61 = .ok (.istore 5, 2) := by decide +kernel
theorem dX11_readCards_63 : decode cX11_readCards 63 = .ok (.bipush 6, 2) := by decide +kernel
theorem dX11_readCards_65 : decode cX11_readCards 65 = .ok (.iload 4, 2) := by decide +kernel
theorem dX11_readCards_67 : decode cX11_readCards 67 = .ok (.imul, 1) := by decide +kernel
theorem dX11_readCards_68 : decode cX11_readCards 68 = .ok (.aload_n 0, 1) := by decide +kernel
theorem dX11_readCards_69 : decode cX11_readCards 69 = .ok (.iconst 1, 1) := by decide +kernel
theorem dX11_readCards_70 : decode cX11_readCards 70 = .ok (.aload_n 0, 1) := by decide +kernel
theorem dX11_readCards_71 : decode cX11_readCards 71 = .ok (.getfield 35, 3) := by decide +kernel
theorem dX11_readCards_74 : decode cX11_readCards 74 = .ok (.sipush 1768, 3) := by decide +kernel
theorem dX11_readCards_77 : decode cX11_readCards 77 = .ok (.iaload, 1) := by decide +kernel
theorem dX11_readCards_78 : decode cX11_readCards 78 = .ok (.invokevirtual 215, 3) := by decide +kernel
theorem dX11_readCards_81 : decode cX11_readCards 81 = .ok (.iadd, 1) := by decide +kernel
theorem dX11_readCards_82 : decode cX11_readCards 82 = .ok (.iconst 1, 1) := by decide +kernel
theorem dX11_readCards_83 : decode cX11_readCards 83 = .ok (.isub, 1) := by decide +kernel
theorem dX11_readCards_84 : decode cX11_readCards 84 = .ok (.istore 6, 2) := by decide +kernel
theorem dX11_readCards_86 : decode cX11_readCards 86 = .ok (.aload_n 0, 1) := by decide +kernel
theorem dX11_readCards_87 : decode cX11_readCards 87 = .ok (.getfield 195, 3) := by decide +kernel
theorem dX11_readCards_90 : decode cX11_readCards 90 = .ok (.ifCond .ne 22, 3) := by decide +kernel
theorem dX11_readCards_93 : decode cX11_readCards 93 = .ok (.aload_n 0, 1) := by decide +kernel
theorem dX11_readCards_94 : decode cX11_readCards 94 = .ok (.getfield 251, 3) := by decide +kernel
theorem dX11_readCards_97 : decode cX11_readCards 97 = .ok (.iload 6, 2) := by decide +kernel
theorem dX11_readCards_99 : decode cX11_readCards 99 = .ok (.invokestatic 244, 3) := by decide +kernel
theorem dX11_readCards_102 : decode cX11_readCards 102 = .ok (.ifCond .eq 10, 3) := by decide +kernel
theorem dX11_readCards_105 : decode cX11_readCards 105 = .ok (.aload_n 0, 1) := by decide +kernel
theorem dX11_readCards_106 : decode cX11_readCards 106 = .ok (.iconst 5, 1) := by decide +kernel
theorem dX11_readCards_107 : decode cX11_readCards 107 = .ok (.iload 5, 2) := by decide +kernel
theorem dX11_readCards_109 : decode cX11_readCards 109 = .ok (.invokevirtual 201, 3) := by decide +kernel
theorem dX11_readCards_112 : decode cX11_readCards 112 = .ok (.aload_n 0, 1) := by decide +kernel
theorem dX11_readCards_113 : decode cX11_readCards 113 = .ok (.getfield 195, 3) := by decide +kernel
theorem dX11_readCards_116 : decode cX11_readCards 116 = .ok (.ifCond .le 5, 3) := by decide +kernel
theorem dX11_readCards_119 : decode cX11_readCards 119 = .ok (.iconst 0, 1) := by decide +kernel
theorem dX11_readCards_120 : decode cX11_readCards 120 = .ok (.ireturn, 1) := by decide +kernel
theorem dX11_readCards_121 : decode cX11_readCards 121 = .ok (.aload_n 0, 1) := by decide +kernel
theorem dX11_readCards_122 : decode cX11_readCards 122 = .ok (.dup, 1) := by decide +kernel
theorem dX11_readCards_123 : decode cX11_readCards 123 = .ok (.getfield 251, 3) := by decide +kernel
theorem dX11_readCards_126 : decode cX11_readCards 126 = .ok (.iconst 1, 1) := by decide +kernel
theorem dX11_readCards_127 : decode cX11_readCards 127 = .ok (.iload 6, 2) := by decide +kernel
theorem dX11_readCards_129 : decode cX11_readCards 129 = .ok (.ishl, 1) := by decide +kernel
theorem dX11_readCards_130 : decode cX11_readCards 130 = .ok (.ior, 1) := by decide +kernel
theorem dX11_readCards_131 : decode cX11_readCards 131 = .ok (.putfield 251, 3) := by decide +kernel
theorem dX11_readCards_134 : decode cX11_readCards 134 = .ok (.aload_n 0, 1) := by decide +kernel
theorem dX11_readCards_135 : decode cX11_readCards 135 = .ok (.getfield 35, 3) := by decide +kernel
theorem dX11_readCards_138 : decode cX11_readCards 138 = .ok (.iload_n 1, 1) := by decide +kernel
theorem dX11_readCards_139 : decode cX11_readCards 139 = .ok (.iload_n 3, 1) := by decide +kernel
theorem dX11_readCards_140 : decode cX11_readCards 140 = .ok (.iadd, 1) := by decide +kernel
theorem dX11_readCards_141 : decode cX11_readCards 141 = .ok (.iload 6, 2) := by decide +kernel
theorem dX11_readCards_143 : decode cX11_readCards 143 = .ok (.iastore, 1) := by decide +kernel
theorem dX11_readCards_144 : decode cX11_readCards 144 = .ok (.iinc 3 1, 3) := by decide +kernel
theorem dX11_readCards_147 : decode cX11_readCards 147 = .ok (.goto (-140), 3) := by decide +kernel
theorem dX11_readCards_150 : decode cX11_readCards 150 = .ok (.iload_n 3, 1) := by decide +kernel
theorem dX11_readCards_151 : decode cX11_readCards 151 = .ok (.ireturn, 1) := by decide +kernel
theorem dX11_readRow_0 : decode cX11_readRow 0 = .ok (.aload_n 0, 1) := by decide +kernel
theorem dX11_readRow_1 : decode cX11_readRow 1 = .ok (.getfield 35, 3) := by decide +kernel
theorem dX11_readRow_4 : decode cX11_readRow 4 = .ok (.sipush 1772, 3) := by decide +kernel
theorem dX11_readRow_7 : decode cX11_readRow 7 = .ok (.iaload, 1) := by decide +kernel
theorem dX11_readRow_8 : decode cX11_readRow 8 = .ok (.istore_n 1, 1) := by decide +kernel
theorem dX11_readRow_9 : decode cX11_readRow 9 = .ok (.iload_n 1, 1) := by decide +kernel
theorem dX11_readRow_10 : decode cX11_readRow 10 = .ok (.bipush 6, 2) := by decide +kernel
theorem dX11_readRow_12 : decode cX11_readRow 12 = .ok (.if_icmp .ne 13, 3) := by decide +kernel
theorem dX11_readRow_15 : decode cX11_readRow 15 = .ok (.aload_n 0, 1) := by decide +kernel
theorem dX11_readRow_16 : decode cX11_readRow 16 = .ok (.bipush 6, 2) := by decide +kernel
theorem dX11_readRow_18 : decode cX11_readRow 18 = .ok (.aload_n 0, 1) := by decide +kernel
theorem dX11_readRow_19 : decode cX11_readRow 19 = .ok (.getfield 104, 3) := by decide +kernel
theorem dX11_readRow_22 : decode cX11_readRow 22 = .ok (.invokevirtual 201, 3) := by decide +kernel
theorem dX11_readRow_25 : decode cX11_readRow 25 = .ok (.aload_n 0, 1) := by decide +kernel
theorem dX11_readRow_26 : decode cX11_readRow 26 = .ok (.getfield 195, 3) := by decide +kernel
theorem dX11_readRow_29 : decode cX11_readRow 29 = .ok (.ifCond .le 4, 3) := by decide +kernel
theorem dX11_readRow_32 : decode cX11_readRow 32 = .ok (.return_, 1) := by decide +kernel
theorem dX11_readRow_33 : decode cX11_readRow 33 = .ok (.aload_n 0, 1) := by decide +kernel
theorem dX11_readRow_34 : decode cX11_readRow 34 = .ok (.invokevirtual 205, 3) := by decide +kernel
theorem dX11_readRow_37 : decode cX11_readRow 37 = .ok (.aload_n 0, 1) := by decide +kernel
theorem dX11_readRow_38 : decode cX11_readRow 38 = .ok (.getfield 35, 3) := by decide +kernel
theorem dX11_readRow_41 : decode cX11_readRow 41 = .ok (.sipush 1782, 3) := by decide +kernel
theorem dX11_readRow_44 : decode cX11_readRow 44 = .ok (.iload_n 1, 1) := by decide +kernel
theorem dX11_readRow_45 : decode cX11_readRow 45 = .ok (.iadd, 1) := by decide +kernel
theorem dX11_readRow_46 : decode cX11_readRow 46 = .ok (.aload_n 0, 1) := by decide +kernel
theorem dX11_readRow_47 : decode cX11_readRow 47 = .ok (.sipush 1788, 3) := by decide +kernel
theorem dX11_readRow_50 : decode cX11_readRow 50 = .ok (.bipush 12, 2) := by decide +kernel
theorem dX11_readRow_52 : decode cX11_readRow 52 = .ok (.iload_n 1, 1) := by decide +kernel
theorem dX11_readRow_53 : decode cX11_readRow 53 = .ok (.imul, 1) := by decide +kernel
theorem dX11_readRow_54 : decode cX11_readRow 54 = .ok (.iadd, 1) := by decide +kernel
theorem dX11_readRow_55 : decode cX11_readRow 55 = .ok (.bipush 12, 2) := by decide +kernel
theorem dX11_readRow_57 : decode cX11_readRow 57 = .ok (.invokevirtual 254, 3) := by decide +kernel
theorem dX11_readRow_60 : decode cX11_readRow 60 = .ok (.iastore, 1) := by decide +kernel
theorem dX11_readRow_61 : decode cX11_readRow 61 = .ok (.aload_n 0, 1) := by decide +kernel
theorem dX11_readRow_62 : decode cX11_readRow 62 = .ok (.getfield 195, 3) := by decide +kernel
theorem dX11_readRow_65 : decode cX11_readRow 65 = .ok (.ifCond .ne 15, 3) := by decide +kernel
theorem dX11_readRow_68 : decode cX11_readRow 68 = .ok (.aload_n 0, 1) := by decide +kernel
theorem dX11_readRow_69 : decode cX11_readRow 69 = .ok (.getfield 35, 3) := by decide +kernel
theorem dX11_readRow_72 : decode cX11_readRow 72 = .ok (.sipush 1772, 3) := by decide +kernel
theorem dX11_readRow_75 : decode cX11_readRow 75 = .ok (.dup2, 1) := by decide +kernel
theorem dX11_readRow_76 : decode cX11_readRow 76 = .ok (.iaload, 1) := by decide +kernel
theorem dX11_readRow_77 : decode cX11_readRow 77 = .ok (.iconst 1, 1) := by decide +kernel
theorem dX11_readRow_78 : decode cX11_readRow 78 = .ok (.iadd, 1) := by decide +kernel
theorem dX11_readRow_79 : decode cX11_readRow 79 = .ok (.iastore, 1) := by decide +kernel
theorem dX11_readRow_80 : decode cX11_readRow 80 = .ok (.return_, 1) := by decide +kernel
theorem dX11_readStock_0 : decode cX11_readStock 0 = .ok (.aload_n 0, 1) := by decide +kernel
theorem dX11_readStock_1 : decode cX11_readStock 1 = .ok (.invokevirtual 205, 3) := by decide +kernel
theorem dX11_readStock_4 : decode cX11_readStock 4 = .ok (.aload_n 0, 1) := by decide +kernel
theorem dX11_readStock_5 : decode cX11_readStock 5 = .ok (.getfield 35, 3) := by decide +kernel
theorem dX11_readStock_8 : decode cX11_readStock 8 = .ok (.sipush 1776, 3) := by decide +kernel
theorem dX11_readStock_11 : decode cX11_readStock 11 = .ok (.dup2, 1) := by decide +kernel
theorem dX11_readStock_12 : decode cX11_readStock 12 = .ok (.iaload, 1) := by decide +kernel
theorem dX11_readStock_13 : decode cX11_readStock 13 = .ok (.aload_n 0, 1) := by decide +kernel
theorem dX11_readStock_14 : decode cX11_readStock 14 = .ok (.sipush 1860, 3) := by decide +kernel
theorem dX11_readStock_17 : decode cX11_readStock 17 = .ok (.aload_n 0, 1) := by decide +kernel
theorem dX11_readStock_18 : decode cX11_readStock 18 = .ok (.getfield 35, 3) := by decide +kernel
theorem dX11_readStock_21 : decode cX11_readStock 21 = .ok (.sipush 1776, 3) := by decide +kernel
theorem dX11_readStock_24 : decode cX11_readStock 24 = .ok (.iaload, 1) := by decide +kernel
theorem dX11_readStock_25 : decode cX11_readStock 25 = .ok (.iadd, 1) := by decide +kernel
theorem dX11_readStock_26 : decode cX11_readStock 26 = .ok (.bipush 25, 2) := by decide +kernel
theorem dX11_readStock_28 : decode cX11_readStock 28 = .ok (.invokevirtual 254, 3) := by decide +kernel
theorem dX11_readStock_31 : decode cX11_readStock 31 = .ok (.iadd, 1) := by decide +kernel
theorem dX11_readStock_32 : decode cX11_readStock 32 = .ok (.iastore, 1) := by decide +kernel
theorem dX11_readStock_33 : decode cX11_readStock 33 = .ok (.return_, 1) := by decide +kernel
theorem dX11_readField_0 : decode cX11_readField 0 = .ok (.aload_n 0, 1) := by decide +kernel
theorem dX11_readField_1 : decode cX11_readField 1 = .ok (.iconst 1, 1) := by decide +kernel
theorem dX11_readField_2 : decode cX11_readField 2 = .ok (.bipush 6, 2) := by decide +kernel
theorem dX11_readField_4 : decode cX11_readField 4 = .ok (.invokevirtual 248, 3) := by decide +kernel
theorem dX11_readField_7 : decode cX11_readField 7 = .ok (.istore_n 1, 1) := by decide +kernel
theorem dX11_readField_8 : decode cX11_readField 8 = .ok (.aload_n 0, 1) := by decide +kernel
theorem dX11_readField_9 : decode cX11_readField 9 = .ok (.aload_n 0, 1) := by decide +kernel
theorem dX11_readField_10 : decode cX11_readField 10 = .ok (.invokevirtual 173, 3) := by decide +kernel
theorem dX11_readField_13 : decode cX11_readField 13 = .ok (.invokevirtual 211, 3) := by decide +kernel
theorem dX11_readField_16 : decode cX11_readField 16 = .ok (.sipush 1908, 3) := by decide +kernel
theorem dX11_readField_19 : decode cX11_readField 19 = .ok (.iload_n 1, 1) := by decide +kernel
theorem dX11_readField_20 : decode cX11_readField 20 = .ok (.iadd, 1) := by decide +kernel
theorem dX11_readField_21 : decode cX11_readField 21 = .ok (.istore_n 2, 1) := by decide +kernel
theorem dX11_readField_22 : decode cX11_readField 22 = .ok (.aload_n 0, 1) := by decide +kernel
theorem dX11_readField_23 : decode cX11_readField 23 = .ok (.getfield 35, 3) := by decide +kernel
theorem dX11_readField_26 : decode cX11_readField 26 = .ok (.iload_n 2, 1) := by decide +kernel
theorem dX11_readField_27 : decode cX11_readField 27 = .ok (.aload_n 0, 1) := by decide +kernel
theorem dX11_readField_28 : decode cX11_readField 28 = .ok (.iconst 4, 1) := by decide +kernel
theorem dX11_readField_29 : decode cX11_readField 29 = .ok (.iconst 0, 1) := by decide +kernel
theorem dX11_readField_30 : decode cX11_readField 30 = .ok (.invokevirtual 257, 3) := by decide +kernel
theorem dX11_readField_33 : decode cX11_readField 33 = .ok (.iastore, 1) := by decide +kernel
theorem dX11_readField_34 : decode cX11_readField 34 = .ok (.aload_n 0, 1) := by decide +kernel
theorem dX11_readField_35 : decode cX11_readField 35 = .ok (.getfield 35, 3) := by decide +kernel
theorem dX11_readField_38 : decode cX11_readField 38 = .ok (.iload_n 2, 1) := by decide +kernel
theorem dX11_readField_39 : decode cX11_readField 39 = .ok (.bipush 6, 2) := by decide +kernel
theorem dX11_readField_41 : decode cX11_readField 41 = .ok (.iadd, 1) := by decide +kernel
theorem dX11_readField_42 : decode cX11_readField 42 = .ok (.aload_n 0, 1) := by decide +kernel
theorem dX11_readField_43 : decode cX11_readField 43 = .ok (.aload_n 0, 1) := by decide +kernel
theorem dX11_readField_44 : decode cX11_readField 44 = .ok (.invokevirtual 176, 3) := by decide +kernel
theorem dX11_readField_47 : decode cX11_readField 47 = .ok (.iconst 0, 1) := by decide +kernel
theorem dX11_readField_48 : decode cX11_readField 48 = .ok (.bipush 20, 2) := by decide +kernel
theorem dX11_readField_50 : decode cX11_readField 50 = .ok (.invokevirtual 260, 3) := by decide +kernel
theorem dX11_readField_53 : decode cX11_readField 53 = .ok (.iastore, 1) := by decide +kernel
theorem dX11_readField_54 : decode cX11_readField 54 = .ok (.aload_n 0, 1) := by decide +kernel
theorem dX11_readField_55 : decode cX11_readField 55 = .ok (.getfield 35, 3) := by decide +kernel
theorem dX11_readField_58 : decode cX11_readField 58 = .ok (.iload_n 2, 1) := by decide +kernel
theorem dX11_readField_59 : decode cX11_readField 59 = .ok (.bipush 12, 2) := by decide +kernel
theorem dX11_readField_61 : decode cX11_readField 61 = .ok (.iadd, 1) := by decide +kernel
theorem dX11_readField_62 : decode cX11_readField 62 = .ok (.bipush 10, 2) := by decide +kernel
theorem dX11_readField_64 : decode cX11_readField 64 = .ok (.iastore, 1) := by decide +kernel
theorem dX11_readField_65 : decode cX11_readField 65 = .ok (.aload_n 0, 1) := by decide +kernel
theorem dX11_readField_66 : decode cX11_readField 66 = .ok (.getfield 35, 3) := by decide +kernel
theorem dX11_readField_69 : decode cX11_readField 69 = .ok (.iload_n 2, 1) := by decide +kernel
theorem dX11_readField_70 : decode cX11_readField 70 = .ok (.bipush 18, 2) := by decide +kernel
theorem dX11_readField_72 : decode cX11_readField 72 = .ok (.iadd, 1) := by decide +kernel
theorem dX11_readField_73 : decode cX11_readField 73 = .ok (.bipush 99, 2) := by decide +kernel
theorem dX11_readField_75 : decode cX11_readField 75 = .ok (.iastore, 1) := by decide +kernel
theorem dX11_readField_76 : decode cX11_readField 76 = .ok (.aload_n 0, 1) := by decide +kernel
theorem dX11_readField_77 : decode cX11_readField 77 = .ok (.getfield 195, 3) := by decide +kernel
theorem dX11_readField_80 : decode cX11_readField 80 = .ok (.ifCond .ne 27, 3) := by decide +kernel
theorem dX11_readField_83 : decode cX11_readField 83 = .ok (.aload_n 0, 1) := by decide +kernel
theorem dX11_readField_84 : decode cX11_readField 84 = .ok (.invokevirtual 145, 3) := by decide +kernel
theorem dX11_readField_87 : decode cX11_readField 87 = .ok (.ifCond .eq 20, 3) := by decide +kernel
theorem dX11_readField_90 : decode cX11_readField 90 = .ok (.aload_n 0, 1) := by decide +kernel
theorem dX11_readField_91 : decode cX11_readField 91 = .ok (.getfield 35, 3) := by decide +kernel
theorem dX11_readField_94 : decode cX11_readField 94 = .ok (.iload_n 2, 1) := by decide +kernel
theorem dX11_readField_95 : decode cX11_readField 95 = .ok (.bipush 12, 2) := by decide +kernel
theorem dX11_readField_97 : decode cX11_readField 97 = .ok (.iadd, 1) := by decide +kernel
theorem dX11_readField_98 : decode cX11_readField 98 = .ok (.aload_n 0, 1) := by decide +kernel
theorem dX11_readField_99 : decode cX11_readField 99 = .ok (.iconst 1, 1) := by decide +kernel
theorem dX11_readField_100 : decode cX11_readField 100 = .ok (.iconst 0, 1) := by decide +kernel
theorem dX11_readField_101 : decode cX11_readField 101 = .ok (.bipush 99, 2) := by decide +kernel
theorem dX11_readField_103 : decode cX11_readField 103 = .ok (.invokevirtual 260, 3) := by decide +kernel
theorem dX11_readField_106 : decode cX11_readField 106 = .ok (.iastore, 1) := by decide +kernel
theorem dX11_readField_107 : decode cX11_readField 107 = .ok (.aload_n 0, 1) := by decide +kernel
theorem dX11_readField_108 : decode cX11_readField 108 = .ok (.getfield 195, 3) := by decide +kernel
theorem dX11_readField_111 : decode cX11_readField 111 = .ok (.ifCond .ne 27, 3) := by decide +kernel
theorem dX11_readField_114 : decode cX11_readField 114 = .ok (.aload_n 0, 1) := by decide +kernel
theorem dX11_readField_115 : decode cX11_readField 115 = .ok (.invokevirtual 179, 3) := by decide +kernel
theorem dX11_readField_118 : decode cX11_readField 118 = .ok (.ifCond .eq 20, 3) := by decide +kernel
theorem dX11_readField_121 : decode cX11_readField 121 = .ok (.aload_n 0, 1) := by decide +kernel
theorem dX11_readField_122 : decode cX11_readField 122 = .ok (.getfield 35, 3) := by decide +kernel
theorem dX11_readField_125 : decode cX11_readField 125 = .ok (.iload_n 2, 1) := by decide +kernel
theorem dX11_readField_126 : decode cX11_readField 126 = .ok (.bipush 18, 2) := by decide +kernel
theorem dX11_readField_128 : decode cX11_readField 128 = .ok (.iadd, 1) := by decide +kernel
theorem dX11_readField_129 : decode cX11_readField 129 = .ok (.aload_n 0, 1) := by decide +kernel
theorem dX11_readField_130 : decode cX11_readField 130 = .ok (.iconst 1, 1) := by decide +kernel
theorem dX11_readField_131 : decode cX11_readField 131 = .ok (.iconst 1, 1) := by decide +kernel
theorem dX11_readField_132 : decode cX11_readField 132 = .ok (.bipush 99, 2) := by decide +kernel
theorem dX11_readField_134 : decode cX11_readField 134 = .ok (.invokevirtual 260, 3) := by decide +kernel
theorem dX11_readField_137 : decode cX11_readField 137 = .ok (.iastore, 1) := by decide +kernel
theorem dX11_readField_138 : decode cX11_readField 138 = .ok (.aload_n 0, 1) := by decide +kernel
theorem dX11_readField_139 : decode cX11_readField 139 = .ok (.getfield 195, 3) := by decide +kernel
theorem dX11_readField_142 : decode cX11_readField 142 = .ok (.ifCond .ne 15, 3) := by decide +kernel
theorem dX11_readField_145 : decode cX11_readField 145 = .ok (.aload_n 0, 1) := by decide +kernel
theorem dX11_readField_146 : decode cX11_readField 146 = .ok (.getfield 35, 3) := by decide +kernel
theorem dX11_readField_149 : decode cX11_readField 149 = .ok (.sipush 1773, 3) := by decide +kernel
theorem dX11_readField_152 : decode cX11_readField 152 = .ok (.dup2, 1) := by decide +kernel
theorem dX11_readField_153 : decode cX11_readField 153 = .ok (.iaload, 1) := by decide +kernel
theorem dX11_readField_154 : decode cX11_readField 154 = .ok (.iconst 1, 1) := by decide +kernel
theorem dX11_readField_155 : decode cX11_readField 155 = .ok (.iadd, 1) := by decide +kernel
theorem dX11_readField_156 : decode cX11_readField 156 = .ok (.iastore, 1) := by decide +kernel
theorem dX11_readField_157 : decode cX11_readField 157 = .ok (.return_, 1) := by decide +kernel
theorem dX11_readPart_0 : decode cX11_readPart 0 = .ok (.aload_n 0, 1) := by decide +kernel
theorem dX11_readPart_1 : decode cX11_readPart 1 = .ok (.invokevirtual 149, 3) := by decide +kernel
theorem dX11_readPart_4 : decode cX11_readPart 4 = .ok (.ifCond .eq 15, 3) := by decide +kernel
theorem dX11_readPart_7 : decode cX11_readPart 7 = .ok (.aload_n 0, 1) := by decide +kernel
theorem dX11_readPart_8 : decode cX11_readPart 8 = .ok (.iconst 0, 1) := by decide +kernel
theorem dX11_readPart_9 : decode cX11_readPart 9 = .ok (.iconst 0, 1) := by decide +kernel
theorem dX11_readPart_10 : decode cX11_readPart 10 = .ok (.iconst 1, 1) := by decide +kernel
theorem dX11_readPart_11 : decode cX11_readPart 11 = .ok (.bipush 6, 2) := by decide +kernel
theorem dX11_readPart_13 : decode cX11_readPart 13 = .ok (.invokevirtual 264, 3) := by decide +kernel
theorem dX11_readPart_16 : decode cX11_readPart 16 = .ok (.goto 100, 3) := by decide +kernel
theorem dX11_readPart_19 : decode cX11_readPart 19 = .ok (.aload_n 0, 1) := by decide +kernel
theorem dX11_readPart_20 : decode cX11_readPart 20 = .ok (.invokevirtual 158, 3) := by decide +kernel
theorem dX11_readPart_23 : decode cX11_readPart 23 = .ok (.ifCond .eq 14, 3) := by decide +kernel
theorem dX11_readPart_26 : decode cX11_readPart 26 = .ok (.aload_n 0, 1) := by decide +kernel
theorem dX11_readPart_27 : decode cX11_readPart 27 = .ok (.iconst 1, 1) := by decide +kernel
theorem dX11_readPart_28 : decode cX11_readPart 28 = .ok (.iconst 2, 1) := by decide +kernel
theorem dX11_readPart_29 : decode cX11_readPart 29 = .ok (.iconst 0, 1) := by decide +kernel
theorem dX11_readPart_30 : decode cX11_readPart 30 = .ok (.iconst 2, 1) := by decide +kernel
theorem dX11_readPart_31 : decode cX11_readPart 31 = .ok (.invokevirtual 264, 3) := by decide +kernel
theorem dX11_readPart_34 : decode cX11_readPart 34 = .ok (.goto 82, 3) := by decide +kernel
theorem dX11_readPart_37 : decode cX11_readPart 37 = .ok (.aload_n 0, 1) := by decide +kernel
theorem dX11_readPart_38 : decode cX11_readPart 38 = .ok (.invokevirtual 161, 3) := by decide +kernel
theorem dX11_readPart_41 : decode cX11_readPart 41 = .ok (.ifCond .eq 15, 3) := by decide +kernel
theorem dX11_readPart_44 : decode cX11_readPart 44 = .ok (.aload_n 0, 1) := by decide +kernel
theorem dX11_readPart_45 : decode cX11_readPart 45 = .ok (.iconst 2, 1) := by decide +kernel
theorem dX11_readPart_46 : decode cX11_readPart 46 = .ok (.iconst 3, 1) := by decide +kernel
theorem dX11_readPart_47 : decode cX11_readPart 47 = .ok (.iconst 0, 1) := by decide +kernel
theorem dX11_readPart_48 : decode cX11_readPart 48 = .ok (.bipush 9, 2) := by decide +kernel
theorem dX11_readPart_50 : decode cX11_readPart 50 = .ok (.invokevirtual 264, 3) := by decide +kernel
theorem dX11_readPart_53 : decode cX11_readPart 53 = .ok (.goto 63, 3) := by decide +kernel
theorem dX11_readPart_56 : decode cX11_readPart 56 = .ok (.aload_n 0, 1) := by decide +kernel
theorem dX11_readPart_57 : decode cX11_readPart 57 = .ok (.invokevirtual 152, 3) := by decide +kernel
theorem dX11_readPart_60 : decode cX11_readPart 60 = .ok (.ifCond .eq 10, 3) := by decide +kernel
theorem dX11_readPart_63 : decode cX11_readPart 63 = .ok (.aload_n 0, 1) := by decide +kernel
theorem dX11_readPart_64 : decode cX11_readPart 64 = .ok (.invokevirtual 268, 3) := by decide +kernel
theorem dX11_readPart_67 : decode cX11_readPart 67 = .ok (.goto 49, 3) := by decide +kernel
theorem dX11_readPart_70 : decode cX11_readPart 70 = .ok (.aload_n 0, 1) := by decide +kernel
theorem dX11_readPart_71 : decode cX11_readPart 71 = .ok (.invokevirtual 164, 3) := by decide +kernel
theorem dX11_readPart_74 : decode cX11_readPart 74 = .ok (.ifCond .eq 10, 3) := by decide +kernel
theorem dX11_readPart_77 : decode cX11_readPart 77 = .ok (.aload_n 0, 1) := by decide +kernel
theorem dX11_readPart_78 : decode cX11_readPart 78 = .ok (.invokevirtual 271, 3) := by decide +kernel
theorem dX11_readPart_81 : decode cX11_readPart 81 = .ok (.goto 35, 3) := by decide +kernel
theorem dX11_readPart_84 : decode cX11_readPart 84 = .ok (.aload_n 0, 1) := by decide +kernel
theorem dX11_readPart_85 : decode cX11_readPart 85 = .ok (.invokevirtual 167, 3) := by decide +kernel
theorem dX11_readPart_88 : decode cX11_readPart 88 = .ok (.ifCond .eq 10, 3) := by decide +kernel
theorem dX11_readPart_91 : decode cX11_readPart 91 = .ok (.aload_n 0, 1) := by decide +kernel
theorem dX11_readPart_92 : decode cX11_readPart 92 = .ok (.invokevirtual 274, 3) := by decide +kernel
theorem dX11_readPart_95 : decode cX11_readPart 95 = .ok (.goto 21, 3) := by decide +kernel
theorem dX11_readPart_98 : decode cX11_readPart 98 = .ok (.aload_n 0, 1) := by decide +kernel
theorem dX11_readPart_99 : decode cX11_readPart 99 = .ok (.invokevirtual 170, 3) := by decide +kernel
theorem dX11_readPart_102 : decode cX11_readPart 102 = .ok (.ifCond .eq 10, 3) := by decide +kernel
theorem dX11_readPart_105 : decode cX11_readPart 105 = .ok (.aload_n 0, 1) := by decide +kernel
theorem dX11_readPart_106 : decode cX11_readPart 106 = .ok (.invokevirtual 277, 3) := by decide +kernel
theorem dX11_readPart_109 : decode cX11_readPart 109 = .ok (.goto 7, 3) := by decide +kernel
theorem dX11_readPart_112 : decode cX11_readPart 112 = .ok (.aload_n 0, 1) := by decide +kernel
theorem dX11_readPart_113 : decode cX11_readPart 113 = .ok (.invokevirtual 208, 3) := by decide +kernel
theorem dX11_readPart_116 : decode cX11_readPart 116 = .ok (.return_, 1) := by decide +kernel
theorem dX11_valley_0 : decode cX11_valley 0 = .ok (.aload_n 0, 1) := by decide +kernel
theorem dX11_valley_1 : decode cX11_valley 1 = .ok (.iconst 0, 1) := by decide +kernel
theorem dX11_valley_2 : decode cX11_valley 2 = .ok (.putfield 59, 3) := by decide +kernel
theorem dX11_valley_5 : decode cX11_valley 5 = .ok (.aload_n 0, 1) := by decide +kernel
theorem dX11_valley_6 : decode cX11_valley 6 = .ok (.iconst 0, 1) := by decide +kernel
theorem dX11_valley_7 : decode cX11_valley 7 = .ok (.putfield 62, 3) := by decide +kernel
theorem dX11_valley_10 : decode cX11_valley 10 = .ok (.aload_n 0, 1) := by decide +kernel
theorem dX11_valley_11 : decode cX11_valley 11 = .ok (.iload_n 1, 1) := by decide +kernel
theorem dX11_valley_12 : decode cX11_valley 12 = .ok (.sipush 900, 3) := by decide +kernel
theorem dX11_valley_15 : decode cX11_valley 15 = .ok (.invokevirtual 280, 3) := by decide +kernel
theorem dX11_valley_18 : decode cX11_valley 18 = .ok (.ifCond .ne 5, 3) := by decide +kernel
theorem dX11_valley_21 : decode cX11_valley 21 = .ok (.iconst (-1), 1) := by decide +kernel
theorem dX11_valley_22 : decode cX11_valley 22 = .ok (.ireturn, 1) := by decide +kernel
theorem dX11_valley_23 : decode cX11_valley 23 = .ok (.iconst 0, 1) := by decide +kernel
theorem dX11_valley_24 : decode cX11_valley 24 = .ok (.istore_n 2, 1) := by decide +kernel
theorem dX11_valley_25 : decode cX11_valley 25 = .ok (.iload_n 2, 1) := by decide +kernel
theorem dX11_valley_26 : decode cX11_valley 26 = .ok (.sipush 442, 3) := by decide +kernel
theorem dX11_valley_29 : decode cX11_valley 29 = .ok (.if_icmp .ge 20, 3) := by decide +kernel
theorem dX11_valley_32 : decode cX11_valley 32 = .ok (.aload_n 0, 1) := by decide +kernel
theorem dX11_valley_33 : decode cX11_valley 33 = .ok (.getfield 35, 3) := by decide +kernel
theorem dX11_valley_36 : decode cX11_valley 36 = .ok (.sipush 1768, 3) := by decide +kernel
theorem dX11_valley_39 : decode cX11_valley 39 = .ok (.iload_n 2, 1) := by decide +kernel
theorem dX11_valley_40 : decode cX11_valley 40 = .ok (.iadd, 1) := by decide +kernel
theorem dX11_valley_41 : decode cX11_valley 41 = .ok (.iconst 0, 1) := by decide +kernel
theorem dX11_valley_42 : decode cX11_valley 42 = .ok (.iastore, 1) := by decide +kernel
theorem dX11_valley_43 : decode cX11_valley 43 = .ok (.iinc 2 1, 3) := by decide +kernel
theorem dX11_valley_46 : decode cX11_valley 46 = .ok (.goto (-21), 3) := by decide +kernel
theorem dX11_valley_49 : decode cX11_valley 49 = .ok (.aload_n 0, 1) := by decide +kernel
theorem dX11_valley_50 : decode cX11_valley 50 = .ok (.getfield 35, 3) := by decide +kernel
theorem dX11_valley_53 : decode cX11_valley 53 = .ok (.sipush 1768, 3) := by decide +kernel
theorem dX11_valley_56 : decode cX11_valley 56 = .ok (.iconst 4, 1) := by decide +kernel
theorem dX11_valley_57 : decode cX11_valley 57 = .ok (.iastore, 1) := by decide +kernel
theorem dX11_valley_58 : decode cX11_valley 58 = .ok (.aload_n 0, 1) := by decide +kernel
theorem dX11_valley_59 : decode cX11_valley 59 = .ok (.iconst 0, 1) := by decide +kernel
theorem dX11_valley_60 : decode cX11_valley 60 = .ok (.putfield 241, 3) := by decide +kernel
theorem dX11_valley_63 : decode cX11_valley 63 = .ok (.aload_n 0, 1) := by decide +kernel
theorem dX11_valley_64 : decode cX11_valley 64 = .ok (.iconst 0, 1) := by decide +kernel
theorem dX11_valley_65 : decode cX11_valley 65 = .ok (.putfield 251, 3) := by decide +kernel
theorem dX11_valley_68 : decode cX11_valley 68 = .ok (.aload_n 0, 1) := by decide +kernel
theorem dX11_valley_69 : decode cX11_valley 69 = .ok (.iconst 0, 1) := by decide +kernel
theorem dX11_valley_70 : decode cX11_valley 70 = .ok (.putfield 237, 3) := by decide +kernel
theorem dX11_valley_73 : decode cX11_valley 73 = .ok (.aload_n 0, 1) := by decide +kernel
theorem dX11_valley_74 : decode cX11_valley 74 = .ok (.getfield 195, 3) := by decide +kernel
theorem dX11_valley_77 : decode cX11_valley 77 = .ok (.ifCond .ne 27, 3) := by decide +kernel
theorem dX11_valley_80 : decode cX11_valley 80 = .ok (.aload_n 0, 1) := by decide +kernel
theorem dX11_valley_81 : decode cX11_valley 81 = .ok (.getfield 110, 3) := by decide +kernel
theorem dX11_valley_84 : decode cX11_valley 84 = .ok (.ifCond .eq 20, 3) := by decide +kernel
theorem dX11_valley_87 : decode cX11_valley 87 = .ok (.aload_n 0, 1) := by decide +kernel
theorem dX11_valley_88 : decode cX11_valley 88 = .ok (.invokevirtual 283, 3) := by decide +kernel
theorem dX11_valley_91 : decode cX11_valley 91 = .ok (.aload_n 0, 1) := by decide +kernel
theorem dX11_valley_92 : decode cX11_valley 92 = .ok (.aload_n 0, 1) := by decide +kernel
theorem dX11_valley_93 : decode cX11_valley 93 = .ok (.bipush 59, 2) := by decide +kernel
theorem dX11_valley_95 : decode cX11_valley 95 = .ok (.invokevirtual 286, 3) := by decide +kernel
theorem dX11_valley_98 : decode cX11_valley 98 = .ok (.invokevirtual 211, 3) := by decide +kernel
theorem dX11_valley_101 : decode cX11_valley 101 = .ok (.goto (-28), 3) := by decide +kernel
theorem dX11_valley_104 : decode cX11_valley 104 = .ok (.aload_n 0, 1) := by decide +kernel
theorem dX11_valley_105 : decode cX11_valley 105 = .ok (.invokevirtual 289, 3) := by decide +kernel
theorem dX11_valley_108 : decode cX11_valley 108 = .ok (.ifCond .ne 5, 3) := by decide +kernel
theorem dX11_valley_111 : decode cX11_valley 111 = .ok (.iconst (-1), 1) := by decide +kernel
theorem dX11_valley_112 : decode cX11_valley 112 = .ok (.ireturn, 1) := by decide +kernel
theorem dX11_valley_113 : decode cX11_valley 113 = .ok (.aload_n 0, 1) := by decide +kernel
theorem dX11_valley_114 : decode cX11_valley 114 = .ok (.iconst 4, 1) := by decide +kernel
theorem dX11_valley_115 : decode cX11_valley 115 = .ok (.iconst 0, 1) := by decide +kernel
theorem dX11_valley_116 : decode cX11_valley 116 = .ok (.invokevirtual 292, 3) := by decide +kernel
theorem dX11_valley_119 : decode cX11_valley 119 = .ok (.aload_n 0, 1) := by decide +kernel
theorem dX11_valley_120 : decode cX11_valley 120 = .ok (.getfield 35, 3) := by decide +kernel
theorem dX11_valley_123 : decode cX11_valley 123 = .ok (.iconst 5, 1) := by decide +kernel
theorem dX11_valley_124 : decode cX11_valley 124 = .ok (.iaload, 1) := by decide +kernel
theorem dX11_valley_125 : decode cX11_valley 125 = .ok (.ireturn, 1) := by decide +kernel
theorem dX11_readTest_0 : decode cX11_readTest 0 = .ok (.aload_n 0, 1) := by decide +kernel
theorem dX11_readTest_1 : decode cX11_readTest 1 = .ok (.invokevirtual 186, 3) := by decide +kernel
theorem dX11_readTest_4 : decode cX11_readTest 4 = .ok (.istore_n 2, 1) := by decide +kernel
theorem dX11_readTest_5 : decode cX11_readTest 5 = .ok (.aload_n 0, 1) := by decide +kernel
theorem dX11_readTest_6 : decode cX11_readTest 6 = .ok (.iload_n 2, 1) := by decide +kernel
theorem dX11_readTest_7 : decode cX11_readTest 7 = .ok (.ifCond .lt 7, 3) := by decide +kernel
theorem dX11_readTest_10 : decode cX11_readTest 10 = .ok (.iconst 1, 1) := by decide +kernel
theorem dX11_readTest_11 : decode cX11_readTest 11 = .ok (.goto 4, 3) := by decide +kernel
theorem dX11_readTest_14 : decode cX11_readTest 14 = .ok (.iconst 0, 1) := by decide +kernel
theorem dX11_readTest_15 : decode cX11_readTest 15 = .ok (.invokevirtual 211, 3) := by decide +kernel
theorem dX11_readTest_18 : decode cX11_readTest 18 = .ok (.aload_n 0, 1) := by decide +kernel
theorem dX11_readTest_19 : decode cX11_readTest 19 = .ok (.getfield 35, 3) := by decide +kernel
theorem dX11_readTest_22 : decode cX11_readTest 22 = .ok (.iload_n 1, 1) := by decide +kernel
theorem dX11_readTest_23 : decode cX11_readTest 23 = .ok (.bipush 6, 2) := by decide +kernel
theorem dX11_readTest_25 : decode cX11_readTest 25 = .ok (.iadd, 1) := by decide +kernel
theorem dX11_readTest_26 : decode cX11_readTest 26 = .ok (.iload_n 2, 1) := by decide +kernel
theorem dX11_readTest_27 : decode cX11_readTest 27 = .ok (.iastore, 1) := by decide +kernel
theorem dX11_readTest_28 : decode cX11_readTest 28 = .ok (.aload_n 0, 1) := by decide +kernel
theorem dX11_readTest_29 : decode cX11_readTest 29 = .ok (.getfield 195, 3) := by decide +kernel
theorem dX11_readTest_32 : decode cX11_readTest 32 = .ok (.ifCond .gt 8, 3) := by decide +kernel
theorem dX11_readTest_35 : decode cX11_readTest 35 = .ok (.iload_n 2, 1) := by decide +kernel
theorem dX11_readTest_36 : decode cX11_readTest 36 = .ok (.iconst 2, 1) := by decide +kernel
theorem dX11_readTest_37 : decode cX11_readTest 37 = .ok (.if_icmp .ne 4, 3) := by decide +kernel
theorem dX11_readTest_40 : decode cX11_readTest 40 = .ok (.return_, 1) := by decide +kernel
theorem dX11_readTest_41 : decode cX11_readTest 41 = .ok (.aload_n 0, 1) := by decide +kernel
theorem dX11_readTest_42 : decode cX11_readTest 42 = .ok (.getfield 35, 3) := by decide +kernel
theorem dX11_readTest_45 : decode cX11_readTest 45 = .ok (.iload_n 1, 1) := by decide +kernel
theorem dX11_readTest_46 : decode cX11_readTest 46 = .ok (.iconst 1, 1) := by decide +kernel
theorem dX11_readTest_47 : decode cX11_readTest 47 = .ok (.iadd, 1) := by decide +kernel
theorem dX11_readTest_48 : decode cX11_readTest 48 = .ok (.aload_n 0, 1) := by decide +kernel
theorem dX11_readTest_49 : decode cX11_readTest 49 = .ok (.iconst 0, 1) := by decide +kernel
theorem dX11_readTest_50 : decode cX11_readTest 50 = .ok (.iload_n 2, 1) := by decide +kernel
theorem dX11_readTest_51 : decode cX11_readTest 51 = .ok (.invokevirtual 257, 3) := by decide +kernel
theorem dX11_readTest_54 : decode cX11_readTest 54 = .ok (.iastore, 1) := by decide +kernel
theorem dX11_readTest_55 : decode cX11_readTest 55 = .ok (.aload_n 0, 1) := by decide +kernel
theorem dX11_readTest_56 : decode cX11_readTest 56 = .ok (.getfield 35, 3) := by decide +kernel
theorem dX11_readTest_59 : decode cX11_readTest 59 = .ok (.iload_n 1, 1) := by decide +kernel
theorem dX11_readTest_60 : decode cX11_readTest 60 = .ok (.bipush 7, 2) := by decide +kernel
theorem dX11_readTest_62 : decode cX11_readTest 62 = .ok (.iadd, 1) := by decide +kernel
theorem dX11_readTest_63 : decode cX11_readTest 63 = .ok (.aload_n 0, 1) := by decide +kernel
theorem dX11_readTest_64 : decode cX11_readTest 64 = .ok (.getfield 110, 3) := by decide +kernel
theorem dX11_readTest_67 : decode cX11_readTest 67 = .ok (.iconst 3, 1) := by decide +kernel
theorem dX11_readTest_68 : decode cX11_readTest 68 = .ok (.if_icmp .ne 10, 3) := by decide +kernel
theorem dX11_readTest_71 : decode cX11_readTest 71 = .ok (.aload_n 0, 1) := by decide +kernel
theorem dX11_readTest_72 : decode cX11_readTest 72 = .ok (.getfield 129, 3) := by decide +kernel
theorem dX11_readTest_75 : decode cX11_readTest 75 = .ok (.goto 4, 3) := by decide +kernel
theorem dX11_readTest_78 : decode cX11_readTest 78 = .ok (.iconst 0, 1) := by decide +kernel
theorem dX11_readTest_79 : decode cX11_readTest 79 = .ok (.iastore, 1) := by decide +kernel
theorem dX11_readTest_80 : decode cX11_readTest 80 = .ok (.aload_n 0, 1) := by decide +kernel
theorem dX11_readTest_81 : decode cX11_readTest 81 = .ok (.aload_n 0, 1) := by decide +kernel
theorem dX11_readTest_82 : decode cX11_readTest 82 = .ok (.bipush 60, 2) := by decide +kernel
theorem dX11_readTest_84 : decode cX11_readTest 84 = .ok (.invokevirtual 286, 3) := by decide +kernel
theorem dX11_readTest_87 : decode cX11_readTest 87 = .ok (.ifCond .ne 21, 3) := by decide +kernel
theorem dX11_readTest_90 : decode cX11_readTest 90 = .ok (.aload_n 0, 1) := by decide +kernel
theorem dX11_readTest_91 : decode cX11_readTest 91 = .ok (.bipush 62, 2) := by decide +kernel
theorem dX11_readTest_93 : decode cX11_readTest 93 = .ok (.invokevirtual 286, 3) := by decide +kernel
theorem dX11_readTest_96 : decode cX11_readTest 96 = .ok (.ifCond .ne 12, 3) := by decide +kernel
theorem dX11_readTest_99 : decode cX11_readTest 99 = .ok (.aload_n 0, 1) := by decide +kernel
theorem dX11_readTest_100 : decode cX11_readTest 100 = .ok (.bipush 61, 2) := by decide +kernel
theorem dX11_readTest_102 : decode cX11_readTest 102 = .ok (.invokevirtual 286, 3) := by decide +kernel
theorem dX11_readTest_105 : decode cX11_readTest 105 = .ok (.ifCond .eq 7, 3) := by decide +kernel
theorem dX11_readTest_108 : decode cX11_readTest 108 = .ok (.iconst 1, 1) := by decide +kernel
theorem dX11_readTest_109 : decode cX11_readTest 109 = .ok (.goto 4, 3) := by decide +kernel
theorem dX11_readTest_112 : decode cX11_readTest 112 = .ok (.iconst 0, 1) := by decide +kernel
theorem dX11_readTest_113 : decode cX11_readTest 113 = .ok (.invokevirtual 211, 3) := by decide +kernel
theorem dX11_readTest_116 : decode cX11_readTest 116 = .ok (.aload_n 0, 1) := by decide +kernel
theorem dX11_readTest_117 : decode cX11_readTest 117 = .ok (.getfield 35, 3) := by decide +kernel
theorem dX11_readTest_120 : decode cX11_readTest 120 = .ok (.iload_n 1, 1) := by decide +kernel
theorem dX11_readTest_121 : decode cX11_readTest 121 = .ok (.iconst 2, 1) := by decide +kernel
theorem dX11_readTest_122 : decode cX11_readTest 122 = .ok (.iadd, 1) := by decide +kernel
theorem dX11_readTest_123 : decode cX11_readTest 123 = .ok (.aload_n 0, 1) := by decide +kernel
theorem dX11_readTest_124 : decode cX11_readTest 124 = .ok (.iconst 0, 1) := by decide +kernel
theorem dX11_readTest_125 : decode cX11_readTest 125 = .ok (.iload_n 2, 1) := by decide +kernel
theorem dX11_readTest_126 : decode cX11_readTest 126 = .ok (.ifCond .ne 8, 3) := by decide +kernel
theorem dX11_readTest_129 : decode cX11_readTest 129 = .ok (.bipush 6, 2) := by decide +kernel
theorem dX11_readTest_131 : decode cX11_readTest 131 = .ok (.goto 5, 3) := by decide +kernel
theorem dX11_readTest_134 : decode cX11_readTest 134 = .ok (.bipush 99, 2) := by decide +kernel
theorem dX11_readTest_136 : decode cX11_readTest 136 = .ok (.invokevirtual 215, 3) := by decide +kernel
theorem dX11_readTest_139 : decode cX11_readTest 139 = .ok (.iastore, 1) := by decide +kernel
theorem dX11_readTest_140 : decode cX11_readTest 140 = .ok (.return_, 1) := by decide +kernel
theorem dX11_readRest_0 : decode cX11_readRest 0 = .ok (.aload_n 0, 1) := by decide +kernel
theorem dX11_readRest_1 : decode cX11_readRest 1 = .ok (.getfield 35, 3) := by decide +kernel
theorem dX11_readRest_4 : decode cX11_readRest 4 = .ok (.iload_n 1, 1) := by decide +kernel
theorem dX11_readRest_5 : decode cX11_readRest 5 = .ok (.iaload, 1) := by decide +kernel
theorem dX11_readRest_6 : decode cX11_readRest 6 = .ok (.istore_n 2, 1) := by decide +kernel
theorem dX11_readRest_7 : decode cX11_readRest 7 = .ok (.iload_n 2, 1) := by decide +kernel
theorem dX11_readRest_8 : decode cX11_readRest 8 = .ok (.ifCond .ne 21, 3) := by decide +kernel
theorem dX11_readRest_11 : decode cX11_readRest 11 = .ok (.aload_n 0, 1) := by decide +kernel
theorem dX11_readRest_12 : decode cX11_readRest 12 = .ok (.getfield 35, 3) := by decide +kernel
theorem dX11_readRest_15 : decode cX11_readRest 15 = .ok (.iload_n 1, 1) := by decide +kernel
theorem dX11_readRest_16 : decode cX11_readRest 16 = .ok (.iconst 1, 1) := by decide +kernel
theorem dX11_readRest_17 : decode cX11_readRest 17 = .ok (.iadd, 1) := by decide +kernel
theorem dX11_readRest_18 : decode cX11_readRest 18 = .ok (.aload_n 0, 1) := by decide +kernel
theorem dX11_readRest_19 : decode cX11_readRest 19 = .ok (.iconst 1, 1) := by decide +kernel
theorem dX11_readRest_20 : decode cX11_readRest 20 = .ok (.bipush 20, 2) := by decide +kernel
theorem dX11_readRest_22 : decode cX11_readRest 22 = .ok (.invokevirtual 215, 3) := by decide +kernel
theorem dX11_readRest_25 : decode cX11_readRest 25 = .ok (.iastore, 1) := by decide +kernel
theorem dX11_readRest_26 : decode cX11_readRest 26 = .ok (.goto 60, 3) := by decide +kernel
theorem dX11_readRest_29 : decode cX11_readRest 29 = .ok (.iload_n 2, 1) := by decide +kernel
theorem dX11_readRest_30 : decode cX11_readRest 30 = .ok (.bipush 6, 2) := by decide +kernel
theorem dX11_readRest_32 : decode cX11_readRest 32 = .ok (.if_icmp .ne 21, 3) := by decide +kernel
theorem dX11_readRest_35 : decode cX11_readRest 35 = .ok (.aload_n 0, 1) := by decide +kernel
theorem dX11_readRest_36 : decode cX11_readRest 36 = .ok (.getfield 35, 3) := by decide +kernel
theorem dX11_readRest_39 : decode cX11_readRest 39 = .ok (.iload_n 1, 1) := by decide +kernel
theorem dX11_readRest_40 : decode cX11_readRest 40 = .ok (.iconst 1, 1) := by decide +kernel
theorem dX11_readRest_41 : decode cX11_readRest 41 = .ok (.iadd, 1) := by decide +kernel
theorem dX11_readRest_42 : decode cX11_readRest 42 = .ok (.aload_n 0, 1) := by decide +kernel
theorem dX11_readRest_43 : decode cX11_readRest 43 = .ok (.iconst 1, 1) := by decide +kernel
theorem dX11_readRest_44 : decode cX11_readRest 44 = .ok (.bipush 99, 2) := by decide +kernel
theorem dX11_readRest_46 : decode cX11_readRest 46 = .ok (.invokevirtual 215, 3) := by decide +kernel
theorem dX11_readRest_49 : decode cX11_readRest 49 = .ok (.iastore, 1) := by decide +kernel
theorem dX11_readRest_50 : decode cX11_readRest 50 = .ok (.goto 36, 3) := by decide +kernel
theorem dX11_readRest_53 : decode cX11_readRest 53 = .ok (.iload_n 2, 1) := by decide +kernel
theorem dX11_readRest_54 : decode cX11_readRest 54 = .ok (.iconst 5, 1) := by decide +kernel
theorem dX11_readRest_55 : decode cX11_readRest 55 = .ok (.if_icmp .ne 11, 3) := by decide +kernel
theorem dX11_readRest_58 : decode cX11_readRest 58 = .ok (.aload_n 0, 1) := by decide +kernel
theorem dX11_readRest_59 : decode cX11_readRest 59 = .ok (.iload_n 1, 1) := by decide +kernel
theorem dX11_readRest_60 : decode cX11_readRest 60 = .ok (.invokevirtual 295, 3) := by decide +kernel
theorem dX11_readRest_63 : decode cX11_readRest 63 = .ok (.goto 23, 3) := by decide +kernel
theorem dX11_readRest_66 : decode cX11_readRest 66 = .ok (.iload_n 2, 1) := by decide +kernel
theorem dX11_readRest_67 : decode cX11_readRest 67 = .ok (.iconst 1, 1) := by decide +kernel
theorem dX11_readRest_68 : decode cX11_readRest 68 = .ok (.if_icmp .ne 18, 3) := by decide +kernel
theorem dX11_readRest_71 : decode cX11_readRest 71 = .ok (.aload_n 0, 1) := by decide +kernel
theorem dX11_readRest_72 : decode cX11_readRest 72 = .ok (.getfield 35, 3) := by decide +kernel
theorem dX11_readRest_75 : decode cX11_readRest 75 = .ok (.iload_n 1, 1) := by decide +kernel
theorem dX11_readRest_76 : decode cX11_readRest 76 = .ok (.iconst 1, 1) := by decide +kernel
theorem dX11_readRest_77 : decode cX11_readRest 77 = .ok (.iadd, 1) := by decide +kernel
theorem dX11_readRest_78 : decode cX11_readRest 78 = .ok (.aload_n 0, 1) := by decide +kernel
theorem dX11_readRest_79 : decode cX11_readRest 79 = .ok (.iconst 0, 1) := by decide +kernel
theorem dX11_readRest_80 : decode cX11_readRest 80 = .ok (.bipush 6, 2) := by decide +kernel
theorem dX11_readRest_82 : decode cX11_readRest 82 = .ok (.invokevirtual 215, 3) := by decide +kernel
theorem dX11_readRest_85 : decode cX11_readRest 85 = .ok (.iastore, 1) := by decide +kernel
theorem dX11_readRest_86 : decode cX11_readRest 86 = .ok (.iload_n 2, 1) := by decide +kernel
theorem dX11_readRest_87 : decode cX11_readRest 87 = .ok (.iconst 1, 1) := by decide +kernel
theorem dX11_readRest_88 : decode cX11_readRest 88 = .ok (.if_icmp .ne 18, 3) := by decide +kernel
theorem dX11_readRest_91 : decode cX11_readRest 91 = .ok (.aload_n 0, 1) := by decide +kernel
theorem dX11_readRest_92 : decode cX11_readRest 92 = .ok (.getfield 35, 3) := by decide +kernel
theorem dX11_readRest_95 : decode cX11_readRest 95 = .ok (.iload_n 1, 1) := by decide +kernel
theorem dX11_readRest_96 : decode cX11_readRest 96 = .ok (.iconst 2, 1) := by decide +kernel
theorem dX11_readRest_97 : decode cX11_readRest 97 = .ok (.iadd, 1) := by decide +kernel
theorem dX11_readRest_98 : decode cX11_readRest 98 = .ok (.aload_n 0, 1) := by decide +kernel
theorem dX11_readRest_99 : decode cX11_readRest 99 = .ok (.iconst 0, 1) := by decide +kernel
theorem dX11_readRest_100 : decode cX11_readRest 100 = .ok (.bipush 7, 2) := by decide +kernel
theorem dX11_readRest_102 : decode cX11_readRest 102 = .ok (.invokevirtual 215, 3) := by decide +kernel
theorem dX11_readRest_105 : decode cX11_readRest 105 = .ok (.iastore, 1) := by decide +kernel
theorem dX11_readRest_106 : decode cX11_readRest 106 = .ok (.return_, 1) := by decide +kernel
theorem dX11_readStep_0 : decode cX11_readStep 0 = .ok (.aload_n 0, 1) := by decide +kernel
theorem dX11_readStep_1 : decode cX11_readStep 1 = .ok (.invokevirtual 182, 3) := by decide +kernel
theorem dX11_readStep_4 : decode cX11_readStep 4 = .ok (.istore_n 2, 1) := by decide +kernel
theorem dX11_readStep_5 : decode cX11_readStep 5 = .ok (.iload_n 2, 1) := by decide +kernel
theorem dX11_readStep_6 : decode cX11_readStep 6 = .ok (.iconst 5, 1) := by decide +kernel
theorem dX11_readStep_7 : decode cX11_readStep 7 = .ok (.if_icmp .eq 9, 3) := by decide +kernel
theorem dX11_readStep_10 : decode cX11_readStep 10 = .ok (.iload_n 2, 1) := by decide +kernel
theorem dX11_readStep_11 : decode cX11_readStep 11 = .ok (.bipush 6, 2) := by decide +kernel
theorem dX11_readStep_13 : decode cX11_readStep 13 = .ok (.if_icmp .ne 7, 3) := by decide +kernel
theorem dX11_readStep_16 : decode cX11_readStep 16 = .ok (.iconst 1, 1) := by decide +kernel
theorem dX11_readStep_17 : decode cX11_readStep 17 = .ok (.goto 4, 3) := by decide +kernel
theorem dX11_readStep_20 : decode cX11_readStep 20 = .ok (.iconst 0, 1) := by decide +kernel
theorem dX11_readStep_21 : decode cX11_readStep 21 = .ok (.istore_n 3, 1) := by decide +kernel
theorem dX11_readStep_22 : decode cX11_readStep 22 = .ok (.iload_n 2, 1) := by decide +kernel
theorem dX11_readStep_23 : decode cX11_readStep 23 = .ok (.ifCond .ge 7, 3) := by decide +kernel
theorem dX11_readStep_26 : decode cX11_readStep 26 = .ok (.aload_n 0, 1) := by decide +kernel
theorem dX11_readStep_27 : decode cX11_readStep 27 = .ok (.invokevirtual 208, 3) := by decide +kernel
theorem dX11_readStep_30 : decode cX11_readStep 30 = .ok (.aload_n 0, 1) := by decide +kernel
theorem dX11_readStep_31 : decode cX11_readStep 31 = .ok (.getfield 195, 3) := by decide +kernel
theorem dX11_readStep_34 : decode cX11_readStep 34 = .ok (.ifCond .ne 22, 3) := by decide +kernel
theorem dX11_readStep_37 : decode cX11_readStep 37 = .ok (.aload_n 0, 1) := by decide +kernel
theorem dX11_readStep_38 : decode cX11_readStep 38 = .ok (.getfield 298, 3) := by decide +kernel
theorem dX11_readStep_41 : decode cX11_readStep 41 = .ok (.bipush 30, 2) := by decide +kernel
theorem dX11_readStep_43 : decode cX11_readStep 43 = .ok (.if_icmp .ne 13, 3) := by decide +kernel
theorem dX11_readStep_46 : decode cX11_readStep 46 = .ok (.aload_n 0, 1) := by decide +kernel
theorem dX11_readStep_47 : decode cX11_readStep 47 = .ok (.bipush 6, 2) := by decide +kernel
theorem dX11_readStep_49 : decode cX11_readStep 49 = .ok (.aload_n 0, 1) := by decide +kernel
theorem dX11_readStep_50 : decode cX11_readStep 50 = .ok (.getfield 104, 3) := by decide +kernel
theorem dX11_readStep_53 : decode cX11_readStep 53 = .ok (.invokevirtual 201, 3) := by decide +kernel
theorem dX11_readStep_56 : decode cX11_readStep 56 = .ok (.aload_n 0, 1) := by decide +kernel
theorem dX11_readStep_57 : decode cX11_readStep 57 = .ok (.getfield 195, 3) := by decide +kernel
theorem dX11_readStep_60 : decode cX11_readStep 60 = .ok (.ifCond .ne 22, 3) := by decide +kernel
theorem dX11_readStep_63 : decode cX11_readStep 63 = .ok (.iload_n 3, 1) := by decide +kernel
theorem dX11_readStep_64 : decode cX11_readStep 64 = .ok (.ifCond .eq 18, 3) := by decide +kernel
theorem dX11_readStep_67 : decode cX11_readStep 67 = .ok (.iload_n 1, 1) := by decide +kernel
theorem dX11_readStep_68 : decode cX11_readStep 68 = .ok (.iconst 3, 1) := by decide +kernel
theorem dX11_readStep_69 : decode cX11_readStep 69 = .ok (.if_icmp .ne 13, 3) := by decide +kernel
theorem dX11_readStep_72 : decode cX11_readStep 72 = .ok (.aload_n 0, 1) := by decide +kernel
theorem dX11_readStep_73 : decode cX11_readStep 73 = .ok (.bipush 7, 2) := by decide +kernel
theorem dX11_readStep_75 : decode cX11_readStep 75 = .ok (.aload_n 0, 1) := by decide +kernel
theorem dX11_readStep_76 : decode cX11_readStep 76 = .ok (.getfield 104, 3) := by decide +kernel
theorem dX11_readStep_79 : decode cX11_readStep 79 = .ok (.invokevirtual 201, 3) := by decide +kernel
theorem dX11_readStep_82 : decode cX11_readStep 82 = .ok (.aload_n 0, 1) := by decide +kernel
theorem dX11_readStep_83 : decode cX11_readStep 83 = .ok (.getfield 195, 3) := by decide +kernel
theorem dX11_readStep_86 : decode cX11_readStep 86 = .ok (.ifCond .le 4, 3) := by decide +kernel
theorem dX11_readStep_89 : decode cX11_readStep 89 = .ok (.return_, 1) := by decide +kernel
theorem dX11_readStep_90 : decode cX11_readStep 90 = .ok (.sipush 1940, 3) := by decide +kernel
theorem dX11_readStep_93 : decode cX11_readStep 93 = .ok (.bipush 9, 2) := by decide +kernel
theorem dX11_readStep_95 : decode cX11_readStep 95 = .ok (.aload_n 0, 1) := by decide +kernel
theorem dX11_readStep_96 : decode cX11_readStep 96 = .ok (.getfield 298, 3) := by decide +kernel
theorem dX11_readStep_99 : decode cX11_readStep 99 = .ok (.imul, 1) := by decide +kernel
theorem dX11_readStep_100 : decode cX11_readStep 100 = .ok (.iadd, 1) := by decide +kernel
theorem dX11_readStep_101 : decode cX11_readStep 101 = .ok (.istore 4, 2) := by decide +kernel
theorem dX11_readStep_103 : decode cX11_readStep 103 = .ok (.aload_n 0, 1) := by decide +kernel
theorem dX11_readStep_104 : decode cX11_readStep 104 = .ok (.dup, 1) := by decide +kernel
theorem dX11_readStep_105 : decode cX11_readStep 105 = .ok (.getfield 298, 3) := by decide +kernel
theorem dX11_readStep_108 : decode cX11_readStep 108 = .ok (.iconst 1, 1) := by decide +kernel
theorem dX11_readStep_109 : decode cX11_readStep 109 = .ok (.iadd, 1) := by decide +kernel
theorem dX11_readStep_110 : decode cX11_readStep 110 = .ok (.putfield 298, 3) := by decide +kernel
theorem dX11_readStep_113 : decode cX11_readStep 113 = .ok (.aload_n 0, 1) := by decide +kernel
theorem dX11_readStep_114 : decode cX11_readStep 114 = .ok (.invokevirtual 205, 3) := by decide +kernel
theorem dX11_readStep_117 : decode cX11_readStep 117 = .ok (.aload_n 0, 1) := by decide +kernel
theorem dX11_readStep_118 : decode cX11_readStep 118 = .ok (.getfield 35, 3) := by decide +kernel
theorem dX11_readStep_121 : decode cX11_readStep 121 = .ok (.iload 4, 2) := by decide +kernel
theorem dX11_readStep_123 : decode cX11_readStep 123 = .ok (.iload_n 2, 1) := by decide +kernel
theorem dX11_readStep_124 : decode cX11_readStep 124 = .ok (.iastore, 1) := by decide +kernel
theorem dX11_readStep_125 : decode cX11_readStep 125 = .ok (.aload_n 0, 1) := by decide +kernel
theorem dX11_readStep_126 : decode cX11_readStep 126 = .ok (.iload 4, 2) := by decide +kernel
theorem dX11_readStep_128 : decode cX11_readStep 128 = .ok (.invokevirtual 301, 3) := by decide +kernel
theorem dX11_readStep_131 : decode cX11_readStep 131 = .ok (.aload_n 0, 1) := by decide +kernel
theorem dX11_readStep_132 : decode cX11_readStep 132 = .ok (.aload_n 0, 1) := by decide +kernel
theorem dX11_readStep_133 : decode cX11_readStep 133 = .ok (.bipush 59, 2) := by decide +kernel
theorem dX11_readStep_135 : decode cX11_readStep 135 = .ok (.invokevirtual 286, 3) := by decide +kernel
theorem dX11_readStep_138 : decode cX11_readStep 138 = .ok (.invokevirtual 211, 3) := by decide +kernel
theorem dX11_readStep_141 : decode cX11_readStep 141 = .ok (.iload_n 3, 1) := by decide +kernel
theorem dX11_readStep_142 : decode cX11_readStep 142 = .ok (.ifCond .eq 27, 3) := by decide +kernel
theorem dX11_readStep_145 : decode cX11_readStep 145 = .ok (.aload_n 0, 1) := by decide +kernel
theorem dX11_readStep_146 : decode cX11_readStep 146 = .ok (.getfield 195, 3) := by decide +kernel
theorem dX11_readStep_149 : decode cX11_readStep 149 = .ok (.ifCond .ne 20, 3) := by decide +kernel
theorem dX11_readStep_152 : decode cX11_readStep 152 = .ok (.aload_n 0, 1) := by decide +kernel
theorem dX11_readStep_153 : decode cX11_readStep 153 = .ok (.invokevirtual 189, 3) := by decide +kernel
theorem dX11_readStep_156 : decode cX11_readStep 156 = .ok (.ifCond .ne 13, 3) := by decide +kernel
theorem dX11_readStep_159 : decode cX11_readStep 159 = .ok (.aload_n 0, 1) := by decide +kernel
theorem dX11_readStep_160 : decode cX11_readStep 160 = .ok (.iload_n 1, 1) := by decide +kernel
theorem dX11_readStep_161 : decode cX11_readStep 161 = .ok (.iconst 1, 1) := by decide +kernel
theorem dX11_readStep_162 : decode cX11_readStep 162 = .ok (.iadd, 1) := by decide +kernel
theorem dX11_readStep_163 : decode cX11_readStep 163 = .ok (.invokevirtual 304, 3) := by decide +kernel
theorem dX11_readStep_166 : decode cX11_readStep 166 = .ok (.goto (-25), 3) := by decide +kernel
theorem dX11_readStep_169 : decode cX11_readStep 169 = .ok (.iload_n 3, 1) := by decide +kernel
theorem dX11_readStep_170 : decode cX11_readStep 170 = .ok (.ifCond .eq 21, 3) := by decide +kernel
theorem dX11_readStep_173 : decode cX11_readStep 173 = .ok (.aload_n 0, 1) := by decide +kernel
theorem dX11_readStep_174 : decode cX11_readStep 174 = .ok (.aload_n 0, 1) := by decide +kernel
theorem dX11_readStep_175 : decode cX11_readStep 175 = .ok (.invokevirtual 189, 3) := by decide +kernel
theorem dX11_readStep_178 : decode cX11_readStep 178 = .ok (.invokevirtual 211, 3) := by decide +kernel
theorem dX11_readStep_181 : decode cX11_readStep 181 = .ok (.aload_n 0, 1) := by decide +kernel
theorem dX11_readStep_182 : decode cX11_readStep 182 = .ok (.aload_n 0, 1) := by decide +kernel
theorem dX11_readStep_183 : decode cX11_readStep 183 = .ok (.bipush 59, 2) := by decide +kernel
theorem dX11_readStep_185 : decode cX11_readStep 185 = .ok (.invokevirtual 286, 3) := by decide +kernel
theorem dX11_readStep_188 : decode cX11_readStep 188 = .ok (.invokevirtual 211, 3) := by decide +kernel
theorem dX11_readStep_191 : decode cX11_readStep 191 = .ok (.aload_n 0, 1) := by decide +kernel
theorem dX11_readStep_192 : decode cX11_readStep 192 = .ok (.getfield 35, 3) := by decide +kernel
theorem dX11_readStep_195 : decode cX11_readStep 195 = .ok (.iload 4, 2) := by decide +kernel
theorem dX11_readStep_197 : decode cX11_readStep 197 = .ok (.bipush 8, 2) := by decide +kernel
theorem dX11_readStep_199 : decode cX11_readStep 199 = .ok (.iadd, 1) := by decide +kernel
theorem dX11_readStep_200 : decode cX11_readStep 200 = .ok (.aload_n 0, 1) := by decide +kernel
theorem dX11_readStep_201 : decode cX11_readStep 201 = .ok (.getfield 298, 3) := by decide +kernel
theorem dX11_readStep_204 : decode cX11_readStep 204 = .ok (.iastore, 1) := by decide +kernel
theorem dX11_readStep_205 : decode cX11_readStep 205 = .ok (.return_, 1) := by decide +kernel
theorem dX11_seasons_0 : decode cX11_seasons 0 = .ok (.aload_n 0, 1) := by decide +kernel
theorem dX11_seasons_1 : decode cX11_seasons 1 = .ok (.iconst 0, 1) := by decide +kernel
theorem dX11_seasons_2 : decode cX11_seasons 2 = .ok (.putfield 59, 3) := by decide +kernel
theorem dX11_seasons_5 : decode cX11_seasons 5 = .ok (.aload_n 0, 1) := by decide +kernel
theorem dX11_seasons_6 : decode cX11_seasons 6 = .ok (.iconst 0, 1) := by decide +kernel
theorem dX11_seasons_7 : decode cX11_seasons 7 = .ok (.putfield 62, 3) := by decide +kernel
theorem dX11_seasons_10 : decode cX11_seasons 10 = .ok (.aload_n 0, 1) := by decide +kernel
theorem dX11_seasons_11 : decode cX11_seasons 11 = .ok (.iload_n 1, 1) := by decide +kernel
theorem dX11_seasons_12 : decode cX11_seasons 12 = .ok (.sipush 300, 3) := by decide +kernel
theorem dX11_seasons_15 : decode cX11_seasons 15 = .ok (.invokevirtual 280, 3) := by decide +kernel
theorem dX11_seasons_18 : decode cX11_seasons 18 = .ok (.ifCond .ne 5, 3) := by decide +kernel
theorem dX11_seasons_21 : decode cX11_seasons 21 = .ok (.iconst (-1), 1) := by decide +kernel
theorem dX11_seasons_22 : decode cX11_seasons 22 = .ok (.ireturn, 1) := by decide +kernel
theorem dX11_seasons_23 : decode cX11_seasons 23 = .ok (.aload_n 0, 1) := by decide +kernel
theorem dX11_seasons_24 : decode cX11_seasons 24 = .ok (.iconst 0, 1) := by decide +kernel
theorem dX11_seasons_25 : decode cX11_seasons 25 = .ok (.putfield 298, 3) := by decide +kernel
theorem dX11_seasons_28 : decode cX11_seasons 28 = .ok (.aload_n 0, 1) := by decide +kernel
theorem dX11_seasons_29 : decode cX11_seasons 29 = .ok (.getfield 195, 3) := by decide +kernel
theorem dX11_seasons_32 : decode cX11_seasons 32 = .ok (.ifCond .ne 18, 3) := by decide +kernel
theorem dX11_seasons_35 : decode cX11_seasons 35 = .ok (.aload_n 0, 1) := by decide +kernel
theorem dX11_seasons_36 : decode cX11_seasons 36 = .ok (.getfield 110, 3) := by decide +kernel
theorem dX11_seasons_39 : decode cX11_seasons 39 = .ok (.ifCond .eq 11, 3) := by decide +kernel
theorem dX11_seasons_42 : decode cX11_seasons 42 = .ok (.aload_n 0, 1) := by decide +kernel
theorem dX11_seasons_43 : decode cX11_seasons 43 = .ok (.iconst 0, 1) := by decide +kernel
theorem dX11_seasons_44 : decode cX11_seasons 44 = .ok (.invokevirtual 304, 3) := by decide +kernel
theorem dX11_seasons_47 : decode cX11_seasons 47 = .ok (.goto (-19), 3) := by decide +kernel
theorem dX11_seasons_50 : decode cX11_seasons 50 = .ok (.aload_n 0, 1) := by decide +kernel
theorem dX11_seasons_51 : decode cX11_seasons 51 = .ok (.invokevirtual 289, 3) := by decide +kernel
theorem dX11_seasons_54 : decode cX11_seasons 54 = .ok (.ifCond .ne 5, 3) := by decide +kernel
theorem dX11_seasons_57 : decode cX11_seasons 57 = .ok (.iconst (-1), 1) := by decide +kernel
theorem dX11_seasons_58 : decode cX11_seasons 58 = .ok (.ireturn, 1) := by decide +kernel
theorem dX11_seasons_59 : decode cX11_seasons 59 = .ok (.aload_n 0, 1) := by decide +kernel
theorem dX11_seasons_60 : decode cX11_seasons 60 = .ok (.getfield 35, 3) := by decide +kernel
theorem dX11_seasons_63 : decode cX11_seasons 63 = .ok (.sipush 170, 3) := by decide +kernel
theorem dX11_seasons_66 : decode cX11_seasons 66 = .ok (.iconst 1, 1) := by decide +kernel
theorem dX11_seasons_67 : decode cX11_seasons 67 = .ok (.iastore, 1) := by decide +kernel
theorem dX11_seasons_68 : decode cX11_seasons 68 = .ok (.aload_n 0, 1) := by decide +kernel
theorem dX11_seasons_69 : decode cX11_seasons 69 = .ok (.getfield 35, 3) := by decide +kernel
theorem dX11_seasons_72 : decode cX11_seasons 72 = .ok (.sipush 171, 3) := by decide +kernel
theorem dX11_seasons_75 : decode cX11_seasons 75 = .ok (.aload_n 0, 1) := by decide +kernel
theorem dX11_seasons_76 : decode cX11_seasons 76 = .ok (.getfield 298, 3) := by decide +kernel
theorem dX11_seasons_79 : decode cX11_seasons 79 = .ok (.iastore, 1) := by decide +kernel
theorem dX11_seasons_80 : decode cX11_seasons 80 = .ok (.iconst 0, 1) := by decide +kernel
theorem dX11_seasons_81 : decode cX11_seasons 81 = .ok (.istore_n 2, 1) := by decide +kernel
theorem dX11_seasons_82 : decode cX11_seasons 82 = .ok (.iload_n 2, 1) := by decide +kernel
theorem dX11_seasons_83 : decode cX11_seasons 83 = .ok (.bipush 9, 2) := by decide +kernel
theorem dX11_seasons_85 : decode cX11_seasons 85 = .ok (.aload_n 0, 1) := by decide +kernel
theorem dX11_seasons_86 : decode cX11_seasons 86 = .ok (.getfield 298, 3) := by decide +kernel
theorem dX11_seasons_89 : decode cX11_seasons 89 = .ok (.imul, 1) := by decide +kernel
theorem dX11_seasons_90 : decode cX11_seasons 90 = .ok (.if_icmp .ge 29, 3) := by decide +kernel
theorem dX11_seasons_93 : decode cX11_seasons 93 = .ok (.aload_n 0, 1) := by decide +kernel
theorem dX11_seasons_94 : decode cX11_seasons 94 = .ok (.getfield 35, 3) := by decide +kernel
theorem dX11_seasons_97 : decode cX11_seasons 97 = .ok (.sipush 172, 3) := by decide +kernel
theorem dX11_seasons_100 : decode cX11_seasons 100 = .ok (.iload_n 2, 1) := by decide +kernel
theorem dX11_seasons_101 : decode cX11_seasons 101 = .ok (.iadd, 1) := by decide +kernel
theorem dX11_seasons_102 : decode cX11_seasons 102 = .ok (.aload_n 0, 1) := by decide +kernel
theorem dX11_seasons_103 : decode cX11_seasons 103 = .ok (.getfield 35, 3) := by decide +kernel
theorem dX11_seasons_106 : decode cX11_seasons 106 = .ok (.sipush 1940, 3) := by decide +kernel
theorem dX11_seasons_109 : decode cX11_seasons 109 = .ok (.iload_n 2, 1) := by decide +kernel
theorem dX11_seasons_110 : decode cX11_seasons 110 = .ok (.iadd, 1) := by decide +kernel
theorem dX11_seasons_111 : decode cX11_seasons 111 = .ok (.iaload, 1) := by decide +kernel
theorem dX11_seasons_112 : decode cX11_seasons 112 = .ok (.iastore, 1) := by decide +kernel
theorem dX11_seasons_113 : decode cX11_seasons 113 = .ok (.iinc 2 1, 3) := by decide +kernel
theorem dX11_seasons_116 : decode cX11_seasons 116 = .ok (.goto (-34), 3) := by decide +kernel
theorem dX11_seasons_119 : decode cX11_seasons 119 = .ok (.aload_n 0, 1) := by decide +kernel
theorem dX11_seasons_120 : decode cX11_seasons 120 = .ok (.getfield 298, 3) := by decide +kernel
theorem dX11_seasons_123 : decode cX11_seasons 123 = .ok (.ireturn, 1) := by decide +kernel
theorem dX11_isSuitAt_0 : decode cX11_isSuitAt 0 = .ok (.iload_n 1, 1) := by decide +kernel
theorem dX11_isSuitAt_1 : decode cX11_isSuitAt 1 = .ok (.i2l, 1) := by decide +kernel
theorem dX11_isSuitAt_2 : decode cX11_isSuitAt 2 = .ok (.lconst 0, 1) := by decide +kernel
theorem dX11_isSuitAt_3 : decode cX11_isSuitAt 3 = .ok (.aload_n 0, 1) := by decide +kernel
theorem dX11_isSuitAt_4 : decode cX11_isSuitAt 4 = .ok (.getfield 35, 3) := by decide +kernel
theorem dX11_isSuitAt_7 : decode cX11_isSuitAt 7 = .ok (.iconst 1, 1) := by decide +kernel
theorem dX11_isSuitAt_8 : decode cX11_isSuitAt 8 = .ok (.iaload, 1) := by decide +kernel
theorem dX11_isSuitAt_9 : decode cX11_isSuitAt 9 = .ok (.iconst 1, 1) := by decide +kernel
theorem dX11_isSuitAt_10 : decode cX11_isSuitAt 10 = .ok (.isub, 1) := by decide +kernel
theorem dX11_isSuitAt_11 : decode cX11_isSuitAt 11 = .ok (.i2l, 1) := by decide +kernel
theorem dX11_isSuitAt_12 : decode cX11_isSuitAt 12 = .ok (.invokestatic 94, 3) := by decide +kernel
theorem dX11_isSuitAt_15 : decode cX11_isSuitAt 15 = .ok (.ireturn, 1) := by decide +kernel
theorem dX11_isRowAt_0 : decode cX11_isRowAt 0 = .ok (.iload_n 1, 1) := by decide +kernel
theorem dX11_isRowAt_1 : decode cX11_isRowAt 1 = .ok (.i2l, 1) := by decide +kernel
theorem dX11_isRowAt_2 : decode cX11_isRowAt 2 = .ok (.lconst 0, 1) := by decide +kernel
theorem dX11_isRowAt_3 : decode cX11_isRowAt 3 = .ok (.aload_n 0, 1) := by decide +kernel
theorem dX11_isRowAt_4 : decode cX11_isRowAt 4 = .ok (.getfield 35, 3) := by decide +kernel
theorem dX11_isRowAt_7 : decode cX11_isRowAt 7 = .ok (.iconst 4, 1) := by decide +kernel
theorem dX11_isRowAt_8 : decode cX11_isRowAt 8 = .ok (.iaload, 1) := by decide +kernel
theorem dX11_isRowAt_9 : decode cX11_isRowAt 9 = .ok (.iconst 1, 1) := by decide +kernel
theorem dX11_isRowAt_10 : decode cX11_isRowAt 10 = .ok (.isub, 1) := by decide +kernel
theorem dX11_isRowAt_11 : decode cX11_isRowAt 11 = .ok (.i2l, 1) := by decide +kernel
theorem dX11_isRowAt_12 : decode cX11_isRowAt 12 = .ok (.invokestatic 94, 3) := by decide +kernel
theorem dX11_isRowAt_15 : decode cX11_isRowAt 15 = .ok (.ireturn, 1) := by decide +kernel
theorem dX11_isFieldAt_0 : decode cX11_isFieldAt 0 = .ok (.iload_n 1, 1) := by decide +kernel
theorem dX11_isFieldAt_1 : decode cX11_isFieldAt 1 = .ok (.i2l, 1) := by decide +kernel
theorem dX11_isFieldAt_2 : decode cX11_isFieldAt 2 = .ok (.lconst 0, 1) := by decide +kernel
theorem dX11_isFieldAt_3 : decode cX11_isFieldAt 3 = .ok (.aload_n 0, 1) := by decide +kernel
theorem dX11_isFieldAt_4 : decode cX11_isFieldAt 4 = .ok (.getfield 35, 3) := by decide +kernel
theorem dX11_isFieldAt_7 : decode cX11_isFieldAt 7 = .ok (.iconst 5, 1) := by decide +kernel
theorem dX11_isFieldAt_8 : decode cX11_isFieldAt 8 = .ok (.iaload, 1) := by decide +kernel
theorem dX11_isFieldAt_9 : decode cX11_isFieldAt 9 = .ok (.iconst 1, 1) := by decide +kernel
theorem dX11_isFieldAt_10 : decode cX11_isFieldAt 10 = .ok (.isub, 1) := by decide +kernel
theorem dX11_isFieldAt_11 : decode cX11_isFieldAt 11 = .ok (.i2l, 1) := by decide +kernel
theorem dX11_isFieldAt_12 : decode cX11_isFieldAt 12 = .ok (.invokestatic 94, 3) := by decide +kernel
theorem dX11_isFieldAt_15 : decode cX11_isFieldAt 15 = .ok (.ireturn, 1) := by decide +kernel
theorem dX11_isFrom_0 : decode cX11_isFrom 0 = .ok (.aload_n 0, 1) := by decide +kernel
theorem dX11_isFrom_1 : decode cX11_isFrom 1 = .ok (.iload_n 1, 1) := by decide +kernel
theorem dX11_isFrom_2 : decode cX11_isFrom 2 = .ok (.invokevirtual 307, 3) := by decide +kernel
theorem dX11_isFrom_5 : decode cX11_isFrom 5 = .ok (.ifCond .ne 9, 3) := by decide +kernel
theorem dX11_isFrom_8 : decode cX11_isFrom 8 = .ok (.iload_n 1, 1) := by decide +kernel
theorem dX11_isFrom_9 : decode cX11_isFrom 9 = .ok (.bipush 6, 2) := by decide +kernel
theorem dX11_isFrom_11 : decode cX11_isFrom 11 = .ok (.if_icmp .ne 7, 3) := by decide +kernel
theorem dX11_isFrom_14 : decode cX11_isFrom 14 = .ok (.iconst 1, 1) := by decide +kernel
theorem dX11_isFrom_15 : decode cX11_isFrom 15 = .ok (.goto 4, 3) := by decide +kernel
theorem dX11_isFrom_18 : decode cX11_isFrom 18 = .ok (.iconst 0, 1) := by decide +kernel
theorem dX11_isFrom_19 : decode cX11_isFrom 19 = .ok (.ireturn, 1) := by decide +kernel
theorem dX11_isTo_0 : decode cX11_isTo 0 = .ok (.aload_n 0, 1) := by decide +kernel
theorem dX11_isTo_1 : decode cX11_isTo 1 = .ok (.iload_n 1, 1) := by decide +kernel
theorem dX11_isTo_2 : decode cX11_isTo 2 = .ok (.invokevirtual 307, 3) := by decide +kernel
theorem dX11_isTo_5 : decode cX11_isTo 5 = .ok (.ifCond .ne 9, 3) := by decide +kernel
theorem dX11_isTo_8 : decode cX11_isTo 8 = .ok (.iload_n 1, 1) := by decide +kernel
theorem dX11_isTo_9 : decode cX11_isTo 9 = .ok (.bipush 7, 2) := by decide +kernel
theorem dX11_isTo_11 : decode cX11_isTo 11 = .ok (.if_icmp .ne 7, 3) := by decide +kernel
theorem dX11_isTo_14 : decode cX11_isTo 14 = .ok (.iconst 1, 1) := by decide +kernel
theorem dX11_isTo_15 : decode cX11_isTo 15 = .ok (.goto 4, 3) := by decide +kernel
theorem dX11_isTo_18 : decode cX11_isTo 18 = .ok (.iconst 0, 1) := by decide +kernel
theorem dX11_isTo_19 : decode cX11_isTo 19 = .ok (.ireturn, 1) := by decide +kernel
theorem dX11_sum_0 : decode cX11_sum 0 = .ok (.iconst 0, 1) := by decide +kernel
theorem dX11_sum_1 : decode cX11_sum 1 = .ok (.istore_n 3, 1) := by decide +kernel
theorem dX11_sum_2 : decode cX11_sum 2 = .ok (.iconst 0, 1) := by decide +kernel
theorem dX11_sum_3 : decode cX11_sum 3 = .ok (.istore 4, 2) := by decide +kernel
theorem dX11_sum_5 : decode cX11_sum 5 = .ok (.iload 4, 2) := by decide +kernel
theorem dX11_sum_7 : decode cX11_sum 7 = .ok (.iload_n 2, 1) := by decide +kernel
theorem dX11_sum_8 : decode cX11_sum 8 = .ok (.if_icmp .ge 21, 3) := by decide +kernel
theorem dX11_sum_11 : decode cX11_sum 11 = .ok (.iload_n 3, 1) := by decide +kernel
theorem dX11_sum_12 : decode cX11_sum 12 = .ok (.aload_n 0, 1) := by decide +kernel
theorem dX11_sum_13 : decode cX11_sum 13 = .ok (.getfield 35, 3) := by decide +kernel
theorem dX11_sum_16 : decode cX11_sum 16 = .ok (.iload_n 1, 1) := by decide +kernel
theorem dX11_sum_17 : decode cX11_sum 17 = .ok (.iload 4, 2) := by decide +kernel
theorem dX11_sum_19 : decode cX11_sum 19 = .ok (.iadd, 1) := by decide +kernel
theorem dX11_sum_20 : decode cX11_sum 20 = .ok (.iaload, 1) := by decide +kernel
theorem dX11_sum_21 : decode cX11_sum 21 = .ok (.iadd, 1) := by decide +kernel
theorem dX11_sum_22 : decode cX11_sum 22 = .ok (.istore_n 3, 1) := by decide +kernel
theorem dX11_sum_23 : decode cX11_sum 23 = .ok (.iinc 4 1, 3) := by decide +kernel
theorem dX11_sum_26 : decode cX11_sum 26 = .ok (.goto (-21), 3) := by decide +kernel
theorem dX11_sum_29 : decode cX11_sum 29 = .ok (.iload_n 3, 1) := by decide +kernel
theorem dX11_sum_30 : decode cX11_sum 30 = .ok (.ireturn, 1) := by decide +kernel
theorem dX11_fieldsThat_0 : decode cX11_fieldsThat 0 = .ok (.iconst 0, 1) := by decide +kernel
theorem dX11_fieldsThat_1 : decode cX11_fieldsThat 1 = .ok (.istore_n 2, 1) := by decide +kernel
theorem dX11_fieldsThat_2 : decode cX11_fieldsThat 2 = .ok (.iconst 0, 1) := by decide +kernel
theorem dX11_fieldsThat_3 : decode cX11_fieldsThat 3 = .ok (.istore_n 3, 1) := by decide +kernel
theorem dX11_fieldsThat_4 : decode cX11_fieldsThat 4 = .ok (.iload_n 3, 1) := by decide +kernel
theorem dX11_fieldsThat_5 : decode cX11_fieldsThat 5 = .ok (.aload_n 0, 1) := by decide +kernel
theorem dX11_fieldsThat_6 : decode cX11_fieldsThat 6 = .ok (.getfield 35, 3) := by decide +kernel
theorem dX11_fieldsThat_9 : decode cX11_fieldsThat 9 = .ok (.iconst 5, 1) := by decide +kernel
theorem dX11_fieldsThat_10 : decode cX11_fieldsThat 10 = .ok (.iaload, 1) := by decide +kernel
theorem dX11_fieldsThat_11 : decode cX11_fieldsThat 11 = .ok (.if_icmp .ge 33, 3) := by decide +kernel
theorem dX11_fieldsThat_14 : decode cX11_fieldsThat 14 = .ok (.iload_n 2, 1) := by decide +kernel
theorem dX11_fieldsThat_15 : decode cX11_fieldsThat 15 = .ok (.aload_n 0, 1) := by decide +kernel
theorem dX11_fieldsThat_16 : decode cX11_fieldsThat 16 = .ok (.getfield 35, 3) := by decide +kernel
theorem dX11_fieldsThat_19 : decode cX11_fieldsThat 19 = .ok (.sipush 164, 3) := by decide +kernel
theorem dX11_fieldsThat_22 : decode cX11_fieldsThat 22 = .ok (.iload_n 3, 1) := by decide +kernel
theorem dX11_fieldsThat_23 : decode cX11_fieldsThat 23 = .ok (.iadd, 1) := by decide +kernel
theorem dX11_fieldsThat_24 : decode cX11_fieldsThat 24 = .ok (.iaload, 1) := by decide +kernel
theorem dX11_fieldsThat_25 : decode cX11_fieldsThat 25 = .ok (.iload_n 1, 1) := by decide +kernel
theorem dX11_fieldsThat_26 : decode cX11_fieldsThat 26 = .ok (.if_icmp .ne 9, 3) := by decide +kernel
theorem dX11_fieldsThat_29 : decode cX11_fieldsThat 29 = .ok (.iconst 1, 1) := by decide +kernel
theorem dX11_fieldsThat_30 : decode cX11_fieldsThat 30 = .ok (.iload_n 3, 1) := by decide +kernel
theorem dX11_fieldsThat_31 : decode cX11_fieldsThat 31 = .ok (.ishl, 1) := by decide +kernel
theorem dX11_fieldsThat_32 : decode cX11_fieldsThat 32 = .ok (.goto 4, 3) := by decide +kernel
theorem dX11_fieldsThat_35 : decode cX11_fieldsThat 35 = .ok (.iconst 0, 1) := by decide +kernel
theorem dX11_fieldsThat_36 : decode cX11_fieldsThat 36 = .ok (.ior, 1) := by decide +kernel
theorem dX11_fieldsThat_37 : decode cX11_fieldsThat 37 = .ok (.istore_n 2, 1) := by decide +kernel
theorem dX11_fieldsThat_38 : decode cX11_fieldsThat 38 = .ok (.iinc 3 1, 3) := by decide +kernel
theorem dX11_fieldsThat_41 : decode cX11_fieldsThat 41 = .ok (.goto (-37), 3) := by decide +kernel
theorem dX11_fieldsThat_44 : decode cX11_fieldsThat 44 = .ok (.iload_n 2, 1) := by decide +kernel
theorem dX11_fieldsThat_45 : decode cX11_fieldsThat 45 = .ok (.ireturn, 1) := by decide +kernel
theorem dX11_many_0 : decode cX11_many 0 = .ok (.aload_n 0, 1) := by decide +kernel
theorem dX11_many_1 : decode cX11_many 1 = .ok (.iconst 0, 1) := by decide +kernel
theorem dX11_many_2 : decode cX11_many 2 = .ok (.putfield 59, 3) := by decide +kernel
theorem dX11_many_5 : decode cX11_many 5 = .ok (.aload_n 0, 1) := by decide +kernel
theorem dX11_many_6 : decode cX11_many 6 = .ok (.iconst 0, 1) := by decide +kernel
theorem dX11_many_7 : decode cX11_many 7 = .ok (.putfield 62, 3) := by decide +kernel
theorem dX11_many_10 : decode cX11_many 10 = .ok (.iload_n 1, 1) := by decide +kernel
theorem dX11_many_11 : decode cX11_many 11 = .ok (.i2l, 1) := by decide +kernel
theorem dX11_many_12 : decode cX11_many 12 = .ok (.lconst 0, 1) := by decide +kernel
theorem dX11_many_13 : decode cX11_many 13 = .ok (.ldc2_w 310, 3) := by decide +kernel
theorem dX11_many_16 : decode cX11_many 16 = .ok (.invokestatic 94, 3) := by decide +kernel
theorem dX11_many_19 : decode cX11_many 19 = .ok (.ifCond .ne 9, 3) := by decide +kernel
theorem dX11_many_22 : decode cX11_many 22 = .ok (.aload_n 0, 1) := by decide +kernel
theorem dX11_many_23 : decode cX11_many 23 = .ok (.iconst 5, 1) := by decide +kernel
theorem dX11_many_24 : decode cX11_many 24 = .ok (.invokevirtual 312, 3) := by decide +kernel
theorem dX11_many_27 : decode cX11_many 27 = .ok (.ireturn, 1) := by decide +kernel
theorem dX11_many_28 : decode cX11_many 28 = .ok (.iload_n 1, 1) := by decide +kernel
theorem dX11_many_29 : decode cX11_many 29 = .ok (.bipush 7, 2) := by decide +kernel
theorem dX11_many_31 : decode cX11_many 31 = .ok (.if_icmp .ge 10, 3) := by decide +kernel
theorem dX11_many_34 : decode cX11_many 34 = .ok (.aload_n 0, 1) := by decide +kernel
theorem dX11_many_35 : decode cX11_many 35 = .ok (.getfield 35, 3) := by decide +kernel
theorem dX11_many_38 : decode cX11_many 38 = .ok (.iload_n 1, 1) := by decide +kernel
theorem dX11_many_39 : decode cX11_many 39 = .ok (.iaload, 1) := by decide +kernel
theorem dX11_many_40 : decode cX11_many 40 = .ok (.ireturn, 1) := by decide +kernel
theorem dX11_many_41 : decode cX11_many 41 = .ok (.iload_n 1, 1) := by decide +kernel
theorem dX11_many_42 : decode cX11_many 42 = .ok (.bipush 9, 2) := by decide +kernel
theorem dX11_many_44 : decode cX11_many 44 = .ok (.if_icmp .ge 16, 3) := by decide +kernel
theorem dX11_many_47 : decode cX11_many 47 = .ok (.aload_n 0, 1) := by decide +kernel
theorem dX11_many_48 : decode cX11_many 48 = .ok (.getfield 35, 3) := by decide +kernel
theorem dX11_many_51 : decode cX11_many 51 = .ok (.bipush 8, 2) := by decide +kernel
theorem dX11_many_53 : decode cX11_many 53 = .ok (.iload_n 1, 1) := by decide +kernel
theorem dX11_many_54 : decode cX11_many 54 = .ok (.iadd, 1) := by decide +kernel
theorem dX11_many_55 : decode cX11_many 55 = .ok (.bipush 7, 2) := by decide +kernel
theorem dX11_many_57 : decode cX11_many 57 = .ok (.isub, 1) := by decide +kernel
theorem dX11_many_58 : decode cX11_many 58 = .ok (.iaload, 1) := by decide +kernel
theorem dX11_many_59 : decode cX11_many 59 = .ok (.ireturn, 1) := by decide +kernel
theorem dX11_many_60 : decode cX11_many 60 = .ok (.iload_n 1, 1) := by decide +kernel
theorem dX11_many_61 : decode cX11_many 61 = .ok (.bipush 11, 2) := by decide +kernel
theorem dX11_many_63 : decode cX11_many 63 = .ok (.if_icmp .ge 28, 3) := by decide +kernel
theorem dX11_many_66 : decode cX11_many 66 = .ok (.iload_n 1, 1) := by decide +kernel
theorem dX11_many_67 : decode cX11_many 67 = .ok (.bipush 9, 2) := by decide +kernel
theorem dX11_many_69 : decode cX11_many 69 = .ok (.if_icmp .ne 13, 3) := by decide +kernel
theorem dX11_many_72 : decode cX11_many 72 = .ok (.aload_n 0, 1) := by decide +kernel
theorem dX11_many_73 : decode cX11_many 73 = .ok (.bipush 10, 2) := by decide +kernel
theorem dX11_many_75 : decode cX11_many 75 = .ok (.iconst 4, 1) := by decide +kernel
theorem dX11_many_76 : decode cX11_many 76 = .ok (.invokevirtual 315, 3) := by decide +kernel
theorem dX11_many_79 : decode cX11_many 79 = .ok (.goto 11, 3) := by decide +kernel
