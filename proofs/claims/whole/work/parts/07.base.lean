theorem x_pI {α : Type} (x : Int32) (r : List Value) (f : Int32 → List Value → Option α) : am_popI (.int x :: r) f = f x r := id rfl
theorem x_pL {α : Type} (x : Int64) (r : List Value) (f : Int64 → List Value → Option α) : am_popL (.long x :: r) f = f x r := id rfl
theorem x_pR {α : Type} (x : Nat) (r : List Value) (f : Nat → List Value → Option α) : am_popR (.ref x :: r) f = f x r := id rfl
theorem x_bI (x : Int32) (σ : am_M) (f : Int32 → am_M → Option am_R) : am_bI (some (some (.int x), σ)) f = f x σ := id rfl
theorem x_bL (x : Int64) (σ : am_M) (f : Int64 → am_M → Option am_R) : am_bL (some (some (.long x), σ)) f = f x σ := id rfl
theorem x_bV (σ : am_M) (f : am_M → Option am_R) : am_bV (some (none, σ)) f = f σ := id rfl
theorem x_bN (f : Int32 → am_M → Option am_R) : am_bI none f = none := id rfl
theorem x_bNL (f : Int64 → am_M → Option am_R) : am_bL none f = none := id rfl
theorem x_bNV (f : am_M → Option am_R) : am_bV none f = none := id rfl
theorem kd_0 : am_kd 0 = 10 := id rfl
theorem kd_1 : am_kd 1 = 23 := id rfl
theorem ln_1 : am_ln 1 = 4 := id rfl
theorem kd_2 : am_kd 2 = 22 := id rfl
theorem ln_2 : am_ln 2 = 900 := id rfl
theorem kd_3 : am_kd 3 = 3 := id rfl
theorem kd_4 : am_kd 4 = 21 := id rfl
theorem ln_4 : am_ln 4 = 23 := id rfl
theorem kd_5 : am_kd 5 = 22 := id rfl
theorem ln_5 : am_ln 5 = 0 := id rfl
theorem kd_6 : am_kd 6 = 9 := id rfl
theorem kd_7 : am_kd 7 = 5 := id rfl
theorem kd_8 : am_kd 8 = 20 := id rfl
theorem ln_8 : am_ln 8 = 3 := id rfl
theorem kd_9 : am_kd 9 = 8 := id rfl
theorem kd_10 : am_kd 10 = 6 := id rfl
theorem kd_11 : am_kd 11 = 20 := id rfl
theorem ln_11 : am_ln 11 = 168 := id rfl
theorem kd_12 : am_kd 12 = 20 := id rfl
theorem ln_12 : am_ln 12 = 7 := id rfl
theorem kd_13 : am_kd 13 = 20 := id rfl
theorem ln_13 : am_ln 13 = 24 := id rfl
theorem kd_14 : am_kd 14 = 20 := id rfl
theorem ln_14 : am_ln 14 = 4 := id rfl
theorem kd_15 : am_kd 15 = 20 := id rfl
theorem ln_15 : am_ln 15 = 7 := id rfl
theorem kd_16 : am_kd 16 = 20 := id rfl
theorem ln_16 : am_ln 16 = 4 := id rfl
theorem kd_17 : am_kd 17 = 4 := id rfl
theorem kd_18 : am_kd 18 = 20 := id rfl
theorem ln_18 : am_ln 18 = 360 := id rfl
theorem kd_19 : am_kd 19 = 21 := id rfl
theorem ln_19 : am_ln 19 = 4 := id rfl
theorem kd_20 : am_kd 20 = 21 := id rfl
theorem ln_20 : am_ln 20 = 6 := id rfl
theorem kd_21 : am_kd 21 = 20 := id rfl
theorem ln_21 : am_ln 21 = 6 := id rfl
theorem kd_22 : am_kd 22 = 20 := id rfl
theorem ln_22 : am_ln 22 = 6 := id rfl
theorem kd_23 : am_kd 23 = 20 := id rfl
theorem ln_23 : am_ln 23 = 6 := id rfl
theorem kd_24 : am_kd 24 = 20 := id rfl
theorem ln_24 : am_ln 24 = 6 := id rfl
theorem kd_25 : am_kd 25 = 20 := id rfl
theorem ln_25 : am_ln 25 = 6 := id rfl
theorem kd_26 : am_kd 26 = 8 := id rfl
theorem kd_27 : am_kd 27 = 6 := id rfl
theorem kd_28 : am_kd 28 = 20 := id rfl
theorem ln_28 : am_ln 28 = 168 := id rfl
theorem kd_29 : am_kd 29 = 20 := id rfl
theorem ln_29 : am_ln 29 = 7 := id rfl
theorem kd_30 : am_kd 30 = 20 := id rfl
theorem ln_30 : am_ln 30 = 24 := id rfl
theorem kd_31 : am_kd 31 = 20 := id rfl
theorem ln_31 : am_ln 31 = 4 := id rfl
theorem kd_32 : am_kd 32 = 20 := id rfl
theorem ln_32 : am_ln 32 = 7 := id rfl
theorem kd_33 : am_kd 33 = 20 := id rfl
theorem ln_33 : am_ln 33 = 4 := id rfl
theorem kd_34 : am_kd 34 = 4 := id rfl
theorem kd_35 : am_kd 35 = 20 := id rfl
theorem ln_35 : am_ln 35 = 360 := id rfl
theorem kd_36 : am_kd 36 = 21 := id rfl
theorem ln_36 : am_ln 36 = 4 := id rfl
theorem kd_37 : am_kd 37 = 21 := id rfl
theorem ln_37 : am_ln 37 = 6 := id rfl
theorem kd_38 : am_kd 38 = 20 := id rfl
theorem ln_38 : am_ln 38 = 6 := id rfl
theorem kd_39 : am_kd 39 = 20 := id rfl
theorem ln_39 : am_ln 39 = 6 := id rfl
theorem kd_40 : am_kd 40 = 20 := id rfl
theorem ln_40 : am_ln 40 = 6 := id rfl
theorem kd_41 : am_kd 41 = 20 := id rfl
theorem ln_41 : am_ln 41 = 6 := id rfl
theorem kd_42 : am_kd 42 = 20 := id rfl
theorem ln_42 : am_ln 42 = 6 := id rfl
theorem kd_43 : am_kd 43 = 24 := id rfl
theorem ln_43 : am_ln 43 = 3 := id rfl
theorem kd_44 : am_kd 44 = 0 := id rfl
theorem kd_45 : am_kd 45 = 20 := id rfl
theorem ln_45 : am_ln 45 = 60 := id rfl
theorem kd_46 : am_kd 46 = 20 := id rfl
theorem ln_46 : am_ln 46 = 49 := id rfl
theorem kd_47 : am_kd 47 = 0 := id rfl
theorem kd_48 : am_kd 48 = 20 := id rfl
theorem ln_48 : am_ln 48 = 60 := id rfl
theorem kd_49 : am_kd 49 = 20 := id rfl
theorem ln_49 : am_ln 49 = 49 := id rfl
theorem kd_50 : am_kd 50 = 2 := id rfl
theorem kd_51 : am_kd 51 = 20 := id rfl
theorem ln_51 : am_ln 51 = 196 := id rfl
theorem kd_52 : am_kd 52 = 20 := id rfl
theorem ln_52 : am_ln 52 = 4 := id rfl
theorem kd_53 : am_kd 53 = 1 := id rfl
theorem kd_54 : am_kd 54 = 6 := id rfl
theorem kd_55 : am_kd 55 = 20 := id rfl
theorem ln_55 : am_ln 55 = 168 := id rfl
theorem kd_56 : am_kd 56 = 20 := id rfl
theorem ln_56 : am_ln 56 = 7 := id rfl
theorem kd_57 : am_kd 57 = 20 := id rfl
theorem ln_57 : am_ln 57 = 24 := id rfl
theorem kd_58 : am_kd 58 = 20 := id rfl
theorem ln_58 : am_ln 58 = 4 := id rfl
theorem kd_59 : am_kd 59 = 20 := id rfl
theorem ln_59 : am_ln 59 = 7 := id rfl
theorem kd_60 : am_kd 60 = 20 := id rfl
theorem ln_60 : am_ln 60 = 4 := id rfl
theorem kd_61 : am_kd 61 = 20 := id rfl
theorem ln_61 : am_ln 61 = 24 := id rfl
theorem kd_62 : am_kd 62 = 20 := id rfl
theorem ln_62 : am_ln 62 = 4 := id rfl
theorem kd_63 : am_kd 63 = 20 := id rfl
theorem ln_63 : am_ln 63 = 49 := id rfl
theorem kd_64 : am_kd 64 = 7 := id rfl
theorem kd_65 : am_kd 65 = 21 := id rfl
theorem ln_65 : am_ln 65 = 60 := id rfl
theorem kd_66 : am_kd 66 = 7 := id rfl
theorem kd_67 : am_kd 67 = 21 := id rfl
theorem ln_67 : am_ln 67 = 60 := id rfl
theorem kd_68 : am_kd 68 = 7 := id rfl
theorem kd_69 : am_kd 69 = 21 := id rfl
theorem ln_69 : am_ln 69 = 60 := id rfl
theorem kd_70 : am_kd 70 = 7 := id rfl
theorem kd_71 : am_kd 71 = 21 := id rfl
theorem ln_71 : am_ln 71 = 60 := id rfl
theorem kd_72 : am_kd 72 = 8 := id rfl
theorem kd_73 : am_kd 73 = 6 := id rfl
theorem kd_74 : am_kd 74 = 20 := id rfl
theorem ln_74 : am_ln 74 = 168 := id rfl
theorem kd_75 : am_kd 75 = 20 := id rfl
theorem ln_75 : am_ln 75 = 7 := id rfl
theorem kd_76 : am_kd 76 = 20 := id rfl
theorem ln_76 : am_ln 76 = 24 := id rfl
theorem kd_77 : am_kd 77 = 20 := id rfl
theorem ln_77 : am_ln 77 = 4 := id rfl
theorem kd_78 : am_kd 78 = 20 := id rfl
theorem ln_78 : am_ln 78 = 7 := id rfl
theorem kd_79 : am_kd 79 = 20 := id rfl
theorem ln_79 : am_ln 79 = 4 := id rfl
theorem kd_80 : am_kd 80 = 4 := id rfl
theorem kd_81 : am_kd 81 = 20 := id rfl
theorem ln_81 : am_ln 81 = 360 := id rfl
theorem kd_82 : am_kd 82 = 21 := id rfl
theorem ln_82 : am_ln 82 = 4 := id rfl
theorem kd_83 : am_kd 83 = 21 := id rfl
theorem ln_83 : am_ln 83 = 6 := id rfl
theorem kd_84 : am_kd 84 = 20 := id rfl
theorem ln_84 : am_ln 84 = 6 := id rfl
theorem kd_85 : am_kd 85 = 20 := id rfl
theorem ln_85 : am_ln 85 = 6 := id rfl
theorem kd_86 : am_kd 86 = 20 := id rfl
theorem ln_86 : am_ln 86 = 6 := id rfl
theorem kd_87 : am_kd 87 = 20 := id rfl
theorem ln_87 : am_ln 87 = 6 := id rfl
theorem kd_88 : am_kd 88 = 20 := id rfl
theorem ln_88 : am_ln 88 = 6 := id rfl
theorem kd_89 : am_kd 89 = 8 := id rfl
theorem kd_90 : am_kd 90 = 6 := id rfl
theorem kd_91 : am_kd 91 = 20 := id rfl
theorem ln_91 : am_ln 91 = 168 := id rfl
theorem kd_92 : am_kd 92 = 20 := id rfl
theorem ln_92 : am_ln 92 = 7 := id rfl
theorem kd_93 : am_kd 93 = 20 := id rfl
theorem ln_93 : am_ln 93 = 24 := id rfl
theorem kd_94 : am_kd 94 = 20 := id rfl
theorem ln_94 : am_ln 94 = 4 := id rfl
theorem kd_95 : am_kd 95 = 20 := id rfl
theorem ln_95 : am_ln 95 = 7 := id rfl
theorem kd_96 : am_kd 96 = 20 := id rfl
theorem ln_96 : am_ln 96 = 4 := id rfl
theorem kd_97 : am_kd 97 = 4 := id rfl
theorem kd_98 : am_kd 98 = 20 := id rfl
theorem ln_98 : am_ln 98 = 360 := id rfl
theorem kd_99 : am_kd 99 = 21 := id rfl
theorem ln_99 : am_ln 99 = 4 := id rfl
theorem kd_100 : am_kd 100 = 21 := id rfl
theorem ln_100 : am_ln 100 = 6 := id rfl
theorem kd_101 : am_kd 101 = 20 := id rfl
theorem ln_101 : am_ln 101 = 6 := id rfl
theorem kd_102 : am_kd 102 = 20 := id rfl
theorem ln_102 : am_ln 102 = 6 := id rfl
theorem kd_103 : am_kd 103 = 20 := id rfl
theorem ln_103 : am_ln 103 = 6 := id rfl
theorem kd_104 : am_kd 104 = 20 := id rfl
theorem ln_104 : am_ln 104 = 6 := id rfl
theorem kd_105 : am_kd 105 = 20 := id rfl
theorem ln_105 : am_ln 105 = 6 := id rfl
theorem kd_106 : am_kd 106 = 8 := id rfl
theorem kd_107 : am_kd 107 = 6 := id rfl
theorem kd_108 : am_kd 108 = 20 := id rfl
theorem ln_108 : am_ln 108 = 168 := id rfl
theorem kd_109 : am_kd 109 = 20 := id rfl
theorem ln_109 : am_ln 109 = 7 := id rfl
theorem kd_110 : am_kd 110 = 20 := id rfl
theorem ln_110 : am_ln 110 = 24 := id rfl
theorem kd_111 : am_kd 111 = 20 := id rfl
theorem ln_111 : am_ln 111 = 4 := id rfl
theorem kd_112 : am_kd 112 = 20 := id rfl
theorem ln_112 : am_ln 112 = 7 := id rfl
theorem kd_113 : am_kd 113 = 20 := id rfl
theorem ln_113 : am_ln 113 = 4 := id rfl
theorem kd_114 : am_kd 114 = 4 := id rfl
theorem kd_115 : am_kd 115 = 20 := id rfl
theorem ln_115 : am_ln 115 = 360 := id rfl
theorem kd_116 : am_kd 116 = 21 := id rfl
theorem ln_116 : am_ln 116 = 4 := id rfl
theorem kd_117 : am_kd 117 = 21 := id rfl
theorem ln_117 : am_ln 117 = 6 := id rfl
theorem kd_118 : am_kd 118 = 20 := id rfl
theorem ln_118 : am_ln 118 = 6 := id rfl
theorem kd_119 : am_kd 119 = 20 := id rfl
theorem ln_119 : am_ln 119 = 6 := id rfl
theorem kd_120 : am_kd 120 = 20 := id rfl
theorem ln_120 : am_ln 120 = 6 := id rfl
theorem kd_121 : am_kd 121 = 20 := id rfl
theorem ln_121 : am_ln 121 = 6 := id rfl
theorem kd_122 : am_kd 122 = 20 := id rfl
theorem ln_122 : am_ln 122 = 6 := id rfl
theorem kd_123 : am_kd 123 = 11 := id rfl
theorem kd_124 : am_kd 124 = 20 := id rfl
theorem ln_124 : am_ln 124 = 4 := id rfl
theorem kd_125 : am_kd 125 = 20 := id rfl
theorem ln_125 : am_ln 125 = 4 := id rfl
theorem kd_126 : am_kd 126 = 21 := id rfl
theorem ln_126 : am_ln 126 = 240 := id rfl
theorem kd_127 : am_kd 127 = 22 := id rfl
theorem ln_127 : am_ln 127 = 900 := id rfl
theorem kd_128 : am_kd 128 = 20 := id rfl
theorem ln_128 : am_ln 128 = 2210 := id rfl
theorem kd_129 : am_kd 129 = 20 := id rfl
theorem ln_129 : am_ln 129 = 1020 := id rfl
theorem kd_130 : am_kd 130 = 20 := id rfl
theorem ln_130 : am_ln 130 = 170 := id rfl
theorem kd_131 : am_kd 131 = 21 := id rfl
theorem ln_131 : am_ln 131 = 50 := id rfl
theorem kd_132 : am_kd 132 = 20 := id rfl
theorem ln_132 : am_ln 132 = 4 := id rfl
theorem kd_133 : am_kd 133 = 20 := id rfl
theorem ln_133 : am_ln 133 = 24 := id rfl
theorem kd_134 : am_kd 134 = 20 := id rfl
theorem ln_134 : am_ln 134 = 4 := id rfl
theorem kd_135 : am_kd 135 = 20 := id rfl
theorem ln_135 : am_ln 135 = 5 := id rfl
theorem g_X4_part (a0 : Nat) (a1 : Int32) (a2 : Int32) (σ : am_M) : S_X4_part [.ref a0, .int a1, .int a2] σ = dn_X4_part_0 [some (.ref a0), some (.int a1), some (.int a2)] [] σ := id rfl
theorem g_X0_afterEnd (a0 : Nat) (a1 : Nat) (a2 : Int32) (σ : am_M) : S_X0_afterEnd [.ref a0, .ref a1, .int a2] σ = dn_X0_afterEnd_0 [some (.ref a0), some (.ref a1), some (.int a2), none] [] σ := id rfl
theorem g_X0_compares (a0 : Int32) (a1 : Nat) (a2 : Int32) (σ : am_M) : S_X0_compares [.int a0, .ref a1, .int a2] σ = dn_X0_compares_0 [some (.int a0), some (.ref a1), some (.int a2), none] [] σ := id rfl
theorem g_X10_rankOf (a0 : Int32) (σ : am_M) : S_X10_rankOf [.int a0] σ = dn_X10_rankOf_0 [some (.int a0)] [] σ := id rfl
theorem g_X10_suitOf (a0 : Int32) (σ : am_M) : S_X10_suitOf [.int a0] σ = dn_X10_suitOf_0 [some (.int a0)] [] σ := id rfl
theorem g_X6_isRed (a0 : Nat) (a1 : Int32) (σ : am_M) : S_X6_isRed [.ref a0, .int a1] σ = dn_X6_isRed_0 [some (.ref a0), some (.int a1)] [] σ := id rfl
theorem g_X6_topCard (a0 : Nat) (a1 : Int32) (σ : am_M) : S_X6_topCard [.ref a0, .int a1] σ = dn_X6_topCard_0 [some (.ref a0), some (.int a1)] [] σ := id rfl
theorem g_X6_bears (a0 : Nat) (a1 : Int32) (a2 : Int32) (σ : am_M) : S_X6_bears [.ref a0, .int a1, .int a2] σ = dn_X6_bears_0 [some (.ref a0), some (.int a1), some (.int a2), none] [] σ := id rfl
theorem g_X6_isTarget (a0 : Nat) (a1 : Int32) (σ : am_M) : S_X6_isTarget [.ref a0, .int a1] σ = dn_X6_isTarget_0 [some (.ref a0), some (.int a1)] [] σ := id rfl
theorem g_X6_allows (a0 : Nat) (a1 : Int32) (a2 : Int32) (σ : am_M) : S_X6_allows [.ref a0, .int a1, .int a2] σ = dn_X6_allows_0 [some (.ref a0), some (.int a1), some (.int a2), none, none] [] σ := id rfl
theorem g_X6_listMoves (a0 : Nat) (a1 : Nat) (a2 : Int32) (σ : am_M) : S_X6_listMoves [.ref a0, .ref a1, .int a2] σ = dn_X6_listMoves_0 (am_it (hd_X6_listMoves) am_fuel) [some (.ref a0), some (.ref a1), some (.int a2), none, none, none, none] [] σ := id rfl
theorem g_X0_holds (a0 : Nat) (a1 : Nat) (a2 : Int32) (σ : am_M) : S_X0_holds [.ref a0, .ref a1, .int a2] σ = dn_X0_holds_0 [some (.ref a0), some (.ref a1), some (.int a2), none, none] [] σ := id rfl
theorem g_X8_dry (a0 : Nat) (a1 : Int32) (a2 : Int32) (σ : am_M) : S_X8_dry [.ref a0, .int a1, .int a2] σ = dn_X8_dry_0 [some (.ref a0), some (.int a1), some (.int a2)] [] σ := id rfl
theorem g_X8_passDays (a0 : Nat) (a1 : Int32) (σ : am_M) : S_X8_passDays [.ref a0, .int a1] σ = dn_X8_passDays_0 (am_it (hd_X8_passDays) am_fuel) [some (.ref a0), some (.int a1), none] [] σ := id rfl
theorem g_X0_letPass (a0 : Nat) (a1 : Nat) (a2 : Int32) (σ : am_M) : S_X0_letPass [.ref a0, .ref a1, .int a2] σ = dn_X0_letPass_0 [some (.ref a0), some (.ref a1), some (.int a2)] [] σ := id rfl
theorem g_X6_lay (a0 : Nat) (a1 : Int32) (a2 : Int32) (σ : am_M) : S_X6_lay [.ref a0, .int a1, .int a2] σ = dn_X6_lay_0 [some (.ref a0), some (.int a1), some (.int a2)] [] σ := id rfl
theorem g_X6_lift (a0 : Nat) (a1 : Int32) (σ : am_M) : S_X6_lift [.ref a0, .int a1] σ = dn_X6_lift_0 [some (.ref a0), some (.int a1)] [] σ := id rfl
theorem g_X6_raise (a0 : Nat) (a1 : Int32) (a2 : Int32) (σ : am_M) : S_X6_raise [.ref a0, .int a1, .int a2] σ = dn_X6_raise_0 [some (.ref a0), some (.int a1), some (.int a2)] [] σ := id rfl
theorem g_X6_shift (a0 : Nat) (a1 : Int32) (a2 : Int32) (σ : am_M) : S_X6_shift [.ref a0, .int a1, .int a2] σ = dn_X6_shift_0 [some (.ref a0), some (.int a1), some (.int a2), none] [] σ := id rfl
theorem g_X8_wet (a0 : Nat) (a1 : Int32) (a2 : Int32) (σ : am_M) : S_X8_wet [.ref a0, .int a1, .int a2] σ = dn_X8_wet_0 [some (.ref a0), some (.int a1), some (.int a2)] [] σ := id rfl
theorem g_X8_wetSuit (a0 : Nat) (a1 : Int32) (a2 : Int32) (σ : am_M) : S_X8_wetSuit [.ref a0, .int a1, .int a2] σ = dn_X8_wetSuit_0 (am_it (hd_X8_wetSuit) am_fuel) [some (.ref a0), some (.int a1), some (.int a2), none] [] σ := id rfl
theorem g_X8_play (a0 : Nat) (a1 : Int32) (a2 : Int32) (σ : am_M) : S_X8_play [.ref a0, .int a1, .int a2] σ = dn_X8_play_0 [some (.ref a0), some (.int a1), some (.int a2), none] [] σ := id rfl
theorem g_X0_carry (a0 : Nat) (a1 : Nat) (a2 : Int32) (a3 : Int32) (σ : am_M) : S_X0_carry [.ref a0, .ref a1, .int a2, .int a3] σ = dn_X0_carry_0 [some (.ref a0), some (.ref a1), some (.int a2), some (.int a3)] [] σ := id rfl
theorem g_X10_stir (a0 : Int32) (σ : am_M) : S_X10_stir [.int a0] σ = dn_X10_stir_0 [some (.int a0)] [] σ := id rfl
theorem g_X0_makeAny (a0 : Nat) (a1 : Nat) (σ : am_M) : S_X0_makeAny [.ref a0, .ref a1] σ = dn_X0_makeAny_0 [some (.ref a0), some (.ref a1), none, none] [] σ := id rfl
theorem g_X6_isSource (a0 : Nat) (a1 : Int32) (σ : am_M) : S_X6_isSource [.ref a0, .int a1] σ = dn_X6_isSource_0 [some (.ref a0), some (.int a1)] [] σ := id rfl
theorem g_X0_makeMove (a0 : Nat) (a1 : Nat) (a2 : Int32) (a3 : Int32) (σ : am_M) : S_X0_makeMove [.ref a0, .ref a1, .int a2, .int a3] σ = dn_X0_makeMove_0 [some (.ref a0), some (.ref a1), some (.int a2), some (.int a3)] [] σ := id rfl
theorem g_X6_cardAt (a0 : Nat) (a1 : Int32) (a2 : Int32) (σ : am_M) : S_X6_cardAt [.ref a0, .int a1, .int a2] σ = dn_X6_cardAt_0 [some (.ref a0), some (.int a1), some (.int a2)] [] σ := id rfl
theorem g_X6_ripenPile (a0 : Nat) (a1 : Int32) (σ : am_M) : S_X6_ripenPile [.ref a0, .int a1] σ = dn_X6_ripenPile_0 (am_it (hd_X6_ripenPile) am_fuel) [some (.ref a0), some (.int a1), none, none, none, none] [] σ := id rfl
theorem g_X6_ripen (a0 : Nat) (σ : am_M) : S_X6_ripen [.ref a0] σ = dn_X6_ripen_0 (am_it (hd_X6_ripen) am_fuel) [some (.ref a0), none, none, none] [] σ := id rfl
theorem g_X6_riseMany (a0 : Nat) (σ : am_M) : S_X6_riseMany [.ref a0] σ = dn_X6_riseMany_0 (am_it (hd_X6_riseMany) am_fuel) [some (.ref a0), none, none] [] σ := id rfl
theorem g_X6_settle (a0 : Nat) (σ : am_M) : S_X6_settle [.ref a0] σ = dn_X6_settle_0 [some (.ref a0)] [] σ := id rfl
theorem g_X8_bringHome (a0 : Nat) (σ : am_M) : S_X8_bringHome [.ref a0] σ = dn_X8_bringHome_0 (am_it (hd_X8_bringHome) am_fuel) [some (.ref a0), none, none, none] [] σ := id rfl
theorem g_X0_makeRun (a0 : Nat) (a1 : Nat) (σ : am_M) : S_X0_makeRun [.ref a0, .ref a1] σ = dn_X0_makeRun_0 [some (.ref a0), some (.ref a1), none] [] σ := id rfl
theorem g_X0_startRounds (a0 : Nat) (a1 : Int32) (a2 : Int32) (σ : am_M) : S_X0_startRounds [.ref a0, .int a1, .int a2] σ = dn_X0_startRounds_0 [some (.ref a0), some (.int a1), some (.int a2)] [] σ := id rfl
theorem g_X6_stockMany (a0 : Nat) (σ : am_M) : S_X6_stockMany [.ref a0] σ = dn_X6_stockMany_0 [some (.ref a0)] [] σ := id rfl
theorem g_X6_hasDeal (a0 : Nat) (σ : am_M) : S_X6_hasDeal [.ref a0] σ = dn_X6_hasDeal_0 [some (.ref a0)] [] σ := id rfl
theorem g_X6_layInStock (a0 : Nat) (a1 : Int32) (σ : am_M) : S_X6_layInStock [.ref a0, .int a1] σ = dn_X6_layInStock_0 [some (.ref a0), some (.int a1)] [] σ := id rfl
theorem g_X6_stockCard (a0 : Nat) (a1 : Int32) (σ : am_M) : S_X6_stockCard [.ref a0, .int a1] σ = dn_X6_stockCard_0 [some (.ref a0), some (.int a1), none] [] σ := id rfl
theorem g_X6_turnUp (a0 : Nat) (σ : am_M) : S_X6_turnUp [.ref a0] σ = dn_X6_turnUp_0 (am_it (hd_X6_turnUp) am_fuel) [some (.ref a0), none] [] σ := id rfl
theorem g_X0_turnCard (a0 : Nat) (σ : am_M) : S_X0_turnCard [.ref a0] σ = dn_X0_turnCard_0 [some (.ref a0)] [] σ := id rfl
theorem g_X0_afterStep (a0 : Nat) (a1 : Nat) (a2 : Int32) (σ : am_M) : S_X0_afterStep [.ref a0, .ref a1, .int a2] σ = dn_X0_afterStep_0 [some (.ref a0), some (.ref a1), some (.int a2), none, none, none] [] σ := id rfl
theorem g_X0_pass (a0 : Nat) (a1 : Nat) (a2 : Int32) (σ : am_M) : S_X0_pass [.ref a0, .ref a1, .int a2] σ = dn_X0_pass_0 (am_it (hd_X0_pass) am_fuel) [some (.ref a0), some (.ref a1), some (.int a2), none, none, none] [] σ := id rfl
theorem g_X1_mix (a0 : Nat) (a1 : Nat) (a2 : Int32) (σ : am_M) : S_X1_mix [.ref a0, .ref a1, .int a2] σ = dn_X1_mix_0 (am_it (hd_X1_mix) am_fuel) [some (.ref a0), some (.ref a1), some (.int a2), none, none, none, none, none] [] σ := id rfl
theorem g_J7_fill_53178 (a0 : Nat) (a1 : Int32) (σ : am_M) : S_J7_fill_53178 [.ref a0, .int a1] σ = dn_J7_fill_53178_0 (am_it (hd_J7_fill_53178) am_fuel) [some (.ref a0), some (.int a1), none, none] [] σ := id rfl
theorem g_X6_sweep (a0 : Nat) (σ : am_M) : S_X6_sweep [.ref a0] σ = dn_X6_sweep_0 [some (.ref a0)] [] σ := id rfl
theorem g_X1_dealOut (a0 : Nat) (a1 : Nat) (a2 : Int32) (σ : am_M) : S_X1_dealOut [.ref a0, .ref a1, .int a2] σ = dn_X1_dealOut_0 (am_it (hd_X1_dealOut) am_fuel) [some (.ref a0), some (.ref a1), some (.int a2), none, none, none, none] [] σ := id rfl
theorem g_X6_copyShape (a0 : Nat) (a1 : Nat) (σ : am_M) : S_X6_copyShape [.ref a0, .ref a1] σ = dn_X6_copyShape_0 [some (.ref a0), some (.ref a1)] [] σ := id rfl
theorem g_X1_tryOut (a0 : Nat) (a1 : Nat) (a2 : Int32) (σ : am_M) : S_X1_tryOut [.ref a0, .ref a1, .int a2] σ = dn_X1_tryOut_0 [some (.ref a0), some (.ref a1), some (.int a2)] [] σ := id rfl
theorem g_X10_ranksUpTo (a0 : Int32) (σ : am_M) : S_X10_ranksUpTo [.int a0] σ = dn_X10_ranksUpTo_0 [some (.int a0)] [] σ := id rfl
theorem g_X6_riseRanks (a0 : Nat) (a1 : Int32) (σ : am_M) : S_X6_riseRanks [.ref a0, .int a1] σ = dn_X6_riseRanks_0 [some (.ref a0), some (.int a1)] [] σ := id rfl
theorem g_X1_wetsOf (a0 : Nat) (a1 : Int32) (σ : am_M) : S_X1_wetsOf [.ref a0, .int a1] σ = dn_X1_wetsOf_0 [some (.ref a0), some (.int a1)] [] σ := id rfl
theorem g_X1_sumUp (a0 : Nat) (a1 : Nat) (a2 : Int32) (a3 : Int32) (σ : am_M) : S_X1_sumUp [.ref a0, .ref a1, .int a2, .int a3] σ = dn_X1_sumUp_0 (am_it (hd_X1_sumUp) am_fuel) [some (.ref a0), some (.ref a1), some (.int a2), some (.int a3), none, none] [] σ := id rfl
theorem g_X2_gain (a0 : Int32) (a1 : Int32) (a2 : Int32) (σ : am_M) : S_X2_gain [.int a0, .int a1, .int a2] σ = dn_X2_gain_0 [some (.int a0), some (.int a1), some (.int a2)] [] σ := id rfl
theorem g_X6_unshift (a0 : Nat) (a1 : Int32) (a2 : Int32) (a3 : Int32) (σ : am_M) : S_X6_unshift [.ref a0, .int a1, .int a2, .int a3] σ = dn_X6_unshift_0 [some (.ref a0), some (.int a1), some (.int a2), some (.int a3)] [] σ := id rfl
theorem g_X2_reach (E : am_F) (a0 : Nat) (a1 : Nat) (a2 : Int32) (a3 : Int32) (σ : am_M) : F_X2_reach E [.ref a0, .ref a1, .int a2, .int a3] σ = dn_X2_reach_0 E (am_it (hd_X2_reach E) am_fuel) [some (.ref a0), some (.ref a1), some (.int a2), some (.int a3), none, none, none, none, none, none] [] σ := id rfl
theorem g_X2_openingOf (a0 : Nat) (a1 : Int32) (σ : am_M) : S_X2_openingOf [.ref a0, .int a1] σ = dn_X2_openingOf_0 [some (.ref a0), some (.int a1)] [] σ := id rfl
theorem g_X2_duel (E : am_F) (a0 : Nat) (a1 : Nat) (a2 : Int32) (a3 : Int32) (a4 : Int32) (σ : am_M) : F_X2_duel E [.ref a0, .ref a1, .int a2, .int a3, .int a4] σ = dn_X2_duel_0 E (am_it (hd_X2_duel E) am_fuel) [some (.ref a0), some (.ref a1), some (.int a2), some (.int a3), some (.int a4), none, none, none, none, none, none] [] σ := id rfl
theorem g_X6_swap (a0 : Nat) (a1 : Int32) (a2 : Int32) (a3 : Int32) (a4 : Int32) (σ : am_M) : S_X6_swap [.ref a0, .int a1, .int a2, .int a3, .int a4] σ = dn_X6_swap_0 [some (.ref a0), some (.int a1), some (.int a2), some (.int a3), some (.int a4), none, none] [] σ := id rfl
theorem g_X2_swapsOf (a0 : Nat) (a1 : Nat) (a2 : Int32) (a3 : Int32) (a4 : Int32) (a5 : Int32) (σ : am_M) : S_X2_swapsOf [.ref a0, .ref a1, .int a2, .int a3, .int a4, .int a5] σ = dn_X2_swapsOf_0 (am_it (hd_X2_swapsOf) am_fuel) [some (.ref a0), some (.ref a1), some (.int a2), some (.int a3), some (.int a4), some (.int a5), none, none, none, none] [] σ := id rfl
theorem g_X2_bestSwap (a0 : Nat) (a1 : Nat) (a2 : Int32) (σ : am_M) : S_X2_bestSwap [.ref a0, .ref a1, .int a2] σ = dn_X2_bestSwap_0 (am_it (hd_X2_bestSwap) am_fuel) [some (.ref a0), some (.ref a1), some (.int a2), none, none, none] [] σ := id rfl
theorem g_X3_withLetter (a0 : Int64) (a1 : Int32) (σ : am_M) : S_X3_withLetter [.long a0, .int a1] σ = dn_X3_withLetter_0 [some (.long a0), none, some (.int a1)] [] σ := id rfl
theorem g_X3_open (a0 : Nat) (a1 : Nat) (a2 : Int32) (σ : am_M) : S_X3_open [.ref a0, .ref a1, .int a2] σ = dn_X3_open_0 [some (.ref a0), some (.ref a1), some (.int a2)] [] σ := id rfl
theorem g_X3_blame (a0 : Nat) (a1 : Int32) (σ : am_M) : S_X3_blame [.ref a0, .int a1] σ = dn_X3_blame_0 [some (.ref a0), some (.int a1)] [] σ := id rfl
theorem g_X3_byteHere (a0 : Nat) (σ : am_M) : S_X3_byteHere [.ref a0] σ = dn_X3_byteHere_0 [some (.ref a0)] [] σ := id rfl
theorem g_X3_isBlank (a0 : Int32) (σ : am_M) : S_X3_isBlank [.int a0] σ = dn_X3_isBlank_0 [some (.int a0)] [] σ := id rfl
theorem g_X3_isLetter (a0 : Int32) (σ : am_M) : S_X3_isLetter [.int a0] σ = dn_X3_isLetter_0 [some (.int a0)] [] σ := id rfl
theorem g_X3_isDigit (a0 : Int32) (σ : am_M) : S_X3_isDigit [.int a0] σ = dn_X3_isDigit_0 [some (.int a0)] [] σ := id rfl
theorem g_X3_readNumber (a0 : Nat) (σ : am_M) : S_X3_readNumber [.ref a0] σ = dn_X3_readNumber_0 (am_it (hd_X3_readNumber) am_fuel) [some (.ref a0)] [] σ := id rfl
theorem g_X3_readWord (a0 : Nat) (σ : am_M) : S_X3_readWord [.ref a0] σ = dn_X3_readWord_0 (am_it (hd_X3_readWord) am_fuel) [some (.ref a0), none] [] σ := id rfl
theorem g_X3_step (a0 : Nat) (σ : am_M) : S_X3_step [.ref a0] σ = dn_X3_step_0 (am_it (hd_X3_step) am_fuel) [some (.ref a0), none] [] σ := id rfl
theorem g_X3_isEnd (a0 : Nat) (σ : am_M) : S_X3_isEnd [.ref a0] σ = dn_X3_isEnd_0 [some (.ref a0)] [] σ := id rfl
theorem g_X3_isSign (a0 : Nat) (a1 : Int32) (σ : am_M) : S_X3_isSign [.ref a0, .int a1] σ = dn_X3_isSign_0 [some (.ref a0), some (.int a1)] [] σ := id rfl
theorem g_X3_isName (a0 : Nat) (σ : am_M) : S_X3_isName [.ref a0] σ = dn_X3_isName_0 [some (.ref a0)] [] σ := id rfl
theorem g_X3_wantSign (a0 : Nat) (a1 : Int32) (σ : am_M) : S_X3_wantSign [.ref a0, .int a1] σ = dn_X3_wantSign_0 [some (.ref a0), some (.int a1)] [] σ := id rfl
theorem g_X3_wantCompare (a0 : Nat) (σ : am_M) : S_X3_wantCompare [.ref a0] σ = dn_X3_wantCompare_0 [some (.ref a0)] [] σ := id rfl
theorem g_X3_wantWord (a0 : Nat) (a1 : Int32) (σ : am_M) : S_X3_wantWord [.ref a0, .int a1] σ = dn_X3_wantWord_0 [some (.ref a0), some (.int a1)] [] σ := id rfl
theorem g_X3_wantName (a0 : Nat) (σ : am_M) : S_X3_wantName [.ref a0] σ = dn_X3_wantName_0 [some (.ref a0)] [] σ := id rfl
theorem g_X3_wantNumber (a0 : Nat) (a1 : Int32) (a2 : Int32) (σ : am_M) : S_X3_wantNumber [.ref a0, .int a1, .int a2] σ = dn_X3_wantNumber_0 [some (.ref a0), some (.int a1), some (.int a2)] [] σ := id rfl
theorem g_X4_clear (a0 : Nat) (σ : am_M) : S_X4_clear [.ref a0] σ = dn_X4_clear_0 [some (.ref a0)] [] σ := id rfl
theorem g_X4_copyFrom (a0 : Nat) (a1 : Nat) (σ : am_M) : S_X4_copyFrom [.ref a0, .ref a1] σ = dn_X4_copyFrom_0 [some (.ref a0), some (.ref a1)] [] σ := id rfl
theorem g_X4_setPart (a0 : Nat) (a1 : Int32) (a2 : Int32) (a3 : Int32) (σ : am_M) : S_X4_setPart [.ref a0, .int a1, .int a2, .int a3] σ = dn_X4_setPart_0 [some (.ref a0), some (.int a1), some (.int a2), some (.int a3)] [] σ := id rfl
theorem g_X4_addLine (a0 : Nat) (a1 : Int32) (σ : am_M) : S_X4_addLine [.ref a0, .int a1] σ = dn_X4_addLine_0 [some (.ref a0), some (.int a1), none] [] σ := id rfl
theorem g_X5_takeEnd (a0 : Nat) (a1 : Nat) (a2 : Nat) (σ : am_M) : S_X5_takeEnd [.ref a0, .ref a1, .ref a2] σ = dn_X5_takeEnd_0 [some (.ref a0), some (.ref a1), some (.ref a2), none] [] σ := id rfl
theorem g_X5_isStep (a0 : Int32) (σ : am_M) : S_X5_isStep [.int a0] σ = dn_X5_isStep_0 [some (.int a0)] [] σ := id rfl
theorem g_X5_takeNumber (a0 : Nat) (a1 : Nat) (a2 : Int32) (a3 : Int32) (σ : am_M) : S_X5_takeNumber [.ref a0, .ref a1, .int a2, .int a3] σ = dn_X5_takeNumber_0 [some (.ref a0), some (.ref a1), some (.int a2), some (.int a3)] [] σ := id rfl
theorem g_X5_takePlaces (a0 : Nat) (a1 : Nat) (a2 : Int32) (σ : am_M) : S_X5_takePlaces [.ref a0, .ref a1, .int a2] σ = dn_X5_takePlaces_0 [some (.ref a0), some (.ref a1), some (.int a2)] [] σ := id rfl
theorem g_X8_fieldNamed (a0 : Nat) (a1 : Int64) (σ : am_M) : S_X8_fieldNamed [.ref a0, .long a1] σ = dn_X8_fieldNamed_0 (am_it (hd_X8_fieldNamed) am_fuel) [some (.ref a0), some (.long a1), none, none] [] σ := id rfl
theorem g_X8_suitNamed (a0 : Nat) (a1 : Int64) (σ : am_M) : S_X8_suitNamed [.ref a0, .long a1] σ = dn_X8_suitNamed_0 (am_it (hd_X8_suitNamed) am_fuel) [some (.ref a0), some (.long a1), none, none] [] σ := id rfl
theorem g_X5_takeTest (a0 : Nat) (a1 : Nat) (a2 : Nat) (a3 : Int32) (σ : am_M) : S_X5_takeTest [.ref a0, .ref a1, .ref a2, .int a3] σ = dn_X5_takeTest_0 [some (.ref a0), some (.ref a1), some (.ref a2), some (.int a3), none, none] [] σ := id rfl
theorem g_X5_takeStep (a0 : Nat) (a1 : Nat) (a2 : Nat) (a3 : Nat) (σ : am_M) : S_X5_takeStep [.ref a0, .ref a1, .ref a2, .ref a3] σ = dn_X5_takeStep_0 [some (.ref a0), some (.ref a1), some (.ref a2), some (.ref a3), none, none, none, none] [] σ := id rfl
theorem g_X5_take (a0 : Nat) (a1 : Nat) (a2 : Nat) (a3 : Nat) (σ : am_M) : S_X5_take [.ref a0, .ref a1, .ref a2, .ref a3] σ = dn_X5_take_0 (am_it (hd_X5_take) am_fuel) [some (.ref a0), some (.ref a1), some (.ref a2), some (.ref a3), none, none] [] σ := id rfl
theorem g_X6_clear (a0 : Nat) (σ : am_M) : S_X6_clear [.ref a0] σ = dn_X6_clear_0 [some (.ref a0)] [] σ := id rfl
theorem g_X6_copyFrom (a0 : Nat) (a1 : Nat) (σ : am_M) : S_X6_copyFrom [.ref a0, .ref a1] σ = dn_X6_copyFrom_0 [some (.ref a0), some (.ref a1)] [] σ := id rfl
theorem g_X6_homeMany (a0 : Nat) (σ : am_M) : S_X6_homeMany [.ref a0] σ = dn_X6_homeMany_0 (am_it (hd_X6_homeMany) am_fuel) [some (.ref a0), none, none] [] σ := id rfl
theorem g_X6_rowsMany (a0 : Nat) (σ : am_M) : S_X6_rowsMany [.ref a0] σ = dn_X6_rowsMany_0 (am_it (hd_X6_rowsMany) am_fuel) [some (.ref a0), none, none] [] σ := id rfl
theorem g_X6_placeIn (a0 : Nat) (a1 : Int32) (a2 : Int32) (σ : am_M) : S_X6_placeIn [.ref a0, .int a1, .int a2] σ = dn_X6_placeIn_0 (am_it (hd_X6_placeIn) am_fuel) [some (.ref a0), some (.int a1), some (.int a2), none] [] σ := id rfl
theorem g_X6_placeInStock (a0 : Nat) (a1 : Int32) (σ : am_M) : S_X6_placeInStock [.ref a0, .int a1] σ = dn_X6_placeInStock_0 (am_it (hd_X6_placeInStock) am_fuel) [some (.ref a0), some (.int a1), none] [] σ := id rfl
theorem g_X6_whereIs (a0 : Nat) (a1 : Int32) (σ : am_M) : S_X6_whereIs [.ref a0, .int a1] σ = dn_X6_whereIs_0 (am_it (hd_X6_whereIs) am_fuel) [some (.ref a0), some (.int a1), none] [] σ := id rfl
theorem g_X6_nextCard (a0 : Nat) (a1 : Int32) (σ : am_M) : S_X6_nextCard [.ref a0, .int a1] σ = dn_X6_nextCard_0 [some (.ref a0), some (.int a1), none] [] σ := id rfl
theorem g_X6_cardsOver (a0 : Nat) (a1 : Int32) (σ : am_M) : S_X6_cardsOver [.ref a0, .int a1] σ = dn_X6_cardsOver_0 [some (.ref a0), some (.int a1), none] [] σ := id rfl
theorem g_J7_fill_d0a16 (a0 : Nat) (a1 : Int64) (σ : am_M) : S_J7_fill_d0a16 [.ref a0, .long a1] σ = dn_J7_fill_d0a16_0 (am_it (hd_J7_fill_d0a16) am_fuel) [some (.ref a0), some (.long a1), none, none, none] [] σ := id rfl
theorem g_X7_lay (a0 : Nat) (a1 : Int32) (a2 : Int32) (σ : am_M) : S_X7_lay [.ref a0, .int a1, .int a2] σ = dn_X7_lay_0 [some (.ref a0), some (.int a1), some (.int a2)] [] σ := id rfl
theorem g_X7_has (a0 : Nat) (a1 : Int32) (a2 : Int32) (σ : am_M) : S_X7_has [.ref a0, .int a1, .int a2] σ = dn_X7_has_0 [some (.ref a0), some (.int a1), some (.int a2)] [] σ := id rfl
theorem g_X7_cut (a0 : Nat) (a1 : Int64) (σ : am_M) : S_X7_cut [.ref a0, .long a1] σ = dn_X7_cut_0 [some (.ref a0), some (.long a1), none] [] σ := id rfl
theorem g_X7_put (a0 : Nat) (a1 : Int32) (a2 : Int64) (σ : am_M) : S_X7_put [.ref a0, .int a1, .long a2] σ = dn_X7_put_0 [some (.ref a0), some (.int a1), some (.long a2), none] [] σ := id rfl
theorem g_X7_at (a0 : Nat) (a1 : Int32) (σ : am_M) : S_X7_at [.ref a0, .int a1] σ = dn_X7_at_0 [some (.ref a0), some (.int a1)] [] σ := id rfl
theorem g_X8_clear (a0 : Nat) (σ : am_M) : S_X8_clear [.ref a0] σ = dn_X8_clear_0 [some (.ref a0)] [] σ := id rfl
theorem g_X8_copyFrom (a0 : Nat) (a1 : Nat) (σ : am_M) : S_X8_copyFrom [.ref a0, .ref a1] σ = dn_X8_copyFrom_0 [some (.ref a0), some (.ref a1)] [] σ := id rfl
theorem g_X8_addSuit (a0 : Nat) (a1 : Int64) (σ : am_M) : S_X8_addSuit [.ref a0, .long a1] σ = dn_X8_addSuit_0 [some (.ref a0), some (.long a1), none] [] σ := id rfl
theorem g_X8_addField (a0 : Nat) (a1 : Int64) (a2 : Int32) (a3 : Int32) (σ : am_M) : S_X8_addField [.ref a0, .long a1, .int a2, .int a3] σ = dn_X8_addField_0 [some (.ref a0), some (.long a1), none, some (.int a2), some (.int a3)] [] σ := id rfl
theorem g_X8_daysLeft (a0 : Nat) (a1 : Int32) (σ : am_M) : S_X8_daysLeft [.ref a0, .int a1] σ = dn_X8_daysLeft_0 [some (.ref a0), some (.int a1)] [] σ := id rfl
theorem g_X8_setOf (a0 : Nat) (a1 : Int32) (σ : am_M) : S_X8_setOf [.ref a0, .int a1] σ = dn_X8_setOf_0 (am_it (hd_X8_setOf) am_fuel) [some (.ref a0), some (.int a1), none, none] [] σ := id rfl
theorem g_X8_allWater (a0 : Nat) (σ : am_M) : S_X8_allWater [.ref a0] σ = dn_X8_allWater_0 (am_it (hd_X8_allWater) am_fuel) [some (.ref a0), none, none] [] σ := id rfl
theorem g_X9_addRow (a0 : Nat) (a1 : Nat) (σ : am_M) : S_X9_addRow [.ref a0, .ref a1] σ = dn_X9_addRow_0 [some (.ref a0), some (.ref a1)] [] σ := id rfl
theorem g_X9_takeCard (a0 : Nat) (a1 : Nat) (a2 : Nat) (a3 : Int32) (σ : am_M) : S_X9_takeCard [.ref a0, .ref a1, .ref a2, .int a3] σ = dn_X9_takeCard_0 [some (.ref a0), some (.ref a1), some (.ref a2), some (.int a3), none, none, none] [] σ := id rfl
theorem g_X9_takeCards (a0 : Nat) (a1 : Nat) (a2 : Nat) (a3 : Int32) (σ : am_M) : S_X9_takeCards [.ref a0, .ref a1, .ref a2, .int a3] σ = dn_X9_takeCards_0 (am_it (hd_X9_takeCards) am_fuel) [some (.ref a0), some (.ref a1), some (.ref a2), some (.int a3), none] [] σ := id rfl
theorem g_X9_takeWater (a0 : Nat) (a1 : Nat) (a2 : Nat) (a3 : Int32) (σ : am_M) : S_X9_takeWater [.ref a0, .ref a1, .ref a2, .int a3] σ = dn_X9_takeWater_0 [some (.ref a0), some (.ref a1), some (.ref a2), some (.int a3)] [] σ := id rfl
theorem g_X9_wantNewName (a0 : Nat) (a1 : Nat) (a2 : Nat) (σ : am_M) : S_X9_wantNewName [.ref a0, .ref a1, .ref a2] σ = dn_X9_wantNewName_0 [some (.ref a0), some (.ref a1), some (.ref a2), none] [] σ := id rfl
theorem g_X9_takeField (a0 : Nat) (a1 : Nat) (a2 : Nat) (σ : am_M) : S_X9_takeField [.ref a0, .ref a1, .ref a2] σ = dn_X9_takeField_0 [some (.ref a0), some (.ref a1), some (.ref a2), none, none, none, none] [] σ := id rfl
theorem g_X9_takeLaw (a0 : Nat) (a1 : Nat) (a2 : Nat) (σ : am_M) : S_X9_takeLaw [.ref a0, .ref a1, .ref a2] σ = dn_X9_takeLaw_0 [some (.ref a0), some (.ref a1), some (.ref a2)] [] σ := id rfl
theorem g_X9_takeRanks (a0 : Nat) (a1 : Nat) (a2 : Nat) (σ : am_M) : S_X9_takeRanks [.ref a0, .ref a1, .ref a2] σ = dn_X9_takeRanks_0 [some (.ref a0), some (.ref a1), some (.ref a2)] [] σ := id rfl
theorem g_X9_takeRedeals (a0 : Nat) (a1 : Nat) (a2 : Nat) (σ : am_M) : S_X9_takeRedeals [.ref a0, .ref a1, .ref a2] σ = dn_X9_takeRedeals_0 [some (.ref a0), some (.ref a1), some (.ref a2)] [] σ := id rfl
theorem g_X9_takeSuit (a0 : Nat) (a1 : Nat) (a2 : Nat) (σ : am_M) : S_X9_takeSuit [.ref a0, .ref a1, .ref a2] σ = dn_X9_takeSuit_0 [some (.ref a0), some (.ref a1), some (.ref a2), none] [] σ := id rfl
theorem g_X9_take (a0 : Nat) (a1 : Nat) (a2 : Nat) (σ : am_M) : S_X9_take [.ref a0, .ref a1, .ref a2] σ = dn_X9_take_0 (am_it (hd_X9_take) am_fuel) [some (.ref a0), some (.ref a1), some (.ref a2), none, none] [] σ := id rfl
theorem g_X10_status (a0 : Nat) (σ : am_M) : S_X10_status [.ref a0] σ = dn_X10_status_0 [some (.ref a0)] [] σ := id rfl
theorem g_X10_top (a0 : Nat) (σ : am_M) : S_X10_top [.ref a0] σ = dn_X10_top_0 [some (.ref a0)] [] σ := id rfl
theorem g_X10_bottom (a0 : Nat) (σ : am_M) : S_X10_bottom [.ref a0] σ = dn_X10_bottom_0 [some (.ref a0)] [] σ := id rfl
theorem g_X10_accept (a0 : Nat) (σ : am_M) : S_X10_accept [.ref a0] σ = dn_X10_accept_0 [some (.ref a0)] [] σ := id rfl
theorem g_X10_isTray (a0 : Int32) (σ : am_M) : S_X10_isTray [.int a0] σ = dn_X10_isTray_0 [some (.int a0)] [] σ := id rfl
theorem g_X10_refuse (a0 : Nat) (a1 : Int32) (σ : am_M) : S_X10_refuse [.ref a0, .int a1] σ = dn_X10_refuse_0 [some (.ref a0), some (.int a1)] [] σ := id rfl
theorem g_X10_tray (a0 : Nat) (a1 : Int32) (a2 : Int32) (a3 : Int32) (σ : am_M) : S_X10_tray [.ref a0, .int a1, .int a2, .int a3] σ = dn_X10_tray_0 [some (.ref a0), some (.int a1), some (.int a2), some (.int a3)] [] σ := id rfl
theorem g_X10_placeWrong (a0 : Nat) (a1 : Int32) (a2 : Int32) (σ : am_M) : S_X10_placeWrong [.ref a0, .int a1, .int a2] σ = dn_X10_placeWrong_0 [some (.ref a0), some (.int a1), some (.int a2)] [] σ := id rfl
theorem g_X10_write (a0 : Nat) (a1 : Int32) (a2 : Int32) (a3 : Int64) (σ : am_M) : S_X10_write [.ref a0, .int a1, .int a2, .long a3] σ = dn_X10_write_0 [some (.ref a0), some (.int a1), some (.int a2), some (.long a3), none, none] [] σ := id rfl
theorem g_X10_fail (a0 : Nat) (a1 : Int32) (σ : am_M) : S_X10_fail [.ref a0, .int a1] σ = dn_X10_fail_0 [some (.ref a0), some (.int a1)] [] σ := id rfl
theorem g_X10_read (a0 : Nat) (a1 : Int32) (a2 : Int32) (σ : am_M) : S_X10_read [.ref a0, .int a1, .int a2] σ = dn_X10_read_0 [some (.ref a0), some (.int a1), some (.int a2), none] [] σ := id rfl
theorem g_X10_pour (a0 : Nat) (a1 : Int32) (a2 : Int32) (a3 : Int32) (a4 : Int32) (a5 : Int32) (σ : am_M) : S_X10_pour [.ref a0, .int a1, .int a2, .int a3, .int a4, .int a5] σ = dn_X10_pour_0 [some (.ref a0), some (.int a1), some (.int a2), some (.int a3), some (.int a4), some (.int a5), none, none] [] σ := id rfl
theorem g_X10_tapeInt (a0 : Nat) (a1 : Int32) (σ : am_M) : S_X10_tapeInt [.ref a0, .int a1] σ = dn_X10_tapeInt_0 (am_it (hd_X10_tapeInt) am_fuel) [some (.ref a0), some (.int a1), none] [] σ := id rfl
theorem g_X10_feed (a0 : Nat) (a1 : Int32) (a2 : Int32) (a3 : Int32) (a4 : Int32) (a5 : Int32) (σ : am_M) : S_X10_feed [.ref a0, .int a1, .int a2, .int a3, .int a4, .int a5] σ = dn_X10_feed_0 [some (.ref a0), some (.int a1), some (.int a2), some (.int a3), some (.int a4), some (.int a5)] [] σ := id rfl
theorem g_X10_give (a0 : Nat) (a1 : Int32) (σ : am_M) : S_X10_give [.ref a0, .int a1] σ = dn_X10_give_0 [some (.ref a0), some (.int a1)] [] σ := id rfl
theorem g_X10_valley (a0 : Nat) (a1 : Int32) (σ : am_M) : S_X10_valley [.ref a0, .int a1] σ = dn_X10_valley_0 [some (.ref a0), some (.int a1)] [] σ := id rfl
theorem g_X10_seasons (a0 : Nat) (a1 : Int32) (σ : am_M) : S_X10_seasons [.ref a0, .int a1] σ = dn_X10_seasons_0 [some (.ref a0), some (.int a1)] [] σ := id rfl
theorem g_X10_fault (a0 : Nat) (a1 : Int32) (σ : am_M) : S_X10_fault [.ref a0, .int a1] σ = dn_X10_fault_0 [some (.ref a0), some (.int a1)] [] σ := id rfl
theorem g_X10_many (a0 : Nat) (a1 : Int32) (σ : am_M) : S_X10_many [.ref a0, .int a1] σ = dn_X10_many_0 [some (.ref a0), some (.int a1), none] [] σ := id rfl
theorem g_X10_giveCard (a0 : Nat) (a1 : Int32) (σ : am_M) : S_X10_giveCard [.ref a0, .int a1] σ = dn_X10_giveCard_0 [some (.ref a0), some (.int a1)] [] σ := id rfl
theorem g_X10_isRow (a0 : Nat) (a1 : Int32) (σ : am_M) : S_X10_isRow [.ref a0, .int a1] σ = dn_X10_isRow_0 [some (.ref a0), some (.int a1)] [] σ := id rfl
theorem g_X10_card (a0 : Nat) (a1 : Int32) (a2 : Int32) (σ : am_M) : S_X10_card [.ref a0, .int a1, .int a2] σ = dn_X10_card_0 [some (.ref a0), some (.int a1), some (.int a2)] [] σ := id rfl
theorem g_X10_length (a0 : Nat) (a1 : Int32) (σ : am_M) : S_X10_length [.ref a0, .int a1] σ = dn_X10_length_0 [some (.ref a0), some (.int a1)] [] σ := id rfl
theorem g_X10_topOf (a0 : Nat) (a1 : Int32) (σ : am_M) : S_X10_topOf [.ref a0, .int a1] σ = dn_X10_topOf_0 [some (.ref a0), some (.int a1)] [] σ := id rfl
theorem g_X10_stockAt (a0 : Nat) (a1 : Int32) (σ : am_M) : S_X10_stockAt [.ref a0, .int a1] σ = dn_X10_stockAt_0 [some (.ref a0), some (.int a1)] [] σ := id rfl
theorem g_X10_isSuit (a0 : Nat) (a1 : Int32) (σ : am_M) : S_X10_isSuit [.ref a0, .int a1] σ = dn_X10_isSuit_0 [some (.ref a0), some (.int a1)] [] σ := id rfl
theorem g_X10_homeOf (a0 : Nat) (a1 : Int32) (σ : am_M) : S_X10_homeOf [.ref a0, .int a1] σ = dn_X10_homeOf_0 [some (.ref a0), some (.int a1)] [] σ := id rfl
theorem g_X10_isField (a0 : Nat) (a1 : Int32) (σ : am_M) : S_X10_isField [.ref a0, .int a1] σ = dn_X10_isField_0 [some (.ref a0), some (.int a1)] [] σ := id rfl
theorem g_X10_field (a0 : Nat) (a1 : Int32) (a2 : Int32) (σ : am_M) : S_X10_field [.ref a0, .int a1, .int a2] σ = dn_X10_field_0 [some (.ref a0), some (.int a1), some (.int a2)] [] σ := id rfl
theorem g_X10_copyRow (a0 : Nat) (a1 : Int32) (a2 : Int32) (σ : am_M) : S_X10_copyRow [.ref a0, .int a1, .int a2] σ = dn_X10_copyRow_0 (am_it (hd_X10_copyRow) am_fuel) [some (.ref a0), some (.int a1), some (.int a2), none, none, none] [] σ := id rfl
theorem g_X10_arePlaces (a0 : Nat) (a1 : Int32) (a2 : Int32) (σ : am_M) : S_X10_arePlaces [.ref a0, .int a1, .int a2] σ = dn_X10_arePlaces_0 [some (.ref a0), some (.int a1), some (.int a2)] [] σ := id rfl
theorem g_X10_move (a0 : Nat) (a1 : Int32) (a2 : Int32) (σ : am_M) : S_X10_move [.ref a0, .int a1, .int a2] σ = dn_X10_move_0 [some (.ref a0), some (.int a1), some (.int a2)] [] σ := id rfl
theorem g_X10_deal (a0 : Nat) (σ : am_M) : S_X10_deal [.ref a0] σ = dn_X10_deal_0 [some (.ref a0)] [] σ := id rfl
theorem g_X10_run (a0 : Nat) (σ : am_M) : S_X10_run [.ref a0] σ = dn_X10_run_0 [some (.ref a0)] [] σ := id rfl
theorem g_X10_day (a0 : Nat) (a1 : Int32) (σ : am_M) : S_X10_day [.ref a0, .int a1] σ = dn_X10_day_0 [some (.ref a0), some (.int a1)] [] σ := id rfl
theorem g_X10_rain (a0 : Nat) (a1 : Int32) (a2 : Int32) (σ : am_M) : S_X10_rain [.ref a0, .int a1, .int a2] σ = dn_X10_rain_0 [some (.ref a0), some (.int a1), some (.int a2)] [] σ := id rfl
theorem g_X10_rule (a0 : Nat) (a1 : Int32) (σ : am_M) : S_X10_rule [.ref a0, .int a1] σ = dn_X10_rule_0 [some (.ref a0), some (.int a1)] [] σ := id rfl
theorem g_X10_sow (a0 : Nat) (a1 : Int32) (a2 : Int32) (σ : am_M) : S_X10_sow [.ref a0, .int a1, .int a2] σ = dn_X10_sow_0 [some (.ref a0), some (.int a1), some (.int a2)] [] σ := id rfl
theorem g_X10_isSeed (a0 : Int32) (σ : am_M) : S_X10_isSeed [.int a0] σ = dn_X10_isSeed_0 [some (.int a0)] [] σ := id rfl
theorem g_X10_shuffle (a0 : Nat) (a1 : Int32) (σ : am_M) : S_X10_shuffle [.ref a0, .int a1] σ = dn_X10_shuffle_0 [some (.ref a0), some (.int a1)] [] σ := id rfl
theorem g_X10_canMove (a0 : Nat) (a1 : Int32) (a2 : Int32) (σ : am_M) : S_X10_canMove [.ref a0, .int a1, .int a2] σ = dn_X10_canMove_0 [some (.ref a0), some (.int a1), some (.int a2)] [] σ := id rfl
theorem g_X10_moves (a0 : Nat) (σ : am_M) : S_X10_moves [.ref a0] σ = dn_X10_moves_0 [some (.ref a0)] [] σ := id rfl
theorem g_X10_moveAt (a0 : Nat) (a1 : Int32) (σ : am_M) : S_X10_moveAt [.ref a0, .int a1] σ = dn_X10_moveAt_0 [some (.ref a0), some (.int a1), none] [] σ := id rfl
theorem g_X10_runs (a0 : Nat) (σ : am_M) : S_X10_runs [.ref a0] σ = dn_X10_runs_0 [some (.ref a0)] [] σ := id rfl
theorem g_X10_runWater (a0 : Nat) (a1 : Int32) (σ : am_M) : S_X10_runWater [.ref a0, .int a1] σ = dn_X10_runWater_0 [some (.ref a0), some (.int a1)] [] σ := id rfl
theorem g_X10_nextWrong (a0 : Nat) (a1 : Int32) (σ : am_M) : S_X10_nextWrong [.ref a0, .int a1] σ = dn_X10_nextWrong_0 [some (.ref a0), some (.int a1)] [] σ := id rfl
theorem g_X10_next (a0 : Nat) (a1 : Int32) (σ : am_M) : S_X10_next [.ref a0, .int a1] σ = dn_X10_next_0 [some (.ref a0), some (.int a1), none] [] σ := id rfl
theorem g_X10_nextAt (a0 : Nat) (a1 : Int32) (σ : am_M) : S_X10_nextAt [.ref a0, .int a1] σ = dn_X10_nextAt_0 [some (.ref a0), some (.int a1), none] [] σ := id rfl
theorem g_X10_over (a0 : Nat) (a1 : Int32) (σ : am_M) : S_X10_over [.ref a0, .int a1] σ = dn_X10_over_0 [some (.ref a0), some (.int a1), none] [] σ := id rfl
theorem g_X10_easiest (a0 : Nat) (σ : am_M) : S_X10_easiest [.ref a0] σ = dn_X10_easiest_0 (am_it (hd_X10_easiest) am_fuel) [some (.ref a0), none, none, none, none, none, none] [] σ := id rfl
theorem g_X10_wilts (a0 : Nat) (a1 : Int32) (σ : am_M) : S_X10_wilts [.ref a0, .int a1] σ = dn_X10_wilts_0 [some (.ref a0), some (.int a1), none] [] σ := id rfl
theorem g_X10_thirstiest (a0 : Nat) (σ : am_M) : S_X10_thirstiest [.ref a0] σ = dn_X10_thirstiest_0 (am_it (hd_X10_thirstiest) am_fuel) [some (.ref a0), none, none, none, none] [] σ := id rfl
theorem g_X10_areTurns (a0 : Int32) (σ : am_M) : S_X10_areTurns [.int a0] σ = dn_X10_areTurns_0 [some (.int a0)] [] σ := id rfl
theorem g_X10_isSet (a0 : Nat) (a1 : Int32) (σ : am_M) : S_X10_isSet [.ref a0, .int a1] σ = dn_X10_isSet_0 [some (.ref a0), some (.int a1)] [] σ := id rfl
theorem g_X10_yields (a0 : Nat) (a1 : Int32) (a2 : Int32) (σ : am_M) : S_X10_yields [.ref a0, .int a1, .int a2] σ = dn_X10_yields_0 [some (.ref a0), some (.int a1), some (.int a2)] [] σ := id rfl
theorem g_X10_first (a0 : Nat) (a1 : Int32) (a2 : Int32) (σ : am_M) : S_X10_first [.ref a0, .int a1, .int a2] σ = dn_X10_first_0 [some (.ref a0), some (.int a1), some (.int a2), none] [] σ := id rfl
theorem g_X10_game (a0 : Nat) (a1 : Int32) (a2 : Int32) (σ : am_M) : S_X10_game [.ref a0, .int a1, .int a2] σ = dn_X10_game_0 [some (.ref a0), some (.int a1), some (.int a2)] [] σ := id rfl
theorem g_X10_cheat (a0 : Nat) (a1 : Int32) (σ : am_M) : S_X10_cheat [.ref a0, .int a1] σ = dn_X10_cheat_0 [some (.ref a0), some (.int a1)] [] σ := id rfl
theorem g_X10_cheatAt (a0 : Nat) (a1 : Int32) (a2 : Int32) (σ : am_M) : S_X10_cheatAt [.ref a0, .int a1, .int a2] σ = dn_X10_cheatAt_0 [some (.ref a0), some (.int a1), some (.int a2), none] [] σ := id rfl
theorem g_X10_wets (a0 : Nat) (a1 : Int32) (a2 : Int32) (σ : am_M) : S_X10_wets [.ref a0, .int a1, .int a2] σ = dn_X10_wets_0 [some (.ref a0), some (.int a1), some (.int a2)] [] σ := id rfl
theorem g_X10_areSeeds (a0 : Int32) (a1 : Int32) (a2 : Int32) (σ : am_M) : S_X10_areSeeds [.int a0, .int a1, .int a2] σ = dn_X10_areSeeds_0 [some (.int a0), some (.int a1), some (.int a2)] [] σ := id rfl
theorem g_X10_commonDivisor (a0 : Int64) (a1 : Int64) (σ : am_M) : S_X10_commonDivisor [.long a0, .long a1] σ = dn_X10_commonDivisor_0 (am_it (hd_X10_commonDivisor) am_fuel) [some (.long a0), none, some (.long a1), none, none, none, none, none, none, none, none] [] σ := id rfl
theorem g_X10_tellFraction (a0 : Nat) (a1 : Int64) (a2 : Int64) (σ : am_M) : S_X10_tellFraction [.ref a0, .long a1, .long a2] σ = dn_X10_tellFraction_0 [some (.ref a0), some (.long a1), none, some (.long a2), none, none, none] [] σ := id rfl
theorem g_X10_meanWets (a0 : Nat) (a1 : Int32) (a2 : Int32) (a3 : Int32) (σ : am_M) : S_X10_meanWets [.ref a0, .int a1, .int a2, .int a3] σ = dn_X10_meanWets_0 [some (.ref a0), some (.int a1), some (.int a2), some (.int a3)] [] σ := id rfl
theorem g_X10_bestSuit (a0 : Nat) (a1 : Int32) (a2 : Int32) (σ : am_M) : S_X10_bestSuit [.ref a0, .int a1, .int a2] σ = dn_X10_bestSuit_0 (am_it (hd_X10_bestSuit) am_fuel) [some (.ref a0), some (.int a1), some (.int a2), none, none] [] σ := id rfl
theorem g_X10_isLike (a0 : Nat) (a1 : Nat) (a2 : Int32) (σ : am_M) : S_X10_isLike [.ref a0, .ref a1, .int a2] σ = dn_X10_isLike_0 (am_it (hd_X10_isLike) am_fuel) [some (.ref a0), some (.ref a1), some (.int a2), none] [] σ := id rfl
theorem g_X10_likeWrong (a0 : Nat) (a1 : Int32) (a2 : Int32) (a3 : Int32) (σ : am_M) : S_X10_likeWrong [.ref a0, .int a1, .int a2, .int a3] σ = dn_X10_likeWrong_0 [some (.ref a0), some (.int a1), some (.int a2), some (.int a3)] [] σ := id rfl
theorem g_X10_like (a0 : Nat) (a1 : Int32) (a2 : Int32) (a3 : Int32) (σ : am_M) : S_X10_like [.ref a0, .int a1, .int a2, .int a3] σ = dn_X10_like_0 (am_it (hd_X10_like) am_fuel) [some (.ref a0), some (.int a1), some (.int a2), some (.int a3), none, none, none] [] σ := id rfl
theorem g_X10_likeFirst (a0 : Nat) (a1 : Int32) (a2 : Int32) (a3 : Int32) (σ : am_M) : S_X10_likeFirst [.ref a0, .int a1, .int a2, .int a3] σ = dn_X10_likeFirst_0 (am_it (hd_X10_likeFirst) am_fuel) [some (.ref a0), some (.int a1), some (.int a2), some (.int a3), none, none] [] σ := id rfl
theorem g_X10_packTop (a0 : Nat) (a1 : Int32) (a2 : Int32) (σ : am_M) : S_X10_packTop [.ref a0, .int a1, .int a2] σ = dn_X10_packTop_0 [some (.ref a0), some (.int a1), some (.int a2)] [] σ := id rfl
theorem g_X10_live (a0 : Nat) (a1 : Int32) (σ : am_M) : S_X10_live [.ref a0, .int a1] σ = dn_X10_live_0 [some (.ref a0), some (.int a1)] [] σ := id rfl
theorem g_X10_lived (a0 : Nat) (a1 : Int32) (σ : am_M) : S_X10_lived [.ref a0, .int a1] σ = dn_X10_lived_0 [some (.ref a0), some (.int a1)] [] σ := id rfl
theorem g_X10_mean (a0 : Nat) (a1 : Int32) (a2 : Int32) (σ : am_M) : S_X10_mean [.ref a0, .int a1, .int a2] σ = dn_X10_mean_0 (am_it (hd_X10_mean) am_fuel) [some (.ref a0), some (.int a1), some (.int a2), none, none, none] [] σ := id rfl
theorem g_X10_mark (a0 : Nat) (σ : am_M) : S_X10_mark [.ref a0] σ = dn_X10_mark_0 [some (.ref a0)] [] σ := id rfl
theorem g_X10_back (a0 : Nat) (σ : am_M) : S_X10_back [.ref a0] σ = dn_X10_back_0 [some (.ref a0)] [] σ := id rfl
theorem g_X11_status (a0 : Nat) (σ : am_M) : S_X11_status [.ref a0] σ = dn_X11_status_0 [some (.ref a0)] [] σ := id rfl
theorem g_X11_top (a0 : Nat) (σ : am_M) : S_X11_top [.ref a0] σ = dn_X11_top_0 [some (.ref a0)] [] σ := id rfl
theorem g_X11_bottom (a0 : Nat) (σ : am_M) : S_X11_bottom [.ref a0] σ = dn_X11_bottom_0 [some (.ref a0)] [] σ := id rfl
theorem g_X11_refuse (a0 : Nat) (a1 : Int32) (σ : am_M) : S_X11_refuse [.ref a0, .int a1] σ = dn_X11_refuse_0 [some (.ref a0), some (.int a1)] [] σ := id rfl
theorem g_X11_no (a0 : Nat) (a1 : Int32) (σ : am_M) : S_X11_no [.ref a0, .int a1] σ = dn_X11_no_0 [some (.ref a0), some (.int a1)] [] σ := id rfl
theorem g_X11_isIn (a0 : Int64) (a1 : Int64) (a2 : Int64) (σ : am_M) : S_X11_isIn [.long a0, .long a1, .long a2] σ = dn_X11_isIn_0 [some (.long a0), none, some (.long a1), none, some (.long a2), none] [] σ := id rfl
theorem g_X11_fraction (a0 : Nat) (a1 : Int64) (a2 : Int64) (σ : am_M) : S_X11_fraction [.ref a0, .long a1, .long a2] σ = dn_X11_fraction_0 (am_it (hd_X11_fraction) am_fuel) [some (.ref a0), some (.long a1), none, some (.long a2), none, none, none, none, none, none, none] [] σ := id rfl
theorem g_X11_cut (a0 : Int32) (a1 : Int64) (σ : am_M) : S_X11_cut [.int a0, .long a1] σ = dn_X11_cut_0 [some (.int a0), some (.long a1), none] [] σ := id rfl
theorem g_X11_tray (a0 : Nat) (a1 : Int32) (a2 : Int32) (a3 : Int32) (σ : am_M) : S_X11_tray [.ref a0, .int a1, .int a2, .int a3] σ = dn_X11_tray_0 (am_it (hd_X11_tray) am_fuel) [some (.ref a0), some (.int a1), some (.int a2), some (.int a3), none] [] σ := id rfl
theorem g_X11_trayed (a0 : Nat) (a1 : Int32) (σ : am_M) : S_X11_trayed [.ref a0, .int a1] σ = dn_X11_trayed_0 [some (.ref a0), some (.int a1)] [] σ := id rfl
theorem g_X11_placed (a0 : Nat) (a1 : Int32) (a2 : Int32) (σ : am_M) : S_X11_placed [.ref a0, .int a1, .int a2] σ = dn_X11_placed_0 [some (.ref a0), some (.int a1), some (.int a2), none] [] σ := id rfl
theorem g_X11_write (a0 : Nat) (a1 : Int32) (a2 : Int32) (a3 : Int64) (σ : am_M) : S_X11_write [.ref a0, .int a1, .int a2, .long a3] σ = dn_X11_write_0 [some (.ref a0), some (.int a1), some (.int a2), some (.long a3), none] [] σ := id rfl
theorem g_X11_read (a0 : Nat) (a1 : Int32) (a2 : Int32) (σ : am_M) : S_X11_read [.ref a0, .int a1, .int a2] σ = dn_X11_read_0 [some (.ref a0), some (.int a1), some (.int a2)] [] σ := id rfl
theorem g_X11_pour (a0 : Nat) (a1 : Int32) (a2 : Int32) (a3 : Int32) (a4 : Int32) (a5 : Int32) (σ : am_M) : S_X11_pour [.ref a0, .int a1, .int a2, .int a3, .int a4, .int a5] σ = dn_X11_pour_0 (am_it (hd_X11_pour) am_fuel) [some (.ref a0), some (.int a1), some (.int a2), some (.int a3), some (.int a4), some (.int a5), none, none, none] [] σ := id rfl
theorem g_X11_numberOf (a0 : Nat) (a1 : Int32) (a2 : Int32) (σ : am_M) : S_X11_numberOf [.ref a0, .int a1, .int a2] σ = dn_X11_numberOf_0 [some (.ref a0), some (.int a1), some (.int a2)] [] σ := id rfl
theorem g_X11_isTray (a0 : Nat) (a1 : Int32) (σ : am_M) : S_X11_isTray [.ref a0, .int a1] σ = dn_X11_isTray_0 [some (.ref a0), some (.int a1)] [] σ := id rfl
theorem g_X11_has (a0 : Int32) (a1 : Int32) (σ : am_M) : S_X11_has [.int a0, .int a1] σ = dn_X11_has_0 [some (.int a0), some (.int a1)] [] σ := id rfl
theorem g_X11_look2 (a0 : Nat) (a1 : Int32) (σ : am_M) : S_X11_look2 [.ref a0, .int a1] σ = dn_X11_look2_0 [some (.ref a0), some (.int a1)] [] σ := id rfl
theorem g_X11_isLetter (a0 : Int32) (σ : am_M) : S_X11_isLetter [.int a0] σ = dn_X11_isLetter_0 [some (.int a0)] [] σ := id rfl
theorem g_X11_isDigit (a0 : Int32) (σ : am_M) : S_X11_isDigit [.int a0] σ = dn_X11_isDigit_0 [some (.int a0)] [] σ := id rfl
theorem g_X11_isSignByte (a0 : Nat) (a1 : Int32) (σ : am_M) : S_X11_isSignByte [.ref a0, .int a1] σ = dn_X11_isSignByte_0 [some (.ref a0), some (.int a1)] [] σ := id rfl
theorem g_X11_advance (a0 : Nat) (σ : am_M) : S_X11_advance [.ref a0] σ = dn_X11_advance_0 (am_it (hd_X11_advance) am_fuel) [some (.ref a0), none] [] σ := id rfl
theorem g_X11_isSign (a0 : Nat) (a1 : Int32) (σ : am_M) : S_X11_isSign [.ref a0, .int a1] σ = dn_X11_isSign_0 [some (.ref a0), some (.int a1)] [] σ := id rfl
theorem g_X11_spelled (a0 : Int32) (a1 : Int32) (a2 : Int32) (a3 : Int32) (a4 : Int32) (a5 : Int32) (σ : am_M) : S_X11_spelled [.int a0, .int a1, .int a2, .int a3, .int a4, .int a5] σ = dn_X11_spelled_0 [some (.int a0), some (.int a1), some (.int a2), some (.int a3), some (.int a4), some (.int a5), none, none] [] σ := id rfl
theorem g_X11_isWord (a0 : Nat) (a1 : Int64) (σ : am_M) : S_X11_isWord [.ref a0, .long a1] σ = dn_X11_isWord_0 [some (.ref a0), some (.long a1), none] [] σ := id rfl
theorem g_X11_isRanks (a0 : Nat) (σ : am_M) : S_X11_isRanks [.ref a0] σ = dn_X11_isRanks_0 [some (.ref a0)] [] σ := id rfl
theorem g_X11_isSuit (a0 : Nat) (σ : am_M) : S_X11_isSuit [.ref a0] σ = dn_X11_isSuit_0 [some (.ref a0)] [] σ := id rfl
theorem g_X11_isRed (a0 : Nat) (σ : am_M) : S_X11_isRed [.ref a0] σ = dn_X11_isRed_0 [some (.ref a0)] [] σ := id rfl
theorem g_X11_isLaw (a0 : Nat) (σ : am_M) : S_X11_isLaw [.ref a0] σ = dn_X11_isLaw_0 [some (.ref a0)] [] σ := id rfl
theorem g_X11_isRedeals (a0 : Nat) (σ : am_M) : S_X11_isRedeals [.ref a0] σ = dn_X11_isRedeals_0 [some (.ref a0)] [] σ := id rfl
theorem g_X11_isRow (a0 : Nat) (σ : am_M) : S_X11_isRow [.ref a0] σ = dn_X11_isRow_0 [some (.ref a0)] [] σ := id rfl
theorem g_X11_isStock (a0 : Nat) (σ : am_M) : S_X11_isStock [.ref a0] σ = dn_X11_isStock_0 [some (.ref a0)] [] σ := id rfl
theorem g_X11_isField (a0 : Nat) (σ : am_M) : S_X11_isField [.ref a0] σ = dn_X11_isField_0 [some (.ref a0)] [] σ := id rfl
theorem g_X11_isOf (a0 : Nat) (σ : am_M) : S_X11_isOf [.ref a0] σ = dn_X11_isOf_0 [some (.ref a0)] [] σ := id rfl
theorem g_X11_isDries (a0 : Nat) (σ : am_M) : S_X11_isDries [.ref a0] σ = dn_X11_isDries_0 [some (.ref a0)] [] σ := id rfl
theorem g_X11_isWater (a0 : Nat) (σ : am_M) : S_X11_isWater [.ref a0] σ = dn_X11_isWater_0 [some (.ref a0)] [] σ := id rfl
theorem g_X11_isHigh (a0 : Nat) (σ : am_M) : S_X11_isHigh [.ref a0] σ = dn_X11_isHigh_0 [some (.ref a0)] [] σ := id rfl
theorem g_X11_stepWord (a0 : Nat) (σ : am_M) : S_X11_stepWord [.ref a0] σ = dn_X11_stepWord_0 [some (.ref a0)] [] σ := id rfl
theorem g_X11_testWord (a0 : Nat) (σ : am_M) : S_X11_testWord [.ref a0] σ = dn_X11_testWord_0 [some (.ref a0)] [] σ := id rfl
theorem g_X11_isEnd (a0 : Nat) (σ : am_M) : S_X11_isEnd [.ref a0] σ = dn_X11_isEnd_0 [some (.ref a0)] [] σ := id rfl
theorem g_X11_isKept (a0 : Nat) (σ : am_M) : S_X11_isKept [.ref a0] σ = dn_X11_isKept_0 [some (.ref a0)] [] σ := id rfl
theorem g_X11_isName (a0 : Nat) (σ : am_M) : S_X11_isName [.ref a0] σ = dn_X11_isName_0 [some (.ref a0)] [] σ := id rfl
theorem g_X11_fail (a0 : Nat) (a1 : Int32) (a2 : Int32) (σ : am_M) : S_X11_fail [.ref a0, .int a1, .int a2] σ = dn_X11_fail_0 [some (.ref a0), some (.int a1), some (.int a2)] [] σ := id rfl
theorem g_X11_amiss (a0 : Nat) (σ : am_M) : S_X11_amiss [.ref a0] σ = dn_X11_amiss_0 [some (.ref a0)] [] σ := id rfl
theorem g_X11_must (a0 : Nat) (a1 : Int32) (σ : am_M) : S_X11_must [.ref a0, .int a1] σ = dn_X11_must_0 [some (.ref a0), some (.int a1)] [] σ := id rfl
theorem g_X11_count (a0 : Nat) (a1 : Int32) (a2 : Int32) (σ : am_M) : S_X11_count [.ref a0, .int a1, .int a2] σ = dn_X11_count_0 [some (.ref a0), some (.int a1), some (.int a2), none] [] σ := id rfl
theorem g_X11_behindWord (a0 : Nat) (a1 : Int32) (a2 : Int32) (a3 : Int32) (σ : am_M) : S_X11_behindWord [.ref a0, .int a1, .int a2, .int a3] σ = dn_X11_behindWord_0 [some (.ref a0), some (.int a1), some (.int a2), some (.int a3)] [] σ := id rfl
theorem g_X11_lay (a0 : Nat) (a1 : Int32) (σ : am_M) : S_X11_lay [.ref a0, .int a1] σ = dn_X11_lay_0 (am_it (hd_X11_lay) am_fuel) [some (.ref a0), some (.int a1), none] [] σ := id rfl
theorem g_X11_feed (a0 : Nat) (a1 : Int32) (a2 : Int32) (a3 : Int32) (a4 : Int32) (a5 : Int32) (σ : am_M) : S_X11_feed [.ref a0, .int a1, .int a2, .int a3, .int a4, .int a5] σ = dn_X11_feed_0 [some (.ref a0), some (.int a1), some (.int a2), some (.int a3), some (.int a4), some (.int a5)] [] σ := id rfl
theorem g_X11_starts (a0 : Nat) (a1 : Int32) (a2 : Int32) (σ : am_M) : S_X11_starts [.ref a0, .int a1, .int a2] σ = dn_X11_starts_0 [some (.ref a0), some (.int a1), some (.int a2)] [] σ := id rfl
theorem g_X11_isWell (a0 : Nat) (σ : am_M) : S_X11_isWell [.ref a0] σ = dn_X11_isWell_0 [some (.ref a0)] [] σ := id rfl
theorem g_X11_fault (a0 : Nat) (a1 : Int32) (σ : am_M) : S_X11_fault [.ref a0, .int a1] σ = dn_X11_fault_0 [some (.ref a0), some (.int a1)] [] σ := id rfl
theorem g_X11_named (a0 : Nat) (a1 : Int32) (a2 : Int32) (σ : am_M) : S_X11_named [.ref a0, .int a1, .int a2] σ = dn_X11_named_0 (am_it (hd_X11_named) am_fuel) [some (.ref a0), some (.int a1), some (.int a2), none, none] [] σ := id rfl
theorem g_X11_readNew (a0 : Nat) (a1 : Int32) (a2 : Int32) (σ : am_M) : S_X11_readNew [.ref a0, .int a1, .int a2] σ = dn_X11_readNew_0 [some (.ref a0), some (.int a1), some (.int a2), none] [] σ := id rfl
theorem g_X11_told (a0 : Nat) (a1 : Int32) (a2 : Int32) (σ : am_M) : S_X11_told [.ref a0, .int a1, .int a2] σ = dn_X11_told_0 [some (.ref a0), some (.int a1), some (.int a2), none] [] σ := id rfl
theorem g_X11_readTold (a0 : Nat) (a1 : Int32) (a2 : Int32) (σ : am_M) : S_X11_readTold [.ref a0, .int a1, .int a2] σ = dn_X11_readTold_0 [some (.ref a0), some (.int a1), some (.int a2), none] [] σ := id rfl
theorem g_X11_readOnce (a0 : Nat) (a1 : Int32) (a2 : Int32) (a3 : Int32) (a4 : Int32) (σ : am_M) : S_X11_readOnce [.ref a0, .int a1, .int a2, .int a3, .int a4] σ = dn_X11_readOnce_0 [some (.ref a0), some (.int a1), some (.int a2), some (.int a3), some (.int a4)] [] σ := id rfl
theorem g_X11_readSuit (a0 : Nat) (σ : am_M) : S_X11_readSuit [.ref a0] σ = dn_X11_readSuit_0 [some (.ref a0), none] [] σ := id rfl
theorem g_X11_readCards (a0 : Nat) (a1 : Int32) (a2 : Int32) (σ : am_M) : S_X11_readCards [.ref a0, .int a1, .int a2] σ = dn_X11_readCards_0 (am_it (hd_X11_readCards) am_fuel) [some (.ref a0), some (.int a1), some (.int a2), none, none, none, none] [] σ := id rfl
theorem g_X11_readRow (a0 : Nat) (σ : am_M) : S_X11_readRow [.ref a0] σ = dn_X11_readRow_0 [some (.ref a0), none] [] σ := id rfl
theorem g_X11_readStock (a0 : Nat) (σ : am_M) : S_X11_readStock [.ref a0] σ = dn_X11_readStock_0 [some (.ref a0)] [] σ := id rfl
theorem g_X11_readField (a0 : Nat) (σ : am_M) : S_X11_readField [.ref a0] σ = dn_X11_readField_0 [some (.ref a0), none, none] [] σ := id rfl
theorem g_X11_readPart (a0 : Nat) (σ : am_M) : S_X11_readPart [.ref a0] σ = dn_X11_readPart_0 [some (.ref a0)] [] σ := id rfl
theorem g_X11_copy (a0 : Nat) (a1 : Int32) (a2 : Int32) (σ : am_M) : S_X11_copy [.ref a0, .int a1, .int a2] σ = dn_X11_copy_0 (am_it (hd_X11_copy) am_fuel) [some (.ref a0), some (.int a1), some (.int a2), none] [] σ := id rfl
theorem g_X11_valley (a0 : Nat) (a1 : Int32) (σ : am_M) : S_X11_valley [.ref a0, .int a1] σ = dn_X11_valley_0 (am_it (hd_X11_valley) am_fuel) [some (.ref a0), some (.int a1), none] [] σ := id rfl
theorem g_X11_readTest (a0 : Nat) (a1 : Int32) (σ : am_M) : S_X11_readTest [.ref a0, .int a1] σ = dn_X11_readTest_0 [some (.ref a0), some (.int a1), none] [] σ := id rfl
theorem g_X11_readRest (a0 : Nat) (a1 : Int32) (σ : am_M) : S_X11_readRest [.ref a0, .int a1] σ = dn_X11_readRest_0 [some (.ref a0), some (.int a1), none] [] σ := id rfl
theorem g_X11_readStep (E : am_F) (a0 : Nat) (a1 : Int32) (σ : am_M) : F_X11_readStep E [.ref a0, .int a1] σ = dn_X11_readStep_0 E (am_it (hd_X11_readStep E) am_fuel) [some (.ref a0), some (.int a1), none, none, none] [] σ := id rfl
theorem g_X11_seasons (a0 : Nat) (a1 : Int32) (σ : am_M) : S_X11_seasons [.ref a0, .int a1] σ = dn_X11_seasons_0 (am_it (hd_X11_seasons) am_fuel) [some (.ref a0), some (.int a1), none] [] σ := id rfl
theorem g_X11_isSuitAt (a0 : Nat) (a1 : Int32) (σ : am_M) : S_X11_isSuitAt [.ref a0, .int a1] σ = dn_X11_isSuitAt_0 [some (.ref a0), some (.int a1)] [] σ := id rfl
theorem g_X11_isRowAt (a0 : Nat) (a1 : Int32) (σ : am_M) : S_X11_isRowAt [.ref a0, .int a1] σ = dn_X11_isRowAt_0 [some (.ref a0), some (.int a1)] [] σ := id rfl
theorem g_X11_isFieldAt (a0 : Nat) (a1 : Int32) (σ : am_M) : S_X11_isFieldAt [.ref a0, .int a1] σ = dn_X11_isFieldAt_0 [some (.ref a0), some (.int a1)] [] σ := id rfl
theorem g_X11_isFrom (a0 : Nat) (a1 : Int32) (σ : am_M) : S_X11_isFrom [.ref a0, .int a1] σ = dn_X11_isFrom_0 [some (.ref a0), some (.int a1)] [] σ := id rfl
theorem g_X11_isTo (a0 : Nat) (a1 : Int32) (σ : am_M) : S_X11_isTo [.ref a0, .int a1] σ = dn_X11_isTo_0 [some (.ref a0), some (.int a1)] [] σ := id rfl
theorem g_X11_sum (a0 : Nat) (a1 : Int32) (a2 : Int32) (σ : am_M) : S_X11_sum [.ref a0, .int a1, .int a2] σ = dn_X11_sum_0 (am_it (hd_X11_sum) am_fuel) [some (.ref a0), some (.int a1), some (.int a2), none, none] [] σ := id rfl
theorem g_X11_fieldsThat (a0 : Nat) (a1 : Int32) (σ : am_M) : S_X11_fieldsThat [.ref a0, .int a1] σ = dn_X11_fieldsThat_0 (am_it (hd_X11_fieldsThat) am_fuel) [some (.ref a0), some (.int a1), none, none] [] σ := id rfl
theorem g_X11_many (a0 : Nat) (a1 : Int32) (σ : am_M) : S_X11_many [.ref a0, .int a1] σ = dn_X11_many_0 [some (.ref a0), some (.int a1)] [] σ := id rfl
theorem g_X11_cardAt (a0 : Nat) (a1 : Int32) (a2 : Int32) (σ : am_M) : S_X11_cardAt [.ref a0, .int a1, .int a2] σ = dn_X11_cardAt_0 [some (.ref a0), some (.int a1), some (.int a2)] [] σ := id rfl
theorem g_X11_card (a0 : Nat) (a1 : Int32) (a2 : Int32) (σ : am_M) : S_X11_card [.ref a0, .int a1, .int a2] σ = dn_X11_card_0 [some (.ref a0), some (.int a1), some (.int a2)] [] σ := id rfl
theorem g_X11_length (a0 : Nat) (a1 : Int32) (σ : am_M) : S_X11_length [.ref a0, .int a1] σ = dn_X11_length_0 [some (.ref a0), some (.int a1)] [] σ := id rfl
theorem g_X11_topCard (a0 : Nat) (a1 : Int32) (σ : am_M) : S_X11_topCard [.ref a0, .int a1] σ = dn_X11_topCard_0 [some (.ref a0), some (.int a1)] [] σ := id rfl
theorem g_X11_topOf (a0 : Nat) (a1 : Int32) (σ : am_M) : S_X11_topOf [.ref a0, .int a1] σ = dn_X11_topOf_0 [some (.ref a0), some (.int a1), none] [] σ := id rfl
theorem g_X11_stockAt (a0 : Nat) (a1 : Int32) (σ : am_M) : S_X11_stockAt [.ref a0, .int a1] σ = dn_X11_stockAt_0 [some (.ref a0), some (.int a1)] [] σ := id rfl
theorem g_X11_homeOf (a0 : Nat) (a1 : Int32) (σ : am_M) : S_X11_homeOf [.ref a0, .int a1] σ = dn_X11_homeOf_0 [some (.ref a0), some (.int a1)] [] σ := id rfl
theorem g_X11_field (a0 : Nat) (a1 : Int32) (a2 : Int32) (σ : am_M) : S_X11_field [.ref a0, .int a1, .int a2] σ = dn_X11_field_0 [some (.ref a0), some (.int a1), some (.int a2)] [] σ := id rfl
theorem g_X11_copyRow (a0 : Nat) (a1 : Int32) (a2 : Int32) (σ : am_M) : S_X11_copyRow [.ref a0, .int a1, .int a2] σ = dn_X11_copyRow_0 (am_it (hd_X11_copyRow) am_fuel) [some (.ref a0), some (.int a1), some (.int a2), none] [] σ := id rfl
theorem g_X11_suitOf (a0 : Int32) (σ : am_M) : S_X11_suitOf [.int a0] σ = dn_X11_suitOf_0 [some (.int a0)] [] σ := id rfl
theorem g_X11_rankOf (a0 : Int32) (σ : am_M) : S_X11_rankOf [.int a0] σ = dn_X11_rankOf_0 [some (.int a0)] [] σ := id rfl
theorem g_X11_goesHome (a0 : Nat) (a1 : Int32) (σ : am_M) : S_X11_goesHome [.ref a0, .int a1] σ = dn_X11_goesHome_0 [some (.ref a0), some (.int a1)] [] σ := id rfl
theorem g_X11_fits (a0 : Nat) (a1 : Int32) (a2 : Int32) (σ : am_M) : S_X11_fits [.ref a0, .int a1, .int a2] σ = dn_X11_fits_0 [some (.ref a0), some (.int a1), some (.int a2)] [] σ := id rfl
theorem g_X11_isMove (a0 : Nat) (a1 : Int32) (a2 : Int32) (σ : am_M) : S_X11_isMove [.ref a0, .int a1, .int a2] σ = dn_X11_isMove_0 [some (.ref a0), some (.int a1), some (.int a2), none] [] σ := id rfl
theorem g_X11_waters (a0 : Nat) (a1 : Int32) (a2 : Int32) (σ : am_M) : S_X11_waters [.ref a0, .int a1, .int a2] σ = dn_X11_waters_0 [some (.ref a0), some (.int a1), some (.int a2), none] [] σ := id rfl
theorem g_X11_goes (a0 : Nat) (a1 : Int32) (a2 : Int32) (σ : am_M) : S_X11_goes [.ref a0, .int a1, .int a2] σ = dn_X11_goes_0 (am_it (hd_X11_goes) am_fuel) [some (.ref a0), some (.int a1), some (.int a2), none, none] [] σ := id rfl
theorem g_X11_move (a0 : Nat) (a1 : Int32) (a2 : Int32) (σ : am_M) : S_X11_move [.ref a0, .int a1, .int a2] σ = dn_X11_move_0 [some (.ref a0), some (.int a1), some (.int a2)] [] σ := id rfl
theorem g_X11_deals (a0 : Nat) (σ : am_M) : S_X11_deals [.ref a0] σ = dn_X11_deals_0 (am_it (hd_X11_deals) am_fuel) [some (.ref a0), none] [] σ := id rfl
theorem g_X11_deal (a0 : Nat) (σ : am_M) : S_X11_deal [.ref a0] σ = dn_X11_deal_0 [some (.ref a0)] [] σ := id rfl
theorem g_X11_runsAll (a0 : Nat) (σ : am_M) : S_X11_runsAll [.ref a0] σ = dn_X11_runsAll_0 (am_it (hd_X11_runsAll) am_fuel) [some (.ref a0), none, none, none, none] [] σ := id rfl
theorem g_X11_run (a0 : Nat) (σ : am_M) : S_X11_run [.ref a0] σ = dn_X11_run_0 [some (.ref a0)] [] σ := id rfl
theorem g_X11_goesDay (a0 : Nat) (σ : am_M) : S_X11_goesDay [.ref a0] σ = dn_X11_goesDay_0 (am_it (hd_X11_goesDay) am_fuel) [some (.ref a0), none, none] [] σ := id rfl
theorem g_X11_day (a0 : Nat) (a1 : Int32) (σ : am_M) : S_X11_day [.ref a0, .int a1] σ = dn_X11_day_0 (am_it (hd_X11_day) am_fuel) [some (.ref a0), some (.int a1), none] [] σ := id rfl
theorem g_X11_rain (a0 : Nat) (a1 : Int32) (a2 : Int32) (σ : am_M) : S_X11_rain [.ref a0, .int a1, .int a2] σ = dn_X11_rain_0 [some (.ref a0), some (.int a1), some (.int a2)] [] σ := id rfl
theorem g_X11_rule (a0 : Nat) (a1 : Int32) (σ : am_M) : S_X11_rule [.ref a0, .int a1] σ = dn_X11_rule_0 [some (.ref a0), some (.int a1)] [] σ := id rfl
theorem g_X11_sow (a0 : Nat) (a1 : Int32) (a2 : Int32) (σ : am_M) : S_X11_sow [.ref a0, .int a1, .int a2] σ = dn_X11_sow_0 [some (.ref a0), some (.int a1), some (.int a2)] [] σ := id rfl
theorem g_X11_mix (a0 : Nat) (a1 : Int32) (σ : am_M) : S_X11_mix [.ref a0, .int a1] σ = dn_X11_mix_0 [some (.ref a0), some (.int a1)] [] σ := id rfl
theorem g_X11_packs (a0 : Nat) (a1 : Int32) (σ : am_M) : S_X11_packs [.ref a0, .int a1] σ = dn_X11_packs_0 (am_it (hd_X11_packs) am_fuel) [some (.ref a0), some (.int a1), none, none, none, none] [] σ := id rfl
theorem g_X11_shuffle (a0 : Nat) (a1 : Int32) (σ : am_M) : S_X11_shuffle [.ref a0, .int a1] σ = dn_X11_shuffle_0 [some (.ref a0), some (.int a1)] [] σ := id rfl
theorem g_X11_canMove (a0 : Nat) (a1 : Int32) (a2 : Int32) (σ : am_M) : S_X11_canMove [.ref a0, .int a1, .int a2] σ = dn_X11_canMove_0 [some (.ref a0), some (.int a1), some (.int a2)] [] σ := id rfl
theorem g_X11_moveBy (a0 : Nat) (a1 : Int32) (σ : am_M) : S_X11_moveBy [.ref a0, .int a1] σ = dn_X11_moveBy_0 (am_it (hd_X11_moveBy) am_fuel) [some (.ref a0), some (.int a1), none, none, none] [] σ := id rfl
theorem g_X11_moves (a0 : Nat) (σ : am_M) : S_X11_moves [.ref a0] σ = dn_X11_moves_0 [some (.ref a0)] [] σ := id rfl
theorem g_X11_moveAt (a0 : Nat) (a1 : Int32) (σ : am_M) : S_X11_moveAt [.ref a0, .int a1] σ = dn_X11_moveAt_0 [some (.ref a0), some (.int a1), none] [] σ := id rfl
theorem g_X11_keeps (a0 : Nat) (a1 : Int32) (σ : am_M) : S_X11_keeps [.ref a0, .int a1] σ = dn_X11_keeps_0 (am_it (hd_X11_keeps) am_fuel) [some (.ref a0), some (.int a1), none] [] σ := id rfl
theorem g_X11_gives (a0 : Nat) (a1 : Int32) (σ : am_M) : S_X11_gives [.ref a0, .int a1] σ = dn_X11_gives_0 (am_it (hd_X11_gives) am_fuel) [some (.ref a0), some (.int a1), none] [] σ := id rfl
theorem g_X11_runs (a0 : Nat) (σ : am_M) : S_X11_runs [.ref a0] σ = dn_X11_runs_0 [some (.ref a0), none] [] σ := id rfl
theorem g_X11_runWater (a0 : Nat) (a1 : Int32) (σ : am_M) : S_X11_runWater [.ref a0, .int a1] σ = dn_X11_runWater_0 [some (.ref a0), some (.int a1)] [] σ := id rfl
theorem g_X11_finds (a0 : Nat) (a1 : Int32) (σ : am_M) : S_X11_finds [.ref a0, .int a1] σ = dn_X11_finds_0 (am_it (hd_X11_finds) am_fuel) [some (.ref a0), some (.int a1), none, none] [] σ := id rfl
theorem g_X11_findsNext (a0 : Nat) (a1 : Int32) (σ : am_M) : S_X11_findsNext [.ref a0, .int a1] σ = dn_X11_findsNext_0 [some (.ref a0), some (.int a1)] [] σ := id rfl
theorem g_X11_next (a0 : Nat) (a1 : Int32) (σ : am_M) : S_X11_next [.ref a0, .int a1] σ = dn_X11_next_0 [some (.ref a0), some (.int a1)] [] σ := id rfl
theorem g_X11_nextAt (a0 : Nat) (a1 : Int32) (σ : am_M) : S_X11_nextAt [.ref a0, .int a1] σ = dn_X11_nextAt_0 [some (.ref a0), some (.int a1)] [] σ := id rfl
theorem g_X11_over (a0 : Nat) (a1 : Int32) (σ : am_M) : S_X11_over [.ref a0, .int a1] σ = dn_X11_over_0 [some (.ref a0), some (.int a1)] [] σ := id rfl
theorem g_X11_easiest (a0 : Nat) (σ : am_M) : S_X11_easiest [.ref a0] σ = dn_X11_easiest_0 (am_it (hd_X11_easiest) am_fuel) [some (.ref a0), none, none, none] [] σ := id rfl
theorem g_X11_withers (a0 : Nat) (a1 : Int32) (σ : am_M) : S_X11_withers [.ref a0, .int a1] σ = dn_X11_withers_0 [some (.ref a0), some (.int a1), none] [] σ := id rfl
theorem g_X11_wilts (a0 : Nat) (a1 : Int32) (σ : am_M) : S_X11_wilts [.ref a0, .int a1] σ = dn_X11_wilts_0 [some (.ref a0), some (.int a1), none] [] σ := id rfl
theorem g_X11_thirstiest (a0 : Nat) (σ : am_M) : S_X11_thirstiest [.ref a0] σ = dn_X11_thirstiest_0 (am_it (hd_X11_thirstiest) am_fuel) [some (.ref a0), none, none] [] σ := id rfl
theorem g_X11_most (E : am_F) (a0 : Nat) (a1 : Int32) (a2 : Int32) (a3 : Int32) (σ : am_M) : F_X11_most E [.ref a0, .int a1, .int a2, .int a3] σ = dn_X11_most_0 E (am_it (hd_X11_most E) am_fuel) [some (.ref a0), some (.int a1), some (.int a2), some (.int a3), none, none, none, none, none, none, none] [] σ := id rfl
theorem g_X11_isAsked (a0 : Nat) (a1 : Int32) (a2 : Int32) (σ : am_M) : S_X11_isAsked [.ref a0, .int a1, .int a2] σ = dn_X11_isAsked_0 [some (.ref a0), some (.int a1), some (.int a2)] [] σ := id rfl
theorem g_X11_yields (a0 : Nat) (a1 : Int32) (a2 : Int32) (σ : am_M) : S_X11_yields [.ref a0, .int a1, .int a2] σ = dn_X11_yields_0 [some (.ref a0), some (.int a1), some (.int a2)] [] σ := id rfl
theorem g_X11_first (a0 : Nat) (a1 : Int32) (a2 : Int32) (σ : am_M) : S_X11_first [.ref a0, .int a1, .int a2] σ = dn_X11_first_0 [some (.ref a0), some (.int a1), some (.int a2)] [] σ := id rfl
theorem g_X11_plays (E : am_F) (a0 : Nat) (a1 : Int32) (a2 : Int32) (a3 : Int32) (σ : am_M) : F_X11_plays E [.ref a0, .int a1, .int a2, .int a3] σ = dn_X11_plays_0 E (am_it (hd_X11_plays E) am_fuel) [some (.ref a0), some (.int a1), some (.int a2), some (.int a3), none, none, none, none, none, none] [] σ := id rfl
theorem g_X11_game (a0 : Nat) (a1 : Int32) (a2 : Int32) (σ : am_M) : S_X11_game [.ref a0, .int a1, .int a2] σ = dn_X11_game_0 [some (.ref a0), some (.int a1), some (.int a2)] [] σ := id rfl
theorem g_X11_runFor (a0 : Nat) (a1 : Int32) (σ : am_M) : S_X11_runFor [.ref a0, .int a1] σ = dn_X11_runFor_0 [some (.ref a0), some (.int a1)] [] σ := id rfl
theorem g_X11_exchanges (a0 : Nat) (a1 : Int32) (a2 : Int32) (σ : am_M) : S_X11_exchanges [.ref a0, .int a1, .int a2] σ = dn_X11_exchanges_0 [some (.ref a0), some (.int a1), some (.int a2), none, none, none] [] σ := id rfl
theorem g_X11_isPlace (a0 : Nat) (a1 : Int32) (σ : am_M) : S_X11_isPlace [.ref a0, .int a1] σ = dn_X11_isPlace_0 [some (.ref a0), some (.int a1)] [] σ := id rfl
theorem g_X11_cheats (a0 : Nat) (a1 : Int32) (σ : am_M) : S_X11_cheats [.ref a0, .int a1] σ = dn_X11_cheats_0 (am_it (hd_X11_cheats) am_fuel) [some (.ref a0), some (.int a1), none, none, none, none] [] σ := id rfl
theorem g_X11_cheat (a0 : Nat) (a1 : Int32) (σ : am_M) : S_X11_cheat [.ref a0, .int a1] σ = dn_X11_cheat_0 [some (.ref a0), some (.int a1)] [] σ := id rfl
theorem g_X11_cheatAt (a0 : Nat) (a1 : Int32) (a2 : Int32) (σ : am_M) : S_X11_cheatAt [.ref a0, .int a1, .int a2] σ = dn_X11_cheatAt_0 [some (.ref a0), some (.int a1), some (.int a2)] [] σ := id rfl
theorem g_X11_wetsBy (a0 : Nat) (a1 : Int32) (σ : am_M) : S_X11_wetsBy [.ref a0, .int a1] σ = dn_X11_wetsBy_0 [some (.ref a0), some (.int a1)] [] σ := id rfl
theorem g_X11_areSeeds (a0 : Int32) (a1 : Int32) (σ : am_M) : S_X11_areSeeds [.int a0, .int a1] σ = dn_X11_areSeeds_0 [some (.int a0), some (.int a1)] [] σ := id rfl
theorem g_X11_wets (a0 : Nat) (a1 : Int32) (a2 : Int32) (σ : am_M) : S_X11_wets [.ref a0, .int a1, .int a2] σ = dn_X11_wets_0 [some (.ref a0), some (.int a1), some (.int a2)] [] σ := id rfl
theorem g_X11_meanWets (a0 : Nat) (a1 : Int32) (a2 : Int32) (a3 : Int32) (σ : am_M) : S_X11_meanWets [.ref a0, .int a1, .int a2, .int a3] σ = dn_X11_meanWets_0 (am_it (hd_X11_meanWets) am_fuel) [some (.ref a0), some (.int a1), some (.int a2), some (.int a3), none, none, none] [] σ := id rfl
theorem g_X11_bestSuit (a0 : Nat) (a1 : Int32) (a2 : Int32) (σ : am_M) : S_X11_bestSuit [.ref a0, .int a1, .int a2] σ = dn_X11_bestSuit_0 (am_it (hd_X11_bestSuit) am_fuel) [some (.ref a0), some (.int a1), some (.int a2), none, none] [] σ := id rfl
theorem g_X11_whyNotLike (a0 : Nat) (a1 : Int32) (a2 : Int32) (a3 : Int32) (σ : am_M) : S_X11_whyNotLike [.ref a0, .int a1, .int a2, .int a3] σ = dn_X11_whyNotLike_0 [some (.ref a0), some (.int a1), some (.int a2), some (.int a3)] [] σ := id rfl
theorem g_X11_likes (a0 : Nat) (a1 : Int32) (a2 : Int32) (a3 : Int32) (σ : am_M) : S_X11_likes [.ref a0, .int a1, .int a2, .int a3] σ = dn_X11_likes_0 (am_it (hd_X11_likes) am_fuel) [some (.ref a0), some (.int a1), some (.int a2), some (.int a3), none, none, none, none] [] σ := id rfl
theorem g_X11_like (a0 : Nat) (a1 : Int32) (a2 : Int32) (a3 : Int32) (σ : am_M) : S_X11_like [.ref a0, .int a1, .int a2, .int a3] σ = dn_X11_like_0 [some (.ref a0), some (.int a1), some (.int a2), some (.int a3)] [] σ := id rfl
theorem g_X11_likeFirst (a0 : Nat) (a1 : Int32) (a2 : Int32) (a3 : Int32) (σ : am_M) : S_X11_likeFirst [.ref a0, .int a1, .int a2, .int a3] σ = dn_X11_likeFirst_0 [some (.ref a0), some (.int a1), some (.int a2), some (.int a3)] [] σ := id rfl
theorem g_X11_packTop (a0 : Nat) (a1 : Int32) (a2 : Int32) (σ : am_M) : S_X11_packTop [.ref a0, .int a1, .int a2] σ = dn_X11_packTop_0 [some (.ref a0), some (.int a1), some (.int a2), none] [] σ := id rfl
theorem g_X11_draw (a0 : Nat) (a1 : Int32) (σ : am_M) : S_X11_draw [.ref a0, .int a1] σ = dn_X11_draw_0 [some (.ref a0), some (.int a1)] [] σ := id rfl
theorem g_X11_anyDays (a0 : Nat) (a1 : Int32) (σ : am_M) : S_X11_anyDays [.ref a0, .int a1] σ = dn_X11_anyDays_0 (am_it (hd_X11_anyDays) am_fuel) [some (.ref a0), some (.int a1), none] [] σ := id rfl
theorem g_X11_isMoved (a0 : Nat) (a1 : Int32) (a2 : Int32) (σ : am_M) : S_X11_isMoved [.ref a0, .int a1, .int a2] σ = dn_X11_isMoved_0 [some (.ref a0), some (.int a1), some (.int a2)] [] σ := id rfl
theorem g_X11_isAny (a0 : Nat) (σ : am_M) : S_X11_isAny [.ref a0] σ = dn_X11_isAny_0 [some (.ref a0), none, none] [] σ := id rfl
theorem g_X11_isRun (a0 : Nat) (σ : am_M) : S_X11_isRun [.ref a0] σ = dn_X11_isRun_0 [some (.ref a0), none] [] σ := id rfl
theorem g_X11_does (a0 : Nat) (a1 : Int32) (σ : am_M) : S_X11_does [.ref a0, .int a1] σ = dn_X11_does_0 [some (.ref a0), some (.int a1), none] [] σ := id rfl
theorem g_X11_isSo (a0 : Nat) (a1 : Int32) (σ : am_M) : S_X11_isSo [.ref a0, .int a1] σ = dn_X11_isSo_0 [some (.ref a0), some (.int a1), none, none] [] σ := id rfl
theorem g_X11_doOne (E : am_F) (a0 : Nat) (a1 : Int32) (σ : am_M) : F_X11_doOne E [.ref a0, .int a1] σ = dn_X11_doOne_0 E (am_it (hd_X11_doOne E) am_fuel) [some (.ref a0), some (.int a1), none, none, none] [] σ := id rfl
theorem g_X11_doAll (E : am_F) (a0 : Nat) (a1 : Int32) (a2 : Int32) (σ : am_M) : F_X11_doAll E [.ref a0, .int a1, .int a2] σ = dn_X11_doAll_0 E (am_it (hd_X11_doAll E) am_fuel) [some (.ref a0), some (.int a1), some (.int a2), none] [] σ := id rfl
theorem g_X11_runsSeasons (a0 : Nat) (a1 : Int32) (σ : am_M) : S_X11_runsSeasons [.ref a0, .int a1] σ = dn_X11_runsSeasons_0 [some (.ref a0), some (.int a1)] [] σ := id rfl
theorem g_X11_live (a0 : Nat) (a1 : Int32) (σ : am_M) : S_X11_live [.ref a0, .int a1] σ = dn_X11_live_0 [some (.ref a0), some (.int a1)] [] σ := id rfl
theorem g_X11_lived (a0 : Nat) (a1 : Int32) (σ : am_M) : S_X11_lived [.ref a0, .int a1] σ = dn_X11_lived_0 [some (.ref a0), some (.int a1)] [] σ := id rfl
theorem g_X11_mean (a0 : Nat) (a1 : Int32) (a2 : Int32) (σ : am_M) : S_X11_mean [.ref a0, .int a1, .int a2] σ = dn_X11_mean_0 (am_it (hd_X11_mean) am_fuel) [some (.ref a0), some (.int a1), some (.int a2), none, none, none, none] [] σ := id rfl
theorem g_X11_mark (a0 : Nat) (σ : am_M) : S_X11_mark [.ref a0] σ = dn_X11_mark_0 [some (.ref a0)] [] σ := id rfl
theorem g_X11_back (a0 : Nat) (σ : am_M) : S_X11_back [.ref a0] σ = dn_X11_back_0 [some (.ref a0)] [] σ := id rfl
def x_nI (lv : am_L) (i : Nat) (f : Int32 → Option am_R) : Option am_R := match am_nth lv i with
  | some (.int x) => f x
  | _ => none
def x_nL (lv : am_L) (i : Nat) (f : Int64 → Option am_R) : Option am_R := match am_nth lv i with
  | some (.long x) => f x
  | _ => none
def x_nR (lv : am_L) (i : Nat) (f : Nat → Option am_R) : Option am_R := match am_nth lv i with
  | some (.ref x) => f x
  | _ => none
def x_s1 (lv : am_L) (i : Nat) (v : Value) (f : am_L → Option am_R) : Option am_R := f (am_set1 lv i v)
def x_c1 (lv : am_L) (i : Nat) (f : am_L → Option am_R) : Option am_R := f (am_clr lv i)
def x_rI (o : Option am_R) (k : am_K) (lv : am_L) (rest : List Value) : Option am_R := am_bI o fun x σ => k lv (.int x :: rest) σ
def x_rL (o : Option am_R) (k : am_K) (lv : am_L) (rest : List Value) : Option am_R := am_bL o fun x σ => k lv (.long x :: rest) σ
def x_rV (o : Option am_R) (k : am_K) (lv : am_L) (rest : List Value) : Option am_R := am_bV o fun σ => k lv rest σ
theorem x_rI1 (x : Int32) (σ : am_M) (k : am_K) (lv : am_L) (rest : List Value) : x_rI (some (some (.int x), σ)) k lv rest = k lv (.int x :: rest) σ := id rfl
theorem x_rL1 (x : Int64) (σ : am_M) (k : am_K) (lv : am_L) (rest : List Value) : x_rL (some (some (.long x), σ)) k lv rest = k lv (.long x :: rest) σ := id rfl
theorem x_rV1 (σ : am_M) (k : am_K) (lv : am_L) (rest : List Value) : x_rV (some (none, σ)) k lv rest = k lv rest σ := id rfl
theorem x_rIn (k : am_K) (lv : am_L) (rest : List Value) : x_rI none k lv rest = none := id rfl
theorem x_rLn (k : am_K) (lv : am_L) (rest : List Value) : x_rL none k lv rest = none := id rfl
theorem x_rVn (k : am_K) (lv : am_L) (rest : List Value) : x_rV none k lv rest = none := id rfl
theorem x_rIf {c : Prop} [Decidable c] (a b : Option am_R) (k : am_K) (lv : am_L) (rest : List Value) : x_rI (if c then a else b) k lv rest = if c then x_rI a k lv rest else x_rI b k lv rest := by split <;> rfl
theorem x_rLf {c : Prop} [Decidable c] (a b : Option am_R) (k : am_K) (lv : am_L) (rest : List Value) : x_rL (if c then a else b) k lv rest = if c then x_rL a k lv rest else x_rL b k lv rest := by split <;> rfl
theorem x_rVf {c : Prop} [Decidable c] (a b : Option am_R) (k : am_K) (lv : am_L) (rest : List Value) : x_rV (if c then a else b) k lv rest = if c then x_rV a k lv rest else x_rV b k lv rest := by split <;> rfl
theorem x_n1I (v : Option Value) (t : am_L) (i : Nat) (f : Int32 → Option am_R) : x_nI (v :: t) (i + 1) f = x_nI t i f := id rfl
theorem x_n1L (v : Option Value) (t : am_L) (i : Nat) (f : Int64 → Option am_R) : x_nL (v :: t) (i + 1) f = x_nL t i f := id rfl
theorem x_n1R (v : Option Value) (t : am_L) (i : Nat) (f : Nat → Option am_R) : x_nR (v :: t) (i + 1) f = x_nR t i f := id rfl
theorem x_n0I (x : Int32) (t : am_L) (f : Int32 → Option am_R) : x_nI (some (.int x) :: t) 0 f = f x := id rfl
theorem x_n0L (x : Int64) (t : am_L) (f : Int64 → Option am_R) : x_nL (some (.long x) :: t) 0 f = f x := id rfl
theorem x_n0R (x : Nat) (t : am_L) (f : Nat → Option am_R) : x_nR (some (.ref x) :: t) 0 f = f x := id rfl
theorem x_s0 (x : Option Value) (t : am_L) (v : Value) (f : am_L → Option am_R) : x_s1 (x :: t) 0 v f = f (some v :: t) := id rfl
theorem x_s1i (a : Int32) (y : Option Value) (t : am_L) (v : Value) (f : am_L → Option am_R) : x_s1 (some (.int a) :: y :: t) 1 v f = f (some (.int a) :: some v :: t) := id rfl
theorem x_s1r (a : Nat) (y : Option Value) (t : am_L) (v : Value) (f : am_L → Option am_R) : x_s1 (some (.ref a) :: y :: t) 1 v f = f (some (.ref a) :: some v :: t) := id rfl
theorem x_s1n (y : Option Value) (t : am_L) (v : Value) (f : am_L → Option am_R) : x_s1 (none :: y :: t) 1 v f = f (none :: some v :: t) := id rfl
theorem x_s1x (x y : Option Value) (t : am_L) (v : Value) (f : am_L → Option am_R) : x_s1 (x :: y :: t) 1 v f = f (am_dr x :: some v :: t) := id rfl
theorem x_s2 (x : Option Value) (t : am_L) (n : Nat) (v : Value) (f : am_L → Option am_R) : x_s1 (x :: t) (n + 2) v f = x_s1 t (n + 1) v (fun l => f (x :: l)) := id rfl
theorem x_c0 (x : Option Value) (t : am_L) (f : am_L → Option am_R) : x_c1 (x :: t) 0 f = f (none :: t) := id rfl
theorem x_c2 (x : Option Value) (t : am_L) (n : Nat) (f : am_L → Option am_R) : x_c1 (x :: t) (n + 1) f = x_c1 t n (fun l => f (x :: l)) := id rfl
theorem x_tk0 (st acc : List Value) (f : List Value → List Value → Option am_R) : am_tkn 0 st acc f = if am_le4 st = true then f acc st else none := id rfl
theorem x_tk1 (n : Nat) (v : Value) (st acc : List Value) (f : List Value → List Value → Option am_R) : am_tkn (n + 1) (v :: st) acc f = am_tkn n st (v :: acc) f := id rfl
theorem x_40 : am_le4 [] = true := id rfl
theorem x_41 (a : Value) : am_le4 [a] = true := id rfl
theorem x_42 (a b : Value) : am_le4 [a, b] = true := id rfl
theorem x_43 (a b c : Value) : am_le4 [a, b, c] = true := id rfl
theorem x_44 (a b c d : Value) : am_le4 [a, b, c, d] = true := id rfl
theorem x_rcv (C b : Nat) (t : List Value) (r : Option am_R) : am_rcv C (.ref b :: t) r = if am_kd b = C then r else none := id rfl
theorem y_iload (i : Nat) (k : am_K) (lv : am_L) (st : List Value) (σ : am_M) : am_iload i k lv st σ = x_nI lv i (fun x => k lv (.int x :: st) σ) := id rfl
theorem y_lload (i : Nat) (k : am_K) (lv : am_L) (st : List Value) (σ : am_M) : am_lload i k lv st σ = x_nL lv i (fun x => k lv (.long x :: st) σ) := id rfl
theorem y_aload (i : Nat) (k : am_K) (lv : am_L) (st : List Value) (σ : am_M) : am_aload i k lv st σ = x_nR lv i (fun x => k lv (.ref x :: st) σ) := id rfl
theorem y_istore (i : Nat) (k : am_K) (x : Int32) (lv : am_L) (st : List Value) (σ : am_M) : am_istore i k lv (.int x :: st) σ = x_s1 lv i (.int x) (fun l => k l st σ) := id rfl
theorem y_astore (i : Nat) (k : am_K) (x : Nat) (lv : am_L) (st : List Value) (σ : am_M) : am_astore i k lv (.ref x :: st) σ = x_s1 lv i (.ref x) (fun l => k l st σ) := id rfl
theorem y_lstore (i : Nat) (k : am_K) (x : Int64) (lv : am_L) (st : List Value) (σ : am_M) : am_lstore i k lv (.long x :: st) σ = x_s1 lv i (.long x) (fun l => x_c1 l (i + 1) (fun l => k l st σ)) := id rfl
theorem y_iinc (i : Nat) (n : Int32) (k : am_K) (lv : am_L) (st : List Value) (σ : am_M) : am_iinc i n k lv st σ = x_nI lv i (fun x => x_s1 lv i (.int (x + n)) (fun l => k l st σ)) := id rfl
theorem y_cI (v : Int32) (k : am_K) (lv : am_L) (st : List Value) (σ : am_M) : am_cI v k lv st σ = k lv (.int v :: st) σ := id rfl
theorem y_cL (v : Int64) (k : am_K) (lv : am_L) (st : List Value) (σ : am_M) : am_cL v k lv st σ = k lv (.long v :: st) σ := id rfl
theorem y_bin (o : Int32 → Int32 → Int32) (k : am_K) (x y : Int32) (lv : am_L) (st : List Value) (σ : am_M) : am_bin o k lv (.int y :: .int x :: st) σ = k lv (.int (o x y) :: st) σ := id rfl
theorem y_binL (o : Int64 → Int64 → Int64) (k : am_K) (x y : Int64) (lv : am_L) (st : List Value) (σ : am_M) : am_binL o k lv (.long y :: .long x :: st) σ = k lv (.long (o x y) :: st) σ := id rfl
theorem y_div (o : Int32 → Int32 → Int32) (k : am_K) (x y : Int32) (lv : am_L) (st : List Value) (σ : am_M) : am_div o k lv (.int y :: .int x :: st) σ = (if y = 0 then none else k lv (.int (o x y) :: st) σ) := id rfl
theorem y_divL (o : Int64 → Int64 → Int64) (k : am_K) (x y : Int64) (lv : am_L) (st : List Value) (σ : am_M) : am_divL o k lv (.long y :: .long x :: st) σ = (if y = 0 then none else k lv (.long (o x y) :: st) σ) := id rfl
theorem y_lshl (k : am_K) (x : Int64) (y : Int32) (lv : am_L) (st : List Value) (σ : am_M) : am_lshl k lv (.int y :: .long x :: st) σ = k lv (.long (x <<< (y.toInt64 &&& 63)) :: st) σ := id rfl
theorem y_un (o : Int32 → Int32) (k : am_K) (x : Int32) (lv : am_L) (st : List Value) (σ : am_M) : am_un o k lv (.int x :: st) σ = k lv (.int (o x) :: st) σ := id rfl
theorem y_i2l (k : am_K) (x : Int32) (lv : am_L) (st : List Value) (σ : am_M) : am_i2l k lv (.int x :: st) σ = k lv (.long x.toInt64 :: st) σ := id rfl
theorem y_lneg (k : am_K) (x : Int64) (lv : am_L) (st : List Value) (σ : am_M) : am_lneg k lv (.long x :: st) σ = k lv (.long (-x) :: st) σ := id rfl
theorem y_l2i (k : am_K) (x : Int64) (lv : am_L) (st : List Value) (σ : am_M) : am_l2i k lv (.long x :: st) σ = k lv (.int x.toInt32 :: st) σ := id rfl
theorem y_lcmp (k : am_K) (x y : Int64) (lv : am_L) (st : List Value) (σ : am_M) : am_lcmp k lv (.long y :: .long x :: st) σ = k lv (.int (lg_cmp x y) :: st) σ := id rfl
theorem y_dupI (k : am_K) (x : Int32) (lv : am_L) (st : List Value) (σ : am_M) : am_dup k lv (.int x :: st) σ = k lv (.int x :: .int x :: st) σ := id rfl
theorem y_dupR (k : am_K) (x : Nat) (lv : am_L) (st : List Value) (σ : am_M) : am_dup k lv (.ref x :: st) σ = k lv (.ref x :: .ref x :: st) σ := id rfl
theorem y_dup2 (k : am_K) (x : Nat) (y : Int32) (lv : am_L) (st : List Value) (σ : am_M) : am_dup2 k lv (.int y :: .ref x :: st) σ = k lv (.int y :: .ref x :: .int y :: .ref x :: st) σ := id rfl
theorem y_pop (k : am_K) (x : Int32) (lv : am_L) (st : List Value) (σ : am_M) : am_pop k lv (.int x :: st) σ = k lv st σ := id rfl
theorem y_goto (k : am_K) (lv : am_L) (st : List Value) (σ : am_M) : am_goto k lv st σ = k lv st σ := id rfl
theorem y_eq0 (kt kf : am_K) (x : Int32) (lv : am_L) (st : List Value) (σ : am_M) : am_eq0 kt kf lv (.int x :: st) σ = (if x = 0 then kt lv st σ else kf lv st σ) := id rfl
theorem y_eq (kt kf : am_K) (x y : Int32) (lv : am_L) (st : List Value) (σ : am_M) : am_eq kt kf lv (.int y :: .int x :: st) σ = (if x = y then kt lv st σ else kf lv st σ) := id rfl
theorem y_lt0 (kt kf : am_K) (x : Int32) (lv : am_L) (st : List Value) (σ : am_M) : am_lt0 kt kf lv (.int x :: st) σ = (if x < 0 then kt lv st σ else kf lv st σ) := id rfl
theorem y_lt (kt kf : am_K) (x y : Int32) (lv : am_L) (st : List Value) (σ : am_M) : am_lt kt kf lv (.int y :: .int x :: st) σ = (if x < y then kt lv st σ else kf lv st σ) := id rfl
theorem y_le0 (kt kf : am_K) (x : Int32) (lv : am_L) (st : List Value) (σ : am_M) : am_le0 kt kf lv (.int x :: st) σ = (if x ≤ 0 then kt lv st σ else kf lv st σ) := id rfl
theorem y_le (kt kf : am_K) (x y : Int32) (lv : am_L) (st : List Value) (σ : am_M) : am_le kt kf lv (.int y :: .int x :: st) σ = (if x ≤ y then kt lv st σ else kf lv st σ) := id rfl
theorem y_switch (t : List (Int32 × am_K)) (d : am_K) (x : Int32) (lv : am_L) (st : List Value) (σ : am_M) : am_switch t d lv (.int x :: st) σ = am_sw t d x lv st σ := id rfl
theorem y_sw0 (d : am_K) (x : Int32) (lv : am_L) (st : List Value) (σ : am_M) : am_sw [] d x lv st σ = d lv st σ := id rfl
theorem y_sw1 (a : Int32) (k : am_K) (t : List (Int32 × am_K)) (d : am_K) (x : Int32) (lv : am_L) (st : List Value) (σ : am_M) : am_sw ((a, k) :: t) d x lv st σ = (if x = a then k lv st σ else am_sw t d x lv st σ) := id rfl
theorem y_getI (C k : Nat) (kk : am_K) (h : Nat) (lv : am_L) (st : List Value) (σ : am_M) : am_getI C k kk lv (.ref h :: st) σ = (if am_kd h = C then kk lv (.int (σ.1 h k) :: st) σ else none) := id rfl
theorem y_getL (C k : Nat) (kk : am_K) (h : Nat) (lv : am_L) (st : List Value) (σ : am_M) : am_getL C k kk lv (.ref h :: st) σ = (if am_kd h = C then kk lv (.long (σ.2 h k) :: st) σ else none) := id rfl
theorem y_getR (C k d : Nat) (kk : am_K) (h : Nat) (lv : am_L) (st : List Value) (σ : am_M) : am_getR C k d kk lv (.ref h :: st) σ = (if am_kd h = C then kk lv (.ref (h + d) :: st) σ else none) := id rfl
theorem y_getT (kk : am_K) (h : Nat) (lv : am_L) (st : List Value) (σ : am_M) : am_getT kk lv (.ref h :: st) σ = (if am_kd h = 3 then (if σ.1 h 1 = 1 then kk lv (.ref 2 :: st) σ else none) else none) := id rfl
theorem y_putI (C k : Nat) (kk : am_K) (h : Nat) (v : Int32) (lv : am_L) (st : List Value) (σ : am_M) : am_putI C k kk lv (.int v :: .ref h :: st) σ = (if am_kd h = C then kk lv st (am_uI σ h k v) else none) := id rfl
theorem y_putZ (C k : Nat) (kk : am_K) (h : Nat) (v : Int32) (lv : am_L) (st : List Value) (σ : am_M) : am_putZ C k kk lv (.int v :: .ref h :: st) σ = (if am_kd h = C then (if v &&& 1 = v then kk lv st (am_uI σ h k v) else none) else none) := id rfl
theorem y_putL (C k : Nat) (kk : am_K) (h : Nat) (v : Int64) (lv : am_L) (st : List Value) (σ : am_M) : am_putL C k kk lv (.long v :: .ref h :: st) σ = (if am_kd h = C then kk lv st (am_uL σ h k v) else none) := id rfl
theorem y_putT (kk : am_K) (h v : Nat) (lv : am_L) (st : List Value) (σ : am_M) : am_putT kk lv (.ref v :: .ref h :: st) σ = (if am_kd h = 3 then (if v = 2 then kk lv st (am_uI σ h 1 1) else none) else none) := id rfl
theorem y_iald (kk : am_K) (h : Nat) (i : Int32) (lv : am_L) (st : List Value) (σ : am_M) : am_iald kk lv (.int i :: .ref h :: st) σ = (if am_kd h = 20 then (if am_inb i (am_ln h) = true then kk lv (.int (σ.1 h i.toNatClampNeg) :: st) σ else none) else none) := id rfl
theorem y_bald (kk : am_K) (h : Nat) (i : Int32) (lv : am_L) (st : List Value) (σ : am_M) : am_bald kk lv (.int i :: .ref h :: st) σ = (if am_kd h = 22 then (if am_inb i (am_ln h) = true then kk lv (.int (σ.1 h i.toNatClampNeg) :: st) σ else none) else none) := id rfl
theorem y_lald (kk : am_K) (h : Nat) (i : Int32) (lv : am_L) (st : List Value) (σ : am_M) : am_lald kk lv (.int i :: .ref h :: st) σ = (if am_kd h = 21 then (if am_inb i (am_ln h) = true then kk lv (.long (σ.2 h i.toNatClampNeg) :: st) σ else none) else none) := id rfl
theorem y_aald (C : Nat) (kk : am_K) (h : Nat) (i : Int32) (lv : am_L) (st : List Value) (σ : am_M) : am_aald C kk lv (.int i :: .ref h :: st) σ = (if am_kd h = C then (if am_inb i (am_ln h) = true then kk lv (.ref (am_la h i.toNatClampNeg) :: st) σ else none) else none) := id rfl
theorem y_iast (kk : am_K) (h : Nat) (i : Int32) (v : Int32) (lv : am_L) (st : List Value) (σ : am_M) : am_iast kk lv (.int v :: .int i :: .ref h :: st) σ = (if am_kd h = 20 then (if am_inb i (am_ln h) = true then kk lv st (am_uI σ h i.toNatClampNeg v) else none) else none) := id rfl
theorem y_bast (kk : am_K) (h : Nat) (i : Int32) (v : Int32) (lv : am_L) (st : List Value) (σ : am_M) : am_bast kk lv (.int v :: .int i :: .ref h :: st) σ = (if am_kd h = 22 then (if am_inb i (am_ln h) = true then kk lv st (am_uI σ h i.toNatClampNeg (vp_nar .byte v)) else none) else none) := id rfl
theorem y_last (kk : am_K) (h : Nat) (i : Int32) (v : Int64) (lv : am_L) (st : List Value) (σ : am_M) : am_last kk lv (.long v :: .int i :: .ref h :: st) σ = (if am_kd h = 21 then (if am_inb i (am_ln h) = true then kk lv st (am_uL σ h i.toNatClampNeg v) else none) else none) := id rfl
theorem y_alen (kk : am_K) (h : Nat) (lv : am_L) (st : List Value) (σ : am_M) : am_alen kk lv (.ref h :: st) σ = (if 20 ≤ am_kd h ∧ am_kd h ≤ 24 then kk lv (.int (Int32.ofNat (am_ln h)) :: st) σ else none) := id rfl
theorem y_sld (L : Nat) (xs : Nat → Int32) (kk : am_K) (h : Nat) (i : Int32) (lv : am_L) (st : List Value) (σ : am_M) : am_sld L xs kk lv (.int i :: .ref h :: st) σ = (if h = 999 then (if am_inb i L = true then kk lv (.int (xs i.toNatClampNeg) :: st) σ else none) else none) := id rfl
theorem y_slen (L : Nat) (kk : am_K) (h : Nat) (lv : am_L) (st : List Value) (σ : am_M) : am_slen L kk lv (.ref h :: st) σ = (if h = 999 then kk lv (.int (Int32.ofNat L) :: st) σ else none) := id rfl
theorem y_iret (lv : am_L) (x : Int32) (σ : am_M) : am_iret lv [.int x] σ = some (some (.int x), σ) := id rfl
theorem y_zret (lv : am_L) (x : Int32) (σ : am_M) : am_zret lv [.int x] σ = if x &&& 1 = x then some (some (.int x), σ) else none := id rfl
theorem y_lret (lv : am_L) (x : Int64) (σ : am_M) : am_lret lv [.long x] σ = some (some (.long x), σ) := id rfl
theorem y_vret (lv : am_L) (σ : am_M) : am_vret lv [] σ = some (none, σ) := id rfl
theorem y_svI (f : am_F) (n : Nat) (k : am_K) (lv : am_L) (st : List Value) (σ : am_M) : am_svI f n k lv st σ = am_tkn n st [] (fun as rest => x_rI (f as σ) k lv rest) := id rfl
theorem y_ivI (C : Nat) (f : am_F) (n : Nat) (k : am_K) (lv : am_L) (st : List Value) (σ : am_M) : am_ivI C f n k lv st σ = am_tkn (n + 1) st [] (fun as rest => am_rcv C as (x_rI (f as σ) k lv rest)) := id rfl
theorem y_svL (f : am_F) (n : Nat) (k : am_K) (lv : am_L) (st : List Value) (σ : am_M) : am_svL f n k lv st σ = am_tkn n st [] (fun as rest => x_rL (f as σ) k lv rest) := id rfl
theorem y_ivL (C : Nat) (f : am_F) (n : Nat) (k : am_K) (lv : am_L) (st : List Value) (σ : am_M) : am_ivL C f n k lv st σ = am_tkn (n + 1) st [] (fun as rest => am_rcv C as (x_rL (f as σ) k lv rest)) := id rfl
theorem y_svV (f : am_F) (n : Nat) (k : am_K) (lv : am_L) (st : List Value) (σ : am_M) : am_svV f n k lv st σ = am_tkn n st [] (fun as rest => x_rV (f as σ) k lv rest) := id rfl
theorem y_ivV (C : Nat) (f : am_F) (n : Nat) (k : am_K) (lv : am_L) (st : List Value) (σ : am_M) : am_ivV C f n k lv st σ = am_tkn (n + 1) st [] (fun as rest => am_rcv C as (x_rV (f as σ) k lv rest)) := id rfl
theorem y_max (k : am_K) (x y : Int32) (lv : am_L) (st : List Value) (σ : am_M) : am_max k lv (.int y :: .int x :: st) σ = (if am_le4 st = true then k lv (.int (if x < y then y else x) :: st) σ else none) := id rfl
theorem y_min (k : am_K) (x y : Int32) (lv : am_L) (st : List Value) (σ : am_M) : am_min k lv (.int y :: .int x :: st) σ = (if am_le4 st = true then k lv (.int (if y < x then y else x) :: st) σ else none) := id rfl
theorem y_absL (k : am_K) (x : Int64) (lv : am_L) (st : List Value) (σ : am_M) : am_absL k lv (.long x :: st) σ = (if am_le4 st = true then k lv (.long (if 0 < x then x else -x) :: st) σ else none) := id rfl
theorem y_cpI (k : am_K) (n dp sp : Int32) (h1 h0 : Nat) (lv : am_L) (st : List Value) (σ : am_M) : am_cpI k lv (.int n :: .int dp :: .ref h1 :: .int sp :: .ref h0 :: st) σ = (if am_le4 st = true then (if am_kd h0 = 20 ∧ am_kd h1 = 20 then (if am_cpOk sp dp n (am_ln h0) (am_ln h1) = true then k lv st (am_uA σ h1 (va_cpy (σ.1 h0) (σ.1 h1) sp.toNatClampNeg dp.toNatClampNeg n.toNatClampNeg)) else none) else none) else none) := id rfl
theorem y_cpL (k : am_K) (n dp sp : Int32) (h1 h0 : Nat) (lv : am_L) (st : List Value) (σ : am_M) : am_cpL k lv (.int n :: .int dp :: .ref h1 :: .int sp :: .ref h0 :: st) σ = (if am_le4 st = true then (if am_kd h0 = 21 ∧ am_kd h1 = 21 then (if am_cpOk sp dp n (am_ln h0) (am_ln h1) = true then k lv st (am_uB σ h1 (va_cpy (σ.2 h0) (σ.2 h1) sp.toNatClampNeg dp.toNatClampNeg n.toNatClampNeg)) else none) else none) else none) := id rfl
