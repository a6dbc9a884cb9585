theorem dX12_undo_111 : decode cX12_undo 111 = .ok (.iload_n 2, 1) := by decide +kernel
theorem dX12_undo_112 : decode cX12_undo 112 = .ok (.iadd, 1) := by decide +kernel
theorem dX12_undo_113 : decode cX12_undo 113 = .ok (.iaload, 1) := by decide +kernel
theorem dX12_undo_114 : decode cX12_undo 114 = .ok (.iastore, 1) := by decide +kernel
theorem dX12_undo_115 : decode cX12_undo 115 = .ok (.iinc 2 1, 3) := by decide +kernel
theorem dX12_undo_118 : decode cX12_undo 118 = .ok (.goto (-50), 3) := by decide +kernel
theorem dX12_undo_121 : decode cX12_undo 121 = .ok (.iconst 0, 1) := by decide +kernel
theorem dX12_undo_122 : decode cX12_undo 122 = .ok (.istore_n 2, 1) := by decide +kernel
theorem dX12_undo_123 : decode cX12_undo 123 = .ok (.iload_n 2, 1) := by decide +kernel
theorem dX12_undo_124 : decode cX12_undo 124 = .ok (.bipush 6, 2) := by decide +kernel
theorem dX12_undo_126 : decode cX12_undo 126 = .ok (.if_icmp .ge 31, 3) := by decide +kernel
theorem dX12_undo_129 : decode cX12_undo 129 = .ok (.aload_n 0, 1) := by decide +kernel
theorem dX12_undo_130 : decode cX12_undo 130 = .ok (.getfield 7, 3) := by decide +kernel
theorem dX12_undo_133 : decode cX12_undo 133 = .ok (.iload_n 2, 1) := by decide +kernel
theorem dX12_undo_134 : decode cX12_undo 134 = .ok (.bipush 6, 2) := by decide +kernel
theorem dX12_undo_136 : decode cX12_undo 136 = .ok (.invokestatic 96, 3) := by decide +kernel
theorem dX12_undo_139 : decode cX12_undo 139 = .ok (.aload_n 0, 1) := by decide +kernel
theorem dX12_undo_140 : decode cX12_undo 140 = .ok (.getfield 7, 3) := by decide +kernel
theorem dX12_undo_143 : decode cX12_undo 143 = .ok (.iload_n 1, 1) := by decide +kernel
theorem dX12_undo_144 : decode cX12_undo 144 = .ok (.bipush 18, 2) := by decide +kernel
theorem dX12_undo_146 : decode cX12_undo 146 = .ok (.iadd, 1) := by decide +kernel
theorem dX12_undo_147 : decode cX12_undo 147 = .ok (.iload_n 2, 1) := by decide +kernel
theorem dX12_undo_148 : decode cX12_undo 148 = .ok (.iadd, 1) := by decide +kernel
theorem dX12_undo_149 : decode cX12_undo 149 = .ok (.iaload, 1) := by decide +kernel
theorem dX12_undo_150 : decode cX12_undo 150 = .ok (.iastore, 1) := by decide +kernel
theorem dX12_undo_151 : decode cX12_undo 151 = .ok (.iinc 2 1, 3) := by decide +kernel
theorem dX12_undo_154 : decode cX12_undo 154 = .ok (.goto (-31), 3) := by decide +kernel
theorem dX12_undo_157 : decode cX12_undo 157 = .ok (.iconst 1, 1) := by decide +kernel
theorem dX12_undo_158 : decode cX12_undo 158 = .ok (.ireturn, 1) := by decide +kernel
theorem dX12_of_0 : decode cX12_of 0 = .ok (.aload_n 0, 1) := by decide +kernel
theorem dX12_of_1 : decode cX12_of 1 = .ok (.iload_n 1, 1) := by decide +kernel
theorem dX12_of_2 : decode cX12_of 2 = .ok (.invokevirtual 63, 3) := by decide +kernel
theorem dX12_of_5 : decode cX12_of 5 = .ok (.ifCond .eq 15, 3) := by decide +kernel
theorem dX12_of_8 : decode cX12_of 8 = .ok (.iload_n 2, 1) := by decide +kernel
theorem dX12_of_9 : decode cX12_of 9 = .ok (.i2l, 1) := by decide +kernel
theorem dX12_of_10 : decode cX12_of 10 = .ok (.lconst 0, 1) := by decide +kernel
theorem dX12_of_11 : decode cX12_of 11 = .ok (.ldc2_w 85, 3) := by decide +kernel
theorem dX12_of_14 : decode cX12_of 14 = .ok (.invokestatic 53, 3) := by decide +kernel
theorem dX12_of_17 : decode cX12_of 17 = .ok (.ifCond .ne 8, 3) := by decide +kernel
theorem dX12_of_20 : decode cX12_of 20 = .ok (.aload_n 0, 1) := by decide +kernel
theorem dX12_of_21 : decode cX12_of 21 = .ok (.invokevirtual 59, 3) := by decide +kernel
theorem dX12_of_24 : decode cX12_of 24 = .ok (.ireturn, 1) := by decide +kernel
theorem dX12_of_25 : decode cX12_of 25 = .ok (.iload_n 2, 1) := by decide +kernel
theorem dX12_of_26 : decode cX12_of 26 = .ok (.iconst 5, 1) := by decide +kernel
theorem dX12_of_27 : decode cX12_of 27 = .ok (.if_icmp .ge 16, 3) := by decide +kernel
theorem dX12_of_30 : decode cX12_of 30 = .ok (.aload_n 0, 1) := by decide +kernel
theorem dX12_of_31 : decode cX12_of 31 = .ok (.getfield 7, 3) := by decide +kernel
theorem dX12_of_34 : decode cX12_of 34 = .ok (.iload_n 1, 1) := by decide +kernel
theorem dX12_of_35 : decode cX12_of 35 = .ok (.iload_n 2, 1) := by decide +kernel
theorem dX12_of_36 : decode cX12_of 36 = .ok (.invokestatic 73, 3) := by decide +kernel
theorem dX12_of_39 : decode cX12_of 39 = .ok (.iaload, 1) := by decide +kernel
theorem dX12_of_40 : decode cX12_of 40 = .ok (.goto 16, 3) := by decide +kernel
theorem dX12_of_43 : decode cX12_of 43 = .ok (.aload_n 0, 1) := by decide +kernel
theorem dX12_of_44 : decode cX12_of 44 = .ok (.iload_n 1, 1) := by decide +kernel
theorem dX12_of_45 : decode cX12_of 45 = .ok (.invokevirtual 206, 3) := by decide +kernel
theorem dX12_of_48 : decode cX12_of 48 = .ok (.ifCond .eq 7, 3) := by decide +kernel
theorem dX12_of_51 : decode cX12_of 51 = .ok (.iconst 1, 1) := by decide +kernel
theorem dX12_of_52 : decode cX12_of 52 = .ok (.goto 4, 3) := by decide +kernel
theorem dX12_of_55 : decode cX12_of 55 = .ok (.iconst 0, 1) := by decide +kernel
theorem dX12_of_56 : decode cX12_of 56 = .ok (.ireturn, 1) := by decide +kernel
theorem dX12_about_0 : decode cX12_about 0 = .ok (.aload_n 0, 1) := by decide +kernel
theorem dX12_about_1 : decode cX12_about 1 = .ok (.iload_n 1, 1) := by decide +kernel
theorem dX12_about_2 : decode cX12_about 2 = .ok (.invokevirtual 99, 3) := by decide +kernel
theorem dX12_about_5 : decode cX12_about 5 = .ok (.ifCond .eq 15, 3) := by decide +kernel
theorem dX12_about_8 : decode cX12_about 8 = .ok (.iload_n 2, 1) := by decide +kernel
theorem dX12_about_9 : decode cX12_about 9 = .ok (.i2l, 1) := by decide +kernel
theorem dX12_about_10 : decode cX12_about 10 = .ok (.lconst 0, 1) := by decide +kernel
theorem dX12_about_11 : decode cX12_about 11 = .ok (.ldc2_w 221, 3) := by decide +kernel
theorem dX12_about_14 : decode cX12_about 14 = .ok (.invokestatic 53, 3) := by decide +kernel
theorem dX12_about_17 : decode cX12_about 17 = .ok (.ifCond .ne 8, 3) := by decide +kernel
theorem dX12_about_20 : decode cX12_about 20 = .ok (.aload_n 0, 1) := by decide +kernel
theorem dX12_about_21 : decode cX12_about 21 = .ok (.invokevirtual 59, 3) := by decide +kernel
theorem dX12_about_24 : decode cX12_about 24 = .ok (.ireturn, 1) := by decide +kernel
theorem dX12_about_25 : decode cX12_about 25 = .ok (.iload_n 2, 1) := by decide +kernel
theorem dX12_about_26 : decode cX12_about 26 = .ok (.iconst 3, 1) := by decide +kernel
theorem dX12_about_27 : decode cX12_about 27 = .ok (.if_icmp .ne 17, 3) := by decide +kernel
theorem dX12_about_30 : decode cX12_about 30 = .ok (.aload_n 0, 1) := by decide +kernel
theorem dX12_about_31 : decode cX12_about 31 = .ok (.getfield 7, 3) := by decide +kernel
theorem dX12_about_34 : decode cX12_about 34 = .ok (.iload_n 1, 1) := by decide +kernel
theorem dX12_about_35 : decode cX12_about 35 = .ok (.bipush 6, 2) := by decide +kernel
theorem dX12_about_37 : decode cX12_about 37 = .ok (.invokestatic 96, 3) := by decide +kernel
theorem dX12_about_40 : decode cX12_about 40 = .ok (.iaload, 1) := by decide +kernel
theorem dX12_about_41 : decode cX12_about 41 = .ok (.goto 13, 3) := by decide +kernel
theorem dX12_about_44 : decode cX12_about 44 = .ok (.aload_n 0, 1) := by decide +kernel
theorem dX12_about_45 : decode cX12_about 45 = .ok (.getfield 7, 3) := by decide +kernel
theorem dX12_about_48 : decode cX12_about 48 = .ok (.iload_n 1, 1) := by decide +kernel
theorem dX12_about_49 : decode cX12_about 49 = .ok (.iconst 4, 1) := by decide +kernel
theorem dX12_about_50 : decode cX12_about 50 = .ok (.invokestatic 96, 3) := by decide +kernel
theorem dX12_about_53 : decode cX12_about 53 = .ok (.iaload, 1) := by decide +kernel
theorem dX12_about_54 : decode cX12_about 54 = .ok (.istore_n 3, 1) := by decide +kernel
theorem dX12_about_55 : decode cX12_about 55 = .ok (.iload_n 2, 1) := by decide +kernel
theorem dX12_about_56 : decode cX12_about 56 = .ok (.ifCond .ne 16, 3) := by decide +kernel
theorem dX12_about_59 : decode cX12_about 59 = .ok (.aload_n 0, 1) := by decide +kernel
theorem dX12_about_60 : decode cX12_about 60 = .ok (.getfield 7, 3) := by decide +kernel
theorem dX12_about_63 : decode cX12_about 63 = .ok (.iload_n 1, 1) := by decide +kernel
theorem dX12_about_64 : decode cX12_about 64 = .ok (.iconst 0, 1) := by decide +kernel
theorem dX12_about_65 : decode cX12_about 65 = .ok (.invokestatic 96, 3) := by decide +kernel
theorem dX12_about_68 : decode cX12_about 68 = .ok (.iaload, 1) := by decide +kernel
theorem dX12_about_69 : decode cX12_about 69 = .ok (.goto 36, 3) := by decide +kernel
theorem dX12_about_72 : decode cX12_about 72 = .ok (.iload_n 2, 1) := by decide +kernel
theorem dX12_about_73 : decode cX12_about 73 = .ok (.iconst 1, 1) := by decide +kernel
theorem dX12_about_74 : decode cX12_about 74 = .ok (.if_icmp .ne 11, 3) := by decide +kernel
theorem dX12_about_77 : decode cX12_about 77 = .ok (.aload_n 0, 1) := by decide +kernel
theorem dX12_about_78 : decode cX12_about 78 = .ok (.iload_n 1, 1) := by decide +kernel
theorem dX12_about_79 : decode cX12_about 79 = .ok (.invokevirtual 187, 3) := by decide +kernel
theorem dX12_about_82 : decode cX12_about 82 = .ok (.goto 23, 3) := by decide +kernel
theorem dX12_about_85 : decode cX12_about 85 = .ok (.iload_n 2, 1) := by decide +kernel
theorem dX12_about_86 : decode cX12_about 86 = .ok (.iconst 2, 1) := by decide +kernel
theorem dX12_about_87 : decode cX12_about 87 = .ok (.if_icmp .ne 17, 3) := by decide +kernel
theorem dX12_about_90 : decode cX12_about 90 = .ok (.aload_n 0, 1) := by decide +kernel
theorem dX12_about_91 : decode cX12_about 91 = .ok (.iload_n 1, 1) := by decide +kernel
theorem dX12_about_92 : decode cX12_about 92 = .ok (.aload_n 0, 1) := by decide +kernel
theorem dX12_about_93 : decode cX12_about 93 = .ok (.getfield 7, 3) := by decide +kernel
theorem dX12_about_96 : decode cX12_about 96 = .ok (.iconst 1, 1) := by decide +kernel
theorem dX12_about_97 : decode cX12_about 97 = .ok (.iaload, 1) := by decide +kernel
theorem dX12_about_98 : decode cX12_about 98 = .ok (.invokevirtual 193, 3) := by decide +kernel
theorem dX12_about_101 : decode cX12_about 101 = .ok (.goto 4, 3) := by decide +kernel
theorem dX12_about_104 : decode cX12_about 104 = .ok (.iload_n 3, 1) := by decide +kernel
theorem dX12_about_105 : decode cX12_about 105 = .ok (.ireturn, 1) := by decide +kernel
theorem dX12_storm_0 : decode cX12_storm 0 = .ok (.iload_n 1, 1) := by decide +kernel
theorem dX12_storm_1 : decode cX12_storm 1 = .ok (.i2l, 1) := by decide +kernel
theorem dX12_storm_2 : decode cX12_storm 2 = .ok (.lconst 0, 1) := by decide +kernel
theorem dX12_storm_3 : decode cX12_storm 3 = .ok (.ldc2_w 83, 3) := by decide +kernel
theorem dX12_storm_6 : decode cX12_storm 6 = .ok (.invokestatic 53, 3) := by decide +kernel
theorem dX12_storm_9 : decode cX12_storm 9 = .ok (.ifCond .eq 11, 3) := by decide +kernel
theorem dX12_storm_12 : decode cX12_storm 12 = .ok (.aload_n 0, 1) := by decide +kernel
theorem dX12_storm_13 : decode cX12_storm 13 = .ok (.iload_n 1, 1) := by decide +kernel
theorem dX12_storm_14 : decode cX12_storm 14 = .ok (.invokevirtual 215, 3) := by decide +kernel
theorem dX12_storm_17 : decode cX12_storm 17 = .ok (.goto 7, 3) := by decide +kernel
theorem dX12_storm_20 : decode cX12_storm 20 = .ok (.aload_n 0, 1) := by decide +kernel
theorem dX12_storm_21 : decode cX12_storm 21 = .ok (.invokevirtual 59, 3) := by decide +kernel
theorem dX12_storm_24 : decode cX12_storm 24 = .ok (.ireturn, 1) := by decide +kernel
theorem dX12_guardedNow_0 : decode cX12_guardedNow 0 = .ok (.aload_n 0, 1) := by decide +kernel
theorem dX12_guardedNow_1 : decode cX12_guardedNow 1 = .ok (.aload_n 0, 1) := by decide +kernel
theorem dX12_guardedNow_2 : decode cX12_guardedNow 2 = .ok (.getfield 7, 3) := by decide +kernel
theorem dX12_guardedNow_5 : decode cX12_guardedNow 5 = .ok (.iconst 1, 1) := by decide +kernel
theorem dX12_guardedNow_6 : decode cX12_guardedNow 6 = .ok (.iaload, 1) := by decide +kernel
theorem dX12_guardedNow_7 : decode cX12_guardedNow 7 = .ok (.aload_n 0, 1) := by decide +kernel
theorem dX12_guardedNow_8 : decode cX12_guardedNow 8 = .ok (.aload_n 0, 1) := by decide +kernel
theorem dX12_guardedNow_9 : decode cX12_guardedNow 9 = .ok (.getfield 7, 3) := by decide +kernel
theorem dX12_guardedNow_12 : decode cX12_guardedNow 12 = .ok (.iconst 1, 1) := by decide +kernel
theorem dX12_guardedNow_13 : decode cX12_guardedNow 13 = .ok (.iaload, 1) := by decide +kernel
theorem dX12_guardedNow_14 : decode cX12_guardedNow 14 = .ok (.invokevirtual 215, 3) := by decide +kernel
theorem dX12_guardedNow_17 : decode cX12_guardedNow 17 = .ok (.invokevirtual 199, 3) := by decide +kernel
theorem dX12_guardedNow_20 : decode cX12_guardedNow 20 = .ok (.ireturn, 1) := by decide +kernel
theorem dX12_guarded_0 : decode cX12_guarded 0 = .ok (.aload_n 0, 1) := by decide +kernel
theorem dX12_guarded_1 : decode cX12_guarded 1 = .ok (.invokevirtual 223, 3) := by decide +kernel
theorem dX12_guarded_4 : decode cX12_guarded 4 = .ok (.ireturn, 1) := by decide +kernel
theorem dX12_wetNow_0 : decode cX12_wetNow 0 = .ok (.aload_n 0, 1) := by decide +kernel
theorem dX12_wetNow_1 : decode cX12_wetNow 1 = .ok (.aload_n 0, 1) := by decide +kernel
theorem dX12_wetNow_2 : decode cX12_wetNow 2 = .ok (.aload_n 0, 1) := by decide +kernel
theorem dX12_wetNow_3 : decode cX12_wetNow 3 = .ok (.getfield 7, 3) := by decide +kernel
theorem dX12_wetNow_6 : decode cX12_wetNow 6 = .ok (.iconst 1, 1) := by decide +kernel
theorem dX12_wetNow_7 : decode cX12_wetNow 7 = .ok (.iaload, 1) := by decide +kernel
theorem dX12_wetNow_8 : decode cX12_wetNow 8 = .ok (.invokevirtual 215, 3) := by decide +kernel
theorem dX12_wetNow_11 : decode cX12_wetNow 11 = .ok (.aload_n 0, 1) := by decide +kernel
theorem dX12_wetNow_12 : decode cX12_wetNow 12 = .ok (.invokevirtual 223, 3) := by decide +kernel
theorem dX12_wetNow_15 : decode cX12_wetNow 15 = .ok (.iload_n 1, 1) := by decide +kernel
theorem dX12_wetNow_16 : decode cX12_wetNow 16 = .ok (.invokevirtual 202, 3) := by decide +kernel
theorem dX12_wetNow_19 : decode cX12_wetNow 19 = .ok (.ireturn, 1) := by decide +kernel
theorem dX12_wet_0 : decode cX12_wet 0 = .ok (.aload_n 0, 1) := by decide +kernel
theorem dX12_wet_1 : decode cX12_wet 1 = .ok (.iconst 0, 1) := by decide +kernel
theorem dX12_wet_2 : decode cX12_wet 2 = .ok (.invokevirtual 226, 3) := by decide +kernel
theorem dX12_wet_5 : decode cX12_wet 5 = .ok (.ireturn, 1) := by decide +kernel
theorem dX12_worthOf_0 : decode cX12_worthOf 0 = .ok (.iconst 0, 1) := by decide +kernel
theorem dX12_worthOf_1 : decode cX12_worthOf 1 = .ok (.istore_n 2, 1) := by decide +kernel
theorem dX12_worthOf_2 : decode cX12_worthOf 2 = .ok (.iconst 0, 1) := by decide +kernel
theorem dX12_worthOf_3 : decode cX12_worthOf 3 = .ok (.istore_n 3, 1) := by decide +kernel
theorem dX12_worthOf_4 : decode cX12_worthOf 4 = .ok (.iload_n 3, 1) := by decide +kernel
theorem dX12_worthOf_5 : decode cX12_worthOf 5 = .ok (.aload_n 0, 1) := by decide +kernel
theorem dX12_worthOf_6 : decode cX12_worthOf 6 = .ok (.getfield 7, 3) := by decide +kernel
theorem dX12_worthOf_9 : decode cX12_worthOf 9 = .ok (.iconst 0, 1) := by decide +kernel
theorem dX12_worthOf_10 : decode cX12_worthOf 10 = .ok (.iaload, 1) := by decide +kernel
theorem dX12_worthOf_11 : decode cX12_worthOf 11 = .ok (.if_icmp .ge 43, 3) := by decide +kernel
theorem dX12_worthOf_14 : decode cX12_worthOf 14 = .ok (.iload_n 2, 1) := by decide +kernel
theorem dX12_worthOf_15 : decode cX12_worthOf 15 = .ok (.iload_n 1, 1) := by decide +kernel
theorem dX12_worthOf_16 : decode cX12_worthOf 16 = .ok (.iload_n 3, 1) := by decide +kernel
theorem dX12_worthOf_17 : decode cX12_worthOf 17 = .ok (.ishr, 1) := by decide +kernel
theorem dX12_worthOf_18 : decode cX12_worthOf 18 = .ok (.iconst 1, 1) := by decide +kernel
theorem dX12_worthOf_19 : decode cX12_worthOf 19 = .ok (.iand, 1) := by decide +kernel
theorem dX12_worthOf_20 : decode cX12_worthOf 20 = .ok (.iconst 1, 1) := by decide +kernel
theorem dX12_worthOf_21 : decode cX12_worthOf 21 = .ok (.if_icmp .ne 24, 3) := by decide +kernel
theorem dX12_worthOf_24 : decode cX12_worthOf 24 = .ok (.aload_n 0, 1) := by decide +kernel
theorem dX12_worthOf_25 : decode cX12_worthOf 25 = .ok (.iload_n 3, 1) := by decide +kernel
theorem dX12_worthOf_26 : decode cX12_worthOf 26 = .ok (.invokevirtual 206, 3) := by decide +kernel
theorem dX12_worthOf_29 : decode cX12_worthOf 29 = .ok (.ifCond .ne 16, 3) := by decide +kernel
theorem dX12_worthOf_32 : decode cX12_worthOf 32 = .ok (.aload_n 0, 1) := by decide +kernel
theorem dX12_worthOf_33 : decode cX12_worthOf 33 = .ok (.getfield 7, 3) := by decide +kernel
theorem dX12_worthOf_36 : decode cX12_worthOf 36 = .ok (.iload_n 3, 1) := by decide +kernel
theorem dX12_worthOf_37 : decode cX12_worthOf 37 = .ok (.iconst 1, 1) := by decide +kernel
theorem dX12_worthOf_38 : decode cX12_worthOf 38 = .ok (.invokestatic 73, 3) := by decide +kernel
theorem dX12_worthOf_41 : decode cX12_worthOf 41 = .ok (.iaload, 1) := by decide +kernel
theorem dX12_worthOf_42 : decode cX12_worthOf 42 = .ok (.goto 4, 3) := by decide +kernel
theorem dX12_worthOf_45 : decode cX12_worthOf 45 = .ok (.iconst 0, 1) := by decide +kernel
theorem dX12_worthOf_46 : decode cX12_worthOf 46 = .ok (.iadd, 1) := by decide +kernel
theorem dX12_worthOf_47 : decode cX12_worthOf 47 = .ok (.istore_n 2, 1) := by decide +kernel
theorem dX12_worthOf_48 : decode cX12_worthOf 48 = .ok (.iinc 3 1, 3) := by decide +kernel
theorem dX12_worthOf_51 : decode cX12_worthOf 51 = .ok (.goto (-47), 3) := by decide +kernel
theorem dX12_worthOf_54 : decode cX12_worthOf 54 = .ok (.iload_n 2, 1) := by decide +kernel
theorem dX12_worthOf_55 : decode cX12_worthOf 55 = .ok (.ireturn, 1) := by decide +kernel
theorem dX12_tellsThen_0 : decode cX12_tellsThen 0 = .ok (.iconst 0, 1) := by decide +kernel
theorem dX12_tellsThen_1 : decode cX12_tellsThen 1 = .ok (.istore_n 3, 1) := by decide +kernel
theorem dX12_tellsThen_2 : decode cX12_tellsThen 2 = .ok (.iconst 0, 1) := by decide +kernel
theorem dX12_tellsThen_3 : decode cX12_tellsThen 3 = .ok (.istore 4, 2) := by decide +kernel
theorem dX12_tellsThen_5 : decode cX12_tellsThen 5 = .ok (.iconst 0, 1) := by decide +kernel
theorem dX12_tellsThen_6 : decode cX12_tellsThen 6 = .ok (.istore 5, 2) := by decide +kernel
theorem dX12_tellsThen_8 : decode cX12_tellsThen 8 = .ok (.iload 5, 2) := by decide +kernel
theorem dX12_tellsThen_10 : decode cX12_tellsThen 10 = .ok (.aload_n 0, 1) := by decide +kernel
theorem dX12_tellsThen_11 : decode cX12_tellsThen 11 = .ok (.getfield 7, 3) := by decide +kernel
theorem dX12_tellsThen_14 : decode cX12_tellsThen 14 = .ok (.iconst 0, 1) := by decide +kernel
theorem dX12_tellsThen_15 : decode cX12_tellsThen 15 = .ok (.iaload, 1) := by decide +kernel
theorem dX12_tellsThen_16 : decode cX12_tellsThen 16 = .ok (.if_icmp .ge 29, 3) := by decide +kernel
theorem dX12_tellsThen_19 : decode cX12_tellsThen 19 = .ok (.iload_n 3, 1) := by decide +kernel
theorem dX12_tellsThen_20 : decode cX12_tellsThen 20 = .ok (.aload_n 0, 1) := by decide +kernel
theorem dX12_tellsThen_21 : decode cX12_tellsThen 21 = .ok (.iload 5, 2) := by decide +kernel
theorem dX12_tellsThen_23 : decode cX12_tellsThen 23 = .ok (.invokevirtual 206, 3) := by decide +kernel
theorem dX12_tellsThen_26 : decode cX12_tellsThen 26 = .ok (.ifCond .eq 10, 3) := by decide +kernel
theorem dX12_tellsThen_29 : decode cX12_tellsThen 29 = .ok (.iconst 1, 1) := by decide +kernel
theorem dX12_tellsThen_30 : decode cX12_tellsThen 30 = .ok (.iload 5, 2) := by decide +kernel
theorem dX12_tellsThen_32 : decode cX12_tellsThen 32 = .ok (.ishl, 1) := by decide +kernel
theorem dX12_tellsThen_33 : decode cX12_tellsThen 33 = .ok (.goto 4, 3) := by decide +kernel
theorem dX12_tellsThen_36 : decode cX12_tellsThen 36 = .ok (.iconst 0, 1) := by decide +kernel
theorem dX12_tellsThen_37 : decode cX12_tellsThen 37 = .ok (.ior, 1) := by decide +kernel
theorem dX12_tellsThen_38 : decode cX12_tellsThen 38 = .ok (.istore_n 3, 1) := by decide +kernel
theorem dX12_tellsThen_39 : decode cX12_tellsThen 39 = .ok (.iinc 5 1, 3) := by decide +kernel
theorem dX12_tellsThen_42 : decode cX12_tellsThen 42 = .ok (.goto (-34), 3) := by decide +kernel
theorem dX12_tellsThen_45 : decode cX12_tellsThen 45 = .ok (.iconst 0, 1) := by decide +kernel
theorem dX12_tellsThen_46 : decode cX12_tellsThen 46 = .ok (.istore 5, 2) := by decide +kernel
theorem dX12_tellsThen_48 : decode cX12_tellsThen 48 = .ok (.iload 5, 2) := by decide +kernel
theorem dX12_tellsThen_50 : decode cX12_tellsThen 50 = .ok (.aload_n 0, 1) := by decide +kernel
theorem dX12_tellsThen_51 : decode cX12_tellsThen 51 = .ok (.getfield 7, 3) := by decide +kernel
theorem dX12_tellsThen_54 : decode cX12_tellsThen 54 = .ok (.iconst 4, 1) := by decide +kernel
theorem dX12_tellsThen_55 : decode cX12_tellsThen 55 = .ok (.iaload, 1) := by decide +kernel
theorem dX12_tellsThen_56 : decode cX12_tellsThen 56 = .ok (.if_icmp .ge 29, 3) := by decide +kernel
theorem dX12_tellsThen_59 : decode cX12_tellsThen 59 = .ok (.iload 4, 2) := by decide +kernel
theorem dX12_tellsThen_61 : decode cX12_tellsThen 61 = .ok (.aload_n 0, 1) := by decide +kernel
theorem dX12_tellsThen_62 : decode cX12_tellsThen 62 = .ok (.getfield 7, 3) := by decide +kernel
theorem dX12_tellsThen_65 : decode cX12_tellsThen 65 = .ok (.iload 5, 2) := by decide +kernel
theorem dX12_tellsThen_67 : decode cX12_tellsThen 67 = .ok (.bipush 6, 2) := by decide +kernel
theorem dX12_tellsThen_69 : decode cX12_tellsThen 69 = .ok (.invokestatic 96, 3) := by decide +kernel
theorem dX12_tellsThen_72 : decode cX12_tellsThen 72 = .ok (.iaload, 1) := by decide +kernel
theorem dX12_tellsThen_73 : decode cX12_tellsThen 73 = .ok (.iload 5, 2) := by decide +kernel
theorem dX12_tellsThen_75 : decode cX12_tellsThen 75 = .ok (.ishl, 1) := by decide +kernel
theorem dX12_tellsThen_76 : decode cX12_tellsThen 76 = .ok (.ior, 1) := by decide +kernel
theorem dX12_tellsThen_77 : decode cX12_tellsThen 77 = .ok (.istore 4, 2) := by decide +kernel
theorem dX12_tellsThen_79 : decode cX12_tellsThen 79 = .ok (.iinc 5 1, 3) := by decide +kernel
theorem dX12_tellsThen_82 : decode cX12_tellsThen 82 = .ok (.goto (-34), 3) := by decide +kernel
theorem dX12_tellsThen_85 : decode cX12_tellsThen 85 = .ok (.iload_n 1, 1) := by decide +kernel
theorem dX12_tellsThen_86 : decode cX12_tellsThen 86 = .ok (.iconst 3, 1) := by decide +kernel
theorem dX12_tellsThen_87 : decode cX12_tellsThen 87 = .ok (.if_icmp .ne 13, 3) := by decide +kernel
theorem dX12_tellsThen_90 : decode cX12_tellsThen 90 = .ok (.aload_n 0, 1) := by decide +kernel
theorem dX12_tellsThen_91 : decode cX12_tellsThen 91 = .ok (.sipush 255, 3) := by decide +kernel
theorem dX12_tellsThen_94 : decode cX12_tellsThen 94 = .ok (.invokevirtual 229, 3) := by decide +kernel
theorem dX12_tellsThen_97 : decode cX12_tellsThen 97 = .ok (.goto 5, 3) := by decide +kernel
theorem dX12_tellsThen_100 : decode cX12_tellsThen 100 = .ok (.iload 4, 2) := by decide +kernel
theorem dX12_tellsThen_102 : decode cX12_tellsThen 102 = .ok (.istore 5, 2) := by decide +kernel
theorem dX12_tellsThen_104 : decode cX12_tellsThen 104 = .ok (.iload_n 1, 1) := by decide +kernel
theorem dX12_tellsThen_105 : decode cX12_tellsThen 105 = .ok (.ifCond .ne 12, 3) := by decide +kernel
theorem dX12_tellsThen_108 : decode cX12_tellsThen 108 = .ok (.aload_n 0, 1) := by decide +kernel
theorem dX12_tellsThen_109 : decode cX12_tellsThen 109 = .ok (.getfield 7, 3) := by decide +kernel
theorem dX12_tellsThen_112 : decode cX12_tellsThen 112 = .ok (.iconst 2, 1) := by decide +kernel
theorem dX12_tellsThen_113 : decode cX12_tellsThen 113 = .ok (.iaload, 1) := by decide +kernel
theorem dX12_tellsThen_114 : decode cX12_tellsThen 114 = .ok (.goto 23, 3) := by decide +kernel
theorem dX12_tellsThen_117 : decode cX12_tellsThen 117 = .ok (.iload_n 1, 1) := by decide +kernel
theorem dX12_tellsThen_118 : decode cX12_tellsThen 118 = .ok (.iconst 1, 1) := by decide +kernel
theorem dX12_tellsThen_119 : decode cX12_tellsThen 119 = .ok (.if_icmp .ne 7, 3) := by decide +kernel
theorem dX12_tellsThen_122 : decode cX12_tellsThen 122 = .ok (.iload_n 2, 1) := by decide +kernel
theorem dX12_tellsThen_123 : decode cX12_tellsThen 123 = .ok (.goto 14, 3) := by decide +kernel
theorem dX12_tellsThen_126 : decode cX12_tellsThen 126 = .ok (.iload_n 1, 1) := by decide +kernel
theorem dX12_tellsThen_127 : decode cX12_tellsThen 127 = .ok (.iconst 2, 1) := by decide +kernel
theorem dX12_tellsThen_128 : decode cX12_tellsThen 128 = .ok (.if_icmp .ne 7, 3) := by decide +kernel
theorem dX12_tellsThen_131 : decode cX12_tellsThen 131 = .ok (.iload_n 3, 1) := by decide +kernel
theorem dX12_tellsThen_132 : decode cX12_tellsThen 132 = .ok (.goto 5, 3) := by decide +kernel
theorem dX12_tellsThen_135 : decode cX12_tellsThen 135 = .ok (.iload 5, 2) := by decide +kernel
theorem dX12_tellsThen_137 : decode cX12_tellsThen 137 = .ok (.ireturn, 1) := by decide +kernel
theorem dX12_then_0 : decode cX12_then 0 = .ok (.iload_n 1, 1) := by decide +kernel
theorem dX12_then_1 : decode cX12_then 1 = .ok (.i2l, 1) := by decide +kernel
theorem dX12_then_2 : decode cX12_then 2 = .ok (.lconst 0, 1) := by decide +kernel
theorem dX12_then_3 : decode cX12_then 3 = .ok (.ldc2_w 232, 3) := by decide +kernel
theorem dX12_then_6 : decode cX12_then 6 = .ok (.invokestatic 53, 3) := by decide +kernel
theorem dX12_then_9 : decode cX12_then 9 = .ok (.ifCond .eq 15, 3) := by decide +kernel
theorem dX12_then_12 : decode cX12_then 12 = .ok (.iload_n 2, 1) := by decide +kernel
theorem dX12_then_13 : decode cX12_then 13 = .ok (.i2l, 1) := by decide +kernel
theorem dX12_then_14 : decode cX12_then 14 = .ok (.lconst 0, 1) := by decide +kernel
theorem dX12_then_15 : decode cX12_then 15 = .ok (.ldc2_w 221, 3) := by decide +kernel
theorem dX12_then_18 : decode cX12_then 18 = .ok (.invokestatic 53, 3) := by decide +kernel
theorem dX12_then_21 : decode cX12_then 21 = .ok (.ifCond .ne 8, 3) := by decide +kernel
theorem dX12_then_24 : decode cX12_then 24 = .ok (.aload_n 0, 1) := by decide +kernel
theorem dX12_then_25 : decode cX12_then 25 = .ok (.invokevirtual 59, 3) := by decide +kernel
theorem dX12_then_28 : decode cX12_then 28 = .ok (.ireturn, 1) := by decide +kernel
theorem dX12_then_29 : decode cX12_then 29 = .ok (.aload_n 0, 1) := by decide +kernel
theorem dX12_then_30 : decode cX12_then 30 = .ok (.invokevirtual 234, 3) := by decide +kernel
theorem dX12_then_33 : decode cX12_then 33 = .ok (.iconst 0, 1) := by decide +kernel
theorem dX12_then_34 : decode cX12_then 34 = .ok (.istore_n 3, 1) := by decide +kernel
theorem dX12_then_35 : decode cX12_then 35 = .ok (.iconst 0, 1) := by decide +kernel
theorem dX12_then_36 : decode cX12_then 36 = .ok (.istore 4, 2) := by decide +kernel
theorem dX12_then_38 : decode cX12_then 38 = .ok (.iload 4, 2) := by decide +kernel
theorem dX12_then_40 : decode cX12_then 40 = .ok (.iload_n 1, 1) := by decide +kernel
theorem dX12_then_41 : decode cX12_then 41 = .ok (.if_icmp .ge 24, 3) := by decide +kernel
theorem dX12_then_44 : decode cX12_then 44 = .ok (.aload_n 0, 1) := by decide +kernel
theorem dX12_then_45 : decode cX12_then 45 = .ok (.aload_n 0, 1) := by decide +kernel
theorem dX12_then_46 : decode cX12_then 46 = .ok (.aload_n 0, 1) := by decide +kernel
theorem dX12_then_47 : decode cX12_then 47 = .ok (.getfield 7, 3) := by decide +kernel
theorem dX12_then_50 : decode cX12_then 50 = .ok (.iconst 1, 1) := by decide +kernel
theorem dX12_then_51 : decode cX12_then 51 = .ok (.iaload, 1) := by decide +kernel
theorem dX12_then_52 : decode cX12_then 52 = .ok (.invokevirtual 215, 3) := by decide +kernel
theorem dX12_then_55 : decode cX12_then 55 = .ok (.invokevirtual 218, 3) := by decide +kernel
theorem dX12_then_58 : decode cX12_then 58 = .ok (.istore_n 3, 1) := by decide +kernel
theorem dX12_then_59 : decode cX12_then 59 = .ok (.iinc 4 1, 3) := by decide +kernel
theorem dX12_then_62 : decode cX12_then 62 = .ok (.goto (-24), 3) := by decide +kernel
theorem dX12_then_65 : decode cX12_then 65 = .ok (.aload_n 0, 1) := by decide +kernel
theorem dX12_then_66 : decode cX12_then 66 = .ok (.iload_n 2, 1) := by decide +kernel
theorem dX12_then_67 : decode cX12_then 67 = .ok (.iload_n 3, 1) := by decide +kernel
theorem dX12_then_68 : decode cX12_then 68 = .ok (.invokevirtual 237, 3) := by decide +kernel
theorem dX12_then_71 : decode cX12_then 71 = .ok (.istore 4, 2) := by decide +kernel
theorem dX12_then_73 : decode cX12_then 73 = .ok (.aload_n 0, 1) := by decide +kernel
theorem dX12_then_74 : decode cX12_then 74 = .ok (.invokevirtual 240, 3) := by decide +kernel
theorem dX12_then_77 : decode cX12_then 77 = .ok (.iload 4, 2) := by decide +kernel
theorem dX12_then_79 : decode cX12_then 79 = .ok (.ireturn, 1) := by decide +kernel
theorem dX12_isSomeLost_0 : decode cX12_isSomeLost 0 = .ok (.iconst 0, 1) := by decide +kernel
theorem dX12_isSomeLost_1 : decode cX12_isSomeLost 1 = .ok (.istore_n 1, 1) := by decide +kernel
theorem dX12_isSomeLost_2 : decode cX12_isSomeLost 2 = .ok (.iconst 0, 1) := by decide +kernel
theorem dX12_isSomeLost_3 : decode cX12_isSomeLost 3 = .ok (.istore_n 2, 1) := by decide +kernel
theorem dX12_isSomeLost_4 : decode cX12_isSomeLost 4 = .ok (.iload_n 2, 1) := by decide +kernel
theorem dX12_isSomeLost_5 : decode cX12_isSomeLost 5 = .ok (.aload_n 0, 1) := by decide +kernel
theorem dX12_isSomeLost_6 : decode cX12_isSomeLost 6 = .ok (.getfield 7, 3) := by decide +kernel
theorem dX12_isSomeLost_9 : decode cX12_isSomeLost 9 = .ok (.iconst 0, 1) := by decide +kernel
theorem dX12_isSomeLost_10 : decode cX12_isSomeLost 10 = .ok (.iaload, 1) := by decide +kernel
theorem dX12_isSomeLost_11 : decode cX12_isSomeLost 11 = .ok (.if_icmp .ge 27, 3) := by decide +kernel
theorem dX12_isSomeLost_14 : decode cX12_isSomeLost 14 = .ok (.iload_n 1, 1) := by decide +kernel
theorem dX12_isSomeLost_15 : decode cX12_isSomeLost 15 = .ok (.ifCond .ne 11, 3) := by decide +kernel
theorem dX12_isSomeLost_18 : decode cX12_isSomeLost 18 = .ok (.aload_n 0, 1) := by decide +kernel
theorem dX12_isSomeLost_19 : decode cX12_isSomeLost 19 = .ok (.iload_n 2, 1) := by decide +kernel
theorem dX12_isSomeLost_20 : decode cX12_isSomeLost 20 = .ok (.invokevirtual 206, 3) := by decide +kernel
theorem dX12_isSomeLost_23 : decode cX12_isSomeLost 23 = .ok (.ifCond .eq 7, 3) := by decide +kernel
theorem dX12_isSomeLost_26 : decode cX12_isSomeLost 26 = .ok (.iconst 1, 1) := by decide +kernel
theorem dX12_isSomeLost_27 : decode cX12_isSomeLost 27 = .ok (.goto 4, 3) := by decide +kernel
theorem dX12_isSomeLost_30 : decode cX12_isSomeLost 30 = .ok (.iconst 0, 1) := by decide +kernel
theorem dX12_isSomeLost_31 : decode cX12_isSomeLost 31 = .ok (.istore_n 1, 1) := by decide +kernel
theorem dX12_isSomeLost_32 : decode cX12_isSomeLost 32 = .ok (.iinc 2 1, 3) := by decide +kernel
theorem dX12_isSomeLost_35 : decode cX12_isSomeLost 35 = .ok (.goto (-31), 3) := by decide +kernel
theorem dX12_isSomeLost_38 : decode cX12_isSomeLost 38 = .ok (.iload_n 1, 1) := by decide +kernel
theorem dX12_isSomeLost_39 : decode cX12_isSomeLost 39 = .ok (.ireturn, 1) := by decide +kernel
theorem dX12_firstLost_0 : decode cX12_firstLost 0 = .ok (.aload_n 0, 1) := by decide +kernel
theorem dX12_firstLost_1 : decode cX12_firstLost 1 = .ok (.getfield 7, 3) := by decide +kernel
theorem dX12_firstLost_4 : decode cX12_firstLost 4 = .ok (.iconst 1, 1) := by decide +kernel
theorem dX12_firstLost_5 : decode cX12_firstLost 5 = .ok (.iaload, 1) := by decide +kernel
theorem dX12_firstLost_6 : decode cX12_firstLost 6 = .ok (.istore_n 1, 1) := by decide +kernel
theorem dX12_firstLost_7 : decode cX12_firstLost 7 = .ok (.aload_n 0, 1) := by decide +kernel
theorem dX12_firstLost_8 : decode cX12_firstLost 8 = .ok (.invokevirtual 243, 3) := by decide +kernel
theorem dX12_firstLost_11 : decode cX12_firstLost 11 = .ok (.ifCond .eq 5, 3) := by decide +kernel
theorem dX12_firstLost_14 : decode cX12_firstLost 14 = .ok (.iload_n 1, 1) := by decide +kernel
theorem dX12_firstLost_15 : decode cX12_firstLost 15 = .ok (.ireturn, 1) := by decide +kernel
theorem dX12_firstLost_16 : decode cX12_firstLost 16 = .ok (.aload_n 0, 1) := by decide +kernel
theorem dX12_firstLost_17 : decode cX12_firstLost 17 = .ok (.invokevirtual 234, 3) := by decide +kernel
theorem dX12_firstLost_20 : decode cX12_firstLost 20 = .ok (.iconst (-1), 1) := by decide +kernel
theorem dX12_firstLost_21 : decode cX12_firstLost 21 = .ok (.istore_n 2, 1) := by decide +kernel
theorem dX12_firstLost_22 : decode cX12_firstLost 22 = .ok (.iconst 0, 1) := by decide +kernel
theorem dX12_firstLost_23 : decode cX12_firstLost 23 = .ok (.istore_n 3, 1) := by decide +kernel
theorem dX12_firstLost_24 : decode cX12_firstLost 24 = .ok (.iload_n 3, 1) := by decide +kernel
theorem dX12_firstLost_25 : decode cX12_firstLost 25 = .ok (.bipush 30, 2) := by decide +kernel
theorem dX12_firstLost_27 : decode cX12_firstLost 27 = .ok (.if_icmp .ge 44, 3) := by decide +kernel
theorem dX12_firstLost_30 : decode cX12_firstLost 30 = .ok (.iload_n 2, 1) := by decide +kernel
theorem dX12_firstLost_31 : decode cX12_firstLost 31 = .ok (.iconst (-1), 1) := by decide +kernel
theorem dX12_firstLost_32 : decode cX12_firstLost 32 = .ok (.if_icmp .ne 39, 3) := by decide +kernel
theorem dX12_firstLost_35 : decode cX12_firstLost 35 = .ok (.aload_n 0, 1) := by decide +kernel
theorem dX12_firstLost_36 : decode cX12_firstLost 36 = .ok (.aload_n 0, 1) := by decide +kernel
theorem dX12_firstLost_37 : decode cX12_firstLost 37 = .ok (.aload_n 0, 1) := by decide +kernel
theorem dX12_firstLost_38 : decode cX12_firstLost 38 = .ok (.getfield 7, 3) := by decide +kernel
theorem dX12_firstLost_41 : decode cX12_firstLost 41 = .ok (.iconst 1, 1) := by decide +kernel
theorem dX12_firstLost_42 : decode cX12_firstLost 42 = .ok (.iaload, 1) := by decide +kernel
theorem dX12_firstLost_43 : decode cX12_firstLost 43 = .ok (.invokevirtual 215, 3) := by decide +kernel
theorem dX12_firstLost_46 : decode cX12_firstLost 46 = .ok (.invokevirtual 218, 3) := by decide +kernel
theorem dX12_firstLost_49 : decode cX12_firstLost 49 = .ok (.pop, 1) := by decide +kernel
theorem dX12_firstLost_50 : decode cX12_firstLost 50 = .ok (.aload_n 0, 1) := by decide +kernel
theorem dX12_firstLost_51 : decode cX12_firstLost 51 = .ok (.invokevirtual 243, 3) := by decide +kernel
theorem dX12_firstLost_54 : decode cX12_firstLost 54 = .ok (.ifCond .eq 9, 3) := by decide +kernel
theorem dX12_firstLost_57 : decode cX12_firstLost 57 = .ok (.iload_n 1, 1) := by decide +kernel
theorem dX12_firstLost_58 : decode cX12_firstLost 58 = .ok (.iload_n 3, 1) := by decide +kernel
theorem dX12_firstLost_59 : decode cX12_firstLost 59 = .ok (.iadd, 1) := by decide +kernel
theorem dX12_firstLost_60 : decode cX12_firstLost 60 = .ok (.goto 4, 3) := by decide +kernel
theorem dX12_firstLost_63 : decode cX12_firstLost 63 = .ok (.iconst (-1), 1) := by decide +kernel
theorem dX12_firstLost_64 : decode cX12_firstLost 64 = .ok (.istore_n 2, 1) := by decide +kernel
theorem dX12_firstLost_65 : decode cX12_firstLost 65 = .ok (.iinc 3 1, 3) := by decide +kernel
theorem dX12_firstLost_68 : decode cX12_firstLost 68 = .ok (.goto (-44), 3) := by decide +kernel
theorem dX12_firstLost_71 : decode cX12_firstLost 71 = .ok (.aload_n 0, 1) := by decide +kernel
theorem dX12_firstLost_72 : decode cX12_firstLost 72 = .ok (.invokevirtual 240, 3) := by decide +kernel
theorem dX12_firstLost_75 : decode cX12_firstLost 75 = .ok (.iload_n 2, 1) := by decide +kernel
theorem dX12_firstLost_76 : decode cX12_firstLost 76 = .ok (.ireturn, 1) := by decide +kernel
theorem dX12_bits_0 : decode cX12_bits 0 = .ok (.iconst 0, 1) := by decide +kernel
theorem dX12_bits_1 : decode cX12_bits 1 = .ok (.istore_n 1, 1) := by decide +kernel
theorem dX12_bits_2 : decode cX12_bits 2 = .ok (.iconst 0, 1) := by decide +kernel
theorem dX12_bits_3 : decode cX12_bits 3 = .ok (.istore_n 2, 1) := by decide +kernel
theorem dX12_bits_4 : decode cX12_bits 4 = .ok (.iload_n 2, 1) := by decide +kernel
theorem dX12_bits_5 : decode cX12_bits 5 = .ok (.bipush 8, 2) := by decide +kernel
theorem dX12_bits_7 : decode cX12_bits 7 = .ok (.if_icmp .ge 17, 3) := by decide +kernel
theorem dX12_bits_10 : decode cX12_bits 10 = .ok (.iload_n 1, 1) := by decide +kernel
theorem dX12_bits_11 : decode cX12_bits 11 = .ok (.iload_n 0, 1) := by decide +kernel
theorem dX12_bits_12 : decode cX12_bits 12 = .ok (.iload_n 2, 1) := by decide +kernel
theorem dX12_bits_13 : decode cX12_bits 13 = .ok (.ishr, 1) := by decide +kernel
theorem dX12_bits_14 : decode cX12_bits 14 = .ok (.iconst 1, 1) := by decide +kernel
theorem dX12_bits_15 : decode cX12_bits 15 = .ok (.iand, 1) := by decide +kernel
theorem dX12_bits_16 : decode cX12_bits 16 = .ok (.iadd, 1) := by decide +kernel
theorem dX12_bits_17 : decode cX12_bits 17 = .ok (.istore_n 1, 1) := by decide +kernel
theorem dX12_bits_18 : decode cX12_bits 18 = .ok (.iinc 2 1, 3) := by decide +kernel
theorem dX12_bits_21 : decode cX12_bits 21 = .ok (.goto (-17), 3) := by decide +kernel
theorem dX12_bits_24 : decode cX12_bits 24 = .ok (.iload_n 1, 1) := by decide +kernel
theorem dX12_bits_25 : decode cX12_bits 25 = .ok (.ireturn, 1) := by decide +kernel
theorem dX12_floodsIn_0 : decode cX12_floodsIn 0 = .ok (.iconst 0, 1) := by decide +kernel
theorem dX12_floodsIn_1 : decode cX12_floodsIn 1 = .ok (.istore_n 2, 1) := by decide +kernel
theorem dX12_floodsIn_2 : decode cX12_floodsIn 2 = .ok (.iconst 0, 1) := by decide +kernel
theorem dX12_floodsIn_3 : decode cX12_floodsIn 3 = .ok (.istore_n 3, 1) := by decide +kernel
theorem dX12_floodsIn_4 : decode cX12_floodsIn 4 = .ok (.iload_n 3, 1) := by decide +kernel
theorem dX12_floodsIn_5 : decode cX12_floodsIn 5 = .ok (.iload_n 1, 1) := by decide +kernel
theorem dX12_floodsIn_6 : decode cX12_floodsIn 6 = .ok (.if_icmp .ge 29, 3) := by decide +kernel
theorem dX12_floodsIn_9 : decode cX12_floodsIn 9 = .ok (.iload_n 2, 1) := by decide +kernel
theorem dX12_floodsIn_10 : decode cX12_floodsIn 10 = .ok (.aload_n 0, 1) := by decide +kernel
theorem dX12_floodsIn_11 : decode cX12_floodsIn 11 = .ok (.aload_n 0, 1) := by decide +kernel
theorem dX12_floodsIn_12 : decode cX12_floodsIn 12 = .ok (.aload_n 0, 1) := by decide +kernel
theorem dX12_floodsIn_13 : decode cX12_floodsIn 13 = .ok (.getfield 7, 3) := by decide +kernel
theorem dX12_floodsIn_16 : decode cX12_floodsIn 16 = .ok (.iconst 1, 1) := by decide +kernel
theorem dX12_floodsIn_17 : decode cX12_floodsIn 17 = .ok (.iaload, 1) := by decide +kernel
theorem dX12_floodsIn_18 : decode cX12_floodsIn 18 = .ok (.invokevirtual 215, 3) := by decide +kernel
theorem dX12_floodsIn_21 : decode cX12_floodsIn 21 = .ok (.invokevirtual 218, 3) := by decide +kernel
theorem dX12_floodsIn_24 : decode cX12_floodsIn 24 = .ok (.invokestatic 246, 3) := by decide +kernel
theorem dX12_floodsIn_27 : decode cX12_floodsIn 27 = .ok (.iadd, 1) := by decide +kernel
theorem dX12_floodsIn_28 : decode cX12_floodsIn 28 = .ok (.istore_n 2, 1) := by decide +kernel
theorem dX12_floodsIn_29 : decode cX12_floodsIn 29 = .ok (.iinc 3 1, 3) := by decide +kernel
theorem dX12_floodsIn_32 : decode cX12_floodsIn 32 = .ok (.goto (-28), 3) := by decide +kernel
theorem dX12_floodsIn_35 : decode cX12_floodsIn 35 = .ok (.iload_n 2, 1) := by decide +kernel
theorem dX12_floodsIn_36 : decode cX12_floodsIn 36 = .ok (.ireturn, 1) := by decide +kernel
theorem dX12_offer_0 : decode cX12_offer 0 = .ok (.aload_n 0, 1) := by decide +kernel
theorem dX12_offer_1 : decode cX12_offer 1 = .ok (.iload_n 2, 1) := by decide +kernel
theorem dX12_offer_2 : decode cX12_offer 2 = .ok (.invokevirtual 63, 3) := by decide +kernel
theorem dX12_offer_5 : decode cX12_offer 5 = .ok (.ifCond .eq 37, 3) := by decide +kernel
theorem dX12_offer_8 : decode cX12_offer 8 = .ok (.iload_n 1, 1) := by decide +kernel
theorem dX12_offer_9 : decode cX12_offer 9 = .ok (.i2l, 1) := by decide +kernel
theorem dX12_offer_10 : decode cX12_offer 10 = .ok (.lconst 0, 1) := by decide +kernel
theorem dX12_offer_11 : decode cX12_offer 11 = .ok (.iload_n 2, 1) := by decide +kernel
theorem dX12_offer_12 : decode cX12_offer 12 = .ok (.i2l, 1) := by decide +kernel
theorem dX12_offer_13 : decode cX12_offer 13 = .ok (.invokestatic 53, 3) := by decide +kernel
theorem dX12_offer_16 : decode cX12_offer 16 = .ok (.ifCond .eq 26, 3) := by decide +kernel
theorem dX12_offer_19 : decode cX12_offer 19 = .ok (.iload_n 3, 1) := by decide +kernel
theorem dX12_offer_20 : decode cX12_offer 20 = .ok (.i2l, 1) := by decide +kernel
theorem dX12_offer_21 : decode cX12_offer 21 = .ok (.lconst 1, 1) := by decide +kernel
theorem dX12_offer_22 : decode cX12_offer 22 = .ok (.ldc2_w 249, 3) := by decide +kernel
theorem dX12_offer_25 : decode cX12_offer 25 = .ok (.invokestatic 53, 3) := by decide +kernel
theorem dX12_offer_28 : decode cX12_offer 28 = .ok (.ifCond .eq 14, 3) := by decide +kernel
theorem dX12_offer_31 : decode cX12_offer 31 = .ok (.iload 4, 2) := by decide +kernel
theorem dX12_offer_33 : decode cX12_offer 33 = .ok (.i2l, 1) := by decide +kernel
theorem dX12_offer_34 : decode cX12_offer 34 = .ok (.lconst 0, 1) := by decide +kernel
theorem dX12_offer_35 : decode cX12_offer 35 = .ok (.lconst 1, 1) := by decide +kernel
theorem dX12_offer_36 : decode cX12_offer 36 = .ok (.invokestatic 53, 3) := by decide +kernel
theorem dX12_offer_39 : decode cX12_offer 39 = .ok (.ifCond .ne 12, 3) := by decide +kernel
theorem dX12_offer_42 : decode cX12_offer 42 = .ok (.aload_n 0, 1) := by decide +kernel
theorem dX12_offer_43 : decode cX12_offer 43 = .ok (.iconst 0, 1) := by decide +kernel
theorem dX12_offer_44 : decode cX12_offer 44 = .ok (.sipush (-1000), 3) := by decide +kernel
theorem dX12_offer_47 : decode cX12_offer 47 = .ok (.invokevirtual 49, 3) := by decide +kernel
theorem dX12_offer_50 : decode cX12_offer 50 = .ok (.ireturn, 1) := by decide +kernel
theorem dX12_offer_51 : decode cX12_offer 51 = .ok (.aload_n 0, 1) := by decide +kernel
theorem dX12_offer_52 : decode cX12_offer 52 = .ok (.getfield 7, 3) := by decide +kernel
theorem dX12_offer_55 : decode cX12_offer 55 = .ok (.iconst 4, 1) := by decide +kernel
theorem dX12_offer_56 : decode cX12_offer 56 = .ok (.iaload, 1) := by decide +kernel
theorem dX12_offer_57 : decode cX12_offer 57 = .ok (.bipush 6, 2) := by decide +kernel
theorem dX12_offer_59 : decode cX12_offer 59 = .ok (.if_icmp .ne 12, 3) := by decide +kernel
theorem dX12_offer_62 : decode cX12_offer 62 = .ok (.aload_n 0, 1) := by decide +kernel
theorem dX12_offer_63 : decode cX12_offer 63 = .ok (.iconst 1, 1) := by decide +kernel
theorem dX12_offer_64 : decode cX12_offer 64 = .ok (.sipush (-2000), 3) := by decide +kernel
theorem dX12_offer_67 : decode cX12_offer 67 = .ok (.invokevirtual 49, 3) := by decide +kernel
theorem dX12_offer_70 : decode cX12_offer 70 = .ok (.ireturn, 1) := by decide +kernel
theorem dX12_offer_71 : decode cX12_offer 71 = .ok (.aload_n 0, 1) := by decide +kernel
theorem dX12_offer_72 : decode cX12_offer 72 = .ok (.invokevirtual 234, 3) := by decide +kernel
theorem dX12_offer_75 : decode cX12_offer 75 = .ok (.aload_n 0, 1) := by decide +kernel
theorem dX12_offer_76 : decode cX12_offer 76 = .ok (.iload_n 3, 1) := by decide +kernel
theorem dX12_offer_77 : decode cX12_offer 77 = .ok (.invokevirtual 251, 3) := by decide +kernel
theorem dX12_offer_80 : decode cX12_offer 80 = .ok (.istore 5, 2) := by decide +kernel
theorem dX12_offer_82 : decode cX12_offer 82 = .ok (.aload_n 0, 1) := by decide +kernel
theorem dX12_offer_83 : decode cX12_offer 83 = .ok (.invokevirtual 240, 3) := by decide +kernel
theorem dX12_offer_86 : decode cX12_offer 86 = .ok (.aload_n 0, 1) := by decide +kernel
theorem dX12_offer_87 : decode cX12_offer 87 = .ok (.getfield 7, 3) := by decide +kernel
theorem dX12_offer_90 : decode cX12_offer 90 = .ok (.iconst 4, 1) := by decide +kernel
theorem dX12_offer_91 : decode cX12_offer 91 = .ok (.iaload, 1) := by decide +kernel
theorem dX12_offer_92 : decode cX12_offer 92 = .ok (.istore 6, 2) := by decide +kernel
theorem dX12_offer_94 : decode cX12_offer 94 = .ok (.bipush 21, 2) := by decide +kernel
theorem dX12_offer_96 : decode cX12_offer 96 = .ok (.istore 7, 2) := by decide +kernel
theorem dX12_offer_98 : decode cX12_offer 98 = .ok (.iconst 0, 1) := by decide +kernel
theorem dX12_offer_99 : decode cX12_offer 99 = .ok (.istore 8, 2) := by decide +kernel
theorem dX12_offer_101 : decode cX12_offer 101 = .ok (.iconst 1, 1) := by decide +kernel
theorem dX12_offer_102 : decode cX12_offer 102 = .ok (.istore 9, 2) := by decide +kernel
theorem dX12_offer_104 : decode cX12_offer 104 = .ok (.iload 9, 2) := by decide +kernel
theorem dX12_offer_106 : decode cX12_offer 106 = .ok (.ifCond .eq 69, 3) := by decide +kernel
theorem dX12_offer_109 : decode cX12_offer 109 = .ok (.iinc 7 (-1), 3) := by decide +kernel
theorem dX12_offer_112 : decode cX12_offer 112 = .ok (.aload_n 0, 1) := by decide +kernel
theorem dX12_offer_113 : decode cX12_offer 113 = .ok (.iconst 0, 1) := by decide +kernel
theorem dX12_offer_114 : decode cX12_offer 114 = .ok (.iload_n 1, 1) := by decide +kernel
theorem dX12_offer_115 : decode cX12_offer 115 = .ok (.iload_n 2, 1) := by decide +kernel
theorem dX12_offer_116 : decode cX12_offer 116 = .ok (.aload_n 0, 1) := by decide +kernel
theorem dX12_offer_117 : decode cX12_offer 117 = .ok (.getfield 7, 3) := by decide +kernel
theorem dX12_offer_120 : decode cX12_offer 120 = .ok (.iconst 1, 1) := by decide +kernel
theorem dX12_offer_121 : decode cX12_offer 121 = .ok (.iaload, 1) := by decide +kernel
theorem dX12_offer_122 : decode cX12_offer 122 = .ok (.aload_n 0, 1) := by decide +kernel
theorem dX12_offer_123 : decode cX12_offer 123 = .ok (.getfield 7, 3) := by decide +kernel
theorem dX12_offer_126 : decode cX12_offer 126 = .ok (.iconst 1, 1) := by decide +kernel
theorem dX12_offer_127 : decode cX12_offer 127 = .ok (.iaload, 1) := by decide +kernel
theorem dX12_offer_128 : decode cX12_offer 128 = .ok (.iload_n 3, 1) := by decide +kernel
theorem dX12_offer_129 : decode cX12_offer 129 = .ok (.iadd, 1) := by decide +kernel
theorem dX12_offer_130 : decode cX12_offer 130 = .ok (.iload 7, 2) := by decide +kernel
theorem dX12_offer_132 : decode cX12_offer 132 = .ok (.invokevirtual 92, 3) := by decide +kernel
theorem dX12_offer_135 : decode cX12_offer 135 = .ok (.iload 5, 2) := by decide +kernel
theorem dX12_offer_137 : decode cX12_offer 137 = .ok (.aload_n 0, 1) := by decide +kernel
theorem dX12_offer_138 : decode cX12_offer 138 = .ok (.iload_n 3, 1) := by decide +kernel
theorem dX12_offer_139 : decode cX12_offer 139 = .ok (.invokevirtual 251, 3) := by decide +kernel
theorem dX12_offer_142 : decode cX12_offer 142 = .ok (.isub, 1) := by decide +kernel
theorem dX12_offer_143 : decode cX12_offer 143 = .ok (.istore 8, 2) := by decide +kernel
theorem dX12_offer_145 : decode cX12_offer 145 = .ok (.aload_n 0, 1) := by decide +kernel
theorem dX12_offer_146 : decode cX12_offer 146 = .ok (.getfield 7, 3) := by decide +kernel
theorem dX12_offer_149 : decode cX12_offer 149 = .ok (.iload 6, 2) := by decide +kernel
theorem dX12_offer_151 : decode cX12_offer 151 = .ok (.bipush 6, 2) := by decide +kernel
theorem dX12_offer_153 : decode cX12_offer 153 = .ok (.invokestatic 96, 3) := by decide +kernel
theorem dX12_offer_156 : decode cX12_offer 156 = .ok (.iaload, 1) := by decide +kernel
theorem dX12_offer_157 : decode cX12_offer 157 = .ok (.iconst 1, 1) := by decide +kernel
theorem dX12_offer_158 : decode cX12_offer 158 = .ok (.if_icmp .ne 7, 3) := by decide +kernel
theorem dX12_offer_161 : decode cX12_offer 161 = .ok (.iconst 1, 1) := by decide +kernel
theorem dX12_offer_162 : decode cX12_offer 162 = .ok (.goto 4, 3) := by decide +kernel
theorem dX12_offer_165 : decode cX12_offer 165 = .ok (.iconst 0, 1) := by decide +kernel
theorem dX12_offer_166 : decode cX12_offer 166 = .ok (.istore 9, 2) := by decide +kernel
theorem dX12_offer_168 : decode cX12_offer 168 = .ok (.aload_n 0, 1) := by decide +kernel
theorem dX12_offer_169 : decode cX12_offer 169 = .ok (.invokevirtual 240, 3) := by decide +kernel
theorem dX12_offer_172 : decode cX12_offer 172 = .ok (.goto (-68), 3) := by decide +kernel
theorem dX12_offer_175 : decode cX12_offer 175 = .ok (.iload 4, 2) := by decide +kernel
theorem dX12_offer_177 : decode cX12_offer 177 = .ok (.ifCond .ne 8, 3) := by decide +kernel
theorem dX12_offer_180 : decode cX12_offer 180 = .ok (.iload 7, 2) := by decide +kernel
theorem dX12_offer_182 : decode cX12_offer 182 = .ok (.goto 5, 3) := by decide +kernel
theorem dX12_offer_185 : decode cX12_offer 185 = .ok (.iload 8, 2) := by decide +kernel
theorem dX12_offer_187 : decode cX12_offer 187 = .ok (.ireturn, 1) := by decide +kernel
theorem dX12_cheapest_0 : decode cX12_cheapest 0 = .ok (.aload_n 0, 1) := by decide +kernel
theorem dX12_cheapest_1 : decode cX12_cheapest 1 = .ok (.iload_n 1, 1) := by decide +kernel
theorem dX12_cheapest_2 : decode cX12_cheapest 2 = .ok (.invokevirtual 254, 3) := by decide +kernel
theorem dX12_cheapest_5 : decode cX12_cheapest 5 = .ok (.ifCond .eq 25, 3) := by decide +kernel
theorem dX12_cheapest_8 : decode cX12_cheapest 8 = .ok (.iload_n 2, 1) := by decide +kernel
theorem dX12_cheapest_9 : decode cX12_cheapest 9 = .ok (.i2l, 1) := by decide +kernel
theorem dX12_cheapest_10 : decode cX12_cheapest 10 = .ok (.lconst 1, 1) := by decide +kernel
theorem dX12_cheapest_11 : decode cX12_cheapest 11 = .ok (.ldc2_w 249, 3) := by decide +kernel
theorem dX12_cheapest_14 : decode cX12_cheapest 14 = .ok (.invokestatic 53, 3) := by decide +kernel
theorem dX12_cheapest_17 : decode cX12_cheapest 17 = .ok (.ifCond .eq 13, 3) := by decide +kernel
theorem dX12_cheapest_20 : decode cX12_cheapest 20 = .ok (.iload_n 3, 1) := by decide +kernel
theorem dX12_cheapest_21 : decode cX12_cheapest 21 = .ok (.i2l, 1) := by decide +kernel
theorem dX12_cheapest_22 : decode cX12_cheapest 22 = .ok (.lconst 0, 1) := by decide +kernel
theorem dX12_cheapest_23 : decode cX12_cheapest 23 = .ok (.lconst 1, 1) := by decide +kernel
theorem dX12_cheapest_24 : decode cX12_cheapest 24 = .ok (.invokestatic 53, 3) := by decide +kernel
theorem dX12_cheapest_27 : decode cX12_cheapest 27 = .ok (.ifCond .ne 11, 3) := by decide +kernel
theorem dX12_cheapest_30 : decode cX12_cheapest 30 = .ok (.aload_n 0, 1) := by decide +kernel
theorem dX12_cheapest_31 : decode cX12_cheapest 31 = .ok (.iconst 0, 1) := by decide +kernel
theorem dX12_cheapest_32 : decode cX12_cheapest 32 = .ok (.bipush (-10), 2) := by decide +kernel
theorem dX12_cheapest_34 : decode cX12_cheapest 34 = .ok (.invokevirtual 49, 3) := by decide +kernel
theorem dX12_cheapest_37 : decode cX12_cheapest 37 = .ok (.ireturn, 1) := by decide +kernel
theorem dX12_cheapest_38 : decode cX12_cheapest 38 = .ok (.aload_n 0, 1) := by decide +kernel
theorem dX12_cheapest_39 : decode cX12_cheapest 39 = .ok (.invokevirtual 234, 3) := by decide +kernel
theorem dX12_cheapest_42 : decode cX12_cheapest 42 = .ok (.iconst 0, 1) := by decide +kernel
theorem dX12_cheapest_43 : decode cX12_cheapest 43 = .ok (.istore 4, 2) := by decide +kernel
theorem dX12_cheapest_45 : decode cX12_cheapest 45 = .ok (.iload 4, 2) := by decide +kernel
theorem dX12_cheapest_47 : decode cX12_cheapest 47 = .ok (.bipush 10, 2) := by decide +kernel
theorem dX12_cheapest_49 : decode cX12_cheapest 49 = .ok (.if_icmp .ge 124, 3) := by decide +kernel
theorem dX12_cheapest_52 : decode cX12_cheapest 52 = .ok (.iconst 0, 1) := by decide +kernel
theorem dX12_cheapest_53 : decode cX12_cheapest 53 = .ok (.istore 5, 2) := by decide +kernel
theorem dX12_cheapest_55 : decode cX12_cheapest 55 = .ok (.iload 5, 2) := by decide +kernel
theorem dX12_cheapest_57 : decode cX12_cheapest 57 = .ok (.aload_n 0, 1) := by decide +kernel
theorem dX12_cheapest_58 : decode cX12_cheapest 58 = .ok (.getfield 7, 3) := by decide +kernel
theorem dX12_cheapest_61 : decode cX12_cheapest 61 = .ok (.iconst 0, 1) := by decide +kernel
theorem dX12_cheapest_62 : decode cX12_cheapest 62 = .ok (.iaload, 1) := by decide +kernel
theorem dX12_cheapest_63 : decode cX12_cheapest 63 = .ok (.if_icmp .ge 104, 3) := by decide +kernel
theorem dX12_cheapest_66 : decode cX12_cheapest 66 = .ok (.aload_n 0, 1) := by decide +kernel
theorem dX12_cheapest_67 : decode cX12_cheapest 67 = .ok (.getfield 7, 3) := by decide +kernel
theorem dX12_cheapest_70 : decode cX12_cheapest 70 = .ok (.iload 5, 2) := by decide +kernel
theorem dX12_cheapest_72 : decode cX12_cheapest 72 = .ok (.iconst 3, 1) := by decide +kernel
theorem dX12_cheapest_73 : decode cX12_cheapest 73 = .ok (.invokestatic 73, 3) := by decide +kernel
theorem dX12_cheapest_76 : decode cX12_cheapest 76 = .ok (.iaload, 1) := by decide +kernel
theorem dX12_cheapest_77 : decode cX12_cheapest 77 = .ok (.iload 4, 2) := by decide +kernel
theorem dX12_cheapest_79 : decode cX12_cheapest 79 = .ok (.iadd, 1) := by decide +kernel
theorem dX12_cheapest_80 : decode cX12_cheapest 80 = .ok (.bipush 9, 2) := by decide +kernel
theorem dX12_cheapest_82 : decode cX12_cheapest 82 = .ok (.if_icmp .gt 79, 3) := by decide +kernel
theorem dX12_cheapest_85 : decode cX12_cheapest 85 = .ok (.aload_n 0, 1) := by decide +kernel
theorem dX12_cheapest_86 : decode cX12_cheapest 86 = .ok (.getfield 7, 3) := by decide +kernel
theorem dX12_cheapest_89 : decode cX12_cheapest 89 = .ok (.iload 5, 2) := by decide +kernel
theorem dX12_cheapest_91 : decode cX12_cheapest 91 = .ok (.iconst 3, 1) := by decide +kernel
theorem dX12_cheapest_92 : decode cX12_cheapest 92 = .ok (.invokestatic 73, 3) := by decide +kernel
theorem dX12_cheapest_95 : decode cX12_cheapest 95 = .ok (.dup2, 1) := by decide +kernel
theorem dX12_cheapest_96 : decode cX12_cheapest 96 = .ok (.iaload, 1) := by decide +kernel
theorem dX12_cheapest_97 : decode cX12_cheapest 97 = .ok (.iload 4, 2) := by decide +kernel
theorem dX12_cheapest_99 : decode cX12_cheapest 99 = .ok (.iadd, 1) := by decide +kernel
theorem dX12_cheapest_100 : decode cX12_cheapest 100 = .ok (.iastore, 1) := by decide +kernel
theorem dX12_cheapest_101 : decode cX12_cheapest 101 = .ok (.iconst 0, 1) := by decide +kernel
theorem dX12_cheapest_102 : decode cX12_cheapest 102 = .ok (.istore 6, 2) := by decide +kernel
theorem dX12_cheapest_104 : decode cX12_cheapest 104 = .ok (.iconst 0, 1) := by decide +kernel
theorem dX12_cheapest_105 : decode cX12_cheapest 105 = .ok (.istore 7, 2) := by decide +kernel
theorem dX12_cheapest_107 : decode cX12_cheapest 107 = .ok (.iload 7, 2) := by decide +kernel
theorem dX12_cheapest_109 : decode cX12_cheapest 109 = .ok (.iload_n 2, 1) := by decide +kernel
theorem dX12_cheapest_110 : decode cX12_cheapest 110 = .ok (.if_icmp .ge 28, 3) := by decide +kernel
theorem dX12_cheapest_113 : decode cX12_cheapest 113 = .ok (.iload 6, 2) := by decide +kernel
theorem dX12_cheapest_115 : decode cX12_cheapest 115 = .ok (.aload_n 0, 1) := by decide +kernel
theorem dX12_cheapest_116 : decode cX12_cheapest 116 = .ok (.aload_n 0, 1) := by decide +kernel
theorem dX12_cheapest_117 : decode cX12_cheapest 117 = .ok (.aload_n 0, 1) := by decide +kernel
theorem dX12_cheapest_118 : decode cX12_cheapest 118 = .ok (.getfield 7, 3) := by decide +kernel
theorem dX12_cheapest_121 : decode cX12_cheapest 121 = .ok (.iconst 1, 1) := by decide +kernel
theorem dX12_cheapest_122 : decode cX12_cheapest 122 = .ok (.iaload, 1) := by decide +kernel
theorem dX12_cheapest_123 : decode cX12_cheapest 123 = .ok (.invokevirtual 215, 3) := by decide +kernel
theorem dX12_cheapest_126 : decode cX12_cheapest 126 = .ok (.invokevirtual 218, 3) := by decide +kernel
theorem dX12_cheapest_129 : decode cX12_cheapest 129 = .ok (.ior, 1) := by decide +kernel
theorem dX12_cheapest_130 : decode cX12_cheapest 130 = .ok (.istore 6, 2) := by decide +kernel
theorem dX12_cheapest_132 : decode cX12_cheapest 132 = .ok (.iinc 7 1, 3) := by decide +kernel
theorem dX12_cheapest_135 : decode cX12_cheapest 135 = .ok (.goto (-28), 3) := by decide +kernel
theorem dX12_cheapest_138 : decode cX12_cheapest 138 = .ok (.aload_n 0, 1) := by decide +kernel
theorem dX12_cheapest_139 : decode cX12_cheapest 139 = .ok (.invokevirtual 240, 3) := by decide +kernel
theorem dX12_cheapest_142 : decode cX12_cheapest 142 = .ok (.iload 6, 2) := by decide +kernel
theorem dX12_cheapest_144 : decode cX12_cheapest 144 = .ok (.iload_n 1, 1) := by decide +kernel
theorem dX12_cheapest_145 : decode cX12_cheapest 145 = .ok (.iand, 1) := by decide +kernel
theorem dX12_cheapest_146 : decode cX12_cheapest 146 = .ok (.ifCond .ne 15, 3) := by decide +kernel
theorem dX12_cheapest_149 : decode cX12_cheapest 149 = .ok (.iload_n 3, 1) := by decide +kernel
theorem dX12_cheapest_150 : decode cX12_cheapest 150 = .ok (.ifCond .ne 8, 3) := by decide +kernel
theorem dX12_cheapest_153 : decode cX12_cheapest 153 = .ok (.iload 4, 2) := by decide +kernel
theorem dX12_cheapest_155 : decode cX12_cheapest 155 = .ok (.goto 5, 3) := by decide +kernel
theorem dX12_cheapest_158 : decode cX12_cheapest 158 = .ok (.iload 5, 2) := by decide +kernel
theorem dX12_cheapest_160 : decode cX12_cheapest 160 = .ok (.ireturn, 1) := by decide +kernel
theorem dX12_cheapest_161 : decode cX12_cheapest 161 = .ok (.iinc 5 1, 3) := by decide +kernel
theorem dX12_cheapest_164 : decode cX12_cheapest 164 = .ok (.goto (-109), 3) := by decide +kernel
theorem dX12_cheapest_167 : decode cX12_cheapest 167 = .ok (.iinc 4 1, 3) := by decide +kernel
theorem dX12_cheapest_170 : decode cX12_cheapest 170 = .ok (.goto (-125), 3) := by decide +kernel
theorem dX12_cheapest_173 : decode cX12_cheapest 173 = .ok (.iconst (-1), 1) := by decide +kernel
theorem dX12_cheapest_174 : decode cX12_cheapest 174 = .ok (.ireturn, 1) := by decide +kernel
theorem dX12_shareCells_0 : decode cX12_shareCells 0 = .ok (.aload_n 0, 1) := by decide +kernel
theorem dX12_shareCells_1 : decode cX12_shareCells 1 = .ok (.getfield 7, 3) := by decide +kernel
theorem dX12_shareCells_4 : decode cX12_shareCells 4 = .ok (.iload_n 1, 1) := by decide +kernel
theorem dX12_shareCells_5 : decode cX12_shareCells 5 = .ok (.iconst 1, 1) := by decide +kernel
theorem dX12_shareCells_6 : decode cX12_shareCells 6 = .ok (.invokestatic 96, 3) := by decide +kernel
theorem dX12_shareCells_9 : decode cX12_shareCells 9 = .ok (.iaload, 1) := by decide +kernel
theorem dX12_shareCells_10 : decode cX12_shareCells 10 = .ok (.aload_n 0, 1) := by decide +kernel
theorem dX12_shareCells_11 : decode cX12_shareCells 11 = .ok (.getfield 7, 3) := by decide +kernel
theorem dX12_shareCells_14 : decode cX12_shareCells 14 = .ok (.iload_n 2, 1) := by decide +kernel
theorem dX12_shareCells_15 : decode cX12_shareCells 15 = .ok (.iconst 2, 1) := by decide +kernel
theorem dX12_shareCells_16 : decode cX12_shareCells 16 = .ok (.invokestatic 96, 3) := by decide +kernel
theorem dX12_shareCells_19 : decode cX12_shareCells 19 = .ok (.iaload, 1) := by decide +kernel
theorem dX12_shareCells_20 : decode cX12_shareCells 20 = .ok (.if_icmp .gt 30, 3) := by decide +kernel
theorem dX12_shareCells_23 : decode cX12_shareCells 23 = .ok (.aload_n 0, 1) := by decide +kernel
theorem dX12_shareCells_24 : decode cX12_shareCells 24 = .ok (.getfield 7, 3) := by decide +kernel
theorem dX12_shareCells_27 : decode cX12_shareCells 27 = .ok (.iload_n 2, 1) := by decide +kernel
theorem dX12_shareCells_28 : decode cX12_shareCells 28 = .ok (.iconst 1, 1) := by decide +kernel
theorem dX12_shareCells_29 : decode cX12_shareCells 29 = .ok (.invokestatic 96, 3) := by decide +kernel
theorem dX12_shareCells_32 : decode cX12_shareCells 32 = .ok (.iaload, 1) := by decide +kernel
theorem dX12_shareCells_33 : decode cX12_shareCells 33 = .ok (.aload_n 0, 1) := by decide +kernel
theorem dX12_shareCells_34 : decode cX12_shareCells 34 = .ok (.getfield 7, 3) := by decide +kernel
theorem dX12_shareCells_37 : decode cX12_shareCells 37 = .ok (.iload_n 1, 1) := by decide +kernel
theorem dX12_shareCells_38 : decode cX12_shareCells 38 = .ok (.iconst 2, 1) := by decide +kernel
theorem dX12_shareCells_39 : decode cX12_shareCells 39 = .ok (.invokestatic 96, 3) := by decide +kernel
theorem dX12_shareCells_42 : decode cX12_shareCells 42 = .ok (.iaload, 1) := by decide +kernel
theorem dX12_shareCells_43 : decode cX12_shareCells 43 = .ok (.if_icmp .gt 7, 3) := by decide +kernel
theorem dX12_shareCells_46 : decode cX12_shareCells 46 = .ok (.iconst 1, 1) := by decide +kernel
theorem dX12_shareCells_47 : decode cX12_shareCells 47 = .ok (.goto 4, 3) := by decide +kernel
theorem dX12_shareCells_50 : decode cX12_shareCells 50 = .ok (.iconst 0, 1) := by decide +kernel
theorem dX12_shareCells_51 : decode cX12_shareCells 51 = .ok (.ireturn, 1) := by decide +kernel
theorem dX12_shareYears_0 : decode cX12_shareYears 0 = .ok (.iload_n 0, 1) := by decide +kernel
theorem dX12_shareYears_1 : decode cX12_shareYears 1 = .ok (.iload_n 1, 1) := by decide +kernel
theorem dX12_shareYears_2 : decode cX12_shareYears 2 = .ok (.if_icmp .ge 22, 3) := by decide +kernel
theorem dX12_shareYears_5 : decode cX12_shareYears 5 = .ok (.iload_n 2, 1) := by decide +kernel
theorem dX12_shareYears_6 : decode cX12_shareYears 6 = .ok (.iload_n 3, 1) := by decide +kernel
theorem dX12_shareYears_7 : decode cX12_shareYears 7 = .ok (.if_icmp .ge 17, 3) := by decide +kernel
theorem dX12_shareYears_10 : decode cX12_shareYears 10 = .ok (.iload_n 0, 1) := by decide +kernel
theorem dX12_shareYears_11 : decode cX12_shareYears 11 = .ok (.iload_n 3, 1) := by decide +kernel
theorem dX12_shareYears_12 : decode cX12_shareYears 12 = .ok (.if_icmp .ge 12, 3) := by decide +kernel
theorem dX12_shareYears_15 : decode cX12_shareYears 15 = .ok (.iload_n 2, 1) := by decide +kernel
theorem dX12_shareYears_16 : decode cX12_shareYears 16 = .ok (.iload_n 1, 1) := by decide +kernel
theorem dX12_shareYears_17 : decode cX12_shareYears 17 = .ok (.if_icmp .ge 7, 3) := by decide +kernel
theorem dX12_shareYears_20 : decode cX12_shareYears 20 = .ok (.iconst 1, 1) := by decide +kernel
theorem dX12_shareYears_21 : decode cX12_shareYears 21 = .ok (.goto 4, 3) := by decide +kernel
theorem dX12_shareYears_24 : decode cX12_shareYears 24 = .ok (.iconst 0, 1) := by decide +kernel
theorem dX12_shareYears_25 : decode cX12_shareYears 25 = .ok (.ireturn, 1) := by decide +kernel
theorem dX12_clashes_0 : decode cX12_clashes 0 = .ok (.iload_n 1, 1) := by decide +kernel
theorem dX12_clashes_1 : decode cX12_clashes 1 = .ok (.iconst (-1), 1) := by decide +kernel
theorem dX12_clashes_2 : decode cX12_clashes 2 = .ok (.if_icmp .ge 11, 3) := by decide +kernel
theorem dX12_clashes_5 : decode cX12_clashes 5 = .ok (.aload_n 0, 1) := by decide +kernel
theorem dX12_clashes_6 : decode cX12_clashes 6 = .ok (.iconst 0, 1) := by decide +kernel
theorem dX12_clashes_7 : decode cX12_clashes 7 = .ok (.bipush (-10), 2) := by decide +kernel
theorem dX12_clashes_9 : decode cX12_clashes 9 = .ok (.invokevirtual 49, 3) := by decide +kernel
theorem dX12_clashes_12 : decode cX12_clashes 12 = .ok (.ireturn, 1) := by decide +kernel
theorem dX12_clashes_13 : decode cX12_clashes 13 = .ok (.iconst 0, 1) := by decide +kernel
theorem dX12_clashes_14 : decode cX12_clashes 14 = .ok (.istore_n 2, 1) := by decide +kernel
theorem dX12_clashes_15 : decode cX12_clashes 15 = .ok (.bipush (-5), 2) := by decide +kernel
theorem dX12_clashes_17 : decode cX12_clashes 17 = .ok (.istore_n 3, 1) := by decide +kernel
theorem dX12_clashes_18 : decode cX12_clashes 18 = .ok (.iconst 0, 1) := by decide +kernel
theorem dX12_clashes_19 : decode cX12_clashes 19 = .ok (.istore 4, 2) := by decide +kernel
theorem dX12_clashes_21 : decode cX12_clashes 21 = .ok (.iload 4, 2) := by decide +kernel
theorem dX12_clashes_23 : decode cX12_clashes 23 = .ok (.aload_n 0, 1) := by decide +kernel
theorem dX12_clashes_24 : decode cX12_clashes 24 = .ok (.getfield 7, 3) := by decide +kernel
theorem dX12_clashes_27 : decode cX12_clashes 27 = .ok (.iconst 4, 1) := by decide +kernel
theorem dX12_clashes_28 : decode cX12_clashes 28 = .ok (.iaload, 1) := by decide +kernel
theorem dX12_clashes_29 : decode cX12_clashes 29 = .ok (.if_icmp .ge 114, 3) := by decide +kernel
theorem dX12_clashes_32 : decode cX12_clashes 32 = .ok (.iload 4, 2) := by decide +kernel
theorem dX12_clashes_34 : decode cX12_clashes 34 = .ok (.iconst 1, 1) := by decide +kernel
theorem dX12_clashes_35 : decode cX12_clashes 35 = .ok (.iadd, 1) := by decide +kernel
theorem dX12_clashes_36 : decode cX12_clashes 36 = .ok (.istore 5, 2) := by decide +kernel
theorem dX12_clashes_38 : decode cX12_clashes 38 = .ok (.iload 5, 2) := by decide +kernel
theorem dX12_clashes_40 : decode cX12_clashes 40 = .ok (.aload_n 0, 1) := by decide +kernel
theorem dX12_clashes_41 : decode cX12_clashes 41 = .ok (.getfield 7, 3) := by decide +kernel
theorem dX12_clashes_44 : decode cX12_clashes 44 = .ok (.iconst 4, 1) := by decide +kernel
theorem dX12_clashes_45 : decode cX12_clashes 45 = .ok (.iaload, 1) := by decide +kernel
theorem dX12_clashes_46 : decode cX12_clashes 46 = .ok (.if_icmp .ge 91, 3) := by decide +kernel
theorem dX12_clashes_49 : decode cX12_clashes 49 = .ok (.aload_n 0, 1) := by decide +kernel
theorem dX12_clashes_50 : decode cX12_clashes 50 = .ok (.iload 4, 2) := by decide +kernel
theorem dX12_clashes_52 : decode cX12_clashes 52 = .ok (.iload 5, 2) := by decide +kernel
theorem dX12_clashes_54 : decode cX12_clashes 54 = .ok (.invokevirtual 257, 3) := by decide +kernel
theorem dX12_clashes_57 : decode cX12_clashes 57 = .ok (.ifCond .eq 74, 3) := by decide +kernel
theorem dX12_clashes_60 : decode cX12_clashes 60 = .ok (.aload_n 0, 1) := by decide +kernel
theorem dX12_clashes_61 : decode cX12_clashes 61 = .ok (.getfield 7, 3) := by decide +kernel
theorem dX12_clashes_64 : decode cX12_clashes 64 = .ok (.iload 4, 2) := by decide +kernel
theorem dX12_clashes_66 : decode cX12_clashes 66 = .ok (.iconst 3, 1) := by decide +kernel
theorem dX12_clashes_67 : decode cX12_clashes 67 = .ok (.invokestatic 96, 3) := by decide +kernel
theorem dX12_clashes_70 : decode cX12_clashes 70 = .ok (.iaload, 1) := by decide +kernel
theorem dX12_clashes_71 : decode cX12_clashes 71 = .ok (.aload_n 0, 1) := by decide +kernel
theorem dX12_clashes_72 : decode cX12_clashes 72 = .ok (.getfield 7, 3) := by decide +kernel
theorem dX12_clashes_75 : decode cX12_clashes 75 = .ok (.iload 4, 2) := by decide +kernel
theorem dX12_clashes_77 : decode cX12_clashes 77 = .ok (.iconst 4, 1) := by decide +kernel
theorem dX12_clashes_78 : decode cX12_clashes 78 = .ok (.invokestatic 96, 3) := by decide +kernel
theorem dX12_clashes_81 : decode cX12_clashes 81 = .ok (.iaload, 1) := by decide +kernel
theorem dX12_clashes_82 : decode cX12_clashes 82 = .ok (.aload_n 0, 1) := by decide +kernel
theorem dX12_clashes_83 : decode cX12_clashes 83 = .ok (.getfield 7, 3) := by decide +kernel
theorem dX12_clashes_86 : decode cX12_clashes 86 = .ok (.iload 5, 2) := by decide +kernel
theorem dX12_clashes_88 : decode cX12_clashes 88 = .ok (.iconst 3, 1) := by decide +kernel
theorem dX12_clashes_89 : decode cX12_clashes 89 = .ok (.invokestatic 96, 3) := by decide +kernel
theorem dX12_clashes_92 : decode cX12_clashes 92 = .ok (.iaload, 1) := by decide +kernel
theorem dX12_clashes_93 : decode cX12_clashes 93 = .ok (.aload_n 0, 1) := by decide +kernel
theorem dX12_clashes_94 : decode cX12_clashes 94 = .ok (.getfield 7, 3) := by decide +kernel
theorem dX12_clashes_97 : decode cX12_clashes 97 = .ok (.iload 5, 2) := by decide +kernel
theorem dX12_clashes_99 : decode cX12_clashes 99 = .ok (.iconst 4, 1) := by decide +kernel
theorem dX12_clashes_100 : decode cX12_clashes 100 = .ok (.invokestatic 96, 3) := by decide +kernel
theorem dX12_clashes_103 : decode cX12_clashes 103 = .ok (.iaload, 1) := by decide +kernel
theorem dX12_clashes_104 : decode cX12_clashes 104 = .ok (.invokestatic 260, 3) := by decide +kernel
theorem dX12_clashes_107 : decode cX12_clashes 107 = .ok (.ifCond .eq 24, 3) := by decide +kernel
theorem dX12_clashes_110 : decode cX12_clashes 110 = .ok (.iload_n 2, 1) := by decide +kernel
theorem dX12_clashes_111 : decode cX12_clashes 111 = .ok (.iload_n 1, 1) := by decide +kernel
theorem dX12_clashes_112 : decode cX12_clashes 112 = .ok (.if_icmp .ne 14, 3) := by decide +kernel
theorem dX12_clashes_115 : decode cX12_clashes 115 = .ok (.bipush 10, 2) := by decide +kernel
theorem dX12_clashes_117 : decode cX12_clashes 117 = .ok (.iload 4, 2) := by decide +kernel
theorem dX12_clashes_119 : decode cX12_clashes 119 = .ok (.imul, 1) := by decide +kernel
theorem dX12_clashes_120 : decode cX12_clashes 120 = .ok (.iload 5, 2) := by decide +kernel
theorem dX12_clashes_122 : decode cX12_clashes 122 = .ok (.iadd, 1) := by decide +kernel
theorem dX12_clashes_123 : decode cX12_clashes 123 = .ok (.goto 4, 3) := by decide +kernel
theorem dX12_clashes_126 : decode cX12_clashes 126 = .ok (.iload_n 3, 1) := by decide +kernel
theorem dX12_clashes_127 : decode cX12_clashes 127 = .ok (.istore_n 3, 1) := by decide +kernel
theorem dX12_clashes_128 : decode cX12_clashes 128 = .ok (.iinc 2 1, 3) := by decide +kernel
theorem dX12_clashes_131 : decode cX12_clashes 131 = .ok (.iinc 5 1, 3) := by decide +kernel
theorem dX12_clashes_134 : decode cX12_clashes 134 = .ok (.goto (-96), 3) := by decide +kernel
theorem dX12_clashes_137 : decode cX12_clashes 137 = .ok (.iinc 4 1, 3) := by decide +kernel
theorem dX12_clashes_140 : decode cX12_clashes 140 = .ok (.goto (-119), 3) := by decide +kernel
theorem dX12_clashes_143 : decode cX12_clashes 143 = .ok (.iload_n 1, 1) := by decide +kernel
theorem dX12_clashes_144 : decode cX12_clashes 144 = .ok (.iconst (-1), 1) := by decide +kernel
theorem dX12_clashes_145 : decode cX12_clashes 145 = .ok (.if_icmp .ne 7, 3) := by decide +kernel
theorem dX12_clashes_148 : decode cX12_clashes 148 = .ok (.iload_n 2, 1) := by decide +kernel
theorem dX12_clashes_149 : decode cX12_clashes 149 = .ok (.goto 4, 3) := by decide +kernel
theorem dX12_clashes_152 : decode cX12_clashes 152 = .ok (.iload_n 3, 1) := by decide +kernel
theorem dX12_clashes_153 : decode cX12_clashes 153 = .ok (.ireturn, 1) := by decide +kernel
theorem dX12_mend_0 : decode cX12_mend 0 = .ok (.iconst 0, 1) := by decide +kernel
theorem dX12_mend_1 : decode cX12_mend 1 = .ok (.istore_n 1, 1) := by decide +kernel
theorem dX12_mend_2 : decode cX12_mend 2 = .ok (.iconst 0, 1) := by decide +kernel
theorem dX12_mend_3 : decode cX12_mend 3 = .ok (.istore_n 2, 1) := by decide +kernel
theorem dX12_mend_4 : decode cX12_mend 4 = .ok (.iload_n 2, 1) := by decide +kernel
theorem dX12_mend_5 : decode cX12_mend 5 = .ok (.aload_n 0, 1) := by decide +kernel
theorem dX12_mend_6 : decode cX12_mend 6 = .ok (.getfield 7, 3) := by decide +kernel
theorem dX12_mend_9 : decode cX12_mend 9 = .ok (.iconst 4, 1) := by decide +kernel
theorem dX12_mend_10 : decode cX12_mend 10 = .ok (.iaload, 1) := by decide +kernel
theorem dX12_mend_11 : decode cX12_mend 11 = .ok (.if_icmp .ge 150, 3) := by decide +kernel
theorem dX12_mend_14 : decode cX12_mend 14 = .ok (.aload_n 0, 1) := by decide +kernel
theorem dX12_mend_15 : decode cX12_mend 15 = .ok (.getfield 7, 3) := by decide +kernel
theorem dX12_mend_18 : decode cX12_mend 18 = .ok (.iload_n 2, 1) := by decide +kernel
theorem dX12_mend_19 : decode cX12_mend 19 = .ok (.iconst 3, 1) := by decide +kernel
theorem dX12_mend_20 : decode cX12_mend 20 = .ok (.invokestatic 96, 3) := by decide +kernel
theorem dX12_mend_23 : decode cX12_mend 23 = .ok (.iaload, 1) := by decide +kernel
theorem dX12_mend_24 : decode cX12_mend 24 = .ok (.istore_n 3, 1) := by decide +kernel
theorem dX12_mend_25 : decode cX12_mend 25 = .ok (.aload_n 0, 1) := by decide +kernel
theorem dX12_mend_26 : decode cX12_mend 26 = .ok (.getfield 35, 3) := by decide +kernel
theorem dX12_mend_29 : decode cX12_mend 29 = .ok (.iload_n 2, 1) := by decide +kernel
theorem dX12_mend_30 : decode cX12_mend 30 = .ok (.aload_n 0, 1) := by decide +kernel
theorem dX12_mend_31 : decode cX12_mend 31 = .ok (.getfield 7, 3) := by decide +kernel
theorem dX12_mend_34 : decode cX12_mend 34 = .ok (.iload_n 2, 1) := by decide +kernel
theorem dX12_mend_35 : decode cX12_mend 35 = .ok (.iconst 4, 1) := by decide +kernel
theorem dX12_mend_36 : decode cX12_mend 36 = .ok (.invokestatic 96, 3) := by decide +kernel
theorem dX12_mend_39 : decode cX12_mend 39 = .ok (.iaload, 1) := by decide +kernel
theorem dX12_mend_40 : decode cX12_mend 40 = .ok (.iastore, 1) := by decide +kernel
theorem dX12_mend_41 : decode cX12_mend 41 = .ok (.iconst 1, 1) := by decide +kernel
theorem dX12_mend_42 : decode cX12_mend 42 = .ok (.istore 4, 2) := by decide +kernel
theorem dX12_mend_44 : decode cX12_mend 44 = .ok (.iload 4, 2) := by decide +kernel
theorem dX12_mend_46 : decode cX12_mend 46 = .ok (.ifCond .eq 109, 3) := by decide +kernel
theorem dX12_mend_49 : decode cX12_mend 49 = .ok (.iconst 0, 1) := by decide +kernel
theorem dX12_mend_50 : decode cX12_mend 50 = .ok (.istore 4, 2) := by decide +kernel
theorem dX12_mend_52 : decode cX12_mend 52 = .ok (.iconst 0, 1) := by decide +kernel
theorem dX12_mend_53 : decode cX12_mend 53 = .ok (.istore 5, 2) := by decide +kernel
theorem dX12_mend_55 : decode cX12_mend 55 = .ok (.iload 5, 2) := by decide +kernel
theorem dX12_mend_57 : decode cX12_mend 57 = .ok (.iload_n 2, 1) := by decide +kernel
theorem dX12_mend_58 : decode cX12_mend 58 = .ok (.if_icmp .ge 62, 3) := by decide +kernel
theorem dX12_mend_61 : decode cX12_mend 61 = .ok (.iload 4, 2) := by decide +kernel
theorem dX12_mend_63 : decode cX12_mend 63 = .ok (.ifCond .ne 44, 3) := by decide +kernel
theorem dX12_mend_66 : decode cX12_mend 66 = .ok (.aload_n 0, 1) := by decide +kernel
theorem dX12_mend_67 : decode cX12_mend 67 = .ok (.iload 5, 2) := by decide +kernel
theorem dX12_mend_69 : decode cX12_mend 69 = .ok (.iload_n 2, 1) := by decide +kernel
theorem dX12_mend_70 : decode cX12_mend 70 = .ok (.invokevirtual 257, 3) := by decide +kernel
theorem dX12_mend_73 : decode cX12_mend 73 = .ok (.ifCond .eq 38, 3) := by decide +kernel
theorem dX12_mend_76 : decode cX12_mend 76 = .ok (.aload_n 0, 1) := by decide +kernel
theorem dX12_mend_77 : decode cX12_mend 77 = .ok (.getfield 7, 3) := by decide +kernel
theorem dX12_mend_80 : decode cX12_mend 80 = .ok (.iload 5, 2) := by decide +kernel
theorem dX12_mend_82 : decode cX12_mend 82 = .ok (.iconst 3, 1) := by decide +kernel
theorem dX12_mend_83 : decode cX12_mend 83 = .ok (.invokestatic 96, 3) := by decide +kernel
theorem dX12_mend_86 : decode cX12_mend 86 = .ok (.iaload, 1) := by decide +kernel
theorem dX12_mend_87 : decode cX12_mend 87 = .ok (.aload_n 0, 1) := by decide +kernel
theorem dX12_mend_88 : decode cX12_mend 88 = .ok (.getfield 35, 3) := by decide +kernel
theorem dX12_mend_91 : decode cX12_mend 91 = .ok (.iload 5, 2) := by decide +kernel
theorem dX12_mend_93 : decode cX12_mend 93 = .ok (.iaload, 1) := by decide +kernel
theorem dX12_mend_94 : decode cX12_mend 94 = .ok (.iload_n 3, 1) := by decide +kernel
theorem dX12_mend_95 : decode cX12_mend 95 = .ok (.aload_n 0, 1) := by decide +kernel
theorem dX12_mend_96 : decode cX12_mend 96 = .ok (.getfield 35, 3) := by decide +kernel
theorem dX12_mend_99 : decode cX12_mend 99 = .ok (.iload_n 2, 1) := by decide +kernel
theorem dX12_mend_100 : decode cX12_mend 100 = .ok (.iaload, 1) := by decide +kernel
theorem dX12_mend_101 : decode cX12_mend 101 = .ok (.invokestatic 260, 3) := by decide +kernel
theorem dX12_mend_104 : decode cX12_mend 104 = .ok (.ifCond .eq 7, 3) := by decide +kernel
theorem dX12_mend_107 : decode cX12_mend 107 = .ok (.iconst 1, 1) := by decide +kernel
theorem dX12_mend_108 : decode cX12_mend 108 = .ok (.goto 4, 3) := by decide +kernel
theorem dX12_mend_111 : decode cX12_mend 111 = .ok (.iconst 0, 1) := by decide +kernel
theorem dX12_mend_112 : decode cX12_mend 112 = .ok (.istore 4, 2) := by decide +kernel
theorem dX12_mend_114 : decode cX12_mend 114 = .ok (.iinc 5 1, 3) := by decide +kernel
theorem dX12_mend_117 : decode cX12_mend 117 = .ok (.goto (-62), 3) := by decide +kernel
theorem dX12_mend_120 : decode cX12_mend 120 = .ok (.aload_n 0, 1) := by decide +kernel
theorem dX12_mend_121 : decode cX12_mend 121 = .ok (.getfield 35, 3) := by decide +kernel
theorem dX12_mend_124 : decode cX12_mend 124 = .ok (.iload_n 2, 1) := by decide +kernel
theorem dX12_mend_125 : decode cX12_mend 125 = .ok (.dup2, 1) := by decide +kernel
theorem dX12_mend_126 : decode cX12_mend 126 = .ok (.iaload, 1) := by decide +kernel
theorem dX12_mend_127 : decode cX12_mend 127 = .ok (.iload 4, 2) := by decide +kernel
theorem dX12_mend_129 : decode cX12_mend 129 = .ok (.ifCond .eq 7, 3) := by decide +kernel
theorem dX12_mend_132 : decode cX12_mend 132 = .ok (.iconst 1, 1) := by decide +kernel
theorem dX12_mend_133 : decode cX12_mend 133 = .ok (.goto 4, 3) := by decide +kernel
theorem dX12_mend_136 : decode cX12_mend 136 = .ok (.iconst 0, 1) := by decide +kernel
theorem dX12_mend_137 : decode cX12_mend 137 = .ok (.isub, 1) := by decide +kernel
theorem dX12_mend_138 : decode cX12_mend 138 = .ok (.iastore, 1) := by decide +kernel
theorem dX12_mend_139 : decode cX12_mend 139 = .ok (.iload_n 1, 1) := by decide +kernel
theorem dX12_mend_140 : decode cX12_mend 140 = .ok (.iload 4, 2) := by decide +kernel
theorem dX12_mend_142 : decode cX12_mend 142 = .ok (.ifCond .eq 7, 3) := by decide +kernel
theorem dX12_mend_145 : decode cX12_mend 145 = .ok (.iconst 1, 1) := by decide +kernel
theorem dX12_mend_146 : decode cX12_mend 146 = .ok (.goto 4, 3) := by decide +kernel
theorem dX12_mend_149 : decode cX12_mend 149 = .ok (.iconst 0, 1) := by decide +kernel
theorem dX12_mend_150 : decode cX12_mend 150 = .ok (.iadd, 1) := by decide +kernel
theorem dX12_mend_151 : decode cX12_mend 151 = .ok (.istore_n 1, 1) := by decide +kernel
theorem dX12_mend_152 : decode cX12_mend 152 = .ok (.goto (-108), 3) := by decide +kernel
theorem dX12_mend_155 : decode cX12_mend 155 = .ok (.iinc 2 1, 3) := by decide +kernel
theorem dX12_mend_158 : decode cX12_mend 158 = .ok (.goto (-154), 3) := by decide +kernel
theorem dX12_mend_161 : decode cX12_mend 161 = .ok (.iload_n 1, 1) := by decide +kernel
theorem dX12_mend_162 : decode cX12_mend 162 = .ok (.ireturn, 1) := by decide +kernel
theorem dX12_cellsOf_0 : decode cX12_cellsOf 0 = .ok (.iconst 0, 1) := by decide +kernel
theorem dX12_cellsOf_1 : decode cX12_cellsOf 1 = .ok (.istore_n 2, 1) := by decide +kernel
theorem dX12_cellsOf_2 : decode cX12_cellsOf 2 = .ok (.iconst 0, 1) := by decide +kernel
theorem dX12_cellsOf_3 : decode cX12_cellsOf 3 = .ok (.istore_n 3, 1) := by decide +kernel
theorem dX12_cellsOf_4 : decode cX12_cellsOf 4 = .ok (.iload_n 3, 1) := by decide +kernel
theorem dX12_cellsOf_5 : decode cX12_cellsOf 5 = .ok (.aload_n 0, 1) := by decide +kernel
theorem dX12_cellsOf_6 : decode cX12_cellsOf 6 = .ok (.getfield 7, 3) := by decide +kernel
theorem dX12_cellsOf_9 : decode cX12_cellsOf 9 = .ok (.iconst 0, 1) := by decide +kernel
theorem dX12_cellsOf_10 : decode cX12_cellsOf 10 = .ok (.iaload, 1) := by decide +kernel
theorem dX12_cellsOf_11 : decode cX12_cellsOf 11 = .ok (.if_icmp .ge 33, 3) := by decide +kernel
theorem dX12_cellsOf_14 : decode cX12_cellsOf 14 = .ok (.iload_n 2, 1) := by decide +kernel
theorem dX12_cellsOf_15 : decode cX12_cellsOf 15 = .ok (.aload_n 0, 1) := by decide +kernel
theorem dX12_cellsOf_16 : decode cX12_cellsOf 16 = .ok (.getfield 7, 3) := by decide +kernel
theorem dX12_cellsOf_19 : decode cX12_cellsOf 19 = .ok (.iload_n 3, 1) := by decide +kernel
theorem dX12_cellsOf_20 : decode cX12_cellsOf 20 = .ok (.iconst 2, 1) := by decide +kernel
theorem dX12_cellsOf_21 : decode cX12_cellsOf 21 = .ok (.invokestatic 73, 3) := by decide +kernel
theorem dX12_cellsOf_24 : decode cX12_cellsOf 24 = .ok (.iaload, 1) := by decide +kernel
theorem dX12_cellsOf_25 : decode cX12_cellsOf 25 = .ok (.iload_n 1, 1) := by decide +kernel
theorem dX12_cellsOf_26 : decode cX12_cellsOf 26 = .ok (.if_icmp .ne 9, 3) := by decide +kernel
theorem dX12_cellsOf_29 : decode cX12_cellsOf 29 = .ok (.iconst 1, 1) := by decide +kernel
theorem dX12_cellsOf_30 : decode cX12_cellsOf 30 = .ok (.iload_n 3, 1) := by decide +kernel
theorem dX12_cellsOf_31 : decode cX12_cellsOf 31 = .ok (.ishl, 1) := by decide +kernel
theorem dX12_cellsOf_32 : decode cX12_cellsOf 32 = .ok (.goto 4, 3) := by decide +kernel
theorem dX12_cellsOf_35 : decode cX12_cellsOf 35 = .ok (.iconst 0, 1) := by decide +kernel
theorem dX12_cellsOf_36 : decode cX12_cellsOf 36 = .ok (.ior, 1) := by decide +kernel
theorem dX12_cellsOf_37 : decode cX12_cellsOf 37 = .ok (.istore_n 2, 1) := by decide +kernel
theorem dX12_cellsOf_38 : decode cX12_cellsOf 38 = .ok (.iinc 3 1, 3) := by decide +kernel
theorem dX12_cellsOf_41 : decode cX12_cellsOf 41 = .ok (.goto (-37), 3) := by decide +kernel
theorem dX12_cellsOf_44 : decode cX12_cellsOf 44 = .ok (.iload_n 2, 1) := by decide +kernel
theorem dX12_cellsOf_45 : decode cX12_cellsOf 45 = .ok (.ireturn, 1) := by decide +kernel
theorem dX12_letsIn_0 : decode cX12_letsIn 0 = .ok (.iload_n 1, 1) := by decide +kernel
theorem dX12_letsIn_1 : decode cX12_letsIn 1 = .ok (.i2l, 1) := by decide +kernel
theorem dX12_letsIn_2 : decode cX12_letsIn 2 = .ok (.lconst 0, 1) := by decide +kernel
theorem dX12_letsIn_3 : decode cX12_letsIn 3 = .ok (.ldc2_w 71, 3) := by decide +kernel
theorem dX12_letsIn_6 : decode cX12_letsIn 6 = .ok (.invokestatic 53, 3) := by decide +kernel
theorem dX12_letsIn_9 : decode cX12_letsIn 9 = .ok (.ifCond .eq 13, 3) := by decide +kernel
theorem dX12_letsIn_12 : decode cX12_letsIn 12 = .ok (.iload_n 2, 1) := by decide +kernel
theorem dX12_letsIn_13 : decode cX12_letsIn 13 = .ok (.i2l, 1) := by decide +kernel
theorem dX12_letsIn_14 : decode cX12_letsIn 14 = .ok (.lconst 0, 1) := by decide +kernel
theorem dX12_letsIn_15 : decode cX12_letsIn 15 = .ok (.lconst 1, 1) := by decide +kernel
theorem dX12_letsIn_16 : decode cX12_letsIn 16 = .ok (.invokestatic 53, 3) := by decide +kernel
theorem dX12_letsIn_19 : decode cX12_letsIn 19 = .ok (.ifCond .ne 8, 3) := by decide +kernel
theorem dX12_letsIn_22 : decode cX12_letsIn 22 = .ok (.aload_n 0, 1) := by decide +kernel
theorem dX12_letsIn_23 : decode cX12_letsIn 23 = .ok (.invokevirtual 59, 3) := by decide +kernel
theorem dX12_letsIn_26 : decode cX12_letsIn 26 = .ok (.ireturn, 1) := by decide +kernel
theorem dX12_letsIn_27 : decode cX12_letsIn 27 = .ok (.aload_n 0, 1) := by decide +kernel
theorem dX12_letsIn_28 : decode cX12_letsIn 28 = .ok (.iconst 1, 1) := by decide +kernel
theorem dX12_letsIn_29 : decode cX12_letsIn 29 = .ok (.iload_n 1, 1) := by decide +kernel
theorem dX12_letsIn_30 : decode cX12_letsIn 30 = .ok (.ishl, 1) := by decide +kernel
theorem dX12_letsIn_31 : decode cX12_letsIn 31 = .ok (.invokevirtual 226, 3) := by decide +kernel
theorem dX12_letsIn_34 : decode cX12_letsIn 34 = .ok (.aload_n 0, 1) := by decide +kernel
theorem dX12_letsIn_35 : decode cX12_letsIn 35 = .ok (.iconst 0, 1) := by decide +kernel
theorem dX12_letsIn_36 : decode cX12_letsIn 36 = .ok (.invokevirtual 226, 3) := by decide +kernel
theorem dX12_letsIn_39 : decode cX12_letsIn 39 = .ok (.iconst (-1), 1) := by decide +kernel
theorem dX12_letsIn_40 : decode cX12_letsIn 40 = .ok (.ixor, 1) := by decide +kernel
theorem dX12_letsIn_41 : decode cX12_letsIn 41 = .ok (.iand, 1) := by decide +kernel
theorem dX12_letsIn_42 : decode cX12_letsIn 42 = .ok (.istore_n 3, 1) := by decide +kernel
theorem dX12_letsIn_43 : decode cX12_letsIn 43 = .ok (.aload_n 0, 1) := by decide +kernel
theorem dX12_letsIn_44 : decode cX12_letsIn 44 = .ok (.iload_n 1, 1) := by decide +kernel
theorem dX12_letsIn_45 : decode cX12_letsIn 45 = .ok (.invokevirtual 264, 3) := by decide +kernel
theorem dX12_letsIn_48 : decode cX12_letsIn 48 = .ok (.istore 4, 2) := by decide +kernel
theorem dX12_letsIn_50 : decode cX12_letsIn 50 = .ok (.aload_n 0, 1) := by decide +kernel
theorem dX12_letsIn_51 : decode cX12_letsIn 51 = .ok (.iload_n 2, 1) := by decide +kernel
theorem dX12_letsIn_52 : decode cX12_letsIn 52 = .ok (.ifCond .ne 10, 3) := by decide +kernel
theorem dX12_letsIn_55 : decode cX12_letsIn 55 = .ok (.iload_n 3, 1) := by decide +kernel
theorem dX12_letsIn_56 : decode cX12_letsIn 56 = .ok (.iload 4, 2) := by decide +kernel
theorem dX12_letsIn_58 : decode cX12_letsIn 58 = .ok (.iand, 1) := by decide +kernel
theorem dX12_letsIn_59 : decode cX12_letsIn 59 = .ok (.goto 9, 3) := by decide +kernel
theorem dX12_letsIn_62 : decode cX12_letsIn 62 = .ok (.iload_n 3, 1) := by decide +kernel
theorem dX12_letsIn_63 : decode cX12_letsIn 63 = .ok (.iload 4, 2) := by decide +kernel
theorem dX12_letsIn_65 : decode cX12_letsIn 65 = .ok (.iconst (-1), 1) := by decide +kernel
theorem dX12_letsIn_66 : decode cX12_letsIn 66 = .ok (.ixor, 1) := by decide +kernel
theorem dX12_letsIn_67 : decode cX12_letsIn 67 = .ok (.iand, 1) := by decide +kernel
theorem dX12_letsIn_68 : decode cX12_letsIn 68 = .ok (.invokevirtual 229, 3) := by decide +kernel
theorem dX12_letsIn_71 : decode cX12_letsIn 71 = .ok (.ireturn, 1) := by decide +kernel
theorem dX12_losesBy_0 : decode cX12_losesBy 0 = .ok (.aload_n 0, 1) := by decide +kernel
theorem dX12_losesBy_1 : decode cX12_losesBy 1 = .ok (.iload_n 1, 1) := by decide +kernel
theorem dX12_losesBy_2 : decode cX12_losesBy 2 = .ok (.invokevirtual 264, 3) := by decide +kernel
theorem dX12_losesBy_5 : decode cX12_losesBy 5 = .ok (.istore_n 3, 1) := by decide +kernel
theorem dX12_losesBy_6 : decode cX12_losesBy 6 = .ok (.iconst 0, 1) := by decide +kernel
theorem dX12_losesBy_7 : decode cX12_losesBy 7 = .ok (.istore 4, 2) := by decide +kernel
theorem dX12_losesBy_9 : decode cX12_losesBy 9 = .ok (.iconst 0, 1) := by decide +kernel
theorem dX12_losesBy_10 : decode cX12_losesBy 10 = .ok (.istore 5, 2) := by decide +kernel
theorem dX12_losesBy_12 : decode cX12_losesBy 12 = .ok (.iload 5, 2) := by decide +kernel
theorem dX12_losesBy_14 : decode cX12_losesBy 14 = .ok (.aload_n 0, 1) := by decide +kernel
theorem dX12_losesBy_15 : decode cX12_losesBy 15 = .ok (.getfield 7, 3) := by decide +kernel
theorem dX12_losesBy_18 : decode cX12_losesBy 18 = .ok (.iconst 0, 1) := by decide +kernel
theorem dX12_losesBy_19 : decode cX12_losesBy 19 = .ok (.iaload, 1) := by decide +kernel
theorem dX12_losesBy_20 : decode cX12_losesBy 20 = .ok (.if_icmp .ge 48, 3) := by decide +kernel
theorem dX12_losesBy_23 : decode cX12_losesBy 23 = .ok (.iload 4, 2) := by decide +kernel
theorem dX12_losesBy_25 : decode cX12_losesBy 25 = .ok (.iload_n 3, 1) := by decide +kernel
theorem dX12_losesBy_26 : decode cX12_losesBy 26 = .ok (.iload 5, 2) := by decide +kernel
theorem dX12_losesBy_28 : decode cX12_losesBy 28 = .ok (.ishr, 1) := by decide +kernel
theorem dX12_losesBy_29 : decode cX12_losesBy 29 = .ok (.iconst 1, 1) := by decide +kernel
theorem dX12_losesBy_30 : decode cX12_losesBy 30 = .ok (.iand, 1) := by decide +kernel
theorem dX12_losesBy_31 : decode cX12_losesBy 31 = .ok (.iconst 1, 1) := by decide +kernel
theorem dX12_losesBy_32 : decode cX12_losesBy 32 = .ok (.if_icmp .ne 26, 3) := by decide +kernel
theorem dX12_losesBy_35 : decode cX12_losesBy 35 = .ok (.iload_n 2, 1) := by decide +kernel
theorem dX12_losesBy_36 : decode cX12_losesBy 36 = .ok (.iload_n 1, 1) := by decide +kernel
theorem dX12_losesBy_37 : decode cX12_losesBy 37 = .ok (.ishr, 1) := by decide +kernel
theorem dX12_losesBy_38 : decode cX12_losesBy 38 = .ok (.iconst 1, 1) := by decide +kernel
theorem dX12_losesBy_39 : decode cX12_losesBy 39 = .ok (.iand, 1) := by decide +kernel
theorem dX12_losesBy_40 : decode cX12_losesBy 40 = .ok (.iconst 1, 1) := by decide +kernel
theorem dX12_losesBy_41 : decode cX12_losesBy 41 = .ok (.if_icmp .ne 17, 3) := by decide +kernel
theorem dX12_losesBy_44 : decode cX12_losesBy 44 = .ok (.aload_n 0, 1) := by decide +kernel
theorem dX12_losesBy_45 : decode cX12_losesBy 45 = .ok (.getfield 7, 3) := by decide +kernel
theorem dX12_losesBy_48 : decode cX12_losesBy 48 = .ok (.iload 5, 2) := by decide +kernel
theorem dX12_losesBy_50 : decode cX12_losesBy 50 = .ok (.iconst 3, 1) := by decide +kernel
theorem dX12_losesBy_51 : decode cX12_losesBy 51 = .ok (.invokestatic 73, 3) := by decide +kernel
theorem dX12_losesBy_54 : decode cX12_losesBy 54 = .ok (.iaload, 1) := by decide +kernel
theorem dX12_losesBy_55 : decode cX12_losesBy 55 = .ok (.goto 4, 3) := by decide +kernel
theorem dX12_losesBy_58 : decode cX12_losesBy 58 = .ok (.iconst 0, 1) := by decide +kernel
theorem dX12_losesBy_59 : decode cX12_losesBy 59 = .ok (.iadd, 1) := by decide +kernel
theorem dX12_losesBy_60 : decode cX12_losesBy 60 = .ok (.istore 4, 2) := by decide +kernel
theorem dX12_losesBy_62 : decode cX12_losesBy 62 = .ok (.iinc 5 1, 3) := by decide +kernel
theorem dX12_losesBy_65 : decode cX12_losesBy 65 = .ok (.goto (-53), 3) := by decide +kernel
theorem dX12_losesBy_68 : decode cX12_losesBy 68 = .ok (.iload 4, 2) := by decide +kernel
theorem dX12_losesBy_70 : decode cX12_losesBy 70 = .ok (.aload_n 0, 1) := by decide +kernel
theorem dX12_losesBy_71 : decode cX12_losesBy 71 = .ok (.aload_n 0, 1) := by decide +kernel
theorem dX12_losesBy_72 : decode cX12_losesBy 72 = .ok (.bipush 7, 2) := by decide +kernel
theorem dX12_losesBy_74 : decode cX12_losesBy 74 = .ok (.iload_n 2, 1) := by decide +kernel
theorem dX12_losesBy_75 : decode cX12_losesBy 75 = .ok (.iconst (-1), 1) := by decide +kernel
theorem dX12_losesBy_76 : decode cX12_losesBy 76 = .ok (.ixor, 1) := by decide +kernel
theorem dX12_losesBy_77 : decode cX12_losesBy 77 = .ok (.iand, 1) := by decide +kernel
theorem dX12_losesBy_78 : decode cX12_losesBy 78 = .ok (.invokevirtual 226, 3) := by decide +kernel
theorem dX12_losesBy_81 : decode cX12_losesBy 81 = .ok (.iload_n 3, 1) := by decide +kernel
theorem dX12_losesBy_82 : decode cX12_losesBy 82 = .ok (.iand, 1) := by decide +kernel
theorem dX12_losesBy_83 : decode cX12_losesBy 83 = .ok (.invokevirtual 229, 3) := by decide +kernel
theorem dX12_losesBy_86 : decode cX12_losesBy 86 = .ok (.iadd, 1) := by decide +kernel
theorem dX12_losesBy_87 : decode cX12_losesBy 87 = .ok (.ireturn, 1) := by decide +kernel
theorem dX12_rests_0 : decode cX12_rests 0 = .ok (.iload_n 1, 1) := by decide +kernel
theorem dX12_rests_1 : decode cX12_rests 1 = .ok (.i2l, 1) := by decide +kernel
theorem dX12_rests_2 : decode cX12_rests 2 = .ok (.lconst 0, 1) := by decide +kernel
theorem dX12_rests_3 : decode cX12_rests 3 = .ok (.lconst 1, 1) := by decide +kernel
theorem dX12_rests_4 : decode cX12_rests 4 = .ok (.invokestatic 53, 3) := by decide +kernel
theorem dX12_rests_7 : decode cX12_rests 7 = .ok (.ifCond .ne 11, 3) := by decide +kernel
theorem dX12_rests_10 : decode cX12_rests 10 = .ok (.aload_n 0, 1) := by decide +kernel
theorem dX12_rests_11 : decode cX12_rests 11 = .ok (.iconst 0, 1) := by decide +kernel
theorem dX12_rests_12 : decode cX12_rests 12 = .ok (.bipush (-10), 2) := by decide +kernel
theorem dX12_rests_14 : decode cX12_rests 14 = .ok (.invokevirtual 49, 3) := by decide +kernel
theorem dX12_rests_17 : decode cX12_rests 17 = .ok (.ireturn, 1) := by decide +kernel
theorem dX12_rests_18 : decode cX12_rests 18 = .ok (.iconst 0, 1) := by decide +kernel
theorem dX12_rests_19 : decode cX12_rests 19 = .ok (.istore_n 2, 1) := by decide +kernel
theorem dX12_rests_20 : decode cX12_rests 20 = .ok (.iconst (-1), 1) := by decide +kernel
theorem dX12_rests_21 : decode cX12_rests 21 = .ok (.istore_n 3, 1) := by decide +kernel
theorem dX12_rests_22 : decode cX12_rests 22 = .ok (.iconst 0, 1) := by decide +kernel
theorem dX12_rests_23 : decode cX12_rests 23 = .ok (.istore 4, 2) := by decide +kernel
theorem dX12_rests_25 : decode cX12_rests 25 = .ok (.iload 4, 2) := by decide +kernel
theorem dX12_rests_27 : decode cX12_rests 27 = .ok (.bipush 8, 2) := by decide +kernel
theorem dX12_rests_29 : decode cX12_rests 29 = .ok (.if_icmp .ge 93, 3) := by decide +kernel
theorem dX12_rests_32 : decode cX12_rests 32 = .ok (.iconst 1, 1) := by decide +kernel
theorem dX12_rests_33 : decode cX12_rests 33 = .ok (.istore 5, 2) := by decide +kernel
theorem dX12_rests_35 : decode cX12_rests 35 = .ok (.iconst 0, 1) := by decide +kernel
theorem dX12_rests_36 : decode cX12_rests 36 = .ok (.istore 6, 2) := by decide +kernel
theorem dX12_rests_38 : decode cX12_rests 38 = .ok (.iload 6, 2) := by decide +kernel
theorem dX12_rests_40 : decode cX12_rests 40 = .ok (.iconst 3, 1) := by decide +kernel
theorem dX12_rests_41 : decode cX12_rests 41 = .ok (.if_icmp .ge 45, 3) := by decide +kernel
theorem dX12_rests_44 : decode cX12_rests 44 = .ok (.iload 5, 2) := by decide +kernel
theorem dX12_rests_46 : decode cX12_rests 46 = .ok (.ifCond .eq 31, 3) := by decide +kernel
theorem dX12_rests_49 : decode cX12_rests 49 = .ok (.aload_n 0, 1) := by decide +kernel
theorem dX12_rests_50 : decode cX12_rests 50 = .ok (.iload 6, 2) := by decide +kernel
theorem dX12_rests_52 : decode cX12_rests 52 = .ok (.iload 4, 2) := by decide +kernel
theorem dX12_rests_54 : decode cX12_rests 54 = .ok (.invokevirtual 267, 3) := by decide +kernel
theorem dX12_rests_57 : decode cX12_rests 57 = .ok (.aload_n 0, 1) := by decide +kernel
theorem dX12_rests_58 : decode cX12_rests 58 = .ok (.iload 6, 2) := by decide +kernel
theorem dX12_rests_60 : decode cX12_rests 60 = .ok (.iload 4, 2) := by decide +kernel
theorem dX12_rests_62 : decode cX12_rests 62 = .ok (.iconst 1, 1) := by decide +kernel
theorem dX12_rests_63 : decode cX12_rests 63 = .ok (.iload 6, 2) := by decide +kernel
theorem dX12_rests_65 : decode cX12_rests 65 = .ok (.ishl, 1) := by decide +kernel
theorem dX12_rests_66 : decode cX12_rests 66 = .ok (.ixor, 1) := by decide +kernel
theorem dX12_rests_67 : decode cX12_rests 67 = .ok (.invokevirtual 267, 3) := by decide +kernel
theorem dX12_rests_70 : decode cX12_rests 70 = .ok (.if_icmp .gt 7, 3) := by decide +kernel
theorem dX12_rests_73 : decode cX12_rests 73 = .ok (.iconst 1, 1) := by decide +kernel
theorem dX12_rests_74 : decode cX12_rests 74 = .ok (.goto 4, 3) := by decide +kernel
theorem dX12_rests_77 : decode cX12_rests 77 = .ok (.iconst 0, 1) := by decide +kernel
theorem dX12_rests_78 : decode cX12_rests 78 = .ok (.istore 5, 2) := by decide +kernel
theorem dX12_rests_80 : decode cX12_rests 80 = .ok (.iinc 6 1, 3) := by decide +kernel
theorem dX12_rests_83 : decode cX12_rests 83 = .ok (.goto (-45), 3) := by decide +kernel
theorem dX12_rests_86 : decode cX12_rests 86 = .ok (.iload_n 2, 1) := by decide +kernel
theorem dX12_rests_87 : decode cX12_rests 87 = .ok (.iload 5, 2) := by decide +kernel
theorem dX12_rests_89 : decode cX12_rests 89 = .ok (.ifCond .eq 7, 3) := by decide +kernel
theorem dX12_rests_92 : decode cX12_rests 92 = .ok (.iconst 1, 1) := by decide +kernel
theorem dX12_rests_93 : decode cX12_rests 93 = .ok (.goto 4, 3) := by decide +kernel
theorem dX12_rests_96 : decode cX12_rests 96 = .ok (.iconst 0, 1) := by decide +kernel
theorem dX12_rests_97 : decode cX12_rests 97 = .ok (.iadd, 1) := by decide +kernel
theorem dX12_rests_98 : decode cX12_rests 98 = .ok (.istore_n 2, 1) := by decide +kernel
theorem dX12_rests_99 : decode cX12_rests 99 = .ok (.iload 5, 2) := by decide +kernel
theorem dX12_rests_101 : decode cX12_rests 101 = .ok (.ifCond .eq 13, 3) := by decide +kernel
theorem dX12_rests_104 : decode cX12_rests 104 = .ok (.iload_n 3, 1) := by decide +kernel
theorem dX12_rests_105 : decode cX12_rests 105 = .ok (.iconst (-1), 1) := by decide +kernel
theorem dX12_rests_106 : decode cX12_rests 106 = .ok (.if_icmp .ne 8, 3) := by decide +kernel
theorem dX12_rests_109 : decode cX12_rests 109 = .ok (.iload 4, 2) := by decide +kernel
theorem dX12_rests_111 : decode cX12_rests 111 = .ok (.goto 4, 3) := by decide +kernel
theorem dX12_rests_114 : decode cX12_rests 114 = .ok (.iload_n 3, 1) := by decide +kernel
theorem dX12_rests_115 : decode cX12_rests 115 = .ok (.istore_n 3, 1) := by decide +kernel
theorem dX12_rests_116 : decode cX12_rests 116 = .ok (.iinc 4 1, 3) := by decide +kernel
theorem dX12_rests_119 : decode cX12_rests 119 = .ok (.goto (-94), 3) := by decide +kernel
theorem dX12_rests_122 : decode cX12_rests 122 = .ok (.iload_n 1, 1) := by decide +kernel
theorem dX12_rests_123 : decode cX12_rests 123 = .ok (.ifCond .ne 7, 3) := by decide +kernel
theorem dX12_rests_126 : decode cX12_rests 126 = .ok (.iload_n 2, 1) := by decide +kernel
theorem dX12_rests_127 : decode cX12_rests 127 = .ok (.goto 4, 3) := by decide +kernel
theorem dX12_rests_130 : decode cX12_rests 130 = .ok (.iload_n 3, 1) := by decide +kernel
theorem dX12_rests_131 : decode cX12_rests 131 = .ok (.ireturn, 1) := by decide +kernel
theorem dX12_tide_0 : decode cX12_tide 0 = .ok (.iload_n 1, 1) := by decide +kernel
theorem dX12_tide_1 : decode cX12_tide 1 = .ok (.i2l, 1) := by decide +kernel
theorem dX12_tide_2 : decode cX12_tide 2 = .ok (.lconst 0, 1) := by decide +kernel
theorem dX12_tide_3 : decode cX12_tide 3 = .ok (.ldc2_w 79, 3) := by decide +kernel
theorem dX12_tide_6 : decode cX12_tide 6 = .ok (.invokestatic 53, 3) := by decide +kernel
theorem dX12_tide_9 : decode cX12_tide 9 = .ok (.ifCond .eq 11, 3) := by decide +kernel
theorem dX12_tide_12 : decode cX12_tide 12 = .ok (.aload_n 0, 1) := by decide +kernel
theorem dX12_tide_13 : decode cX12_tide 13 = .ok (.iload_n 2, 1) := by decide +kernel
theorem dX12_tide_14 : decode cX12_tide 14 = .ok (.invokevirtual 63, 3) := by decide +kernel
theorem dX12_tide_17 : decode cX12_tide 17 = .ok (.ifCond .ne 8, 3) := by decide +kernel
theorem dX12_tide_20 : decode cX12_tide 20 = .ok (.aload_n 0, 1) := by decide +kernel
theorem dX12_tide_21 : decode cX12_tide 21 = .ok (.invokevirtual 59, 3) := by decide +kernel
theorem dX12_tide_24 : decode cX12_tide 24 = .ok (.ireturn, 1) := by decide +kernel
theorem dX12_tide_25 : decode cX12_tide 25 = .ok (.aload_n 0, 1) := by decide +kernel
theorem dX12_tide_26 : decode cX12_tide 26 = .ok (.getfield 7, 3) := by decide +kernel
theorem dX12_tide_29 : decode cX12_tide 29 = .ok (.iconst 5, 1) := by decide +kernel
theorem dX12_tide_30 : decode cX12_tide 30 = .ok (.iaload, 1) := by decide +kernel
theorem dX12_tide_31 : decode cX12_tide 31 = .ok (.bipush 6, 2) := by decide +kernel
theorem dX12_tide_33 : decode cX12_tide 33 = .ok (.if_icmp .ne 8, 3) := by decide +kernel
theorem dX12_tide_36 : decode cX12_tide 36 = .ok (.aload_n 0, 1) := by decide +kernel
theorem dX12_tide_37 : decode cX12_tide 37 = .ok (.invokevirtual 89, 3) := by decide +kernel
theorem dX12_tide_40 : decode cX12_tide 40 = .ok (.ireturn, 1) := by decide +kernel
theorem dX12_tide_41 : decode cX12_tide 41 = .ok (.bipush 97, 2) := by decide +kernel
theorem dX12_tide_43 : decode cX12_tide 43 = .ok (.iconst 3, 1) := by decide +kernel
theorem dX12_tide_44 : decode cX12_tide 44 = .ok (.aload_n 0, 1) := by decide +kernel
theorem dX12_tide_45 : decode cX12_tide 45 = .ok (.getfield 7, 3) := by decide +kernel
theorem dX12_tide_48 : decode cX12_tide 48 = .ok (.iconst 5, 1) := by decide +kernel
theorem dX12_tide_49 : decode cX12_tide 49 = .ok (.iaload, 1) := by decide +kernel
theorem dX12_tide_50 : decode cX12_tide 50 = .ok (.imul, 1) := by decide +kernel
theorem dX12_tide_51 : decode cX12_tide 51 = .ok (.iadd, 1) := by decide +kernel
theorem dX12_tide_52 : decode cX12_tide 52 = .ok (.istore 4, 2) := by decide +kernel
theorem dX12_tide_54 : decode cX12_tide 54 = .ok (.aload_n 0, 1) := by decide +kernel
theorem dX12_tide_55 : decode cX12_tide 55 = .ok (.getfield 7, 3) := by decide +kernel
theorem dX12_tide_58 : decode cX12_tide 58 = .ok (.iload 4, 2) := by decide +kernel
theorem dX12_tide_60 : decode cX12_tide 60 = .ok (.iload_n 1, 1) := by decide +kernel
theorem dX12_tide_61 : decode cX12_tide 61 = .ok (.iastore, 1) := by decide +kernel
theorem dX12_tide_62 : decode cX12_tide 62 = .ok (.aload_n 0, 1) := by decide +kernel
theorem dX12_tide_63 : decode cX12_tide 63 = .ok (.getfield 7, 3) := by decide +kernel
theorem dX12_tide_66 : decode cX12_tide 66 = .ok (.iload 4, 2) := by decide +kernel
theorem dX12_tide_68 : decode cX12_tide 68 = .ok (.iconst 1, 1) := by decide +kernel
theorem dX12_tide_69 : decode cX12_tide 69 = .ok (.iadd, 1) := by decide +kernel
theorem dX12_tide_70 : decode cX12_tide 70 = .ok (.iload_n 2, 1) := by decide +kernel
theorem dX12_tide_71 : decode cX12_tide 71 = .ok (.iastore, 1) := by decide +kernel
theorem dX12_tide_72 : decode cX12_tide 72 = .ok (.aload_n 0, 1) := by decide +kernel
theorem dX12_tide_73 : decode cX12_tide 73 = .ok (.getfield 7, 3) := by decide +kernel
theorem dX12_tide_76 : decode cX12_tide 76 = .ok (.iload 4, 2) := by decide +kernel
theorem dX12_tide_78 : decode cX12_tide 78 = .ok (.iconst 2, 1) := by decide +kernel
theorem dX12_tide_79 : decode cX12_tide 79 = .ok (.iadd, 1) := by decide +kernel
theorem dX12_tide_80 : decode cX12_tide 80 = .ok (.iload_n 3, 1) := by decide +kernel
theorem dX12_tide_81 : decode cX12_tide 81 = .ok (.ifCond .eq 7, 3) := by decide +kernel
theorem dX12_tide_84 : decode cX12_tide 84 = .ok (.iconst 1, 1) := by decide +kernel
theorem dX12_tide_85 : decode cX12_tide 85 = .ok (.goto 4, 3) := by decide +kernel
theorem dX12_tide_88 : decode cX12_tide 88 = .ok (.iconst 0, 1) := by decide +kernel
theorem dX12_tide_89 : decode cX12_tide 89 = .ok (.iastore, 1) := by decide +kernel
theorem dX12_tide_90 : decode cX12_tide 90 = .ok (.aload_n 0, 1) := by decide +kernel
theorem dX12_tide_91 : decode cX12_tide 91 = .ok (.getfield 7, 3) := by decide +kernel
theorem dX12_tide_94 : decode cX12_tide 94 = .ok (.iconst 5, 1) := by decide +kernel
theorem dX12_tide_95 : decode cX12_tide 95 = .ok (.dup2, 1) := by decide +kernel
theorem dX12_tide_96 : decode cX12_tide 96 = .ok (.iaload, 1) := by decide +kernel
theorem dX12_tide_97 : decode cX12_tide 97 = .ok (.iconst 1, 1) := by decide +kernel
theorem dX12_tide_98 : decode cX12_tide 98 = .ok (.iadd, 1) := by decide +kernel
theorem dX12_tide_99 : decode cX12_tide 99 = .ok (.iastore, 1) := by decide +kernel
theorem dX12_tide_100 : decode cX12_tide 100 = .ok (.aload_n 0, 1) := by decide +kernel
theorem dX12_tide_101 : decode cX12_tide 101 = .ok (.getfield 7, 3) := by decide +kernel
theorem dX12_tide_104 : decode cX12_tide 104 = .ok (.bipush 6, 2) := by decide +kernel
theorem dX12_tide_106 : decode cX12_tide 106 = .ok (.iconst 0, 1) := by decide +kernel
theorem dX12_tide_107 : decode cX12_tide 107 = .ok (.iastore, 1) := by decide +kernel
theorem dX12_tide_108 : decode cX12_tide 108 = .ok (.aload_n 0, 1) := by decide +kernel
theorem dX12_tide_109 : decode cX12_tide 109 = .ok (.getfield 7, 3) := by decide +kernel
theorem dX12_tide_112 : decode cX12_tide 112 = .ok (.iconst 5, 1) := by decide +kernel
theorem dX12_tide_113 : decode cX12_tide 113 = .ok (.iaload, 1) := by decide +kernel
theorem dX12_tide_114 : decode cX12_tide 114 = .ok (.ireturn, 1) := by decide +kernel
theorem dX12_isWetBy_0 : decode cX12_isWetBy 0 = .ok (.aload_n 0, 1) := by decide +kernel
theorem dX12_isWetBy_1 : decode cX12_isWetBy 1 = .ok (.iload_n 2, 1) := by decide +kernel
theorem dX12_isWetBy_2 : decode cX12_isWetBy 2 = .ok (.iconst 0, 1) := by decide +kernel
theorem dX12_isWetBy_3 : decode cX12_isWetBy 3 = .ok (.iconst 0, 1) := by decide +kernel
theorem dX12_isWetBy_4 : decode cX12_isWetBy 4 = .ok (.invokevirtual 202, 3) := by decide +kernel
theorem dX12_isWetBy_7 : decode cX12_isWetBy 7 = .ok (.iload_n 1, 1) := by decide +kernel
theorem dX12_isWetBy_8 : decode cX12_isWetBy 8 = .ok (.ishr, 1) := by decide +kernel
theorem dX12_isWetBy_9 : decode cX12_isWetBy 9 = .ok (.iconst 1, 1) := by decide +kernel
theorem dX12_isWetBy_10 : decode cX12_isWetBy 10 = .ok (.iand, 1) := by decide +kernel
theorem dX12_isWetBy_11 : decode cX12_isWetBy 11 = .ok (.iconst 1, 1) := by decide +kernel
theorem dX12_isWetBy_12 : decode cX12_isWetBy 12 = .ok (.if_icmp .ne 7, 3) := by decide +kernel
theorem dX12_isWetBy_15 : decode cX12_isWetBy 15 = .ok (.iconst 1, 1) := by decide +kernel
theorem dX12_isWetBy_16 : decode cX12_isWetBy 16 = .ok (.goto 4, 3) := by decide +kernel
theorem dX12_isWetBy_19 : decode cX12_isWetBy 19 = .ok (.iconst 0, 1) := by decide +kernel
theorem dX12_isWetBy_20 : decode cX12_isWetBy 20 = .ok (.ireturn, 1) := by decide +kernel
theorem dX12_wantsBy_0 : decode cX12_wantsBy 0 = .ok (.iconst 0, 1) := by decide +kernel
theorem dX12_wantsBy_1 : decode cX12_wantsBy 1 = .ok (.istore_n 2, 1) := by decide +kernel
theorem dX12_wantsBy_2 : decode cX12_wantsBy 2 = .ok (.iconst 0, 1) := by decide +kernel
theorem dX12_wantsBy_3 : decode cX12_wantsBy 3 = .ok (.istore_n 3, 1) := by decide +kernel
theorem dX12_wantsBy_4 : decode cX12_wantsBy 4 = .ok (.iload_n 3, 1) := by decide +kernel
theorem dX12_wantsBy_5 : decode cX12_wantsBy 5 = .ok (.bipush 16, 2) := by decide +kernel
theorem dX12_wantsBy_7 : decode cX12_wantsBy 7 = .ok (.if_icmp .ge 114, 3) := by decide +kernel
theorem dX12_wantsBy_10 : decode cX12_wantsBy 10 = .ok (.iconst 1, 1) := by decide +kernel
theorem dX12_wantsBy_11 : decode cX12_wantsBy 11 = .ok (.istore 4, 2) := by decide +kernel
theorem dX12_wantsBy_13 : decode cX12_wantsBy 13 = .ok (.iconst 0, 1) := by decide +kernel
theorem dX12_wantsBy_14 : decode cX12_wantsBy 14 = .ok (.istore 5, 2) := by decide +kernel
theorem dX12_wantsBy_16 : decode cX12_wantsBy 16 = .ok (.iload 5, 2) := by decide +kernel
theorem dX12_wantsBy_18 : decode cX12_wantsBy 18 = .ok (.aload_n 0, 1) := by decide +kernel
theorem dX12_wantsBy_19 : decode cX12_wantsBy 19 = .ok (.getfield 7, 3) := by decide +kernel
theorem dX12_wantsBy_22 : decode cX12_wantsBy 22 = .ok (.iconst 5, 1) := by decide +kernel
theorem dX12_wantsBy_23 : decode cX12_wantsBy 23 = .ok (.iaload, 1) := by decide +kernel
theorem dX12_wantsBy_24 : decode cX12_wantsBy 24 = .ok (.if_icmp .ge 76, 3) := by decide +kernel
theorem dX12_wantsBy_27 : decode cX12_wantsBy 27 = .ok (.bipush 97, 2) := by decide +kernel
theorem dX12_wantsBy_29 : decode cX12_wantsBy 29 = .ok (.iconst 3, 1) := by decide +kernel
theorem dX12_wantsBy_30 : decode cX12_wantsBy 30 = .ok (.iload 5, 2) := by decide +kernel
theorem dX12_wantsBy_32 : decode cX12_wantsBy 32 = .ok (.imul, 1) := by decide +kernel
theorem dX12_wantsBy_33 : decode cX12_wantsBy 33 = .ok (.iadd, 1) := by decide +kernel
theorem dX12_wantsBy_34 : decode cX12_wantsBy 34 = .ok (.istore 6, 2) := by decide +kernel
theorem dX12_wantsBy_36 : decode cX12_wantsBy 36 = .ok (.iload 4, 2) := by decide +kernel
theorem dX12_wantsBy_38 : decode cX12_wantsBy 38 = .ok (.ifCond .eq 53, 3) := by decide +kernel
theorem dX12_wantsBy_41 : decode cX12_wantsBy 41 = .ok (.aload_n 0, 1) := by decide +kernel
theorem dX12_wantsBy_42 : decode cX12_wantsBy 42 = .ok (.getfield 7, 3) := by decide +kernel
theorem dX12_wantsBy_45 : decode cX12_wantsBy 45 = .ok (.iload 6, 2) := by decide +kernel
theorem dX12_wantsBy_47 : decode cX12_wantsBy 47 = .ok (.iaload, 1) := by decide +kernel
theorem dX12_wantsBy_48 : decode cX12_wantsBy 48 = .ok (.iload_n 1, 1) := by decide +kernel
theorem dX12_wantsBy_49 : decode cX12_wantsBy 49 = .ok (.if_icmp .ne 38, 3) := by decide +kernel
theorem dX12_wantsBy_52 : decode cX12_wantsBy 52 = .ok (.aload_n 0, 1) := by decide +kernel
theorem dX12_wantsBy_53 : decode cX12_wantsBy 53 = .ok (.aload_n 0, 1) := by decide +kernel
theorem dX12_wantsBy_54 : decode cX12_wantsBy 54 = .ok (.getfield 7, 3) := by decide +kernel
theorem dX12_wantsBy_57 : decode cX12_wantsBy 57 = .ok (.iload 6, 2) := by decide +kernel
theorem dX12_wantsBy_59 : decode cX12_wantsBy 59 = .ok (.iconst 1, 1) := by decide +kernel
theorem dX12_wantsBy_60 : decode cX12_wantsBy 60 = .ok (.iadd, 1) := by decide +kernel
theorem dX12_wantsBy_61 : decode cX12_wantsBy 61 = .ok (.iaload, 1) := by decide +kernel
theorem dX12_wantsBy_62 : decode cX12_wantsBy 62 = .ok (.iload_n 3, 1) := by decide +kernel
theorem dX12_wantsBy_63 : decode cX12_wantsBy 63 = .ok (.invokevirtual 270, 3) := by decide +kernel
theorem dX12_wantsBy_66 : decode cX12_wantsBy 66 = .ok (.aload_n 0, 1) := by decide +kernel
theorem dX12_wantsBy_67 : decode cX12_wantsBy 67 = .ok (.getfield 7, 3) := by decide +kernel
theorem dX12_wantsBy_70 : decode cX12_wantsBy 70 = .ok (.iload 6, 2) := by decide +kernel
theorem dX12_wantsBy_72 : decode cX12_wantsBy 72 = .ok (.iconst 2, 1) := by decide +kernel
theorem dX12_wantsBy_73 : decode cX12_wantsBy 73 = .ok (.iadd, 1) := by decide +kernel
theorem dX12_wantsBy_74 : decode cX12_wantsBy 74 = .ok (.iaload, 1) := by decide +kernel
theorem dX12_wantsBy_75 : decode cX12_wantsBy 75 = .ok (.iconst 1, 1) := by decide +kernel
theorem dX12_wantsBy_76 : decode cX12_wantsBy 76 = .ok (.if_icmp .ne 7, 3) := by decide +kernel
theorem dX12_wantsBy_79 : decode cX12_wantsBy 79 = .ok (.iconst 1, 1) := by decide +kernel
theorem dX12_wantsBy_80 : decode cX12_wantsBy 80 = .ok (.goto 4, 3) := by decide +kernel
theorem dX12_wantsBy_83 : decode cX12_wantsBy 83 = .ok (.iconst 0, 1) := by decide +kernel
theorem dX12_wantsBy_84 : decode cX12_wantsBy 84 = .ok (.if_icmp .ne 7, 3) := by decide +kernel
theorem dX12_wantsBy_87 : decode cX12_wantsBy 87 = .ok (.iconst 1, 1) := by decide +kernel
theorem dX12_wantsBy_88 : decode cX12_wantsBy 88 = .ok (.goto 4, 3) := by decide +kernel
theorem dX12_wantsBy_91 : decode cX12_wantsBy 91 = .ok (.iconst 0, 1) := by decide +kernel
theorem dX12_wantsBy_92 : decode cX12_wantsBy 92 = .ok (.istore 4, 2) := by decide +kernel
theorem dX12_wantsBy_94 : decode cX12_wantsBy 94 = .ok (.iinc 5 1, 3) := by decide +kernel
theorem dX12_wantsBy_97 : decode cX12_wantsBy 97 = .ok (.goto (-81), 3) := by decide +kernel
theorem dX12_wantsBy_100 : decode cX12_wantsBy 100 = .ok (.iload_n 2, 1) := by decide +kernel
theorem dX12_wantsBy_101 : decode cX12_wantsBy 101 = .ok (.iload 4, 2) := by decide +kernel
theorem dX12_wantsBy_103 : decode cX12_wantsBy 103 = .ok (.ifCond .eq 9, 3) := by decide +kernel
theorem dX12_wantsBy_106 : decode cX12_wantsBy 106 = .ok (.iconst 1, 1) := by decide +kernel
theorem dX12_wantsBy_107 : decode cX12_wantsBy 107 = .ok (.iload_n 3, 1) := by decide +kernel
theorem dX12_wantsBy_108 : decode cX12_wantsBy 108 = .ok (.ishl, 1) := by decide +kernel
theorem dX12_wantsBy_109 : decode cX12_wantsBy 109 = .ok (.goto 4, 3) := by decide +kernel
theorem dX12_wantsBy_112 : decode cX12_wantsBy 112 = .ok (.iconst 0, 1) := by decide +kernel
theorem dX12_wantsBy_113 : decode cX12_wantsBy 113 = .ok (.ior, 1) := by decide +kernel
theorem dX12_wantsBy_114 : decode cX12_wantsBy 114 = .ok (.istore_n 2, 1) := by decide +kernel
theorem dX12_wantsBy_115 : decode cX12_wantsBy 115 = .ok (.iinc 3 1, 3) := by decide +kernel
theorem dX12_wantsBy_118 : decode cX12_wantsBy 118 = .ok (.goto (-114), 3) := by decide +kernel
theorem dX12_wantsBy_121 : decode cX12_wantsBy 121 = .ok (.iload_n 2, 1) := by decide +kernel
theorem dX12_wantsBy_122 : decode cX12_wantsBy 122 = .ok (.ireturn, 1) := by decide +kernel
theorem dX12_many_0 : decode cX12_many 0 = .ok (.iload_n 0, 1) := by decide +kernel
theorem dX12_many_1 : decode cX12_many 1 = .ok (.sipush 255, 3) := by decide +kernel
theorem dX12_many_4 : decode cX12_many 4 = .ok (.iand, 1) := by decide +kernel
theorem dX12_many_5 : decode cX12_many 5 = .ok (.invokestatic 246, 3) := by decide +kernel
theorem dX12_many_8 : decode cX12_many 8 = .ok (.iload_n 0, 1) := by decide +kernel
theorem dX12_many_9 : decode cX12_many 9 = .ok (.bipush 8, 2) := by decide +kernel
theorem dX12_many_11 : decode cX12_many 11 = .ok (.ishr, 1) := by decide +kernel
theorem dX12_many_12 : decode cX12_many 12 = .ok (.invokestatic 246, 3) := by decide +kernel
theorem dX12_many_15 : decode cX12_many 15 = .ok (.iadd, 1) := by decide +kernel
theorem dX12_many_16 : decode cX12_many 16 = .ok (.ireturn, 1) := by decide +kernel
theorem dX12_learnt_0 : decode cX12_learnt 0 = .ok (.iload_n 1, 1) := by decide +kernel
theorem dX12_learnt_1 : decode cX12_learnt 1 = .ok (.i2l, 1) := by decide +kernel
theorem dX12_learnt_2 : decode cX12_learnt 2 = .ok (.lconst 0, 1) := by decide +kernel
theorem dX12_learnt_3 : decode cX12_learnt 3 = .ok (.ldc2_w 79, 3) := by decide +kernel
theorem dX12_learnt_6 : decode cX12_learnt 6 = .ok (.invokestatic 53, 3) := by decide +kernel
theorem dX12_learnt_9 : decode cX12_learnt 9 = .ok (.ifCond .eq 13, 3) := by decide +kernel
theorem dX12_learnt_12 : decode cX12_learnt 12 = .ok (.iload_n 2, 1) := by decide +kernel
theorem dX12_learnt_13 : decode cX12_learnt 13 = .ok (.i2l, 1) := by decide +kernel
theorem dX12_learnt_14 : decode cX12_learnt 14 = .ok (.lconst 0, 1) := by decide +kernel
theorem dX12_learnt_15 : decode cX12_learnt 15 = .ok (.lconst 1, 1) := by decide +kernel
theorem dX12_learnt_16 : decode cX12_learnt 16 = .ok (.invokestatic 53, 3) := by decide +kernel
theorem dX12_learnt_19 : decode cX12_learnt 19 = .ok (.ifCond .ne 11, 3) := by decide +kernel
theorem dX12_learnt_22 : decode cX12_learnt 22 = .ok (.aload_n 0, 1) := by decide +kernel
theorem dX12_learnt_23 : decode cX12_learnt 23 = .ok (.iconst 0, 1) := by decide +kernel
theorem dX12_learnt_24 : decode cX12_learnt 24 = .ok (.bipush (-10), 2) := by decide +kernel
theorem dX12_learnt_26 : decode cX12_learnt 26 = .ok (.invokevirtual 49, 3) := by decide +kernel
theorem dX12_learnt_29 : decode cX12_learnt 29 = .ok (.ireturn, 1) := by decide +kernel
theorem dX12_learnt_30 : decode cX12_learnt 30 = .ok (.aload_n 0, 1) := by decide +kernel
theorem dX12_learnt_31 : decode cX12_learnt 31 = .ok (.iload_n 1, 1) := by decide +kernel
theorem dX12_learnt_32 : decode cX12_learnt 32 = .ok (.invokevirtual 273, 3) := by decide +kernel
theorem dX12_learnt_35 : decode cX12_learnt 35 = .ok (.istore_n 3, 1) := by decide +kernel
theorem dX12_learnt_36 : decode cX12_learnt 36 = .ok (.iload_n 2, 1) := by decide +kernel
theorem dX12_learnt_37 : decode cX12_learnt 37 = .ok (.ifCond .ne 8, 3) := by decide +kernel
theorem dX12_learnt_40 : decode cX12_learnt 40 = .ok (.iload_n 3, 1) := by decide +kernel
theorem dX12_learnt_41 : decode cX12_learnt 41 = .ok (.invokestatic 276, 3) := by decide +kernel
theorem dX12_learnt_44 : decode cX12_learnt 44 = .ok (.ireturn, 1) := by decide +kernel
theorem dX12_learnt_45 : decode cX12_learnt 45 = .ok (.iconst (-1), 1) := by decide +kernel
theorem dX12_learnt_46 : decode cX12_learnt 46 = .ok (.istore 4, 2) := by decide +kernel
theorem dX12_learnt_48 : decode cX12_learnt 48 = .ok (.bipush 100, 2) := by decide +kernel
theorem dX12_learnt_50 : decode cX12_learnt 50 = .ok (.istore 5, 2) := by decide +kernel
theorem dX12_learnt_52 : decode cX12_learnt 52 = .ok (.iconst 0, 1) := by decide +kernel
theorem dX12_learnt_53 : decode cX12_learnt 53 = .ok (.istore 6, 2) := by decide +kernel
theorem dX12_learnt_55 : decode cX12_learnt 55 = .ok (.iload 6, 2) := by decide +kernel
theorem dX12_learnt_57 : decode cX12_learnt 57 = .ok (.aload_n 0, 1) := by decide +kernel
theorem dX12_learnt_58 : decode cX12_learnt 58 = .ok (.getfield 7, 3) := by decide +kernel
theorem dX12_learnt_61 : decode cX12_learnt 61 = .ok (.iconst 0, 1) := by decide +kernel
theorem dX12_learnt_62 : decode cX12_learnt 62 = .ok (.iaload, 1) := by decide +kernel
theorem dX12_learnt_63 : decode cX12_learnt 63 = .ok (.if_icmp .ge 124, 3) := by decide +kernel
theorem dX12_learnt_66 : decode cX12_learnt 66 = .ok (.iload_n 3, 1) := by decide +kernel
theorem dX12_learnt_67 : decode cX12_learnt 67 = .ok (.ifCond .eq 120, 3) := by decide +kernel
theorem dX12_learnt_70 : decode cX12_learnt 70 = .ok (.iconst 0, 1) := by decide +kernel
theorem dX12_learnt_71 : decode cX12_learnt 71 = .ok (.istore 7, 2) := by decide +kernel
theorem dX12_learnt_73 : decode cX12_learnt 73 = .ok (.iconst 0, 1) := by decide +kernel
theorem dX12_learnt_74 : decode cX12_learnt 74 = .ok (.istore 8, 2) := by decide +kernel
theorem dX12_learnt_76 : decode cX12_learnt 76 = .ok (.iload 8, 2) := by decide +kernel
theorem dX12_learnt_78 : decode cX12_learnt 78 = .ok (.bipush 16, 2) := by decide +kernel
theorem dX12_learnt_80 : decode cX12_learnt 80 = .ok (.if_icmp .ge 43, 3) := by decide +kernel
theorem dX12_learnt_83 : decode cX12_learnt 83 = .ok (.iload 7, 2) := by decide +kernel
theorem dX12_learnt_85 : decode cX12_learnt 85 = .ok (.iload_n 3, 1) := by decide +kernel
theorem dX12_learnt_86 : decode cX12_learnt 86 = .ok (.iload 8, 2) := by decide +kernel
theorem dX12_learnt_88 : decode cX12_learnt 88 = .ok (.ishr, 1) := by decide +kernel
theorem dX12_learnt_89 : decode cX12_learnt 89 = .ok (.iconst 1, 1) := by decide +kernel
theorem dX12_learnt_90 : decode cX12_learnt 90 = .ok (.iand, 1) := by decide +kernel
theorem dX12_learnt_91 : decode cX12_learnt 91 = .ok (.iconst 1, 1) := by decide +kernel
theorem dX12_learnt_92 : decode cX12_learnt 92 = .ok (.if_icmp .ne 21, 3) := by decide +kernel
theorem dX12_learnt_95 : decode cX12_learnt 95 = .ok (.aload_n 0, 1) := by decide +kernel
theorem dX12_learnt_96 : decode cX12_learnt 96 = .ok (.iload 6, 2) := by decide +kernel
theorem dX12_learnt_98 : decode cX12_learnt 98 = .ok (.iload 8, 2) := by decide +kernel
theorem dX12_learnt_100 : decode cX12_learnt 100 = .ok (.invokevirtual 270, 3) := by decide +kernel
theorem dX12_learnt_103 : decode cX12_learnt 103 = .ok (.ifCond .eq 10, 3) := by decide +kernel
theorem dX12_learnt_106 : decode cX12_learnt 106 = .ok (.iconst 1, 1) := by decide +kernel
theorem dX12_learnt_107 : decode cX12_learnt 107 = .ok (.iload 8, 2) := by decide +kernel
theorem dX12_learnt_109 : decode cX12_learnt 109 = .ok (.ishl, 1) := by decide +kernel
theorem dX12_learnt_110 : decode cX12_learnt 110 = .ok (.goto 4, 3) := by decide +kernel
theorem dX12_learnt_113 : decode cX12_learnt 113 = .ok (.iconst 0, 1) := by decide +kernel
theorem dX12_learnt_114 : decode cX12_learnt 114 = .ok (.ior, 1) := by decide +kernel
theorem dX12_learnt_115 : decode cX12_learnt 115 = .ok (.istore 7, 2) := by decide +kernel
theorem dX12_learnt_117 : decode cX12_learnt 117 = .ok (.iinc 8 1, 3) := by decide +kernel
theorem dX12_learnt_120 : decode cX12_learnt 120 = .ok (.goto (-44), 3) := by decide +kernel
theorem dX12_learnt_123 : decode cX12_learnt 123 = .ok (.iload_n 3, 1) := by decide +kernel
theorem dX12_learnt_124 : decode cX12_learnt 124 = .ok (.iload 7, 2) := by decide +kernel
theorem dX12_learnt_126 : decode cX12_learnt 126 = .ok (.iconst (-1), 1) := by decide +kernel
theorem dX12_learnt_127 : decode cX12_learnt 127 = .ok (.ixor, 1) := by decide +kernel
theorem dX12_learnt_128 : decode cX12_learnt 128 = .ok (.iand, 1) := by decide +kernel
theorem dX12_learnt_129 : decode cX12_learnt 129 = .ok (.invokestatic 276, 3) := by decide +kernel
theorem dX12_learnt_132 : decode cX12_learnt 132 = .ok (.istore 8, 2) := by decide +kernel
theorem dX12_learnt_134 : decode cX12_learnt 134 = .ok (.iload 7, 2) := by decide +kernel
theorem dX12_learnt_136 : decode cX12_learnt 136 = .ok (.invokestatic 276, 3) := by decide +kernel
theorem dX12_learnt_139 : decode cX12_learnt 139 = .ok (.iload 8, 2) := by decide +kernel
theorem dX12_learnt_141 : decode cX12_learnt 141 = .ok (.if_icmp .le 11, 3) := by decide +kernel
theorem dX12_learnt_144 : decode cX12_learnt 144 = .ok (.iload 7, 2) := by decide +kernel
theorem dX12_learnt_146 : decode cX12_learnt 146 = .ok (.invokestatic 276, 3) := by decide +kernel
theorem dX12_learnt_149 : decode cX12_learnt 149 = .ok (.goto 5, 3) := by decide +kernel
theorem dX12_learnt_152 : decode cX12_learnt 152 = .ok (.iload 8, 2) := by decide +kernel
theorem dX12_learnt_154 : decode cX12_learnt 154 = .ok (.istore 9, 2) := by decide +kernel
theorem dX12_learnt_156 : decode cX12_learnt 156 = .ok (.iload 9, 2) := by decide +kernel
theorem dX12_learnt_158 : decode cX12_learnt 158 = .ok (.iload 5, 2) := by decide +kernel
theorem dX12_learnt_160 : decode cX12_learnt 160 = .ok (.if_icmp .ge 8, 3) := by decide +kernel
theorem dX12_learnt_163 : decode cX12_learnt 163 = .ok (.iload 6, 2) := by decide +kernel
theorem dX12_learnt_165 : decode cX12_learnt 165 = .ok (.goto 5, 3) := by decide +kernel
theorem dX12_learnt_168 : decode cX12_learnt 168 = .ok (.iload 4, 2) := by decide +kernel
theorem dX12_learnt_170 : decode cX12_learnt 170 = .ok (.istore 4, 2) := by decide +kernel
theorem dX12_learnt_172 : decode cX12_learnt 172 = .ok (.iload 9, 2) := by decide +kernel
theorem dX12_learnt_174 : decode cX12_learnt 174 = .ok (.iload 5, 2) := by decide +kernel
theorem dX12_learnt_176 : decode cX12_learnt 176 = .ok (.invokestatic 209, 3) := by decide +kernel
theorem dX12_learnt_179 : decode cX12_learnt 179 = .ok (.istore 5, 2) := by decide +kernel
theorem dX12_learnt_181 : decode cX12_learnt 181 = .ok (.iinc 6 1, 3) := by decide +kernel
theorem dX12_learnt_184 : decode cX12_learnt 184 = .ok (.goto (-129), 3) := by decide +kernel
theorem dX12_learnt_187 : decode cX12_learnt 187 = .ok (.iload 4, 2) := by decide +kernel
theorem dX12_learnt_189 : decode cX12_learnt 189 = .ok (.ireturn, 1) := by decide +kernel
theorem dX12_shells_0 : decode cX12_shells 0 = .ok (.aload_n 0, 1) := by decide +kernel
theorem dX12_shells_1 : decode cX12_shells 1 = .ok (.iload_n 1, 1) := by decide +kernel
theorem dX12_shells_2 : decode cX12_shells 2 = .ok (.invokevirtual 254, 3) := by decide +kernel
theorem dX12_shells_5 : decode cX12_shells 5 = .ok (.ifCond .eq 13, 3) := by decide +kernel
theorem dX12_shells_8 : decode cX12_shells 8 = .ok (.iload_n 2, 1) := by decide +kernel
theorem dX12_shells_9 : decode cX12_shells 9 = .ok (.i2l, 1) := by decide +kernel
theorem dX12_shells_10 : decode cX12_shells 10 = .ok (.lconst 0, 1) := by decide +kernel
theorem dX12_shells_11 : decode cX12_shells 11 = .ok (.lconst 1, 1) := by decide +kernel
theorem dX12_shells_12 : decode cX12_shells 12 = .ok (.invokestatic 53, 3) := by decide +kernel
theorem dX12_shells_15 : decode cX12_shells 15 = .ok (.ifCond .ne 11, 3) := by decide +kernel
theorem dX12_shells_18 : decode cX12_shells 18 = .ok (.aload_n 0, 1) := by decide +kernel
theorem dX12_shells_19 : decode cX12_shells 19 = .ok (.iconst 0, 1) := by decide +kernel
theorem dX12_shells_20 : decode cX12_shells 20 = .ok (.bipush (-10), 2) := by decide +kernel
theorem dX12_shells_22 : decode cX12_shells 22 = .ok (.invokevirtual 49, 3) := by decide +kernel
theorem dX12_shells_25 : decode cX12_shells 25 = .ok (.ireturn, 1) := by decide +kernel
theorem dX12_shells_26 : decode cX12_shells 26 = .ok (.iconst 0, 1) := by decide +kernel
theorem dX12_shells_27 : decode cX12_shells 27 = .ok (.istore_n 3, 1) := by decide +kernel
theorem dX12_shells_28 : decode cX12_shells 28 = .ok (.iconst (-1), 1) := by decide +kernel
theorem dX12_shells_29 : decode cX12_shells 29 = .ok (.istore 4, 2) := by decide +kernel
theorem dX12_shells_31 : decode cX12_shells 31 = .ok (.iconst 0, 1) := by decide +kernel
theorem dX12_shells_32 : decode cX12_shells 32 = .ok (.istore 5, 2) := by decide +kernel
theorem dX12_shells_34 : decode cX12_shells 34 = .ok (.iload 5, 2) := by decide +kernel
theorem dX12_shells_36 : decode cX12_shells 36 = .ok (.aload_n 0, 1) := by decide +kernel
theorem dX12_shells_37 : decode cX12_shells 37 = .ok (.getfield 7, 3) := by decide +kernel
theorem dX12_shells_40 : decode cX12_shells 40 = .ok (.iconst 0, 1) := by decide +kernel
theorem dX12_shells_41 : decode cX12_shells 41 = .ok (.iaload, 1) := by decide +kernel
theorem dX12_shells_42 : decode cX12_shells 42 = .ok (.if_icmp .gt 85, 3) := by decide +kernel
theorem dX12_shells_45 : decode cX12_shells 45 = .ok (.iload 5, 2) := by decide +kernel
theorem dX12_shells_47 : decode cX12_shells 47 = .ok (.iconst 2, 1) := by decide +kernel
theorem dX12_shells_48 : decode cX12_shells 48 = .ok (.if_icmp .lt 14, 3) := by decide +kernel
theorem dX12_shells_51 : decode cX12_shells 51 = .ok (.iload_n 1, 1) := by decide +kernel
theorem dX12_shells_52 : decode cX12_shells 52 = .ok (.iload 5, 2) := by decide +kernel
theorem dX12_shells_54 : decode cX12_shells 54 = .ok (.iconst 2, 1) := by decide +kernel
theorem dX12_shells_55 : decode cX12_shells 55 = .ok (.isub, 1) := by decide +kernel
theorem dX12_shells_56 : decode cX12_shells 56 = .ok (.ishr, 1) := by decide +kernel
theorem dX12_shells_57 : decode cX12_shells 57 = .ok (.iconst 3, 1) := by decide +kernel
theorem dX12_shells_58 : decode cX12_shells 58 = .ok (.iand, 1) := by decide +kernel
theorem dX12_shells_59 : decode cX12_shells 59 = .ok (.ifCond .eq 7, 3) := by decide +kernel
theorem dX12_shells_62 : decode cX12_shells 62 = .ok (.iconst 1, 1) := by decide +kernel
theorem dX12_shells_63 : decode cX12_shells 63 = .ok (.goto 4, 3) := by decide +kernel
theorem dX12_shells_66 : decode cX12_shells 66 = .ok (.iconst 0, 1) := by decide +kernel
theorem dX12_shells_67 : decode cX12_shells 67 = .ok (.istore 6, 2) := by decide +kernel
theorem dX12_shells_69 : decode cX12_shells 69 = .ok (.iload_n 1, 1) := by decide +kernel
theorem dX12_shells_70 : decode cX12_shells 70 = .ok (.iload 5, 2) := by decide +kernel
theorem dX12_shells_72 : decode cX12_shells 72 = .ok (.ishr, 1) := by decide +kernel
theorem dX12_shells_73 : decode cX12_shells 73 = .ok (.ifCond .ne 12, 3) := by decide +kernel
theorem dX12_shells_76 : decode cX12_shells 76 = .ok (.iload 6, 2) := by decide +kernel
theorem dX12_shells_78 : decode cX12_shells 78 = .ok (.ifCond .eq 7, 3) := by decide +kernel
theorem dX12_shells_81 : decode cX12_shells 81 = .ok (.iconst 1, 1) := by decide +kernel
theorem dX12_shells_82 : decode cX12_shells 82 = .ok (.goto 4, 3) := by decide +kernel
theorem dX12_shells_85 : decode cX12_shells 85 = .ok (.iconst 0, 1) := by decide +kernel
theorem dX12_shells_86 : decode cX12_shells 86 = .ok (.istore 7, 2) := by decide +kernel
theorem dX12_shells_88 : decode cX12_shells 88 = .ok (.iload_n 3, 1) := by decide +kernel
theorem dX12_shells_89 : decode cX12_shells 89 = .ok (.iload 7, 2) := by decide +kernel
theorem dX12_shells_91 : decode cX12_shells 91 = .ok (.ifCond .eq 7, 3) := by decide +kernel
theorem dX12_shells_94 : decode cX12_shells 94 = .ok (.iconst 1, 1) := by decide +kernel
theorem dX12_shells_95 : decode cX12_shells 95 = .ok (.goto 4, 3) := by decide +kernel
theorem dX12_shells_98 : decode cX12_shells 98 = .ok (.iconst 0, 1) := by decide +kernel
theorem dX12_shells_99 : decode cX12_shells 99 = .ok (.iadd, 1) := by decide +kernel
theorem dX12_shells_100 : decode cX12_shells 100 = .ok (.istore_n 3, 1) := by decide +kernel
theorem dX12_shells_101 : decode cX12_shells 101 = .ok (.iload 7, 2) := by decide +kernel
theorem dX12_shells_103 : decode cX12_shells 103 = .ok (.ifCond .eq 14, 3) := by decide +kernel
theorem dX12_shells_106 : decode cX12_shells 106 = .ok (.iload 4, 2) := by decide +kernel
theorem dX12_shells_108 : decode cX12_shells 108 = .ok (.iconst (-1), 1) := by decide +kernel
theorem dX12_shells_109 : decode cX12_shells 109 = .ok (.if_icmp .ne 8, 3) := by decide +kernel
theorem dX12_shells_112 : decode cX12_shells 112 = .ok (.iload 5, 2) := by decide +kernel
theorem dX12_shells_114 : decode cX12_shells 114 = .ok (.goto 5, 3) := by decide +kernel
theorem dX12_shells_117 : decode cX12_shells 117 = .ok (.iload 4, 2) := by decide +kernel
theorem dX12_shells_119 : decode cX12_shells 119 = .ok (.istore 4, 2) := by decide +kernel
theorem dX12_shells_121 : decode cX12_shells 121 = .ok (.iinc 5 1, 3) := by decide +kernel
theorem dX12_shells_124 : decode cX12_shells 124 = .ok (.goto (-90), 3) := by decide +kernel
theorem dX12_shells_127 : decode cX12_shells 127 = .ok (.iload_n 2, 1) := by decide +kernel
theorem dX12_shells_128 : decode cX12_shells 128 = .ok (.ifCond .ne 7, 3) := by decide +kernel
theorem dX12_shells_131 : decode cX12_shells 131 = .ok (.iload_n 3, 1) := by decide +kernel
theorem dX12_shells_132 : decode cX12_shells 132 = .ok (.goto 5, 3) := by decide +kernel
theorem dX12_shells_135 : decode cX12_shells 135 = .ok (.iload 4, 2) := by decide +kernel
theorem dX12_shells_137 : decode cX12_shells 137 = .ok (.ireturn, 1) := by decide +kernel
theorem dX12_vote_0 : decode cX12_vote 0 = .ok (.iload_n 1, 1) := by decide +kernel
theorem dX12_vote_1 : decode cX12_vote 1 = .ok (.i2l, 1) := by decide +kernel
theorem dX12_vote_2 : decode cX12_vote 2 = .ok (.lconst 1, 1) := by decide +kernel
theorem dX12_vote_3 : decode cX12_vote 3 = .ok (.ldc2_w 249, 3) := by decide +kernel
theorem dX12_vote_6 : decode cX12_vote 6 = .ok (.invokestatic 53, 3) := by decide +kernel
theorem dX12_vote_9 : decode cX12_vote 9 = .ok (.ifCond .eq 25, 3) := by decide +kernel
theorem dX12_vote_12 : decode cX12_vote 12 = .ok (.iload_n 2, 1) := by decide +kernel
theorem dX12_vote_13 : decode cX12_vote 13 = .ok (.i2l, 1) := by decide +kernel
theorem dX12_vote_14 : decode cX12_vote 14 = .ok (.lconst 0, 1) := by decide +kernel
theorem dX12_vote_15 : decode cX12_vote 15 = .ok (.ldc2_w 249, 3) := by decide +kernel
theorem dX12_vote_18 : decode cX12_vote 18 = .ok (.invokestatic 53, 3) := by decide +kernel
theorem dX12_vote_21 : decode cX12_vote 21 = .ok (.ifCond .eq 13, 3) := by decide +kernel
theorem dX12_vote_24 : decode cX12_vote 24 = .ok (.iload_n 3, 1) := by decide +kernel
theorem dX12_vote_25 : decode cX12_vote 25 = .ok (.i2l, 1) := by decide +kernel
theorem dX12_vote_26 : decode cX12_vote 26 = .ok (.lconst 0, 1) := by decide +kernel
theorem dX12_vote_27 : decode cX12_vote 27 = .ok (.lconst 1, 1) := by decide +kernel
theorem dX12_vote_28 : decode cX12_vote 28 = .ok (.invokestatic 53, 3) := by decide +kernel
theorem dX12_vote_31 : decode cX12_vote 31 = .ok (.ifCond .ne 8, 3) := by decide +kernel
theorem dX12_vote_34 : decode cX12_vote 34 = .ok (.aload_n 0, 1) := by decide +kernel
theorem dX12_vote_35 : decode cX12_vote 35 = .ok (.invokevirtual 59, 3) := by decide +kernel
theorem dX12_vote_38 : decode cX12_vote 38 = .ok (.ireturn, 1) := by decide +kernel
theorem dX12_vote_39 : decode cX12_vote 39 = .ok (.iconst 0, 1) := by decide +kernel
theorem dX12_vote_40 : decode cX12_vote 40 = .ok (.istore 4, 2) := by decide +kernel
theorem dX12_vote_42 : decode cX12_vote 42 = .ok (.iload 4, 2) := by decide +kernel
theorem dX12_vote_44 : decode cX12_vote 44 = .ok (.aload_n 0, 1) := by decide +kernel
theorem dX12_vote_45 : decode cX12_vote 45 = .ok (.getfield 7, 3) := by decide +kernel
theorem dX12_vote_48 : decode cX12_vote 48 = .ok (.iconst 0, 1) := by decide +kernel
theorem dX12_vote_49 : decode cX12_vote 49 = .ok (.iaload, 1) := by decide +kernel
theorem dX12_vote_50 : decode cX12_vote 50 = .ok (.if_icmp .ge 43, 3) := by decide +kernel
theorem dX12_vote_53 : decode cX12_vote 53 = .ok (.aload_n 0, 1) := by decide +kernel
theorem dX12_vote_54 : decode cX12_vote 54 = .ok (.getfield 38, 3) := by decide +kernel
theorem dX12_vote_57 : decode cX12_vote 57 = .ok (.iload 4, 2) := by decide +kernel
theorem dX12_vote_59 : decode cX12_vote 59 = .ok (.aload_n 0, 1) := by decide +kernel
theorem dX12_vote_60 : decode cX12_vote 60 = .ok (.iload 4, 2) := by decide +kernel
theorem dX12_vote_62 : decode cX12_vote 62 = .ok (.invokevirtual 206, 3) := by decide +kernel
theorem dX12_vote_65 : decode cX12_vote 65 = .ok (.ifCond .eq 7, 3) := by decide +kernel
theorem dX12_vote_68 : decode cX12_vote 68 = .ok (.iconst 0, 1) := by decide +kernel
theorem dX12_vote_69 : decode cX12_vote 69 = .ok (.goto 17, 3) := by decide +kernel
theorem dX12_vote_72 : decode cX12_vote 72 = .ok (.aload_n 0, 1) := by decide +kernel
theorem dX12_vote_73 : decode cX12_vote 73 = .ok (.getfield 7, 3) := by decide +kernel
theorem dX12_vote_76 : decode cX12_vote 76 = .ok (.iload 4, 2) := by decide +kernel
theorem dX12_vote_78 : decode cX12_vote 78 = .ok (.iconst 1, 1) := by decide +kernel
theorem dX12_vote_79 : decode cX12_vote 79 = .ok (.invokestatic 73, 3) := by decide +kernel
theorem dX12_vote_82 : decode cX12_vote 82 = .ok (.iaload, 1) := by decide +kernel
theorem dX12_vote_83 : decode cX12_vote 83 = .ok (.bipush 10, 2) := by decide +kernel
theorem dX12_vote_85 : decode cX12_vote 85 = .ok (.idiv, 1) := by decide +kernel
theorem dX12_vote_86 : decode cX12_vote 86 = .ok (.iastore, 1) := by decide +kernel
theorem dX12_vote_87 : decode cX12_vote 87 = .ok (.iinc 4 1, 3) := by decide +kernel
theorem dX12_vote_90 : decode cX12_vote 90 = .ok (.goto (-48), 3) := by decide +kernel
theorem dX12_vote_93 : decode cX12_vote 93 = .ok (.aload_n 0, 1) := by decide +kernel
theorem dX12_vote_94 : decode cX12_vote 94 = .ok (.invokevirtual 234, 3) := by decide +kernel
theorem dX12_vote_97 : decode cX12_vote 97 = .ok (.aload_n 0, 1) := by decide +kernel
theorem dX12_vote_98 : decode cX12_vote 98 = .ok (.iload_n 1, 1) := by decide +kernel
theorem dX12_vote_99 : decode cX12_vote 99 = .ok (.invokevirtual 251, 3) := by decide +kernel
theorem dX12_vote_102 : decode cX12_vote 102 = .ok (.pop, 1) := by decide +kernel
theorem dX12_vote_103 : decode cX12_vote 103 = .ok (.iconst 0, 1) := by decide +kernel
theorem dX12_vote_104 : decode cX12_vote 104 = .ok (.istore 4, 2) := by decide +kernel
theorem dX12_vote_106 : decode cX12_vote 106 = .ok (.iconst 0, 1) := by decide +kernel
theorem dX12_vote_107 : decode cX12_vote 107 = .ok (.istore 5, 2) := by decide +kernel
theorem dX12_vote_109 : decode cX12_vote 109 = .ok (.iconst 0, 1) := by decide +kernel
theorem dX12_vote_110 : decode cX12_vote 110 = .ok (.istore 6, 2) := by decide +kernel
theorem dX12_vote_112 : decode cX12_vote 112 = .ok (.iload 6, 2) := by decide +kernel
theorem dX12_vote_114 : decode cX12_vote 114 = .ok (.aload_n 0, 1) := by decide +kernel
theorem dX12_vote_115 : decode cX12_vote 115 = .ok (.getfield 7, 3) := by decide +kernel
theorem dX12_vote_118 : decode cX12_vote 118 = .ok (.iconst 0, 1) := by decide +kernel
theorem dX12_vote_119 : decode cX12_vote 119 = .ok (.iaload, 1) := by decide +kernel
theorem dX12_vote_120 : decode cX12_vote 120 = .ok (.if_icmp .ge 85, 3) := by decide +kernel
theorem dX12_vote_123 : decode cX12_vote 123 = .ok (.aload_n 0, 1) := by decide +kernel
theorem dX12_vote_124 : decode cX12_vote 124 = .ok (.getfield 7, 3) := by decide +kernel
theorem dX12_vote_127 : decode cX12_vote 127 = .ok (.iload 6, 2) := by decide +kernel
theorem dX12_vote_129 : decode cX12_vote 129 = .ok (.iconst 4, 1) := by decide +kernel
theorem dX12_vote_130 : decode cX12_vote 130 = .ok (.invokestatic 73, 3) := by decide +kernel
theorem dX12_vote_133 : decode cX12_vote 133 = .ok (.iaload, 1) := by decide +kernel
theorem dX12_vote_134 : decode cX12_vote 134 = .ok (.aload_n 0, 1) := by decide +kernel
theorem dX12_vote_135 : decode cX12_vote 135 = .ok (.getfield 23, 3) := by decide +kernel
theorem dX12_vote_138 : decode cX12_vote 138 = .ok (.iload 6, 2) := by decide +kernel
theorem dX12_vote_140 : decode cX12_vote 140 = .ok (.iconst 4, 1) := by decide +kernel
theorem dX12_vote_141 : decode cX12_vote 141 = .ok (.invokestatic 73, 3) := by decide +kernel
theorem dX12_vote_144 : decode cX12_vote 144 = .ok (.iaload, 1) := by decide +kernel
theorem dX12_vote_145 : decode cX12_vote 145 = .ok (.isub, 1) := by decide +kernel
theorem dX12_vote_146 : decode cX12_vote 146 = .ok (.iload_n 2, 1) := by decide +kernel
theorem dX12_vote_147 : decode cX12_vote 147 = .ok (.if_icmp .le 7, 3) := by decide +kernel
theorem dX12_vote_150 : decode cX12_vote 150 = .ok (.iconst 1, 1) := by decide +kernel
theorem dX12_vote_151 : decode cX12_vote 151 = .ok (.goto 4, 3) := by decide +kernel
theorem dX12_vote_154 : decode cX12_vote 154 = .ok (.iconst 0, 1) := by decide +kernel
theorem dX12_vote_155 : decode cX12_vote 155 = .ok (.istore 7, 2) := by decide +kernel
theorem dX12_vote_157 : decode cX12_vote 157 = .ok (.iload 4, 2) := by decide +kernel
theorem dX12_vote_159 : decode cX12_vote 159 = .ok (.iload 7, 2) := by decide +kernel
theorem dX12_vote_161 : decode cX12_vote 161 = .ok (.ifCond .eq 13, 3) := by decide +kernel
theorem dX12_vote_164 : decode cX12_vote 164 = .ok (.aload_n 0, 1) := by decide +kernel
theorem dX12_vote_165 : decode cX12_vote 165 = .ok (.getfield 38, 3) := by decide +kernel
theorem dX12_vote_168 : decode cX12_vote 168 = .ok (.iload 6, 2) := by decide +kernel
theorem dX12_vote_170 : decode cX12_vote 170 = .ok (.iaload, 1) := by decide +kernel
theorem dX12_vote_171 : decode cX12_vote 171 = .ok (.goto 4, 3) := by decide +kernel
theorem dX12_vote_174 : decode cX12_vote 174 = .ok (.iconst 0, 1) := by decide +kernel
theorem dX12_vote_175 : decode cX12_vote 175 = .ok (.iadd, 1) := by decide +kernel
theorem dX12_vote_176 : decode cX12_vote 176 = .ok (.istore 4, 2) := by decide +kernel
theorem dX12_vote_178 : decode cX12_vote 178 = .ok (.iload 5, 2) := by decide +kernel
theorem dX12_vote_180 : decode cX12_vote 180 = .ok (.iload 7, 2) := by decide +kernel
theorem dX12_vote_182 : decode cX12_vote 182 = .ok (.ifCond .eq 7, 3) := by decide +kernel
theorem dX12_vote_185 : decode cX12_vote 185 = .ok (.iconst 0, 1) := by decide +kernel
theorem dX12_vote_186 : decode cX12_vote 186 = .ok (.goto 10, 3) := by decide +kernel
theorem dX12_vote_189 : decode cX12_vote 189 = .ok (.aload_n 0, 1) := by decide +kernel
theorem dX12_vote_190 : decode cX12_vote 190 = .ok (.getfield 38, 3) := by decide +kernel
theorem dX12_vote_193 : decode cX12_vote 193 = .ok (.iload 6, 2) := by decide +kernel
theorem dX12_vote_195 : decode cX12_vote 195 = .ok (.iaload, 1) := by decide +kernel
theorem dX12_vote_196 : decode cX12_vote 196 = .ok (.iadd, 1) := by decide +kernel
theorem dX12_vote_197 : decode cX12_vote 197 = .ok (.istore 5, 2) := by decide +kernel
theorem dX12_vote_199 : decode cX12_vote 199 = .ok (.iinc 6 1, 3) := by decide +kernel
theorem dX12_vote_202 : decode cX12_vote 202 = .ok (.goto (-90), 3) := by decide +kernel
theorem dX12_vote_205 : decode cX12_vote 205 = .ok (.aload_n 0, 1) := by decide +kernel
theorem dX12_vote_206 : decode cX12_vote 206 = .ok (.invokevirtual 240, 3) := by decide +kernel
theorem dX12_vote_209 : decode cX12_vote 209 = .ok (.iload_n 3, 1) := by decide +kernel
theorem dX12_vote_210 : decode cX12_vote 210 = .ok (.ifCond .ne 8, 3) := by decide +kernel
theorem dX12_vote_213 : decode cX12_vote 213 = .ok (.iload 4, 2) := by decide +kernel
theorem dX12_vote_215 : decode cX12_vote 215 = .ok (.goto 5, 3) := by decide +kernel
theorem dX12_vote_218 : decode cX12_vote 218 = .ok (.iload 5, 2) := by decide +kernel
theorem dX12_vote_220 : decode cX12_vote 220 = .ok (.ireturn, 1) := by decide +kernel
theorem dX12_drawn_0 : decode cX12_drawn 0 = .ok (.iload_n 1, 1) := by decide +kernel
theorem dX12_drawn_1 : decode cX12_drawn 1 = .ok (.i2l, 1) := by decide +kernel
theorem dX12_drawn_2 : decode cX12_drawn 2 = .ok (.lconst 0, 1) := by decide +kernel
theorem dX12_drawn_3 : decode cX12_drawn 3 = .ok (.ldc2_w 232, 3) := by decide +kernel
theorem dX12_drawn_6 : decode cX12_drawn 6 = .ok (.invokestatic 53, 3) := by decide +kernel
theorem dX12_drawn_9 : decode cX12_drawn 9 = .ok (.ifCond .eq 27, 3) := by decide +kernel
theorem dX12_drawn_12 : decode cX12_drawn 12 = .ok (.iload_n 2, 1) := by decide +kernel
theorem dX12_drawn_13 : decode cX12_drawn 13 = .ok (.i2l, 1) := by decide +kernel
theorem dX12_drawn_14 : decode cX12_drawn 14 = .ok (.lconst 0, 1) := by decide +kernel
theorem dX12_drawn_15 : decode cX12_drawn 15 = .ok (.ldc2_w 278, 3) := by decide +kernel
theorem dX12_drawn_18 : decode cX12_drawn 18 = .ok (.invokestatic 53, 3) := by decide +kernel
theorem dX12_drawn_21 : decode cX12_drawn 21 = .ok (.ifCond .eq 15, 3) := by decide +kernel
theorem dX12_drawn_24 : decode cX12_drawn 24 = .ok (.iload_n 3, 1) := by decide +kernel
theorem dX12_drawn_25 : decode cX12_drawn 25 = .ok (.i2l, 1) := by decide +kernel
theorem dX12_drawn_26 : decode cX12_drawn 26 = .ok (.lconst 0, 1) := by decide +kernel
theorem dX12_drawn_27 : decode cX12_drawn 27 = .ok (.ldc2_w 221, 3) := by decide +kernel
theorem dX12_drawn_30 : decode cX12_drawn 30 = .ok (.invokestatic 53, 3) := by decide +kernel
theorem dX12_drawn_33 : decode cX12_drawn 33 = .ok (.ifCond .ne 8, 3) := by decide +kernel
theorem dX12_drawn_36 : decode cX12_drawn 36 = .ok (.aload_n 0, 1) := by decide +kernel
theorem dX12_drawn_37 : decode cX12_drawn 37 = .ok (.invokevirtual 59, 3) := by decide +kernel
theorem dX12_drawn_40 : decode cX12_drawn 40 = .ok (.ireturn, 1) := by decide +kernel
theorem dX12_drawn_41 : decode cX12_drawn 41 = .ok (.aload_n 0, 1) := by decide +kernel
theorem dX12_drawn_42 : decode cX12_drawn 42 = .ok (.invokevirtual 234, 3) := by decide +kernel
theorem dX12_drawn_45 : decode cX12_drawn 45 = .ok (.iload_n 2, 1) := by decide +kernel
theorem dX12_drawn_46 : decode cX12_drawn 46 = .ok (.i2l, 1) := by decide +kernel
theorem dX12_drawn_47 : decode cX12_drawn 47 = .ok (.lstore 4, 2) := by decide +kernel
theorem dX12_drawn_49 : decode cX12_drawn 49 = .ok (.iconst 0, 1) := by decide +kernel
theorem dX12_drawn_50 : decode cX12_drawn 50 = .ok (.istore 6, 2) := by decide +kernel
theorem dX12_drawn_52 : decode cX12_drawn 52 = .ok (.iconst 0, 1) := by decide +kernel
theorem dX12_drawn_53 : decode cX12_drawn 53 = .ok (.istore 7, 2) := by decide +kernel
theorem dX12_drawn_55 : decode cX12_drawn 55 = .ok (.iload 7, 2) := by decide +kernel
theorem dX12_drawn_57 : decode cX12_drawn 57 = .ok (.iload_n 1, 1) := by decide +kernel
theorem dX12_drawn_58 : decode cX12_drawn 58 = .ok (.if_icmp .ge 65, 3) := by decide +kernel
theorem dX12_drawn_61 : decode cX12_drawn 61 = .ok (.lload 4, 2) := by decide +kernel
theorem dX12_drawn_63 : decode cX12_drawn 63 = .ok (.ldc2_w 280, 3) := by decide +kernel
theorem dX12_drawn_66 : decode cX12_drawn 66 = .ok (.lmul, 1) := by decide +kernel
theorem dX12_drawn_67 : decode cX12_drawn 67 = .ok (.ldc2_w 282, 3) := by decide +kernel
theorem dX12_drawn_70 : decode cX12_drawn 70 = .ok (.ladd, 1) := by decide +kernel
theorem dX12_drawn_71 : decode cX12_drawn 71 = .ok (.ldc2_w 284, 3) := by decide +kernel
theorem dX12_drawn_74 : decode cX12_drawn 74 = .ok (.lrem, 1) := by decide +kernel
theorem dX12_drawn_75 : decode cX12_drawn 75 = .ok (.lstore 4, 2) := by decide +kernel
theorem dX12_drawn_77 : decode cX12_drawn 77 = .ok (.lload 4, 2) := by decide +kernel
theorem dX12_drawn_79 : decode cX12_drawn 79 = .ok (.ldc2_w 286, 3) := by decide +kernel
theorem dX12_drawn_82 : decode cX12_drawn 82 = .ok (.ldiv, 1) := by decide +kernel
theorem dX12_drawn_83 : decode cX12_drawn 83 = .ok (.ldc2_w 288, 3) := by decide +kernel
theorem dX12_drawn_86 : decode cX12_drawn 86 = .ok (.lrem, 1) := by decide +kernel
theorem dX12_drawn_87 : decode cX12_drawn 87 = .ok (.l2i, 1) := by decide +kernel
theorem dX12_drawn_88 : decode cX12_drawn 88 = .ok (.istore 8, 2) := by decide +kernel
theorem dX12_drawn_90 : decode cX12_drawn 90 = .ok (.aload_n 0, 1) := by decide +kernel
theorem dX12_drawn_91 : decode cX12_drawn 91 = .ok (.iload 8, 2) := by decide +kernel
theorem dX12_drawn_93 : decode cX12_drawn 93 = .ok (.aload_n 0, 1) := by decide +kernel
theorem dX12_drawn_94 : decode cX12_drawn 94 = .ok (.aload_n 0, 1) := by decide +kernel
theorem dX12_drawn_95 : decode cX12_drawn 95 = .ok (.getfield 7, 3) := by decide +kernel
theorem dX12_drawn_98 : decode cX12_drawn 98 = .ok (.iconst 1, 1) := by decide +kernel
theorem dX12_drawn_99 : decode cX12_drawn 99 = .ok (.iaload, 1) := by decide +kernel
theorem dX12_drawn_100 : decode cX12_drawn 100 = .ok (.invokevirtual 184, 3) := by decide +kernel
theorem dX12_drawn_103 : decode cX12_drawn 103 = .ok (.ifCond .eq 7, 3) := by decide +kernel
theorem dX12_drawn_106 : decode cX12_drawn 106 = .ok (.iconst 2, 1) := by decide +kernel
theorem dX12_drawn_107 : decode cX12_drawn 107 = .ok (.goto 4, 3) := by decide +kernel
theorem dX12_drawn_110 : decode cX12_drawn 110 = .ok (.iconst 0, 1) := by decide +kernel
theorem dX12_drawn_111 : decode cX12_drawn 111 = .ok (.iadd, 1) := by decide +kernel
theorem dX12_drawn_112 : decode cX12_drawn 112 = .ok (.invokevirtual 218, 3) := by decide +kernel
theorem dX12_drawn_115 : decode cX12_drawn 115 = .ok (.istore 6, 2) := by decide +kernel
theorem dX12_drawn_117 : decode cX12_drawn 117 = .ok (.iinc 7 1, 3) := by decide +kernel
theorem dX12_drawn_120 : decode cX12_drawn 120 = .ok (.goto (-65), 3) := by decide +kernel
theorem dX12_drawn_123 : decode cX12_drawn 123 = .ok (.aload_n 0, 1) := by decide +kernel
theorem dX12_drawn_124 : decode cX12_drawn 124 = .ok (.iload_n 3, 1) := by decide +kernel
theorem dX12_drawn_125 : decode cX12_drawn 125 = .ok (.iload 6, 2) := by decide +kernel
theorem dX12_drawn_127 : decode cX12_drawn 127 = .ok (.invokevirtual 237, 3) := by decide +kernel
theorem dX12_drawn_130 : decode cX12_drawn 130 = .ok (.istore 7, 2) := by decide +kernel
theorem dX12_drawn_132 : decode cX12_drawn 132 = .ok (.aload_n 0, 1) := by decide +kernel
theorem dX12_drawn_133 : decode cX12_drawn 133 = .ok (.invokevirtual 240, 3) := by decide +kernel
theorem dX12_drawn_136 : decode cX12_drawn 136 = .ok (.iload 7, 2) := by decide +kernel
theorem dX12_drawn_138 : decode cX12_drawn 138 = .ok (.ireturn, 1) := by decide +kernel
theorem dX12_burn_0 : decode cX12_burn 0 = .ok (.iload_n 1, 1) := by decide +kernel
theorem dX12_burn_1 : decode cX12_burn 1 = .ok (.i2l, 1) := by decide +kernel
theorem dX12_burn_2 : decode cX12_burn 2 = .ok (.lconst 0, 1) := by decide +kernel
theorem dX12_burn_3 : decode cX12_burn 3 = .ok (.lconst 1, 1) := by decide +kernel
theorem dX12_burn_4 : decode cX12_burn 4 = .ok (.invokestatic 53, 3) := by decide +kernel
theorem dX12_burn_7 : decode cX12_burn 7 = .ok (.ifCond .eq 20, 3) := by decide +kernel
theorem dX12_burn_10 : decode cX12_burn 10 = .ok (.aload_n 0, 1) := by decide +kernel
theorem dX12_burn_11 : decode cX12_burn 11 = .ok (.iload_n 1, 1) := by decide +kernel
theorem dX12_burn_12 : decode cX12_burn 12 = .ok (.ifCond .ne 7, 3) := by decide +kernel
theorem dX12_burn_15 : decode cX12_burn 15 = .ok (.iconst 4, 1) := by decide +kernel
theorem dX12_burn_16 : decode cX12_burn 16 = .ok (.goto 4, 3) := by decide +kernel
theorem dX12_burn_19 : decode cX12_burn 19 = .ok (.iconst 5, 1) := by decide +kernel
theorem dX12_burn_20 : decode cX12_burn 20 = .ok (.iconst 0, 1) := by decide +kernel
theorem dX12_burn_21 : decode cX12_burn 21 = .ok (.invokevirtual 76, 3) := by decide +kernel
theorem dX12_burn_24 : decode cX12_burn 24 = .ok (.goto 7, 3) := by decide +kernel
theorem dX12_burn_27 : decode cX12_burn 27 = .ok (.aload_n 0, 1) := by decide +kernel
theorem dX12_burn_28 : decode cX12_burn 28 = .ok (.invokevirtual 59, 3) := by decide +kernel
theorem dX12_burn_31 : decode cX12_burn 31 = .ok (.ireturn, 1) := by decide +kernel
theorem dX12_image_0 : decode cX12_image 0 = .ok (.iload_n 1, 1) := by decide +kernel
theorem dX12_image_1 : decode cX12_image 1 = .ok (.i2l, 1) := by decide +kernel
theorem dX12_image_2 : decode cX12_image 2 = .ok (.lconst 0, 1) := by decide +kernel
theorem dX12_image_3 : decode cX12_image 3 = .ok (.lconst 1, 1) := by decide +kernel
theorem dX12_image_4 : decode cX12_image 4 = .ok (.invokestatic 53, 3) := by decide +kernel
theorem dX12_image_7 : decode cX12_image 7 = .ok (.ifCond .ne 8, 3) := by decide +kernel
theorem dX12_image_10 : decode cX12_image 10 = .ok (.aload_n 0, 1) := by decide +kernel
theorem dX12_image_11 : decode cX12_image 11 = .ok (.invokevirtual 59, 3) := by decide +kernel
theorem dX12_image_14 : decode cX12_image 14 = .ok (.ireturn, 1) := by decide +kernel
theorem dX12_image_15 : decode cX12_image 15 = .ok (.iconst 0, 1) := by decide +kernel
theorem dX12_image_16 : decode cX12_image 16 = .ok (.istore_n 2, 1) := by decide +kernel
theorem dX12_image_17 : decode cX12_image 17 = .ok (.iload_n 2, 1) := by decide +kernel
theorem dX12_image_18 : decode cX12_image 18 = .ok (.sipush 259, 3) := by decide +kernel
theorem dX12_image_21 : decode cX12_image 21 = .ok (.if_icmp .ge 27, 3) := by decide +kernel
theorem dX12_image_24 : decode cX12_image 24 = .ok (.aload_n 0, 1) := by decide +kernel
theorem dX12_image_25 : decode cX12_image 25 = .ok (.getfield 13, 3) := by decide +kernel
theorem dX12_image_28 : decode cX12_image 28 = .ok (.sipush 259, 3) := by decide +kernel
theorem dX12_image_31 : decode cX12_image 31 = .ok (.iload_n 1, 1) := by decide +kernel
theorem dX12_image_32 : decode cX12_image 32 = .ok (.imul, 1) := by decide +kernel
theorem dX12_image_33 : decode cX12_image 33 = .ok (.iload_n 2, 1) := by decide +kernel
theorem dX12_image_34 : decode cX12_image 34 = .ok (.iadd, 1) := by decide +kernel
theorem dX12_image_35 : decode cX12_image 35 = .ok (.aload_n 0, 1) := by decide +kernel
theorem dX12_image_36 : decode cX12_image 36 = .ok (.getfield 7, 3) := by decide +kernel
theorem dX12_image_39 : decode cX12_image 39 = .ok (.iload_n 2, 1) := by decide +kernel
theorem dX12_image_40 : decode cX12_image 40 = .ok (.iaload, 1) := by decide +kernel
theorem dX12_image_41 : decode cX12_image 41 = .ok (.iastore, 1) := by decide +kernel
theorem dX12_image_42 : decode cX12_image 42 = .ok (.iinc 2 1, 3) := by decide +kernel
theorem dX12_image_45 : decode cX12_image 45 = .ok (.goto (-28), 3) := by decide +kernel
theorem dX12_image_48 : decode cX12_image 48 = .ok (.aload_n 0, 1) := by decide +kernel
theorem dX12_image_49 : decode cX12_image 49 = .ok (.getfield 16, 3) := by decide +kernel
theorem dX12_image_52 : decode cX12_image 52 = .ok (.iload_n 1, 1) := by decide +kernel
theorem dX12_image_53 : decode cX12_image 53 = .ok (.iconst 1, 1) := by decide +kernel
theorem dX12_image_54 : decode cX12_image 54 = .ok (.bastore, 1) := by decide +kernel
theorem dX12_image_55 : decode cX12_image 55 = .ok (.iconst 1, 1) := by decide +kernel
theorem dX12_image_56 : decode cX12_image 56 = .ok (.ireturn, 1) := by decide +kernel
theorem dX12_from_0 : decode cX12_from 0 = .ok (.iload_n 1, 1) := by decide +kernel
theorem dX12_from_1 : decode cX12_from 1 = .ok (.i2l, 1) := by decide +kernel
theorem dX12_from_2 : decode cX12_from 2 = .ok (.lconst 0, 1) := by decide +kernel
theorem dX12_from_3 : decode cX12_from 3 = .ok (.lconst 1, 1) := by decide +kernel
theorem dX12_from_4 : decode cX12_from 4 = .ok (.invokestatic 53, 3) := by decide +kernel
theorem dX12_from_7 : decode cX12_from 7 = .ok (.ifCond .ne 8, 3) := by decide +kernel
theorem dX12_from_10 : decode cX12_from 10 = .ok (.aload_n 0, 1) := by decide +kernel
theorem dX12_from_11 : decode cX12_from 11 = .ok (.invokevirtual 59, 3) := by decide +kernel
theorem dX12_from_14 : decode cX12_from 14 = .ok (.ireturn, 1) := by decide +kernel
theorem dX12_from_15 : decode cX12_from 15 = .ok (.aload_n 0, 1) := by decide +kernel
theorem dX12_from_16 : decode cX12_from 16 = .ok (.getfield 16, 3) := by decide +kernel
theorem dX12_from_19 : decode cX12_from 19 = .ok (.iload_n 1, 1) := by decide +kernel
theorem dX12_from_20 : decode cX12_from 20 = .ok (.baload, 1) := by decide +kernel
theorem dX12_from_21 : decode cX12_from 21 = .ok (.ifCond .ne 8, 3) := by decide +kernel
theorem dX12_from_24 : decode cX12_from 24 = .ok (.aload_n 0, 1) := by decide +kernel
theorem dX12_from_25 : decode cX12_from 25 = .ok (.invokevirtual 102, 3) := by decide +kernel
theorem dX12_from_28 : decode cX12_from 28 = .ok (.ireturn, 1) := by decide +kernel
theorem dX12_from_29 : decode cX12_from 29 = .ok (.iconst 0, 1) := by decide +kernel
theorem dX12_from_30 : decode cX12_from 30 = .ok (.istore_n 2, 1) := by decide +kernel
theorem dX12_from_31 : decode cX12_from 31 = .ok (.iload_n 2, 1) := by decide +kernel
theorem dX12_from_32 : decode cX12_from 32 = .ok (.sipush 259, 3) := by decide +kernel
theorem dX12_from_35 : decode cX12_from 35 = .ok (.if_icmp .ge 27, 3) := by decide +kernel
theorem dX12_from_38 : decode cX12_from 38 = .ok (.aload_n 0, 1) := by decide +kernel
theorem dX12_from_39 : decode cX12_from 39 = .ok (.getfield 7, 3) := by decide +kernel
theorem dX12_from_42 : decode cX12_from 42 = .ok (.iload_n 2, 1) := by decide +kernel
theorem dX12_from_43 : decode cX12_from 43 = .ok (.aload_n 0, 1) := by decide +kernel
theorem dX12_from_44 : decode cX12_from 44 = .ok (.getfield 13, 3) := by decide +kernel
theorem dX12_from_47 : decode cX12_from 47 = .ok (.sipush 259, 3) := by decide +kernel
theorem dX12_from_50 : decode cX12_from 50 = .ok (.iload_n 1, 1) := by decide +kernel
theorem dX12_from_51 : decode cX12_from 51 = .ok (.imul, 1) := by decide +kernel
theorem dX12_from_52 : decode cX12_from 52 = .ok (.iload_n 2, 1) := by decide +kernel
theorem dX12_from_53 : decode cX12_from 53 = .ok (.iadd, 1) := by decide +kernel
theorem dX12_from_54 : decode cX12_from 54 = .ok (.iaload, 1) := by decide +kernel
theorem dX12_from_55 : decode cX12_from 55 = .ok (.iastore, 1) := by decide +kernel
theorem dX12_from_56 : decode cX12_from 56 = .ok (.iinc 2 1, 3) := by decide +kernel
theorem dX12_from_59 : decode cX12_from 59 = .ok (.goto (-28), 3) := by decide +kernel
theorem dX12_from_62 : decode cX12_from 62 = .ok (.iconst 1, 1) := by decide +kernel
theorem dX12_from_63 : decode cX12_from 63 = .ok (.ireturn, 1) := by decide +kernel
theorem dX12_status_0 : decode cX12_status 0 = .ok (.iload_n 1, 1) := by decide +kernel
theorem dX12_status_1 : decode cX12_status 1 = .ok (.i2l, 1) := by decide +kernel
theorem dX12_status_2 : decode cX12_status 2 = .ok (.lconst 0, 1) := by decide +kernel
theorem dX12_status_3 : decode cX12_status 3 = .ok (.ldc2_w 71, 3) := by decide +kernel
theorem dX12_status_6 : decode cX12_status 6 = .ok (.invokestatic 53, 3) := by decide +kernel
theorem dX12_status_9 : decode cX12_status 9 = .ok (.ifCond .eq 12, 3) := by decide +kernel
theorem dX12_status_12 : decode cX12_status 12 = .ok (.aload_n 0, 1) := by decide +kernel
theorem dX12_status_13 : decode cX12_status 13 = .ok (.getfield 26, 3) := by decide +kernel
theorem dX12_status_16 : decode cX12_status 16 = .ok (.iload_n 1, 1) := by decide +kernel
theorem dX12_status_17 : decode cX12_status 17 = .ok (.iaload, 1) := by decide +kernel
theorem dX12_status_18 : decode cX12_status 18 = .ok (.goto 9, 3) := by decide +kernel
theorem dX12_status_21 : decode cX12_status 21 = .ok (.aload_n 0, 1) := by decide +kernel
theorem dX12_status_22 : decode cX12_status 22 = .ok (.iconst 0, 1) := by decide +kernel
theorem dX12_status_23 : decode cX12_status 23 = .ok (.iconst (-1), 1) := by decide +kernel
theorem dX12_status_24 : decode cX12_status 24 = .ok (.invokevirtual 49, 3) := by decide +kernel
theorem dX12_status_27 : decode cX12_status 27 = .ok (.ireturn, 1) := by decide +kernel
theorem dX12_countOf_0 : decode cX12_countOf 0 = .ok (.iload_n 1, 1) := by decide +kernel
theorem dX12_countOf_1 : decode cX12_countOf 1 = .ok (.bipush 7, 2) := by decide +kernel
theorem dX12_countOf_3 : decode cX12_countOf 3 = .ok (.if_icmp .ge 12, 3) := by decide +kernel
theorem dX12_countOf_6 : decode cX12_countOf 6 = .ok (.aload_n 0, 1) := by decide +kernel
theorem dX12_countOf_7 : decode cX12_countOf 7 = .ok (.getfield 7, 3) := by decide +kernel
theorem dX12_countOf_10 : decode cX12_countOf 10 = .ok (.iload_n 1, 1) := by decide +kernel
theorem dX12_countOf_11 : decode cX12_countOf 11 = .ok (.iaload, 1) := by decide +kernel
theorem dX12_countOf_12 : decode cX12_countOf 12 = .ok (.goto 7, 3) := by decide +kernel
theorem dX12_countOf_15 : decode cX12_countOf 15 = .ok (.aload_n 0, 1) := by decide +kernel
theorem dX12_countOf_16 : decode cX12_countOf 16 = .ok (.getfield 107, 3) := by decide +kernel
theorem dX12_countOf_19 : decode cX12_countOf 19 = .ok (.ireturn, 1) := by decide +kernel
theorem dX12_count_0 : decode cX12_count 0 = .ok (.iload_n 1, 1) := by decide +kernel
theorem dX12_count_1 : decode cX12_count 1 = .ok (.i2l, 1) := by decide +kernel
theorem dX12_count_2 : decode cX12_count 2 = .ok (.lconst 0, 1) := by decide +kernel
theorem dX12_count_3 : decode cX12_count 3 = .ok (.ldc2_w 79, 3) := by decide +kernel
theorem dX12_count_6 : decode cX12_count 6 = .ok (.invokestatic 53, 3) := by decide +kernel
theorem dX12_count_9 : decode cX12_count 9 = .ok (.ifCond .eq 11, 3) := by decide +kernel
theorem dX12_count_12 : decode cX12_count 12 = .ok (.aload_n 0, 1) := by decide +kernel
theorem dX12_count_13 : decode cX12_count 13 = .ok (.iload_n 1, 1) := by decide +kernel
theorem dX12_count_14 : decode cX12_count 14 = .ok (.invokevirtual 290, 3) := by decide +kernel
theorem dX12_count_17 : decode cX12_count 17 = .ok (.goto 7, 3) := by decide +kernel
theorem dX12_count_20 : decode cX12_count 20 = .ok (.aload_n 0, 1) := by decide +kernel
theorem dX12_count_21 : decode cX12_count 21 = .ok (.invokevirtual 59, 3) := by decide +kernel
theorem dX12_count_24 : decode cX12_count 24 = .ok (.ireturn, 1) := by decide +kernel
theorem dX12_mixed_0 : decode cX12_mixed 0 = .ok (.lload_n 1, 1) := by decide +kernel
theorem dX12_mixed_1 : decode cX12_mixed 1 = .ok (.lstore 5, 2) := by decide +kernel
theorem dX12_mixed_3 : decode cX12_mixed 3 = .ok (.iconst 0, 1) := by decide +kernel
theorem dX12_mixed_4 : decode cX12_mixed 4 = .ok (.istore 7, 2) := by decide +kernel
theorem dX12_mixed_6 : decode cX12_mixed 6 = .ok (.iload 7, 2) := by decide +kernel
theorem dX12_mixed_8 : decode cX12_mixed 8 = .ok (.iload 4, 2) := by decide +kernel
theorem dX12_mixed_10 : decode cX12_mixed 10 = .ok (.if_icmp .ge 28, 3) := by decide +kernel
theorem dX12_mixed_13 : decode cX12_mixed 13 = .ok (.ldc2_w 293, 3) := by decide +kernel
theorem dX12_mixed_16 : decode cX12_mixed 16 = .ok (.lload 5, 2) := by decide +kernel
theorem dX12_mixed_18 : decode cX12_mixed 18 = .ok (.lmul, 1) := by decide +kernel
theorem dX12_mixed_19 : decode cX12_mixed 19 = .ok (.aload_n 0, 1) := by decide +kernel
theorem dX12_mixed_20 : decode cX12_mixed 20 = .ok (.getfield 7, 3) := by decide +kernel
theorem dX12_mixed_23 : decode cX12_mixed 23 = .ok (.iload_n 3, 1) := by decide +kernel
theorem dX12_mixed_24 : decode cX12_mixed 24 = .ok (.iload 7, 2) := by decide +kernel
theorem dX12_mixed_26 : decode cX12_mixed 26 = .ok (.iadd, 1) := by decide +kernel
theorem dX12_mixed_27 : decode cX12_mixed 27 = .ok (.iaload, 1) := by decide +kernel
theorem dX12_mixed_28 : decode cX12_mixed 28 = .ok (.i2l, 1) := by decide +kernel
theorem dX12_mixed_29 : decode cX12_mixed 29 = .ok (.ladd, 1) := by decide +kernel
theorem dX12_mixed_30 : decode cX12_mixed 30 = .ok (.lstore 5, 2) := by decide +kernel
theorem dX12_mixed_32 : decode cX12_mixed 32 = .ok (.iinc 7 1, 3) := by decide +kernel
theorem dX12_mixed_35 : decode cX12_mixed 35 = .ok (.goto (-29), 3) := by decide +kernel
theorem dX12_mixed_38 : decode cX12_mixed 38 = .ok (.lload 5, 2) := by decide +kernel
theorem dX12_mixed_40 : decode cX12_mixed 40 = .ok (.lreturn, 1) := by decide +kernel
theorem dX12_digest_0 : decode cX12_digest 0 = .ok (.ldc2_w 295, 3) := by decide +kernel
theorem dX12_digest_3 : decode cX12_digest 3 = .ok (.lstore_n 1, 1) := by decide +kernel
theorem dX12_digest_4 : decode cX12_digest 4 = .ok (.iconst 0, 1) := by decide +kernel
theorem dX12_digest_5 : decode cX12_digest 5 = .ok (.istore_n 3, 1) := by decide +kernel
theorem dX12_digest_6 : decode cX12_digest 6 = .ok (.iload_n 3, 1) := by decide +kernel
theorem dX12_digest_7 : decode cX12_digest 7 = .ok (.bipush 8, 2) := by decide +kernel
theorem dX12_digest_9 : decode cX12_digest 9 = .ok (.if_icmp .ge 22, 3) := by decide +kernel
theorem dX12_digest_12 : decode cX12_digest 12 = .ok (.ldc2_w 293, 3) := by decide +kernel
theorem dX12_digest_15 : decode cX12_digest 15 = .ok (.lload_n 1, 1) := by decide +kernel
theorem dX12_digest_16 : decode cX12_digest 16 = .ok (.lmul, 1) := by decide +kernel
theorem dX12_digest_17 : decode cX12_digest 17 = .ok (.aload_n 0, 1) := by decide +kernel
theorem dX12_digest_18 : decode cX12_digest 18 = .ok (.iload_n 3, 1) := by decide +kernel
theorem dX12_digest_19 : decode cX12_digest 19 = .ok (.invokevirtual 290, 3) := by decide +kernel
theorem dX12_digest_22 : decode cX12_digest 22 = .ok (.i2l, 1) := by decide +kernel
theorem dX12_digest_23 : decode cX12_digest 23 = .ok (.ladd, 1) := by decide +kernel
theorem dX12_digest_24 : decode cX12_digest 24 = .ok (.lstore_n 1, 1) := by decide +kernel
theorem dX12_digest_25 : decode cX12_digest 25 = .ok (.iinc 3 1, 3) := by decide +kernel
theorem dX12_digest_28 : decode cX12_digest 28 = .ok (.goto (-22), 3) := by decide +kernel
theorem dX12_digest_31 : decode cX12_digest 31 = .ok (.aload_n 0, 1) := by decide +kernel
theorem dX12_digest_32 : decode cX12_digest 32 = .ok (.lload_n 1, 1) := by decide +kernel
theorem dX12_digest_33 : decode cX12_digest 33 = .ok (.bipush 7, 2) := by decide +kernel
theorem dX12_digest_35 : decode cX12_digest 35 = .ok (.bipush 8, 2) := by decide +kernel
theorem dX12_digest_37 : decode cX12_digest 37 = .ok (.invokevirtual 297, 3) := by decide +kernel
theorem dX12_digest_40 : decode cX12_digest 40 = .ok (.lstore_n 1, 1) := by decide +kernel
theorem dX12_digest_41 : decode cX12_digest 41 = .ok (.aload_n 0, 1) := by decide +kernel
theorem dX12_digest_42 : decode cX12_digest 42 = .ok (.lload_n 1, 1) := by decide +kernel
theorem dX12_digest_43 : decode cX12_digest 43 = .ok (.bipush 15, 2) := by decide +kernel
theorem dX12_digest_45 : decode cX12_digest 45 = .ok (.iconst 5, 1) := by decide +kernel
theorem dX12_digest_46 : decode cX12_digest 46 = .ok (.aload_n 0, 1) := by decide +kernel
theorem dX12_digest_47 : decode cX12_digest 47 = .ok (.getfield 7, 3) := by decide +kernel
theorem dX12_digest_50 : decode cX12_digest 50 = .ok (.iconst 0, 1) := by decide +kernel
theorem dX12_digest_51 : decode cX12_digest 51 = .ok (.iaload, 1) := by decide +kernel
theorem dX12_digest_52 : decode cX12_digest 52 = .ok (.imul, 1) := by decide +kernel
theorem dX12_digest_53 : decode cX12_digest 53 = .ok (.invokevirtual 297, 3) := by decide +kernel
theorem dX12_digest_56 : decode cX12_digest 56 = .ok (.lstore_n 1, 1) := by decide +kernel
theorem dX12_digest_57 : decode cX12_digest 57 = .ok (.aload_n 0, 1) := by decide +kernel
theorem dX12_digest_58 : decode cX12_digest 58 = .ok (.lload_n 1, 1) := by decide +kernel
theorem dX12_digest_59 : decode cX12_digest 59 = .ok (.bipush 55, 2) := by decide +kernel
theorem dX12_digest_61 : decode cX12_digest 61 = .ok (.bipush 7, 2) := by decide +kernel
theorem dX12_digest_63 : decode cX12_digest 63 = .ok (.aload_n 0, 1) := by decide +kernel
theorem dX12_digest_64 : decode cX12_digest 64 = .ok (.getfield 7, 3) := by decide +kernel
theorem dX12_digest_67 : decode cX12_digest 67 = .ok (.iconst 4, 1) := by decide +kernel
theorem dX12_digest_68 : decode cX12_digest 68 = .ok (.iaload, 1) := by decide +kernel
theorem dX12_digest_69 : decode cX12_digest 69 = .ok (.imul, 1) := by decide +kernel
theorem dX12_digest_70 : decode cX12_digest 70 = .ok (.invokevirtual 297, 3) := by decide +kernel
theorem dX12_digest_73 : decode cX12_digest 73 = .ok (.lstore_n 1, 1) := by decide +kernel
theorem dX12_digest_74 : decode cX12_digest 74 = .ok (.aload_n 0, 1) := by decide +kernel
theorem dX12_digest_75 : decode cX12_digest 75 = .ok (.lload_n 1, 1) := by decide +kernel
theorem dX12_digest_76 : decode cX12_digest 76 = .ok (.bipush 97, 2) := by decide +kernel
theorem dX12_digest_78 : decode cX12_digest 78 = .ok (.iconst 3, 1) := by decide +kernel
theorem dX12_digest_79 : decode cX12_digest 79 = .ok (.aload_n 0, 1) := by decide +kernel
theorem dX12_digest_80 : decode cX12_digest 80 = .ok (.getfield 7, 3) := by decide +kernel
theorem dX12_digest_83 : decode cX12_digest 83 = .ok (.iconst 5, 1) := by decide +kernel
theorem dX12_digest_84 : decode cX12_digest 84 = .ok (.iaload, 1) := by decide +kernel
theorem dX12_digest_85 : decode cX12_digest 85 = .ok (.imul, 1) := by decide +kernel
theorem dX12_digest_86 : decode cX12_digest 86 = .ok (.invokevirtual 297, 3) := by decide +kernel
theorem dX12_digest_89 : decode cX12_digest 89 = .ok (.lreturn, 1) := by decide +kernel
theorem dJ6_bitCount_0f7a4_0 : decode cJ6_bitCount_0f7a4 0 = .ok (.iload_n 0, 1) := by decide +kernel
theorem dJ6_bitCount_0f7a4_1 : decode cJ6_bitCount_0f7a4 1 = .ok (.iload_n 0, 1) := by decide +kernel
theorem dJ6_bitCount_0f7a4_2 : decode cJ6_bitCount_0f7a4 2 = .ok (.iconst 1, 1) := by decide +kernel
theorem dJ6_bitCount_0f7a4_3 : decode cJ6_bitCount_0f7a4 3 = .ok (.iushr, 1) := by decide +kernel
theorem dJ6_bitCount_0f7a4_4 : decode cJ6_bitCount_0f7a4 4 = .ok (.ldc_w 265, 3) := by decide +kernel
theorem dJ6_bitCount_0f7a4_7 : decode cJ6_bitCount_0f7a4 7 = .ok (.iand, 1) := by decide +kernel
theorem dJ6_bitCount_0f7a4_8 : decode cJ6_bitCount_0f7a4 8 = .ok (.isub, 1) := by decide +kernel
theorem dJ6_bitCount_0f7a4_9 : decode cJ6_bitCount_0f7a4 9 = .ok (.istore_n 0, 1) := by decide +kernel
theorem dJ6_bitCount_0f7a4_10 : decode cJ6_bitCount_0f7a4 10 = .ok (.iload_n 0, 1) := by decide +kernel
theorem dJ6_bitCount_0f7a4_11 : decode cJ6_bitCount_0f7a4 11 = .ok (.ldc_w 266, 3) := by decide +kernel
theorem dJ6_bitCount_0f7a4_14 : decode cJ6_bitCount_0f7a4 14 = .ok (.iand, 1) := by decide +kernel
theorem dJ6_bitCount_0f7a4_15 : decode cJ6_bitCount_0f7a4 15 = .ok (.iload_n 0, 1) := by decide +kernel
theorem dJ6_bitCount_0f7a4_16 : decode cJ6_bitCount_0f7a4 16 = .ok (.iconst 2, 1) := by decide +kernel
theorem dJ6_bitCount_0f7a4_17 : decode cJ6_bitCount_0f7a4 17 = .ok (.iushr, 1) := by decide +kernel
theorem dJ6_bitCount_0f7a4_18 : decode cJ6_bitCount_0f7a4 18 = .ok (.ldc_w 266, 3) := by decide +kernel
theorem dJ6_bitCount_0f7a4_21 : decode cJ6_bitCount_0f7a4 21 = .ok (.iand, 1) := by decide +kernel
theorem dJ6_bitCount_0f7a4_22 : decode cJ6_bitCount_0f7a4 22 = .ok (.iadd, 1) := by decide +kernel
theorem dJ6_bitCount_0f7a4_23 : decode cJ6_bitCount_0f7a4 23 = .ok (.istore_n 0, 1) := by decide +kernel
theorem dJ6_bitCount_0f7a4_24 : decode cJ6_bitCount_0f7a4 24 = .ok (.iload_n 0, 1) := by decide +kernel
theorem dJ6_bitCount_0f7a4_25 : decode cJ6_bitCount_0f7a4 25 = .ok (.iload_n 0, 1) := by decide +kernel
theorem dJ6_bitCount_0f7a4_26 : decode cJ6_bitCount_0f7a4 26 = .ok (.iconst 4, 1) := by decide +kernel
theorem dJ6_bitCount_0f7a4_27 : decode cJ6_bitCount_0f7a4 27 = .ok (.iushr, 1) := by decide +kernel
theorem dJ6_bitCount_0f7a4_28 : decode cJ6_bitCount_0f7a4 28 = .ok (.iadd, 1) := by decide +kernel
theorem dJ6_bitCount_0f7a4_29 : decode cJ6_bitCount_0f7a4 29 = .ok (.ldc_w 267, 3) := by decide +kernel
theorem dJ6_bitCount_0f7a4_32 : decode cJ6_bitCount_0f7a4 32 = .ok (.iand, 1) := by decide +kernel
theorem dJ6_bitCount_0f7a4_33 : decode cJ6_bitCount_0f7a4 33 = .ok (.istore_n 0, 1) := by decide +kernel
theorem dJ6_bitCount_0f7a4_34 : decode cJ6_bitCount_0f7a4 34 = .ok (.iload_n 0, 1) := by decide +kernel
theorem dJ6_bitCount_0f7a4_35 : decode cJ6_bitCount_0f7a4 35 = .ok (.iload_n 0, 1) := by decide +kernel
theorem dJ6_bitCount_0f7a4_36 : decode cJ6_bitCount_0f7a4 36 = .ok (.bipush 8, 2) := by decide +kernel
theorem dJ6_bitCount_0f7a4_38 : decode cJ6_bitCount_0f7a4 38 = .ok (.iushr, 1) := by decide +kernel
theorem dJ6_bitCount_0f7a4_39 : decode cJ6_bitCount_0f7a4 39 = .ok (.iadd, 1) := by decide +kernel
theorem dJ6_bitCount_0f7a4_40 : decode cJ6_bitCount_0f7a4 40 = .ok (.istore_n 0, 1) := by decide +kernel
theorem dJ6_bitCount_0f7a4_41 : decode cJ6_bitCount_0f7a4 41 = .ok (.iload_n 0, 1) := by decide +kernel
theorem dJ6_bitCount_0f7a4_42 : decode cJ6_bitCount_0f7a4 42 = .ok (.iload_n 0, 1) := by decide +kernel
theorem dJ6_bitCount_0f7a4_43 : decode cJ6_bitCount_0f7a4 43 = .ok (.bipush 16, 2) := by decide +kernel
theorem dJ6_bitCount_0f7a4_45 : decode cJ6_bitCount_0f7a4 45 = .ok (.iushr, 1) := by decide +kernel
theorem dJ6_bitCount_0f7a4_46 : decode cJ6_bitCount_0f7a4 46 = .ok (.iadd, 1) := by decide +kernel
theorem dJ6_bitCount_0f7a4_47 : decode cJ6_bitCount_0f7a4 47 = .ok (.istore_n 0, 1) := by decide +kernel
theorem dJ6_bitCount_0f7a4_48 : decode cJ6_bitCount_0f7a4 48 = .ok (.iload_n 0, 1) := by decide +kernel
theorem dJ6_bitCount_0f7a4_49 : decode cJ6_bitCount_0f7a4 49 = .ok (.bipush 63, 2) := by decide +kernel
theorem dJ6_bitCount_0f7a4_51 : decode cJ6_bitCount_0f7a4 51 = .ok (.iand, 1) := by decide +kernel
theorem dJ6_bitCount_0f7a4_52 : decode cJ6_bitCount_0f7a4 52 = .ok (.ireturn, 1) := by decide +kernel
theorem dJ9_max_7cf53_0 : decode cJ9_max_7cf53 0 = .ok (.iload_n 0, 1) := by decide +kernel
theorem dJ9_max_7cf53_1 : decode cJ9_max_7cf53 1 = .ok (.iload_n 1, 1) := by decide +kernel
theorem dJ9_max_7cf53_2 : decode cJ9_max_7cf53 2 = .ok (.if_icmp .lt 7, 3) := by decide +kernel
theorem dJ9_max_7cf53_5 : decode cJ9_max_7cf53 5 = .ok (.iload_n 0, 1) := by decide +kernel
theorem dJ9_max_7cf53_6 : decode cJ9_max_7cf53 6 = .ok (.goto 4, 3) := by decide +kernel
theorem dJ9_max_7cf53_9 : decode cJ9_max_7cf53 9 = .ok (.iload_n 1, 1) := by decide +kernel
theorem dJ9_max_7cf53_10 : decode cJ9_max_7cf53 10 = .ok (.ireturn, 1) := by decide +kernel
theorem dJ9_min_7cf53_0 : decode cJ9_min_7cf53 0 = .ok (.iload_n 0, 1) := by decide +kernel
theorem dJ9_min_7cf53_1 : decode cJ9_min_7cf53 1 = .ok (.iload_n 1, 1) := by decide +kernel
theorem dJ9_min_7cf53_2 : decode cJ9_min_7cf53 2 = .ok (.if_icmp .gt 7, 3) := by decide +kernel
theorem dJ9_min_7cf53_5 : decode cJ9_min_7cf53 5 = .ok (.iload_n 0, 1) := by decide +kernel
theorem dJ9_min_7cf53_6 : decode cJ9_min_7cf53 6 = .ok (.goto 4, 3) := by decide +kernel
theorem dJ9_min_7cf53_9 : decode cJ9_min_7cf53 9 = .ok (.iload_n 1, 1) := by decide +kernel
theorem dJ9_min_7cf53_10 : decode cJ9_min_7cf53 10 = .ok (.ireturn, 1) := by decide +kernel
theorem dJ0_length_8abf5_0 : decode cJ0_length_8abf5 0 = .ok (.aload_n 0, 1) := by decide +kernel
theorem dJ0_length_8abf5_1 : decode cJ0_length_8abf5 1 = .ok (.getfield 9, 3) := by decide +kernel
theorem dJ0_length_8abf5_4 : decode cJ0_length_8abf5 4 = .ok (.arraylength, 1) := by decide +kernel
theorem dJ0_length_8abf5_5 : decode cJ0_length_8abf5 5 = .ok (.aload_n 0, 1) := by decide +kernel
theorem dJ0_length_8abf5_6 : decode cJ0_length_8abf5 6 = .ok (.invokevirtual 335, 3) := by decide +kernel
theorem dJ0_length_8abf5_9 : decode cJ0_length_8abf5 9 = .ok (.ishr, 1) := by decide +kernel
theorem dJ0_length_8abf5_10 : decode cJ0_length_8abf5 10 = .ok (.ireturn, 1) := by decide +kernel
theorem dJ0_charAt_5068e_0 : decode cJ0_charAt_5068e 0 = .ok (.aload_n 0, 1) := by decide +kernel
theorem dJ0_charAt_5068e_1 : decode cJ0_charAt_5068e 1 = .ok (.invokevirtual 492, 3) := by decide +kernel
theorem dJ0_charAt_5068e_4 : decode cJ0_charAt_5068e 4 = .ok (.ifCond .eq 12, 3) := by decide +kernel
theorem dJ0_charAt_5068e_7 : decode cJ0_charAt_5068e 7 = .ok (.aload_n 0, 1) := by decide +kernel
theorem dJ0_charAt_5068e_8 : decode cJ0_charAt_5068e 8 = .ok (.getfield 9, 3) := by decide +kernel
theorem dJ0_charAt_5068e_11 : decode cJ0_charAt_5068e 11 = .ok (.iload_n 1, 1) := by decide +kernel
theorem dJ0_charAt_5068e_12 : decode cJ0_charAt_5068e 12 = .ok (.invokestatic 495, 3) := by decide +kernel
theorem dJ0_charAt_5068e_15 : decode cJ0_charAt_5068e 15 = .ok (.ireturn, 1) := by decide +kernel
theorem dJ0_charAt_5068e_16 : decode cJ0_charAt_5068e 16 = .ok (.aload_n 0, 1) := by decide +kernel
theorem dJ0_charAt_5068e_17 : decode cJ0_charAt_5068e 17 = .ok (.getfield 9, 3) := by decide +kernel
theorem dJ0_charAt_5068e_20 : decode cJ0_charAt_5068e 20 = .ok (.iload_n 1, 1) := by decide +kernel
theorem dJ0_charAt_5068e_21 : decode cJ0_charAt_5068e 21 = .ok (.invokestatic 498, 3) := by decide +kernel
theorem dJ0_charAt_5068e_24 : decode cJ0_charAt_5068e 24 = .ok (.ireturn, 1) := by decide +kernel
theorem dJ0_coder_7d493_0 : decode cJ0_coder_7d493 0 = .ok (.getstatic 38, 3) := by decide +kernel
theorem dJ0_coder_7d493_3 : decode cJ0_coder_7d493 3 = .ok (.ifCond .eq 10, 3) := by decide +kernel
theorem dJ0_coder_7d493_6 : decode cJ0_coder_7d493 6 = .ok (.aload_n 0, 1) := by decide +kernel
theorem dJ0_coder_7d493_7 : decode cJ0_coder_7d493 7 = .ok (.getfield 15, 3) := by decide +kernel
theorem dJ0_coder_7d493_10 : decode cJ0_coder_7d493 10 = .ok (.goto 4, 3) := by decide +kernel
theorem dJ0_coder_7d493_13 : decode cJ0_coder_7d493 13 = .ok (.iconst 1, 1) := by decide +kernel
theorem dJ0_coder_7d493_14 : decode cJ0_coder_7d493 14 = .ok (.ireturn, 1) := by decide +kernel
theorem dJ0_isLatin1_aae02_0 : decode cJ0_isLatin1_aae02 0 = .ok (.getstatic 38, 3) := by decide +kernel
theorem dJ0_isLatin1_aae02_3 : decode cJ0_isLatin1_aae02 3 = .ok (.ifCond .eq 14, 3) := by decide +kernel
theorem dJ0_isLatin1_aae02_6 : decode cJ0_isLatin1_aae02 6 = .ok (.aload_n 0, 1) := by decide +kernel
theorem dJ0_isLatin1_aae02_7 : decode cJ0_isLatin1_aae02 7 = .ok (.getfield 15, 3) := by decide +kernel
theorem dJ0_isLatin1_aae02_10 : decode cJ0_isLatin1_aae02 10 = .ok (.ifCond .ne 7, 3) := by decide +kernel
theorem dJ0_isLatin1_aae02_13 : decode cJ0_isLatin1_aae02 13 = .ok (.iconst 1, 1) := by decide +kernel
theorem dJ0_isLatin1_aae02_14 : decode cJ0_isLatin1_aae02 14 = .ok (.goto 4, 3) := by decide +kernel
theorem dJ0_isLatin1_aae02_17 : decode cJ0_isLatin1_aae02 17 = .ok (.iconst 0, 1) := by decide +kernel
theorem dJ0_isLatin1_aae02_18 : decode cJ0_isLatin1_aae02 18 = .ok (.ireturn, 1) := by decide +kernel
theorem dJ0_checkIndex_df160_0 : decode cJ0_checkIndex_df160 0 = .ok (.iload_n 0, 1) := by decide +kernel
theorem dJ0_checkIndex_df160_1 : decode cJ0_checkIndex_df160 1 = .ok (.iload_n 1, 1) := by decide +kernel
theorem dJ0_checkIndex_df160_2 : decode cJ0_checkIndex_df160 2 = .ok (.getstatic 1053, 3) := by decide +kernel
theorem dJ0_checkIndex_df160_5 : decode cJ0_checkIndex_df160 5 = .ok (.invokestatic 1059, 3) := by decide +kernel
theorem dJ0_checkIndex_df160_8 : decode cJ0_checkIndex_df160 8 = .ok (.pop, 1) := by decide +kernel
theorem dJ0_checkIndex_df160_9 : decode cJ0_checkIndex_df160 9 = .ok (.return_, 1) := by decide +kernel
theorem dJ1_charAt_3b067_0 : decode cJ1_charAt_3b067 0 = .ok (.iload_n 1, 1) := by decide +kernel
theorem dJ1_charAt_3b067_1 : decode cJ1_charAt_3b067 1 = .ok (.aload_n 0, 1) := by decide +kernel
theorem dJ1_charAt_3b067_2 : decode cJ1_charAt_3b067 2 = .ok (.arraylength, 1) := by decide +kernel
theorem dJ1_charAt_3b067_3 : decode cJ1_charAt_3b067 3 = .ok (.invokestatic 9, 3) := by decide +kernel
theorem dJ1_charAt_3b067_6 : decode cJ1_charAt_3b067 6 = .ok (.aload_n 0, 1) := by decide +kernel
theorem dJ1_charAt_3b067_7 : decode cJ1_charAt_3b067 7 = .ok (.iload_n 1, 1) := by decide +kernel
theorem dJ1_charAt_3b067_8 : decode cJ1_charAt_3b067 8 = .ok (.baload, 1) := by decide +kernel
theorem dJ1_charAt_3b067_9 : decode cJ1_charAt_3b067 9 = .ok (.sipush 255, 3) := by decide +kernel
theorem dJ1_charAt_3b067_12 : decode cJ1_charAt_3b067 12 = .ok (.iand, 1) := by decide +kernel
theorem dJ1_charAt_3b067_13 : decode cJ1_charAt_3b067 13 = .ok (.i2c, 1) := by decide +kernel
theorem dJ1_charAt_3b067_14 : decode cJ1_charAt_3b067 14 = .ok (.ireturn, 1) := by decide +kernel
theorem dJ2_getChar_3b067_0 : decode cJ2_getChar_3b067 0 = .ok (.getstatic 44, 3) := by decide +kernel
theorem dJ2_getChar_3b067_3 : decode cJ2_getChar_3b067 3 = .ok (.ifCond .ne 25, 3) := by decide +kernel
theorem dJ2_getChar_3b067_6 : decode cJ2_getChar_3b067 6 = .ok (.iload_n 1, 1) := by decide +kernel
theorem dJ2_getChar_3b067_7 : decode cJ2_getChar_3b067 7 = .ok (.ifCond .lt 11, 3) := by decide +kernel
theorem dJ2_getChar_3b067_10 : decode cJ2_getChar_3b067 10 = .ok (.iload_n 1, 1) := by decide +kernel
theorem dJ2_getChar_3b067_11 : decode cJ2_getChar_3b067 11 = .ok (.aload_n 0, 1) := by decide +kernel
theorem dJ2_getChar_3b067_12 : decode cJ2_getChar_3b067 12 = .ok (.invokestatic 48, 3) := by decide +kernel
theorem dJ2_getChar_3b067_15 : decode cJ2_getChar_3b067 15 = .ok (.if_icmp .lt 13, 3) := by decide +kernel
theorem dJ2_getChar_3b067_18 : decode cJ2_getChar_3b067 18 = .ok (.new 52, 3) := by decide +kernel
theorem dJ2_getChar_3b067_21 : decode cJ2_getChar_3b067 21 = .ok (.dup, 1) := by decide +kernel
theorem dJ2_getChar_3b067_22 : decode cJ2_getChar_3b067 22 = .ok (.ldc 54, 2) := by decide +kernel
theorem dJ2_getChar_3b067_24 : decode cJ2_getChar_3b067 24 = .ok (.invokespecial 56, 3) := by decide +kernel
theorem dJ2_getChar_3b067_27 : decode cJ2_getChar_3b067 27 = .ok (.athrow, 1) := by decide +kernel
theorem dJ2_getChar_3b067_28 : decode cJ2_getChar_3b067 28 = .ok (.iload_n 1, 1) := by decide +kernel
theorem dJ2_getChar_3b067_29 : decode cJ2_getChar_3b067 29 = .ok (.iconst 1, 1) := by decide +kernel
theorem dJ2_getChar_3b067_30 : decode cJ2_getChar_3b067 30 = .ok (.ishl, 1) := by decide +kernel
theorem dJ2_getChar_3b067_31 : decode cJ2_getChar_3b067 31 = .ok (.istore_n 1, 1) := by decide +kernel
theorem dJ2_getChar_3b067_32 : decode cJ2_getChar_3b067 32 = .ok (.aload_n 0, 1) := by decide +kernel
theorem dJ2_getChar_3b067_33 : decode cJ2_getChar_3b067 33 = .ok (.iload_n 1, 1) := by decide +kernel
theorem dJ2_getChar_3b067_34 : decode cJ2_getChar_3b067 34 = .ok (.iinc 1 1, 3) := by decide +kernel
theorem dJ2_getChar_3b067_37 : decode cJ2_getChar_3b067 37 = .ok (.baload, 1) := by decide +kernel
theorem dJ2_getChar_3b067_38 : decode cJ2_getChar_3b067 38 = .ok (.sipush 255, 3) := by decide +kernel
theorem dJ2_getChar_3b067_41 : decode cJ2_getChar_3b067 41 = .ok (.iand, 1) := by decide +kernel
theorem dJ2_getChar_3b067_42 : decode cJ2_getChar_3b067 42 = .ok (.getstatic 59, 3) := by decide +kernel
theorem dJ2_getChar_3b067_45 : decode cJ2_getChar_3b067 45 = .ok (.ishl, 1) := by decide +kernel
theorem dJ2_getChar_3b067_46 : decode cJ2_getChar_3b067 46 = .ok (.aload_n 0, 1) := by decide +kernel
theorem dJ2_getChar_3b067_47 : decode cJ2_getChar_3b067 47 = .ok (.iload_n 1, 1) := by decide +kernel
theorem dJ2_getChar_3b067_48 : decode cJ2_getChar_3b067 48 = .ok (.baload, 1) := by decide +kernel
theorem dJ2_getChar_3b067_49 : decode cJ2_getChar_3b067 49 = .ok (.sipush 255, 3) := by decide +kernel
theorem dJ2_getChar_3b067_52 : decode cJ2_getChar_3b067 52 = .ok (.iand, 1) := by decide +kernel
theorem dJ2_getChar_3b067_53 : decode cJ2_getChar_3b067 53 = .ok (.getstatic 63, 3) := by decide +kernel
theorem dJ2_getChar_3b067_56 : decode cJ2_getChar_3b067 56 = .ok (.ishl, 1) := by decide +kernel
theorem dJ2_getChar_3b067_57 : decode cJ2_getChar_3b067 57 = .ok (.ior, 1) := by decide +kernel
theorem dJ2_getChar_3b067_58 : decode cJ2_getChar_3b067 58 = .ok (.i2c, 1) := by decide +kernel
theorem dJ2_getChar_3b067_59 : decode cJ2_getChar_3b067 59 = .ok (.ireturn, 1) := by decide +kernel
theorem dJ2_length_9d52b_0 : decode cJ2_length_9d52b 0 = .ok (.aload_n 0, 1) := by decide +kernel
theorem dJ2_length_9d52b_1 : decode cJ2_length_9d52b 1 = .ok (.arraylength, 1) := by decide +kernel
theorem dJ2_length_9d52b_2 : decode cJ2_length_9d52b 2 = .ok (.iconst 1, 1) := by decide +kernel
theorem dJ2_length_9d52b_3 : decode cJ2_length_9d52b 3 = .ok (.ishr, 1) := by decide +kernel
theorem dJ2_length_9d52b_4 : decode cJ2_length_9d52b 4 = .ok (.ireturn, 1) := by decide +kernel
theorem dJ2_charAt_3b067_0 : decode cJ2_charAt_3b067 0 = .ok (.iload_n 1, 1) := by decide +kernel
theorem dJ2_charAt_3b067_1 : decode cJ2_charAt_3b067 1 = .ok (.aload_n 0, 1) := by decide +kernel
theorem dJ2_charAt_3b067_2 : decode cJ2_charAt_3b067 2 = .ok (.invokestatic 67, 3) := by decide +kernel
theorem dJ2_charAt_3b067_5 : decode cJ2_charAt_3b067 5 = .ok (.aload_n 0, 1) := by decide +kernel
theorem dJ2_charAt_3b067_6 : decode cJ2_charAt_3b067 6 = .ok (.iload_n 1, 1) := by decide +kernel
theorem dJ2_charAt_3b067_7 : decode cJ2_charAt_3b067 7 = .ok (.invokestatic 71, 3) := by decide +kernel
theorem dJ2_charAt_3b067_10 : decode cJ2_charAt_3b067 10 = .ok (.ireturn, 1) := by decide +kernel
theorem dJ2_checkIndex_2214a_0 : decode cJ2_checkIndex_2214a 0 = .ok (.iload_n 0, 1) := by decide +kernel
theorem dJ2_checkIndex_2214a_1 : decode cJ2_checkIndex_2214a 1 = .ok (.aload_n 1, 1) := by decide +kernel
theorem dJ2_checkIndex_2214a_2 : decode cJ2_checkIndex_2214a 2 = .ok (.invokestatic 48, 3) := by decide +kernel
theorem dJ2_checkIndex_2214a_5 : decode cJ2_checkIndex_2214a 5 = .ok (.invokestatic 414, 3) := by decide +kernel
theorem dJ2_checkIndex_2214a_8 : decode cJ2_checkIndex_2214a 8 = .ok (.return_, 1) := by decide +kernel
theorem dJ3_checkIndex_8e157_0 : decode cJ3_checkIndex_8e157 0 = .ok (.iload_n 0, 1) := by decide +kernel
theorem dJ3_checkIndex_8e157_1 : decode cJ3_checkIndex_8e157 1 = .ok (.ifCond .lt 8, 3) := by decide +kernel
theorem dJ3_checkIndex_8e157_4 : decode cJ3_checkIndex_8e157 4 = .ok (.iload_n 0, 1) := by decide +kernel
theorem dJ3_checkIndex_8e157_5 : decode cJ3_checkIndex_8e157 5 = .ok (.iload_n 1, 1) := by decide +kernel
theorem dJ3_checkIndex_8e157_6 : decode cJ3_checkIndex_8e157 6 = .ok (.if_icmp .lt 10, 3) := by decide +kernel
theorem dJ3_checkIndex_8e157_9 : decode cJ3_checkIndex_8e157 9 = .ok (.aload_n 2, 1) := by decide +kernel
theorem dJ3_checkIndex_8e157_10 : decode cJ3_checkIndex_8e157 10 = .ok (.iload_n 0, 1) := by decide +kernel
theorem dJ3_checkIndex_8e157_11 : decode cJ3_checkIndex_8e157 11 = .ok (.iload_n 1, 1) := by decide +kernel
theorem dJ3_checkIndex_8e157_12 : decode cJ3_checkIndex_8e157 12 = .ok (.invokestatic 95, 3) := by decide +kernel
theorem dJ3_checkIndex_8e157_15 : decode cJ3_checkIndex_8e157 15 = .ok (.athrow, 1) := by decide +kernel
theorem dJ3_checkIndex_8e157_16 : decode cJ3_checkIndex_8e157 16 = .ok (.iload_n 0, 1) := by decide +kernel
theorem dJ3_checkIndex_8e157_17 : decode cJ3_checkIndex_8e157 17 = .ok (.ireturn, 1) := by decide +kernel
theorem dL_law_0 : decode cL_law 0 = .ok (.new 7, 3) := by decide +kernel
theorem dL_law_3 : decode cL_law 3 = .ok (.dup, 1) := by decide +kernel
theorem dL_law_4 : decode cL_law 4 = .ok (.invokespecial 9, 3) := by decide +kernel
theorem dL_law_7 : decode cL_law 7 = .ok (.astore_n 1, 1) := by decide +kernel
theorem dL_law_8 : decode cL_law 8 = .ok (.new 10, 3) := by decide +kernel
theorem dL_law_11 : decode cL_law 11 = .ok (.dup, 1) := by decide +kernel
theorem dL_law_12 : decode cL_law 12 = .ok (.invokespecial 12, 3) := by decide +kernel
theorem dL_law_15 : decode cL_law 15 = .ok (.astore_n 2, 1) := by decide +kernel
theorem dL_law_16 : decode cL_law 16 = .ok (.iconst 0, 1) := by decide +kernel
theorem dL_law_17 : decode cL_law 17 = .ok (.istore_n 3, 1) := by decide +kernel
theorem dL_law_18 : decode cL_law 18 = .ok (.iload_n 3, 1) := by decide +kernel
theorem dL_law_19 : decode cL_law 19 = .ok (.aload_n 0, 1) := by decide +kernel
theorem dL_law_20 : decode cL_law 20 = .ok (.arraylength, 1) := by decide +kernel
theorem dL_law_21 : decode cL_law 21 = .ok (.bipush 7, 2) := by decide +kernel
theorem dL_law_23 : decode cL_law 23 = .ok (.isub, 1) := by decide +kernel
theorem dL_law_24 : decode cL_law 24 = .ok (.if_icmp .gt 1238, 3) := by decide +kernel
theorem dL_law_27 : decode cL_law 27 = .ok (.aload_n 0, 1) := by decide +kernel
theorem dL_law_28 : decode cL_law 28 = .ok (.iload_n 3, 1) := by decide +kernel
theorem dL_law_29 : decode cL_law 29 = .ok (.iaload, 1) := by decide +kernel
theorem dL_law_30 : decode cL_law 30 = .ok (.bipush 63, 2) := by decide +kernel
theorem dL_law_32 : decode cL_law 32 = .ok (.iand, 1) := by decide +kernel
theorem dL_law_33 : decode cL_law 33 = .ok (.tableswitch 1223 0 36 #[163, 186, 239, 272, 305, 328, 351, 426, 449, 472, 485, 498, 521, 534, 567, 600, 623, 636, 649, 682, 695, 748, 791, 814, 827, 860, 883, 942, 975, 1008, 1051, 1094, 1117, 1140, 1163, 1186, 1209], 163) := by decide +kernel
theorem dL_law_196 : decode cL_law 196 = .ok (.aload_n 1, 1) := by decide +kernel
theorem dL_law_197 : decode cL_law 197 = .ok (.aload_n 0, 1) := by decide +kernel
theorem dL_law_198 : decode cL_law 198 = .ok (.iload_n 3, 1) := by decide +kernel
theorem dL_law_199 : decode cL_law 199 = .ok (.iconst 1, 1) := by decide +kernel
theorem dL_law_200 : decode cL_law 200 = .ok (.iadd, 1) := by decide +kernel
theorem dL_law_201 : decode cL_law 201 = .ok (.iaload, 1) := by decide +kernel
theorem dL_law_202 : decode cL_law 202 = .ok (.invokevirtual 13, 3) := by decide +kernel
theorem dL_law_205 : decode cL_law 205 = .ok (.aload_n 2, 1) := by decide +kernel
theorem dL_law_206 : decode cL_law 206 = .ok (.aload_n 0, 1) := by decide +kernel
theorem dL_law_207 : decode cL_law 207 = .ok (.iload_n 3, 1) := by decide +kernel
theorem dL_law_208 : decode cL_law 208 = .ok (.iconst 1, 1) := by decide +kernel
theorem dL_law_209 : decode cL_law 209 = .ok (.iadd, 1) := by decide +kernel
theorem dL_law_210 : decode cL_law 210 = .ok (.iaload, 1) := by decide +kernel
theorem dL_law_211 : decode cL_law 211 = .ok (.invokevirtual 17, 3) := by decide +kernel
theorem dL_law_214 : decode cL_law 214 = .ok (.if_icmp .eq 1042, 3) := by decide +kernel
theorem dL_law_217 : decode cL_law 217 = .ok (.iconst 0, 1) := by decide +kernel
theorem dL_law_218 : decode cL_law 218 = .ok (.ireturn, 1) := by decide +kernel
theorem dL_law_219 : decode cL_law 219 = .ok (.aload_n 1, 1) := by decide +kernel
theorem dL_law_220 : decode cL_law 220 = .ok (.aload_n 0, 1) := by decide +kernel
theorem dL_law_221 : decode cL_law 221 = .ok (.iload_n 3, 1) := by decide +kernel
theorem dL_law_222 : decode cL_law 222 = .ok (.iconst 1, 1) := by decide +kernel
theorem dL_law_223 : decode cL_law 223 = .ok (.iadd, 1) := by decide +kernel
theorem dL_law_224 : decode cL_law 224 = .ok (.iaload, 1) := by decide +kernel
theorem dL_law_225 : decode cL_law 225 = .ok (.aload_n 0, 1) := by decide +kernel
theorem dL_law_226 : decode cL_law 226 = .ok (.iload_n 3, 1) := by decide +kernel
theorem dL_law_227 : decode cL_law 227 = .ok (.iconst 2, 1) := by decide +kernel
theorem dL_law_228 : decode cL_law 228 = .ok (.iadd, 1) := by decide +kernel
theorem dL_law_229 : decode cL_law 229 = .ok (.iaload, 1) := by decide +kernel
theorem dL_law_230 : decode cL_law 230 = .ok (.aload_n 0, 1) := by decide +kernel
theorem dL_law_231 : decode cL_law 231 = .ok (.iload_n 3, 1) := by decide +kernel
theorem dL_law_232 : decode cL_law 232 = .ok (.iconst 3, 1) := by decide +kernel
theorem dL_law_233 : decode cL_law 233 = .ok (.iadd, 1) := by decide +kernel
theorem dL_law_234 : decode cL_law 234 = .ok (.iaload, 1) := by decide +kernel
theorem dL_law_235 : decode cL_law 235 = .ok (.aload_n 0, 1) := by decide +kernel
theorem dL_law_236 : decode cL_law 236 = .ok (.iload_n 3, 1) := by decide +kernel
theorem dL_law_237 : decode cL_law 237 = .ok (.iconst 4, 1) := by decide +kernel
theorem dL_law_238 : decode cL_law 238 = .ok (.iadd, 1) := by decide +kernel
theorem dL_law_239 : decode cL_law 239 = .ok (.iaload, 1) := by decide +kernel
theorem dL_law_240 : decode cL_law 240 = .ok (.invokevirtual 18, 3) := by decide +kernel
theorem dL_law_243 : decode cL_law 243 = .ok (.aload_n 2, 1) := by decide +kernel
theorem dL_law_244 : decode cL_law 244 = .ok (.aload_n 0, 1) := by decide +kernel
theorem dL_law_245 : decode cL_law 245 = .ok (.iload_n 3, 1) := by decide +kernel
theorem dL_law_246 : decode cL_law 246 = .ok (.iconst 1, 1) := by decide +kernel
theorem dL_law_247 : decode cL_law 247 = .ok (.iadd, 1) := by decide +kernel
theorem dL_law_248 : decode cL_law 248 = .ok (.iaload, 1) := by decide +kernel
theorem dL_law_249 : decode cL_law 249 = .ok (.aload_n 0, 1) := by decide +kernel
theorem dL_law_250 : decode cL_law 250 = .ok (.iload_n 3, 1) := by decide +kernel
theorem dL_law_251 : decode cL_law 251 = .ok (.iconst 2, 1) := by decide +kernel
theorem dL_law_252 : decode cL_law 252 = .ok (.iadd, 1) := by decide +kernel
theorem dL_law_253 : decode cL_law 253 = .ok (.iaload, 1) := by decide +kernel
theorem dL_law_254 : decode cL_law 254 = .ok (.aload_n 0, 1) := by decide +kernel
theorem dL_law_255 : decode cL_law 255 = .ok (.iload_n 3, 1) := by decide +kernel
theorem dL_law_256 : decode cL_law 256 = .ok (.iconst 3, 1) := by decide +kernel
theorem dL_law_257 : decode cL_law 257 = .ok (.iadd, 1) := by decide +kernel
theorem dL_law_258 : decode cL_law 258 = .ok (.iaload, 1) := by decide +kernel
theorem dL_law_259 : decode cL_law 259 = .ok (.aload_n 0, 1) := by decide +kernel
theorem dL_law_260 : decode cL_law 260 = .ok (.iload_n 3, 1) := by decide +kernel
theorem dL_law_261 : decode cL_law 261 = .ok (.iconst 4, 1) := by decide +kernel
theorem dL_law_262 : decode cL_law 262 = .ok (.iadd, 1) := by decide +kernel
theorem dL_law_263 : decode cL_law 263 = .ok (.iaload, 1) := by decide +kernel
theorem dL_law_264 : decode cL_law 264 = .ok (.invokevirtual 22, 3) := by decide +kernel
theorem dL_law_267 : decode cL_law 267 = .ok (.if_icmp .eq 989, 3) := by decide +kernel
theorem dL_law_270 : decode cL_law 270 = .ok (.iconst 0, 1) := by decide +kernel
theorem dL_law_271 : decode cL_law 271 = .ok (.ireturn, 1) := by decide +kernel
theorem dL_law_272 : decode cL_law 272 = .ok (.aload_n 1, 1) := by decide +kernel
theorem dL_law_273 : decode cL_law 273 = .ok (.aload_n 0, 1) := by decide +kernel
theorem dL_law_274 : decode cL_law 274 = .ok (.iload_n 3, 1) := by decide +kernel
theorem dL_law_275 : decode cL_law 275 = .ok (.iconst 1, 1) := by decide +kernel
theorem dL_law_276 : decode cL_law 276 = .ok (.iadd, 1) := by decide +kernel
theorem dL_law_277 : decode cL_law 277 = .ok (.iaload, 1) := by decide +kernel
theorem dL_law_278 : decode cL_law 278 = .ok (.aload_n 0, 1) := by decide +kernel
theorem dL_law_279 : decode cL_law 279 = .ok (.iload_n 3, 1) := by decide +kernel
theorem dL_law_280 : decode cL_law 280 = .ok (.iconst 2, 1) := by decide +kernel
theorem dL_law_281 : decode cL_law 281 = .ok (.iadd, 1) := by decide +kernel
theorem dL_law_282 : decode cL_law 282 = .ok (.iaload, 1) := by decide +kernel
theorem dL_law_283 : decode cL_law 283 = .ok (.invokevirtual 23, 3) := by decide +kernel
theorem dL_law_286 : decode cL_law 286 = .ok (.aload_n 2, 1) := by decide +kernel
theorem dL_law_287 : decode cL_law 287 = .ok (.aload_n 0, 1) := by decide +kernel
theorem dL_law_288 : decode cL_law 288 = .ok (.iload_n 3, 1) := by decide +kernel
theorem dL_law_289 : decode cL_law 289 = .ok (.iconst 1, 1) := by decide +kernel
theorem dL_law_290 : decode cL_law 290 = .ok (.iadd, 1) := by decide +kernel
theorem dL_law_291 : decode cL_law 291 = .ok (.iaload, 1) := by decide +kernel
theorem dL_law_292 : decode cL_law 292 = .ok (.aload_n 0, 1) := by decide +kernel
theorem dL_law_293 : decode cL_law 293 = .ok (.iload_n 3, 1) := by decide +kernel
theorem dL_law_294 : decode cL_law 294 = .ok (.iconst 2, 1) := by decide +kernel
theorem dL_law_295 : decode cL_law 295 = .ok (.iadd, 1) := by decide +kernel
theorem dL_law_296 : decode cL_law 296 = .ok (.iaload, 1) := by decide +kernel
theorem dL_law_297 : decode cL_law 297 = .ok (.invokevirtual 27, 3) := by decide +kernel
theorem dL_law_300 : decode cL_law 300 = .ok (.if_icmp .eq 956, 3) := by decide +kernel
theorem dL_law_303 : decode cL_law 303 = .ok (.iconst 0, 1) := by decide +kernel
theorem dL_law_304 : decode cL_law 304 = .ok (.ireturn, 1) := by decide +kernel
theorem dL_law_305 : decode cL_law 305 = .ok (.aload_n 1, 1) := by decide +kernel
theorem dL_law_306 : decode cL_law 306 = .ok (.aload_n 0, 1) := by decide +kernel
theorem dL_law_307 : decode cL_law 307 = .ok (.iload_n 3, 1) := by decide +kernel
theorem dL_law_308 : decode cL_law 308 = .ok (.iconst 1, 1) := by decide +kernel
theorem dL_law_309 : decode cL_law 309 = .ok (.iadd, 1) := by decide +kernel
theorem dL_law_310 : decode cL_law 310 = .ok (.iaload, 1) := by decide +kernel
theorem dL_law_311 : decode cL_law 311 = .ok (.aload_n 0, 1) := by decide +kernel
theorem dL_law_312 : decode cL_law 312 = .ok (.iload_n 3, 1) := by decide +kernel
theorem dL_law_313 : decode cL_law 313 = .ok (.iconst 2, 1) := by decide +kernel
theorem dL_law_314 : decode cL_law 314 = .ok (.iadd, 1) := by decide +kernel
theorem dL_law_315 : decode cL_law 315 = .ok (.iaload, 1) := by decide +kernel
theorem dL_law_316 : decode cL_law 316 = .ok (.invokevirtual 28, 3) := by decide +kernel
theorem dL_law_319 : decode cL_law 319 = .ok (.aload_n 2, 1) := by decide +kernel
theorem dL_law_320 : decode cL_law 320 = .ok (.aload_n 0, 1) := by decide +kernel
theorem dL_law_321 : decode cL_law 321 = .ok (.iload_n 3, 1) := by decide +kernel
theorem dL_law_322 : decode cL_law 322 = .ok (.iconst 1, 1) := by decide +kernel
theorem dL_law_323 : decode cL_law 323 = .ok (.iadd, 1) := by decide +kernel
theorem dL_law_324 : decode cL_law 324 = .ok (.iaload, 1) := by decide +kernel
theorem dL_law_325 : decode cL_law 325 = .ok (.aload_n 0, 1) := by decide +kernel
theorem dL_law_326 : decode cL_law 326 = .ok (.iload_n 3, 1) := by decide +kernel
theorem dL_law_327 : decode cL_law 327 = .ok (.iconst 2, 1) := by decide +kernel
theorem dL_law_328 : decode cL_law 328 = .ok (.iadd, 1) := by decide +kernel
theorem dL_law_329 : decode cL_law 329 = .ok (.iaload, 1) := by decide +kernel
theorem dL_law_330 : decode cL_law 330 = .ok (.invokevirtual 31, 3) := by decide +kernel
theorem dL_law_333 : decode cL_law 333 = .ok (.if_icmp .eq 923, 3) := by decide +kernel
theorem dL_law_336 : decode cL_law 336 = .ok (.iconst 0, 1) := by decide +kernel
theorem dL_law_337 : decode cL_law 337 = .ok (.ireturn, 1) := by decide +kernel
theorem dL_law_338 : decode cL_law 338 = .ok (.aload_n 1, 1) := by decide +kernel
theorem dL_law_339 : decode cL_law 339 = .ok (.aload_n 0, 1) := by decide +kernel
theorem dL_law_340 : decode cL_law 340 = .ok (.iload_n 3, 1) := by decide +kernel
theorem dL_law_341 : decode cL_law 341 = .ok (.iconst 1, 1) := by decide +kernel
theorem dL_law_342 : decode cL_law 342 = .ok (.iadd, 1) := by decide +kernel
theorem dL_law_343 : decode cL_law 343 = .ok (.iaload, 1) := by decide +kernel
theorem dL_law_344 : decode cL_law 344 = .ok (.invokevirtual 32, 3) := by decide +kernel
theorem dL_law_347 : decode cL_law 347 = .ok (.aload_n 2, 1) := by decide +kernel
theorem dL_law_348 : decode cL_law 348 = .ok (.aload_n 0, 1) := by decide +kernel
theorem dL_law_349 : decode cL_law 349 = .ok (.iload_n 3, 1) := by decide +kernel
theorem dL_law_350 : decode cL_law 350 = .ok (.iconst 1, 1) := by decide +kernel
theorem dL_law_351 : decode cL_law 351 = .ok (.iadd, 1) := by decide +kernel
theorem dL_law_352 : decode cL_law 352 = .ok (.iaload, 1) := by decide +kernel
theorem dL_law_353 : decode cL_law 353 = .ok (.invokevirtual 35, 3) := by decide +kernel
theorem dL_law_356 : decode cL_law 356 = .ok (.if_icmp .eq 900, 3) := by decide +kernel
theorem dL_law_359 : decode cL_law 359 = .ok (.iconst 0, 1) := by decide +kernel
theorem dL_law_360 : decode cL_law 360 = .ok (.ireturn, 1) := by decide +kernel
theorem dL_law_361 : decode cL_law 361 = .ok (.aload_n 1, 1) := by decide +kernel
theorem dL_law_362 : decode cL_law 362 = .ok (.aload_n 0, 1) := by decide +kernel
theorem dL_law_363 : decode cL_law 363 = .ok (.iload_n 3, 1) := by decide +kernel
theorem dL_law_364 : decode cL_law 364 = .ok (.iconst 1, 1) := by decide +kernel
theorem dL_law_365 : decode cL_law 365 = .ok (.iadd, 1) := by decide +kernel
theorem dL_law_366 : decode cL_law 366 = .ok (.iaload, 1) := by decide +kernel
theorem dL_law_367 : decode cL_law 367 = .ok (.invokevirtual 36, 3) := by decide +kernel
theorem dL_law_370 : decode cL_law 370 = .ok (.aload_n 2, 1) := by decide +kernel
theorem dL_law_371 : decode cL_law 371 = .ok (.aload_n 0, 1) := by decide +kernel
theorem dL_law_372 : decode cL_law 372 = .ok (.iload_n 3, 1) := by decide +kernel
theorem dL_law_373 : decode cL_law 373 = .ok (.iconst 1, 1) := by decide +kernel
theorem dL_law_374 : decode cL_law 374 = .ok (.iadd, 1) := by decide +kernel
theorem dL_law_375 : decode cL_law 375 = .ok (.iaload, 1) := by decide +kernel
theorem dL_law_376 : decode cL_law 376 = .ok (.invokevirtual 39, 3) := by decide +kernel
theorem dL_law_379 : decode cL_law 379 = .ok (.if_icmp .eq 877, 3) := by decide +kernel
theorem dL_law_382 : decode cL_law 382 = .ok (.iconst 0, 1) := by decide +kernel
theorem dL_law_383 : decode cL_law 383 = .ok (.ireturn, 1) := by decide +kernel
theorem dL_law_384 : decode cL_law 384 = .ok (.aload_n 1, 1) := by decide +kernel
theorem dL_law_385 : decode cL_law 385 = .ok (.aload_n 0, 1) := by decide +kernel
theorem dL_law_386 : decode cL_law 386 = .ok (.iload_n 3, 1) := by decide +kernel
theorem dL_law_387 : decode cL_law 387 = .ok (.iconst 1, 1) := by decide +kernel
theorem dL_law_388 : decode cL_law 388 = .ok (.iadd, 1) := by decide +kernel
theorem dL_law_389 : decode cL_law 389 = .ok (.iaload, 1) := by decide +kernel
theorem dL_law_390 : decode cL_law 390 = .ok (.aload_n 0, 1) := by decide +kernel
theorem dL_law_391 : decode cL_law 391 = .ok (.iload_n 3, 1) := by decide +kernel
theorem dL_law_392 : decode cL_law 392 = .ok (.iconst 2, 1) := by decide +kernel
theorem dL_law_393 : decode cL_law 393 = .ok (.iadd, 1) := by decide +kernel
theorem dL_law_394 : decode cL_law 394 = .ok (.iaload, 1) := by decide +kernel
theorem dL_law_395 : decode cL_law 395 = .ok (.aload_n 0, 1) := by decide +kernel
theorem dL_law_396 : decode cL_law 396 = .ok (.iload_n 3, 1) := by decide +kernel
theorem dL_law_397 : decode cL_law 397 = .ok (.iconst 3, 1) := by decide +kernel
theorem dL_law_398 : decode cL_law 398 = .ok (.iadd, 1) := by decide +kernel
theorem dL_law_399 : decode cL_law 399 = .ok (.iaload, 1) := by decide +kernel
theorem dL_law_400 : decode cL_law 400 = .ok (.aload_n 0, 1) := by decide +kernel
theorem dL_law_401 : decode cL_law 401 = .ok (.iload_n 3, 1) := by decide +kernel
theorem dL_law_402 : decode cL_law 402 = .ok (.iconst 4, 1) := by decide +kernel
theorem dL_law_403 : decode cL_law 403 = .ok (.iadd, 1) := by decide +kernel
theorem dL_law_404 : decode cL_law 404 = .ok (.iaload, 1) := by decide +kernel
theorem dL_law_405 : decode cL_law 405 = .ok (.aload_n 0, 1) := by decide +kernel
theorem dL_law_406 : decode cL_law 406 = .ok (.iload_n 3, 1) := by decide +kernel
theorem dL_law_407 : decode cL_law 407 = .ok (.iconst 5, 1) := by decide +kernel
theorem dL_law_408 : decode cL_law 408 = .ok (.iadd, 1) := by decide +kernel
theorem dL_law_409 : decode cL_law 409 = .ok (.iaload, 1) := by decide +kernel
theorem dL_law_410 : decode cL_law 410 = .ok (.aload_n 0, 1) := by decide +kernel
theorem dL_law_411 : decode cL_law 411 = .ok (.iload_n 3, 1) := by decide +kernel
theorem dL_law_412 : decode cL_law 412 = .ok (.bipush 6, 2) := by decide +kernel
theorem dL_law_414 : decode cL_law 414 = .ok (.iadd, 1) := by decide +kernel
theorem dL_law_415 : decode cL_law 415 = .ok (.iaload, 1) := by decide +kernel
theorem dL_law_416 : decode cL_law 416 = .ok (.invokevirtual 40, 3) := by decide +kernel
theorem dL_law_419 : decode cL_law 419 = .ok (.aload_n 2, 1) := by decide +kernel
theorem dL_law_420 : decode cL_law 420 = .ok (.aload_n 0, 1) := by decide +kernel
theorem dL_law_421 : decode cL_law 421 = .ok (.iload_n 3, 1) := by decide +kernel
theorem dL_law_422 : decode cL_law 422 = .ok (.iconst 1, 1) := by decide +kernel
theorem dL_law_423 : decode cL_law 423 = .ok (.iadd, 1) := by decide +kernel
theorem dL_law_424 : decode cL_law 424 = .ok (.iaload, 1) := by decide +kernel
theorem dL_law_425 : decode cL_law 425 = .ok (.aload_n 0, 1) := by decide +kernel
theorem dL_law_426 : decode cL_law 426 = .ok (.iload_n 3, 1) := by decide +kernel
theorem dL_law_427 : decode cL_law 427 = .ok (.iconst 2, 1) := by decide +kernel
theorem dL_law_428 : decode cL_law 428 = .ok (.iadd, 1) := by decide +kernel
theorem dL_law_429 : decode cL_law 429 = .ok (.iaload, 1) := by decide +kernel
theorem dL_law_430 : decode cL_law 430 = .ok (.aload_n 0, 1) := by decide +kernel
theorem dL_law_431 : decode cL_law 431 = .ok (.iload_n 3, 1) := by decide +kernel
theorem dL_law_432 : decode cL_law 432 = .ok (.iconst 3, 1) := by decide +kernel
theorem dL_law_433 : decode cL_law 433 = .ok (.iadd, 1) := by decide +kernel
theorem dL_law_434 : decode cL_law 434 = .ok (.iaload, 1) := by decide +kernel
theorem dL_law_435 : decode cL_law 435 = .ok (.aload_n 0, 1) := by decide +kernel
theorem dL_law_436 : decode cL_law 436 = .ok (.iload_n 3, 1) := by decide +kernel
theorem dL_law_437 : decode cL_law 437 = .ok (.iconst 4, 1) := by decide +kernel
theorem dL_law_438 : decode cL_law 438 = .ok (.iadd, 1) := by decide +kernel
theorem dL_law_439 : decode cL_law 439 = .ok (.iaload, 1) := by decide +kernel
theorem dL_law_440 : decode cL_law 440 = .ok (.aload_n 0, 1) := by decide +kernel
theorem dL_law_441 : decode cL_law 441 = .ok (.iload_n 3, 1) := by decide +kernel
theorem dL_law_442 : decode cL_law 442 = .ok (.iconst 5, 1) := by decide +kernel
theorem dL_law_443 : decode cL_law 443 = .ok (.iadd, 1) := by decide +kernel
theorem dL_law_444 : decode cL_law 444 = .ok (.iaload, 1) := by decide +kernel
theorem dL_law_445 : decode cL_law 445 = .ok (.aload_n 0, 1) := by decide +kernel
theorem dL_law_446 : decode cL_law 446 = .ok (.iload_n 3, 1) := by decide +kernel
theorem dL_law_447 : decode cL_law 447 = .ok (.bipush 6, 2) := by decide +kernel
theorem dL_law_449 : decode cL_law 449 = .ok (.iadd, 1) := by decide +kernel
theorem dL_law_450 : decode cL_law 450 = .ok (.iaload, 1) := by decide +kernel
theorem dL_law_451 : decode cL_law 451 = .ok (.invokevirtual 44, 3) := by decide +kernel
theorem dL_law_454 : decode cL_law 454 = .ok (.if_icmp .eq 802, 3) := by decide +kernel
theorem dL_law_457 : decode cL_law 457 = .ok (.iconst 0, 1) := by decide +kernel
theorem dL_law_458 : decode cL_law 458 = .ok (.ireturn, 1) := by decide +kernel
theorem dL_law_459 : decode cL_law 459 = .ok (.aload_n 1, 1) := by decide +kernel
theorem dL_law_460 : decode cL_law 460 = .ok (.aload_n 0, 1) := by decide +kernel
theorem dL_law_461 : decode cL_law 461 = .ok (.iload_n 3, 1) := by decide +kernel
theorem dL_law_462 : decode cL_law 462 = .ok (.iconst 1, 1) := by decide +kernel
theorem dL_law_463 : decode cL_law 463 = .ok (.iadd, 1) := by decide +kernel
theorem dL_law_464 : decode cL_law 464 = .ok (.iaload, 1) := by decide +kernel
theorem dL_law_465 : decode cL_law 465 = .ok (.invokevirtual 45, 3) := by decide +kernel
theorem dL_law_468 : decode cL_law 468 = .ok (.aload_n 2, 1) := by decide +kernel
theorem dL_law_469 : decode cL_law 469 = .ok (.aload_n 0, 1) := by decide +kernel
theorem dL_law_470 : decode cL_law 470 = .ok (.iload_n 3, 1) := by decide +kernel
theorem dL_law_471 : decode cL_law 471 = .ok (.iconst 1, 1) := by decide +kernel
theorem dL_law_472 : decode cL_law 472 = .ok (.iadd, 1) := by decide +kernel
theorem dL_law_473 : decode cL_law 473 = .ok (.iaload, 1) := by decide +kernel
theorem dL_law_474 : decode cL_law 474 = .ok (.invokevirtual 48, 3) := by decide +kernel
theorem dL_law_477 : decode cL_law 477 = .ok (.if_icmp .eq 779, 3) := by decide +kernel
theorem dL_law_480 : decode cL_law 480 = .ok (.iconst 0, 1) := by decide +kernel
theorem dL_law_481 : decode cL_law 481 = .ok (.ireturn, 1) := by decide +kernel
theorem dL_law_482 : decode cL_law 482 = .ok (.aload_n 1, 1) := by decide +kernel
theorem dL_law_483 : decode cL_law 483 = .ok (.aload_n 0, 1) := by decide +kernel
theorem dL_law_484 : decode cL_law 484 = .ok (.iload_n 3, 1) := by decide +kernel
theorem dL_law_485 : decode cL_law 485 = .ok (.iconst 1, 1) := by decide +kernel
theorem dL_law_486 : decode cL_law 486 = .ok (.iadd, 1) := by decide +kernel
theorem dL_law_487 : decode cL_law 487 = .ok (.iaload, 1) := by decide +kernel
theorem dL_law_488 : decode cL_law 488 = .ok (.invokevirtual 49, 3) := by decide +kernel
theorem dL_law_491 : decode cL_law 491 = .ok (.aload_n 2, 1) := by decide +kernel
theorem dL_law_492 : decode cL_law 492 = .ok (.aload_n 0, 1) := by decide +kernel
theorem dL_law_493 : decode cL_law 493 = .ok (.iload_n 3, 1) := by decide +kernel
theorem dL_law_494 : decode cL_law 494 = .ok (.iconst 1, 1) := by decide +kernel
theorem dL_law_495 : decode cL_law 495 = .ok (.iadd, 1) := by decide +kernel
theorem dL_law_496 : decode cL_law 496 = .ok (.iaload, 1) := by decide +kernel
theorem dL_law_497 : decode cL_law 497 = .ok (.invokevirtual 52, 3) := by decide +kernel
theorem dL_law_500 : decode cL_law 500 = .ok (.if_icmp .eq 756, 3) := by decide +kernel
theorem dL_law_503 : decode cL_law 503 = .ok (.iconst 0, 1) := by decide +kernel
theorem dL_law_504 : decode cL_law 504 = .ok (.ireturn, 1) := by decide +kernel
theorem dL_law_505 : decode cL_law 505 = .ok (.aload_n 1, 1) := by decide +kernel
theorem dL_law_506 : decode cL_law 506 = .ok (.invokevirtual 53, 3) := by decide +kernel
theorem dL_law_509 : decode cL_law 509 = .ok (.aload_n 2, 1) := by decide +kernel
theorem dL_law_510 : decode cL_law 510 = .ok (.invokevirtual 57, 3) := by decide +kernel
theorem dL_law_513 : decode cL_law 513 = .ok (.if_icmp .eq 743, 3) := by decide +kernel
theorem dL_law_516 : decode cL_law 516 = .ok (.iconst 0, 1) := by decide +kernel
theorem dL_law_517 : decode cL_law 517 = .ok (.ireturn, 1) := by decide +kernel
theorem dL_law_518 : decode cL_law 518 = .ok (.aload_n 1, 1) := by decide +kernel
theorem dL_law_519 : decode cL_law 519 = .ok (.invokevirtual 58, 3) := by decide +kernel
theorem dL_law_522 : decode cL_law 522 = .ok (.aload_n 2, 1) := by decide +kernel
theorem dL_law_523 : decode cL_law 523 = .ok (.invokevirtual 61, 3) := by decide +kernel
theorem dL_law_526 : decode cL_law 526 = .ok (.if_icmp .eq 730, 3) := by decide +kernel
theorem dL_law_529 : decode cL_law 529 = .ok (.iconst 0, 1) := by decide +kernel
theorem dL_law_530 : decode cL_law 530 = .ok (.ireturn, 1) := by decide +kernel
theorem dL_law_531 : decode cL_law 531 = .ok (.aload_n 1, 1) := by decide +kernel
theorem dL_law_532 : decode cL_law 532 = .ok (.aload_n 0, 1) := by decide +kernel
theorem dL_law_533 : decode cL_law 533 = .ok (.iload_n 3, 1) := by decide +kernel
theorem dL_law_534 : decode cL_law 534 = .ok (.iconst 1, 1) := by decide +kernel
theorem dL_law_535 : decode cL_law 535 = .ok (.iadd, 1) := by decide +kernel
theorem dL_law_536 : decode cL_law 536 = .ok (.iaload, 1) := by decide +kernel
theorem dL_law_537 : decode cL_law 537 = .ok (.invokevirtual 62, 3) := by decide +kernel
theorem dL_law_540 : decode cL_law 540 = .ok (.aload_n 2, 1) := by decide +kernel
theorem dL_law_541 : decode cL_law 541 = .ok (.aload_n 0, 1) := by decide +kernel
theorem dL_law_542 : decode cL_law 542 = .ok (.iload_n 3, 1) := by decide +kernel
theorem dL_law_543 : decode cL_law 543 = .ok (.iconst 1, 1) := by decide +kernel
theorem dL_law_544 : decode cL_law 544 = .ok (.iadd, 1) := by decide +kernel
theorem dL_law_545 : decode cL_law 545 = .ok (.iaload, 1) := by decide +kernel
theorem dL_law_546 : decode cL_law 546 = .ok (.invokevirtual 65, 3) := by decide +kernel
theorem dL_law_549 : decode cL_law 549 = .ok (.if_icmp .eq 707, 3) := by decide +kernel
theorem dL_law_552 : decode cL_law 552 = .ok (.iconst 0, 1) := by decide +kernel
theorem dL_law_553 : decode cL_law 553 = .ok (.ireturn, 1) := by decide +kernel
theorem dL_law_554 : decode cL_law 554 = .ok (.aload_n 1, 1) := by decide +kernel
theorem dL_law_555 : decode cL_law 555 = .ok (.invokevirtual 66, 3) := by decide +kernel
theorem dL_law_558 : decode cL_law 558 = .ok (.aload_n 2, 1) := by decide +kernel
theorem dL_law_559 : decode cL_law 559 = .ok (.invokevirtual 69, 3) := by decide +kernel
theorem dL_law_562 : decode cL_law 562 = .ok (.if_icmp .eq 694, 3) := by decide +kernel
theorem dL_law_565 : decode cL_law 565 = .ok (.iconst 0, 1) := by decide +kernel
theorem dL_law_566 : decode cL_law 566 = .ok (.ireturn, 1) := by decide +kernel
theorem dL_law_567 : decode cL_law 567 = .ok (.aload_n 1, 1) := by decide +kernel
theorem dL_law_568 : decode cL_law 568 = .ok (.aload_n 0, 1) := by decide +kernel
theorem dL_law_569 : decode cL_law 569 = .ok (.iload_n 3, 1) := by decide +kernel
theorem dL_law_570 : decode cL_law 570 = .ok (.iconst 1, 1) := by decide +kernel
theorem dL_law_571 : decode cL_law 571 = .ok (.iadd, 1) := by decide +kernel
theorem dL_law_572 : decode cL_law 572 = .ok (.iaload, 1) := by decide +kernel
theorem dL_law_573 : decode cL_law 573 = .ok (.aload_n 0, 1) := by decide +kernel
theorem dL_law_574 : decode cL_law 574 = .ok (.iload_n 3, 1) := by decide +kernel
theorem dL_law_575 : decode cL_law 575 = .ok (.iconst 2, 1) := by decide +kernel
theorem dL_law_576 : decode cL_law 576 = .ok (.iadd, 1) := by decide +kernel
theorem dL_law_577 : decode cL_law 577 = .ok (.iaload, 1) := by decide +kernel
theorem dL_law_578 : decode cL_law 578 = .ok (.invokevirtual 70, 3) := by decide +kernel
theorem dL_law_581 : decode cL_law 581 = .ok (.aload_n 2, 1) := by decide +kernel
theorem dL_law_582 : decode cL_law 582 = .ok (.aload_n 0, 1) := by decide +kernel
theorem dL_law_583 : decode cL_law 583 = .ok (.iload_n 3, 1) := by decide +kernel
theorem dL_law_584 : decode cL_law 584 = .ok (.iconst 1, 1) := by decide +kernel
theorem dL_law_585 : decode cL_law 585 = .ok (.iadd, 1) := by decide +kernel
theorem dL_law_586 : decode cL_law 586 = .ok (.iaload, 1) := by decide +kernel
theorem dL_law_587 : decode cL_law 587 = .ok (.aload_n 0, 1) := by decide +kernel
theorem dL_law_588 : decode cL_law 588 = .ok (.iload_n 3, 1) := by decide +kernel
theorem dL_law_589 : decode cL_law 589 = .ok (.iconst 2, 1) := by decide +kernel
theorem dL_law_590 : decode cL_law 590 = .ok (.iadd, 1) := by decide +kernel
theorem dL_law_591 : decode cL_law 591 = .ok (.iaload, 1) := by decide +kernel
theorem dL_law_592 : decode cL_law 592 = .ok (.invokevirtual 73, 3) := by decide +kernel
theorem dL_law_595 : decode cL_law 595 = .ok (.if_icmp .eq 661, 3) := by decide +kernel
theorem dL_law_598 : decode cL_law 598 = .ok (.iconst 0, 1) := by decide +kernel
theorem dL_law_599 : decode cL_law 599 = .ok (.ireturn, 1) := by decide +kernel
theorem dL_law_600 : decode cL_law 600 = .ok (.aload_n 1, 1) := by decide +kernel
theorem dL_law_601 : decode cL_law 601 = .ok (.aload_n 0, 1) := by decide +kernel
theorem dL_law_602 : decode cL_law 602 = .ok (.iload_n 3, 1) := by decide +kernel
theorem dL_law_603 : decode cL_law 603 = .ok (.iconst 1, 1) := by decide +kernel
theorem dL_law_604 : decode cL_law 604 = .ok (.iadd, 1) := by decide +kernel
theorem dL_law_605 : decode cL_law 605 = .ok (.iaload, 1) := by decide +kernel
theorem dL_law_606 : decode cL_law 606 = .ok (.aload_n 0, 1) := by decide +kernel
theorem dL_law_607 : decode cL_law 607 = .ok (.iload_n 3, 1) := by decide +kernel
theorem dL_law_608 : decode cL_law 608 = .ok (.iconst 2, 1) := by decide +kernel
theorem dL_law_609 : decode cL_law 609 = .ok (.iadd, 1) := by decide +kernel
theorem dL_law_610 : decode cL_law 610 = .ok (.iaload, 1) := by decide +kernel
theorem dL_law_611 : decode cL_law 611 = .ok (.invokevirtual 74, 3) := by decide +kernel
theorem dL_law_614 : decode cL_law 614 = .ok (.aload_n 2, 1) := by decide +kernel
theorem dL_law_615 : decode cL_law 615 = .ok (.aload_n 0, 1) := by decide +kernel
theorem dL_law_616 : decode cL_law 616 = .ok (.iload_n 3, 1) := by decide +kernel
theorem dL_law_617 : decode cL_law 617 = .ok (.iconst 1, 1) := by decide +kernel
theorem dL_law_618 : decode cL_law 618 = .ok (.iadd, 1) := by decide +kernel
theorem dL_law_619 : decode cL_law 619 = .ok (.iaload, 1) := by decide +kernel
theorem dL_law_620 : decode cL_law 620 = .ok (.aload_n 0, 1) := by decide +kernel
theorem dL_law_621 : decode cL_law 621 = .ok (.iload_n 3, 1) := by decide +kernel
theorem dL_law_622 : decode cL_law 622 = .ok (.iconst 2, 1) := by decide +kernel
theorem dL_law_623 : decode cL_law 623 = .ok (.iadd, 1) := by decide +kernel
theorem dL_law_624 : decode cL_law 624 = .ok (.iaload, 1) := by decide +kernel
theorem dL_law_625 : decode cL_law 625 = .ok (.invokevirtual 77, 3) := by decide +kernel
theorem dL_law_628 : decode cL_law 628 = .ok (.if_icmp .eq 628, 3) := by decide +kernel
theorem dL_law_631 : decode cL_law 631 = .ok (.iconst 0, 1) := by decide +kernel
theorem dL_law_632 : decode cL_law 632 = .ok (.ireturn, 1) := by decide +kernel
theorem dL_law_633 : decode cL_law 633 = .ok (.aload_n 1, 1) := by decide +kernel
theorem dL_law_634 : decode cL_law 634 = .ok (.aload_n 0, 1) := by decide +kernel
theorem dL_law_635 : decode cL_law 635 = .ok (.iload_n 3, 1) := by decide +kernel
theorem dL_law_636 : decode cL_law 636 = .ok (.iconst 1, 1) := by decide +kernel
theorem dL_law_637 : decode cL_law 637 = .ok (.iadd, 1) := by decide +kernel
theorem dL_law_638 : decode cL_law 638 = .ok (.iaload, 1) := by decide +kernel
theorem dL_law_639 : decode cL_law 639 = .ok (.invokevirtual 78, 3) := by decide +kernel
theorem dL_law_642 : decode cL_law 642 = .ok (.aload_n 2, 1) := by decide +kernel
theorem dL_law_643 : decode cL_law 643 = .ok (.aload_n 0, 1) := by decide +kernel
theorem dL_law_644 : decode cL_law 644 = .ok (.iload_n 3, 1) := by decide +kernel
theorem dL_law_645 : decode cL_law 645 = .ok (.iconst 1, 1) := by decide +kernel
theorem dL_law_646 : decode cL_law 646 = .ok (.iadd, 1) := by decide +kernel
theorem dL_law_647 : decode cL_law 647 = .ok (.iaload, 1) := by decide +kernel
theorem dL_law_648 : decode cL_law 648 = .ok (.invokevirtual 81, 3) := by decide +kernel
theorem dL_law_651 : decode cL_law 651 = .ok (.if_icmp .eq 605, 3) := by decide +kernel
theorem dL_law_654 : decode cL_law 654 = .ok (.iconst 0, 1) := by decide +kernel
theorem dL_law_655 : decode cL_law 655 = .ok (.ireturn, 1) := by decide +kernel
theorem dL_law_656 : decode cL_law 656 = .ok (.aload_n 1, 1) := by decide +kernel
theorem dL_law_657 : decode cL_law 657 = .ok (.invokevirtual 82, 3) := by decide +kernel
theorem dL_law_660 : decode cL_law 660 = .ok (.aload_n 2, 1) := by decide +kernel
theorem dL_law_661 : decode cL_law 661 = .ok (.invokevirtual 85, 3) := by decide +kernel
theorem dL_law_664 : decode cL_law 664 = .ok (.if_icmp .eq 592, 3) := by decide +kernel
theorem dL_law_667 : decode cL_law 667 = .ok (.iconst 0, 1) := by decide +kernel
theorem dL_law_668 : decode cL_law 668 = .ok (.ireturn, 1) := by decide +kernel
theorem dL_law_669 : decode cL_law 669 = .ok (.aload_n 1, 1) := by decide +kernel
theorem dL_law_670 : decode cL_law 670 = .ok (.invokevirtual 86, 3) := by decide +kernel
theorem dL_law_673 : decode cL_law 673 = .ok (.aload_n 2, 1) := by decide +kernel
theorem dL_law_674 : decode cL_law 674 = .ok (.invokevirtual 89, 3) := by decide +kernel
theorem dL_law_677 : decode cL_law 677 = .ok (.if_icmp .eq 579, 3) := by decide +kernel
theorem dL_law_680 : decode cL_law 680 = .ok (.iconst 0, 1) := by decide +kernel
theorem dL_law_681 : decode cL_law 681 = .ok (.ireturn, 1) := by decide +kernel
theorem dL_law_682 : decode cL_law 682 = .ok (.aload_n 1, 1) := by decide +kernel
theorem dL_law_683 : decode cL_law 683 = .ok (.aload_n 0, 1) := by decide +kernel
theorem dL_law_684 : decode cL_law 684 = .ok (.iload_n 3, 1) := by decide +kernel
theorem dL_law_685 : decode cL_law 685 = .ok (.iconst 1, 1) := by decide +kernel
theorem dL_law_686 : decode cL_law 686 = .ok (.iadd, 1) := by decide +kernel
theorem dL_law_687 : decode cL_law 687 = .ok (.iaload, 1) := by decide +kernel
theorem dL_law_688 : decode cL_law 688 = .ok (.aload_n 0, 1) := by decide +kernel
theorem dL_law_689 : decode cL_law 689 = .ok (.iload_n 3, 1) := by decide +kernel
theorem dL_law_690 : decode cL_law 690 = .ok (.iconst 2, 1) := by decide +kernel
theorem dL_law_691 : decode cL_law 691 = .ok (.iadd, 1) := by decide +kernel
theorem dL_law_692 : decode cL_law 692 = .ok (.iaload, 1) := by decide +kernel
theorem dL_law_693 : decode cL_law 693 = .ok (.invokevirtual 90, 3) := by decide +kernel
theorem dL_law_696 : decode cL_law 696 = .ok (.aload_n 2, 1) := by decide +kernel
theorem dL_law_697 : decode cL_law 697 = .ok (.aload_n 0, 1) := by decide +kernel
theorem dL_law_698 : decode cL_law 698 = .ok (.iload_n 3, 1) := by decide +kernel
theorem dL_law_699 : decode cL_law 699 = .ok (.iconst 1, 1) := by decide +kernel
theorem dL_law_700 : decode cL_law 700 = .ok (.iadd, 1) := by decide +kernel
theorem dL_law_701 : decode cL_law 701 = .ok (.iaload, 1) := by decide +kernel
theorem dL_law_702 : decode cL_law 702 = .ok (.aload_n 0, 1) := by decide +kernel
theorem dL_law_703 : decode cL_law 703 = .ok (.iload_n 3, 1) := by decide +kernel
theorem dL_law_704 : decode cL_law 704 = .ok (.iconst 2, 1) := by decide +kernel
theorem dL_law_705 : decode cL_law 705 = .ok (.iadd, 1) := by decide +kernel
theorem dL_law_706 : decode cL_law 706 = .ok (.iaload, 1) := by decide +kernel
theorem dL_law_707 : decode cL_law 707 = .ok (.invokevirtual 93, 3) := by decide +kernel
theorem dL_law_710 : decode cL_law 710 = .ok (.if_icmp .eq 546, 3) := by decide +kernel
theorem dL_law_713 : decode cL_law 713 = .ok (.iconst 0, 1) := by decide +kernel
theorem dL_law_714 : decode cL_law 714 = .ok (.ireturn, 1) := by decide +kernel
theorem dL_law_715 : decode cL_law 715 = .ok (.aload_n 1, 1) := by decide +kernel
theorem dL_law_716 : decode cL_law 716 = .ok (.invokevirtual 94, 3) := by decide +kernel
theorem dL_law_719 : decode cL_law 719 = .ok (.aload_n 2, 1) := by decide +kernel
theorem dL_law_720 : decode cL_law 720 = .ok (.invokevirtual 97, 3) := by decide +kernel
theorem dL_law_723 : decode cL_law 723 = .ok (.if_icmp .eq 533, 3) := by decide +kernel
theorem dL_law_726 : decode cL_law 726 = .ok (.iconst 0, 1) := by decide +kernel
theorem dL_law_727 : decode cL_law 727 = .ok (.ireturn, 1) := by decide +kernel
theorem dL_law_728 : decode cL_law 728 = .ok (.aload_n 1, 1) := by decide +kernel
theorem dL_law_729 : decode cL_law 729 = .ok (.aload_n 0, 1) := by decide +kernel
theorem dL_law_730 : decode cL_law 730 = .ok (.iload_n 3, 1) := by decide +kernel
theorem dL_law_731 : decode cL_law 731 = .ok (.iconst 1, 1) := by decide +kernel
theorem dL_law_732 : decode cL_law 732 = .ok (.iadd, 1) := by decide +kernel
theorem dL_law_733 : decode cL_law 733 = .ok (.iaload, 1) := by decide +kernel
theorem dL_law_734 : decode cL_law 734 = .ok (.aload_n 0, 1) := by decide +kernel
theorem dL_law_735 : decode cL_law 735 = .ok (.iload_n 3, 1) := by decide +kernel
theorem dL_law_736 : decode cL_law 736 = .ok (.iconst 2, 1) := by decide +kernel
theorem dL_law_737 : decode cL_law 737 = .ok (.iadd, 1) := by decide +kernel
theorem dL_law_738 : decode cL_law 738 = .ok (.iaload, 1) := by decide +kernel
theorem dL_law_739 : decode cL_law 739 = .ok (.aload_n 0, 1) := by decide +kernel
theorem dL_law_740 : decode cL_law 740 = .ok (.iload_n 3, 1) := by decide +kernel
theorem dL_law_741 : decode cL_law 741 = .ok (.iconst 3, 1) := by decide +kernel
theorem dL_law_742 : decode cL_law 742 = .ok (.iadd, 1) := by decide +kernel
theorem dL_law_743 : decode cL_law 743 = .ok (.iaload, 1) := by decide +kernel
theorem dL_law_744 : decode cL_law 744 = .ok (.aload_n 0, 1) := by decide +kernel
theorem dL_law_745 : decode cL_law 745 = .ok (.iload_n 3, 1) := by decide +kernel
theorem dL_law_746 : decode cL_law 746 = .ok (.iconst 4, 1) := by decide +kernel
theorem dL_law_747 : decode cL_law 747 = .ok (.iadd, 1) := by decide +kernel
theorem dL_law_748 : decode cL_law 748 = .ok (.iaload, 1) := by decide +kernel
theorem dL_law_749 : decode cL_law 749 = .ok (.invokevirtual 98, 3) := by decide +kernel
theorem dL_law_752 : decode cL_law 752 = .ok (.aload_n 2, 1) := by decide +kernel
theorem dL_law_753 : decode cL_law 753 = .ok (.aload_n 0, 1) := by decide +kernel
theorem dL_law_754 : decode cL_law 754 = .ok (.iload_n 3, 1) := by decide +kernel
theorem dL_law_755 : decode cL_law 755 = .ok (.iconst 1, 1) := by decide +kernel
theorem dL_law_756 : decode cL_law 756 = .ok (.iadd, 1) := by decide +kernel
theorem dL_law_757 : decode cL_law 757 = .ok (.iaload, 1) := by decide +kernel
theorem dL_law_758 : decode cL_law 758 = .ok (.aload_n 0, 1) := by decide +kernel
theorem dL_law_759 : decode cL_law 759 = .ok (.iload_n 3, 1) := by decide +kernel
theorem dL_law_760 : decode cL_law 760 = .ok (.iconst 2, 1) := by decide +kernel
theorem dL_law_761 : decode cL_law 761 = .ok (.iadd, 1) := by decide +kernel
theorem dL_law_762 : decode cL_law 762 = .ok (.iaload, 1) := by decide +kernel
theorem dL_law_763 : decode cL_law 763 = .ok (.aload_n 0, 1) := by decide +kernel
theorem dL_law_764 : decode cL_law 764 = .ok (.iload_n 3, 1) := by decide +kernel
theorem dL_law_765 : decode cL_law 765 = .ok (.iconst 3, 1) := by decide +kernel
theorem dL_law_766 : decode cL_law 766 = .ok (.iadd, 1) := by decide +kernel
theorem dL_law_767 : decode cL_law 767 = .ok (.iaload, 1) := by decide +kernel
theorem dL_law_768 : decode cL_law 768 = .ok (.aload_n 0, 1) := by decide +kernel
theorem dL_law_769 : decode cL_law 769 = .ok (.iload_n 3, 1) := by decide +kernel
theorem dL_law_770 : decode cL_law 770 = .ok (.iconst 4, 1) := by decide +kernel
theorem dL_law_771 : decode cL_law 771 = .ok (.iadd, 1) := by decide +kernel
theorem dL_law_772 : decode cL_law 772 = .ok (.iaload, 1) := by decide +kernel
theorem dL_law_773 : decode cL_law 773 = .ok (.invokevirtual 101, 3) := by decide +kernel
theorem dL_law_776 : decode cL_law 776 = .ok (.if_icmp .eq 480, 3) := by decide +kernel
theorem dL_law_779 : decode cL_law 779 = .ok (.iconst 0, 1) := by decide +kernel
theorem dL_law_780 : decode cL_law 780 = .ok (.ireturn, 1) := by decide +kernel
theorem dL_law_781 : decode cL_law 781 = .ok (.aload_n 1, 1) := by decide +kernel
theorem dL_law_782 : decode cL_law 782 = .ok (.aload_n 0, 1) := by decide +kernel
theorem dL_law_783 : decode cL_law 783 = .ok (.iload_n 3, 1) := by decide +kernel
theorem dL_law_784 : decode cL_law 784 = .ok (.iconst 1, 1) := by decide +kernel
theorem dL_law_785 : decode cL_law 785 = .ok (.iadd, 1) := by decide +kernel
theorem dL_law_786 : decode cL_law 786 = .ok (.iaload, 1) := by decide +kernel
theorem dL_law_787 : decode cL_law 787 = .ok (.aload_n 0, 1) := by decide +kernel
theorem dL_law_788 : decode cL_law 788 = .ok (.iload_n 3, 1) := by decide +kernel
theorem dL_law_789 : decode cL_law 789 = .ok (.iconst 2, 1) := by decide +kernel
theorem dL_law_790 : decode cL_law 790 = .ok (.iadd, 1) := by decide +kernel
theorem dL_law_791 : decode cL_law 791 = .ok (.iaload, 1) := by decide +kernel
theorem dL_law_792 : decode cL_law 792 = .ok (.aload_n 0, 1) := by decide +kernel
theorem dL_law_793 : decode cL_law 793 = .ok (.iload_n 3, 1) := by decide +kernel
theorem dL_law_794 : decode cL_law 794 = .ok (.iconst 3, 1) := by decide +kernel
theorem dL_law_795 : decode cL_law 795 = .ok (.iadd, 1) := by decide +kernel
theorem dL_law_796 : decode cL_law 796 = .ok (.iaload, 1) := by decide +kernel
theorem dL_law_797 : decode cL_law 797 = .ok (.invokevirtual 102, 3) := by decide +kernel
theorem dL_law_800 : decode cL_law 800 = .ok (.aload_n 2, 1) := by decide +kernel
theorem dL_law_801 : decode cL_law 801 = .ok (.aload_n 0, 1) := by decide +kernel
theorem dL_law_802 : decode cL_law 802 = .ok (.iload_n 3, 1) := by decide +kernel
theorem dL_law_803 : decode cL_law 803 = .ok (.iconst 1, 1) := by decide +kernel
theorem dL_law_804 : decode cL_law 804 = .ok (.iadd, 1) := by decide +kernel
theorem dL_law_805 : decode cL_law 805 = .ok (.iaload, 1) := by decide +kernel
theorem dL_law_806 : decode cL_law 806 = .ok (.aload_n 0, 1) := by decide +kernel
theorem dL_law_807 : decode cL_law 807 = .ok (.iload_n 3, 1) := by decide +kernel
theorem dL_law_808 : decode cL_law 808 = .ok (.iconst 2, 1) := by decide +kernel
theorem dL_law_809 : decode cL_law 809 = .ok (.iadd, 1) := by decide +kernel
theorem dL_law_810 : decode cL_law 810 = .ok (.iaload, 1) := by decide +kernel
theorem dL_law_811 : decode cL_law 811 = .ok (.aload_n 0, 1) := by decide +kernel
theorem dL_law_812 : decode cL_law 812 = .ok (.iload_n 3, 1) := by decide +kernel
theorem dL_law_813 : decode cL_law 813 = .ok (.iconst 3, 1) := by decide +kernel
theorem dL_law_814 : decode cL_law 814 = .ok (.iadd, 1) := by decide +kernel
theorem dL_law_815 : decode cL_law 815 = .ok (.iaload, 1) := by decide +kernel
theorem dL_law_816 : decode cL_law 816 = .ok (.invokevirtual 106, 3) := by decide +kernel
theorem dL_law_819 : decode cL_law 819 = .ok (.if_icmp .eq 437, 3) := by decide +kernel
theorem dL_law_822 : decode cL_law 822 = .ok (.iconst 0, 1) := by decide +kernel
theorem dL_law_823 : decode cL_law 823 = .ok (.ireturn, 1) := by decide +kernel
theorem dL_law_824 : decode cL_law 824 = .ok (.aload_n 1, 1) := by decide +kernel
theorem dL_law_825 : decode cL_law 825 = .ok (.aload_n 0, 1) := by decide +kernel
theorem dL_law_826 : decode cL_law 826 = .ok (.iload_n 3, 1) := by decide +kernel
theorem dL_law_827 : decode cL_law 827 = .ok (.iconst 1, 1) := by decide +kernel
theorem dL_law_828 : decode cL_law 828 = .ok (.iadd, 1) := by decide +kernel
theorem dL_law_829 : decode cL_law 829 = .ok (.iaload, 1) := by decide +kernel
theorem dL_law_830 : decode cL_law 830 = .ok (.invokevirtual 107, 3) := by decide +kernel
theorem dL_law_833 : decode cL_law 833 = .ok (.aload_n 2, 1) := by decide +kernel
theorem dL_law_834 : decode cL_law 834 = .ok (.aload_n 0, 1) := by decide +kernel
theorem dL_law_835 : decode cL_law 835 = .ok (.iload_n 3, 1) := by decide +kernel
theorem dL_law_836 : decode cL_law 836 = .ok (.iconst 1, 1) := by decide +kernel
theorem dL_law_837 : decode cL_law 837 = .ok (.iadd, 1) := by decide +kernel
theorem dL_law_838 : decode cL_law 838 = .ok (.iaload, 1) := by decide +kernel
theorem dL_law_839 : decode cL_law 839 = .ok (.invokevirtual 110, 3) := by decide +kernel
theorem dL_law_842 : decode cL_law 842 = .ok (.if_icmp .eq 414, 3) := by decide +kernel
theorem dL_law_845 : decode cL_law 845 = .ok (.iconst 0, 1) := by decide +kernel
theorem dL_law_846 : decode cL_law 846 = .ok (.ireturn, 1) := by decide +kernel
theorem dL_law_847 : decode cL_law 847 = .ok (.aload_n 1, 1) := by decide +kernel
theorem dL_law_848 : decode cL_law 848 = .ok (.invokevirtual 111, 3) := by decide +kernel
theorem dL_law_851 : decode cL_law 851 = .ok (.aload_n 2, 1) := by decide +kernel
theorem dL_law_852 : decode cL_law 852 = .ok (.invokevirtual 114, 3) := by decide +kernel
theorem dL_law_855 : decode cL_law 855 = .ok (.if_icmp .eq 401, 3) := by decide +kernel
theorem dL_law_858 : decode cL_law 858 = .ok (.iconst 0, 1) := by decide +kernel
theorem dL_law_859 : decode cL_law 859 = .ok (.ireturn, 1) := by decide +kernel
theorem dL_law_860 : decode cL_law 860 = .ok (.aload_n 1, 1) := by decide +kernel
theorem dL_law_861 : decode cL_law 861 = .ok (.aload_n 0, 1) := by decide +kernel
theorem dL_law_862 : decode cL_law 862 = .ok (.iload_n 3, 1) := by decide +kernel
theorem dL_law_863 : decode cL_law 863 = .ok (.iconst 1, 1) := by decide +kernel
theorem dL_law_864 : decode cL_law 864 = .ok (.iadd, 1) := by decide +kernel
theorem dL_law_865 : decode cL_law 865 = .ok (.iaload, 1) := by decide +kernel
theorem dL_law_866 : decode cL_law 866 = .ok (.aload_n 0, 1) := by decide +kernel
theorem dL_law_867 : decode cL_law 867 = .ok (.iload_n 3, 1) := by decide +kernel
theorem dL_law_868 : decode cL_law 868 = .ok (.iconst 2, 1) := by decide +kernel
theorem dL_law_869 : decode cL_law 869 = .ok (.iadd, 1) := by decide +kernel
theorem dL_law_870 : decode cL_law 870 = .ok (.iaload, 1) := by decide +kernel
theorem dL_law_871 : decode cL_law 871 = .ok (.invokevirtual 115, 3) := by decide +kernel
theorem dL_law_874 : decode cL_law 874 = .ok (.aload_n 2, 1) := by decide +kernel
theorem dL_law_875 : decode cL_law 875 = .ok (.aload_n 0, 1) := by decide +kernel
theorem dL_law_876 : decode cL_law 876 = .ok (.iload_n 3, 1) := by decide +kernel
theorem dL_law_877 : decode cL_law 877 = .ok (.iconst 1, 1) := by decide +kernel
theorem dL_law_878 : decode cL_law 878 = .ok (.iadd, 1) := by decide +kernel
theorem dL_law_879 : decode cL_law 879 = .ok (.iaload, 1) := by decide +kernel
theorem dL_law_880 : decode cL_law 880 = .ok (.aload_n 0, 1) := by decide +kernel
theorem dL_law_881 : decode cL_law 881 = .ok (.iload_n 3, 1) := by decide +kernel
theorem dL_law_882 : decode cL_law 882 = .ok (.iconst 2, 1) := by decide +kernel
theorem dL_law_883 : decode cL_law 883 = .ok (.iadd, 1) := by decide +kernel
theorem dL_law_884 : decode cL_law 884 = .ok (.iaload, 1) := by decide +kernel
theorem dL_law_885 : decode cL_law 885 = .ok (.invokevirtual 118, 3) := by decide +kernel
theorem dL_law_888 : decode cL_law 888 = .ok (.if_icmp .eq 368, 3) := by decide +kernel
theorem dL_law_891 : decode cL_law 891 = .ok (.iconst 0, 1) := by decide +kernel
theorem dL_law_892 : decode cL_law 892 = .ok (.ireturn, 1) := by decide +kernel
theorem dL_law_893 : decode cL_law 893 = .ok (.aload_n 1, 1) := by decide +kernel
theorem dL_law_894 : decode cL_law 894 = .ok (.aload_n 0, 1) := by decide +kernel
theorem dL_law_895 : decode cL_law 895 = .ok (.iload_n 3, 1) := by decide +kernel
theorem dL_law_896 : decode cL_law 896 = .ok (.iconst 1, 1) := by decide +kernel
theorem dL_law_897 : decode cL_law 897 = .ok (.iadd, 1) := by decide +kernel
theorem dL_law_898 : decode cL_law 898 = .ok (.iaload, 1) := by decide +kernel
theorem dL_law_899 : decode cL_law 899 = .ok (.invokevirtual 119, 3) := by decide +kernel
theorem dL_law_902 : decode cL_law 902 = .ok (.aload_n 2, 1) := by decide +kernel
theorem dL_law_903 : decode cL_law 903 = .ok (.aload_n 0, 1) := by decide +kernel
theorem dL_law_904 : decode cL_law 904 = .ok (.iload_n 3, 1) := by decide +kernel
theorem dL_law_905 : decode cL_law 905 = .ok (.iconst 1, 1) := by decide +kernel
theorem dL_law_906 : decode cL_law 906 = .ok (.iadd, 1) := by decide +kernel
theorem dL_law_907 : decode cL_law 907 = .ok (.iaload, 1) := by decide +kernel
theorem dL_law_908 : decode cL_law 908 = .ok (.invokevirtual 122, 3) := by decide +kernel
theorem dL_law_911 : decode cL_law 911 = .ok (.if_icmp .eq 345, 3) := by decide +kernel
theorem dL_law_914 : decode cL_law 914 = .ok (.iconst 0, 1) := by decide +kernel
theorem dL_law_915 : decode cL_law 915 = .ok (.ireturn, 1) := by decide +kernel
theorem dL_law_916 : decode cL_law 916 = .ok (.aload_n 1, 1) := by decide +kernel
theorem dL_law_917 : decode cL_law 917 = .ok (.aload_n 0, 1) := by decide +kernel
theorem dL_law_918 : decode cL_law 918 = .ok (.iload_n 3, 1) := by decide +kernel
theorem dL_law_919 : decode cL_law 919 = .ok (.iconst 1, 1) := by decide +kernel
theorem dL_law_920 : decode cL_law 920 = .ok (.iadd, 1) := by decide +kernel
theorem dL_law_921 : decode cL_law 921 = .ok (.iaload, 1) := by decide +kernel
theorem dL_law_922 : decode cL_law 922 = .ok (.aload_n 0, 1) := by decide +kernel
theorem dL_law_923 : decode cL_law 923 = .ok (.iload_n 3, 1) := by decide +kernel
theorem dL_law_924 : decode cL_law 924 = .ok (.iconst 2, 1) := by decide +kernel
theorem dL_law_925 : decode cL_law 925 = .ok (.iadd, 1) := by decide +kernel
theorem dL_law_926 : decode cL_law 926 = .ok (.iaload, 1) := by decide +kernel
theorem dL_law_927 : decode cL_law 927 = .ok (.aload_n 0, 1) := by decide +kernel
theorem dL_law_928 : decode cL_law 928 = .ok (.iload_n 3, 1) := by decide +kernel
theorem dL_law_929 : decode cL_law 929 = .ok (.iconst 3, 1) := by decide +kernel
theorem dL_law_930 : decode cL_law 930 = .ok (.iadd, 1) := by decide +kernel
theorem dL_law_931 : decode cL_law 931 = .ok (.iaload, 1) := by decide +kernel
theorem dL_law_932 : decode cL_law 932 = .ok (.ifCond .eq 7, 3) := by decide +kernel
theorem dL_law_935 : decode cL_law 935 = .ok (.iconst 1, 1) := by decide +kernel
theorem dL_law_936 : decode cL_law 936 = .ok (.goto 4, 3) := by decide +kernel
theorem dL_law_939 : decode cL_law 939 = .ok (.iconst 0, 1) := by decide +kernel
theorem dL_law_940 : decode cL_law 940 = .ok (.invokevirtual 123, 3) := by decide +kernel
theorem dL_law_943 : decode cL_law 943 = .ok (.aload_n 2, 1) := by decide +kernel
theorem dL_law_944 : decode cL_law 944 = .ok (.aload_n 0, 1) := by decide +kernel
theorem dL_law_945 : decode cL_law 945 = .ok (.iload_n 3, 1) := by decide +kernel
theorem dL_law_946 : decode cL_law 946 = .ok (.iconst 1, 1) := by decide +kernel
theorem dL_law_947 : decode cL_law 947 = .ok (.iadd, 1) := by decide +kernel
theorem dL_law_948 : decode cL_law 948 = .ok (.iaload, 1) := by decide +kernel
theorem dL_law_949 : decode cL_law 949 = .ok (.aload_n 0, 1) := by decide +kernel
theorem dL_law_950 : decode cL_law 950 = .ok (.iload_n 3, 1) := by decide +kernel
theorem dL_law_951 : decode cL_law 951 = .ok (.iconst 2, 1) := by decide +kernel
theorem dL_law_952 : decode cL_law 952 = .ok (.iadd, 1) := by decide +kernel
theorem dL_law_953 : decode cL_law 953 = .ok (.iaload, 1) := by decide +kernel
theorem dL_law_954 : decode cL_law 954 = .ok (.aload_n 0, 1) := by decide +kernel
theorem dL_law_955 : decode cL_law 955 = .ok (.iload_n 3, 1) := by decide +kernel
theorem dL_law_956 : decode cL_law 956 = .ok (.iconst 3, 1) := by decide +kernel
theorem dL_law_957 : decode cL_law 957 = .ok (.iadd, 1) := by decide +kernel
theorem dL_law_958 : decode cL_law 958 = .ok (.iaload, 1) := by decide +kernel
theorem dL_law_959 : decode cL_law 959 = .ok (.ifCond .eq 7, 3) := by decide +kernel
theorem dL_law_962 : decode cL_law 962 = .ok (.iconst 1, 1) := by decide +kernel
theorem dL_law_963 : decode cL_law 963 = .ok (.goto 4, 3) := by decide +kernel
theorem dL_law_966 : decode cL_law 966 = .ok (.iconst 0, 1) := by decide +kernel
theorem dL_law_967 : decode cL_law 967 = .ok (.invokevirtual 127, 3) := by decide +kernel
theorem dL_law_970 : decode cL_law 970 = .ok (.if_icmp .eq 286, 3) := by decide +kernel
theorem dL_law_973 : decode cL_law 973 = .ok (.iconst 0, 1) := by decide +kernel
theorem dL_law_974 : decode cL_law 974 = .ok (.ireturn, 1) := by decide +kernel
theorem dL_law_975 : decode cL_law 975 = .ok (.aload_n 1, 1) := by decide +kernel
theorem dL_law_976 : decode cL_law 976 = .ok (.aload_n 0, 1) := by decide +kernel
theorem dL_law_977 : decode cL_law 977 = .ok (.iload_n 3, 1) := by decide +kernel
theorem dL_law_978 : decode cL_law 978 = .ok (.iconst 1, 1) := by decide +kernel
theorem dL_law_979 : decode cL_law 979 = .ok (.iadd, 1) := by decide +kernel
theorem dL_law_980 : decode cL_law 980 = .ok (.iaload, 1) := by decide +kernel
theorem dL_law_981 : decode cL_law 981 = .ok (.aload_n 0, 1) := by decide +kernel
theorem dL_law_982 : decode cL_law 982 = .ok (.iload_n 3, 1) := by decide +kernel
theorem dL_law_983 : decode cL_law 983 = .ok (.iconst 2, 1) := by decide +kernel
theorem dL_law_984 : decode cL_law 984 = .ok (.iadd, 1) := by decide +kernel
theorem dL_law_985 : decode cL_law 985 = .ok (.iaload, 1) := by decide +kernel
theorem dL_law_986 : decode cL_law 986 = .ok (.invokevirtual 128, 3) := by decide +kernel
theorem dL_law_989 : decode cL_law 989 = .ok (.aload_n 2, 1) := by decide +kernel
theorem dL_law_990 : decode cL_law 990 = .ok (.aload_n 0, 1) := by decide +kernel
theorem dL_law_991 : decode cL_law 991 = .ok (.iload_n 3, 1) := by decide +kernel
theorem dL_law_992 : decode cL_law 992 = .ok (.iconst 1, 1) := by decide +kernel
theorem dL_law_993 : decode cL_law 993 = .ok (.iadd, 1) := by decide +kernel
theorem dL_law_994 : decode cL_law 994 = .ok (.iaload, 1) := by decide +kernel
theorem dL_law_995 : decode cL_law 995 = .ok (.aload_n 0, 1) := by decide +kernel
theorem dL_law_996 : decode cL_law 996 = .ok (.iload_n 3, 1) := by decide +kernel
theorem dL_law_997 : decode cL_law 997 = .ok (.iconst 2, 1) := by decide +kernel
theorem dL_law_998 : decode cL_law 998 = .ok (.iadd, 1) := by decide +kernel
theorem dL_law_999 : decode cL_law 999 = .ok (.iaload, 1) := by decide +kernel
theorem dL_law_1000 : decode cL_law 1000 = .ok (.invokevirtual 131, 3) := by decide +kernel
theorem dL_law_1003 : decode cL_law 1003 = .ok (.if_icmp .eq 253, 3) := by decide +kernel
theorem dL_law_1006 : decode cL_law 1006 = .ok (.iconst 0, 1) := by decide +kernel
theorem dL_law_1007 : decode cL_law 1007 = .ok (.ireturn, 1) := by decide +kernel
theorem dL_law_1008 : decode cL_law 1008 = .ok (.aload_n 1, 1) := by decide +kernel
theorem dL_law_1009 : decode cL_law 1009 = .ok (.aload_n 0, 1) := by decide +kernel
theorem dL_law_1010 : decode cL_law 1010 = .ok (.iload_n 3, 1) := by decide +kernel
theorem dL_law_1011 : decode cL_law 1011 = .ok (.iconst 1, 1) := by decide +kernel
theorem dL_law_1012 : decode cL_law 1012 = .ok (.iadd, 1) := by decide +kernel
theorem dL_law_1013 : decode cL_law 1013 = .ok (.iaload, 1) := by decide +kernel
theorem dL_law_1014 : decode cL_law 1014 = .ok (.aload_n 0, 1) := by decide +kernel
theorem dL_law_1015 : decode cL_law 1015 = .ok (.iload_n 3, 1) := by decide +kernel
theorem dL_law_1016 : decode cL_law 1016 = .ok (.iconst 2, 1) := by decide +kernel
theorem dL_law_1017 : decode cL_law 1017 = .ok (.iadd, 1) := by decide +kernel
theorem dL_law_1018 : decode cL_law 1018 = .ok (.iaload, 1) := by decide +kernel
theorem dL_law_1019 : decode cL_law 1019 = .ok (.invokevirtual 132, 3) := by decide +kernel
theorem dL_law_1022 : decode cL_law 1022 = .ok (.aload_n 2, 1) := by decide +kernel
theorem dL_law_1023 : decode cL_law 1023 = .ok (.aload_n 0, 1) := by decide +kernel
theorem dL_law_1024 : decode cL_law 1024 = .ok (.iload_n 3, 1) := by decide +kernel
theorem dL_law_1025 : decode cL_law 1025 = .ok (.iconst 1, 1) := by decide +kernel
theorem dL_law_1026 : decode cL_law 1026 = .ok (.iadd, 1) := by decide +kernel
theorem dL_law_1027 : decode cL_law 1027 = .ok (.iaload, 1) := by decide +kernel
theorem dL_law_1028 : decode cL_law 1028 = .ok (.aload_n 0, 1) := by decide +kernel
theorem dL_law_1029 : decode cL_law 1029 = .ok (.iload_n 3, 1) := by decide +kernel
theorem dL_law_1030 : decode cL_law 1030 = .ok (.iconst 2, 1) := by decide +kernel
theorem dL_law_1031 : decode cL_law 1031 = .ok (.iadd, 1) := by decide +kernel
theorem dL_law_1032 : decode cL_law 1032 = .ok (.iaload, 1) := by decide +kernel
theorem dL_law_1033 : decode cL_law 1033 = .ok (.invokevirtual 135, 3) := by decide +kernel
theorem dL_law_1036 : decode cL_law 1036 = .ok (.if_icmp .eq 220, 3) := by decide +kernel
theorem dL_law_1039 : decode cL_law 1039 = .ok (.iconst 0, 1) := by decide +kernel
theorem dL_law_1040 : decode cL_law 1040 = .ok (.ireturn, 1) := by decide +kernel
theorem dL_law_1041 : decode cL_law 1041 = .ok (.aload_n 1, 1) := by decide +kernel
theorem dL_law_1042 : decode cL_law 1042 = .ok (.aload_n 0, 1) := by decide +kernel
theorem dL_law_1043 : decode cL_law 1043 = .ok (.iload_n 3, 1) := by decide +kernel
theorem dL_law_1044 : decode cL_law 1044 = .ok (.iconst 1, 1) := by decide +kernel
theorem dL_law_1045 : decode cL_law 1045 = .ok (.iadd, 1) := by decide +kernel
theorem dL_law_1046 : decode cL_law 1046 = .ok (.iaload, 1) := by decide +kernel
theorem dL_law_1047 : decode cL_law 1047 = .ok (.aload_n 0, 1) := by decide +kernel
theorem dL_law_1048 : decode cL_law 1048 = .ok (.iload_n 3, 1) := by decide +kernel
theorem dL_law_1049 : decode cL_law 1049 = .ok (.iconst 2, 1) := by decide +kernel
theorem dL_law_1050 : decode cL_law 1050 = .ok (.iadd, 1) := by decide +kernel
theorem dL_law_1051 : decode cL_law 1051 = .ok (.iaload, 1) := by decide +kernel
theorem dL_law_1052 : decode cL_law 1052 = .ok (.aload_n 0, 1) := by decide +kernel
theorem dL_law_1053 : decode cL_law 1053 = .ok (.iload_n 3, 1) := by decide +kernel
theorem dL_law_1054 : decode cL_law 1054 = .ok (.iconst 3, 1) := by decide +kernel
theorem dL_law_1055 : decode cL_law 1055 = .ok (.iadd, 1) := by decide +kernel
theorem dL_law_1056 : decode cL_law 1056 = .ok (.iaload, 1) := by decide +kernel
theorem dL_law_1057 : decode cL_law 1057 = .ok (.invokevirtual 136, 3) := by decide +kernel
theorem dL_law_1060 : decode cL_law 1060 = .ok (.aload_n 2, 1) := by decide +kernel
theorem dL_law_1061 : decode cL_law 1061 = .ok (.aload_n 0, 1) := by decide +kernel
theorem dL_law_1062 : decode cL_law 1062 = .ok (.iload_n 3, 1) := by decide +kernel
theorem dL_law_1063 : decode cL_law 1063 = .ok (.iconst 1, 1) := by decide +kernel
theorem dL_law_1064 : decode cL_law 1064 = .ok (.iadd, 1) := by decide +kernel
theorem dL_law_1065 : decode cL_law 1065 = .ok (.iaload, 1) := by decide +kernel
theorem dL_law_1066 : decode cL_law 1066 = .ok (.aload_n 0, 1) := by decide +kernel
theorem dL_law_1067 : decode cL_law 1067 = .ok (.iload_n 3, 1) := by decide +kernel
theorem dL_law_1068 : decode cL_law 1068 = .ok (.iconst 2, 1) := by decide +kernel
theorem dL_law_1069 : decode cL_law 1069 = .ok (.iadd, 1) := by decide +kernel
theorem dL_law_1070 : decode cL_law 1070 = .ok (.iaload, 1) := by decide +kernel
theorem dL_law_1071 : decode cL_law 1071 = .ok (.aload_n 0, 1) := by decide +kernel
theorem dL_law_1072 : decode cL_law 1072 = .ok (.iload_n 3, 1) := by decide +kernel
theorem dL_law_1073 : decode cL_law 1073 = .ok (.iconst 3, 1) := by decide +kernel
theorem dL_law_1074 : decode cL_law 1074 = .ok (.iadd, 1) := by decide +kernel
theorem dL_law_1075 : decode cL_law 1075 = .ok (.iaload, 1) := by decide +kernel
theorem dL_law_1076 : decode cL_law 1076 = .ok (.invokevirtual 139, 3) := by decide +kernel
theorem dL_law_1079 : decode cL_law 1079 = .ok (.if_icmp .eq 177, 3) := by decide +kernel
theorem dL_law_1082 : decode cL_law 1082 = .ok (.iconst 0, 1) := by decide +kernel
theorem dL_law_1083 : decode cL_law 1083 = .ok (.ireturn, 1) := by decide +kernel
theorem dL_law_1084 : decode cL_law 1084 = .ok (.aload_n 1, 1) := by decide +kernel
theorem dL_law_1085 : decode cL_law 1085 = .ok (.aload_n 0, 1) := by decide +kernel
theorem dL_law_1086 : decode cL_law 1086 = .ok (.iload_n 3, 1) := by decide +kernel
theorem dL_law_1087 : decode cL_law 1087 = .ok (.iconst 1, 1) := by decide +kernel
theorem dL_law_1088 : decode cL_law 1088 = .ok (.iadd, 1) := by decide +kernel
theorem dL_law_1089 : decode cL_law 1089 = .ok (.iaload, 1) := by decide +kernel
theorem dL_law_1090 : decode cL_law 1090 = .ok (.aload_n 0, 1) := by decide +kernel
theorem dL_law_1091 : decode cL_law 1091 = .ok (.iload_n 3, 1) := by decide +kernel
theorem dL_law_1092 : decode cL_law 1092 = .ok (.iconst 2, 1) := by decide +kernel
theorem dL_law_1093 : decode cL_law 1093 = .ok (.iadd, 1) := by decide +kernel
theorem dL_law_1094 : decode cL_law 1094 = .ok (.iaload, 1) := by decide +kernel
theorem dL_law_1095 : decode cL_law 1095 = .ok (.aload_n 0, 1) := by decide +kernel
theorem dL_law_1096 : decode cL_law 1096 = .ok (.iload_n 3, 1) := by decide +kernel
theorem dL_law_1097 : decode cL_law 1097 = .ok (.iconst 3, 1) := by decide +kernel
theorem dL_law_1098 : decode cL_law 1098 = .ok (.iadd, 1) := by decide +kernel
theorem dL_law_1099 : decode cL_law 1099 = .ok (.iaload, 1) := by decide +kernel
theorem dL_law_1100 : decode cL_law 1100 = .ok (.invokevirtual 140, 3) := by decide +kernel
theorem dL_law_1103 : decode cL_law 1103 = .ok (.aload_n 2, 1) := by decide +kernel
theorem dL_law_1104 : decode cL_law 1104 = .ok (.aload_n 0, 1) := by decide +kernel
theorem dL_law_1105 : decode cL_law 1105 = .ok (.iload_n 3, 1) := by decide +kernel
theorem dL_law_1106 : decode cL_law 1106 = .ok (.iconst 1, 1) := by decide +kernel
theorem dL_law_1107 : decode cL_law 1107 = .ok (.iadd, 1) := by decide +kernel
theorem dL_law_1108 : decode cL_law 1108 = .ok (.iaload, 1) := by decide +kernel
theorem dL_law_1109 : decode cL_law 1109 = .ok (.aload_n 0, 1) := by decide +kernel
theorem dL_law_1110 : decode cL_law 1110 = .ok (.iload_n 3, 1) := by decide +kernel
theorem dL_law_1111 : decode cL_law 1111 = .ok (.iconst 2, 1) := by decide +kernel
theorem dL_law_1112 : decode cL_law 1112 = .ok (.iadd, 1) := by decide +kernel
theorem dL_law_1113 : decode cL_law 1113 = .ok (.iaload, 1) := by decide +kernel
theorem dL_law_1114 : decode cL_law 1114 = .ok (.aload_n 0, 1) := by decide +kernel
theorem dL_law_1115 : decode cL_law 1115 = .ok (.iload_n 3, 1) := by decide +kernel
theorem dL_law_1116 : decode cL_law 1116 = .ok (.iconst 3, 1) := by decide +kernel
theorem dL_law_1117 : decode cL_law 1117 = .ok (.iadd, 1) := by decide +kernel
theorem dL_law_1118 : decode cL_law 1118 = .ok (.iaload, 1) := by decide +kernel
theorem dL_law_1119 : decode cL_law 1119 = .ok (.invokevirtual 143, 3) := by decide +kernel
theorem dL_law_1122 : decode cL_law 1122 = .ok (.if_icmp .eq 134, 3) := by decide +kernel
theorem dL_law_1125 : decode cL_law 1125 = .ok (.iconst 0, 1) := by decide +kernel
theorem dL_law_1126 : decode cL_law 1126 = .ok (.ireturn, 1) := by decide +kernel
theorem dL_law_1127 : decode cL_law 1127 = .ok (.aload_n 1, 1) := by decide +kernel
theorem dL_law_1128 : decode cL_law 1128 = .ok (.aload_n 0, 1) := by decide +kernel
theorem dL_law_1129 : decode cL_law 1129 = .ok (.iload_n 3, 1) := by decide +kernel
theorem dL_law_1130 : decode cL_law 1130 = .ok (.iconst 1, 1) := by decide +kernel
theorem dL_law_1131 : decode cL_law 1131 = .ok (.iadd, 1) := by decide +kernel
theorem dL_law_1132 : decode cL_law 1132 = .ok (.iaload, 1) := by decide +kernel
theorem dL_law_1133 : decode cL_law 1133 = .ok (.invokevirtual 144, 3) := by decide +kernel
theorem dL_law_1136 : decode cL_law 1136 = .ok (.aload_n 2, 1) := by decide +kernel
theorem dL_law_1137 : decode cL_law 1137 = .ok (.aload_n 0, 1) := by decide +kernel
theorem dL_law_1138 : decode cL_law 1138 = .ok (.iload_n 3, 1) := by decide +kernel
theorem dL_law_1139 : decode cL_law 1139 = .ok (.iconst 1, 1) := by decide +kernel
theorem dL_law_1140 : decode cL_law 1140 = .ok (.iadd, 1) := by decide +kernel
theorem dL_law_1141 : decode cL_law 1141 = .ok (.iaload, 1) := by decide +kernel
theorem dL_law_1142 : decode cL_law 1142 = .ok (.invokevirtual 147, 3) := by decide +kernel
theorem dL_law_1145 : decode cL_law 1145 = .ok (.if_icmp .eq 111, 3) := by decide +kernel
theorem dL_law_1148 : decode cL_law 1148 = .ok (.iconst 0, 1) := by decide +kernel
theorem dL_law_1149 : decode cL_law 1149 = .ok (.ireturn, 1) := by decide +kernel
theorem dL_law_1150 : decode cL_law 1150 = .ok (.aload_n 1, 1) := by decide +kernel
theorem dL_law_1151 : decode cL_law 1151 = .ok (.aload_n 0, 1) := by decide +kernel
theorem dL_law_1152 : decode cL_law 1152 = .ok (.iload_n 3, 1) := by decide +kernel
theorem dL_law_1153 : decode cL_law 1153 = .ok (.iconst 1, 1) := by decide +kernel
theorem dL_law_1154 : decode cL_law 1154 = .ok (.iadd, 1) := by decide +kernel
theorem dL_law_1155 : decode cL_law 1155 = .ok (.iaload, 1) := by decide +kernel
theorem dL_law_1156 : decode cL_law 1156 = .ok (.invokevirtual 148, 3) := by decide +kernel
theorem dL_law_1159 : decode cL_law 1159 = .ok (.aload_n 2, 1) := by decide +kernel
theorem dL_law_1160 : decode cL_law 1160 = .ok (.aload_n 0, 1) := by decide +kernel
theorem dL_law_1161 : decode cL_law 1161 = .ok (.iload_n 3, 1) := by decide +kernel
theorem dL_law_1162 : decode cL_law 1162 = .ok (.iconst 1, 1) := by decide +kernel
theorem dL_law_1163 : decode cL_law 1163 = .ok (.iadd, 1) := by decide +kernel
theorem dL_law_1164 : decode cL_law 1164 = .ok (.iaload, 1) := by decide +kernel
theorem dL_law_1165 : decode cL_law 1165 = .ok (.invokevirtual 151, 3) := by decide +kernel
theorem dL_law_1168 : decode cL_law 1168 = .ok (.if_icmp .eq 88, 3) := by decide +kernel
theorem dL_law_1171 : decode cL_law 1171 = .ok (.iconst 0, 1) := by decide +kernel
theorem dL_law_1172 : decode cL_law 1172 = .ok (.ireturn, 1) := by decide +kernel
theorem dL_law_1173 : decode cL_law 1173 = .ok (.aload_n 1, 1) := by decide +kernel
theorem dL_law_1174 : decode cL_law 1174 = .ok (.aload_n 0, 1) := by decide +kernel
theorem dL_law_1175 : decode cL_law 1175 = .ok (.iload_n 3, 1) := by decide +kernel
theorem dL_law_1176 : decode cL_law 1176 = .ok (.iconst 1, 1) := by decide +kernel
theorem dL_law_1177 : decode cL_law 1177 = .ok (.iadd, 1) := by decide +kernel
theorem dL_law_1178 : decode cL_law 1178 = .ok (.iaload, 1) := by decide +kernel
theorem dL_law_1179 : decode cL_law 1179 = .ok (.invokevirtual 152, 3) := by decide +kernel
theorem dL_law_1182 : decode cL_law 1182 = .ok (.aload_n 2, 1) := by decide +kernel
theorem dL_law_1183 : decode cL_law 1183 = .ok (.aload_n 0, 1) := by decide +kernel
theorem dL_law_1184 : decode cL_law 1184 = .ok (.iload_n 3, 1) := by decide +kernel
theorem dL_law_1185 : decode cL_law 1185 = .ok (.iconst 1, 1) := by decide +kernel
theorem dL_law_1186 : decode cL_law 1186 = .ok (.iadd, 1) := by decide +kernel
theorem dL_law_1187 : decode cL_law 1187 = .ok (.iaload, 1) := by decide +kernel
theorem dL_law_1188 : decode cL_law 1188 = .ok (.invokevirtual 155, 3) := by decide +kernel
theorem dL_law_1191 : decode cL_law 1191 = .ok (.if_icmp .eq 65, 3) := by decide +kernel
theorem dL_law_1194 : decode cL_law 1194 = .ok (.iconst 0, 1) := by decide +kernel
theorem dL_law_1195 : decode cL_law 1195 = .ok (.ireturn, 1) := by decide +kernel
theorem dL_law_1196 : decode cL_law 1196 = .ok (.aload_n 1, 1) := by decide +kernel
theorem dL_law_1197 : decode cL_law 1197 = .ok (.aload_n 0, 1) := by decide +kernel
theorem dL_law_1198 : decode cL_law 1198 = .ok (.iload_n 3, 1) := by decide +kernel
theorem dL_law_1199 : decode cL_law 1199 = .ok (.iconst 1, 1) := by decide +kernel
theorem dL_law_1200 : decode cL_law 1200 = .ok (.iadd, 1) := by decide +kernel
theorem dL_law_1201 : decode cL_law 1201 = .ok (.iaload, 1) := by decide +kernel
theorem dL_law_1202 : decode cL_law 1202 = .ok (.invokevirtual 156, 3) := by decide +kernel
theorem dL_law_1205 : decode cL_law 1205 = .ok (.aload_n 2, 1) := by decide +kernel
theorem dL_law_1206 : decode cL_law 1206 = .ok (.aload_n 0, 1) := by decide +kernel
theorem dL_law_1207 : decode cL_law 1207 = .ok (.iload_n 3, 1) := by decide +kernel
theorem dL_law_1208 : decode cL_law 1208 = .ok (.iconst 1, 1) := by decide +kernel
theorem dL_law_1209 : decode cL_law 1209 = .ok (.iadd, 1) := by decide +kernel
theorem dL_law_1210 : decode cL_law 1210 = .ok (.iaload, 1) := by decide +kernel
theorem dL_law_1211 : decode cL_law 1211 = .ok (.invokevirtual 159, 3) := by decide +kernel
theorem dL_law_1214 : decode cL_law 1214 = .ok (.if_icmp .eq 42, 3) := by decide +kernel
theorem dL_law_1217 : decode cL_law 1217 = .ok (.iconst 0, 1) := by decide +kernel
theorem dL_law_1218 : decode cL_law 1218 = .ok (.ireturn, 1) := by decide +kernel
theorem dL_law_1219 : decode cL_law 1219 = .ok (.aload_n 1, 1) := by decide +kernel
theorem dL_law_1220 : decode cL_law 1220 = .ok (.aload_n 0, 1) := by decide +kernel
theorem dL_law_1221 : decode cL_law 1221 = .ok (.iload_n 3, 1) := by decide +kernel
theorem dL_law_1222 : decode cL_law 1222 = .ok (.iconst 1, 1) := by decide +kernel
theorem dL_law_1223 : decode cL_law 1223 = .ok (.iadd, 1) := by decide +kernel
theorem dL_law_1224 : decode cL_law 1224 = .ok (.iaload, 1) := by decide +kernel
theorem dL_law_1225 : decode cL_law 1225 = .ok (.invokevirtual 160, 3) := by decide +kernel
theorem dL_law_1228 : decode cL_law 1228 = .ok (.aload_n 2, 1) := by decide +kernel
theorem dL_law_1229 : decode cL_law 1229 = .ok (.aload_n 0, 1) := by decide +kernel
theorem dL_law_1230 : decode cL_law 1230 = .ok (.iload_n 3, 1) := by decide +kernel
theorem dL_law_1231 : decode cL_law 1231 = .ok (.iconst 1, 1) := by decide +kernel
theorem dL_law_1232 : decode cL_law 1232 = .ok (.iadd, 1) := by decide +kernel
theorem dL_law_1233 : decode cL_law 1233 = .ok (.iaload, 1) := by decide +kernel
theorem dL_law_1234 : decode cL_law 1234 = .ok (.invokevirtual 163, 3) := by decide +kernel
theorem dL_law_1237 : decode cL_law 1237 = .ok (.if_icmp .eq 19, 3) := by decide +kernel
theorem dL_law_1240 : decode cL_law 1240 = .ok (.iconst 0, 1) := by decide +kernel
theorem dL_law_1241 : decode cL_law 1241 = .ok (.ireturn, 1) := by decide +kernel
theorem dL_law_1242 : decode cL_law 1242 = .ok (.aload_n 1, 1) := by decide +kernel
theorem dL_law_1243 : decode cL_law 1243 = .ok (.invokevirtual 164, 3) := by decide +kernel
theorem dL_law_1246 : decode cL_law 1246 = .ok (.aload_n 2, 1) := by decide +kernel
theorem dL_law_1247 : decode cL_law 1247 = .ok (.invokevirtual 168, 3) := by decide +kernel
theorem dL_law_1250 : decode cL_law 1250 = .ok (.lcmp, 1) := by decide +kernel
theorem dL_law_1251 : decode cL_law 1251 = .ok (.ifCond .eq 5, 3) := by decide +kernel
theorem dL_law_1254 : decode cL_law 1254 = .ok (.iconst 0, 1) := by decide +kernel
theorem dL_law_1255 : decode cL_law 1255 = .ok (.ireturn, 1) := by decide +kernel
theorem dL_law_1256 : decode cL_law 1256 = .ok (.iinc 3 7, 3) := by decide +kernel
theorem dL_law_1259 : decode cL_law 1259 = .ok (.goto (-1241), 3) := by decide +kernel
theorem dL_law_1262 : decode cL_law 1262 = .ok (.iconst 1, 1) := by decide +kernel
theorem dL_law_1263 : decode cL_law 1263 = .ok (.ireturn, 1) := by decide +kernel
