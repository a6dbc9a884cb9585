theorem dX0_init_0 : decode cX0_init 0 = .ok (.aload_n 0, 1) := by decide +kernel
theorem dX0_init_1 : decode cX0_init 1 = .ok (.invokespecial 1, 3) := by decide +kernel
theorem dX0_init_4 : decode cX0_init 4 = .ok (.return_, 1) := by decide +kernel
theorem dX0_costs_0 : decode cX0_costs 0 = .ok (.aload_n 0, 1) := by decide +kernel
theorem dX0_costs_1 : decode cX0_costs 1 = .ok (.iload_n 1, 1) := by decide +kernel
theorem dX0_costs_2 : decode cX0_costs 2 = .ok (.invokespecial 7, 3) := by decide +kernel
theorem dX0_costs_5 : decode cX0_costs 5 = .ok (.iconst 1, 1) := by decide +kernel
theorem dX0_costs_6 : decode cX0_costs 6 = .ok (.iadd, 1) := by decide +kernel
theorem dX0_costs_7 : decode cX0_costs 7 = .ok (.ireturn, 1) := by decide +kernel
theorem dX0_due_0 : decode cX0_due 0 = .ok (.iload_n 2, 1) := by decide +kernel
theorem dX0_due_1 : decode cX0_due 1 = .ok (.iconst 1, 1) := by decide +kernel
theorem dX0_due_2 : decode cX0_due 2 = .ok (.iand, 1) := by decide +kernel
theorem dX0_due_3 : decode cX0_due 3 = .ok (.iconst 1, 1) := by decide +kernel
theorem dX0_due_4 : decode cX0_due 4 = .ok (.if_icmp .ne 9, 3) := by decide +kernel
theorem dX0_due_7 : decode cX0_due 7 = .ok (.iconst 2, 1) := by decide +kernel
theorem dX0_due_8 : decode cX0_due 8 = .ok (.iload_n 1, 1) := by decide +kernel
theorem dX0_due_9 : decode cX0_due 9 = .ok (.imul, 1) := by decide +kernel
theorem dX0_due_10 : decode cX0_due 10 = .ok (.goto 4, 3) := by decide +kernel
theorem dX0_due_13 : decode cX0_due 13 = .ok (.iconst 0, 1) := by decide +kernel
theorem dX0_due_14 : decode cX0_due 14 = .ok (.ireturn, 1) := by decide +kernel
theorem dX1_init_0 : decode cX1_init 0 = .ok (.aload_n 0, 1) := by decide +kernel
theorem dX1_init_1 : decode cX1_init 1 = .ok (.invokespecial 1, 3) := by decide +kernel
theorem dX1_init_4 : decode cX1_init 4 = .ok (.return_, 1) := by decide +kernel
theorem dX1_holds_0 : decode cX1_holds 0 = .ok (.iload_n 1, 1) := by decide +kernel
theorem dX1_holds_1 : decode cX1_holds 1 = .ok (.ifCond .eq 8, 3) := by decide +kernel
theorem dX1_holds_4 : decode cX1_holds 4 = .ok (.bipush 15, 2) := by decide +kernel
theorem dX1_holds_6 : decode cX1_holds 6 = .ok (.goto 8, 3) := by decide +kernel
theorem dX1_holds_9 : decode cX1_holds 9 = .ok (.aload_n 0, 1) := by decide +kernel
theorem dX1_holds_10 : decode cX1_holds 10 = .ok (.iload_n 1, 1) := by decide +kernel
theorem dX1_holds_11 : decode cX1_holds 11 = .ok (.invokespecial 7, 3) := by decide +kernel
theorem dX1_holds_14 : decode cX1_holds 14 = .ok (.ireturn, 1) := by decide +kernel
theorem dX2_init_0 : decode cX2_init 0 = .ok (.aload_n 0, 1) := by decide +kernel
theorem dX2_init_1 : decode cX2_init 1 = .ok (.invokespecial 3, 3) := by decide +kernel
theorem dX2_init_4 : decode cX2_init 4 = .ok (.aload_n 0, 1) := by decide +kernel
theorem dX2_init_5 : decode cX2_init 5 = .ok (.bipush 8, 2) := by decide +kernel
theorem dX2_init_7 : decode cX2_init 7 = .ok (.newarray .int, 2) := by decide +kernel
theorem dX2_init_9 : decode cX2_init 9 = .ok (.putfield 9, 3) := by decide +kernel
theorem dX2_init_12 : decode cX2_init 12 = .ok (.aload_n 0, 1) := by decide +kernel
theorem dX2_init_13 : decode cX2_init 13 = .ok (.bipush 8, 2) := by decide +kernel
theorem dX2_init_15 : decode cX2_init 15 = .ok (.newarray .int, 2) := by decide +kernel
theorem dX2_init_17 : decode cX2_init 17 = .ok (.putfield 15, 3) := by decide +kernel
theorem dX2_init_20 : decode cX2_init 20 = .ok (.aload_n 0, 1) := by decide +kernel
theorem dX2_init_21 : decode cX2_init 21 = .ok (.bipush 8, 2) := by decide +kernel
theorem dX2_init_23 : decode cX2_init 23 = .ok (.newarray .int, 2) := by decide +kernel
theorem dX2_init_25 : decode cX2_init 25 = .ok (.putfield 18, 3) := by decide +kernel
theorem dX2_init_28 : decode cX2_init 28 = .ok (.aload_n 0, 1) := by decide +kernel
theorem dX2_init_29 : decode cX2_init 29 = .ok (.bipush 8, 2) := by decide +kernel
theorem dX2_init_31 : decode cX2_init 31 = .ok (.newarray .int, 2) := by decide +kernel
theorem dX2_init_33 : decode cX2_init 33 = .ok (.putfield 21, 3) := by decide +kernel
theorem dX2_init_36 : decode cX2_init 36 = .ok (.aload_n 0, 1) := by decide +kernel
theorem dX2_init_37 : decode cX2_init 37 = .ok (.bipush 6, 2) := by decide +kernel
theorem dX2_init_39 : decode cX2_init 39 = .ok (.anewarray 24, 3) := by decide +kernel
theorem dX2_init_42 : decode cX2_init 42 = .ok (.putfield 26, 3) := by decide +kernel
theorem dX2_init_45 : decode cX2_init 45 = .ok (.aload_n 0, 1) := by decide +kernel
theorem dX2_init_46 : decode cX2_init 46 = .ok (.bipush 6, 2) := by decide +kernel
theorem dX2_init_48 : decode cX2_init 48 = .ok (.newarray .int, 2) := by decide +kernel
theorem dX2_init_50 : decode cX2_init 50 = .ok (.putfield 30, 3) := by decide +kernel
theorem dX2_init_53 : decode cX2_init 53 = .ok (.aload_n 0, 1) := by decide +kernel
theorem dX2_init_54 : decode cX2_init 54 = .ok (.bipush 6, 2) := by decide +kernel
theorem dX2_init_56 : decode cX2_init 56 = .ok (.newarray .int, 2) := by decide +kernel
theorem dX2_init_58 : decode cX2_init 58 = .ok (.putfield 33, 3) := by decide +kernel
theorem dX2_init_61 : decode cX2_init 61 = .ok (.aload_n 0, 1) := by decide +kernel
theorem dX2_init_62 : decode cX2_init 62 = .ok (.bipush 6, 2) := by decide +kernel
theorem dX2_init_64 : decode cX2_init 64 = .ok (.newarray .int, 2) := by decide +kernel
theorem dX2_init_66 : decode cX2_init 66 = .ok (.putfield 36, 3) := by decide +kernel
theorem dX2_init_69 : decode cX2_init 69 = .ok (.aload_n 0, 1) := by decide +kernel
theorem dX2_init_70 : decode cX2_init 70 = .ok (.aload_n 1, 1) := by decide +kernel
theorem dX2_init_71 : decode cX2_init 71 = .ok (.putfield 39, 3) := by decide +kernel
theorem dX2_init_74 : decode cX2_init 74 = .ok (.iconst 0, 1) := by decide +kernel
theorem dX2_init_75 : decode cX2_init 75 = .ok (.istore_n 2, 1) := by decide +kernel
theorem dX2_init_76 : decode cX2_init 76 = .ok (.iload_n 2, 1) := by decide +kernel
theorem dX2_init_77 : decode cX2_init 77 = .ok (.bipush 6, 2) := by decide +kernel
theorem dX2_init_79 : decode cX2_init 79 = .ok (.if_icmp .ge 25, 3) := by decide +kernel
theorem dX2_init_82 : decode cX2_init 82 = .ok (.aload_n 0, 1) := by decide +kernel
theorem dX2_init_83 : decode cX2_init 83 = .ok (.getfield 26, 3) := by decide +kernel
theorem dX2_init_86 : decode cX2_init 86 = .ok (.iload_n 2, 1) := by decide +kernel
theorem dX2_init_87 : decode cX2_init 87 = .ok (.new 24, 3) := by decide +kernel
theorem dX2_init_90 : decode cX2_init 90 = .ok (.dup, 1) := by decide +kernel
theorem dX2_init_91 : decode cX2_init 91 = .ok (.aload_n 1, 1) := by decide +kernel
theorem dX2_init_92 : decode cX2_init 92 = .ok (.iconst 0, 1) := by decide +kernel
theorem dX2_init_93 : decode cX2_init 93 = .ok (.aaload, 1) := by decide +kernel
theorem dX2_init_94 : decode cX2_init 94 = .ok (.invokespecial 43, 3) := by decide +kernel
theorem dX2_init_97 : decode cX2_init 97 = .ok (.aastore, 1) := by decide +kernel
theorem dX2_init_98 : decode cX2_init 98 = .ok (.iinc 2 1, 3) := by decide +kernel
theorem dX2_init_101 : decode cX2_init 101 = .ok (.goto (-25), 3) := by decide +kernel
theorem dX2_init_104 : decode cX2_init 104 = .ok (.return_, 1) := by decide +kernel
theorem dX2_begin_0 : decode cX2_begin 0 = .ok (.aload_n 0, 1) := by decide +kernel
theorem dX2_begin_1 : decode cX2_begin 1 = .ok (.iload_n 1, 1) := by decide +kernel
theorem dX2_begin_2 : decode cX2_begin 2 = .ok (.putfield 46, 3) := by decide +kernel
theorem dX2_begin_5 : decode cX2_begin 5 = .ok (.aload_n 0, 1) := by decide +kernel
theorem dX2_begin_6 : decode cX2_begin 6 = .ok (.iconst 4, 1) := by decide +kernel
theorem dX2_begin_7 : decode cX2_begin 7 = .ok (.putfield 50, 3) := by decide +kernel
theorem dX2_begin_10 : decode cX2_begin 10 = .ok (.aload_n 0, 1) := by decide +kernel
theorem dX2_begin_11 : decode cX2_begin 11 = .ok (.iconst 0, 1) := by decide +kernel
theorem dX2_begin_12 : decode cX2_begin 12 = .ok (.putfield 53, 3) := by decide +kernel
theorem dX2_begin_15 : decode cX2_begin 15 = .ok (.aload_n 0, 1) := by decide +kernel
theorem dX2_begin_16 : decode cX2_begin 16 = .ok (.iconst 0, 1) := by decide +kernel
theorem dX2_begin_17 : decode cX2_begin 17 = .ok (.putfield 56, 3) := by decide +kernel
theorem dX2_begin_20 : decode cX2_begin 20 = .ok (.iconst 0, 1) := by decide +kernel
theorem dX2_begin_21 : decode cX2_begin 21 = .ok (.istore_n 2, 1) := by decide +kernel
theorem dX2_begin_22 : decode cX2_begin 22 = .ok (.iload_n 2, 1) := by decide +kernel
theorem dX2_begin_23 : decode cX2_begin 23 = .ok (.bipush 8, 2) := by decide +kernel
theorem dX2_begin_25 : decode cX2_begin 25 = .ok (.if_icmp .ge 18, 3) := by decide +kernel
theorem dX2_begin_28 : decode cX2_begin 28 = .ok (.aload_n 0, 1) := by decide +kernel
theorem dX2_begin_29 : decode cX2_begin 29 = .ok (.iload_n 2, 1) := by decide +kernel
theorem dX2_begin_30 : decode cX2_begin 30 = .ok (.iconst 2, 1) := by decide +kernel
theorem dX2_begin_31 : decode cX2_begin 31 = .ok (.bipush 10, 2) := by decide +kernel
theorem dX2_begin_33 : decode cX2_begin 33 = .ok (.iconst 0, 1) := by decide +kernel
theorem dX2_begin_34 : decode cX2_begin 34 = .ok (.invokevirtual 59, 3) := by decide +kernel
theorem dX2_begin_37 : decode cX2_begin 37 = .ok (.iinc 2 1, 3) := by decide +kernel
theorem dX2_begin_40 : decode cX2_begin 40 = .ok (.goto (-18), 3) := by decide +kernel
theorem dX2_begin_43 : decode cX2_begin 43 = .ok (.iconst 0, 1) := by decide +kernel
theorem dX2_begin_44 : decode cX2_begin 44 = .ok (.istore_n 2, 1) := by decide +kernel
theorem dX2_begin_45 : decode cX2_begin 45 = .ok (.iload_n 2, 1) := by decide +kernel
theorem dX2_begin_46 : decode cX2_begin 46 = .ok (.bipush 8, 2) := by decide +kernel
theorem dX2_begin_48 : decode cX2_begin 48 = .ok (.if_icmp .ge 16, 3) := by decide +kernel
theorem dX2_begin_51 : decode cX2_begin 51 = .ok (.aload_n 0, 1) := by decide +kernel
theorem dX2_begin_52 : decode cX2_begin 52 = .ok (.getfield 21, 3) := by decide +kernel
theorem dX2_begin_55 : decode cX2_begin 55 = .ok (.iload_n 2, 1) := by decide +kernel
theorem dX2_begin_56 : decode cX2_begin 56 = .ok (.iconst 3, 1) := by decide +kernel
theorem dX2_begin_57 : decode cX2_begin 57 = .ok (.iastore, 1) := by decide +kernel
theorem dX2_begin_58 : decode cX2_begin 58 = .ok (.iinc 2 1, 3) := by decide +kernel
theorem dX2_begin_61 : decode cX2_begin 61 = .ok (.goto (-16), 3) := by decide +kernel
theorem dX2_begin_64 : decode cX2_begin 64 = .ok (.return_, 1) := by decide +kernel
theorem dX2_copyOf_0 : decode cX2_copyOf 0 = .ok (.aload_n 0, 1) := by decide +kernel
theorem dX2_copyOf_1 : decode cX2_copyOf 1 = .ok (.aload_n 1, 1) := by decide +kernel
theorem dX2_copyOf_2 : decode cX2_copyOf 2 = .ok (.getfield 46, 3) := by decide +kernel
theorem dX2_copyOf_5 : decode cX2_copyOf 5 = .ok (.putfield 46, 3) := by decide +kernel
theorem dX2_copyOf_8 : decode cX2_copyOf 8 = .ok (.aload_n 0, 1) := by decide +kernel
theorem dX2_copyOf_9 : decode cX2_copyOf 9 = .ok (.aload_n 1, 1) := by decide +kernel
theorem dX2_copyOf_10 : decode cX2_copyOf 10 = .ok (.getfield 50, 3) := by decide +kernel
theorem dX2_copyOf_13 : decode cX2_copyOf 13 = .ok (.putfield 50, 3) := by decide +kernel
theorem dX2_copyOf_16 : decode cX2_copyOf 16 = .ok (.aload_n 1, 1) := by decide +kernel
theorem dX2_copyOf_17 : decode cX2_copyOf 17 = .ok (.getfield 9, 3) := by decide +kernel
theorem dX2_copyOf_20 : decode cX2_copyOf 20 = .ok (.iconst 0, 1) := by decide +kernel
theorem dX2_copyOf_21 : decode cX2_copyOf 21 = .ok (.aload_n 0, 1) := by decide +kernel
theorem dX2_copyOf_22 : decode cX2_copyOf 22 = .ok (.getfield 9, 3) := by decide +kernel
theorem dX2_copyOf_25 : decode cX2_copyOf 25 = .ok (.iconst 0, 1) := by decide +kernel
theorem dX2_copyOf_26 : decode cX2_copyOf 26 = .ok (.bipush 8, 2) := by decide +kernel
theorem dX2_copyOf_28 : decode cX2_copyOf 28 = .ok (.invokestatic 63, 3) := by decide +kernel
theorem dX2_copyOf_31 : decode cX2_copyOf 31 = .ok (.aload_n 1, 1) := by decide +kernel
theorem dX2_copyOf_32 : decode cX2_copyOf 32 = .ok (.getfield 15, 3) := by decide +kernel
theorem dX2_copyOf_35 : decode cX2_copyOf 35 = .ok (.iconst 0, 1) := by decide +kernel
theorem dX2_copyOf_36 : decode cX2_copyOf 36 = .ok (.aload_n 0, 1) := by decide +kernel
theorem dX2_copyOf_37 : decode cX2_copyOf 37 = .ok (.getfield 15, 3) := by decide +kernel
theorem dX2_copyOf_40 : decode cX2_copyOf 40 = .ok (.iconst 0, 1) := by decide +kernel
theorem dX2_copyOf_41 : decode cX2_copyOf 41 = .ok (.bipush 8, 2) := by decide +kernel
theorem dX2_copyOf_43 : decode cX2_copyOf 43 = .ok (.invokestatic 63, 3) := by decide +kernel
theorem dX2_copyOf_46 : decode cX2_copyOf 46 = .ok (.aload_n 1, 1) := by decide +kernel
theorem dX2_copyOf_47 : decode cX2_copyOf 47 = .ok (.getfield 18, 3) := by decide +kernel
theorem dX2_copyOf_50 : decode cX2_copyOf 50 = .ok (.iconst 0, 1) := by decide +kernel
theorem dX2_copyOf_51 : decode cX2_copyOf 51 = .ok (.aload_n 0, 1) := by decide +kernel
theorem dX2_copyOf_52 : decode cX2_copyOf 52 = .ok (.getfield 18, 3) := by decide +kernel
theorem dX2_copyOf_55 : decode cX2_copyOf 55 = .ok (.iconst 0, 1) := by decide +kernel
theorem dX2_copyOf_56 : decode cX2_copyOf 56 = .ok (.bipush 8, 2) := by decide +kernel
theorem dX2_copyOf_58 : decode cX2_copyOf 58 = .ok (.invokestatic 63, 3) := by decide +kernel
theorem dX2_copyOf_61 : decode cX2_copyOf 61 = .ok (.aload_n 1, 1) := by decide +kernel
theorem dX2_copyOf_62 : decode cX2_copyOf 62 = .ok (.getfield 21, 3) := by decide +kernel
theorem dX2_copyOf_65 : decode cX2_copyOf 65 = .ok (.iconst 0, 1) := by decide +kernel
theorem dX2_copyOf_66 : decode cX2_copyOf 66 = .ok (.aload_n 0, 1) := by decide +kernel
theorem dX2_copyOf_67 : decode cX2_copyOf 67 = .ok (.getfield 21, 3) := by decide +kernel
theorem dX2_copyOf_70 : decode cX2_copyOf 70 = .ok (.iconst 0, 1) := by decide +kernel
theorem dX2_copyOf_71 : decode cX2_copyOf 71 = .ok (.bipush 8, 2) := by decide +kernel
theorem dX2_copyOf_73 : decode cX2_copyOf 73 = .ok (.invokestatic 63, 3) := by decide +kernel
theorem dX2_copyOf_76 : decode cX2_copyOf 76 = .ok (.aload_n 0, 1) := by decide +kernel
theorem dX2_copyOf_77 : decode cX2_copyOf 77 = .ok (.aload_n 1, 1) := by decide +kernel
theorem dX2_copyOf_78 : decode cX2_copyOf 78 = .ok (.getfield 53, 3) := by decide +kernel
theorem dX2_copyOf_81 : decode cX2_copyOf 81 = .ok (.putfield 53, 3) := by decide +kernel
theorem dX2_copyOf_84 : decode cX2_copyOf 84 = .ok (.iconst 0, 1) := by decide +kernel
theorem dX2_copyOf_85 : decode cX2_copyOf 85 = .ok (.istore_n 2, 1) := by decide +kernel
theorem dX2_copyOf_86 : decode cX2_copyOf 86 = .ok (.iload_n 2, 1) := by decide +kernel
theorem dX2_copyOf_87 : decode cX2_copyOf 87 = .ok (.aload_n 0, 1) := by decide +kernel
theorem dX2_copyOf_88 : decode cX2_copyOf 88 = .ok (.getfield 53, 3) := by decide +kernel
theorem dX2_copyOf_91 : decode cX2_copyOf 91 = .ok (.if_icmp .ge 24, 3) := by decide +kernel
theorem dX2_copyOf_94 : decode cX2_copyOf 94 = .ok (.aload_n 0, 1) := by decide +kernel
theorem dX2_copyOf_95 : decode cX2_copyOf 95 = .ok (.getfield 26, 3) := by decide +kernel
theorem dX2_copyOf_98 : decode cX2_copyOf 98 = .ok (.iload_n 2, 1) := by decide +kernel
theorem dX2_copyOf_99 : decode cX2_copyOf 99 = .ok (.aaload, 1) := by decide +kernel
theorem dX2_copyOf_100 : decode cX2_copyOf 100 = .ok (.aload_n 1, 1) := by decide +kernel
theorem dX2_copyOf_101 : decode cX2_copyOf 101 = .ok (.getfield 26, 3) := by decide +kernel
theorem dX2_copyOf_104 : decode cX2_copyOf 104 = .ok (.iload_n 2, 1) := by decide +kernel
theorem dX2_copyOf_105 : decode cX2_copyOf 105 = .ok (.aaload, 1) := by decide +kernel
theorem dX2_copyOf_106 : decode cX2_copyOf 106 = .ok (.invokevirtual 69, 3) := by decide +kernel
theorem dX2_copyOf_109 : decode cX2_copyOf 109 = .ok (.iinc 2 1, 3) := by decide +kernel
theorem dX2_copyOf_112 : decode cX2_copyOf 112 = .ok (.goto (-26), 3) := by decide +kernel
theorem dX2_copyOf_115 : decode cX2_copyOf 115 = .ok (.aload_n 0, 1) := by decide +kernel
theorem dX2_copyOf_116 : decode cX2_copyOf 116 = .ok (.aload_n 1, 1) := by decide +kernel
theorem dX2_copyOf_117 : decode cX2_copyOf 117 = .ok (.getfield 56, 3) := by decide +kernel
theorem dX2_copyOf_120 : decode cX2_copyOf 120 = .ok (.putfield 56, 3) := by decide +kernel
theorem dX2_copyOf_123 : decode cX2_copyOf 123 = .ok (.aload_n 1, 1) := by decide +kernel
theorem dX2_copyOf_124 : decode cX2_copyOf 124 = .ok (.getfield 30, 3) := by decide +kernel
theorem dX2_copyOf_127 : decode cX2_copyOf 127 = .ok (.iconst 0, 1) := by decide +kernel
theorem dX2_copyOf_128 : decode cX2_copyOf 128 = .ok (.aload_n 0, 1) := by decide +kernel
theorem dX2_copyOf_129 : decode cX2_copyOf 129 = .ok (.getfield 30, 3) := by decide +kernel
theorem dX2_copyOf_132 : decode cX2_copyOf 132 = .ok (.iconst 0, 1) := by decide +kernel
theorem dX2_copyOf_133 : decode cX2_copyOf 133 = .ok (.bipush 6, 2) := by decide +kernel
theorem dX2_copyOf_135 : decode cX2_copyOf 135 = .ok (.invokestatic 63, 3) := by decide +kernel
theorem dX2_copyOf_138 : decode cX2_copyOf 138 = .ok (.aload_n 1, 1) := by decide +kernel
theorem dX2_copyOf_139 : decode cX2_copyOf 139 = .ok (.getfield 33, 3) := by decide +kernel
theorem dX2_copyOf_142 : decode cX2_copyOf 142 = .ok (.iconst 0, 1) := by decide +kernel
theorem dX2_copyOf_143 : decode cX2_copyOf 143 = .ok (.aload_n 0, 1) := by decide +kernel
theorem dX2_copyOf_144 : decode cX2_copyOf 144 = .ok (.getfield 33, 3) := by decide +kernel
theorem dX2_copyOf_147 : decode cX2_copyOf 147 = .ok (.iconst 0, 1) := by decide +kernel
theorem dX2_copyOf_148 : decode cX2_copyOf 148 = .ok (.bipush 6, 2) := by decide +kernel
theorem dX2_copyOf_150 : decode cX2_copyOf 150 = .ok (.invokestatic 63, 3) := by decide +kernel
theorem dX2_copyOf_153 : decode cX2_copyOf 153 = .ok (.aload_n 1, 1) := by decide +kernel
theorem dX2_copyOf_154 : decode cX2_copyOf 154 = .ok (.getfield 36, 3) := by decide +kernel
theorem dX2_copyOf_157 : decode cX2_copyOf 157 = .ok (.iconst 0, 1) := by decide +kernel
theorem dX2_copyOf_158 : decode cX2_copyOf 158 = .ok (.aload_n 0, 1) := by decide +kernel
theorem dX2_copyOf_159 : decode cX2_copyOf 159 = .ok (.getfield 36, 3) := by decide +kernel
theorem dX2_copyOf_162 : decode cX2_copyOf 162 = .ok (.iconst 0, 1) := by decide +kernel
theorem dX2_copyOf_163 : decode cX2_copyOf 163 = .ok (.bipush 6, 2) := by decide +kernel
theorem dX2_copyOf_165 : decode cX2_copyOf 165 = .ok (.invokestatic 63, 3) := by decide +kernel
theorem dX2_copyOf_168 : decode cX2_copyOf 168 = .ok (.return_, 1) := by decide +kernel
theorem dX2_setCell_0 : decode cX2_setCell 0 = .ok (.aload_n 0, 1) := by decide +kernel
theorem dX2_setCell_1 : decode cX2_setCell 1 = .ok (.getfield 9, 3) := by decide +kernel
theorem dX2_setCell_4 : decode cX2_setCell 4 = .ok (.iload_n 1, 1) := by decide +kernel
theorem dX2_setCell_5 : decode cX2_setCell 5 = .ok (.iload_n 2, 1) := by decide +kernel
theorem dX2_setCell_6 : decode cX2_setCell 6 = .ok (.iastore, 1) := by decide +kernel
theorem dX2_setCell_7 : decode cX2_setCell 7 = .ok (.aload_n 0, 1) := by decide +kernel
theorem dX2_setCell_8 : decode cX2_setCell 8 = .ok (.getfield 15, 3) := by decide +kernel
theorem dX2_setCell_11 : decode cX2_setCell 11 = .ok (.iload_n 1, 1) := by decide +kernel
theorem dX2_setCell_12 : decode cX2_setCell 12 = .ok (.iload_n 3, 1) := by decide +kernel
theorem dX2_setCell_13 : decode cX2_setCell 13 = .ok (.iastore, 1) := by decide +kernel
theorem dX2_setCell_14 : decode cX2_setCell 14 = .ok (.aload_n 0, 1) := by decide +kernel
theorem dX2_setCell_15 : decode cX2_setCell 15 = .ok (.getfield 18, 3) := by decide +kernel
theorem dX2_setCell_18 : decode cX2_setCell 18 = .ok (.iload_n 1, 1) := by decide +kernel
theorem dX2_setCell_19 : decode cX2_setCell 19 = .ok (.iload 4, 2) := by decide +kernel
theorem dX2_setCell_21 : decode cX2_setCell 21 = .ok (.iastore, 1) := by decide +kernel
theorem dX2_setCell_22 : decode cX2_setCell 22 = .ok (.return_, 1) := by decide +kernel
theorem dX2_addTreaty_0 : decode cX2_addTreaty 0 = .ok (.aload_n 0, 1) := by decide +kernel
theorem dX2_addTreaty_1 : decode cX2_addTreaty 1 = .ok (.getfield 53, 3) := by decide +kernel
theorem dX2_addTreaty_4 : decode cX2_addTreaty 4 = .ok (.bipush 6, 2) := by decide +kernel
theorem dX2_addTreaty_6 : decode cX2_addTreaty 6 = .ok (.if_icmp .lt 6, 3) := by decide +kernel
theorem dX2_addTreaty_9 : decode cX2_addTreaty 9 = .ok (.bipush (-4), 2) := by decide +kernel
theorem dX2_addTreaty_11 : decode cX2_addTreaty 11 = .ok (.ireturn, 1) := by decide +kernel
theorem dX2_addTreaty_12 : decode cX2_addTreaty 12 = .ok (.aload_n 0, 1) := by decide +kernel
theorem dX2_addTreaty_13 : decode cX2_addTreaty 13 = .ok (.getfield 26, 3) := by decide +kernel
theorem dX2_addTreaty_16 : decode cX2_addTreaty 16 = .ok (.aload_n 0, 1) := by decide +kernel
theorem dX2_addTreaty_17 : decode cX2_addTreaty 17 = .ok (.getfield 53, 3) := by decide +kernel
theorem dX2_addTreaty_20 : decode cX2_addTreaty 20 = .ok (.aaload, 1) := by decide +kernel
theorem dX2_addTreaty_21 : decode cX2_addTreaty 21 = .ok (.astore 7, 2) := by decide +kernel
theorem dX2_addTreaty_23 : decode cX2_addTreaty 23 = .ok (.aload 7, 2) := by decide +kernel
theorem dX2_addTreaty_25 : decode cX2_addTreaty 25 = .ok (.aload_n 0, 1) := by decide +kernel
theorem dX2_addTreaty_26 : decode cX2_addTreaty 26 = .ok (.getfield 39, 3) := by decide +kernel
theorem dX2_addTreaty_29 : decode cX2_addTreaty 29 = .ok (.iload_n 1, 1) := by decide +kernel
theorem dX2_addTreaty_30 : decode cX2_addTreaty 30 = .ok (.aaload, 1) := by decide +kernel
theorem dX2_addTreaty_31 : decode cX2_addTreaty 31 = .ok (.putfield 73, 3) := by decide +kernel
theorem dX2_addTreaty_34 : decode cX2_addTreaty 34 = .ok (.aload 7, 2) := by decide +kernel
theorem dX2_addTreaty_36 : decode cX2_addTreaty 36 = .ok (.iload_n 1, 1) := by decide +kernel
theorem dX2_addTreaty_37 : decode cX2_addTreaty 37 = .ok (.putfield 77, 3) := by decide +kernel
theorem dX2_addTreaty_40 : decode cX2_addTreaty 40 = .ok (.aload 7, 2) := by decide +kernel
theorem dX2_addTreaty_42 : decode cX2_addTreaty 42 = .ok (.iload_n 2, 1) := by decide +kernel
theorem dX2_addTreaty_43 : decode cX2_addTreaty 43 = .ok (.putfield 80, 3) := by decide +kernel
theorem dX2_addTreaty_46 : decode cX2_addTreaty 46 = .ok (.aload 7, 2) := by decide +kernel
theorem dX2_addTreaty_48 : decode cX2_addTreaty 48 = .ok (.iload_n 3, 1) := by decide +kernel
theorem dX2_addTreaty_49 : decode cX2_addTreaty 49 = .ok (.putfield 83, 3) := by decide +kernel
theorem dX2_addTreaty_52 : decode cX2_addTreaty 52 = .ok (.aload 7, 2) := by decide +kernel
theorem dX2_addTreaty_54 : decode cX2_addTreaty 54 = .ok (.iload 4, 2) := by decide +kernel
theorem dX2_addTreaty_56 : decode cX2_addTreaty 56 = .ok (.putfield 86, 3) := by decide +kernel
theorem dX2_addTreaty_59 : decode cX2_addTreaty 59 = .ok (.aload 7, 2) := by decide +kernel
theorem dX2_addTreaty_61 : decode cX2_addTreaty 61 = .ok (.iload 5, 2) := by decide +kernel
theorem dX2_addTreaty_63 : decode cX2_addTreaty 63 = .ok (.putfield 89, 3) := by decide +kernel
theorem dX2_addTreaty_66 : decode cX2_addTreaty 66 = .ok (.aload 7, 2) := by decide +kernel
theorem dX2_addTreaty_68 : decode cX2_addTreaty 68 = .ok (.iload 6, 2) := by decide +kernel
theorem dX2_addTreaty_70 : decode cX2_addTreaty 70 = .ok (.putfield 92, 3) := by decide +kernel
theorem dX2_addTreaty_73 : decode cX2_addTreaty 73 = .ok (.aload 7, 2) := by decide +kernel
theorem dX2_addTreaty_75 : decode cX2_addTreaty 75 = .ok (.aload 7, 2) := by decide +kernel
theorem dX2_addTreaty_77 : decode cX2_addTreaty 77 = .ok (.getfield 73, 3) := by decide +kernel
theorem dX2_addTreaty_80 : decode cX2_addTreaty 80 = .ok (.iload 6, 2) := by decide +kernel
theorem dX2_addTreaty_82 : decode cX2_addTreaty 82 = .ok (.invokevirtual 95, 3) := by decide +kernel
theorem dX2_addTreaty_85 : decode cX2_addTreaty 85 = .ok (.putfield 101, 3) := by decide +kernel
theorem dX2_addTreaty_88 : decode cX2_addTreaty 88 = .ok (.aload_n 0, 1) := by decide +kernel
theorem dX2_addTreaty_89 : decode cX2_addTreaty 89 = .ok (.dup, 1) := by decide +kernel
theorem dX2_addTreaty_90 : decode cX2_addTreaty 90 = .ok (.getfield 53, 3) := by decide +kernel
theorem dX2_addTreaty_93 : decode cX2_addTreaty 93 = .ok (.iconst 1, 1) := by decide +kernel
theorem dX2_addTreaty_94 : decode cX2_addTreaty 94 = .ok (.iadd, 1) := by decide +kernel
theorem dX2_addTreaty_95 : decode cX2_addTreaty 95 = .ok (.putfield 53, 3) := by decide +kernel
theorem dX2_addTreaty_98 : decode cX2_addTreaty 98 = .ok (.aload_n 0, 1) := by decide +kernel
theorem dX2_addTreaty_99 : decode cX2_addTreaty 99 = .ok (.getfield 53, 3) := by decide +kernel
theorem dX2_addTreaty_102 : decode cX2_addTreaty 102 = .ok (.iconst 1, 1) := by decide +kernel
theorem dX2_addTreaty_103 : decode cX2_addTreaty 103 = .ok (.isub, 1) := by decide +kernel
theorem dX2_addTreaty_104 : decode cX2_addTreaty 104 = .ok (.ireturn, 1) := by decide +kernel
theorem dX2_addTide_0 : decode cX2_addTide 0 = .ok (.aload_n 0, 1) := by decide +kernel
theorem dX2_addTide_1 : decode cX2_addTide 1 = .ok (.getfield 56, 3) := by decide +kernel
theorem dX2_addTide_4 : decode cX2_addTide 4 = .ok (.bipush 6, 2) := by decide +kernel
theorem dX2_addTide_6 : decode cX2_addTide 6 = .ok (.if_icmp .lt 6, 3) := by decide +kernel
theorem dX2_addTide_9 : decode cX2_addTide 9 = .ok (.bipush (-4), 2) := by decide +kernel
theorem dX2_addTide_11 : decode cX2_addTide 11 = .ok (.ireturn, 1) := by decide +kernel
theorem dX2_addTide_12 : decode cX2_addTide 12 = .ok (.aload_n 0, 1) := by decide +kernel
theorem dX2_addTide_13 : decode cX2_addTide 13 = .ok (.getfield 30, 3) := by decide +kernel
theorem dX2_addTide_16 : decode cX2_addTide 16 = .ok (.aload_n 0, 1) := by decide +kernel
theorem dX2_addTide_17 : decode cX2_addTide 17 = .ok (.getfield 56, 3) := by decide +kernel
theorem dX2_addTide_20 : decode cX2_addTide 20 = .ok (.iload_n 1, 1) := by decide +kernel
theorem dX2_addTide_21 : decode cX2_addTide 21 = .ok (.iastore, 1) := by decide +kernel
theorem dX2_addTide_22 : decode cX2_addTide 22 = .ok (.aload_n 0, 1) := by decide +kernel
theorem dX2_addTide_23 : decode cX2_addTide 23 = .ok (.getfield 33, 3) := by decide +kernel
theorem dX2_addTide_26 : decode cX2_addTide 26 = .ok (.aload_n 0, 1) := by decide +kernel
theorem dX2_addTide_27 : decode cX2_addTide 27 = .ok (.getfield 56, 3) := by decide +kernel
theorem dX2_addTide_30 : decode cX2_addTide 30 = .ok (.iload_n 2, 1) := by decide +kernel
theorem dX2_addTide_31 : decode cX2_addTide 31 = .ok (.iastore, 1) := by decide +kernel
theorem dX2_addTide_32 : decode cX2_addTide 32 = .ok (.aload_n 0, 1) := by decide +kernel
theorem dX2_addTide_33 : decode cX2_addTide 33 = .ok (.getfield 36, 3) := by decide +kernel
theorem dX2_addTide_36 : decode cX2_addTide 36 = .ok (.aload_n 0, 1) := by decide +kernel
theorem dX2_addTide_37 : decode cX2_addTide 37 = .ok (.getfield 56, 3) := by decide +kernel
theorem dX2_addTide_40 : decode cX2_addTide 40 = .ok (.iload_n 3, 1) := by decide +kernel
theorem dX2_addTide_41 : decode cX2_addTide 41 = .ok (.ifCond .eq 7, 3) := by decide +kernel
theorem dX2_addTide_44 : decode cX2_addTide 44 = .ok (.iconst 1, 1) := by decide +kernel
theorem dX2_addTide_45 : decode cX2_addTide 45 = .ok (.goto 4, 3) := by decide +kernel
theorem dX2_addTide_48 : decode cX2_addTide 48 = .ok (.iconst 0, 1) := by decide +kernel
theorem dX2_addTide_49 : decode cX2_addTide 49 = .ok (.iastore, 1) := by decide +kernel
theorem dX2_addTide_50 : decode cX2_addTide 50 = .ok (.aload_n 0, 1) := by decide +kernel
theorem dX2_addTide_51 : decode cX2_addTide 51 = .ok (.dup, 1) := by decide +kernel
theorem dX2_addTide_52 : decode cX2_addTide 52 = .ok (.getfield 56, 3) := by decide +kernel
theorem dX2_addTide_55 : decode cX2_addTide 55 = .ok (.iconst 1, 1) := by decide +kernel
theorem dX2_addTide_56 : decode cX2_addTide 56 = .ok (.iadd, 1) := by decide +kernel
theorem dX2_addTide_57 : decode cX2_addTide 57 = .ok (.putfield 56, 3) := by decide +kernel
theorem dX2_addTide_60 : decode cX2_addTide 60 = .ok (.aload_n 0, 1) := by decide +kernel
theorem dX2_addTide_61 : decode cX2_addTide 61 = .ok (.getfield 56, 3) := by decide +kernel
theorem dX2_addTide_64 : decode cX2_addTide 64 = .ok (.ireturn, 1) := by decide +kernel
theorem dX2_dropTides_0 : decode cX2_dropTides 0 = .ok (.aload_n 0, 1) := by decide +kernel
theorem dX2_dropTides_1 : decode cX2_dropTides 1 = .ok (.getfield 56, 3) := by decide +kernel
theorem dX2_dropTides_4 : decode cX2_dropTides 4 = .ok (.istore_n 1, 1) := by decide +kernel
theorem dX2_dropTides_5 : decode cX2_dropTides 5 = .ok (.aload_n 0, 1) := by decide +kernel
theorem dX2_dropTides_6 : decode cX2_dropTides 6 = .ok (.iconst 0, 1) := by decide +kernel
theorem dX2_dropTides_7 : decode cX2_dropTides 7 = .ok (.putfield 56, 3) := by decide +kernel
theorem dX2_dropTides_10 : decode cX2_dropTides 10 = .ok (.iload_n 1, 1) := by decide +kernel
theorem dX2_dropTides_11 : decode cX2_dropTides 11 = .ok (.ireturn, 1) := by decide +kernel
theorem dX2_isSpring_0 : decode cX2_isSpring 0 = .ok (.aload_n 0, 1) := by decide +kernel
theorem dX2_isSpring_1 : decode cX2_isSpring 1 = .ok (.getfield 50, 3) := by decide +kernel
theorem dX2_isSpring_4 : decode cX2_isSpring 4 = .ok (.ifCond .le 16, 3) := by decide +kernel
theorem dX2_isSpring_7 : decode cX2_isSpring 7 = .ok (.iload_n 1, 1) := by decide +kernel
theorem dX2_isSpring_8 : decode cX2_isSpring 8 = .ok (.aload_n 0, 1) := by decide +kernel
theorem dX2_isSpring_9 : decode cX2_isSpring 9 = .ok (.getfield 50, 3) := by decide +kernel
theorem dX2_isSpring_12 : decode cX2_isSpring 12 = .ok (.irem, 1) := by decide +kernel
theorem dX2_isSpring_13 : decode cX2_isSpring 13 = .ok (.ifCond .ne 7, 3) := by decide +kernel
theorem dX2_isSpring_16 : decode cX2_isSpring 16 = .ok (.iconst 1, 1) := by decide +kernel
theorem dX2_isSpring_17 : decode cX2_isSpring 17 = .ok (.goto 4, 3) := by decide +kernel
theorem dX2_isSpring_20 : decode cX2_isSpring 20 = .ok (.iconst 0, 1) := by decide +kernel
theorem dX2_isSpring_21 : decode cX2_isSpring 21 = .ok (.ireturn, 1) := by decide +kernel
theorem dX2_springMore_0 : decode cX2_springMore 0 = .ok (.aload_n 0, 1) := by decide +kernel
theorem dX2_springMore_1 : decode cX2_springMore 1 = .ok (.iload_n 1, 1) := by decide +kernel
theorem dX2_springMore_2 : decode cX2_springMore 2 = .ok (.invokevirtual 103, 3) := by decide +kernel
theorem dX2_springMore_5 : decode cX2_springMore 5 = .ok (.ifCond .eq 7, 3) := by decide +kernel
theorem dX2_springMore_8 : decode cX2_springMore 8 = .ok (.iconst 2, 1) := by decide +kernel
theorem dX2_springMore_9 : decode cX2_springMore 9 = .ok (.goto 4, 3) := by decide +kernel
theorem dX2_springMore_12 : decode cX2_springMore 12 = .ok (.iconst 0, 1) := by decide +kernel
theorem dX2_springMore_13 : decode cX2_springMore 13 = .ok (.ireturn, 1) := by decide +kernel
theorem dX2_stormOf_0 : decode cX2_stormOf 0 = .ok (.aload_n 0, 1) := by decide +kernel
theorem dX2_stormOf_1 : decode cX2_stormOf 1 = .ok (.getfield 21, 3) := by decide +kernel
theorem dX2_stormOf_4 : decode cX2_stormOf 4 = .ok (.iload_n 1, 1) := by decide +kernel
theorem dX2_stormOf_5 : decode cX2_stormOf 5 = .ok (.bipush 7, 2) := by decide +kernel
theorem dX2_stormOf_7 : decode cX2_stormOf 7 = .ok (.iand, 1) := by decide +kernel
theorem dX2_stormOf_8 : decode cX2_stormOf 8 = .ok (.iaload, 1) := by decide +kernel
theorem dX2_stormOf_9 : decode cX2_stormOf 9 = .ok (.aload_n 0, 1) := by decide +kernel
theorem dX2_stormOf_10 : decode cX2_stormOf 10 = .ok (.iload_n 1, 1) := by decide +kernel
theorem dX2_stormOf_11 : decode cX2_stormOf 11 = .ok (.invokevirtual 107, 3) := by decide +kernel
theorem dX2_stormOf_14 : decode cX2_stormOf 14 = .ok (.iadd, 1) := by decide +kernel
theorem dX2_stormOf_15 : decode cX2_stormOf 15 = .ok (.ireturn, 1) := by decide +kernel
theorem dX2_guards_0 : decode cX2_guards 0 = .ok (.aload_n 0, 1) := by decide +kernel
theorem dX2_guards_1 : decode cX2_guards 1 = .ok (.aload_n 1, 1) := by decide +kernel
theorem dX2_guards_2 : decode cX2_guards 2 = .ok (.getfield 110, 3) := by decide +kernel
theorem dX2_guards_5 : decode cX2_guards 5 = .ok (.invokevirtual 103, 3) := by decide +kernel
theorem dX2_guards_8 : decode cX2_guards 8 = .ok (.istore_n 3, 1) := by decide +kernel
theorem dX2_guards_9 : decode cX2_guards 9 = .ok (.iconst 0, 1) := by decide +kernel
theorem dX2_guards_10 : decode cX2_guards 10 = .ok (.istore 4, 2) := by decide +kernel
theorem dX2_guards_12 : decode cX2_guards 12 = .ok (.iconst 0, 1) := by decide +kernel
theorem dX2_guards_13 : decode cX2_guards 13 = .ok (.istore 5, 2) := by decide +kernel
theorem dX2_guards_15 : decode cX2_guards 15 = .ok (.iload 5, 2) := by decide +kernel
theorem dX2_guards_17 : decode cX2_guards 17 = .ok (.aload_n 0, 1) := by decide +kernel
theorem dX2_guards_18 : decode cX2_guards 18 = .ok (.getfield 53, 3) := by decide +kernel
theorem dX2_guards_21 : decode cX2_guards 21 = .ok (.if_icmp .ge 65, 3) := by decide +kernel
theorem dX2_guards_24 : decode cX2_guards 24 = .ok (.aload_n 0, 1) := by decide +kernel
theorem dX2_guards_25 : decode cX2_guards 25 = .ok (.getfield 26, 3) := by decide +kernel
theorem dX2_guards_28 : decode cX2_guards 28 = .ok (.iload 5, 2) := by decide +kernel
theorem dX2_guards_30 : decode cX2_guards 30 = .ok (.aaload, 1) := by decide +kernel
theorem dX2_guards_31 : decode cX2_guards 31 = .ok (.astore 6, 2) := by decide +kernel
theorem dX2_guards_33 : decode cX2_guards 33 = .ok (.aload_n 1, 1) := by decide +kernel
theorem dX2_guards_34 : decode cX2_guards 34 = .ok (.iload 5, 2) := by decide +kernel
theorem dX2_guards_36 : decode cX2_guards 36 = .ok (.invokevirtual 115, 3) := by decide +kernel
theorem dX2_guards_39 : decode cX2_guards 39 = .ok (.ifCond .ne 41, 3) := by decide +kernel
theorem dX2_guards_42 : decode cX2_guards 42 = .ok (.aload 6, 2) := by decide +kernel
theorem dX2_guards_44 : decode cX2_guards 44 = .ok (.aload_n 1, 1) := by decide +kernel
theorem dX2_guards_45 : decode cX2_guards 45 = .ok (.getfield 110, 3) := by decide +kernel
theorem dX2_guards_48 : decode cX2_guards 48 = .ok (.invokevirtual 118, 3) := by decide +kernel
theorem dX2_guards_51 : decode cX2_guards 51 = .ok (.ifCond .ne 6, 3) := by decide +kernel
theorem dX2_guards_54 : decode cX2_guards 54 = .ok (.goto 26, 3) := by decide +kernel
theorem dX2_guards_57 : decode cX2_guards 57 = .ok (.iload_n 2, 1) := by decide +kernel
theorem dX2_guards_58 : decode cX2_guards 58 = .ok (.aload 6, 2) := by decide +kernel
theorem dX2_guards_60 : decode cX2_guards 60 = .ok (.getfield 73, 3) := by decide +kernel
theorem dX2_guards_63 : decode cX2_guards 63 = .ok (.iload_n 3, 1) := by decide +kernel
theorem dX2_guards_64 : decode cX2_guards 64 = .ok (.invokevirtual 121, 3) := by decide +kernel
theorem dX2_guards_67 : decode cX2_guards 67 = .ok (.if_icmp .gt 13, 3) := by decide +kernel
theorem dX2_guards_70 : decode cX2_guards 70 = .ok (.iload 4, 2) := by decide +kernel
theorem dX2_guards_72 : decode cX2_guards 72 = .ok (.aload 6, 2) := by decide +kernel
theorem dX2_guards_74 : decode cX2_guards 74 = .ok (.invokevirtual 125, 3) := by decide +kernel
theorem dX2_guards_77 : decode cX2_guards 77 = .ok (.ior, 1) := by decide +kernel
theorem dX2_guards_78 : decode cX2_guards 78 = .ok (.istore 4, 2) := by decide +kernel
theorem dX2_guards_80 : decode cX2_guards 80 = .ok (.iinc 5 1, 3) := by decide +kernel
theorem dX2_guards_83 : decode cX2_guards 83 = .ok (.goto (-68), 3) := by decide +kernel
theorem dX2_guards_86 : decode cX2_guards 86 = .ok (.iload 4, 2) := by decide +kernel
theorem dX2_guards_88 : decode cX2_guards 88 = .ok (.ireturn, 1) := by decide +kernel
theorem dX2_water_0 : decode cX2_water 0 = .ok (.iconst 0, 1) := by decide +kernel
theorem dX2_water_1 : decode cX2_water 1 = .ok (.istore 5, 2) := by decide +kernel
theorem dX2_water_3 : decode cX2_water 3 = .ok (.iconst 0, 1) := by decide +kernel
theorem dX2_water_4 : decode cX2_water 4 = .ok (.istore 6, 2) := by decide +kernel
theorem dX2_water_6 : decode cX2_water 6 = .ok (.iload 6, 2) := by decide +kernel
theorem dX2_water_8 : decode cX2_water 8 = .ok (.aload_n 0, 1) := by decide +kernel
theorem dX2_water_9 : decode cX2_water 9 = .ok (.getfield 46, 3) := by decide +kernel
theorem dX2_water_12 : decode cX2_water 12 = .ok (.if_icmp .ge 64, 3) := by decide +kernel
theorem dX2_water_15 : decode cX2_water 15 = .ok (.iconst 1, 1) := by decide +kernel
theorem dX2_water_16 : decode cX2_water 16 = .ok (.iload 6, 2) := by decide +kernel
theorem dX2_water_18 : decode cX2_water 18 = .ok (.ishl, 1) := by decide +kernel
theorem dX2_water_19 : decode cX2_water 19 = .ok (.istore 7, 2) := by decide +kernel
theorem dX2_water_21 : decode cX2_water 21 = .ok (.aload_n 0, 1) := by decide +kernel
theorem dX2_water_22 : decode cX2_water 22 = .ok (.getfield 9, 3) := by decide +kernel
theorem dX2_water_25 : decode cX2_water 25 = .ok (.iload 6, 2) := by decide +kernel
theorem dX2_water_27 : decode cX2_water 27 = .ok (.iaload, 1) := by decide +kernel
theorem dX2_water_28 : decode cX2_water 28 = .ok (.iload 4, 2) := by decide +kernel
theorem dX2_water_30 : decode cX2_water 30 = .ok (.iload 7, 2) := by decide +kernel
theorem dX2_water_32 : decode cX2_water 32 = .ok (.iand, 1) := by decide +kernel
theorem dX2_water_33 : decode cX2_water 33 = .ok (.ifCond .eq 7, 3) := by decide +kernel
theorem dX2_water_36 : decode cX2_water 36 = .ok (.iconst 0, 1) := by decide +kernel
theorem dX2_water_37 : decode cX2_water 37 = .ok (.goto 7, 3) := by decide +kernel
theorem dX2_water_40 : decode cX2_water 40 = .ok (.aload_n 3, 1) := by decide +kernel
theorem dX2_water_41 : decode cX2_water 41 = .ok (.iload 6, 2) := by decide +kernel
theorem dX2_water_43 : decode cX2_water 43 = .ok (.iaload, 1) := by decide +kernel
theorem dX2_water_44 : decode cX2_water 44 = .ok (.iadd, 1) := by decide +kernel
theorem dX2_water_45 : decode cX2_water 45 = .ok (.istore 8, 2) := by decide +kernel
theorem dX2_water_47 : decode cX2_water 47 = .ok (.iload_n 1, 1) := by decide +kernel
theorem dX2_water_48 : decode cX2_water 48 = .ok (.iload 8, 2) := by decide +kernel
theorem dX2_water_50 : decode cX2_water 50 = .ok (.if_icmp .le 26, 3) := by decide +kernel
theorem dX2_water_53 : decode cX2_water 53 = .ok (.iload_n 2, 1) := by decide +kernel
theorem dX2_water_54 : decode cX2_water 54 = .ok (.iload 7, 2) := by decide +kernel
theorem dX2_water_56 : decode cX2_water 56 = .ok (.iand, 1) := by decide +kernel
theorem dX2_water_57 : decode cX2_water 57 = .ok (.ifCond .eq 6, 3) := by decide +kernel
theorem dX2_water_60 : decode cX2_water 60 = .ok (.goto 16, 3) := by decide +kernel
theorem dX2_water_63 : decode cX2_water 63 = .ok (.iload 5, 2) := by decide +kernel
theorem dX2_water_65 : decode cX2_water 65 = .ok (.iload 7, 2) := by decide +kernel
theorem dX2_water_67 : decode cX2_water 67 = .ok (.ior, 1) := by decide +kernel
theorem dX2_water_68 : decode cX2_water 68 = .ok (.istore 5, 2) := by decide +kernel
theorem dX2_water_70 : decode cX2_water 70 = .ok (.iinc 6 1, 3) := by decide +kernel
theorem dX2_water_73 : decode cX2_water 73 = .ok (.goto (-67), 3) := by decide +kernel
theorem dX2_water_76 : decode cX2_water 76 = .ok (.iload 5, 2) := by decide +kernel
theorem dX2_water_78 : decode cX2_water 78 = .ok (.ireturn, 1) := by decide +kernel
theorem dX2_payDues_0 : decode cX2_payDues 0 = .ok (.iconst 0, 1) := by decide +kernel
theorem dX2_payDues_1 : decode cX2_payDues 1 = .ok (.istore_n 2, 1) := by decide +kernel
theorem dX2_payDues_2 : decode cX2_payDues 2 = .ok (.iload_n 2, 1) := by decide +kernel
theorem dX2_payDues_3 : decode cX2_payDues 3 = .ok (.aload_n 0, 1) := by decide +kernel
theorem dX2_payDues_4 : decode cX2_payDues 4 = .ok (.getfield 53, 3) := by decide +kernel
theorem dX2_payDues_7 : decode cX2_payDues 7 = .ok (.if_icmp .ge 90, 3) := by decide +kernel
theorem dX2_payDues_10 : decode cX2_payDues 10 = .ok (.aload_n 0, 1) := by decide +kernel
theorem dX2_payDues_11 : decode cX2_payDues 11 = .ok (.getfield 26, 3) := by decide +kernel
theorem dX2_payDues_14 : decode cX2_payDues 14 = .ok (.iload_n 2, 1) := by decide +kernel
theorem dX2_payDues_15 : decode cX2_payDues 15 = .ok (.aaload, 1) := by decide +kernel
theorem dX2_payDues_16 : decode cX2_payDues 16 = .ok (.astore_n 3, 1) := by decide +kernel
theorem dX2_payDues_17 : decode cX2_payDues 17 = .ok (.aload_n 1, 1) := by decide +kernel
theorem dX2_payDues_18 : decode cX2_payDues 18 = .ok (.iload_n 2, 1) := by decide +kernel
theorem dX2_payDues_19 : decode cX2_payDues 19 = .ok (.invokevirtual 115, 3) := by decide +kernel
theorem dX2_payDues_22 : decode cX2_payDues 22 = .ok (.ifCond .ne 69, 3) := by decide +kernel
theorem dX2_payDues_25 : decode cX2_payDues 25 = .ok (.aload_n 3, 1) := by decide +kernel
theorem dX2_payDues_26 : decode cX2_payDues 26 = .ok (.aload_n 1, 1) := by decide +kernel
theorem dX2_payDues_27 : decode cX2_payDues 27 = .ok (.getfield 110, 3) := by decide +kernel
theorem dX2_payDues_30 : decode cX2_payDues 30 = .ok (.invokevirtual 118, 3) := by decide +kernel
theorem dX2_payDues_33 : decode cX2_payDues 33 = .ok (.ifCond .ne 6, 3) := by decide +kernel
theorem dX2_payDues_36 : decode cX2_payDues 36 = .ok (.goto 55, 3) := by decide +kernel
theorem dX2_payDues_39 : decode cX2_payDues 39 = .ok (.aload_n 3, 1) := by decide +kernel
theorem dX2_payDues_40 : decode cX2_payDues 40 = .ok (.getfield 73, 3) := by decide +kernel
theorem dX2_payDues_43 : decode cX2_payDues 43 = .ok (.aload_n 3, 1) := by decide +kernel
theorem dX2_payDues_44 : decode cX2_payDues 44 = .ok (.getfield 101, 3) := by decide +kernel
theorem dX2_payDues_47 : decode cX2_payDues 47 = .ok (.aload_n 1, 1) := by decide +kernel
theorem dX2_payDues_48 : decode cX2_payDues 48 = .ok (.getfield 110, 3) := by decide +kernel
theorem dX2_payDues_51 : decode cX2_payDues 51 = .ok (.invokevirtual 129, 3) := by decide +kernel
theorem dX2_payDues_54 : decode cX2_payDues 54 = .ok (.istore 4, 2) := by decide +kernel
theorem dX2_payDues_56 : decode cX2_payDues 56 = .ok (.iload 4, 2) := by decide +kernel
theorem dX2_payDues_58 : decode cX2_payDues 58 = .ok (.aload_n 1, 1) := by decide +kernel
theorem dX2_payDues_59 : decode cX2_payDues 59 = .ok (.getfield 133, 3) := by decide +kernel
theorem dX2_payDues_62 : decode cX2_payDues 62 = .ok (.if_icmp .gt 17, 3) := by decide +kernel
theorem dX2_payDues_65 : decode cX2_payDues 65 = .ok (.aload_n 1, 1) := by decide +kernel
theorem dX2_payDues_66 : decode cX2_payDues 66 = .ok (.dup, 1) := by decide +kernel
theorem dX2_payDues_67 : decode cX2_payDues 67 = .ok (.getfield 133, 3) := by decide +kernel
theorem dX2_payDues_70 : decode cX2_payDues 70 = .ok (.iload 4, 2) := by decide +kernel
theorem dX2_payDues_72 : decode cX2_payDues 72 = .ok (.isub, 1) := by decide +kernel
theorem dX2_payDues_73 : decode cX2_payDues 73 = .ok (.putfield 133, 3) := by decide +kernel
theorem dX2_payDues_76 : decode cX2_payDues 76 = .ok (.goto 15, 3) := by decide +kernel
theorem dX2_payDues_79 : decode cX2_payDues 79 = .ok (.aload_n 1, 1) := by decide +kernel
theorem dX2_payDues_80 : decode cX2_payDues 80 = .ok (.dup, 1) := by decide +kernel
theorem dX2_payDues_81 : decode cX2_payDues 81 = .ok (.getfield 136, 3) := by decide +kernel
theorem dX2_payDues_84 : decode cX2_payDues 84 = .ok (.iconst 1, 1) := by decide +kernel
theorem dX2_payDues_85 : decode cX2_payDues 85 = .ok (.iload_n 2, 1) := by decide +kernel
theorem dX2_payDues_86 : decode cX2_payDues 86 = .ok (.ishl, 1) := by decide +kernel
theorem dX2_payDues_87 : decode cX2_payDues 87 = .ok (.ior, 1) := by decide +kernel
theorem dX2_payDues_88 : decode cX2_payDues 88 = .ok (.putfield 136, 3) := by decide +kernel
theorem dX2_payDues_91 : decode cX2_payDues 91 = .ok (.iinc 2 1, 3) := by decide +kernel
theorem dX2_payDues_94 : decode cX2_payDues 94 = .ok (.goto (-92), 3) := by decide +kernel
theorem dX2_payDues_97 : decode cX2_payDues 97 = .ok (.return_, 1) := by decide +kernel
theorem dX2_runYear_0 : decode cX2_runYear 0 = .ok (.aload_n 0, 1) := by decide +kernel
theorem dX2_runYear_1 : decode cX2_runYear 1 = .ok (.aload_n 1, 1) := by decide +kernel
theorem dX2_runYear_2 : decode cX2_runYear 2 = .ok (.invokevirtual 139, 3) := by decide +kernel
theorem dX2_runYear_5 : decode cX2_runYear 5 = .ok (.aload_n 0, 1) := by decide +kernel
theorem dX2_runYear_6 : decode cX2_runYear 6 = .ok (.iload_n 2, 1) := by decide +kernel
theorem dX2_runYear_7 : decode cX2_runYear 7 = .ok (.aload_n 0, 1) := by decide +kernel
theorem dX2_runYear_8 : decode cX2_runYear 8 = .ok (.aload_n 1, 1) := by decide +kernel
theorem dX2_runYear_9 : decode cX2_runYear 9 = .ok (.iload_n 2, 1) := by decide +kernel
theorem dX2_runYear_10 : decode cX2_runYear 10 = .ok (.invokevirtual 143, 3) := by decide +kernel
theorem dX2_runYear_13 : decode cX2_runYear 13 = .ok (.aload_n 1, 1) := by decide +kernel
theorem dX2_runYear_14 : decode cX2_runYear 14 = .ok (.getfield 147, 3) := by decide +kernel
theorem dX2_runYear_17 : decode cX2_runYear 17 = .ok (.iconst 0, 1) := by decide +kernel
theorem dX2_runYear_18 : decode cX2_runYear 18 = .ok (.invokevirtual 150, 3) := by decide +kernel
theorem dX2_runYear_21 : decode cX2_runYear 21 = .ok (.istore_n 3, 1) := by decide +kernel
theorem dX2_runYear_22 : decode cX2_runYear 22 = .ok (.iconst 0, 1) := by decide +kernel
theorem dX2_runYear_23 : decode cX2_runYear 23 = .ok (.istore 4, 2) := by decide +kernel
theorem dX2_runYear_25 : decode cX2_runYear 25 = .ok (.iconst 0, 1) := by decide +kernel
theorem dX2_runYear_26 : decode cX2_runYear 26 = .ok (.istore 5, 2) := by decide +kernel
theorem dX2_runYear_28 : decode cX2_runYear 28 = .ok (.iload 5, 2) := by decide +kernel
theorem dX2_runYear_30 : decode cX2_runYear 30 = .ok (.aload_n 0, 1) := by decide +kernel
theorem dX2_runYear_31 : decode cX2_runYear 31 = .ok (.getfield 46, 3) := by decide +kernel
theorem dX2_runYear_34 : decode cX2_runYear 34 = .ok (.if_icmp .ge 51, 3) := by decide +kernel
theorem dX2_runYear_37 : decode cX2_runYear 37 = .ok (.iload_n 3, 1) := by decide +kernel
theorem dX2_runYear_38 : decode cX2_runYear 38 = .ok (.iconst 1, 1) := by decide +kernel
theorem dX2_runYear_39 : decode cX2_runYear 39 = .ok (.iload 5, 2) := by decide +kernel
theorem dX2_runYear_41 : decode cX2_runYear 41 = .ok (.ishl, 1) := by decide +kernel
theorem dX2_runYear_42 : decode cX2_runYear 42 = .ok (.iand, 1) := by decide +kernel
theorem dX2_runYear_43 : decode cX2_runYear 43 = .ok (.ifCond .eq 12, 3) := by decide +kernel
theorem dX2_runYear_46 : decode cX2_runYear 46 = .ok (.aload_n 1, 1) := by decide +kernel
theorem dX2_runYear_47 : decode cX2_runYear 47 = .ok (.iload 5, 2) := by decide +kernel
theorem dX2_runYear_49 : decode cX2_runYear 49 = .ok (.invokevirtual 154, 3) := by decide +kernel
theorem dX2_runYear_52 : decode cX2_runYear 52 = .ok (.goto 27, 3) := by decide +kernel
theorem dX2_runYear_55 : decode cX2_runYear 55 = .ok (.aload_n 1, 1) := by decide +kernel
theorem dX2_runYear_56 : decode cX2_runYear 56 = .ok (.iload 5, 2) := by decide +kernel
theorem dX2_runYear_58 : decode cX2_runYear 58 = .ok (.invokevirtual 158, 3) := by decide +kernel
theorem dX2_runYear_61 : decode cX2_runYear 61 = .ok (.ifCond .ne 18, 3) := by decide +kernel
theorem dX2_runYear_64 : decode cX2_runYear 64 = .ok (.iload 4, 2) := by decide +kernel
theorem dX2_runYear_66 : decode cX2_runYear 66 = .ok (.aload_n 0, 1) := by decide +kernel
theorem dX2_runYear_67 : decode cX2_runYear 67 = .ok (.getfield 15, 3) := by decide +kernel
theorem dX2_runYear_70 : decode cX2_runYear 70 = .ok (.iload 5, 2) := by decide +kernel
theorem dX2_runYear_72 : decode cX2_runYear 72 = .ok (.iaload, 1) := by decide +kernel
theorem dX2_runYear_73 : decode cX2_runYear 73 = .ok (.bipush 10, 2) := by decide +kernel
theorem dX2_runYear_75 : decode cX2_runYear 75 = .ok (.idiv, 1) := by decide +kernel
theorem dX2_runYear_76 : decode cX2_runYear 76 = .ok (.iadd, 1) := by decide +kernel
theorem dX2_runYear_77 : decode cX2_runYear 77 = .ok (.istore 4, 2) := by decide +kernel
theorem dX2_runYear_79 : decode cX2_runYear 79 = .ok (.iinc 5 1, 3) := by decide +kernel
theorem dX2_runYear_82 : decode cX2_runYear 82 = .ok (.goto (-54), 3) := by decide +kernel
theorem dX2_runYear_85 : decode cX2_runYear 85 = .ok (.aload_n 1, 1) := by decide +kernel
theorem dX2_runYear_86 : decode cX2_runYear 86 = .ok (.sipush 999, 3) := by decide +kernel
theorem dX2_runYear_89 : decode cX2_runYear 89 = .ok (.aload_n 1, 1) := by decide +kernel
theorem dX2_runYear_90 : decode cX2_runYear 90 = .ok (.getfield 133, 3) := by decide +kernel
theorem dX2_runYear_93 : decode cX2_runYear 93 = .ok (.iload 4, 2) := by decide +kernel
theorem dX2_runYear_95 : decode cX2_runYear 95 = .ok (.iadd, 1) := by decide +kernel
theorem dX2_runYear_96 : decode cX2_runYear 96 = .ok (.invokestatic 161, 3) := by decide +kernel
theorem dX2_runYear_99 : decode cX2_runYear 99 = .ok (.putfield 133, 3) := by decide +kernel
theorem dX2_runYear_102 : decode cX2_runYear 102 = .ok (.aload_n 1, 1) := by decide +kernel
theorem dX2_runYear_103 : decode cX2_runYear 103 = .ok (.dup, 1) := by decide +kernel
theorem dX2_runYear_104 : decode cX2_runYear 104 = .ok (.getfield 110, 3) := by decide +kernel
theorem dX2_runYear_107 : decode cX2_runYear 107 = .ok (.iconst 1, 1) := by decide +kernel
theorem dX2_runYear_108 : decode cX2_runYear 108 = .ok (.iadd, 1) := by decide +kernel
theorem dX2_runYear_109 : decode cX2_runYear 109 = .ok (.putfield 110, 3) := by decide +kernel
theorem dX2_runYear_112 : decode cX2_runYear 112 = .ok (.iload_n 3, 1) := by decide +kernel
theorem dX2_runYear_113 : decode cX2_runYear 113 = .ok (.ireturn, 1) := by decide +kernel
theorem dX2_cellsOfTown_0 : decode cX2_cellsOfTown 0 = .ok (.iconst 0, 1) := by decide +kernel
theorem dX2_cellsOfTown_1 : decode cX2_cellsOfTown 1 = .ok (.istore_n 2, 1) := by decide +kernel
theorem dX2_cellsOfTown_2 : decode cX2_cellsOfTown 2 = .ok (.iconst 0, 1) := by decide +kernel
theorem dX2_cellsOfTown_3 : decode cX2_cellsOfTown 3 = .ok (.istore_n 3, 1) := by decide +kernel
theorem dX2_cellsOfTown_4 : decode cX2_cellsOfTown 4 = .ok (.iload_n 3, 1) := by decide +kernel
theorem dX2_cellsOfTown_5 : decode cX2_cellsOfTown 5 = .ok (.aload_n 0, 1) := by decide +kernel
theorem dX2_cellsOfTown_6 : decode cX2_cellsOfTown 6 = .ok (.getfield 46, 3) := by decide +kernel
theorem dX2_cellsOfTown_9 : decode cX2_cellsOfTown 9 = .ok (.if_icmp .ge 25, 3) := by decide +kernel
theorem dX2_cellsOfTown_12 : decode cX2_cellsOfTown 12 = .ok (.aload_n 0, 1) := by decide +kernel
theorem dX2_cellsOfTown_13 : decode cX2_cellsOfTown 13 = .ok (.getfield 18, 3) := by decide +kernel
theorem dX2_cellsOfTown_16 : decode cX2_cellsOfTown 16 = .ok (.iload_n 3, 1) := by decide +kernel
theorem dX2_cellsOfTown_17 : decode cX2_cellsOfTown 17 = .ok (.iaload, 1) := by decide +kernel
theorem dX2_cellsOfTown_18 : decode cX2_cellsOfTown 18 = .ok (.iload_n 1, 1) := by decide +kernel
theorem dX2_cellsOfTown_19 : decode cX2_cellsOfTown 19 = .ok (.if_icmp .ne 9, 3) := by decide +kernel
theorem dX2_cellsOfTown_22 : decode cX2_cellsOfTown 22 = .ok (.iload_n 2, 1) := by decide +kernel
theorem dX2_cellsOfTown_23 : decode cX2_cellsOfTown 23 = .ok (.iconst 1, 1) := by decide +kernel
theorem dX2_cellsOfTown_24 : decode cX2_cellsOfTown 24 = .ok (.iload_n 3, 1) := by decide +kernel
theorem dX2_cellsOfTown_25 : decode cX2_cellsOfTown 25 = .ok (.ishl, 1) := by decide +kernel
theorem dX2_cellsOfTown_26 : decode cX2_cellsOfTown 26 = .ok (.ior, 1) := by decide +kernel
theorem dX2_cellsOfTown_27 : decode cX2_cellsOfTown 27 = .ok (.istore_n 2, 1) := by decide +kernel
theorem dX2_cellsOfTown_28 : decode cX2_cellsOfTown 28 = .ok (.iinc 3 1, 3) := by decide +kernel
theorem dX2_cellsOfTown_31 : decode cX2_cellsOfTown 31 = .ok (.goto (-27), 3) := by decide +kernel
theorem dX2_cellsOfTown_34 : decode cX2_cellsOfTown 34 = .ok (.iload_n 2, 1) := by decide +kernel
theorem dX2_cellsOfTown_35 : decode cX2_cellsOfTown 35 = .ok (.ireturn, 1) := by decide +kernel
theorem dX2_worthOfAll_0 : decode cX2_worthOfAll 0 = .ok (.iconst 0, 1) := by decide +kernel
theorem dX2_worthOfAll_1 : decode cX2_worthOfAll 1 = .ok (.istore_n 2, 1) := by decide +kernel
theorem dX2_worthOfAll_2 : decode cX2_worthOfAll 2 = .ok (.iconst 0, 1) := by decide +kernel
theorem dX2_worthOfAll_3 : decode cX2_worthOfAll 3 = .ok (.istore_n 3, 1) := by decide +kernel
theorem dX2_worthOfAll_4 : decode cX2_worthOfAll 4 = .ok (.iload_n 3, 1) := by decide +kernel
theorem dX2_worthOfAll_5 : decode cX2_worthOfAll 5 = .ok (.aload_n 0, 1) := by decide +kernel
theorem dX2_worthOfAll_6 : decode cX2_worthOfAll 6 = .ok (.getfield 46, 3) := by decide +kernel
theorem dX2_worthOfAll_9 : decode cX2_worthOfAll 9 = .ok (.if_icmp .ge 26, 3) := by decide +kernel
theorem dX2_worthOfAll_12 : decode cX2_worthOfAll 12 = .ok (.iload_n 1, 1) := by decide +kernel
theorem dX2_worthOfAll_13 : decode cX2_worthOfAll 13 = .ok (.iconst 1, 1) := by decide +kernel
theorem dX2_worthOfAll_14 : decode cX2_worthOfAll 14 = .ok (.iload_n 3, 1) := by decide +kernel
theorem dX2_worthOfAll_15 : decode cX2_worthOfAll 15 = .ok (.ishl, 1) := by decide +kernel
theorem dX2_worthOfAll_16 : decode cX2_worthOfAll 16 = .ok (.iand, 1) := by decide +kernel
theorem dX2_worthOfAll_17 : decode cX2_worthOfAll 17 = .ok (.ifCond .eq 12, 3) := by decide +kernel
theorem dX2_worthOfAll_20 : decode cX2_worthOfAll 20 = .ok (.iload_n 2, 1) := by decide +kernel
theorem dX2_worthOfAll_21 : decode cX2_worthOfAll 21 = .ok (.aload_n 0, 1) := by decide +kernel
theorem dX2_worthOfAll_22 : decode cX2_worthOfAll 22 = .ok (.getfield 15, 3) := by decide +kernel
theorem dX2_worthOfAll_25 : decode cX2_worthOfAll 25 = .ok (.iload_n 3, 1) := by decide +kernel
theorem dX2_worthOfAll_26 : decode cX2_worthOfAll 26 = .ok (.iaload, 1) := by decide +kernel
theorem dX2_worthOfAll_27 : decode cX2_worthOfAll 27 = .ok (.iadd, 1) := by decide +kernel
theorem dX2_worthOfAll_28 : decode cX2_worthOfAll 28 = .ok (.istore_n 2, 1) := by decide +kernel
theorem dX2_worthOfAll_29 : decode cX2_worthOfAll 29 = .ok (.iinc 3 1, 3) := by decide +kernel
theorem dX2_worthOfAll_32 : decode cX2_worthOfAll 32 = .ok (.goto (-28), 3) := by decide +kernel
theorem dX2_worthOfAll_35 : decode cX2_worthOfAll 35 = .ok (.iload_n 2, 1) := by decide +kernel
theorem dX2_worthOfAll_36 : decode cX2_worthOfAll 36 = .ok (.ireturn, 1) := by decide +kernel
theorem dX2_tidesFit_0 : decode cX2_tidesFit 0 = .ok (.iconst 0, 1) := by decide +kernel
theorem dX2_tidesFit_1 : decode cX2_tidesFit 1 = .ok (.istore_n 3, 1) := by decide +kernel
theorem dX2_tidesFit_2 : decode cX2_tidesFit 2 = .ok (.iload_n 3, 1) := by decide +kernel
theorem dX2_tidesFit_3 : decode cX2_tidesFit 3 = .ok (.aload_n 0, 1) := by decide +kernel
theorem dX2_tidesFit_4 : decode cX2_tidesFit 4 = .ok (.getfield 56, 3) := by decide +kernel
theorem dX2_tidesFit_7 : decode cX2_tidesFit 7 = .ok (.if_icmp .ge 40, 3) := by decide +kernel
theorem dX2_tidesFit_10 : decode cX2_tidesFit 10 = .ok (.aload_n 0, 1) := by decide +kernel
theorem dX2_tidesFit_11 : decode cX2_tidesFit 11 = .ok (.getfield 30, 3) := by decide +kernel
theorem dX2_tidesFit_14 : decode cX2_tidesFit 14 = .ok (.iload_n 3, 1) := by decide +kernel
theorem dX2_tidesFit_15 : decode cX2_tidesFit 15 = .ok (.iaload, 1) := by decide +kernel
theorem dX2_tidesFit_16 : decode cX2_tidesFit 16 = .ok (.iload_n 1, 1) := by decide +kernel
theorem dX2_tidesFit_17 : decode cX2_tidesFit 17 = .ok (.if_icmp .ne 24, 3) := by decide +kernel
theorem dX2_tidesFit_20 : decode cX2_tidesFit 20 = .ok (.iload_n 2, 1) := by decide +kernel
theorem dX2_tidesFit_21 : decode cX2_tidesFit 21 = .ok (.aload_n 0, 1) := by decide +kernel
theorem dX2_tidesFit_22 : decode cX2_tidesFit 22 = .ok (.getfield 33, 3) := by decide +kernel
theorem dX2_tidesFit_25 : decode cX2_tidesFit 25 = .ok (.iload_n 3, 1) := by decide +kernel
theorem dX2_tidesFit_26 : decode cX2_tidesFit 26 = .ok (.iaload, 1) := by decide +kernel
theorem dX2_tidesFit_27 : decode cX2_tidesFit 27 = .ok (.ishr, 1) := by decide +kernel
theorem dX2_tidesFit_28 : decode cX2_tidesFit 28 = .ok (.iconst 1, 1) := by decide +kernel
theorem dX2_tidesFit_29 : decode cX2_tidesFit 29 = .ok (.iand, 1) := by decide +kernel
theorem dX2_tidesFit_30 : decode cX2_tidesFit 30 = .ok (.aload_n 0, 1) := by decide +kernel
theorem dX2_tidesFit_31 : decode cX2_tidesFit 31 = .ok (.getfield 36, 3) := by decide +kernel
theorem dX2_tidesFit_34 : decode cX2_tidesFit 34 = .ok (.iload_n 3, 1) := by decide +kernel
theorem dX2_tidesFit_35 : decode cX2_tidesFit 35 = .ok (.iaload, 1) := by decide +kernel
theorem dX2_tidesFit_36 : decode cX2_tidesFit 36 = .ok (.if_icmp .eq 5, 3) := by decide +kernel
theorem dX2_tidesFit_39 : decode cX2_tidesFit 39 = .ok (.iconst 0, 1) := by decide +kernel
theorem dX2_tidesFit_40 : decode cX2_tidesFit 40 = .ok (.ireturn, 1) := by decide +kernel
theorem dX2_tidesFit_41 : decode cX2_tidesFit 41 = .ok (.iinc 3 1, 3) := by decide +kernel
theorem dX2_tidesFit_44 : decode cX2_tidesFit 44 = .ok (.goto (-42), 3) := by decide +kernel
theorem dX2_tidesFit_47 : decode cX2_tidesFit 47 = .ok (.iconst 1, 1) := by decide +kernel
theorem dX2_tidesFit_48 : decode cX2_tidesFit 48 = .ok (.ireturn, 1) := by decide +kernel
theorem dX2_mixWants_0 : decode cX2_mixWants 0 = .ok (.iconst 0, 1) := by decide +kernel
theorem dX2_mixWants_1 : decode cX2_mixWants 1 = .ok (.istore_n 3, 1) := by decide +kernel
theorem dX2_mixWants_2 : decode cX2_mixWants 2 = .ok (.iload_n 3, 1) := by decide +kernel
theorem dX2_mixWants_3 : decode cX2_mixWants 3 = .ok (.bipush 8, 2) := by decide +kernel
theorem dX2_mixWants_5 : decode cX2_mixWants 5 = .ok (.if_icmp .ge 23, 3) := by decide +kernel
theorem dX2_mixWants_8 : decode cX2_mixWants 8 = .ok (.ldc2_w 166, 3) := by decide +kernel
theorem dX2_mixWants_11 : decode cX2_mixWants 11 = .ok (.lload_n 1, 1) := by decide +kernel
theorem dX2_mixWants_12 : decode cX2_mixWants 12 = .ok (.lmul, 1) := by decide +kernel
theorem dX2_mixWants_13 : decode cX2_mixWants 13 = .ok (.aload_n 0, 1) := by decide +kernel
theorem dX2_mixWants_14 : decode cX2_mixWants 14 = .ok (.getfield 21, 3) := by decide +kernel
theorem dX2_mixWants_17 : decode cX2_mixWants 17 = .ok (.iload_n 3, 1) := by decide +kernel
theorem dX2_mixWants_18 : decode cX2_mixWants 18 = .ok (.iaload, 1) := by decide +kernel
theorem dX2_mixWants_19 : decode cX2_mixWants 19 = .ok (.i2l, 1) := by decide +kernel
theorem dX2_mixWants_20 : decode cX2_mixWants 20 = .ok (.ladd, 1) := by decide +kernel
theorem dX2_mixWants_21 : decode cX2_mixWants 21 = .ok (.lstore_n 1, 1) := by decide +kernel
theorem dX2_mixWants_22 : decode cX2_mixWants 22 = .ok (.iinc 3 1, 3) := by decide +kernel
theorem dX2_mixWants_25 : decode cX2_mixWants 25 = .ok (.goto (-23), 3) := by decide +kernel
theorem dX2_mixWants_28 : decode cX2_mixWants 28 = .ok (.lload_n 1, 1) := by decide +kernel
theorem dX2_mixWants_29 : decode cX2_mixWants 29 = .ok (.lreturn, 1) := by decide +kernel
theorem dX2_mixTides_0 : decode cX2_mixTides 0 = .ok (.iconst 0, 1) := by decide +kernel
theorem dX2_mixTides_1 : decode cX2_mixTides 1 = .ok (.istore_n 3, 1) := by decide +kernel
theorem dX2_mixTides_2 : decode cX2_mixTides 2 = .ok (.iload_n 3, 1) := by decide +kernel
theorem dX2_mixTides_3 : decode cX2_mixTides 3 = .ok (.aload_n 0, 1) := by decide +kernel
theorem dX2_mixTides_4 : decode cX2_mixTides 4 = .ok (.getfield 56, 3) := by decide +kernel
theorem dX2_mixTides_7 : decode cX2_mixTides 7 = .ok (.if_icmp .ge 51, 3) := by decide +kernel
theorem dX2_mixTides_10 : decode cX2_mixTides 10 = .ok (.ldc2_w 166, 3) := by decide +kernel
theorem dX2_mixTides_13 : decode cX2_mixTides 13 = .ok (.lload_n 1, 1) := by decide +kernel
theorem dX2_mixTides_14 : decode cX2_mixTides 14 = .ok (.lmul, 1) := by decide +kernel
theorem dX2_mixTides_15 : decode cX2_mixTides 15 = .ok (.aload_n 0, 1) := by decide +kernel
theorem dX2_mixTides_16 : decode cX2_mixTides 16 = .ok (.getfield 30, 3) := by decide +kernel
theorem dX2_mixTides_19 : decode cX2_mixTides 19 = .ok (.iload_n 3, 1) := by decide +kernel
theorem dX2_mixTides_20 : decode cX2_mixTides 20 = .ok (.iaload, 1) := by decide +kernel
theorem dX2_mixTides_21 : decode cX2_mixTides 21 = .ok (.i2l, 1) := by decide +kernel
theorem dX2_mixTides_22 : decode cX2_mixTides 22 = .ok (.ladd, 1) := by decide +kernel
theorem dX2_mixTides_23 : decode cX2_mixTides 23 = .ok (.lstore_n 1, 1) := by decide +kernel
theorem dX2_mixTides_24 : decode cX2_mixTides 24 = .ok (.ldc2_w 166, 3) := by decide +kernel
theorem dX2_mixTides_27 : decode cX2_mixTides 27 = .ok (.lload_n 1, 1) := by decide +kernel
theorem dX2_mixTides_28 : decode cX2_mixTides 28 = .ok (.lmul, 1) := by decide +kernel
theorem dX2_mixTides_29 : decode cX2_mixTides 29 = .ok (.aload_n 0, 1) := by decide +kernel
theorem dX2_mixTides_30 : decode cX2_mixTides 30 = .ok (.getfield 33, 3) := by decide +kernel
theorem dX2_mixTides_33 : decode cX2_mixTides 33 = .ok (.iload_n 3, 1) := by decide +kernel
theorem dX2_mixTides_34 : decode cX2_mixTides 34 = .ok (.iaload, 1) := by decide +kernel
theorem dX2_mixTides_35 : decode cX2_mixTides 35 = .ok (.i2l, 1) := by decide +kernel
theorem dX2_mixTides_36 : decode cX2_mixTides 36 = .ok (.ladd, 1) := by decide +kernel
theorem dX2_mixTides_37 : decode cX2_mixTides 37 = .ok (.lstore_n 1, 1) := by decide +kernel
theorem dX2_mixTides_38 : decode cX2_mixTides 38 = .ok (.ldc2_w 166, 3) := by decide +kernel
theorem dX2_mixTides_41 : decode cX2_mixTides 41 = .ok (.lload_n 1, 1) := by decide +kernel
theorem dX2_mixTides_42 : decode cX2_mixTides 42 = .ok (.lmul, 1) := by decide +kernel
theorem dX2_mixTides_43 : decode cX2_mixTides 43 = .ok (.aload_n 0, 1) := by decide +kernel
theorem dX2_mixTides_44 : decode cX2_mixTides 44 = .ok (.getfield 36, 3) := by decide +kernel
theorem dX2_mixTides_47 : decode cX2_mixTides 47 = .ok (.iload_n 3, 1) := by decide +kernel
theorem dX2_mixTides_48 : decode cX2_mixTides 48 = .ok (.iaload, 1) := by decide +kernel
theorem dX2_mixTides_49 : decode cX2_mixTides 49 = .ok (.i2l, 1) := by decide +kernel
theorem dX2_mixTides_50 : decode cX2_mixTides 50 = .ok (.ladd, 1) := by decide +kernel
theorem dX2_mixTides_51 : decode cX2_mixTides 51 = .ok (.lstore_n 1, 1) := by decide +kernel
theorem dX2_mixTides_52 : decode cX2_mixTides 52 = .ok (.iinc 3 1, 3) := by decide +kernel
theorem dX2_mixTides_55 : decode cX2_mixTides 55 = .ok (.goto (-53), 3) := by decide +kernel
theorem dX2_mixTides_58 : decode cX2_mixTides 58 = .ok (.lload_n 1, 1) := by decide +kernel
theorem dX2_mixTides_59 : decode cX2_mixTides 59 = .ok (.lreturn, 1) := by decide +kernel
theorem dX3_init_0 : decode cX3_init 0 = .ok (.aload_n 0, 1) := by decide +kernel
theorem dX3_init_1 : decode cX3_init 1 = .ok (.invokespecial 1, 3) := by decide +kernel
theorem dX3_init_4 : decode cX3_init 4 = .ok (.return_, 1) := by decide +kernel
theorem dX3_holds_0 : decode cX3_holds 0 = .ok (.aload_n 0, 1) := by decide +kernel
theorem dX3_holds_1 : decode cX3_holds 1 = .ok (.iload_n 1, 1) := by decide +kernel
theorem dX3_holds_2 : decode cX3_holds 2 = .ok (.invokespecial 7, 3) := by decide +kernel
theorem dX3_holds_5 : decode cX3_holds 5 = .ok (.iconst 2, 1) := by decide +kernel
theorem dX3_holds_6 : decode cX3_holds 6 = .ok (.idiv, 1) := by decide +kernel
theorem dX3_holds_7 : decode cX3_holds 7 = .ok (.ireturn, 1) := by decide +kernel
theorem dX3_costs_0 : decode cX3_costs 0 = .ok (.aload_n 0, 1) := by decide +kernel
theorem dX3_costs_1 : decode cX3_costs 1 = .ok (.iload_n 1, 1) := by decide +kernel
theorem dX3_costs_2 : decode cX3_costs 2 = .ok (.invokespecial 11, 3) := by decide +kernel
theorem dX3_costs_5 : decode cX3_costs 5 = .ok (.iconst 1, 1) := by decide +kernel
theorem dX3_costs_6 : decode cX3_costs 6 = .ok (.iadd, 1) := by decide +kernel
theorem dX3_costs_7 : decode cX3_costs 7 = .ok (.iconst 2, 1) := by decide +kernel
theorem dX3_costs_8 : decode cX3_costs 8 = .ok (.idiv, 1) := by decide +kernel
theorem dX3_costs_9 : decode cX3_costs 9 = .ok (.ireturn, 1) := by decide +kernel
theorem dX4_init_0 : decode cX4_init 0 = .ok (.aload_n 0, 1) := by decide +kernel
theorem dX4_init_1 : decode cX4_init 1 = .ok (.invokespecial 1, 3) := by decide +kernel
theorem dX4_init_4 : decode cX4_init 4 = .ok (.return_, 1) := by decide +kernel
theorem dX4_costs_0 : decode cX4_costs 0 = .ok (.iconst 2, 1) := by decide +kernel
theorem dX4_costs_1 : decode cX4_costs 1 = .ok (.aload_n 0, 1) := by decide +kernel
theorem dX4_costs_2 : decode cX4_costs 2 = .ok (.iload_n 1, 1) := by decide +kernel
theorem dX4_costs_3 : decode cX4_costs 3 = .ok (.invokespecial 7, 3) := by decide +kernel
theorem dX4_costs_6 : decode cX4_costs 6 = .ok (.imul, 1) := by decide +kernel
theorem dX4_costs_7 : decode cX4_costs 7 = .ok (.ireturn, 1) := by decide +kernel
theorem dX5_init_0 : decode cX5_init 0 = .ok (.aload_n 0, 1) := by decide +kernel
theorem dX5_init_1 : decode cX5_init 1 = .ok (.invokespecial 1, 3) := by decide +kernel
theorem dX5_init_4 : decode cX5_init 4 = .ok (.return_, 1) := by decide +kernel
theorem dX5_holds_0 : decode cX5_holds 0 = .ok (.aload_n 0, 1) := by decide +kernel
theorem dX5_holds_1 : decode cX5_holds 1 = .ok (.iload_n 1, 1) := by decide +kernel
theorem dX5_holds_2 : decode cX5_holds 2 = .ok (.invokespecial 7, 3) := by decide +kernel
theorem dX5_holds_5 : decode cX5_holds 5 = .ok (.iconst 3, 1) := by decide +kernel
theorem dX5_holds_6 : decode cX5_holds 6 = .ok (.iadd, 1) := by decide +kernel
theorem dX5_holds_7 : decode cX5_holds 7 = .ok (.ireturn, 1) := by decide +kernel
theorem dX6_init_0 : decode cX6_init 0 = .ok (.aload_n 0, 1) := by decide +kernel
theorem dX6_init_1 : decode cX6_init 1 = .ok (.invokespecial 1, 3) := by decide +kernel
theorem dX6_init_4 : decode cX6_init 4 = .ok (.return_, 1) := by decide +kernel
theorem dX6_holds_0 : decode cX6_holds 0 = .ok (.bipush 8, 2) := by decide +kernel
theorem dX6_holds_2 : decode cX6_holds 2 = .ok (.ireturn, 1) := by decide +kernel
theorem dX6_costs_0 : decode cX6_costs 0 = .ok (.iload_n 1, 1) := by decide +kernel
theorem dX6_costs_1 : decode cX6_costs 1 = .ok (.ireturn, 1) := by decide +kernel
theorem dX6_due_0 : decode cX6_due 0 = .ok (.iload_n 1, 1) := by decide +kernel
theorem dX6_due_1 : decode cX6_due 1 = .ok (.ireturn, 1) := by decide +kernel
theorem dX7_init_0 : decode cX7_init 0 = .ok (.aload_n 0, 1) := by decide +kernel
theorem dX7_init_1 : decode cX7_init 1 = .ok (.invokespecial 3, 3) := by decide +kernel
theorem dX7_init_4 : decode cX7_init 4 = .ok (.aload_n 0, 1) := by decide +kernel
theorem dX7_init_5 : decode cX7_init 5 = .ok (.sipush 150, 3) := by decide +kernel
theorem dX7_init_8 : decode cX7_init 8 = .ok (.newarray .int, 2) := by decide +kernel
theorem dX7_init_10 : decode cX7_init 10 = .ok (.putfield 9, 3) := by decide +kernel
theorem dX7_init_13 : decode cX7_init 13 = .ok (.aload_n 0, 1) := by decide +kernel
theorem dX7_init_14 : decode cX7_init 14 = .ok (.sipush 150, 3) := by decide +kernel
theorem dX7_init_17 : decode cX7_init 17 = .ok (.newarray .int, 2) := by decide +kernel
theorem dX7_init_19 : decode cX7_init 19 = .ok (.putfield 15, 3) := by decide +kernel
theorem dX7_init_22 : decode cX7_init 22 = .ok (.aload_n 0, 1) := by decide +kernel
theorem dX7_init_23 : decode cX7_init 23 = .ok (.bipush 25, 2) := by decide +kernel
theorem dX7_init_25 : decode cX7_init 25 = .ok (.newarray .int, 2) := by decide +kernel
theorem dX7_init_27 : decode cX7_init 27 = .ok (.putfield 18, 3) := by decide +kernel
theorem dX7_init_30 : decode cX7_init 30 = .ok (.return_, 1) := by decide +kernel
theorem dX7_parse_0 : decode cX7_parse 0 = .ok (.aload_n 0, 1) := by decide +kernel
theorem dX7_parse_1 : decode cX7_parse 1 = .ok (.iconst 0, 1) := by decide +kernel
theorem dX7_parse_2 : decode cX7_parse 2 = .ok (.putfield 21, 3) := by decide +kernel
theorem dX7_parse_5 : decode cX7_parse 5 = .ok (.aload_n 0, 1) := by decide +kernel
theorem dX7_parse_6 : decode cX7_parse 6 = .ok (.iconst 0, 1) := by decide +kernel
theorem dX7_parse_7 : decode cX7_parse 7 = .ok (.putfield 25, 3) := by decide +kernel
theorem dX7_parse_10 : decode cX7_parse 10 = .ok (.aload_n 0, 1) := by decide +kernel
theorem dX7_parse_11 : decode cX7_parse 11 = .ok (.iconst (-1), 1) := by decide +kernel
theorem dX7_parse_12 : decode cX7_parse 12 = .ok (.putfield 28, 3) := by decide +kernel
theorem dX7_parse_15 : decode cX7_parse 15 = .ok (.iconst 0, 1) := by decide +kernel
theorem dX7_parse_16 : decode cX7_parse 16 = .ok (.istore_n 1, 1) := by decide +kernel
theorem dX7_parse_17 : decode cX7_parse 17 = .ok (.iload_n 1, 1) := by decide +kernel
theorem dX7_parse_18 : decode cX7_parse 18 = .ok (.sipush 150, 3) := by decide +kernel
theorem dX7_parse_21 : decode cX7_parse 21 = .ok (.if_icmp .ge 50, 3) := by decide +kernel
theorem dX7_parse_24 : decode cX7_parse 24 = .ok (.aload_n 0, 1) := by decide +kernel
theorem dX7_parse_25 : decode cX7_parse 25 = .ok (.invokevirtual 31, 3) := by decide +kernel
theorem dX7_parse_28 : decode cX7_parse 28 = .ok (.aload_n 0, 1) := by decide +kernel
theorem dX7_parse_29 : decode cX7_parse 29 = .ok (.getfield 25, 3) := by decide +kernel
theorem dX7_parse_32 : decode cX7_parse 32 = .ok (.aload_n 0, 1) := by decide +kernel
theorem dX7_parse_33 : decode cX7_parse 33 = .ok (.getfield 34, 3) := by decide +kernel
theorem dX7_parse_36 : decode cX7_parse 36 = .ok (.if_icmp .lt 6, 3) := by decide +kernel
theorem dX7_parse_39 : decode cX7_parse 39 = .ok (.goto 32, 3) := by decide +kernel
theorem dX7_parse_42 : decode cX7_parse 42 = .ok (.aload_n 0, 1) := by decide +kernel
theorem dX7_parse_43 : decode cX7_parse 43 = .ok (.getfield 25, 3) := by decide +kernel
theorem dX7_parse_46 : decode cX7_parse 46 = .ok (.istore_n 2, 1) := by decide +kernel
theorem dX7_parse_47 : decode cX7_parse 47 = .ok (.aload_n 0, 1) := by decide +kernel
theorem dX7_parse_48 : decode cX7_parse 48 = .ok (.aload_n 0, 1) := by decide +kernel
theorem dX7_parse_49 : decode cX7_parse 49 = .ok (.getfield 9, 3) := by decide +kernel
theorem dX7_parse_52 : decode cX7_parse 52 = .ok (.aload_n 0, 1) := by decide +kernel
theorem dX7_parse_53 : decode cX7_parse 53 = .ok (.getfield 25, 3) := by decide +kernel
theorem dX7_parse_56 : decode cX7_parse 56 = .ok (.iaload, 1) := by decide +kernel
theorem dX7_parse_57 : decode cX7_parse 57 = .ok (.invokevirtual 37, 3) := by decide +kernel
theorem dX7_parse_60 : decode cX7_parse 60 = .ok (.ifCond .ne 5, 3) := by decide +kernel
theorem dX7_parse_63 : decode cX7_parse 63 = .ok (.iload_n 2, 1) := by decide +kernel
theorem dX7_parse_64 : decode cX7_parse 64 = .ok (.ireturn, 1) := by decide +kernel
theorem dX7_parse_65 : decode cX7_parse 65 = .ok (.iinc 1 1, 3) := by decide +kernel
theorem dX7_parse_68 : decode cX7_parse 68 = .ok (.goto (-51), 3) := by decide +kernel
theorem dX7_parse_71 : decode cX7_parse 71 = .ok (.aload_n 0, 1) := by decide +kernel
theorem dX7_parse_72 : decode cX7_parse 72 = .ok (.getfield 28, 3) := by decide +kernel
theorem dX7_parse_75 : decode cX7_parse 75 = .ok (.iconst (-1), 1) := by decide +kernel
theorem dX7_parse_76 : decode cX7_parse 76 = .ok (.if_icmp .ne 14, 3) := by decide +kernel
theorem dX7_parse_79 : decode cX7_parse 79 = .ok (.aload_n 0, 1) := by decide +kernel
theorem dX7_parse_80 : decode cX7_parse 80 = .ok (.getfield 21, 3) := by decide +kernel
theorem dX7_parse_83 : decode cX7_parse 83 = .ok (.ifCond .le 7, 3) := by decide +kernel
theorem dX7_parse_86 : decode cX7_parse 86 = .ok (.iconst (-1), 1) := by decide +kernel
theorem dX7_parse_87 : decode cX7_parse 87 = .ok (.goto 7, 3) := by decide +kernel
theorem dX7_parse_90 : decode cX7_parse 90 = .ok (.aload_n 0, 1) := by decide +kernel
theorem dX7_parse_91 : decode cX7_parse 91 = .ok (.getfield 34, 3) := by decide +kernel
theorem dX7_parse_94 : decode cX7_parse 94 = .ok (.ireturn, 1) := by decide +kernel
theorem dX7_skipBlanks_0 : decode cX7_skipBlanks 0 = .ok (.aload_n 0, 1) := by decide +kernel
theorem dX7_skipBlanks_1 : decode cX7_skipBlanks 1 = .ok (.getfield 25, 3) := by decide +kernel
theorem dX7_skipBlanks_4 : decode cX7_skipBlanks 4 = .ok (.aload_n 0, 1) := by decide +kernel
theorem dX7_skipBlanks_5 : decode cX7_skipBlanks 5 = .ok (.getfield 34, 3) := by decide +kernel
theorem dX7_skipBlanks_8 : decode cX7_skipBlanks 8 = .ok (.if_icmp .ge 30, 3) := by decide +kernel
theorem dX7_skipBlanks_11 : decode cX7_skipBlanks 11 = .ok (.aload_n 0, 1) := by decide +kernel
theorem dX7_skipBlanks_12 : decode cX7_skipBlanks 12 = .ok (.getfield 9, 3) := by decide +kernel
theorem dX7_skipBlanks_15 : decode cX7_skipBlanks 15 = .ok (.aload_n 0, 1) := by decide +kernel
theorem dX7_skipBlanks_16 : decode cX7_skipBlanks 16 = .ok (.getfield 25, 3) := by decide +kernel
theorem dX7_skipBlanks_19 : decode cX7_skipBlanks 19 = .ok (.iaload, 1) := by decide +kernel
theorem dX7_skipBlanks_20 : decode cX7_skipBlanks 20 = .ok (.bipush 32, 2) := by decide +kernel
theorem dX7_skipBlanks_22 : decode cX7_skipBlanks 22 = .ok (.if_icmp .ne 16, 3) := by decide +kernel
theorem dX7_skipBlanks_25 : decode cX7_skipBlanks 25 = .ok (.aload_n 0, 1) := by decide +kernel
theorem dX7_skipBlanks_26 : decode cX7_skipBlanks 26 = .ok (.dup, 1) := by decide +kernel
theorem dX7_skipBlanks_27 : decode cX7_skipBlanks 27 = .ok (.getfield 25, 3) := by decide +kernel
theorem dX7_skipBlanks_30 : decode cX7_skipBlanks 30 = .ok (.iconst 1, 1) := by decide +kernel
theorem dX7_skipBlanks_31 : decode cX7_skipBlanks 31 = .ok (.iadd, 1) := by decide +kernel
theorem dX7_skipBlanks_32 : decode cX7_skipBlanks 32 = .ok (.putfield 25, 3) := by decide +kernel
theorem dX7_skipBlanks_35 : decode cX7_skipBlanks 35 = .ok (.goto (-35), 3) := by decide +kernel
theorem dX7_skipBlanks_38 : decode cX7_skipBlanks 38 = .ok (.return_, 1) := by decide +kernel
theorem dX7_takeToken_0 : decode cX7_takeToken 0 = .ok (.iload_n 1, 1) := by decide +kernel
theorem dX7_takeToken_1 : decode cX7_takeToken 1 = .ok (.invokestatic 41, 3) := by decide +kernel
theorem dX7_takeToken_4 : decode cX7_takeToken 4 = .ok (.ifCond .eq 8, 3) := by decide +kernel
theorem dX7_takeToken_7 : decode cX7_takeToken 7 = .ok (.aload_n 0, 1) := by decide +kernel
theorem dX7_takeToken_8 : decode cX7_takeToken 8 = .ok (.invokevirtual 44, 3) := by decide +kernel
theorem dX7_takeToken_11 : decode cX7_takeToken 11 = .ok (.ireturn, 1) := by decide +kernel
theorem dX7_takeToken_12 : decode cX7_takeToken 12 = .ok (.iload_n 1, 1) := by decide +kernel
theorem dX7_takeToken_13 : decode cX7_takeToken 13 = .ok (.invokestatic 48, 3) := by decide +kernel
theorem dX7_takeToken_16 : decode cX7_takeToken 16 = .ok (.ifCond .eq 8, 3) := by decide +kernel
theorem dX7_takeToken_19 : decode cX7_takeToken 19 = .ok (.aload_n 0, 1) := by decide +kernel
theorem dX7_takeToken_20 : decode cX7_takeToken 20 = .ok (.invokevirtual 51, 3) := by decide +kernel
theorem dX7_takeToken_23 : decode cX7_takeToken 23 = .ok (.ireturn, 1) := by decide +kernel
theorem dX7_takeToken_24 : decode cX7_takeToken 24 = .ok (.iload_n 1, 1) := by decide +kernel
theorem dX7_takeToken_25 : decode cX7_takeToken 25 = .ok (.bipush 59, 2) := by decide +kernel
theorem dX7_takeToken_27 : decode cX7_takeToken 27 = .ok (.if_icmp .ne 14, 3) := by decide +kernel
theorem dX7_takeToken_30 : decode cX7_takeToken 30 = .ok (.aload_n 0, 1) := by decide +kernel
theorem dX7_takeToken_31 : decode cX7_takeToken 31 = .ok (.invokevirtual 54, 3) := by decide +kernel
theorem dX7_takeToken_34 : decode cX7_takeToken 34 = .ok (.ifCond .eq 7, 3) := by decide +kernel
theorem dX7_takeToken_37 : decode cX7_takeToken 37 = .ok (.iconst 1, 1) := by decide +kernel
theorem dX7_takeToken_38 : decode cX7_takeToken 38 = .ok (.goto 4, 3) := by decide +kernel
theorem dX7_takeToken_41 : decode cX7_takeToken 41 = .ok (.iconst 0, 1) := by decide +kernel
theorem dX7_takeToken_42 : decode cX7_takeToken 42 = .ok (.ireturn, 1) := by decide +kernel
theorem dX7_isLetter_0 : decode cX7_isLetter 0 = .ok (.iload_n 0, 1) := by decide +kernel
theorem dX7_isLetter_1 : decode cX7_isLetter 1 = .ok (.bipush 97, 2) := by decide +kernel
theorem dX7_isLetter_3 : decode cX7_isLetter 3 = .ok (.bipush 122, 2) := by decide +kernel
theorem dX7_isLetter_5 : decode cX7_isLetter 5 = .ok (.invokestatic 57, 3) := by decide +kernel
theorem dX7_isLetter_8 : decode cX7_isLetter 8 = .ok (.ireturn, 1) := by decide +kernel
theorem dX7_isFigure_0 : decode cX7_isFigure 0 = .ok (.iload_n 0, 1) := by decide +kernel
theorem dX7_isFigure_1 : decode cX7_isFigure 1 = .ok (.bipush 48, 2) := by decide +kernel
theorem dX7_isFigure_3 : decode cX7_isFigure 3 = .ok (.bipush 57, 2) := by decide +kernel
theorem dX7_isFigure_5 : decode cX7_isFigure 5 = .ok (.invokestatic 57, 3) := by decide +kernel
theorem dX7_isFigure_8 : decode cX7_isFigure 8 = .ok (.ireturn, 1) := by decide +kernel
theorem dX7_takeWord_0 : decode cX7_takeWord 0 = .ok (.aload_n 0, 1) := by decide +kernel
theorem dX7_takeWord_1 : decode cX7_takeWord 1 = .ok (.getfield 25, 3) := by decide +kernel
theorem dX7_takeWord_4 : decode cX7_takeWord 4 = .ok (.istore_n 1, 1) := by decide +kernel
theorem dX7_takeWord_5 : decode cX7_takeWord 5 = .ok (.aload_n 0, 1) := by decide +kernel
theorem dX7_takeWord_6 : decode cX7_takeWord 6 = .ok (.getfield 25, 3) := by decide +kernel
theorem dX7_takeWord_9 : decode cX7_takeWord 9 = .ok (.aload_n 0, 1) := by decide +kernel
theorem dX7_takeWord_10 : decode cX7_takeWord 10 = .ok (.getfield 34, 3) := by decide +kernel
theorem dX7_takeWord_13 : decode cX7_takeWord 13 = .ok (.if_icmp .ge 31, 3) := by decide +kernel
theorem dX7_takeWord_16 : decode cX7_takeWord 16 = .ok (.aload_n 0, 1) := by decide +kernel
theorem dX7_takeWord_17 : decode cX7_takeWord 17 = .ok (.getfield 9, 3) := by decide +kernel
theorem dX7_takeWord_20 : decode cX7_takeWord 20 = .ok (.aload_n 0, 1) := by decide +kernel
theorem dX7_takeWord_21 : decode cX7_takeWord 21 = .ok (.getfield 25, 3) := by decide +kernel
theorem dX7_takeWord_24 : decode cX7_takeWord 24 = .ok (.iaload, 1) := by decide +kernel
theorem dX7_takeWord_25 : decode cX7_takeWord 25 = .ok (.invokestatic 41, 3) := by decide +kernel
theorem dX7_takeWord_28 : decode cX7_takeWord 28 = .ok (.ifCond .eq 16, 3) := by decide +kernel
theorem dX7_takeWord_31 : decode cX7_takeWord 31 = .ok (.aload_n 0, 1) := by decide +kernel
theorem dX7_takeWord_32 : decode cX7_takeWord 32 = .ok (.dup, 1) := by decide +kernel
theorem dX7_takeWord_33 : decode cX7_takeWord 33 = .ok (.getfield 25, 3) := by decide +kernel
theorem dX7_takeWord_36 : decode cX7_takeWord 36 = .ok (.iconst 1, 1) := by decide +kernel
theorem dX7_takeWord_37 : decode cX7_takeWord 37 = .ok (.iadd, 1) := by decide +kernel
theorem dX7_takeWord_38 : decode cX7_takeWord 38 = .ok (.putfield 25, 3) := by decide +kernel
theorem dX7_takeWord_41 : decode cX7_takeWord 41 = .ok (.goto (-36), 3) := by decide +kernel
theorem dX7_takeWord_44 : decode cX7_takeWord 44 = .ok (.aload_n 0, 1) := by decide +kernel
theorem dX7_takeWord_45 : decode cX7_takeWord 45 = .ok (.iload_n 1, 1) := by decide +kernel
theorem dX7_takeWord_46 : decode cX7_takeWord 46 = .ok (.aload_n 0, 1) := by decide +kernel
theorem dX7_takeWord_47 : decode cX7_takeWord 47 = .ok (.getfield 25, 3) := by decide +kernel
theorem dX7_takeWord_50 : decode cX7_takeWord 50 = .ok (.invokevirtual 61, 3) := by decide +kernel
theorem dX7_takeWord_53 : decode cX7_takeWord 53 = .ok (.istore_n 2, 1) := by decide +kernel
theorem dX7_takeWord_54 : decode cX7_takeWord 54 = .ok (.aload_n 0, 1) := by decide +kernel
theorem dX7_takeWord_55 : decode cX7_takeWord 55 = .ok (.getfield 28, 3) := by decide +kernel
theorem dX7_takeWord_58 : decode cX7_takeWord 58 = .ok (.iconst (-1), 1) := by decide +kernel
theorem dX7_takeWord_59 : decode cX7_takeWord 59 = .ok (.if_icmp .ne 17, 3) := by decide +kernel
theorem dX7_takeWord_62 : decode cX7_takeWord 62 = .ok (.iload_n 2, 1) := by decide +kernel
theorem dX7_takeWord_63 : decode cX7_takeWord 63 = .ok (.iconst (-1), 1) := by decide +kernel
theorem dX7_takeWord_64 : decode cX7_takeWord 64 = .ok (.if_icmp .eq 12, 3) := by decide +kernel
theorem dX7_takeWord_67 : decode cX7_takeWord 67 = .ok (.aload_n 0, 1) := by decide +kernel
theorem dX7_takeWord_68 : decode cX7_takeWord 68 = .ok (.getfield 21, 3) := by decide +kernel
theorem dX7_takeWord_71 : decode cX7_takeWord 71 = .ok (.bipush 25, 2) := by decide +kernel
theorem dX7_takeWord_73 : decode cX7_takeWord 73 = .ok (.if_icmp .lt 5, 3) := by decide +kernel
theorem dX7_takeWord_76 : decode cX7_takeWord 76 = .ok (.iconst 0, 1) := by decide +kernel
theorem dX7_takeWord_77 : decode cX7_takeWord 77 = .ok (.ireturn, 1) := by decide +kernel
theorem dX7_takeWord_78 : decode cX7_takeWord 78 = .ok (.iload_n 2, 1) := by decide +kernel
theorem dX7_takeWord_79 : decode cX7_takeWord 79 = .ok (.ifCond .ne 7, 3) := by decide +kernel
theorem dX7_takeWord_82 : decode cX7_takeWord 82 = .ok (.iconst 1, 1) := by decide +kernel
theorem dX7_takeWord_83 : decode cX7_takeWord 83 = .ok (.goto 4, 3) := by decide +kernel
theorem dX7_takeWord_86 : decode cX7_takeWord 86 = .ok (.iconst 0, 1) := by decide +kernel
theorem dX7_takeWord_87 : decode cX7_takeWord 87 = .ok (.aload_n 0, 1) := by decide +kernel
theorem dX7_takeWord_88 : decode cX7_takeWord 88 = .ok (.getfield 21, 3) := by decide +kernel
theorem dX7_takeWord_91 : decode cX7_takeWord 91 = .ok (.ifCond .ne 7, 3) := by decide +kernel
theorem dX7_takeWord_94 : decode cX7_takeWord 94 = .ok (.iconst 1, 1) := by decide +kernel
theorem dX7_takeWord_95 : decode cX7_takeWord 95 = .ok (.goto 4, 3) := by decide +kernel
theorem dX7_takeWord_98 : decode cX7_takeWord 98 = .ok (.iconst 0, 1) := by decide +kernel
theorem dX7_takeWord_99 : decode cX7_takeWord 99 = .ok (.if_icmp .eq 5, 3) := by decide +kernel
theorem dX7_takeWord_102 : decode cX7_takeWord 102 = .ok (.iconst 0, 1) := by decide +kernel
theorem dX7_takeWord_103 : decode cX7_takeWord 103 = .ok (.ireturn, 1) := by decide +kernel
theorem dX7_takeWord_104 : decode cX7_takeWord 104 = .ok (.aload_n 0, 1) := by decide +kernel
theorem dX7_takeWord_105 : decode cX7_takeWord 105 = .ok (.getfield 18, 3) := by decide +kernel
theorem dX7_takeWord_108 : decode cX7_takeWord 108 = .ok (.aload_n 0, 1) := by decide +kernel
theorem dX7_takeWord_109 : decode cX7_takeWord 109 = .ok (.getfield 21, 3) := by decide +kernel
theorem dX7_takeWord_112 : decode cX7_takeWord 112 = .ok (.iload_n 2, 1) := by decide +kernel
theorem dX7_takeWord_113 : decode cX7_takeWord 113 = .ok (.iastore, 1) := by decide +kernel
theorem dX7_takeWord_114 : decode cX7_takeWord 114 = .ok (.aload_n 0, 1) := by decide +kernel
theorem dX7_takeWord_115 : decode cX7_takeWord 115 = .ok (.getstatic 65, 3) := by decide +kernel
theorem dX7_takeWord_118 : decode cX7_takeWord 118 = .ok (.iload_n 2, 1) := by decide +kernel
theorem dX7_takeWord_119 : decode cX7_takeWord 119 = .ok (.iaload, 1) := by decide +kernel
theorem dX7_takeWord_120 : decode cX7_takeWord 120 = .ok (.putfield 28, 3) := by decide +kernel
theorem dX7_takeWord_123 : decode cX7_takeWord 123 = .ok (.iconst 1, 1) := by decide +kernel
theorem dX7_takeWord_124 : decode cX7_takeWord 124 = .ok (.ireturn, 1) := by decide +kernel
theorem dX7_wordAt_0 : decode cX7_wordAt 0 = .ok (.aload_n 0, 1) := by decide +kernel
theorem dX7_wordAt_1 : decode cX7_wordAt 1 = .ok (.ldc 68, 2) := by decide +kernel
theorem dX7_wordAt_3 : decode cX7_wordAt 3 = .ok (.iload_n 1, 1) := by decide +kernel
theorem dX7_wordAt_4 : decode cX7_wordAt 4 = .ok (.iload_n 2, 1) := by decide +kernel
theorem dX7_wordAt_5 : decode cX7_wordAt 5 = .ok (.invokevirtual 70, 3) := by decide +kernel
theorem dX7_wordAt_8 : decode cX7_wordAt 8 = .ok (.ifCond .eq 5, 3) := by decide +kernel
theorem dX7_wordAt_11 : decode cX7_wordAt 11 = .ok (.iconst 0, 1) := by decide +kernel
theorem dX7_wordAt_12 : decode cX7_wordAt 12 = .ok (.ireturn, 1) := by decide +kernel
theorem dX7_wordAt_13 : decode cX7_wordAt 13 = .ok (.aload_n 0, 1) := by decide +kernel
theorem dX7_wordAt_14 : decode cX7_wordAt 14 = .ok (.ldc 74, 2) := by decide +kernel
theorem dX7_wordAt_16 : decode cX7_wordAt 16 = .ok (.iload_n 1, 1) := by decide +kernel
theorem dX7_wordAt_17 : decode cX7_wordAt 17 = .ok (.iload_n 2, 1) := by decide +kernel
theorem dX7_wordAt_18 : decode cX7_wordAt 18 = .ok (.invokevirtual 70, 3) := by decide +kernel
theorem dX7_wordAt_21 : decode cX7_wordAt 21 = .ok (.ifCond .eq 5, 3) := by decide +kernel
theorem dX7_wordAt_24 : decode cX7_wordAt 24 = .ok (.iconst 1, 1) := by decide +kernel
theorem dX7_wordAt_25 : decode cX7_wordAt 25 = .ok (.ireturn, 1) := by decide +kernel
theorem dX7_wordAt_26 : decode cX7_wordAt 26 = .ok (.aload_n 0, 1) := by decide +kernel
theorem dX7_wordAt_27 : decode cX7_wordAt 27 = .ok (.ldc 76, 2) := by decide +kernel
theorem dX7_wordAt_29 : decode cX7_wordAt 29 = .ok (.iload_n 1, 1) := by decide +kernel
theorem dX7_wordAt_30 : decode cX7_wordAt 30 = .ok (.iload_n 2, 1) := by decide +kernel
theorem dX7_wordAt_31 : decode cX7_wordAt 31 = .ok (.invokevirtual 70, 3) := by decide +kernel
theorem dX7_wordAt_34 : decode cX7_wordAt 34 = .ok (.ifCond .eq 5, 3) := by decide +kernel
theorem dX7_wordAt_37 : decode cX7_wordAt 37 = .ok (.iconst 2, 1) := by decide +kernel
theorem dX7_wordAt_38 : decode cX7_wordAt 38 = .ok (.ireturn, 1) := by decide +kernel
theorem dX7_wordAt_39 : decode cX7_wordAt 39 = .ok (.aload_n 0, 1) := by decide +kernel
theorem dX7_wordAt_40 : decode cX7_wordAt 40 = .ok (.ldc 78, 2) := by decide +kernel
theorem dX7_wordAt_42 : decode cX7_wordAt 42 = .ok (.iload_n 1, 1) := by decide +kernel
theorem dX7_wordAt_43 : decode cX7_wordAt 43 = .ok (.iload_n 2, 1) := by decide +kernel
theorem dX7_wordAt_44 : decode cX7_wordAt 44 = .ok (.invokevirtual 70, 3) := by decide +kernel
theorem dX7_wordAt_47 : decode cX7_wordAt 47 = .ok (.ifCond .eq 5, 3) := by decide +kernel
theorem dX7_wordAt_50 : decode cX7_wordAt 50 = .ok (.iconst 3, 1) := by decide +kernel
theorem dX7_wordAt_51 : decode cX7_wordAt 51 = .ok (.ireturn, 1) := by decide +kernel
theorem dX7_wordAt_52 : decode cX7_wordAt 52 = .ok (.aload_n 0, 1) := by decide +kernel
theorem dX7_wordAt_53 : decode cX7_wordAt 53 = .ok (.ldc 80, 2) := by decide +kernel
theorem dX7_wordAt_55 : decode cX7_wordAt 55 = .ok (.iload_n 1, 1) := by decide +kernel
theorem dX7_wordAt_56 : decode cX7_wordAt 56 = .ok (.iload_n 2, 1) := by decide +kernel
theorem dX7_wordAt_57 : decode cX7_wordAt 57 = .ok (.invokevirtual 70, 3) := by decide +kernel
theorem dX7_wordAt_60 : decode cX7_wordAt 60 = .ok (.ifCond .eq 5, 3) := by decide +kernel
theorem dX7_wordAt_63 : decode cX7_wordAt 63 = .ok (.iconst 4, 1) := by decide +kernel
theorem dX7_wordAt_64 : decode cX7_wordAt 64 = .ok (.ireturn, 1) := by decide +kernel
theorem dX7_wordAt_65 : decode cX7_wordAt 65 = .ok (.aload_n 0, 1) := by decide +kernel
theorem dX7_wordAt_66 : decode cX7_wordAt 66 = .ok (.ldc 82, 2) := by decide +kernel
theorem dX7_wordAt_68 : decode cX7_wordAt 68 = .ok (.iload_n 1, 1) := by decide +kernel
theorem dX7_wordAt_69 : decode cX7_wordAt 69 = .ok (.iload_n 2, 1) := by decide +kernel
theorem dX7_wordAt_70 : decode cX7_wordAt 70 = .ok (.invokevirtual 70, 3) := by decide +kernel
theorem dX7_wordAt_73 : decode cX7_wordAt 73 = .ok (.ifCond .eq 7, 3) := by decide +kernel
theorem dX7_wordAt_76 : decode cX7_wordAt 76 = .ok (.iconst 5, 1) := by decide +kernel
theorem dX7_wordAt_77 : decode cX7_wordAt 77 = .ok (.goto 4, 3) := by decide +kernel
theorem dX7_wordAt_80 : decode cX7_wordAt 80 = .ok (.iconst (-1), 1) := by decide +kernel
theorem dX7_wordAt_81 : decode cX7_wordAt 81 = .ok (.ireturn, 1) := by decide +kernel
theorem dX7_spells_0 : decode cX7_spells 0 = .ok (.aload_n 1, 1) := by decide +kernel
theorem dX7_spells_1 : decode cX7_spells 1 = .ok (.invokevirtual 84, 3) := by decide +kernel
theorem dX7_spells_4 : decode cX7_spells 4 = .ok (.iload_n 3, 1) := by decide +kernel
theorem dX7_spells_5 : decode cX7_spells 5 = .ok (.iload_n 2, 1) := by decide +kernel
theorem dX7_spells_6 : decode cX7_spells 6 = .ok (.isub, 1) := by decide +kernel
theorem dX7_spells_7 : decode cX7_spells 7 = .ok (.if_icmp .eq 5, 3) := by decide +kernel
theorem dX7_spells_10 : decode cX7_spells 10 = .ok (.iconst 0, 1) := by decide +kernel
theorem dX7_spells_11 : decode cX7_spells 11 = .ok (.ireturn, 1) := by decide +kernel
theorem dX7_spells_12 : decode cX7_spells 12 = .ok (.iload_n 2, 1) := by decide +kernel
theorem dX7_spells_13 : decode cX7_spells 13 = .ok (.istore 4, 2) := by decide +kernel
theorem dX7_spells_15 : decode cX7_spells 15 = .ok (.iload 4, 2) := by decide +kernel
theorem dX7_spells_17 : decode cX7_spells 17 = .ok (.iload_n 3, 1) := by decide +kernel
theorem dX7_spells_18 : decode cX7_spells 18 = .ok (.if_icmp .ge 29, 3) := by decide +kernel
theorem dX7_spells_21 : decode cX7_spells 21 = .ok (.aload_n 0, 1) := by decide +kernel
theorem dX7_spells_22 : decode cX7_spells 22 = .ok (.getfield 9, 3) := by decide +kernel
theorem dX7_spells_25 : decode cX7_spells 25 = .ok (.iload 4, 2) := by decide +kernel
theorem dX7_spells_27 : decode cX7_spells 27 = .ok (.iaload, 1) := by decide +kernel
theorem dX7_spells_28 : decode cX7_spells 28 = .ok (.aload_n 1, 1) := by decide +kernel
theorem dX7_spells_29 : decode cX7_spells 29 = .ok (.iload 4, 2) := by decide +kernel
theorem dX7_spells_31 : decode cX7_spells 31 = .ok (.iload_n 2, 1) := by decide +kernel
theorem dX7_spells_32 : decode cX7_spells 32 = .ok (.isub, 1) := by decide +kernel
theorem dX7_spells_33 : decode cX7_spells 33 = .ok (.invokevirtual 89, 3) := by decide +kernel
theorem dX7_spells_36 : decode cX7_spells 36 = .ok (.if_icmp .eq 5, 3) := by decide +kernel
theorem dX7_spells_39 : decode cX7_spells 39 = .ok (.iconst 0, 1) := by decide +kernel
theorem dX7_spells_40 : decode cX7_spells 40 = .ok (.ireturn, 1) := by decide +kernel
theorem dX7_spells_41 : decode cX7_spells 41 = .ok (.iinc 4 1, 3) := by decide +kernel
theorem dX7_spells_44 : decode cX7_spells 44 = .ok (.goto (-29), 3) := by decide +kernel
theorem dX7_spells_47 : decode cX7_spells 47 = .ok (.iconst 1, 1) := by decide +kernel
theorem dX7_spells_48 : decode cX7_spells 48 = .ok (.ireturn, 1) := by decide +kernel
theorem dX7_takeNumber_0 : decode cX7_takeNumber 0 = .ok (.aload_n 0, 1) := by decide +kernel
theorem dX7_takeNumber_1 : decode cX7_takeNumber 1 = .ok (.getfield 25, 3) := by decide +kernel
theorem dX7_takeNumber_4 : decode cX7_takeNumber 4 = .ok (.istore_n 1, 1) := by decide +kernel
theorem dX7_takeNumber_5 : decode cX7_takeNumber 5 = .ok (.iconst 0, 1) := by decide +kernel
theorem dX7_takeNumber_6 : decode cX7_takeNumber 6 = .ok (.istore_n 2, 1) := by decide +kernel
theorem dX7_takeNumber_7 : decode cX7_takeNumber 7 = .ok (.aload_n 0, 1) := by decide +kernel
theorem dX7_takeNumber_8 : decode cX7_takeNumber 8 = .ok (.getfield 25, 3) := by decide +kernel
theorem dX7_takeNumber_11 : decode cX7_takeNumber 11 = .ok (.aload_n 0, 1) := by decide +kernel
theorem dX7_takeNumber_12 : decode cX7_takeNumber 12 = .ok (.getfield 34, 3) := by decide +kernel
theorem dX7_takeNumber_15 : decode cX7_takeNumber 15 = .ok (.if_icmp .ge 49, 3) := by decide +kernel
theorem dX7_takeNumber_18 : decode cX7_takeNumber 18 = .ok (.aload_n 0, 1) := by decide +kernel
theorem dX7_takeNumber_19 : decode cX7_takeNumber 19 = .ok (.getfield 9, 3) := by decide +kernel
theorem dX7_takeNumber_22 : decode cX7_takeNumber 22 = .ok (.aload_n 0, 1) := by decide +kernel
theorem dX7_takeNumber_23 : decode cX7_takeNumber 23 = .ok (.getfield 25, 3) := by decide +kernel
theorem dX7_takeNumber_26 : decode cX7_takeNumber 26 = .ok (.iaload, 1) := by decide +kernel
theorem dX7_takeNumber_27 : decode cX7_takeNumber 27 = .ok (.invokestatic 48, 3) := by decide +kernel
theorem dX7_takeNumber_30 : decode cX7_takeNumber 30 = .ok (.ifCond .eq 34, 3) := by decide +kernel
theorem dX7_takeNumber_33 : decode cX7_takeNumber 33 = .ok (.bipush 10, 2) := by decide +kernel
theorem dX7_takeNumber_35 : decode cX7_takeNumber 35 = .ok (.iload_n 2, 1) := by decide +kernel
theorem dX7_takeNumber_36 : decode cX7_takeNumber 36 = .ok (.imul, 1) := by decide +kernel
theorem dX7_takeNumber_37 : decode cX7_takeNumber 37 = .ok (.aload_n 0, 1) := by decide +kernel
theorem dX7_takeNumber_38 : decode cX7_takeNumber 38 = .ok (.getfield 9, 3) := by decide +kernel
theorem dX7_takeNumber_41 : decode cX7_takeNumber 41 = .ok (.aload_n 0, 1) := by decide +kernel
theorem dX7_takeNumber_42 : decode cX7_takeNumber 42 = .ok (.getfield 25, 3) := by decide +kernel
theorem dX7_takeNumber_45 : decode cX7_takeNumber 45 = .ok (.iaload, 1) := by decide +kernel
theorem dX7_takeNumber_46 : decode cX7_takeNumber 46 = .ok (.iadd, 1) := by decide +kernel
theorem dX7_takeNumber_47 : decode cX7_takeNumber 47 = .ok (.bipush 48, 2) := by decide +kernel
theorem dX7_takeNumber_49 : decode cX7_takeNumber 49 = .ok (.isub, 1) := by decide +kernel
theorem dX7_takeNumber_50 : decode cX7_takeNumber 50 = .ok (.istore_n 2, 1) := by decide +kernel
theorem dX7_takeNumber_51 : decode cX7_takeNumber 51 = .ok (.aload_n 0, 1) := by decide +kernel
theorem dX7_takeNumber_52 : decode cX7_takeNumber 52 = .ok (.dup, 1) := by decide +kernel
theorem dX7_takeNumber_53 : decode cX7_takeNumber 53 = .ok (.getfield 25, 3) := by decide +kernel
theorem dX7_takeNumber_56 : decode cX7_takeNumber 56 = .ok (.iconst 1, 1) := by decide +kernel
theorem dX7_takeNumber_57 : decode cX7_takeNumber 57 = .ok (.iadd, 1) := by decide +kernel
theorem dX7_takeNumber_58 : decode cX7_takeNumber 58 = .ok (.putfield 25, 3) := by decide +kernel
theorem dX7_takeNumber_61 : decode cX7_takeNumber 61 = .ok (.goto (-54), 3) := by decide +kernel
theorem dX7_takeNumber_64 : decode cX7_takeNumber 64 = .ok (.aload_n 0, 1) := by decide +kernel
theorem dX7_takeNumber_65 : decode cX7_takeNumber 65 = .ok (.getfield 28, 3) := by decide +kernel
theorem dX7_takeNumber_68 : decode cX7_takeNumber 68 = .ok (.ifCond .le 13, 3) := by decide +kernel
theorem dX7_takeNumber_71 : decode cX7_takeNumber 71 = .ok (.aload_n 0, 1) := by decide +kernel
theorem dX7_takeNumber_72 : decode cX7_takeNumber 72 = .ok (.getfield 25, 3) := by decide +kernel
theorem dX7_takeNumber_75 : decode cX7_takeNumber 75 = .ok (.iload_n 1, 1) := by decide +kernel
theorem dX7_takeNumber_76 : decode cX7_takeNumber 76 = .ok (.isub, 1) := by decide +kernel
theorem dX7_takeNumber_77 : decode cX7_takeNumber 77 = .ok (.iconst 2, 1) := by decide +kernel
theorem dX7_takeNumber_78 : decode cX7_takeNumber 78 = .ok (.if_icmp .le 5, 3) := by decide +kernel
theorem dX7_takeNumber_81 : decode cX7_takeNumber 81 = .ok (.iconst 0, 1) := by decide +kernel
theorem dX7_takeNumber_82 : decode cX7_takeNumber 82 = .ok (.ireturn, 1) := by decide +kernel
theorem dX7_takeNumber_83 : decode cX7_takeNumber 83 = .ok (.getstatic 65, 3) := by decide +kernel
theorem dX7_takeNumber_86 : decode cX7_takeNumber 86 = .ok (.aload_n 0, 1) := by decide +kernel
theorem dX7_takeNumber_87 : decode cX7_takeNumber 87 = .ok (.getfield 18, 3) := by decide +kernel
theorem dX7_takeNumber_90 : decode cX7_takeNumber 90 = .ok (.aload_n 0, 1) := by decide +kernel
theorem dX7_takeNumber_91 : decode cX7_takeNumber 91 = .ok (.getfield 21, 3) := by decide +kernel
theorem dX7_takeNumber_94 : decode cX7_takeNumber 94 = .ok (.iaload, 1) := by decide +kernel
theorem dX7_takeNumber_95 : decode cX7_takeNumber 95 = .ok (.iaload, 1) := by decide +kernel
theorem dX7_takeNumber_96 : decode cX7_takeNumber 96 = .ok (.aload_n 0, 1) := by decide +kernel
theorem dX7_takeNumber_97 : decode cX7_takeNumber 97 = .ok (.getfield 28, 3) := by decide +kernel
theorem dX7_takeNumber_100 : decode cX7_takeNumber 100 = .ok (.isub, 1) := by decide +kernel
theorem dX7_takeNumber_101 : decode cX7_takeNumber 101 = .ok (.istore_n 3, 1) := by decide +kernel
theorem dX7_takeNumber_102 : decode cX7_takeNumber 102 = .ok (.aload_n 0, 1) := by decide +kernel
theorem dX7_takeNumber_103 : decode cX7_takeNumber 103 = .ok (.getfield 15, 3) := by decide +kernel
theorem dX7_takeNumber_106 : decode cX7_takeNumber 106 = .ok (.aload_n 0, 1) := by decide +kernel
theorem dX7_takeNumber_107 : decode cX7_takeNumber 107 = .ok (.getfield 21, 3) := by decide +kernel
theorem dX7_takeNumber_110 : decode cX7_takeNumber 110 = .ok (.bipush 6, 2) := by decide +kernel
theorem dX7_takeNumber_112 : decode cX7_takeNumber 112 = .ok (.imul, 1) := by decide +kernel
theorem dX7_takeNumber_113 : decode cX7_takeNumber 113 = .ok (.iload_n 3, 1) := by decide +kernel
theorem dX7_takeNumber_114 : decode cX7_takeNumber 114 = .ok (.iadd, 1) := by decide +kernel
theorem dX7_takeNumber_115 : decode cX7_takeNumber 115 = .ok (.iload_n 2, 1) := by decide +kernel
theorem dX7_takeNumber_116 : decode cX7_takeNumber 116 = .ok (.iastore, 1) := by decide +kernel
theorem dX7_takeNumber_117 : decode cX7_takeNumber 117 = .ok (.aload_n 0, 1) := by decide +kernel
theorem dX7_takeNumber_118 : decode cX7_takeNumber 118 = .ok (.dup, 1) := by decide +kernel
theorem dX7_takeNumber_119 : decode cX7_takeNumber 119 = .ok (.getfield 28, 3) := by decide +kernel
theorem dX7_takeNumber_122 : decode cX7_takeNumber 122 = .ok (.iconst 1, 1) := by decide +kernel
theorem dX7_takeNumber_123 : decode cX7_takeNumber 123 = .ok (.isub, 1) := by decide +kernel
theorem dX7_takeNumber_124 : decode cX7_takeNumber 124 = .ok (.putfield 28, 3) := by decide +kernel
theorem dX7_takeNumber_127 : decode cX7_takeNumber 127 = .ok (.iconst 1, 1) := by decide +kernel
theorem dX7_takeNumber_128 : decode cX7_takeNumber 128 = .ok (.ireturn, 1) := by decide +kernel
theorem dX7_takeEnd_0 : decode cX7_takeEnd 0 = .ok (.aload_n 0, 1) := by decide +kernel
theorem dX7_takeEnd_1 : decode cX7_takeEnd 1 = .ok (.getfield 28, 3) := by decide +kernel
theorem dX7_takeEnd_4 : decode cX7_takeEnd 4 = .ok (.ifCond .eq 5, 3) := by decide +kernel
theorem dX7_takeEnd_7 : decode cX7_takeEnd 7 = .ok (.iconst 0, 1) := by decide +kernel
theorem dX7_takeEnd_8 : decode cX7_takeEnd 8 = .ok (.ireturn, 1) := by decide +kernel
theorem dX7_takeEnd_9 : decode cX7_takeEnd 9 = .ok (.aload_n 0, 1) := by decide +kernel
theorem dX7_takeEnd_10 : decode cX7_takeEnd 10 = .ok (.dup, 1) := by decide +kernel
theorem dX7_takeEnd_11 : decode cX7_takeEnd 11 = .ok (.getfield 25, 3) := by decide +kernel
theorem dX7_takeEnd_14 : decode cX7_takeEnd 14 = .ok (.iconst 1, 1) := by decide +kernel
theorem dX7_takeEnd_15 : decode cX7_takeEnd 15 = .ok (.iadd, 1) := by decide +kernel
theorem dX7_takeEnd_16 : decode cX7_takeEnd 16 = .ok (.putfield 25, 3) := by decide +kernel
theorem dX7_takeEnd_19 : decode cX7_takeEnd 19 = .ok (.aload_n 0, 1) := by decide +kernel
theorem dX7_takeEnd_20 : decode cX7_takeEnd 20 = .ok (.dup, 1) := by decide +kernel
theorem dX7_takeEnd_21 : decode cX7_takeEnd 21 = .ok (.getfield 21, 3) := by decide +kernel
theorem dX7_takeEnd_24 : decode cX7_takeEnd 24 = .ok (.iconst 1, 1) := by decide +kernel
theorem dX7_takeEnd_25 : decode cX7_takeEnd 25 = .ok (.iadd, 1) := by decide +kernel
theorem dX7_takeEnd_26 : decode cX7_takeEnd 26 = .ok (.putfield 21, 3) := by decide +kernel
theorem dX7_takeEnd_29 : decode cX7_takeEnd 29 = .ok (.aload_n 0, 1) := by decide +kernel
theorem dX7_takeEnd_30 : decode cX7_takeEnd 30 = .ok (.iconst (-1), 1) := by decide +kernel
theorem dX7_takeEnd_31 : decode cX7_takeEnd 31 = .ok (.putfield 28, 3) := by decide +kernel
theorem dX7_takeEnd_34 : decode cX7_takeEnd 34 = .ok (.iconst 1, 1) := by decide +kernel
theorem dX7_takeEnd_35 : decode cX7_takeEnd 35 = .ok (.ireturn, 1) := by decide +kernel
theorem dX7_tellItem_0 : decode cX7_tellItem 0 = .ok (.iload_n 2, 1) := by decide +kernel
theorem dX7_tellItem_1 : decode cX7_tellItem 1 = .ok (.bipush 6, 2) := by decide +kernel
theorem dX7_tellItem_3 : decode cX7_tellItem 3 = .ok (.imul, 1) := by decide +kernel
theorem dX7_tellItem_4 : decode cX7_tellItem 4 = .ok (.istore_n 3, 1) := by decide +kernel
theorem dX7_tellItem_5 : decode cX7_tellItem 5 = .ok (.aload_n 0, 1) := by decide +kernel
theorem dX7_tellItem_6 : decode cX7_tellItem 6 = .ok (.getfield 15, 3) := by decide +kernel
theorem dX7_tellItem_9 : decode cX7_tellItem 9 = .ok (.iload_n 3, 1) := by decide +kernel
theorem dX7_tellItem_10 : decode cX7_tellItem 10 = .ok (.iaload, 1) := by decide +kernel
theorem dX7_tellItem_11 : decode cX7_tellItem 11 = .ok (.istore 4, 2) := by decide +kernel
theorem dX7_tellItem_13 : decode cX7_tellItem 13 = .ok (.aload_n 0, 1) := by decide +kernel
theorem dX7_tellItem_14 : decode cX7_tellItem 14 = .ok (.getfield 15, 3) := by decide +kernel
theorem dX7_tellItem_17 : decode cX7_tellItem 17 = .ok (.iload_n 3, 1) := by decide +kernel
theorem dX7_tellItem_18 : decode cX7_tellItem 18 = .ok (.iconst 1, 1) := by decide +kernel
theorem dX7_tellItem_19 : decode cX7_tellItem 19 = .ok (.iadd, 1) := by decide +kernel
theorem dX7_tellItem_20 : decode cX7_tellItem 20 = .ok (.iaload, 1) := by decide +kernel
theorem dX7_tellItem_21 : decode cX7_tellItem 21 = .ok (.istore 5, 2) := by decide +kernel
theorem dX7_tellItem_23 : decode cX7_tellItem 23 = .ok (.aload_n 0, 1) := by decide +kernel
theorem dX7_tellItem_24 : decode cX7_tellItem 24 = .ok (.getfield 15, 3) := by decide +kernel
theorem dX7_tellItem_27 : decode cX7_tellItem 27 = .ok (.iload_n 3, 1) := by decide +kernel
theorem dX7_tellItem_28 : decode cX7_tellItem 28 = .ok (.iconst 2, 1) := by decide +kernel
theorem dX7_tellItem_29 : decode cX7_tellItem 29 = .ok (.iadd, 1) := by decide +kernel
theorem dX7_tellItem_30 : decode cX7_tellItem 30 = .ok (.iaload, 1) := by decide +kernel
theorem dX7_tellItem_31 : decode cX7_tellItem 31 = .ok (.istore 6, 2) := by decide +kernel
theorem dX7_tellItem_33 : decode cX7_tellItem 33 = .ok (.aload_n 0, 1) := by decide +kernel
theorem dX7_tellItem_34 : decode cX7_tellItem 34 = .ok (.getfield 15, 3) := by decide +kernel
theorem dX7_tellItem_37 : decode cX7_tellItem 37 = .ok (.iload_n 3, 1) := by decide +kernel
theorem dX7_tellItem_38 : decode cX7_tellItem 38 = .ok (.iconst 3, 1) := by decide +kernel
theorem dX7_tellItem_39 : decode cX7_tellItem 39 = .ok (.iadd, 1) := by decide +kernel
theorem dX7_tellItem_40 : decode cX7_tellItem 40 = .ok (.iaload, 1) := by decide +kernel
theorem dX7_tellItem_41 : decode cX7_tellItem 41 = .ok (.istore 7, 2) := by decide +kernel
theorem dX7_tellItem_43 : decode cX7_tellItem 43 = .ok (.aload_n 0, 1) := by decide +kernel
theorem dX7_tellItem_44 : decode cX7_tellItem 44 = .ok (.getfield 18, 3) := by decide +kernel
theorem dX7_tellItem_47 : decode cX7_tellItem 47 = .ok (.iload_n 2, 1) := by decide +kernel
theorem dX7_tellItem_48 : decode cX7_tellItem 48 = .ok (.iaload, 1) := by decide +kernel
theorem dX7_tellItem_49 : decode cX7_tellItem 49 = .ok (.tableswitch 80 0 4 #[35, 42, 55, 64, 73], 35) := by decide +kernel
theorem dX7_tellItem_84 : decode cX7_tellItem 84 = .ok (.aload_n 1, 1) := by decide +kernel
theorem dX7_tellItem_85 : decode cX7_tellItem 85 = .ok (.iload 4, 2) := by decide +kernel
theorem dX7_tellItem_87 : decode cX7_tellItem 87 = .ok (.invokevirtual 93, 3) := by decide +kernel
theorem dX7_tellItem_90 : decode cX7_tellItem 90 = .ok (.ireturn, 1) := by decide +kernel
theorem dX7_tellItem_91 : decode cX7_tellItem 91 = .ok (.aload_n 1, 1) := by decide +kernel
theorem dX7_tellItem_92 : decode cX7_tellItem 92 = .ok (.iload 4, 2) := by decide +kernel
theorem dX7_tellItem_94 : decode cX7_tellItem 94 = .ok (.iload 5, 2) := by decide +kernel
theorem dX7_tellItem_96 : decode cX7_tellItem 96 = .ok (.iload 6, 2) := by decide +kernel
theorem dX7_tellItem_98 : decode cX7_tellItem 98 = .ok (.iload 7, 2) := by decide +kernel
theorem dX7_tellItem_100 : decode cX7_tellItem 100 = .ok (.invokevirtual 99, 3) := by decide +kernel
theorem dX7_tellItem_103 : decode cX7_tellItem 103 = .ok (.ireturn, 1) := by decide +kernel
theorem dX7_tellItem_104 : decode cX7_tellItem 104 = .ok (.aload_n 1, 1) := by decide +kernel
theorem dX7_tellItem_105 : decode cX7_tellItem 105 = .ok (.iload 4, 2) := by decide +kernel
theorem dX7_tellItem_107 : decode cX7_tellItem 107 = .ok (.iload 5, 2) := by decide +kernel
theorem dX7_tellItem_109 : decode cX7_tellItem 109 = .ok (.invokevirtual 103, 3) := by decide +kernel
theorem dX7_tellItem_112 : decode cX7_tellItem 112 = .ok (.ireturn, 1) := by decide +kernel
theorem dX7_tellItem_113 : decode cX7_tellItem 113 = .ok (.aload_n 1, 1) := by decide +kernel
theorem dX7_tellItem_114 : decode cX7_tellItem 114 = .ok (.iload 4, 2) := by decide +kernel
theorem dX7_tellItem_116 : decode cX7_tellItem 116 = .ok (.iload 5, 2) := by decide +kernel
theorem dX7_tellItem_118 : decode cX7_tellItem 118 = .ok (.invokevirtual 106, 3) := by decide +kernel
theorem dX7_tellItem_121 : decode cX7_tellItem 121 = .ok (.ireturn, 1) := by decide +kernel
theorem dX7_tellItem_122 : decode cX7_tellItem 122 = .ok (.aload_n 1, 1) := by decide +kernel
theorem dX7_tellItem_123 : decode cX7_tellItem 123 = .ok (.iload 4, 2) := by decide +kernel
theorem dX7_tellItem_125 : decode cX7_tellItem 125 = .ok (.invokevirtual 109, 3) := by decide +kernel
theorem dX7_tellItem_128 : decode cX7_tellItem 128 = .ok (.ireturn, 1) := by decide +kernel
theorem dX7_tellItem_129 : decode cX7_tellItem 129 = .ok (.aload_n 1, 1) := by decide +kernel
theorem dX7_tellItem_130 : decode cX7_tellItem 130 = .ok (.iload 4, 2) := by decide +kernel
theorem dX7_tellItem_132 : decode cX7_tellItem 132 = .ok (.iload 5, 2) := by decide +kernel
theorem dX7_tellItem_134 : decode cX7_tellItem 134 = .ok (.iload 6, 2) := by decide +kernel
theorem dX7_tellItem_136 : decode cX7_tellItem 136 = .ok (.iload 7, 2) := by decide +kernel
theorem dX7_tellItem_138 : decode cX7_tellItem 138 = .ok (.aload_n 0, 1) := by decide +kernel
theorem dX7_tellItem_139 : decode cX7_tellItem 139 = .ok (.getfield 15, 3) := by decide +kernel
theorem dX7_tellItem_142 : decode cX7_tellItem 142 = .ok (.iload_n 3, 1) := by decide +kernel
theorem dX7_tellItem_143 : decode cX7_tellItem 143 = .ok (.iconst 4, 1) := by decide +kernel
theorem dX7_tellItem_144 : decode cX7_tellItem 144 = .ok (.iadd, 1) := by decide +kernel
theorem dX7_tellItem_145 : decode cX7_tellItem 145 = .ok (.iaload, 1) := by decide +kernel
theorem dX7_tellItem_146 : decode cX7_tellItem 146 = .ok (.aload_n 0, 1) := by decide +kernel
theorem dX7_tellItem_147 : decode cX7_tellItem 147 = .ok (.getfield 15, 3) := by decide +kernel
theorem dX7_tellItem_150 : decode cX7_tellItem 150 = .ok (.iload_n 3, 1) := by decide +kernel
theorem dX7_tellItem_151 : decode cX7_tellItem 151 = .ok (.iconst 5, 1) := by decide +kernel
theorem dX7_tellItem_152 : decode cX7_tellItem 152 = .ok (.iadd, 1) := by decide +kernel
theorem dX7_tellItem_153 : decode cX7_tellItem 153 = .ok (.iaload, 1) := by decide +kernel
theorem dX7_tellItem_154 : decode cX7_tellItem 154 = .ok (.invokevirtual 112, 3) := by decide +kernel
theorem dX7_tellItem_157 : decode cX7_tellItem 157 = .ok (.ireturn, 1) := by decide +kernel
theorem dX8_init_0 : decode cX8_init 0 = .ok (.aload_n 0, 1) := by decide +kernel
theorem dX8_init_1 : decode cX8_init 1 = .ok (.invokespecial 3, 3) := by decide +kernel
theorem dX8_init_4 : decode cX8_init 4 = .ok (.aload_n 0, 1) := by decide +kernel
theorem dX8_init_5 : decode cX8_init 5 = .ok (.new 9, 3) := by decide +kernel
theorem dX8_init_8 : decode cX8_init 8 = .ok (.dup, 1) := by decide +kernel
theorem dX8_init_9 : decode cX8_init 9 = .ok (.invokespecial 11, 3) := by decide +kernel
theorem dX8_init_12 : decode cX8_init 12 = .ok (.putfield 12, 3) := by decide +kernel
theorem dX8_init_15 : decode cX8_init 15 = .ok (.aload_n 0, 1) := by decide +kernel
theorem dX8_init_16 : decode cX8_init 16 = .ok (.bipush 6, 2) := by decide +kernel
theorem dX8_init_18 : decode cX8_init 18 = .ok (.anewarray 9, 3) := by decide +kernel
theorem dX8_init_21 : decode cX8_init 21 = .ok (.putfield 18, 3) := by decide +kernel
theorem dX8_init_24 : decode cX8_init 24 = .ok (.aload_n 0, 1) := by decide +kernel
theorem dX8_init_25 : decode cX8_init 25 = .ok (.new 22, 3) := by decide +kernel
theorem dX8_init_28 : decode cX8_init 28 = .ok (.dup, 1) := by decide +kernel
theorem dX8_init_29 : decode cX8_init 29 = .ok (.aload_n 1, 1) := by decide +kernel
theorem dX8_init_30 : decode cX8_init 30 = .ok (.invokespecial 24, 3) := by decide +kernel
theorem dX8_init_33 : decode cX8_init 33 = .ok (.putfield 27, 3) := by decide +kernel
theorem dX8_init_36 : decode cX8_init 36 = .ok (.aload_n 0, 1) := by decide +kernel
theorem dX8_init_37 : decode cX8_init 37 = .ok (.getfield 27, 3) := by decide +kernel
theorem dX8_init_40 : decode cX8_init 40 = .ok (.bipush 6, 2) := by decide +kernel
theorem dX8_init_42 : decode cX8_init 42 = .ok (.invokevirtual 31, 3) := by decide +kernel
theorem dX8_init_45 : decode cX8_init 45 = .ok (.aload_n 0, 1) := by decide +kernel
theorem dX8_init_46 : decode cX8_init 46 = .ok (.getfield 12, 3) := by decide +kernel
theorem dX8_init_49 : decode cX8_init 49 = .ok (.invokevirtual 35, 3) := by decide +kernel
theorem dX8_init_52 : decode cX8_init 52 = .ok (.iconst 0, 1) := by decide +kernel
theorem dX8_init_53 : decode cX8_init 53 = .ok (.istore_n 2, 1) := by decide +kernel
theorem dX8_init_54 : decode cX8_init 54 = .ok (.iload_n 2, 1) := by decide +kernel
theorem dX8_init_55 : decode cX8_init 55 = .ok (.bipush 6, 2) := by decide +kernel
theorem dX8_init_57 : decode cX8_init 57 = .ok (.if_icmp .ge 22, 3) := by decide +kernel
theorem dX8_init_60 : decode cX8_init 60 = .ok (.aload_n 0, 1) := by decide +kernel
theorem dX8_init_61 : decode cX8_init 61 = .ok (.getfield 18, 3) := by decide +kernel
theorem dX8_init_64 : decode cX8_init 64 = .ok (.iload_n 2, 1) := by decide +kernel
theorem dX8_init_65 : decode cX8_init 65 = .ok (.new 9, 3) := by decide +kernel
theorem dX8_init_68 : decode cX8_init 68 = .ok (.dup, 1) := by decide +kernel
theorem dX8_init_69 : decode cX8_init 69 = .ok (.invokespecial 11, 3) := by decide +kernel
theorem dX8_init_72 : decode cX8_init 72 = .ok (.aastore, 1) := by decide +kernel
theorem dX8_init_73 : decode cX8_init 73 = .ok (.iinc 2 1, 3) := by decide +kernel
theorem dX8_init_76 : decode cX8_init 76 = .ok (.goto (-22), 3) := by decide +kernel
theorem dX8_init_79 : decode cX8_init 79 = .ok (.return_, 1) := by decide +kernel
theorem dX8_copyOf_0 : decode cX8_copyOf 0 = .ok (.aload_n 0, 1) := by decide +kernel
theorem dX8_copyOf_1 : decode cX8_copyOf 1 = .ok (.getfield 27, 3) := by decide +kernel
theorem dX8_copyOf_4 : decode cX8_copyOf 4 = .ok (.aload_n 1, 1) := by decide +kernel
theorem dX8_copyOf_5 : decode cX8_copyOf 5 = .ok (.getfield 27, 3) := by decide +kernel
theorem dX8_copyOf_8 : decode cX8_copyOf 8 = .ok (.invokevirtual 37, 3) := by decide +kernel
theorem dX8_copyOf_11 : decode cX8_copyOf 11 = .ok (.aload_n 0, 1) := by decide +kernel
theorem dX8_copyOf_12 : decode cX8_copyOf 12 = .ok (.getfield 12, 3) := by decide +kernel
theorem dX8_copyOf_15 : decode cX8_copyOf 15 = .ok (.aload_n 1, 1) := by decide +kernel
theorem dX8_copyOf_16 : decode cX8_copyOf 16 = .ok (.getfield 12, 3) := by decide +kernel
theorem dX8_copyOf_19 : decode cX8_copyOf 19 = .ok (.invokevirtual 41, 3) := by decide +kernel
theorem dX8_copyOf_22 : decode cX8_copyOf 22 = .ok (.aload_n 0, 1) := by decide +kernel
theorem dX8_copyOf_23 : decode cX8_copyOf 23 = .ok (.aload_n 1, 1) := by decide +kernel
theorem dX8_copyOf_24 : decode cX8_copyOf 24 = .ok (.getfield 44, 3) := by decide +kernel
theorem dX8_copyOf_27 : decode cX8_copyOf 27 = .ok (.putfield 44, 3) := by decide +kernel
theorem dX8_copyOf_30 : decode cX8_copyOf 30 = .ok (.iconst 0, 1) := by decide +kernel
theorem dX8_copyOf_31 : decode cX8_copyOf 31 = .ok (.istore_n 2, 1) := by decide +kernel
theorem dX8_copyOf_32 : decode cX8_copyOf 32 = .ok (.iload_n 2, 1) := by decide +kernel
theorem dX8_copyOf_33 : decode cX8_copyOf 33 = .ok (.aload_n 0, 1) := by decide +kernel
theorem dX8_copyOf_34 : decode cX8_copyOf 34 = .ok (.getfield 44, 3) := by decide +kernel
theorem dX8_copyOf_37 : decode cX8_copyOf 37 = .ok (.if_icmp .ge 24, 3) := by decide +kernel
theorem dX8_copyOf_40 : decode cX8_copyOf 40 = .ok (.aload_n 0, 1) := by decide +kernel
theorem dX8_copyOf_41 : decode cX8_copyOf 41 = .ok (.getfield 18, 3) := by decide +kernel
theorem dX8_copyOf_44 : decode cX8_copyOf 44 = .ok (.iload_n 2, 1) := by decide +kernel
theorem dX8_copyOf_45 : decode cX8_copyOf 45 = .ok (.aaload, 1) := by decide +kernel
theorem dX8_copyOf_46 : decode cX8_copyOf 46 = .ok (.aload_n 1, 1) := by decide +kernel
theorem dX8_copyOf_47 : decode cX8_copyOf 47 = .ok (.getfield 18, 3) := by decide +kernel
theorem dX8_copyOf_50 : decode cX8_copyOf 50 = .ok (.iload_n 2, 1) := by decide +kernel
theorem dX8_copyOf_51 : decode cX8_copyOf 51 = .ok (.aaload, 1) := by decide +kernel
theorem dX8_copyOf_52 : decode cX8_copyOf 52 = .ok (.invokevirtual 41, 3) := by decide +kernel
theorem dX8_copyOf_55 : decode cX8_copyOf 55 = .ok (.iinc 2 1, 3) := by decide +kernel
theorem dX8_copyOf_58 : decode cX8_copyOf 58 = .ok (.goto (-26), 3) := by decide +kernel
theorem dX8_copyOf_61 : decode cX8_copyOf 61 = .ok (.return_, 1) := by decide +kernel
theorem dX8_keepPast_0 : decode cX8_keepPast 0 = .ok (.aload_n 0, 1) := by decide +kernel
theorem dX8_keepPast_1 : decode cX8_keepPast 1 = .ok (.getfield 44, 3) := by decide +kernel
theorem dX8_keepPast_4 : decode cX8_keepPast 4 = .ok (.bipush 6, 2) := by decide +kernel
theorem dX8_keepPast_6 : decode cX8_keepPast 6 = .ok (.if_icmp .ne 7, 3) := by decide +kernel
theorem dX8_keepPast_9 : decode cX8_keepPast 9 = .ok (.aload_n 0, 1) := by decide +kernel
theorem dX8_keepPast_10 : decode cX8_keepPast 10 = .ok (.invokevirtual 48, 3) := by decide +kernel
theorem dX8_keepPast_13 : decode cX8_keepPast 13 = .ok (.aload_n 0, 1) := by decide +kernel
theorem dX8_keepPast_14 : decode cX8_keepPast 14 = .ok (.getfield 18, 3) := by decide +kernel
theorem dX8_keepPast_17 : decode cX8_keepPast 17 = .ok (.aload_n 0, 1) := by decide +kernel
theorem dX8_keepPast_18 : decode cX8_keepPast 18 = .ok (.getfield 44, 3) := by decide +kernel
theorem dX8_keepPast_21 : decode cX8_keepPast 21 = .ok (.aaload, 1) := by decide +kernel
theorem dX8_keepPast_22 : decode cX8_keepPast 22 = .ok (.aload_n 0, 1) := by decide +kernel
theorem dX8_keepPast_23 : decode cX8_keepPast 23 = .ok (.getfield 12, 3) := by decide +kernel
theorem dX8_keepPast_26 : decode cX8_keepPast 26 = .ok (.invokevirtual 41, 3) := by decide +kernel
theorem dX8_keepPast_29 : decode cX8_keepPast 29 = .ok (.aload_n 0, 1) := by decide +kernel
theorem dX8_keepPast_30 : decode cX8_keepPast 30 = .ok (.dup, 1) := by decide +kernel
theorem dX8_keepPast_31 : decode cX8_keepPast 31 = .ok (.getfield 44, 3) := by decide +kernel
theorem dX8_keepPast_34 : decode cX8_keepPast 34 = .ok (.iconst 1, 1) := by decide +kernel
theorem dX8_keepPast_35 : decode cX8_keepPast 35 = .ok (.iadd, 1) := by decide +kernel
theorem dX8_keepPast_36 : decode cX8_keepPast 36 = .ok (.putfield 44, 3) := by decide +kernel
theorem dX8_keepPast_39 : decode cX8_keepPast 39 = .ok (.return_, 1) := by decide +kernel
theorem dX8_forgetOldest_0 : decode cX8_forgetOldest 0 = .ok (.aload_n 0, 1) := by decide +kernel
theorem dX8_forgetOldest_1 : decode cX8_forgetOldest 1 = .ok (.getfield 18, 3) := by decide +kernel
theorem dX8_forgetOldest_4 : decode cX8_forgetOldest 4 = .ok (.iconst 0, 1) := by decide +kernel
theorem dX8_forgetOldest_5 : decode cX8_forgetOldest 5 = .ok (.aaload, 1) := by decide +kernel
theorem dX8_forgetOldest_6 : decode cX8_forgetOldest 6 = .ok (.astore_n 1, 1) := by decide +kernel
theorem dX8_forgetOldest_7 : decode cX8_forgetOldest 7 = .ok (.iconst 1, 1) := by decide +kernel
theorem dX8_forgetOldest_8 : decode cX8_forgetOldest 8 = .ok (.istore_n 2, 1) := by decide +kernel
theorem dX8_forgetOldest_9 : decode cX8_forgetOldest 9 = .ok (.iload_n 2, 1) := by decide +kernel
theorem dX8_forgetOldest_10 : decode cX8_forgetOldest 10 = .ok (.bipush 6, 2) := by decide +kernel
theorem dX8_forgetOldest_12 : decode cX8_forgetOldest 12 = .ok (.if_icmp .ge 23, 3) := by decide +kernel
theorem dX8_forgetOldest_15 : decode cX8_forgetOldest 15 = .ok (.aload_n 0, 1) := by decide +kernel
theorem dX8_forgetOldest_16 : decode cX8_forgetOldest 16 = .ok (.getfield 18, 3) := by decide +kernel
theorem dX8_forgetOldest_19 : decode cX8_forgetOldest 19 = .ok (.iload_n 2, 1) := by decide +kernel
theorem dX8_forgetOldest_20 : decode cX8_forgetOldest 20 = .ok (.iconst 1, 1) := by decide +kernel
theorem dX8_forgetOldest_21 : decode cX8_forgetOldest 21 = .ok (.isub, 1) := by decide +kernel
theorem dX8_forgetOldest_22 : decode cX8_forgetOldest 22 = .ok (.aload_n 0, 1) := by decide +kernel
theorem dX8_forgetOldest_23 : decode cX8_forgetOldest 23 = .ok (.getfield 18, 3) := by decide +kernel
theorem dX8_forgetOldest_26 : decode cX8_forgetOldest 26 = .ok (.iload_n 2, 1) := by decide +kernel
theorem dX8_forgetOldest_27 : decode cX8_forgetOldest 27 = .ok (.aaload, 1) := by decide +kernel
theorem dX8_forgetOldest_28 : decode cX8_forgetOldest 28 = .ok (.aastore, 1) := by decide +kernel
theorem dX8_forgetOldest_29 : decode cX8_forgetOldest 29 = .ok (.iinc 2 1, 3) := by decide +kernel
theorem dX8_forgetOldest_32 : decode cX8_forgetOldest 32 = .ok (.goto (-23), 3) := by decide +kernel
theorem dX8_forgetOldest_35 : decode cX8_forgetOldest 35 = .ok (.aload_n 0, 1) := by decide +kernel
theorem dX8_forgetOldest_36 : decode cX8_forgetOldest 36 = .ok (.getfield 18, 3) := by decide +kernel
theorem dX8_forgetOldest_39 : decode cX8_forgetOldest 39 = .ok (.iconst 5, 1) := by decide +kernel
theorem dX8_forgetOldest_40 : decode cX8_forgetOldest 40 = .ok (.aload_n 1, 1) := by decide +kernel
theorem dX8_forgetOldest_41 : decode cX8_forgetOldest 41 = .ok (.aastore, 1) := by decide +kernel
theorem dX8_forgetOldest_42 : decode cX8_forgetOldest 42 = .ok (.aload_n 0, 1) := by decide +kernel
theorem dX8_forgetOldest_43 : decode cX8_forgetOldest 43 = .ok (.dup, 1) := by decide +kernel
theorem dX8_forgetOldest_44 : decode cX8_forgetOldest 44 = .ok (.getfield 44, 3) := by decide +kernel
theorem dX8_forgetOldest_47 : decode cX8_forgetOldest 47 = .ok (.iconst 1, 1) := by decide +kernel
theorem dX8_forgetOldest_48 : decode cX8_forgetOldest 48 = .ok (.isub, 1) := by decide +kernel
theorem dX8_forgetOldest_49 : decode cX8_forgetOldest 49 = .ok (.putfield 44, 3) := by decide +kernel
theorem dX8_forgetOldest_52 : decode cX8_forgetOldest 52 = .ok (.return_, 1) := by decide +kernel
theorem dX8_stepBack_0 : decode cX8_stepBack 0 = .ok (.aload_n 0, 1) := by decide +kernel
theorem dX8_stepBack_1 : decode cX8_stepBack 1 = .ok (.getfield 44, 3) := by decide +kernel
theorem dX8_stepBack_4 : decode cX8_stepBack 4 = .ok (.ifCond .ne 5, 3) := by decide +kernel
theorem dX8_stepBack_7 : decode cX8_stepBack 7 = .ok (.iconst 0, 1) := by decide +kernel
theorem dX8_stepBack_8 : decode cX8_stepBack 8 = .ok (.ireturn, 1) := by decide +kernel
theorem dX8_stepBack_9 : decode cX8_stepBack 9 = .ok (.aload_n 0, 1) := by decide +kernel
theorem dX8_stepBack_10 : decode cX8_stepBack 10 = .ok (.dup, 1) := by decide +kernel
theorem dX8_stepBack_11 : decode cX8_stepBack 11 = .ok (.getfield 44, 3) := by decide +kernel
theorem dX8_stepBack_14 : decode cX8_stepBack 14 = .ok (.iconst 1, 1) := by decide +kernel
theorem dX8_stepBack_15 : decode cX8_stepBack 15 = .ok (.isub, 1) := by decide +kernel
theorem dX8_stepBack_16 : decode cX8_stepBack 16 = .ok (.putfield 44, 3) := by decide +kernel
theorem dX8_stepBack_19 : decode cX8_stepBack 19 = .ok (.aload_n 0, 1) := by decide +kernel
theorem dX8_stepBack_20 : decode cX8_stepBack 20 = .ok (.getfield 12, 3) := by decide +kernel
theorem dX8_stepBack_23 : decode cX8_stepBack 23 = .ok (.aload_n 0, 1) := by decide +kernel
theorem dX8_stepBack_24 : decode cX8_stepBack 24 = .ok (.getfield 18, 3) := by decide +kernel
theorem dX8_stepBack_27 : decode cX8_stepBack 27 = .ok (.aload_n 0, 1) := by decide +kernel
theorem dX8_stepBack_28 : decode cX8_stepBack 28 = .ok (.getfield 44, 3) := by decide +kernel
theorem dX8_stepBack_31 : decode cX8_stepBack 31 = .ok (.aaload, 1) := by decide +kernel
theorem dX8_stepBack_32 : decode cX8_stepBack 32 = .ok (.invokevirtual 41, 3) := by decide +kernel
theorem dX8_stepBack_35 : decode cX8_stepBack 35 = .ok (.iconst 1, 1) := by decide +kernel
theorem dX8_stepBack_36 : decode cX8_stepBack 36 = .ok (.ireturn, 1) := by decide +kernel
theorem dX8_isCellOfIt_0 : decode cX8_isCellOfIt 0 = .ok (.iload_n 1, 1) := by decide +kernel
theorem dX8_isCellOfIt_1 : decode cX8_isCellOfIt 1 = .ok (.iconst 0, 1) := by decide +kernel
theorem dX8_isCellOfIt_2 : decode cX8_isCellOfIt 2 = .ok (.aload_n 0, 1) := by decide +kernel
theorem dX8_isCellOfIt_3 : decode cX8_isCellOfIt 3 = .ok (.getfield 27, 3) := by decide +kernel
theorem dX8_isCellOfIt_6 : decode cX8_isCellOfIt 6 = .ok (.getfield 51, 3) := by decide +kernel
theorem dX8_isCellOfIt_9 : decode cX8_isCellOfIt 9 = .ok (.iconst 1, 1) := by decide +kernel
theorem dX8_isCellOfIt_10 : decode cX8_isCellOfIt 10 = .ok (.isub, 1) := by decide +kernel
theorem dX8_isCellOfIt_11 : decode cX8_isCellOfIt 11 = .ok (.invokestatic 54, 3) := by decide +kernel
theorem dX8_isCellOfIt_14 : decode cX8_isCellOfIt 14 = .ok (.ireturn, 1) := by decide +kernel
theorem dX8_tellCoast_0 : decode cX8_tellCoast 0 = .ok (.iload_n 1, 1) := by decide +kernel
theorem dX8_tellCoast_1 : decode cX8_tellCoast 1 = .ok (.iconst 1, 1) := by decide +kernel
theorem dX8_tellCoast_2 : decode cX8_tellCoast 2 = .ok (.bipush 8, 2) := by decide +kernel
theorem dX8_tellCoast_4 : decode cX8_tellCoast 4 = .ok (.invokestatic 54, 3) := by decide +kernel
theorem dX8_tellCoast_7 : decode cX8_tellCoast 7 = .ok (.ifCond .ne 6, 3) := by decide +kernel
theorem dX8_tellCoast_10 : decode cX8_tellCoast 10 = .ok (.bipush (-2), 2) := by decide +kernel
theorem dX8_tellCoast_12 : decode cX8_tellCoast 12 = .ok (.ireturn, 1) := by decide +kernel
theorem dX8_tellCoast_13 : decode cX8_tellCoast 13 = .ok (.aload_n 0, 1) := by decide +kernel
theorem dX8_tellCoast_14 : decode cX8_tellCoast 14 = .ok (.getfield 27, 3) := by decide +kernel
theorem dX8_tellCoast_17 : decode cX8_tellCoast 17 = .ok (.getfield 51, 3) := by decide +kernel
theorem dX8_tellCoast_20 : decode cX8_tellCoast 20 = .ok (.istore_n 2, 1) := by decide +kernel
theorem dX8_tellCoast_21 : decode cX8_tellCoast 21 = .ok (.aload_n 0, 1) := by decide +kernel
theorem dX8_tellCoast_22 : decode cX8_tellCoast 22 = .ok (.getfield 27, 3) := by decide +kernel
theorem dX8_tellCoast_25 : decode cX8_tellCoast 25 = .ok (.iload_n 1, 1) := by decide +kernel
theorem dX8_tellCoast_26 : decode cX8_tellCoast 26 = .ok (.invokevirtual 31, 3) := by decide +kernel
theorem dX8_tellCoast_29 : decode cX8_tellCoast 29 = .ok (.aload_n 0, 1) := by decide +kernel
theorem dX8_tellCoast_30 : decode cX8_tellCoast 30 = .ok (.getfield 12, 3) := by decide +kernel
theorem dX8_tellCoast_33 : decode cX8_tellCoast 33 = .ok (.invokevirtual 35, 3) := by decide +kernel
theorem dX8_tellCoast_36 : decode cX8_tellCoast 36 = .ok (.iload_n 2, 1) := by decide +kernel
theorem dX8_tellCoast_37 : decode cX8_tellCoast 37 = .ok (.ireturn, 1) := by decide +kernel
theorem dX8_tellCell_0 : decode cX8_tellCell 0 = .ok (.aload_n 0, 1) := by decide +kernel
theorem dX8_tellCell_1 : decode cX8_tellCell 1 = .ok (.iload_n 1, 1) := by decide +kernel
theorem dX8_tellCell_2 : decode cX8_tellCell 2 = .ok (.invokevirtual 58, 3) := by decide +kernel
theorem dX8_tellCell_5 : decode cX8_tellCell 5 = .ok (.ifCond .eq 13, 3) := by decide +kernel
theorem dX8_tellCell_8 : decode cX8_tellCell 8 = .ok (.iload_n 2, 1) := by decide +kernel
theorem dX8_tellCell_9 : decode cX8_tellCell 9 = .ok (.iconst 0, 1) := by decide +kernel
theorem dX8_tellCell_10 : decode cX8_tellCell 10 = .ok (.bipush 9, 2) := by decide +kernel
theorem dX8_tellCell_12 : decode cX8_tellCell 12 = .ok (.invokestatic 54, 3) := by decide +kernel
theorem dX8_tellCell_15 : decode cX8_tellCell 15 = .ok (.ifCond .ne 6, 3) := by decide +kernel
theorem dX8_tellCell_18 : decode cX8_tellCell 18 = .ok (.bipush (-2), 2) := by decide +kernel
theorem dX8_tellCell_20 : decode cX8_tellCell 20 = .ok (.ireturn, 1) := by decide +kernel
theorem dX8_tellCell_21 : decode cX8_tellCell 21 = .ok (.iload_n 3, 1) := by decide +kernel
theorem dX8_tellCell_22 : decode cX8_tellCell 22 = .ok (.iconst 0, 1) := by decide +kernel
theorem dX8_tellCell_23 : decode cX8_tellCell 23 = .ok (.bipush 99, 2) := by decide +kernel
theorem dX8_tellCell_25 : decode cX8_tellCell 25 = .ok (.invokestatic 54, 3) := by decide +kernel
theorem dX8_tellCell_28 : decode cX8_tellCell 28 = .ok (.ifCond .eq 11, 3) := by decide +kernel
theorem dX8_tellCell_31 : decode cX8_tellCell 31 = .ok (.iload 4, 2) := by decide +kernel
theorem dX8_tellCell_33 : decode cX8_tellCell 33 = .ok (.invokestatic 62, 3) := by decide +kernel
theorem dX8_tellCell_36 : decode cX8_tellCell 36 = .ok (.ifCond .ne 6, 3) := by decide +kernel
theorem dX8_tellCell_39 : decode cX8_tellCell 39 = .ok (.bipush (-2), 2) := by decide +kernel
theorem dX8_tellCell_41 : decode cX8_tellCell 41 = .ok (.ireturn, 1) := by decide +kernel
theorem dX8_tellCell_42 : decode cX8_tellCell 42 = .ok (.aload_n 0, 1) := by decide +kernel
theorem dX8_tellCell_43 : decode cX8_tellCell 43 = .ok (.getfield 27, 3) := by decide +kernel
theorem dX8_tellCell_46 : decode cX8_tellCell 46 = .ok (.getfield 65, 3) := by decide +kernel
theorem dX8_tellCell_49 : decode cX8_tellCell 49 = .ok (.iload_n 1, 1) := by decide +kernel
theorem dX8_tellCell_50 : decode cX8_tellCell 50 = .ok (.iaload, 1) := by decide +kernel
theorem dX8_tellCell_51 : decode cX8_tellCell 51 = .ok (.istore 5, 2) := by decide +kernel
theorem dX8_tellCell_53 : decode cX8_tellCell 53 = .ok (.aload_n 0, 1) := by decide +kernel
theorem dX8_tellCell_54 : decode cX8_tellCell 54 = .ok (.getfield 27, 3) := by decide +kernel
theorem dX8_tellCell_57 : decode cX8_tellCell 57 = .ok (.iload_n 1, 1) := by decide +kernel
theorem dX8_tellCell_58 : decode cX8_tellCell 58 = .ok (.iload_n 2, 1) := by decide +kernel
theorem dX8_tellCell_59 : decode cX8_tellCell 59 = .ok (.iload_n 3, 1) := by decide +kernel
theorem dX8_tellCell_60 : decode cX8_tellCell 60 = .ok (.iload 4, 2) := by decide +kernel
theorem dX8_tellCell_62 : decode cX8_tellCell 62 = .ok (.invokevirtual 69, 3) := by decide +kernel
theorem dX8_tellCell_65 : decode cX8_tellCell 65 = .ok (.aload_n 0, 1) := by decide +kernel
theorem dX8_tellCell_66 : decode cX8_tellCell 66 = .ok (.getfield 12, 3) := by decide +kernel
theorem dX8_tellCell_69 : decode cX8_tellCell 69 = .ok (.getfield 73, 3) := by decide +kernel
theorem dX8_tellCell_72 : decode cX8_tellCell 72 = .ok (.iload_n 1, 1) := by decide +kernel
theorem dX8_tellCell_73 : decode cX8_tellCell 73 = .ok (.iconst 0, 1) := by decide +kernel
theorem dX8_tellCell_74 : decode cX8_tellCell 74 = .ok (.iastore, 1) := by decide +kernel
theorem dX8_tellCell_75 : decode cX8_tellCell 75 = .ok (.iload 5, 2) := by decide +kernel
theorem dX8_tellCell_77 : decode cX8_tellCell 77 = .ok (.ireturn, 1) := by decide +kernel
theorem dX8_tellDike_0 : decode cX8_tellDike 0 = .ok (.aload_n 0, 1) := by decide +kernel
theorem dX8_tellDike_1 : decode cX8_tellDike 1 = .ok (.iload_n 1, 1) := by decide +kernel
theorem dX8_tellDike_2 : decode cX8_tellDike 2 = .ok (.invokevirtual 58, 3) := by decide +kernel
theorem dX8_tellDike_5 : decode cX8_tellDike 5 = .ok (.ifCond .eq 13, 3) := by decide +kernel
theorem dX8_tellDike_8 : decode cX8_tellDike 8 = .ok (.iload_n 2, 1) := by decide +kernel
theorem dX8_tellDike_9 : decode cX8_tellDike 9 = .ok (.iconst 0, 1) := by decide +kernel
theorem dX8_tellDike_10 : decode cX8_tellDike 10 = .ok (.bipush 9, 2) := by decide +kernel
theorem dX8_tellDike_12 : decode cX8_tellDike 12 = .ok (.invokestatic 54, 3) := by decide +kernel
theorem dX8_tellDike_15 : decode cX8_tellDike 15 = .ok (.ifCond .ne 6, 3) := by decide +kernel
theorem dX8_tellDike_18 : decode cX8_tellDike 18 = .ok (.bipush (-2), 2) := by decide +kernel
theorem dX8_tellDike_20 : decode cX8_tellDike 20 = .ok (.ireturn, 1) := by decide +kernel
theorem dX8_tellDike_21 : decode cX8_tellDike 21 = .ok (.aload_n 0, 1) := by decide +kernel
theorem dX8_tellDike_22 : decode cX8_tellDike 22 = .ok (.getfield 12, 3) := by decide +kernel
theorem dX8_tellDike_25 : decode cX8_tellDike 25 = .ok (.getfield 76, 3) := by decide +kernel
theorem dX8_tellDike_28 : decode cX8_tellDike 28 = .ok (.iload_n 1, 1) := by decide +kernel
theorem dX8_tellDike_29 : decode cX8_tellDike 29 = .ok (.iaload, 1) := by decide +kernel
theorem dX8_tellDike_30 : decode cX8_tellDike 30 = .ok (.istore_n 3, 1) := by decide +kernel
theorem dX8_tellDike_31 : decode cX8_tellDike 31 = .ok (.aload_n 0, 1) := by decide +kernel
theorem dX8_tellDike_32 : decode cX8_tellDike 32 = .ok (.getfield 12, 3) := by decide +kernel
theorem dX8_tellDike_35 : decode cX8_tellDike 35 = .ok (.getfield 76, 3) := by decide +kernel
theorem dX8_tellDike_38 : decode cX8_tellDike 38 = .ok (.iload_n 1, 1) := by decide +kernel
theorem dX8_tellDike_39 : decode cX8_tellDike 39 = .ok (.iload_n 2, 1) := by decide +kernel
theorem dX8_tellDike_40 : decode cX8_tellDike 40 = .ok (.iastore, 1) := by decide +kernel
theorem dX8_tellDike_41 : decode cX8_tellDike 41 = .ok (.iload_n 3, 1) := by decide +kernel
theorem dX8_tellDike_42 : decode cX8_tellDike 42 = .ok (.ireturn, 1) := by decide +kernel
theorem dX8_tellWant_0 : decode cX8_tellWant 0 = .ok (.iload_n 1, 1) := by decide +kernel
theorem dX8_tellWant_1 : decode cX8_tellWant 1 = .ok (.iconst 0, 1) := by decide +kernel
theorem dX8_tellWant_2 : decode cX8_tellWant 2 = .ok (.bipush 7, 2) := by decide +kernel
theorem dX8_tellWant_4 : decode cX8_tellWant 4 = .ok (.invokestatic 54, 3) := by decide +kernel
theorem dX8_tellWant_7 : decode cX8_tellWant 7 = .ok (.ifCond .eq 13, 3) := by decide +kernel
theorem dX8_tellWant_10 : decode cX8_tellWant 10 = .ok (.iload_n 2, 1) := by decide +kernel
theorem dX8_tellWant_11 : decode cX8_tellWant 11 = .ok (.iconst 0, 1) := by decide +kernel
theorem dX8_tellWant_12 : decode cX8_tellWant 12 = .ok (.bipush 15, 2) := by decide +kernel
theorem dX8_tellWant_14 : decode cX8_tellWant 14 = .ok (.invokestatic 54, 3) := by decide +kernel
theorem dX8_tellWant_17 : decode cX8_tellWant 17 = .ok (.ifCond .ne 6, 3) := by decide +kernel
theorem dX8_tellWant_20 : decode cX8_tellWant 20 = .ok (.bipush (-2), 2) := by decide +kernel
theorem dX8_tellWant_22 : decode cX8_tellWant 22 = .ok (.ireturn, 1) := by decide +kernel
theorem dX8_tellWant_23 : decode cX8_tellWant 23 = .ok (.aload_n 0, 1) := by decide +kernel
theorem dX8_tellWant_24 : decode cX8_tellWant 24 = .ok (.getfield 27, 3) := by decide +kernel
theorem dX8_tellWant_27 : decode cX8_tellWant 27 = .ok (.getfield 79, 3) := by decide +kernel
theorem dX8_tellWant_30 : decode cX8_tellWant 30 = .ok (.iload_n 1, 1) := by decide +kernel
theorem dX8_tellWant_31 : decode cX8_tellWant 31 = .ok (.iaload, 1) := by decide +kernel
theorem dX8_tellWant_32 : decode cX8_tellWant 32 = .ok (.istore_n 3, 1) := by decide +kernel
theorem dX8_tellWant_33 : decode cX8_tellWant 33 = .ok (.aload_n 0, 1) := by decide +kernel
theorem dX8_tellWant_34 : decode cX8_tellWant 34 = .ok (.getfield 27, 3) := by decide +kernel
theorem dX8_tellWant_37 : decode cX8_tellWant 37 = .ok (.getfield 79, 3) := by decide +kernel
theorem dX8_tellWant_40 : decode cX8_tellWant 40 = .ok (.iload_n 1, 1) := by decide +kernel
theorem dX8_tellWant_41 : decode cX8_tellWant 41 = .ok (.iload_n 2, 1) := by decide +kernel
theorem dX8_tellWant_42 : decode cX8_tellWant 42 = .ok (.iastore, 1) := by decide +kernel
theorem dX8_tellWant_43 : decode cX8_tellWant 43 = .ok (.iload_n 3, 1) := by decide +kernel
theorem dX8_tellWant_44 : decode cX8_tellWant 44 = .ok (.ireturn, 1) := by decide +kernel
theorem dX8_tellMoon_0 : decode cX8_tellMoon 0 = .ok (.iload_n 1, 1) := by decide +kernel
theorem dX8_tellMoon_1 : decode cX8_tellMoon 1 = .ok (.iconst 1, 1) := by decide +kernel
theorem dX8_tellMoon_2 : decode cX8_tellMoon 2 = .ok (.bipush 9, 2) := by decide +kernel
theorem dX8_tellMoon_4 : decode cX8_tellMoon 4 = .ok (.invokestatic 54, 3) := by decide +kernel
theorem dX8_tellMoon_7 : decode cX8_tellMoon 7 = .ok (.ifCond .ne 6, 3) := by decide +kernel
theorem dX8_tellMoon_10 : decode cX8_tellMoon 10 = .ok (.bipush (-2), 2) := by decide +kernel
theorem dX8_tellMoon_12 : decode cX8_tellMoon 12 = .ok (.ireturn, 1) := by decide +kernel
theorem dX8_tellMoon_13 : decode cX8_tellMoon 13 = .ok (.aload_n 0, 1) := by decide +kernel
theorem dX8_tellMoon_14 : decode cX8_tellMoon 14 = .ok (.getfield 27, 3) := by decide +kernel
theorem dX8_tellMoon_17 : decode cX8_tellMoon 17 = .ok (.getfield 82, 3) := by decide +kernel
theorem dX8_tellMoon_20 : decode cX8_tellMoon 20 = .ok (.istore_n 2, 1) := by decide +kernel
theorem dX8_tellMoon_21 : decode cX8_tellMoon 21 = .ok (.aload_n 0, 1) := by decide +kernel
theorem dX8_tellMoon_22 : decode cX8_tellMoon 22 = .ok (.getfield 27, 3) := by decide +kernel
theorem dX8_tellMoon_25 : decode cX8_tellMoon 25 = .ok (.iload_n 1, 1) := by decide +kernel
theorem dX8_tellMoon_26 : decode cX8_tellMoon 26 = .ok (.putfield 82, 3) := by decide +kernel
theorem dX8_tellMoon_29 : decode cX8_tellMoon 29 = .ok (.iload_n 2, 1) := by decide +kernel
theorem dX8_tellMoon_30 : decode cX8_tellMoon 30 = .ok (.ireturn, 1) := by decide +kernel
theorem dX8_tellTreaty_0 : decode cX8_tellTreaty 0 = .ok (.iload_n 1, 1) := by decide +kernel
theorem dX8_tellTreaty_1 : decode cX8_tellTreaty 1 = .ok (.iconst 0, 1) := by decide +kernel
theorem dX8_tellTreaty_2 : decode cX8_tellTreaty 2 = .ok (.iconst 5, 1) := by decide +kernel
theorem dX8_tellTreaty_3 : decode cX8_tellTreaty 3 = .ok (.invokestatic 54, 3) := by decide +kernel
theorem dX8_tellTreaty_6 : decode cX8_tellTreaty 6 = .ok (.ifCond .eq 14, 3) := by decide +kernel
theorem dX8_tellTreaty_9 : decode cX8_tellTreaty 9 = .ok (.iload 6, 2) := by decide +kernel
theorem dX8_tellTreaty_11 : decode cX8_tellTreaty 11 = .ok (.iconst 0, 1) := by decide +kernel
theorem dX8_tellTreaty_12 : decode cX8_tellTreaty 12 = .ok (.bipush 20, 2) := by decide +kernel
theorem dX8_tellTreaty_14 : decode cX8_tellTreaty 14 = .ok (.invokestatic 54, 3) := by decide +kernel
theorem dX8_tellTreaty_17 : decode cX8_tellTreaty 17 = .ok (.ifCond .ne 6, 3) := by decide +kernel
theorem dX8_tellTreaty_20 : decode cX8_tellTreaty 20 = .ok (.bipush (-2), 2) := by decide +kernel
theorem dX8_tellTreaty_22 : decode cX8_tellTreaty 22 = .ok (.ireturn, 1) := by decide +kernel
theorem dX8_tellTreaty_23 : decode cX8_tellTreaty 23 = .ok (.aload_n 0, 1) := by decide +kernel
theorem dX8_tellTreaty_24 : decode cX8_tellTreaty 24 = .ok (.iload_n 2, 1) := by decide +kernel
theorem dX8_tellTreaty_25 : decode cX8_tellTreaty 25 = .ok (.invokevirtual 58, 3) := by decide +kernel
theorem dX8_tellTreaty_28 : decode cX8_tellTreaty 28 = .ok (.ifCond .eq 16, 3) := by decide +kernel
theorem dX8_tellTreaty_31 : decode cX8_tellTreaty 31 = .ok (.aload_n 0, 1) := by decide +kernel
theorem dX8_tellTreaty_32 : decode cX8_tellTreaty 32 = .ok (.iload_n 3, 1) := by decide +kernel
theorem dX8_tellTreaty_33 : decode cX8_tellTreaty 33 = .ok (.invokevirtual 58, 3) := by decide +kernel
theorem dX8_tellTreaty_36 : decode cX8_tellTreaty 36 = .ok (.ifCond .eq 8, 3) := by decide +kernel
theorem dX8_tellTreaty_39 : decode cX8_tellTreaty 39 = .ok (.iload_n 2, 1) := by decide +kernel
theorem dX8_tellTreaty_40 : decode cX8_tellTreaty 40 = .ok (.iload_n 3, 1) := by decide +kernel
theorem dX8_tellTreaty_41 : decode cX8_tellTreaty 41 = .ok (.if_icmp .le 6, 3) := by decide +kernel
theorem dX8_tellTreaty_44 : decode cX8_tellTreaty 44 = .ok (.bipush (-2), 2) := by decide +kernel
theorem dX8_tellTreaty_46 : decode cX8_tellTreaty 46 = .ok (.ireturn, 1) := by decide +kernel
theorem dX8_tellTreaty_47 : decode cX8_tellTreaty 47 = .ok (.iload 4, 2) := by decide +kernel
theorem dX8_tellTreaty_49 : decode cX8_tellTreaty 49 = .ok (.iconst 0, 1) := by decide +kernel
theorem dX8_tellTreaty_50 : decode cX8_tellTreaty 50 = .ok (.bipush 99, 2) := by decide +kernel
theorem dX8_tellTreaty_52 : decode cX8_tellTreaty 52 = .ok (.invokestatic 54, 3) := by decide +kernel
theorem dX8_tellTreaty_55 : decode cX8_tellTreaty 55 = .ok (.ifCond .eq 14, 3) := by decide +kernel
theorem dX8_tellTreaty_58 : decode cX8_tellTreaty 58 = .ok (.iload 5, 2) := by decide +kernel
theorem dX8_tellTreaty_60 : decode cX8_tellTreaty 60 = .ok (.iconst 0, 1) := by decide +kernel
theorem dX8_tellTreaty_61 : decode cX8_tellTreaty 61 = .ok (.bipush 99, 2) := by decide +kernel
theorem dX8_tellTreaty_63 : decode cX8_tellTreaty 63 = .ok (.invokestatic 54, 3) := by decide +kernel
theorem dX8_tellTreaty_66 : decode cX8_tellTreaty 66 = .ok (.ifCond .ne 6, 3) := by decide +kernel
theorem dX8_tellTreaty_69 : decode cX8_tellTreaty 69 = .ok (.bipush (-2), 2) := by decide +kernel
theorem dX8_tellTreaty_71 : decode cX8_tellTreaty 71 = .ok (.ireturn, 1) := by decide +kernel
theorem dX8_tellTreaty_72 : decode cX8_tellTreaty 72 = .ok (.aload_n 0, 1) := by decide +kernel
theorem dX8_tellTreaty_73 : decode cX8_tellTreaty 73 = .ok (.getfield 27, 3) := by decide +kernel
theorem dX8_tellTreaty_76 : decode cX8_tellTreaty 76 = .ok (.iload_n 1, 1) := by decide +kernel
theorem dX8_tellTreaty_77 : decode cX8_tellTreaty 77 = .ok (.iload_n 2, 1) := by decide +kernel
theorem dX8_tellTreaty_78 : decode cX8_tellTreaty 78 = .ok (.iload_n 3, 1) := by decide +kernel
theorem dX8_tellTreaty_79 : decode cX8_tellTreaty 79 = .ok (.iload 4, 2) := by decide +kernel
theorem dX8_tellTreaty_81 : decode cX8_tellTreaty 81 = .ok (.iload 5, 2) := by decide +kernel
theorem dX8_tellTreaty_83 : decode cX8_tellTreaty 83 = .ok (.iload 6, 2) := by decide +kernel
theorem dX8_tellTreaty_85 : decode cX8_tellTreaty 85 = .ok (.invokevirtual 85, 3) := by decide +kernel
theorem dX8_tellTreaty_88 : decode cX8_tellTreaty 88 = .ok (.ireturn, 1) := by decide +kernel
theorem dX8_dropTreaties_0 : decode cX8_dropTreaties 0 = .ok (.aload_n 0, 1) := by decide +kernel
theorem dX8_dropTreaties_1 : decode cX8_dropTreaties 1 = .ok (.getfield 27, 3) := by decide +kernel
theorem dX8_dropTreaties_4 : decode cX8_dropTreaties 4 = .ok (.getfield 89, 3) := by decide +kernel
theorem dX8_dropTreaties_7 : decode cX8_dropTreaties 7 = .ok (.istore_n 1, 1) := by decide +kernel
theorem dX8_dropTreaties_8 : decode cX8_dropTreaties 8 = .ok (.aload_n 0, 1) := by decide +kernel
theorem dX8_dropTreaties_9 : decode cX8_dropTreaties 9 = .ok (.getfield 27, 3) := by decide +kernel
theorem dX8_dropTreaties_12 : decode cX8_dropTreaties 12 = .ok (.iconst 0, 1) := by decide +kernel
theorem dX8_dropTreaties_13 : decode cX8_dropTreaties 13 = .ok (.putfield 89, 3) := by decide +kernel
theorem dX8_dropTreaties_16 : decode cX8_dropTreaties 16 = .ok (.aload_n 0, 1) := by decide +kernel
theorem dX8_dropTreaties_17 : decode cX8_dropTreaties 17 = .ok (.getfield 12, 3) := by decide +kernel
theorem dX8_dropTreaties_20 : decode cX8_dropTreaties 20 = .ok (.iconst 0, 1) := by decide +kernel
theorem dX8_dropTreaties_21 : decode cX8_dropTreaties 21 = .ok (.putfield 92, 3) := by decide +kernel
theorem dX8_dropTreaties_24 : decode cX8_dropTreaties 24 = .ok (.iload_n 1, 1) := by decide +kernel
theorem dX8_dropTreaties_25 : decode cX8_dropTreaties 25 = .ok (.ireturn, 1) := by decide +kernel
theorem dX8_worthOf_0 : decode cX8_worthOf 0 = .ok (.aload_n 0, 1) := by decide +kernel
theorem dX8_worthOf_1 : decode cX8_worthOf 1 = .ok (.getfield 27, 3) := by decide +kernel
theorem dX8_worthOf_4 : decode cX8_worthOf 4 = .ok (.iload_n 1, 1) := by decide +kernel
theorem dX8_worthOf_5 : decode cX8_worthOf 5 = .ok (.aload_n 0, 1) := by decide +kernel
theorem dX8_worthOf_6 : decode cX8_worthOf 6 = .ok (.getfield 12, 3) := by decide +kernel
theorem dX8_worthOf_9 : decode cX8_worthOf 9 = .ok (.invokevirtual 95, 3) := by decide +kernel
theorem dX8_worthOf_12 : decode cX8_worthOf 12 = .ok (.iconst (-1), 1) := by decide +kernel
theorem dX8_worthOf_13 : decode cX8_worthOf 13 = .ok (.ixor, 1) := by decide +kernel
theorem dX8_worthOf_14 : decode cX8_worthOf 14 = .ok (.iand, 1) := by decide +kernel
theorem dX8_worthOf_15 : decode cX8_worthOf 15 = .ok (.invokevirtual 99, 3) := by decide +kernel
theorem dX8_worthOf_18 : decode cX8_worthOf 18 = .ok (.ireturn, 1) := by decide +kernel
theorem dX8_mixCells_0 : decode cX8_mixCells 0 = .ok (.iconst 0, 1) := by decide +kernel
theorem dX8_mixCells_1 : decode cX8_mixCells 1 = .ok (.istore_n 3, 1) := by decide +kernel
theorem dX8_mixCells_2 : decode cX8_mixCells 2 = .ok (.iload_n 3, 1) := by decide +kernel
theorem dX8_mixCells_3 : decode cX8_mixCells 3 = .ok (.aload_n 0, 1) := by decide +kernel
theorem dX8_mixCells_4 : decode cX8_mixCells 4 = .ok (.getfield 27, 3) := by decide +kernel
theorem dX8_mixCells_7 : decode cX8_mixCells 7 = .ok (.getfield 51, 3) := by decide +kernel
theorem dX8_mixCells_10 : decode cX8_mixCells 10 = .ok (.if_icmp .ge 94, 3) := by decide +kernel
theorem dX8_mixCells_13 : decode cX8_mixCells 13 = .ok (.ldc2_w 103, 3) := by decide +kernel
theorem dX8_mixCells_16 : decode cX8_mixCells 16 = .ok (.lload_n 1, 1) := by decide +kernel
theorem dX8_mixCells_17 : decode cX8_mixCells 17 = .ok (.lmul, 1) := by decide +kernel
theorem dX8_mixCells_18 : decode cX8_mixCells 18 = .ok (.aload_n 0, 1) := by decide +kernel
theorem dX8_mixCells_19 : decode cX8_mixCells 19 = .ok (.getfield 27, 3) := by decide +kernel
theorem dX8_mixCells_22 : decode cX8_mixCells 22 = .ok (.getfield 65, 3) := by decide +kernel
theorem dX8_mixCells_25 : decode cX8_mixCells 25 = .ok (.iload_n 3, 1) := by decide +kernel
theorem dX8_mixCells_26 : decode cX8_mixCells 26 = .ok (.iaload, 1) := by decide +kernel
theorem dX8_mixCells_27 : decode cX8_mixCells 27 = .ok (.i2l, 1) := by decide +kernel
theorem dX8_mixCells_28 : decode cX8_mixCells 28 = .ok (.ladd, 1) := by decide +kernel
theorem dX8_mixCells_29 : decode cX8_mixCells 29 = .ok (.lstore_n 1, 1) := by decide +kernel
theorem dX8_mixCells_30 : decode cX8_mixCells 30 = .ok (.ldc2_w 103, 3) := by decide +kernel
theorem dX8_mixCells_33 : decode cX8_mixCells 33 = .ok (.lload_n 1, 1) := by decide +kernel
theorem dX8_mixCells_34 : decode cX8_mixCells 34 = .ok (.lmul, 1) := by decide +kernel
theorem dX8_mixCells_35 : decode cX8_mixCells 35 = .ok (.aload_n 0, 1) := by decide +kernel
theorem dX8_mixCells_36 : decode cX8_mixCells 36 = .ok (.getfield 27, 3) := by decide +kernel
theorem dX8_mixCells_39 : decode cX8_mixCells 39 = .ok (.getfield 105, 3) := by decide +kernel
theorem dX8_mixCells_42 : decode cX8_mixCells 42 = .ok (.iload_n 3, 1) := by decide +kernel
theorem dX8_mixCells_43 : decode cX8_mixCells 43 = .ok (.iaload, 1) := by decide +kernel
theorem dX8_mixCells_44 : decode cX8_mixCells 44 = .ok (.i2l, 1) := by decide +kernel
theorem dX8_mixCells_45 : decode cX8_mixCells 45 = .ok (.ladd, 1) := by decide +kernel
theorem dX8_mixCells_46 : decode cX8_mixCells 46 = .ok (.lstore_n 1, 1) := by decide +kernel
theorem dX8_mixCells_47 : decode cX8_mixCells 47 = .ok (.ldc2_w 103, 3) := by decide +kernel
theorem dX8_mixCells_50 : decode cX8_mixCells 50 = .ok (.lload_n 1, 1) := by decide +kernel
theorem dX8_mixCells_51 : decode cX8_mixCells 51 = .ok (.lmul, 1) := by decide +kernel
theorem dX8_mixCells_52 : decode cX8_mixCells 52 = .ok (.aload_n 0, 1) := by decide +kernel
theorem dX8_mixCells_53 : decode cX8_mixCells 53 = .ok (.getfield 27, 3) := by decide +kernel
theorem dX8_mixCells_56 : decode cX8_mixCells 56 = .ok (.getfield 108, 3) := by decide +kernel
theorem dX8_mixCells_59 : decode cX8_mixCells 59 = .ok (.iload_n 3, 1) := by decide +kernel
theorem dX8_mixCells_60 : decode cX8_mixCells 60 = .ok (.iaload, 1) := by decide +kernel
theorem dX8_mixCells_61 : decode cX8_mixCells 61 = .ok (.i2l, 1) := by decide +kernel
theorem dX8_mixCells_62 : decode cX8_mixCells 62 = .ok (.ladd, 1) := by decide +kernel
theorem dX8_mixCells_63 : decode cX8_mixCells 63 = .ok (.lstore_n 1, 1) := by decide +kernel
theorem dX8_mixCells_64 : decode cX8_mixCells 64 = .ok (.ldc2_w 103, 3) := by decide +kernel
theorem dX8_mixCells_67 : decode cX8_mixCells 67 = .ok (.lload_n 1, 1) := by decide +kernel
theorem dX8_mixCells_68 : decode cX8_mixCells 68 = .ok (.lmul, 1) := by decide +kernel
theorem dX8_mixCells_69 : decode cX8_mixCells 69 = .ok (.aload_n 0, 1) := by decide +kernel
theorem dX8_mixCells_70 : decode cX8_mixCells 70 = .ok (.getfield 12, 3) := by decide +kernel
theorem dX8_mixCells_73 : decode cX8_mixCells 73 = .ok (.getfield 76, 3) := by decide +kernel
theorem dX8_mixCells_76 : decode cX8_mixCells 76 = .ok (.iload_n 3, 1) := by decide +kernel
theorem dX8_mixCells_77 : decode cX8_mixCells 77 = .ok (.iaload, 1) := by decide +kernel
theorem dX8_mixCells_78 : decode cX8_mixCells 78 = .ok (.i2l, 1) := by decide +kernel
theorem dX8_mixCells_79 : decode cX8_mixCells 79 = .ok (.ladd, 1) := by decide +kernel
theorem dX8_mixCells_80 : decode cX8_mixCells 80 = .ok (.lstore_n 1, 1) := by decide +kernel
theorem dX8_mixCells_81 : decode cX8_mixCells 81 = .ok (.ldc2_w 103, 3) := by decide +kernel
theorem dX8_mixCells_84 : decode cX8_mixCells 84 = .ok (.lload_n 1, 1) := by decide +kernel
theorem dX8_mixCells_85 : decode cX8_mixCells 85 = .ok (.lmul, 1) := by decide +kernel
theorem dX8_mixCells_86 : decode cX8_mixCells 86 = .ok (.aload_n 0, 1) := by decide +kernel
theorem dX8_mixCells_87 : decode cX8_mixCells 87 = .ok (.getfield 12, 3) := by decide +kernel
theorem dX8_mixCells_90 : decode cX8_mixCells 90 = .ok (.getfield 73, 3) := by decide +kernel
theorem dX8_mixCells_93 : decode cX8_mixCells 93 = .ok (.iload_n 3, 1) := by decide +kernel
theorem dX8_mixCells_94 : decode cX8_mixCells 94 = .ok (.iaload, 1) := by decide +kernel
theorem dX8_mixCells_95 : decode cX8_mixCells 95 = .ok (.i2l, 1) := by decide +kernel
theorem dX8_mixCells_96 : decode cX8_mixCells 96 = .ok (.ladd, 1) := by decide +kernel
theorem dX8_mixCells_97 : decode cX8_mixCells 97 = .ok (.lstore_n 1, 1) := by decide +kernel
theorem dX8_mixCells_98 : decode cX8_mixCells 98 = .ok (.iinc 3 1, 3) := by decide +kernel
theorem dX8_mixCells_101 : decode cX8_mixCells 101 = .ok (.goto (-99), 3) := by decide +kernel
theorem dX8_mixCells_104 : decode cX8_mixCells 104 = .ok (.lload_n 1, 1) := by decide +kernel
theorem dX8_mixCells_105 : decode cX8_mixCells 105 = .ok (.lreturn, 1) := by decide +kernel
theorem dX8_mixTreaties_0 : decode cX8_mixTreaties 0 = .ok (.iconst 0, 1) := by decide +kernel
theorem dX8_mixTreaties_1 : decode cX8_mixTreaties 1 = .ok (.istore_n 3, 1) := by decide +kernel
theorem dX8_mixTreaties_2 : decode cX8_mixTreaties 2 = .ok (.iload_n 3, 1) := by decide +kernel
theorem dX8_mixTreaties_3 : decode cX8_mixTreaties 3 = .ok (.aload_n 0, 1) := by decide +kernel
theorem dX8_mixTreaties_4 : decode cX8_mixTreaties 4 = .ok (.getfield 27, 3) := by decide +kernel
theorem dX8_mixTreaties_7 : decode cX8_mixTreaties 7 = .ok (.getfield 89, 3) := by decide +kernel
theorem dX8_mixTreaties_10 : decode cX8_mixTreaties 10 = .ok (.if_icmp .ge 122, 3) := by decide +kernel
theorem dX8_mixTreaties_13 : decode cX8_mixTreaties 13 = .ok (.aload_n 0, 1) := by decide +kernel
theorem dX8_mixTreaties_14 : decode cX8_mixTreaties 14 = .ok (.getfield 27, 3) := by decide +kernel
theorem dX8_mixTreaties_17 : decode cX8_mixTreaties 17 = .ok (.getfield 111, 3) := by decide +kernel
theorem dX8_mixTreaties_20 : decode cX8_mixTreaties 20 = .ok (.iload_n 3, 1) := by decide +kernel
theorem dX8_mixTreaties_21 : decode cX8_mixTreaties 21 = .ok (.aaload, 1) := by decide +kernel
theorem dX8_mixTreaties_22 : decode cX8_mixTreaties 22 = .ok (.astore 4, 2) := by decide +kernel
theorem dX8_mixTreaties_24 : decode cX8_mixTreaties 24 = .ok (.ldc2_w 103, 3) := by decide +kernel
theorem dX8_mixTreaties_27 : decode cX8_mixTreaties 27 = .ok (.lload_n 1, 1) := by decide +kernel
theorem dX8_mixTreaties_28 : decode cX8_mixTreaties 28 = .ok (.lmul, 1) := by decide +kernel
theorem dX8_mixTreaties_29 : decode cX8_mixTreaties 29 = .ok (.aload 4, 2) := by decide +kernel
theorem dX8_mixTreaties_31 : decode cX8_mixTreaties 31 = .ok (.getfield 115, 3) := by decide +kernel
theorem dX8_mixTreaties_34 : decode cX8_mixTreaties 34 = .ok (.i2l, 1) := by decide +kernel
theorem dX8_mixTreaties_35 : decode cX8_mixTreaties 35 = .ok (.ladd, 1) := by decide +kernel
theorem dX8_mixTreaties_36 : decode cX8_mixTreaties 36 = .ok (.lstore_n 1, 1) := by decide +kernel
theorem dX8_mixTreaties_37 : decode cX8_mixTreaties 37 = .ok (.ldc2_w 103, 3) := by decide +kernel
theorem dX8_mixTreaties_40 : decode cX8_mixTreaties 40 = .ok (.lload_n 1, 1) := by decide +kernel
theorem dX8_mixTreaties_41 : decode cX8_mixTreaties 41 = .ok (.lmul, 1) := by decide +kernel
theorem dX8_mixTreaties_42 : decode cX8_mixTreaties 42 = .ok (.aload 4, 2) := by decide +kernel
theorem dX8_mixTreaties_44 : decode cX8_mixTreaties 44 = .ok (.getfield 120, 3) := by decide +kernel
theorem dX8_mixTreaties_47 : decode cX8_mixTreaties 47 = .ok (.i2l, 1) := by decide +kernel
theorem dX8_mixTreaties_48 : decode cX8_mixTreaties 48 = .ok (.ladd, 1) := by decide +kernel
theorem dX8_mixTreaties_49 : decode cX8_mixTreaties 49 = .ok (.lstore_n 1, 1) := by decide +kernel
theorem dX8_mixTreaties_50 : decode cX8_mixTreaties 50 = .ok (.ldc2_w 103, 3) := by decide +kernel
theorem dX8_mixTreaties_53 : decode cX8_mixTreaties 53 = .ok (.lload_n 1, 1) := by decide +kernel
theorem dX8_mixTreaties_54 : decode cX8_mixTreaties 54 = .ok (.lmul, 1) := by decide +kernel
theorem dX8_mixTreaties_55 : decode cX8_mixTreaties 55 = .ok (.aload 4, 2) := by decide +kernel
theorem dX8_mixTreaties_57 : decode cX8_mixTreaties 57 = .ok (.getfield 123, 3) := by decide +kernel
theorem dX8_mixTreaties_60 : decode cX8_mixTreaties 60 = .ok (.i2l, 1) := by decide +kernel
theorem dX8_mixTreaties_61 : decode cX8_mixTreaties 61 = .ok (.ladd, 1) := by decide +kernel
theorem dX8_mixTreaties_62 : decode cX8_mixTreaties 62 = .ok (.lstore_n 1, 1) := by decide +kernel
theorem dX8_mixTreaties_63 : decode cX8_mixTreaties 63 = .ok (.ldc2_w 103, 3) := by decide +kernel
theorem dX8_mixTreaties_66 : decode cX8_mixTreaties 66 = .ok (.lload_n 1, 1) := by decide +kernel
theorem dX8_mixTreaties_67 : decode cX8_mixTreaties 67 = .ok (.lmul, 1) := by decide +kernel
theorem dX8_mixTreaties_68 : decode cX8_mixTreaties 68 = .ok (.aload 4, 2) := by decide +kernel
theorem dX8_mixTreaties_70 : decode cX8_mixTreaties 70 = .ok (.getfield 126, 3) := by decide +kernel
theorem dX8_mixTreaties_73 : decode cX8_mixTreaties 73 = .ok (.i2l, 1) := by decide +kernel
theorem dX8_mixTreaties_74 : decode cX8_mixTreaties 74 = .ok (.ladd, 1) := by decide +kernel
theorem dX8_mixTreaties_75 : decode cX8_mixTreaties 75 = .ok (.lstore_n 1, 1) := by decide +kernel
theorem dX8_mixTreaties_76 : decode cX8_mixTreaties 76 = .ok (.ldc2_w 103, 3) := by decide +kernel
theorem dX8_mixTreaties_79 : decode cX8_mixTreaties 79 = .ok (.lload_n 1, 1) := by decide +kernel
theorem dX8_mixTreaties_80 : decode cX8_mixTreaties 80 = .ok (.lmul, 1) := by decide +kernel
theorem dX8_mixTreaties_81 : decode cX8_mixTreaties 81 = .ok (.aload 4, 2) := by decide +kernel
theorem dX8_mixTreaties_83 : decode cX8_mixTreaties 83 = .ok (.getfield 129, 3) := by decide +kernel
theorem dX8_mixTreaties_86 : decode cX8_mixTreaties 86 = .ok (.i2l, 1) := by decide +kernel
theorem dX8_mixTreaties_87 : decode cX8_mixTreaties 87 = .ok (.ladd, 1) := by decide +kernel
theorem dX8_mixTreaties_88 : decode cX8_mixTreaties 88 = .ok (.lstore_n 1, 1) := by decide +kernel
theorem dX8_mixTreaties_89 : decode cX8_mixTreaties 89 = .ok (.ldc2_w 103, 3) := by decide +kernel
theorem dX8_mixTreaties_92 : decode cX8_mixTreaties 92 = .ok (.lload_n 1, 1) := by decide +kernel
theorem dX8_mixTreaties_93 : decode cX8_mixTreaties 93 = .ok (.lmul, 1) := by decide +kernel
theorem dX8_mixTreaties_94 : decode cX8_mixTreaties 94 = .ok (.aload 4, 2) := by decide +kernel
theorem dX8_mixTreaties_96 : decode cX8_mixTreaties 96 = .ok (.getfield 132, 3) := by decide +kernel
theorem dX8_mixTreaties_99 : decode cX8_mixTreaties 99 = .ok (.i2l, 1) := by decide +kernel
theorem dX8_mixTreaties_100 : decode cX8_mixTreaties 100 = .ok (.ladd, 1) := by decide +kernel
theorem dX8_mixTreaties_101 : decode cX8_mixTreaties 101 = .ok (.lstore_n 1, 1) := by decide +kernel
theorem dX8_mixTreaties_102 : decode cX8_mixTreaties 102 = .ok (.ldc2_w 103, 3) := by decide +kernel
theorem dX8_mixTreaties_105 : decode cX8_mixTreaties 105 = .ok (.lload_n 1, 1) := by decide +kernel
theorem dX8_mixTreaties_106 : decode cX8_mixTreaties 106 = .ok (.lmul, 1) := by decide +kernel
theorem dX8_mixTreaties_107 : decode cX8_mixTreaties 107 = .ok (.aload_n 0, 1) := by decide +kernel
theorem dX8_mixTreaties_108 : decode cX8_mixTreaties 108 = .ok (.getfield 12, 3) := by decide +kernel
theorem dX8_mixTreaties_111 : decode cX8_mixTreaties 111 = .ok (.iload_n 3, 1) := by decide +kernel
theorem dX8_mixTreaties_112 : decode cX8_mixTreaties 112 = .ok (.invokevirtual 135, 3) := by decide +kernel
theorem dX8_mixTreaties_115 : decode cX8_mixTreaties 115 = .ok (.ifCond .eq 7, 3) := by decide +kernel
theorem dX8_mixTreaties_118 : decode cX8_mixTreaties 118 = .ok (.iconst 1, 1) := by decide +kernel
theorem dX8_mixTreaties_119 : decode cX8_mixTreaties 119 = .ok (.goto 4, 3) := by decide +kernel
theorem dX8_mixTreaties_122 : decode cX8_mixTreaties 122 = .ok (.iconst 0, 1) := by decide +kernel
theorem dX8_mixTreaties_123 : decode cX8_mixTreaties 123 = .ok (.i2l, 1) := by decide +kernel
theorem dX8_mixTreaties_124 : decode cX8_mixTreaties 124 = .ok (.ladd, 1) := by decide +kernel
theorem dX8_mixTreaties_125 : decode cX8_mixTreaties 125 = .ok (.lstore_n 1, 1) := by decide +kernel
theorem dX8_mixTreaties_126 : decode cX8_mixTreaties 126 = .ok (.iinc 3 1, 3) := by decide +kernel
theorem dX8_mixTreaties_129 : decode cX8_mixTreaties 129 = .ok (.goto (-127), 3) := by decide +kernel
theorem dX8_mixTreaties_132 : decode cX8_mixTreaties 132 = .ok (.lload_n 1, 1) := by decide +kernel
theorem dX8_mixTreaties_133 : decode cX8_mixTreaties 133 = .ok (.lreturn, 1) := by decide +kernel
theorem dX9_init_0 : decode cX9_init 0 = .ok (.aload_n 0, 1) := by decide +kernel
theorem dX9_init_1 : decode cX9_init 1 = .ok (.invokespecial 1, 3) := by decide +kernel
theorem dX9_init_4 : decode cX9_init 4 = .ok (.aload_n 0, 1) := by decide +kernel
theorem dX9_init_5 : decode cX9_init 5 = .ok (.aload_n 1, 1) := by decide +kernel
theorem dX9_init_6 : decode cX9_init 6 = .ok (.putfield 7, 3) := by decide +kernel
theorem dX9_init_9 : decode cX9_init 9 = .ok (.return_, 1) := by decide +kernel
theorem dX9_copyOf_0 : decode cX9_copyOf 0 = .ok (.aload_n 0, 1) := by decide +kernel
theorem dX9_copyOf_1 : decode cX9_copyOf 1 = .ok (.aload_n 1, 1) := by decide +kernel
theorem dX9_copyOf_2 : decode cX9_copyOf 2 = .ok (.getfield 7, 3) := by decide +kernel
theorem dX9_copyOf_5 : decode cX9_copyOf 5 = .ok (.putfield 7, 3) := by decide +kernel
theorem dX9_copyOf_8 : decode cX9_copyOf 8 = .ok (.aload_n 0, 1) := by decide +kernel
theorem dX9_copyOf_9 : decode cX9_copyOf 9 = .ok (.aload_n 1, 1) := by decide +kernel
theorem dX9_copyOf_10 : decode cX9_copyOf 10 = .ok (.getfield 13, 3) := by decide +kernel
theorem dX9_copyOf_13 : decode cX9_copyOf 13 = .ok (.putfield 13, 3) := by decide +kernel
theorem dX9_copyOf_16 : decode cX9_copyOf 16 = .ok (.aload_n 0, 1) := by decide +kernel
theorem dX9_copyOf_17 : decode cX9_copyOf 17 = .ok (.aload_n 1, 1) := by decide +kernel
theorem dX9_copyOf_18 : decode cX9_copyOf 18 = .ok (.getfield 17, 3) := by decide +kernel
theorem dX9_copyOf_21 : decode cX9_copyOf 21 = .ok (.putfield 17, 3) := by decide +kernel
theorem dX9_copyOf_24 : decode cX9_copyOf 24 = .ok (.aload_n 0, 1) := by decide +kernel
theorem dX9_copyOf_25 : decode cX9_copyOf 25 = .ok (.aload_n 1, 1) := by decide +kernel
theorem dX9_copyOf_26 : decode cX9_copyOf 26 = .ok (.getfield 20, 3) := by decide +kernel
theorem dX9_copyOf_29 : decode cX9_copyOf 29 = .ok (.putfield 20, 3) := by decide +kernel
theorem dX9_copyOf_32 : decode cX9_copyOf 32 = .ok (.aload_n 0, 1) := by decide +kernel
theorem dX9_copyOf_33 : decode cX9_copyOf 33 = .ok (.aload_n 1, 1) := by decide +kernel
theorem dX9_copyOf_34 : decode cX9_copyOf 34 = .ok (.getfield 23, 3) := by decide +kernel
theorem dX9_copyOf_37 : decode cX9_copyOf 37 = .ok (.putfield 23, 3) := by decide +kernel
theorem dX9_copyOf_40 : decode cX9_copyOf 40 = .ok (.aload_n 0, 1) := by decide +kernel
theorem dX9_copyOf_41 : decode cX9_copyOf 41 = .ok (.aload_n 1, 1) := by decide +kernel
theorem dX9_copyOf_42 : decode cX9_copyOf 42 = .ok (.getfield 26, 3) := by decide +kernel
theorem dX9_copyOf_45 : decode cX9_copyOf 45 = .ok (.putfield 26, 3) := by decide +kernel
theorem dX9_copyOf_48 : decode cX9_copyOf 48 = .ok (.aload_n 0, 1) := by decide +kernel
theorem dX9_copyOf_49 : decode cX9_copyOf 49 = .ok (.aload_n 1, 1) := by decide +kernel
theorem dX9_copyOf_50 : decode cX9_copyOf 50 = .ok (.getfield 29, 3) := by decide +kernel
theorem dX9_copyOf_53 : decode cX9_copyOf 53 = .ok (.putfield 29, 3) := by decide +kernel
theorem dX9_copyOf_56 : decode cX9_copyOf 56 = .ok (.aload_n 0, 1) := by decide +kernel
theorem dX9_copyOf_57 : decode cX9_copyOf 57 = .ok (.aload_n 1, 1) := by decide +kernel
theorem dX9_copyOf_58 : decode cX9_copyOf 58 = .ok (.getfield 32, 3) := by decide +kernel
theorem dX9_copyOf_61 : decode cX9_copyOf 61 = .ok (.putfield 32, 3) := by decide +kernel
theorem dX9_copyOf_64 : decode cX9_copyOf 64 = .ok (.return_, 1) := by decide +kernel
theorem dX9_runsIn_0 : decode cX9_runsIn 0 = .ok (.aload_n 0, 1) := by decide +kernel
theorem dX9_runsIn_1 : decode cX9_runsIn 1 = .ok (.getfield 23, 3) := by decide +kernel
theorem dX9_runsIn_4 : decode cX9_runsIn 4 = .ok (.iload_n 1, 1) := by decide +kernel
theorem dX9_runsIn_5 : decode cX9_runsIn 5 = .ok (.if_icmp .gt 15, 3) := by decide +kernel
theorem dX9_runsIn_8 : decode cX9_runsIn 8 = .ok (.iload_n 1, 1) := by decide +kernel
theorem dX9_runsIn_9 : decode cX9_runsIn 9 = .ok (.aload_n 0, 1) := by decide +kernel
theorem dX9_runsIn_10 : decode cX9_runsIn 10 = .ok (.getfield 26, 3) := by decide +kernel
theorem dX9_runsIn_13 : decode cX9_runsIn 13 = .ok (.if_icmp .ge 7, 3) := by decide +kernel
theorem dX9_runsIn_16 : decode cX9_runsIn 16 = .ok (.iconst 1, 1) := by decide +kernel
theorem dX9_runsIn_17 : decode cX9_runsIn 17 = .ok (.goto 4, 3) := by decide +kernel
theorem dX9_runsIn_20 : decode cX9_runsIn 20 = .ok (.iconst 0, 1) := by decide +kernel
theorem dX9_runsIn_21 : decode cX9_runsIn 21 = .ok (.ireturn, 1) := by decide +kernel
theorem dX9_cellBits_0 : decode cX9_cellBits 0 = .ok (.iconst 2, 1) := by decide +kernel
theorem dX9_cellBits_1 : decode cX9_cellBits 1 = .ok (.aload_n 0, 1) := by decide +kernel
theorem dX9_cellBits_2 : decode cX9_cellBits 2 = .ok (.getfield 20, 3) := by decide +kernel
theorem dX9_cellBits_5 : decode cX9_cellBits 5 = .ok (.ishl, 1) := by decide +kernel
theorem dX9_cellBits_6 : decode cX9_cellBits 6 = .ok (.iconst 1, 1) := by decide +kernel
theorem dX9_cellBits_7 : decode cX9_cellBits 7 = .ok (.aload_n 0, 1) := by decide +kernel
theorem dX9_cellBits_8 : decode cX9_cellBits 8 = .ok (.getfield 17, 3) := by decide +kernel
theorem dX9_cellBits_11 : decode cX9_cellBits 11 = .ok (.ishl, 1) := by decide +kernel
theorem dX9_cellBits_12 : decode cX9_cellBits 12 = .ok (.isub, 1) := by decide +kernel
theorem dX9_cellBits_13 : decode cX9_cellBits 13 = .ok (.ireturn, 1) := by decide +kernel
theorem dX10_init_0 : decode cX10_init 0 = .ok (.aload_n 0, 1) := by decide +kernel
theorem dX10_init_1 : decode cX10_init 1 = .ok (.invokespecial 3, 3) := by decide +kernel
theorem dX10_init_4 : decode cX10_init 4 = .ok (.aload_n 0, 1) := by decide +kernel
theorem dX10_init_5 : decode cX10_init 5 = .ok (.bipush 8, 2) := by decide +kernel
theorem dX10_init_7 : decode cX10_init 7 = .ok (.newarray .int, 2) := by decide +kernel
theorem dX10_init_9 : decode cX10_init 9 = .ok (.putfield 9, 3) := by decide +kernel
theorem dX10_init_12 : decode cX10_init 12 = .ok (.aload_n 0, 1) := by decide +kernel
theorem dX10_init_13 : decode cX10_init 13 = .ok (.bipush 8, 2) := by decide +kernel
theorem dX10_init_15 : decode cX10_init 15 = .ok (.newarray .int, 2) := by decide +kernel
theorem dX10_init_17 : decode cX10_init 17 = .ok (.putfield 15, 3) := by decide +kernel
theorem dX10_init_20 : decode cX10_init 20 = .ok (.return_, 1) := by decide +kernel
theorem dX10_begin_0 : decode cX10_begin 0 = .ok (.aload_n 0, 1) := by decide +kernel
theorem dX10_begin_1 : decode cX10_begin 1 = .ok (.iconst 0, 1) := by decide +kernel
theorem dX10_begin_2 : decode cX10_begin 2 = .ok (.putfield 18, 3) := by decide +kernel
theorem dX10_begin_5 : decode cX10_begin 5 = .ok (.aload_n 0, 1) := by decide +kernel
theorem dX10_begin_6 : decode cX10_begin 6 = .ok (.bipush 50, 2) := by decide +kernel
theorem dX10_begin_8 : decode cX10_begin 8 = .ok (.putfield 22, 3) := by decide +kernel
theorem dX10_begin_11 : decode cX10_begin 11 = .ok (.aload_n 0, 1) := by decide +kernel
theorem dX10_begin_12 : decode cX10_begin 12 = .ok (.iconst 0, 1) := by decide +kernel
theorem dX10_begin_13 : decode cX10_begin 13 = .ok (.putfield 25, 3) := by decide +kernel
theorem dX10_begin_16 : decode cX10_begin 16 = .ok (.iconst 0, 1) := by decide +kernel
theorem dX10_begin_17 : decode cX10_begin 17 = .ok (.istore_n 1, 1) := by decide +kernel
theorem dX10_begin_18 : decode cX10_begin 18 = .ok (.iload_n 1, 1) := by decide +kernel
theorem dX10_begin_19 : decode cX10_begin 19 = .ok (.bipush 8, 2) := by decide +kernel
theorem dX10_begin_21 : decode cX10_begin 21 = .ok (.if_icmp .ge 23, 3) := by decide +kernel
theorem dX10_begin_24 : decode cX10_begin 24 = .ok (.aload_n 0, 1) := by decide +kernel
theorem dX10_begin_25 : decode cX10_begin 25 = .ok (.getfield 9, 3) := by decide +kernel
theorem dX10_begin_28 : decode cX10_begin 28 = .ok (.iload_n 1, 1) := by decide +kernel
theorem dX10_begin_29 : decode cX10_begin 29 = .ok (.iconst 0, 1) := by decide +kernel
theorem dX10_begin_30 : decode cX10_begin 30 = .ok (.iastore, 1) := by decide +kernel
theorem dX10_begin_31 : decode cX10_begin 31 = .ok (.aload_n 0, 1) := by decide +kernel
theorem dX10_begin_32 : decode cX10_begin 32 = .ok (.getfield 15, 3) := by decide +kernel
theorem dX10_begin_35 : decode cX10_begin 35 = .ok (.iload_n 1, 1) := by decide +kernel
theorem dX10_begin_36 : decode cX10_begin 36 = .ok (.iconst 0, 1) := by decide +kernel
theorem dX10_begin_37 : decode cX10_begin 37 = .ok (.iastore, 1) := by decide +kernel
theorem dX10_begin_38 : decode cX10_begin 38 = .ok (.iinc 1 1, 3) := by decide +kernel
theorem dX10_begin_41 : decode cX10_begin 41 = .ok (.goto (-23), 3) := by decide +kernel
theorem dX10_begin_44 : decode cX10_begin 44 = .ok (.return_, 1) := by decide +kernel
theorem dX10_copyOf_0 : decode cX10_copyOf 0 = .ok (.aload_n 0, 1) := by decide +kernel
theorem dX10_copyOf_1 : decode cX10_copyOf 1 = .ok (.aload_n 1, 1) := by decide +kernel
theorem dX10_copyOf_2 : decode cX10_copyOf 2 = .ok (.getfield 18, 3) := by decide +kernel
theorem dX10_copyOf_5 : decode cX10_copyOf 5 = .ok (.putfield 18, 3) := by decide +kernel
theorem dX10_copyOf_8 : decode cX10_copyOf 8 = .ok (.aload_n 0, 1) := by decide +kernel
theorem dX10_copyOf_9 : decode cX10_copyOf 9 = .ok (.aload_n 1, 1) := by decide +kernel
theorem dX10_copyOf_10 : decode cX10_copyOf 10 = .ok (.getfield 22, 3) := by decide +kernel
theorem dX10_copyOf_13 : decode cX10_copyOf 13 = .ok (.putfield 22, 3) := by decide +kernel
theorem dX10_copyOf_16 : decode cX10_copyOf 16 = .ok (.aload_n 0, 1) := by decide +kernel
theorem dX10_copyOf_17 : decode cX10_copyOf 17 = .ok (.aload_n 1, 1) := by decide +kernel
theorem dX10_copyOf_18 : decode cX10_copyOf 18 = .ok (.getfield 25, 3) := by decide +kernel
theorem dX10_copyOf_21 : decode cX10_copyOf 21 = .ok (.putfield 25, 3) := by decide +kernel
theorem dX10_copyOf_24 : decode cX10_copyOf 24 = .ok (.aload_n 1, 1) := by decide +kernel
theorem dX10_copyOf_25 : decode cX10_copyOf 25 = .ok (.getfield 9, 3) := by decide +kernel
theorem dX10_copyOf_28 : decode cX10_copyOf 28 = .ok (.iconst 0, 1) := by decide +kernel
theorem dX10_copyOf_29 : decode cX10_copyOf 29 = .ok (.aload_n 0, 1) := by decide +kernel
theorem dX10_copyOf_30 : decode cX10_copyOf 30 = .ok (.getfield 9, 3) := by decide +kernel
theorem dX10_copyOf_33 : decode cX10_copyOf 33 = .ok (.iconst 0, 1) := by decide +kernel
theorem dX10_copyOf_34 : decode cX10_copyOf 34 = .ok (.bipush 8, 2) := by decide +kernel
theorem dX10_copyOf_36 : decode cX10_copyOf 36 = .ok (.invokestatic 28, 3) := by decide +kernel
theorem dX10_copyOf_39 : decode cX10_copyOf 39 = .ok (.aload_n 1, 1) := by decide +kernel
theorem dX10_copyOf_40 : decode cX10_copyOf 40 = .ok (.getfield 15, 3) := by decide +kernel
theorem dX10_copyOf_43 : decode cX10_copyOf 43 = .ok (.iconst 0, 1) := by decide +kernel
theorem dX10_copyOf_44 : decode cX10_copyOf 44 = .ok (.aload_n 0, 1) := by decide +kernel
theorem dX10_copyOf_45 : decode cX10_copyOf 45 = .ok (.getfield 15, 3) := by decide +kernel
theorem dX10_copyOf_48 : decode cX10_copyOf 48 = .ok (.iconst 0, 1) := by decide +kernel
theorem dX10_copyOf_49 : decode cX10_copyOf 49 = .ok (.bipush 8, 2) := by decide +kernel
theorem dX10_copyOf_51 : decode cX10_copyOf 51 = .ok (.invokestatic 28, 3) := by decide +kernel
theorem dX10_copyOf_54 : decode cX10_copyOf 54 = .ok (.return_, 1) := by decide +kernel
theorem dX10_isBreached_0 : decode cX10_isBreached 0 = .ok (.aload_n 0, 1) := by decide +kernel
theorem dX10_isBreached_1 : decode cX10_isBreached 1 = .ok (.getfield 25, 3) := by decide +kernel
theorem dX10_isBreached_4 : decode cX10_isBreached 4 = .ok (.iconst 1, 1) := by decide +kernel
theorem dX10_isBreached_5 : decode cX10_isBreached 5 = .ok (.iload_n 1, 1) := by decide +kernel
theorem dX10_isBreached_6 : decode cX10_isBreached 6 = .ok (.ishl, 1) := by decide +kernel
theorem dX10_isBreached_7 : decode cX10_isBreached 7 = .ok (.iand, 1) := by decide +kernel
theorem dX10_isBreached_8 : decode cX10_isBreached 8 = .ok (.ifCond .eq 7, 3) := by decide +kernel
theorem dX10_isBreached_11 : decode cX10_isBreached 11 = .ok (.iconst 1, 1) := by decide +kernel
theorem dX10_isBreached_12 : decode cX10_isBreached 12 = .ok (.goto 4, 3) := by decide +kernel
theorem dX10_isBreached_15 : decode cX10_isBreached 15 = .ok (.iconst 0, 1) := by decide +kernel
theorem dX10_isBreached_16 : decode cX10_isBreached 16 = .ok (.ireturn, 1) := by decide +kernel
theorem dX10_isLost_0 : decode cX10_isLost 0 = .ok (.aload_n 0, 1) := by decide +kernel
theorem dX10_isLost_1 : decode cX10_isLost 1 = .ok (.getfield 15, 3) := by decide +kernel
theorem dX10_isLost_4 : decode cX10_isLost 4 = .ok (.iload_n 1, 1) := by decide +kernel
theorem dX10_isLost_5 : decode cX10_isLost 5 = .ok (.iaload, 1) := by decide +kernel
theorem dX10_isLost_6 : decode cX10_isLost 6 = .ok (.iconst 3, 1) := by decide +kernel
theorem dX10_isLost_7 : decode cX10_isLost 7 = .ok (.if_icmp .lt 7, 3) := by decide +kernel
theorem dX10_isLost_10 : decode cX10_isLost 10 = .ok (.iconst 1, 1) := by decide +kernel
theorem dX10_isLost_11 : decode cX10_isLost 11 = .ok (.goto 4, 3) := by decide +kernel
theorem dX10_isLost_14 : decode cX10_isLost 14 = .ok (.iconst 0, 1) := by decide +kernel
theorem dX10_isLost_15 : decode cX10_isLost 15 = .ok (.ireturn, 1) := by decide +kernel
theorem dX10_lost_0 : decode cX10_lost 0 = .ok (.iconst 0, 1) := by decide +kernel
theorem dX10_lost_1 : decode cX10_lost 1 = .ok (.istore_n 1, 1) := by decide +kernel
theorem dX10_lost_2 : decode cX10_lost 2 = .ok (.iconst 0, 1) := by decide +kernel
theorem dX10_lost_3 : decode cX10_lost 3 = .ok (.istore_n 2, 1) := by decide +kernel
theorem dX10_lost_4 : decode cX10_lost 4 = .ok (.iload_n 2, 1) := by decide +kernel
theorem dX10_lost_5 : decode cX10_lost 5 = .ok (.bipush 8, 2) := by decide +kernel
theorem dX10_lost_7 : decode cX10_lost 7 = .ok (.if_icmp .ge 23, 3) := by decide +kernel
theorem dX10_lost_10 : decode cX10_lost 10 = .ok (.aload_n 0, 1) := by decide +kernel
theorem dX10_lost_11 : decode cX10_lost 11 = .ok (.iload_n 2, 1) := by decide +kernel
theorem dX10_lost_12 : decode cX10_lost 12 = .ok (.invokevirtual 34, 3) := by decide +kernel
theorem dX10_lost_15 : decode cX10_lost 15 = .ok (.ifCond .eq 9, 3) := by decide +kernel
theorem dX10_lost_18 : decode cX10_lost 18 = .ok (.iload_n 1, 1) := by decide +kernel
theorem dX10_lost_19 : decode cX10_lost 19 = .ok (.iconst 1, 1) := by decide +kernel
theorem dX10_lost_20 : decode cX10_lost 20 = .ok (.iload_n 2, 1) := by decide +kernel
theorem dX10_lost_21 : decode cX10_lost 21 = .ok (.ishl, 1) := by decide +kernel
theorem dX10_lost_22 : decode cX10_lost 22 = .ok (.ior, 1) := by decide +kernel
theorem dX10_lost_23 : decode cX10_lost 23 = .ok (.istore_n 1, 1) := by decide +kernel
theorem dX10_lost_24 : decode cX10_lost 24 = .ok (.iinc 2 1, 3) := by decide +kernel
theorem dX10_lost_27 : decode cX10_lost 27 = .ok (.goto (-23), 3) := by decide +kernel
theorem dX10_lost_30 : decode cX10_lost 30 = .ok (.iload_n 1, 1) := by decide +kernel
theorem dX10_lost_31 : decode cX10_lost 31 = .ok (.ireturn, 1) := by decide +kernel
theorem dX10_feetOf_0 : decode cX10_feetOf 0 = .ok (.iconst 0, 1) := by decide +kernel
theorem dX10_feetOf_1 : decode cX10_feetOf 1 = .ok (.istore_n 2, 1) := by decide +kernel
theorem dX10_feetOf_2 : decode cX10_feetOf 2 = .ok (.iconst 0, 1) := by decide +kernel
theorem dX10_feetOf_3 : decode cX10_feetOf 3 = .ok (.istore_n 3, 1) := by decide +kernel
theorem dX10_feetOf_4 : decode cX10_feetOf 4 = .ok (.iload_n 3, 1) := by decide +kernel
theorem dX10_feetOf_5 : decode cX10_feetOf 5 = .ok (.bipush 8, 2) := by decide +kernel
theorem dX10_feetOf_7 : decode cX10_feetOf 7 = .ok (.if_icmp .ge 26, 3) := by decide +kernel
theorem dX10_feetOf_10 : decode cX10_feetOf 10 = .ok (.iload_n 1, 1) := by decide +kernel
theorem dX10_feetOf_11 : decode cX10_feetOf 11 = .ok (.iconst 1, 1) := by decide +kernel
theorem dX10_feetOf_12 : decode cX10_feetOf 12 = .ok (.iload_n 3, 1) := by decide +kernel
theorem dX10_feetOf_13 : decode cX10_feetOf 13 = .ok (.ishl, 1) := by decide +kernel
theorem dX10_feetOf_14 : decode cX10_feetOf 14 = .ok (.iand, 1) := by decide +kernel
theorem dX10_feetOf_15 : decode cX10_feetOf 15 = .ok (.ifCond .eq 12, 3) := by decide +kernel
theorem dX10_feetOf_18 : decode cX10_feetOf 18 = .ok (.iload_n 2, 1) := by decide +kernel
theorem dX10_feetOf_19 : decode cX10_feetOf 19 = .ok (.aload_n 0, 1) := by decide +kernel
theorem dX10_feetOf_20 : decode cX10_feetOf 20 = .ok (.getfield 9, 3) := by decide +kernel
theorem dX10_feetOf_23 : decode cX10_feetOf 23 = .ok (.iload_n 3, 1) := by decide +kernel
theorem dX10_feetOf_24 : decode cX10_feetOf 24 = .ok (.iaload, 1) := by decide +kernel
theorem dX10_feetOf_25 : decode cX10_feetOf 25 = .ok (.iadd, 1) := by decide +kernel
theorem dX10_feetOf_26 : decode cX10_feetOf 26 = .ok (.istore_n 2, 1) := by decide +kernel
theorem dX10_feetOf_27 : decode cX10_feetOf 27 = .ok (.iinc 3 1, 3) := by decide +kernel
theorem dX10_feetOf_30 : decode cX10_feetOf 30 = .ok (.goto (-26), 3) := by decide +kernel
theorem dX10_feetOf_33 : decode cX10_feetOf 33 = .ok (.iload_n 2, 1) := by decide +kernel
theorem dX10_feetOf_34 : decode cX10_feetOf 34 = .ok (.ireturn, 1) := by decide +kernel
theorem dX10_flood_0 : decode cX10_flood 0 = .ok (.aload_n 0, 1) := by decide +kernel
theorem dX10_flood_1 : decode cX10_flood 1 = .ok (.getfield 15, 3) := by decide +kernel
theorem dX10_flood_4 : decode cX10_flood 4 = .ok (.iload_n 1, 1) := by decide +kernel
theorem dX10_flood_5 : decode cX10_flood 5 = .ok (.dup2, 1) := by decide +kernel
theorem dX10_flood_6 : decode cX10_flood 6 = .ok (.iaload, 1) := by decide +kernel
theorem dX10_flood_7 : decode cX10_flood 7 = .ok (.iconst 1, 1) := by decide +kernel
theorem dX10_flood_8 : decode cX10_flood 8 = .ok (.iadd, 1) := by decide +kernel
theorem dX10_flood_9 : decode cX10_flood 9 = .ok (.iastore, 1) := by decide +kernel
theorem dX10_flood_10 : decode cX10_flood 10 = .ok (.aload_n 0, 1) := by decide +kernel
theorem dX10_flood_11 : decode cX10_flood 11 = .ok (.getfield 9, 3) := by decide +kernel
theorem dX10_flood_14 : decode cX10_flood 14 = .ok (.iload_n 1, 1) := by decide +kernel
theorem dX10_flood_15 : decode cX10_flood 15 = .ok (.iaload, 1) := by decide +kernel
theorem dX10_flood_16 : decode cX10_flood 16 = .ok (.ifCond .le 13, 3) := by decide +kernel
theorem dX10_flood_19 : decode cX10_flood 19 = .ok (.aload_n 0, 1) := by decide +kernel
theorem dX10_flood_20 : decode cX10_flood 20 = .ok (.getfield 9, 3) := by decide +kernel
theorem dX10_flood_23 : decode cX10_flood 23 = .ok (.iload_n 1, 1) := by decide +kernel
theorem dX10_flood_24 : decode cX10_flood 24 = .ok (.dup2, 1) := by decide +kernel
theorem dX10_flood_25 : decode cX10_flood 25 = .ok (.iaload, 1) := by decide +kernel
theorem dX10_flood_26 : decode cX10_flood 26 = .ok (.iconst 1, 1) := by decide +kernel
theorem dX10_flood_27 : decode cX10_flood 27 = .ok (.isub, 1) := by decide +kernel
theorem dX10_flood_28 : decode cX10_flood 28 = .ok (.iastore, 1) := by decide +kernel
theorem dX10_flood_29 : decode cX10_flood 29 = .ok (.return_, 1) := by decide +kernel
theorem dX11_init_0 : decode cX11_init 0 = .ok (.aload_n 0, 1) := by decide +kernel
theorem dX11_init_1 : decode cX11_init 1 = .ok (.invokespecial 1, 3) := by decide +kernel
theorem dX11_init_4 : decode cX11_init 4 = .ok (.bipush 6, 2) := by decide +kernel
theorem dX11_init_6 : decode cX11_init 6 = .ok (.anewarray 7, 3) := by decide +kernel
theorem dX11_init_9 : decode cX11_init 9 = .ok (.dup, 1) := by decide +kernel
theorem dX11_init_10 : decode cX11_init 10 = .ok (.iconst 0, 1) := by decide +kernel
theorem dX11_init_11 : decode cX11_init 11 = .ok (.new 7, 3) := by decide +kernel
theorem dX11_init_14 : decode cX11_init 14 = .ok (.dup, 1) := by decide +kernel
theorem dX11_init_15 : decode cX11_init 15 = .ok (.invokespecial 9, 3) := by decide +kernel
theorem dX11_init_18 : decode cX11_init 18 = .ok (.aastore, 1) := by decide +kernel
theorem dX11_init_19 : decode cX11_init 19 = .ok (.dup, 1) := by decide +kernel
theorem dX11_init_20 : decode cX11_init 20 = .ok (.iconst 1, 1) := by decide +kernel
theorem dX11_init_21 : decode cX11_init 21 = .ok (.new 10, 3) := by decide +kernel
theorem dX11_init_24 : decode cX11_init 24 = .ok (.dup, 1) := by decide +kernel
theorem dX11_init_25 : decode cX11_init 25 = .ok (.invokespecial 12, 3) := by decide +kernel
theorem dX11_init_28 : decode cX11_init 28 = .ok (.aastore, 1) := by decide +kernel
theorem dX11_init_29 : decode cX11_init 29 = .ok (.dup, 1) := by decide +kernel
theorem dX11_init_30 : decode cX11_init 30 = .ok (.iconst 2, 1) := by decide +kernel
theorem dX11_init_31 : decode cX11_init 31 = .ok (.new 13, 3) := by decide +kernel
theorem dX11_init_34 : decode cX11_init 34 = .ok (.dup, 1) := by decide +kernel
theorem dX11_init_35 : decode cX11_init 35 = .ok (.invokespecial 15, 3) := by decide +kernel
theorem dX11_init_38 : decode cX11_init 38 = .ok (.aastore, 1) := by decide +kernel
theorem dX11_init_39 : decode cX11_init 39 = .ok (.dup, 1) := by decide +kernel
theorem dX11_init_40 : decode cX11_init 40 = .ok (.iconst 3, 1) := by decide +kernel
theorem dX11_init_41 : decode cX11_init 41 = .ok (.new 16, 3) := by decide +kernel
theorem dX11_init_44 : decode cX11_init 44 = .ok (.dup, 1) := by decide +kernel
theorem dX11_init_45 : decode cX11_init 45 = .ok (.invokespecial 18, 3) := by decide +kernel
theorem dX11_init_48 : decode cX11_init 48 = .ok (.aastore, 1) := by decide +kernel
theorem dX11_init_49 : decode cX11_init 49 = .ok (.dup, 1) := by decide +kernel
theorem dX11_init_50 : decode cX11_init 50 = .ok (.iconst 4, 1) := by decide +kernel
theorem dX11_init_51 : decode cX11_init 51 = .ok (.new 19, 3) := by decide +kernel
theorem dX11_init_54 : decode cX11_init 54 = .ok (.dup, 1) := by decide +kernel
theorem dX11_init_55 : decode cX11_init 55 = .ok (.invokespecial 21, 3) := by decide +kernel
theorem dX11_init_58 : decode cX11_init 58 = .ok (.aastore, 1) := by decide +kernel
theorem dX11_init_59 : decode cX11_init 59 = .ok (.dup, 1) := by decide +kernel
theorem dX11_init_60 : decode cX11_init 60 = .ok (.iconst 5, 1) := by decide +kernel
theorem dX11_init_61 : decode cX11_init 61 = .ok (.new 22, 3) := by decide +kernel
theorem dX11_init_64 : decode cX11_init 64 = .ok (.dup, 1) := by decide +kernel
theorem dX11_init_65 : decode cX11_init 65 = .ok (.invokespecial 24, 3) := by decide +kernel
theorem dX11_init_68 : decode cX11_init 68 = .ok (.aastore, 1) := by decide +kernel
theorem dX11_init_69 : decode cX11_init 69 = .ok (.astore_n 1, 1) := by decide +kernel
theorem dX11_init_70 : decode cX11_init 70 = .ok (.aload_n 0, 1) := by decide +kernel
theorem dX11_init_71 : decode cX11_init 71 = .ok (.new 25, 3) := by decide +kernel
theorem dX11_init_74 : decode cX11_init 74 = .ok (.dup, 1) := by decide +kernel
theorem dX11_init_75 : decode cX11_init 75 = .ok (.aload_n 1, 1) := by decide +kernel
theorem dX11_init_76 : decode cX11_init 76 = .ok (.invokespecial 27, 3) := by decide +kernel
theorem dX11_init_79 : decode cX11_init 79 = .ok (.putfield 30, 3) := by decide +kernel
theorem dX11_init_82 : decode cX11_init 82 = .ok (.aload_n 0, 1) := by decide +kernel
theorem dX11_init_83 : decode cX11_init 83 = .ok (.new 25, 3) := by decide +kernel
theorem dX11_init_86 : decode cX11_init 86 = .ok (.dup, 1) := by decide +kernel
theorem dX11_init_87 : decode cX11_init 87 = .ok (.aload_n 1, 1) := by decide +kernel
theorem dX11_init_88 : decode cX11_init 88 = .ok (.invokespecial 27, 3) := by decide +kernel
theorem dX11_init_91 : decode cX11_init 91 = .ok (.putfield 36, 3) := by decide +kernel
theorem dX11_init_94 : decode cX11_init 94 = .ok (.aload_n 0, 1) := by decide +kernel
theorem dX11_init_95 : decode cX11_init 95 = .ok (.iconst 2, 1) := by decide +kernel
theorem dX11_init_96 : decode cX11_init 96 = .ok (.anewarray 25, 3) := by decide +kernel
theorem dX11_init_99 : decode cX11_init 99 = .ok (.putfield 39, 3) := by decide +kernel
theorem dX11_init_102 : decode cX11_init 102 = .ok (.aload_n 0, 1) := by decide +kernel
theorem dX11_init_103 : decode cX11_init 103 = .ok (.new 43, 3) := by decide +kernel
theorem dX11_init_106 : decode cX11_init 106 = .ok (.dup, 1) := by decide +kernel
theorem dX11_init_107 : decode cX11_init 107 = .ok (.invokespecial 45, 3) := by decide +kernel
theorem dX11_init_110 : decode cX11_init 110 = .ok (.putfield 46, 3) := by decide +kernel
theorem dX11_init_113 : decode cX11_init 113 = .ok (.aload_n 0, 1) := by decide +kernel
theorem dX11_init_114 : decode cX11_init 114 = .ok (.bipush 6, 2) := by decide +kernel
theorem dX11_init_116 : decode cX11_init 116 = .ok (.newarray .int, 2) := by decide +kernel
theorem dX11_init_118 : decode cX11_init 118 = .ok (.putfield 50, 3) := by decide +kernel
theorem dX11_init_121 : decode cX11_init 121 = .ok (.return_, 1) := by decide +kernel
theorem dX11_coast_0 : decode cX11_coast 0 = .ok (.aload_n 0, 1) := by decide +kernel
theorem dX11_coast_1 : decode cX11_coast 1 = .ok (.aload_n 0, 1) := by decide +kernel
theorem dX11_coast_2 : decode cX11_coast 2 = .ok (.getfield 30, 3) := by decide +kernel
theorem dX11_coast_5 : decode cX11_coast 5 = .ok (.iload_n 1, 1) := by decide +kernel
theorem dX11_coast_6 : decode cX11_coast 6 = .ok (.invokevirtual 54, 3) := by decide +kernel
theorem dX11_coast_9 : decode cX11_coast 9 = .ok (.invokevirtual 58, 3) := by decide +kernel
theorem dX11_coast_12 : decode cX11_coast 12 = .ok (.ireturn, 1) := by decide +kernel
theorem dX11_cell_0 : decode cX11_cell 0 = .ok (.aload_n 0, 1) := by decide +kernel
theorem dX11_cell_1 : decode cX11_cell 1 = .ok (.aload_n 0, 1) := by decide +kernel
theorem dX11_cell_2 : decode cX11_cell 2 = .ok (.getfield 30, 3) := by decide +kernel
theorem dX11_cell_5 : decode cX11_cell 5 = .ok (.iload_n 1, 1) := by decide +kernel
theorem dX11_cell_6 : decode cX11_cell 6 = .ok (.iload_n 2, 1) := by decide +kernel
theorem dX11_cell_7 : decode cX11_cell 7 = .ok (.iload_n 3, 1) := by decide +kernel
theorem dX11_cell_8 : decode cX11_cell 8 = .ok (.iload 4, 2) := by decide +kernel
theorem dX11_cell_10 : decode cX11_cell 10 = .ok (.invokevirtual 61, 3) := by decide +kernel
theorem dX11_cell_13 : decode cX11_cell 13 = .ok (.invokevirtual 58, 3) := by decide +kernel
theorem dX11_cell_16 : decode cX11_cell 16 = .ok (.ireturn, 1) := by decide +kernel
theorem dX11_dike_0 : decode cX11_dike 0 = .ok (.aload_n 0, 1) := by decide +kernel
theorem dX11_dike_1 : decode cX11_dike 1 = .ok (.aload_n 0, 1) := by decide +kernel
theorem dX11_dike_2 : decode cX11_dike 2 = .ok (.getfield 30, 3) := by decide +kernel
theorem dX11_dike_5 : decode cX11_dike 5 = .ok (.iload_n 1, 1) := by decide +kernel
theorem dX11_dike_6 : decode cX11_dike 6 = .ok (.iload_n 2, 1) := by decide +kernel
theorem dX11_dike_7 : decode cX11_dike 7 = .ok (.invokevirtual 65, 3) := by decide +kernel
theorem dX11_dike_10 : decode cX11_dike 10 = .ok (.invokevirtual 58, 3) := by decide +kernel
theorem dX11_dike_13 : decode cX11_dike 13 = .ok (.ireturn, 1) := by decide +kernel
theorem dX11_want_0 : decode cX11_want 0 = .ok (.aload_n 0, 1) := by decide +kernel
theorem dX11_want_1 : decode cX11_want 1 = .ok (.aload_n 0, 1) := by decide +kernel
theorem dX11_want_2 : decode cX11_want 2 = .ok (.getfield 30, 3) := by decide +kernel
theorem dX11_want_5 : decode cX11_want 5 = .ok (.iload_n 1, 1) := by decide +kernel
theorem dX11_want_6 : decode cX11_want 6 = .ok (.iload_n 2, 1) := by decide +kernel
theorem dX11_want_7 : decode cX11_want 7 = .ok (.invokevirtual 69, 3) := by decide +kernel
theorem dX11_want_10 : decode cX11_want 10 = .ok (.invokevirtual 58, 3) := by decide +kernel
theorem dX11_want_13 : decode cX11_want 13 = .ok (.ireturn, 1) := by decide +kernel
theorem dX11_moon_0 : decode cX11_moon 0 = .ok (.aload_n 0, 1) := by decide +kernel
theorem dX11_moon_1 : decode cX11_moon 1 = .ok (.aload_n 0, 1) := by decide +kernel
theorem dX11_moon_2 : decode cX11_moon 2 = .ok (.getfield 30, 3) := by decide +kernel
theorem dX11_moon_5 : decode cX11_moon 5 = .ok (.iload_n 1, 1) := by decide +kernel
theorem dX11_moon_6 : decode cX11_moon 6 = .ok (.invokevirtual 72, 3) := by decide +kernel
theorem dX11_moon_9 : decode cX11_moon 9 = .ok (.invokevirtual 58, 3) := by decide +kernel
theorem dX11_moon_12 : decode cX11_moon 12 = .ok (.ireturn, 1) := by decide +kernel
theorem dX11_bells_0 : decode cX11_bells 0 = .ok (.iload_n 1, 1) := by decide +kernel
theorem dX11_bells_1 : decode cX11_bells 1 = .ok (.iconst 0, 1) := by decide +kernel
theorem dX11_bells_2 : decode cX11_bells 2 = .ok (.sipush 999, 3) := by decide +kernel
theorem dX11_bells_5 : decode cX11_bells 5 = .ok (.invokestatic 75, 3) := by decide +kernel
theorem dX11_bells_8 : decode cX11_bells 8 = .ok (.ifCond .ne 12, 3) := by decide +kernel
theorem dX11_bells_11 : decode cX11_bells 11 = .ok (.aload_n 0, 1) := by decide +kernel
theorem dX11_bells_12 : decode cX11_bells 12 = .ok (.bipush (-2), 2) := by decide +kernel
theorem dX11_bells_14 : decode cX11_bells 14 = .ok (.bipush (-2), 2) := by decide +kernel
theorem dX11_bells_16 : decode cX11_bells 16 = .ok (.invokevirtual 79, 3) := by decide +kernel
theorem dX11_bells_19 : decode cX11_bells 19 = .ok (.ireturn, 1) := by decide +kernel
theorem dX11_bells_20 : decode cX11_bells 20 = .ok (.aload_n 0, 1) := by decide +kernel
theorem dX11_bells_21 : decode cX11_bells 21 = .ok (.getfield 30, 3) := by decide +kernel
theorem dX11_bells_24 : decode cX11_bells 24 = .ok (.getfield 82, 3) := by decide +kernel
theorem dX11_bells_27 : decode cX11_bells 27 = .ok (.getfield 86, 3) := by decide +kernel
theorem dX11_bells_30 : decode cX11_bells 30 = .ok (.istore_n 2, 1) := by decide +kernel
theorem dX11_bells_31 : decode cX11_bells 31 = .ok (.aload_n 0, 1) := by decide +kernel
theorem dX11_bells_32 : decode cX11_bells 32 = .ok (.getfield 30, 3) := by decide +kernel
theorem dX11_bells_35 : decode cX11_bells 35 = .ok (.getfield 82, 3) := by decide +kernel
theorem dX11_bells_38 : decode cX11_bells 38 = .ok (.iload_n 1, 1) := by decide +kernel
theorem dX11_bells_39 : decode cX11_bells 39 = .ok (.putfield 86, 3) := by decide +kernel
theorem dX11_bells_42 : decode cX11_bells 42 = .ok (.aload_n 0, 1) := by decide +kernel
theorem dX11_bells_43 : decode cX11_bells 43 = .ok (.iload_n 2, 1) := by decide +kernel
theorem dX11_bells_44 : decode cX11_bells 44 = .ok (.invokevirtual 58, 3) := by decide +kernel
theorem dX11_bells_47 : decode cX11_bells 47 = .ok (.ireturn, 1) := by decide +kernel
theorem dX11_treaty_0 : decode cX11_treaty 0 = .ok (.aload_n 0, 1) := by decide +kernel
theorem dX11_treaty_1 : decode cX11_treaty 1 = .ok (.aload_n 0, 1) := by decide +kernel
theorem dX11_treaty_2 : decode cX11_treaty 2 = .ok (.getfield 30, 3) := by decide +kernel
theorem dX11_treaty_5 : decode cX11_treaty 5 = .ok (.iload_n 1, 1) := by decide +kernel
theorem dX11_treaty_6 : decode cX11_treaty 6 = .ok (.iload_n 2, 1) := by decide +kernel
theorem dX11_treaty_7 : decode cX11_treaty 7 = .ok (.iload_n 3, 1) := by decide +kernel
theorem dX11_treaty_8 : decode cX11_treaty 8 = .ok (.iload 4, 2) := by decide +kernel
theorem dX11_treaty_10 : decode cX11_treaty 10 = .ok (.iload 5, 2) := by decide +kernel
theorem dX11_treaty_12 : decode cX11_treaty 12 = .ok (.iload 6, 2) := by decide +kernel
theorem dX11_treaty_14 : decode cX11_treaty 14 = .ok (.invokevirtual 92, 3) := by decide +kernel
theorem dX11_treaty_17 : decode cX11_treaty 17 = .ok (.invokevirtual 58, 3) := by decide +kernel
theorem dX11_treaty_20 : decode cX11_treaty 20 = .ok (.ireturn, 1) := by decide +kernel
theorem dX11_end_0 : decode cX11_end 0 = .ok (.aload_n 0, 1) := by decide +kernel
theorem dX11_end_1 : decode cX11_end 1 = .ok (.iload_n 1, 1) := by decide +kernel
theorem dX11_end_2 : decode cX11_end 2 = .ok (.invokevirtual 96, 3) := by decide +kernel
theorem dX11_end_5 : decode cX11_end 5 = .ok (.ifCond .ne 12, 3) := by decide +kernel
theorem dX11_end_8 : decode cX11_end 8 = .ok (.aload_n 0, 1) := by decide +kernel
theorem dX11_end_9 : decode cX11_end 9 = .ok (.bipush (-2), 2) := by decide +kernel
theorem dX11_end_11 : decode cX11_end 11 = .ok (.bipush (-2), 2) := by decide +kernel
theorem dX11_end_13 : decode cX11_end 13 = .ok (.invokevirtual 79, 3) := by decide +kernel
theorem dX11_end_16 : decode cX11_end 16 = .ok (.ireturn, 1) := by decide +kernel
theorem dX11_end_17 : decode cX11_end 17 = .ok (.aload_n 0, 1) := by decide +kernel
theorem dX11_end_18 : decode cX11_end 18 = .ok (.getfield 30, 3) := by decide +kernel
theorem dX11_end_21 : decode cX11_end 21 = .ok (.getfield 100, 3) := by decide +kernel
theorem dX11_end_24 : decode cX11_end 24 = .ok (.getfield 104, 3) := by decide +kernel
theorem dX11_end_27 : decode cX11_end 27 = .ok (.iload_n 1, 1) := by decide +kernel
theorem dX11_end_28 : decode cX11_end 28 = .ok (.aaload, 1) := by decide +kernel
theorem dX11_end_29 : decode cX11_end 29 = .ok (.astore_n 2, 1) := by decide +kernel
theorem dX11_end_30 : decode cX11_end 30 = .ok (.aload_n 2, 1) := by decide +kernel
theorem dX11_end_31 : decode cX11_end 31 = .ok (.aload_n 0, 1) := by decide +kernel
theorem dX11_end_32 : decode cX11_end 32 = .ok (.getfield 30, 3) := by decide +kernel
theorem dX11_end_35 : decode cX11_end 35 = .ok (.getfield 82, 3) := by decide +kernel
theorem dX11_end_38 : decode cX11_end 38 = .ok (.getfield 110, 3) := by decide +kernel
theorem dX11_end_41 : decode cX11_end 41 = .ok (.invokevirtual 113, 3) := by decide +kernel
theorem dX11_end_44 : decode cX11_end 44 = .ok (.ifCond .ne 12, 3) := by decide +kernel
theorem dX11_end_47 : decode cX11_end 47 = .ok (.aload_n 0, 1) := by decide +kernel
theorem dX11_end_48 : decode cX11_end 48 = .ok (.bipush (-3), 2) := by decide +kernel
theorem dX11_end_50 : decode cX11_end 50 = .ok (.bipush (-3), 2) := by decide +kernel
theorem dX11_end_52 : decode cX11_end 52 = .ok (.invokevirtual 79, 3) := by decide +kernel
theorem dX11_end_55 : decode cX11_end 55 = .ok (.ireturn, 1) := by decide +kernel
theorem dX11_end_56 : decode cX11_end 56 = .ok (.aload_n 2, 1) := by decide +kernel
theorem dX11_end_57 : decode cX11_end 57 = .ok (.aload_n 0, 1) := by decide +kernel
theorem dX11_end_58 : decode cX11_end 58 = .ok (.getfield 30, 3) := by decide +kernel
theorem dX11_end_61 : decode cX11_end 61 = .ok (.getfield 82, 3) := by decide +kernel
theorem dX11_end_64 : decode cX11_end 64 = .ok (.getfield 110, 3) := by decide +kernel
theorem dX11_end_67 : decode cX11_end 67 = .ok (.putfield 118, 3) := by decide +kernel
theorem dX11_end_70 : decode cX11_end 70 = .ok (.aload_n 0, 1) := by decide +kernel
theorem dX11_end_71 : decode cX11_end 71 = .ok (.iconst 1, 1) := by decide +kernel
theorem dX11_end_72 : decode cX11_end 72 = .ok (.invokevirtual 58, 3) := by decide +kernel
theorem dX11_end_75 : decode cX11_end 75 = .ok (.ireturn, 1) := by decide +kernel
theorem dX11_type_0 : decode cX11_type 0 = .ok (.iload_n 1, 1) := by decide +kernel
theorem dX11_type_1 : decode cX11_type 1 = .ok (.iconst 0, 1) := by decide +kernel
theorem dX11_type_2 : decode cX11_type 2 = .ok (.bipush 127, 2) := by decide +kernel
theorem dX11_type_4 : decode cX11_type 4 = .ok (.invokestatic 75, 3) := by decide +kernel
theorem dX11_type_7 : decode cX11_type 7 = .ok (.ifCond .ne 12, 3) := by decide +kernel
theorem dX11_type_10 : decode cX11_type 10 = .ok (.aload_n 0, 1) := by decide +kernel
theorem dX11_type_11 : decode cX11_type 11 = .ok (.bipush (-2), 2) := by decide +kernel
theorem dX11_type_13 : decode cX11_type 13 = .ok (.bipush (-2), 2) := by decide +kernel
theorem dX11_type_15 : decode cX11_type 15 = .ok (.invokevirtual 79, 3) := by decide +kernel
theorem dX11_type_18 : decode cX11_type 18 = .ok (.ireturn, 1) := by decide +kernel
theorem dX11_type_19 : decode cX11_type 19 = .ok (.aload_n 0, 1) := by decide +kernel
theorem dX11_type_20 : decode cX11_type 20 = .ok (.getfield 46, 3) := by decide +kernel
theorem dX11_type_23 : decode cX11_type 23 = .ok (.getfield 121, 3) := by decide +kernel
theorem dX11_type_26 : decode cX11_type 26 = .ok (.sipush 150, 3) := by decide +kernel
theorem dX11_type_29 : decode cX11_type 29 = .ok (.if_icmp .lt 12, 3) := by decide +kernel
theorem dX11_type_32 : decode cX11_type 32 = .ok (.aload_n 0, 1) := by decide +kernel
theorem dX11_type_33 : decode cX11_type 33 = .ok (.bipush (-4), 2) := by decide +kernel
theorem dX11_type_35 : decode cX11_type 35 = .ok (.bipush (-4), 2) := by decide +kernel
theorem dX11_type_37 : decode cX11_type 37 = .ok (.invokevirtual 79, 3) := by decide +kernel
theorem dX11_type_40 : decode cX11_type 40 = .ok (.ireturn, 1) := by decide +kernel
theorem dX11_type_41 : decode cX11_type 41 = .ok (.aload_n 0, 1) := by decide +kernel
theorem dX11_type_42 : decode cX11_type 42 = .ok (.getfield 46, 3) := by decide +kernel
theorem dX11_type_45 : decode cX11_type 45 = .ok (.getfield 124, 3) := by decide +kernel
theorem dX11_type_48 : decode cX11_type 48 = .ok (.aload_n 0, 1) := by decide +kernel
theorem dX11_type_49 : decode cX11_type 49 = .ok (.getfield 46, 3) := by decide +kernel
theorem dX11_type_52 : decode cX11_type 52 = .ok (.getfield 121, 3) := by decide +kernel
theorem dX11_type_55 : decode cX11_type 55 = .ok (.iload_n 1, 1) := by decide +kernel
theorem dX11_type_56 : decode cX11_type 56 = .ok (.iastore, 1) := by decide +kernel
theorem dX11_type_57 : decode cX11_type 57 = .ok (.aload_n 0, 1) := by decide +kernel
theorem dX11_type_58 : decode cX11_type 58 = .ok (.getfield 46, 3) := by decide +kernel
theorem dX11_type_61 : decode cX11_type 61 = .ok (.dup, 1) := by decide +kernel
theorem dX11_type_62 : decode cX11_type 62 = .ok (.getfield 121, 3) := by decide +kernel
theorem dX11_type_65 : decode cX11_type 65 = .ok (.iconst 1, 1) := by decide +kernel
theorem dX11_type_66 : decode cX11_type 66 = .ok (.iadd, 1) := by decide +kernel
theorem dX11_type_67 : decode cX11_type 67 = .ok (.putfield 121, 3) := by decide +kernel
theorem dX11_type_70 : decode cX11_type 70 = .ok (.aload_n 0, 1) := by decide +kernel
theorem dX11_type_71 : decode cX11_type 71 = .ok (.getfield 46, 3) := by decide +kernel
theorem dX11_type_74 : decode cX11_type 74 = .ok (.getfield 121, 3) := by decide +kernel
theorem dX11_type_77 : decode cX11_type 77 = .ok (.ireturn, 1) := by decide +kernel
theorem dX11_clear_0 : decode cX11_clear 0 = .ok (.aload_n 0, 1) := by decide +kernel
theorem dX11_clear_1 : decode cX11_clear 1 = .ok (.getfield 46, 3) := by decide +kernel
theorem dX11_clear_4 : decode cX11_clear 4 = .ok (.getfield 121, 3) := by decide +kernel
theorem dX11_clear_7 : decode cX11_clear 7 = .ok (.istore_n 1, 1) := by decide +kernel
theorem dX11_clear_8 : decode cX11_clear 8 = .ok (.aload_n 0, 1) := by decide +kernel
theorem dX11_clear_9 : decode cX11_clear 9 = .ok (.getfield 46, 3) := by decide +kernel
theorem dX11_clear_12 : decode cX11_clear 12 = .ok (.iconst 0, 1) := by decide +kernel
theorem dX11_clear_13 : decode cX11_clear 13 = .ok (.putfield 121, 3) := by decide +kernel
theorem dX11_clear_16 : decode cX11_clear 16 = .ok (.iload_n 1, 1) := by decide +kernel
theorem dX11_clear_17 : decode cX11_clear 17 = .ok (.ireturn, 1) := by decide +kernel
theorem dX11_read_0 : decode cX11_read 0 = .ok (.aload_n 0, 1) := by decide +kernel
theorem dX11_read_1 : decode cX11_read 1 = .ok (.getfield 46, 3) := by decide +kernel
theorem dX11_read_4 : decode cX11_read 4 = .ok (.invokevirtual 127, 3) := by decide +kernel
theorem dX11_read_7 : decode cX11_read 7 = .ok (.istore_n 1, 1) := by decide +kernel
theorem dX11_read_8 : decode cX11_read 8 = .ok (.iload_n 1, 1) := by decide +kernel
theorem dX11_read_9 : decode cX11_read 9 = .ok (.iconst (-1), 1) := by decide +kernel
theorem dX11_read_10 : decode cX11_read 10 = .ok (.if_icmp .eq 8, 3) := by decide +kernel
theorem dX11_read_13 : decode cX11_read 13 = .ok (.bipush (-10), 2) := by decide +kernel
theorem dX11_read_15 : decode cX11_read 15 = .ok (.iload_n 1, 1) := by decide +kernel
theorem dX11_read_16 : decode cX11_read 16 = .ok (.isub, 1) := by decide +kernel
theorem dX11_read_17 : decode cX11_read 17 = .ok (.ireturn, 1) := by decide +kernel
theorem dX11_read_18 : decode cX11_read 18 = .ok (.iconst 0, 1) := by decide +kernel
theorem dX11_read_19 : decode cX11_read 19 = .ok (.istore_n 2, 1) := by decide +kernel
theorem dX11_read_20 : decode cX11_read 20 = .ok (.iload_n 2, 1) := by decide +kernel
theorem dX11_read_21 : decode cX11_read 21 = .ok (.aload_n 0, 1) := by decide +kernel
theorem dX11_read_22 : decode cX11_read 22 = .ok (.getfield 46, 3) := by decide +kernel
theorem dX11_read_25 : decode cX11_read 25 = .ok (.getfield 131, 3) := by decide +kernel
theorem dX11_read_28 : decode cX11_read 28 = .ok (.if_icmp .ge 30, 3) := by decide +kernel
theorem dX11_read_31 : decode cX11_read 31 = .ok (.aload_n 0, 1) := by decide +kernel
theorem dX11_read_32 : decode cX11_read 32 = .ok (.getfield 46, 3) := by decide +kernel
theorem dX11_read_35 : decode cX11_read 35 = .ok (.aload_n 0, 1) := by decide +kernel
theorem dX11_read_36 : decode cX11_read 36 = .ok (.getfield 36, 3) := by decide +kernel
theorem dX11_read_39 : decode cX11_read 39 = .ok (.iload_n 2, 1) := by decide +kernel
theorem dX11_read_40 : decode cX11_read 40 = .ok (.invokevirtual 134, 3) := by decide +kernel
theorem dX11_read_43 : decode cX11_read 43 = .ok (.ifCond .ge 9, 3) := by decide +kernel
theorem dX11_read_46 : decode cX11_read 46 = .ok (.sipush (-1000), 3) := by decide +kernel
theorem dX11_read_49 : decode cX11_read 49 = .ok (.iload_n 2, 1) := by decide +kernel
theorem dX11_read_50 : decode cX11_read 50 = .ok (.isub, 1) := by decide +kernel
theorem dX11_read_51 : decode cX11_read 51 = .ok (.ireturn, 1) := by decide +kernel
theorem dX11_read_52 : decode cX11_read 52 = .ok (.iinc 2 1, 3) := by decide +kernel
theorem dX11_read_55 : decode cX11_read 55 = .ok (.goto (-35), 3) := by decide +kernel
theorem dX11_read_58 : decode cX11_read 58 = .ok (.aload_n 0, 1) := by decide +kernel
theorem dX11_read_59 : decode cX11_read 59 = .ok (.getfield 30, 3) := by decide +kernel
theorem dX11_read_62 : decode cX11_read 62 = .ok (.getfield 100, 3) := by decide +kernel
theorem dX11_read_65 : decode cX11_read 65 = .ok (.aload_n 0, 1) := by decide +kernel
theorem dX11_read_66 : decode cX11_read 66 = .ok (.getfield 36, 3) := by decide +kernel
theorem dX11_read_69 : decode cX11_read 69 = .ok (.getfield 100, 3) := by decide +kernel
theorem dX11_read_72 : decode cX11_read 72 = .ok (.invokevirtual 138, 3) := by decide +kernel
theorem dX11_read_75 : decode cX11_read 75 = .ok (.aload_n 0, 1) := by decide +kernel
theorem dX11_read_76 : decode cX11_read 76 = .ok (.getfield 30, 3) := by decide +kernel
theorem dX11_read_79 : decode cX11_read 79 = .ok (.getfield 82, 3) := by decide +kernel
theorem dX11_read_82 : decode cX11_read 82 = .ok (.aload_n 0, 1) := by decide +kernel
theorem dX11_read_83 : decode cX11_read 83 = .ok (.getfield 36, 3) := by decide +kernel
theorem dX11_read_86 : decode cX11_read 86 = .ok (.getfield 82, 3) := by decide +kernel
theorem dX11_read_89 : decode cX11_read 89 = .ok (.invokevirtual 142, 3) := by decide +kernel
theorem dX11_read_92 : decode cX11_read 92 = .ok (.aload_n 0, 1) := by decide +kernel
theorem dX11_read_93 : decode cX11_read 93 = .ok (.aload_n 0, 1) := by decide +kernel
theorem dX11_read_94 : decode cX11_read 94 = .ok (.getfield 46, 3) := by decide +kernel
theorem dX11_read_97 : decode cX11_read 97 = .ok (.getfield 131, 3) := by decide +kernel
theorem dX11_read_100 : decode cX11_read 100 = .ok (.invokevirtual 58, 3) := by decide +kernel
theorem dX11_read_103 : decode cX11_read 103 = .ok (.ireturn, 1) := by decide +kernel
theorem dX11_year_0 : decode cX11_year 0 = .ok (.iload_n 1, 1) := by decide +kernel
theorem dX11_year_1 : decode cX11_year 1 = .ok (.iconst 1, 1) := by decide +kernel
theorem dX11_year_2 : decode cX11_year 2 = .ok (.bipush 9, 2) := by decide +kernel
theorem dX11_year_4 : decode cX11_year 4 = .ok (.invokestatic 75, 3) := by decide +kernel
theorem dX11_year_7 : decode cX11_year 7 = .ok (.ifCond .ne 12, 3) := by decide +kernel
theorem dX11_year_10 : decode cX11_year 10 = .ok (.aload_n 0, 1) := by decide +kernel
theorem dX11_year_11 : decode cX11_year 11 = .ok (.bipush (-2), 2) := by decide +kernel
theorem dX11_year_13 : decode cX11_year 13 = .ok (.bipush (-2), 2) := by decide +kernel
theorem dX11_year_15 : decode cX11_year 15 = .ok (.invokevirtual 79, 3) := by decide +kernel
theorem dX11_year_18 : decode cX11_year 18 = .ok (.ireturn, 1) := by decide +kernel
theorem dX11_year_19 : decode cX11_year 19 = .ok (.aload_n 0, 1) := by decide +kernel
theorem dX11_year_20 : decode cX11_year 20 = .ok (.getfield 30, 3) := by decide +kernel
theorem dX11_year_23 : decode cX11_year 23 = .ok (.getfield 82, 3) := by decide +kernel
theorem dX11_year_26 : decode cX11_year 26 = .ok (.getfield 110, 3) := by decide +kernel
theorem dX11_year_29 : decode cX11_year 29 = .ok (.sipush 900, 3) := by decide +kernel
theorem dX11_year_32 : decode cX11_year 32 = .ok (.if_icmp .le 12, 3) := by decide +kernel
theorem dX11_year_35 : decode cX11_year 35 = .ok (.aload_n 0, 1) := by decide +kernel
theorem dX11_year_36 : decode cX11_year 36 = .ok (.bipush (-3), 2) := by decide +kernel
theorem dX11_year_38 : decode cX11_year 38 = .ok (.bipush (-3), 2) := by decide +kernel
theorem dX11_year_40 : decode cX11_year 40 = .ok (.invokevirtual 79, 3) := by decide +kernel
theorem dX11_year_43 : decode cX11_year 43 = .ok (.ireturn, 1) := by decide +kernel
theorem dX11_year_44 : decode cX11_year 44 = .ok (.iconst 0, 1) := by decide +kernel
theorem dX11_year_45 : decode cX11_year 45 = .ok (.istore_n 2, 1) := by decide +kernel
theorem dX11_year_46 : decode cX11_year 46 = .ok (.iload_n 2, 1) := by decide +kernel
theorem dX11_year_47 : decode cX11_year 47 = .ok (.iload_n 1, 1) := by decide +kernel
theorem dX11_year_48 : decode cX11_year 48 = .ok (.if_icmp .ge 54, 3) := by decide +kernel
theorem dX11_year_51 : decode cX11_year 51 = .ok (.aload_n 0, 1) := by decide +kernel
theorem dX11_year_52 : decode cX11_year 52 = .ok (.getfield 30, 3) := by decide +kernel
theorem dX11_year_55 : decode cX11_year 55 = .ok (.invokevirtual 145, 3) := by decide +kernel
theorem dX11_year_58 : decode cX11_year 58 = .ok (.aload_n 0, 1) := by decide +kernel
theorem dX11_year_59 : decode cX11_year 59 = .ok (.getfield 30, 3) := by decide +kernel
theorem dX11_year_62 : decode cX11_year 62 = .ok (.getfield 100, 3) := by decide +kernel
theorem dX11_year_65 : decode cX11_year 65 = .ok (.aload_n 0, 1) := by decide +kernel
theorem dX11_year_66 : decode cX11_year 66 = .ok (.getfield 30, 3) := by decide +kernel
theorem dX11_year_69 : decode cX11_year 69 = .ok (.getfield 82, 3) := by decide +kernel
theorem dX11_year_72 : decode cX11_year 72 = .ok (.aload_n 0, 1) := by decide +kernel
theorem dX11_year_73 : decode cX11_year 73 = .ok (.getfield 30, 3) := by decide +kernel
theorem dX11_year_76 : decode cX11_year 76 = .ok (.getfield 100, 3) := by decide +kernel
theorem dX11_year_79 : decode cX11_year 79 = .ok (.aload_n 0, 1) := by decide +kernel
theorem dX11_year_80 : decode cX11_year 80 = .ok (.getfield 30, 3) := by decide +kernel
theorem dX11_year_83 : decode cX11_year 83 = .ok (.getfield 82, 3) := by decide +kernel
theorem dX11_year_86 : decode cX11_year 86 = .ok (.getfield 110, 3) := by decide +kernel
theorem dX11_year_89 : decode cX11_year 89 = .ok (.invokevirtual 148, 3) := by decide +kernel
theorem dX11_year_92 : decode cX11_year 92 = .ok (.invokevirtual 151, 3) := by decide +kernel
theorem dX11_year_95 : decode cX11_year 95 = .ok (.pop, 1) := by decide +kernel
theorem dX11_year_96 : decode cX11_year 96 = .ok (.iinc 2 1, 3) := by decide +kernel
theorem dX11_year_99 : decode cX11_year 99 = .ok (.goto (-53), 3) := by decide +kernel
theorem dX11_year_102 : decode cX11_year 102 = .ok (.aload_n 0, 1) := by decide +kernel
theorem dX11_year_103 : decode cX11_year 103 = .ok (.getfield 30, 3) := by decide +kernel
theorem dX11_year_106 : decode cX11_year 106 = .ok (.getfield 82, 3) := by decide +kernel
theorem dX11_year_109 : decode cX11_year 109 = .ok (.getfield 86, 3) := by decide +kernel
theorem dX11_year_112 : decode cX11_year 112 = .ok (.ireturn, 1) := by decide +kernel
theorem dX11_undo_0 : decode cX11_undo 0 = .ok (.aload_n 0, 1) := by decide +kernel
theorem dX11_undo_1 : decode cX11_undo 1 = .ok (.getfield 30, 3) := by decide +kernel
theorem dX11_undo_4 : decode cX11_undo 4 = .ok (.invokevirtual 155, 3) := by decide +kernel
theorem dX11_undo_7 : decode cX11_undo 7 = .ok (.ifCond .eq 7, 3) := by decide +kernel
theorem dX11_undo_10 : decode cX11_undo 10 = .ok (.iconst 1, 1) := by decide +kernel
theorem dX11_undo_11 : decode cX11_undo 11 = .ok (.goto 11, 3) := by decide +kernel
theorem dX11_undo_14 : decode cX11_undo 14 = .ok (.aload_n 0, 1) := by decide +kernel
theorem dX11_undo_15 : decode cX11_undo 15 = .ok (.bipush (-3), 2) := by decide +kernel
theorem dX11_undo_17 : decode cX11_undo 17 = .ok (.bipush (-3), 2) := by decide +kernel
theorem dX11_undo_19 : decode cX11_undo 19 = .ok (.invokevirtual 79, 3) := by decide +kernel
theorem dX11_undo_22 : decode cX11_undo 22 = .ok (.ireturn, 1) := by decide +kernel
theorem dX11_of_0 : decode cX11_of 0 = .ok (.aload_n 0, 1) := by decide +kernel
theorem dX11_of_1 : decode cX11_of 1 = .ok (.iload_n 1, 1) := by decide +kernel
theorem dX11_of_2 : decode cX11_of 2 = .ok (.invokevirtual 159, 3) := by decide +kernel
theorem dX11_of_5 : decode cX11_of 5 = .ok (.ifCond .ne 12, 3) := by decide +kernel
theorem dX11_of_8 : decode cX11_of 8 = .ok (.aload_n 0, 1) := by decide +kernel
theorem dX11_of_9 : decode cX11_of 9 = .ok (.bipush (-2), 2) := by decide +kernel
theorem dX11_of_11 : decode cX11_of 11 = .ok (.bipush (-2), 2) := by decide +kernel
theorem dX11_of_13 : decode cX11_of 13 = .ok (.invokevirtual 79, 3) := by decide +kernel
theorem dX11_of_16 : decode cX11_of 16 = .ok (.ireturn, 1) := by decide +kernel
theorem dX11_of_17 : decode cX11_of 17 = .ok (.iload_n 2, 1) := by decide +kernel
theorem dX11_of_18 : decode cX11_of 18 = .ok (.tableswitch 123 0 5 #[38, 51, 64, 77, 90, 103], 38) := by decide +kernel
theorem dX11_of_56 : decode cX11_of 56 = .ok (.aload_n 0, 1) := by decide +kernel
theorem dX11_of_57 : decode cX11_of 57 = .ok (.getfield 30, 3) := by decide +kernel
theorem dX11_of_60 : decode cX11_of 60 = .ok (.getfield 100, 3) := by decide +kernel
theorem dX11_of_63 : decode cX11_of 63 = .ok (.getfield 162, 3) := by decide +kernel
theorem dX11_of_66 : decode cX11_of 66 = .ok (.iload_n 1, 1) := by decide +kernel
theorem dX11_of_67 : decode cX11_of 67 = .ok (.iaload, 1) := by decide +kernel
theorem dX11_of_68 : decode cX11_of 68 = .ok (.ireturn, 1) := by decide +kernel
theorem dX11_of_69 : decode cX11_of 69 = .ok (.aload_n 0, 1) := by decide +kernel
theorem dX11_of_70 : decode cX11_of 70 = .ok (.getfield 30, 3) := by decide +kernel
theorem dX11_of_73 : decode cX11_of 73 = .ok (.getfield 100, 3) := by decide +kernel
theorem dX11_of_76 : decode cX11_of 76 = .ok (.getfield 165, 3) := by decide +kernel
theorem dX11_of_79 : decode cX11_of 79 = .ok (.iload_n 1, 1) := by decide +kernel
theorem dX11_of_80 : decode cX11_of 80 = .ok (.iaload, 1) := by decide +kernel
theorem dX11_of_81 : decode cX11_of 81 = .ok (.ireturn, 1) := by decide +kernel
theorem dX11_of_82 : decode cX11_of 82 = .ok (.aload_n 0, 1) := by decide +kernel
theorem dX11_of_83 : decode cX11_of 83 = .ok (.getfield 30, 3) := by decide +kernel
theorem dX11_of_86 : decode cX11_of 86 = .ok (.getfield 100, 3) := by decide +kernel
theorem dX11_of_89 : decode cX11_of 89 = .ok (.getfield 168, 3) := by decide +kernel
theorem dX11_of_92 : decode cX11_of 92 = .ok (.iload_n 1, 1) := by decide +kernel
theorem dX11_of_93 : decode cX11_of 93 = .ok (.iaload, 1) := by decide +kernel
theorem dX11_of_94 : decode cX11_of 94 = .ok (.ireturn, 1) := by decide +kernel
theorem dX11_of_95 : decode cX11_of 95 = .ok (.aload_n 0, 1) := by decide +kernel
theorem dX11_of_96 : decode cX11_of 96 = .ok (.getfield 30, 3) := by decide +kernel
theorem dX11_of_99 : decode cX11_of 99 = .ok (.getfield 82, 3) := by decide +kernel
theorem dX11_of_102 : decode cX11_of 102 = .ok (.getfield 171, 3) := by decide +kernel
theorem dX11_of_105 : decode cX11_of 105 = .ok (.iload_n 1, 1) := by decide +kernel
theorem dX11_of_106 : decode cX11_of 106 = .ok (.iaload, 1) := by decide +kernel
theorem dX11_of_107 : decode cX11_of 107 = .ok (.ireturn, 1) := by decide +kernel
theorem dX11_of_108 : decode cX11_of 108 = .ok (.aload_n 0, 1) := by decide +kernel
theorem dX11_of_109 : decode cX11_of 109 = .ok (.getfield 30, 3) := by decide +kernel
theorem dX11_of_112 : decode cX11_of 112 = .ok (.getfield 82, 3) := by decide +kernel
theorem dX11_of_115 : decode cX11_of 115 = .ok (.getfield 174, 3) := by decide +kernel
theorem dX11_of_118 : decode cX11_of 118 = .ok (.iload_n 1, 1) := by decide +kernel
theorem dX11_of_119 : decode cX11_of 119 = .ok (.iaload, 1) := by decide +kernel
theorem dX11_of_120 : decode cX11_of 120 = .ok (.ireturn, 1) := by decide +kernel
theorem dX11_of_121 : decode cX11_of 121 = .ok (.aload_n 0, 1) := by decide +kernel
theorem dX11_of_122 : decode cX11_of 122 = .ok (.getfield 30, 3) := by decide +kernel
theorem dX11_of_125 : decode cX11_of 125 = .ok (.getfield 82, 3) := by decide +kernel
theorem dX11_of_128 : decode cX11_of 128 = .ok (.iload_n 1, 1) := by decide +kernel
theorem dX11_of_129 : decode cX11_of 129 = .ok (.invokevirtual 177, 3) := by decide +kernel
theorem dX11_of_132 : decode cX11_of 132 = .ok (.ifCond .eq 7, 3) := by decide +kernel
theorem dX11_of_135 : decode cX11_of 135 = .ok (.iconst 1, 1) := by decide +kernel
theorem dX11_of_136 : decode cX11_of 136 = .ok (.goto 4, 3) := by decide +kernel
theorem dX11_of_139 : decode cX11_of 139 = .ok (.iconst 0, 1) := by decide +kernel
theorem dX11_of_140 : decode cX11_of 140 = .ok (.ireturn, 1) := by decide +kernel
theorem dX11_of_141 : decode cX11_of 141 = .ok (.aload_n 0, 1) := by decide +kernel
theorem dX11_of_142 : decode cX11_of 142 = .ok (.bipush (-2), 2) := by decide +kernel
theorem dX11_of_144 : decode cX11_of 144 = .ok (.bipush (-2), 2) := by decide +kernel
theorem dX11_of_146 : decode cX11_of 146 = .ok (.invokevirtual 79, 3) := by decide +kernel
theorem dX11_of_149 : decode cX11_of 149 = .ok (.ireturn, 1) := by decide +kernel
theorem dX11_about_0 : decode cX11_about 0 = .ok (.aload_n 0, 1) := by decide +kernel
theorem dX11_about_1 : decode cX11_about 1 = .ok (.iload_n 1, 1) := by decide +kernel
theorem dX11_about_2 : decode cX11_about 2 = .ok (.invokevirtual 96, 3) := by decide +kernel
theorem dX11_about_5 : decode cX11_about 5 = .ok (.ifCond .ne 12, 3) := by decide +kernel
theorem dX11_about_8 : decode cX11_about 8 = .ok (.aload_n 0, 1) := by decide +kernel
theorem dX11_about_9 : decode cX11_about 9 = .ok (.bipush (-2), 2) := by decide +kernel
theorem dX11_about_11 : decode cX11_about 11 = .ok (.bipush (-2), 2) := by decide +kernel
theorem dX11_about_13 : decode cX11_about 13 = .ok (.invokevirtual 79, 3) := by decide +kernel
theorem dX11_about_16 : decode cX11_about 16 = .ok (.ireturn, 1) := by decide +kernel
theorem dX11_about_17 : decode cX11_about 17 = .ok (.aload_n 0, 1) := by decide +kernel
theorem dX11_about_18 : decode cX11_about 18 = .ok (.getfield 30, 3) := by decide +kernel
theorem dX11_about_21 : decode cX11_about 21 = .ok (.getfield 100, 3) := by decide +kernel
theorem dX11_about_24 : decode cX11_about 24 = .ok (.getfield 104, 3) := by decide +kernel
theorem dX11_about_27 : decode cX11_about 27 = .ok (.iload_n 1, 1) := by decide +kernel
theorem dX11_about_28 : decode cX11_about 28 = .ok (.aaload, 1) := by decide +kernel
theorem dX11_about_29 : decode cX11_about 29 = .ok (.astore_n 3, 1) := by decide +kernel
theorem dX11_about_30 : decode cX11_about 30 = .ok (.iload_n 2, 1) := by decide +kernel
theorem dX11_about_31 : decode cX11_about 31 = .ok (.tableswitch 96 0 4 #[33, 38, 43, 71, 91], 33) := by decide +kernel
theorem dX11_about_64 : decode cX11_about 64 = .ok (.aload_n 3, 1) := by decide +kernel
theorem dX11_about_65 : decode cX11_about 65 = .ok (.getfield 180, 3) := by decide +kernel
theorem dX11_about_68 : decode cX11_about 68 = .ok (.ireturn, 1) := by decide +kernel
theorem dX11_about_69 : decode cX11_about 69 = .ok (.aload_n 3, 1) := by decide +kernel
theorem dX11_about_70 : decode cX11_about 70 = .ok (.getfield 183, 3) := by decide +kernel
theorem dX11_about_73 : decode cX11_about 73 = .ok (.ireturn, 1) := by decide +kernel
theorem dX11_about_74 : decode cX11_about 74 = .ok (.aload_n 3, 1) := by decide +kernel
theorem dX11_about_75 : decode cX11_about 75 = .ok (.getfield 186, 3) := by decide +kernel
theorem dX11_about_78 : decode cX11_about 78 = .ok (.aload_n 0, 1) := by decide +kernel
theorem dX11_about_79 : decode cX11_about 79 = .ok (.getfield 30, 3) := by decide +kernel
theorem dX11_about_82 : decode cX11_about 82 = .ok (.getfield 100, 3) := by decide +kernel
theorem dX11_about_85 : decode cX11_about 85 = .ok (.aload_n 0, 1) := by decide +kernel
theorem dX11_about_86 : decode cX11_about 86 = .ok (.getfield 30, 3) := by decide +kernel
theorem dX11_about_89 : decode cX11_about 89 = .ok (.getfield 82, 3) := by decide +kernel
theorem dX11_about_92 : decode cX11_about 92 = .ok (.getfield 110, 3) := by decide +kernel
theorem dX11_about_95 : decode cX11_about 95 = .ok (.invokevirtual 190, 3) := by decide +kernel
theorem dX11_about_98 : decode cX11_about 98 = .ok (.invokevirtual 193, 3) := by decide +kernel
theorem dX11_about_101 : decode cX11_about 101 = .ok (.ireturn, 1) := by decide +kernel
theorem dX11_about_102 : decode cX11_about 102 = .ok (.aload_n 0, 1) := by decide +kernel
theorem dX11_about_103 : decode cX11_about 103 = .ok (.getfield 30, 3) := by decide +kernel
theorem dX11_about_106 : decode cX11_about 106 = .ok (.getfield 82, 3) := by decide +kernel
theorem dX11_about_109 : decode cX11_about 109 = .ok (.iload_n 1, 1) := by decide +kernel
theorem dX11_about_110 : decode cX11_about 110 = .ok (.invokevirtual 197, 3) := by decide +kernel
theorem dX11_about_113 : decode cX11_about 113 = .ok (.ifCond .eq 7, 3) := by decide +kernel
theorem dX11_about_116 : decode cX11_about 116 = .ok (.iconst 1, 1) := by decide +kernel
theorem dX11_about_117 : decode cX11_about 117 = .ok (.goto 4, 3) := by decide +kernel
theorem dX11_about_120 : decode cX11_about 120 = .ok (.iconst 0, 1) := by decide +kernel
theorem dX11_about_121 : decode cX11_about 121 = .ok (.ireturn, 1) := by decide +kernel
theorem dX11_about_122 : decode cX11_about 122 = .ok (.aload_n 3, 1) := by decide +kernel
theorem dX11_about_123 : decode cX11_about 123 = .ok (.getfield 118, 3) := by decide +kernel
theorem dX11_about_126 : decode cX11_about 126 = .ok (.ireturn, 1) := by decide +kernel
theorem dX11_about_127 : decode cX11_about 127 = .ok (.aload_n 0, 1) := by decide +kernel
theorem dX11_about_128 : decode cX11_about 128 = .ok (.bipush (-2), 2) := by decide +kernel
theorem dX11_about_130 : decode cX11_about 130 = .ok (.bipush (-2), 2) := by decide +kernel
theorem dX11_about_132 : decode cX11_about 132 = .ok (.invokevirtual 79, 3) := by decide +kernel
theorem dX11_about_135 : decode cX11_about 135 = .ok (.ireturn, 1) := by decide +kernel
theorem dX11_storm_0 : decode cX11_storm 0 = .ok (.iload_n 1, 1) := by decide +kernel
theorem dX11_storm_1 : decode cX11_storm 1 = .ok (.iconst 0, 1) := by decide +kernel
theorem dX11_storm_2 : decode cX11_storm 2 = .ok (.sipush 999, 3) := by decide +kernel
theorem dX11_storm_5 : decode cX11_storm 5 = .ok (.invokestatic 75, 3) := by decide +kernel
theorem dX11_storm_8 : decode cX11_storm 8 = .ok (.ifCond .eq 17, 3) := by decide +kernel
theorem dX11_storm_11 : decode cX11_storm 11 = .ok (.aload_n 0, 1) := by decide +kernel
theorem dX11_storm_12 : decode cX11_storm 12 = .ok (.getfield 30, 3) := by decide +kernel
theorem dX11_storm_15 : decode cX11_storm 15 = .ok (.getfield 100, 3) := by decide +kernel
theorem dX11_storm_18 : decode cX11_storm 18 = .ok (.iload_n 1, 1) := by decide +kernel
theorem dX11_storm_19 : decode cX11_storm 19 = .ok (.invokevirtual 148, 3) := by decide +kernel
theorem dX11_storm_22 : decode cX11_storm 22 = .ok (.goto 11, 3) := by decide +kernel
theorem dX11_storm_25 : decode cX11_storm 25 = .ok (.aload_n 0, 1) := by decide +kernel
theorem dX11_storm_26 : decode cX11_storm 26 = .ok (.bipush (-2), 2) := by decide +kernel
theorem dX11_storm_28 : decode cX11_storm 28 = .ok (.bipush (-2), 2) := by decide +kernel
theorem dX11_storm_30 : decode cX11_storm 30 = .ok (.invokevirtual 79, 3) := by decide +kernel
theorem dX11_storm_33 : decode cX11_storm 33 = .ok (.ireturn, 1) := by decide +kernel
theorem dX11_guarded_0 : decode cX11_guarded 0 = .ok (.aload_n 0, 1) := by decide +kernel
theorem dX11_guarded_1 : decode cX11_guarded 1 = .ok (.getfield 30, 3) := by decide +kernel
theorem dX11_guarded_4 : decode cX11_guarded 4 = .ok (.getfield 100, 3) := by decide +kernel
theorem dX11_guarded_7 : decode cX11_guarded 7 = .ok (.aload_n 0, 1) := by decide +kernel
theorem dX11_guarded_8 : decode cX11_guarded 8 = .ok (.getfield 30, 3) := by decide +kernel
theorem dX11_guarded_11 : decode cX11_guarded 11 = .ok (.getfield 82, 3) := by decide +kernel
theorem dX11_guarded_14 : decode cX11_guarded 14 = .ok (.aload_n 0, 1) := by decide +kernel
theorem dX11_guarded_15 : decode cX11_guarded 15 = .ok (.getfield 30, 3) := by decide +kernel
theorem dX11_guarded_18 : decode cX11_guarded 18 = .ok (.getfield 100, 3) := by decide +kernel
theorem dX11_guarded_21 : decode cX11_guarded 21 = .ok (.aload_n 0, 1) := by decide +kernel
theorem dX11_guarded_22 : decode cX11_guarded 22 = .ok (.getfield 30, 3) := by decide +kernel
theorem dX11_guarded_25 : decode cX11_guarded 25 = .ok (.getfield 82, 3) := by decide +kernel
theorem dX11_guarded_28 : decode cX11_guarded 28 = .ok (.getfield 110, 3) := by decide +kernel
theorem dX11_guarded_31 : decode cX11_guarded 31 = .ok (.invokevirtual 148, 3) := by decide +kernel
theorem dX11_guarded_34 : decode cX11_guarded 34 = .ok (.invokevirtual 200, 3) := by decide +kernel
theorem dX11_guarded_37 : decode cX11_guarded 37 = .ok (.ireturn, 1) := by decide +kernel
theorem dX11_wet_0 : decode cX11_wet 0 = .ok (.aload_n 0, 1) := by decide +kernel
theorem dX11_wet_1 : decode cX11_wet 1 = .ok (.iconst 0, 1) := by decide +kernel
theorem dX11_wet_2 : decode cX11_wet 2 = .ok (.invokevirtual 203, 3) := by decide +kernel
theorem dX11_wet_5 : decode cX11_wet 5 = .ok (.ireturn, 1) := by decide +kernel
theorem dX11_then_0 : decode cX11_then 0 = .ok (.iload_n 1, 1) := by decide +kernel
theorem dX11_then_1 : decode cX11_then 1 = .ok (.iconst 0, 1) := by decide +kernel
theorem dX11_then_2 : decode cX11_then 2 = .ok (.bipush 30, 2) := by decide +kernel
theorem dX11_then_4 : decode cX11_then 4 = .ok (.invokestatic 75, 3) := by decide +kernel
theorem dX11_then_7 : decode cX11_then 7 = .ok (.ifCond .eq 12, 3) := by decide +kernel
theorem dX11_then_10 : decode cX11_then 10 = .ok (.iload_n 2, 1) := by decide +kernel
theorem dX11_then_11 : decode cX11_then 11 = .ok (.iconst 0, 1) := by decide +kernel
theorem dX11_then_12 : decode cX11_then 12 = .ok (.iconst 4, 1) := by decide +kernel
theorem dX11_then_13 : decode cX11_then 13 = .ok (.invokestatic 75, 3) := by decide +kernel
theorem dX11_then_16 : decode cX11_then 16 = .ok (.ifCond .ne 12, 3) := by decide +kernel
theorem dX11_then_19 : decode cX11_then 19 = .ok (.aload_n 0, 1) := by decide +kernel
theorem dX11_then_20 : decode cX11_then 20 = .ok (.bipush (-2), 2) := by decide +kernel
theorem dX11_then_22 : decode cX11_then 22 = .ok (.bipush (-2), 2) := by decide +kernel
theorem dX11_then_24 : decode cX11_then 24 = .ok (.invokevirtual 79, 3) := by decide +kernel
theorem dX11_then_27 : decode cX11_then 27 = .ok (.ireturn, 1) := by decide +kernel
theorem dX11_then_28 : decode cX11_then 28 = .ok (.aload_n 0, 1) := by decide +kernel
theorem dX11_then_29 : decode cX11_then 29 = .ok (.getfield 36, 3) := by decide +kernel
theorem dX11_then_32 : decode cX11_then 32 = .ok (.getfield 82, 3) := by decide +kernel
theorem dX11_then_35 : decode cX11_then 35 = .ok (.aload_n 0, 1) := by decide +kernel
theorem dX11_then_36 : decode cX11_then 36 = .ok (.getfield 30, 3) := by decide +kernel
theorem dX11_then_39 : decode cX11_then 39 = .ok (.getfield 82, 3) := by decide +kernel
theorem dX11_then_42 : decode cX11_then 42 = .ok (.invokevirtual 142, 3) := by decide +kernel
theorem dX11_then_45 : decode cX11_then 45 = .ok (.iconst 0, 1) := by decide +kernel
theorem dX11_then_46 : decode cX11_then 46 = .ok (.istore_n 3, 1) := by decide +kernel
theorem dX11_then_47 : decode cX11_then 47 = .ok (.iconst 0, 1) := by decide +kernel
theorem dX11_then_48 : decode cX11_then 48 = .ok (.istore 4, 2) := by decide +kernel
theorem dX11_then_50 : decode cX11_then 50 = .ok (.iload 4, 2) := by decide +kernel
theorem dX11_then_52 : decode cX11_then 52 = .ok (.iload_n 1, 1) := by decide +kernel
theorem dX11_then_53 : decode cX11_then 53 = .ok (.if_icmp .ge 21, 3) := by decide +kernel
theorem dX11_then_56 : decode cX11_then 56 = .ok (.aload_n 0, 1) := by decide +kernel
theorem dX11_then_57 : decode cX11_then 57 = .ok (.aload_n 0, 1) := by decide +kernel
theorem dX11_then_58 : decode cX11_then 58 = .ok (.getfield 30, 3) := by decide +kernel
theorem dX11_then_61 : decode cX11_then 61 = .ok (.getfield 100, 3) := by decide +kernel
theorem dX11_then_64 : decode cX11_then 64 = .ok (.invokevirtual 206, 3) := by decide +kernel
theorem dX11_then_67 : decode cX11_then 67 = .ok (.istore_n 3, 1) := by decide +kernel
theorem dX11_then_68 : decode cX11_then 68 = .ok (.iinc 4 1, 3) := by decide +kernel
theorem dX11_then_71 : decode cX11_then 71 = .ok (.goto (-21), 3) := by decide +kernel
theorem dX11_then_74 : decode cX11_then 74 = .ok (.aload_n 0, 1) := by decide +kernel
theorem dX11_then_75 : decode cX11_then 75 = .ok (.iload_n 3, 1) := by decide +kernel
theorem dX11_then_76 : decode cX11_then 76 = .ok (.iload_n 2, 1) := by decide +kernel
theorem dX11_then_77 : decode cX11_then 77 = .ok (.invokevirtual 210, 3) := by decide +kernel
theorem dX11_then_80 : decode cX11_then 80 = .ok (.ireturn, 1) := by decide +kernel
theorem dX11_firstLost_0 : decode cX11_firstLost 0 = .ok (.aload_n 0, 1) := by decide +kernel
theorem dX11_firstLost_1 : decode cX11_firstLost 1 = .ok (.getfield 30, 3) := by decide +kernel
theorem dX11_firstLost_4 : decode cX11_firstLost 4 = .ok (.getfield 82, 3) := by decide +kernel
theorem dX11_firstLost_7 : decode cX11_firstLost 7 = .ok (.invokevirtual 213, 3) := by decide +kernel
theorem dX11_firstLost_10 : decode cX11_firstLost 10 = .ok (.ifCond .eq 14, 3) := by decide +kernel
theorem dX11_firstLost_13 : decode cX11_firstLost 13 = .ok (.aload_n 0, 1) := by decide +kernel
theorem dX11_firstLost_14 : decode cX11_firstLost 14 = .ok (.getfield 30, 3) := by decide +kernel
theorem dX11_firstLost_17 : decode cX11_firstLost 17 = .ok (.getfield 82, 3) := by decide +kernel
theorem dX11_firstLost_20 : decode cX11_firstLost 20 = .ok (.getfield 110, 3) := by decide +kernel
theorem dX11_firstLost_23 : decode cX11_firstLost 23 = .ok (.ireturn, 1) := by decide +kernel
theorem dX11_firstLost_24 : decode cX11_firstLost 24 = .ok (.aload_n 0, 1) := by decide +kernel
theorem dX11_firstLost_25 : decode cX11_firstLost 25 = .ok (.getfield 36, 3) := by decide +kernel
theorem dX11_firstLost_28 : decode cX11_firstLost 28 = .ok (.getfield 82, 3) := by decide +kernel
theorem dX11_firstLost_31 : decode cX11_firstLost 31 = .ok (.aload_n 0, 1) := by decide +kernel
theorem dX11_firstLost_32 : decode cX11_firstLost 32 = .ok (.getfield 30, 3) := by decide +kernel
theorem dX11_firstLost_35 : decode cX11_firstLost 35 = .ok (.getfield 82, 3) := by decide +kernel
theorem dX11_firstLost_38 : decode cX11_firstLost 38 = .ok (.invokevirtual 142, 3) := by decide +kernel
theorem dX11_firstLost_41 : decode cX11_firstLost 41 = .ok (.iconst 0, 1) := by decide +kernel
theorem dX11_firstLost_42 : decode cX11_firstLost 42 = .ok (.istore_n 1, 1) := by decide +kernel
theorem dX11_firstLost_43 : decode cX11_firstLost 43 = .ok (.iload_n 1, 1) := by decide +kernel
theorem dX11_firstLost_44 : decode cX11_firstLost 44 = .ok (.bipush 30, 2) := by decide +kernel
theorem dX11_firstLost_46 : decode cX11_firstLost 46 = .ok (.if_icmp .ge 47, 3) := by decide +kernel
theorem dX11_firstLost_49 : decode cX11_firstLost 49 = .ok (.aload_n 0, 1) := by decide +kernel
theorem dX11_firstLost_50 : decode cX11_firstLost 50 = .ok (.getfield 36, 3) := by decide +kernel
theorem dX11_firstLost_53 : decode cX11_firstLost 53 = .ok (.getfield 82, 3) := by decide +kernel
theorem dX11_firstLost_56 : decode cX11_firstLost 56 = .ok (.getfield 110, 3) := by decide +kernel
theorem dX11_firstLost_59 : decode cX11_firstLost 59 = .ok (.istore_n 2, 1) := by decide +kernel
theorem dX11_firstLost_60 : decode cX11_firstLost 60 = .ok (.aload_n 0, 1) := by decide +kernel
theorem dX11_firstLost_61 : decode cX11_firstLost 61 = .ok (.aload_n 0, 1) := by decide +kernel
theorem dX11_firstLost_62 : decode cX11_firstLost 62 = .ok (.getfield 30, 3) := by decide +kernel
theorem dX11_firstLost_65 : decode cX11_firstLost 65 = .ok (.getfield 100, 3) := by decide +kernel
theorem dX11_firstLost_68 : decode cX11_firstLost 68 = .ok (.invokevirtual 206, 3) := by decide +kernel
theorem dX11_firstLost_71 : decode cX11_firstLost 71 = .ok (.pop, 1) := by decide +kernel
theorem dX11_firstLost_72 : decode cX11_firstLost 72 = .ok (.aload_n 0, 1) := by decide +kernel
theorem dX11_firstLost_73 : decode cX11_firstLost 73 = .ok (.getfield 36, 3) := by decide +kernel
theorem dX11_firstLost_76 : decode cX11_firstLost 76 = .ok (.getfield 82, 3) := by decide +kernel
theorem dX11_firstLost_79 : decode cX11_firstLost 79 = .ok (.invokevirtual 213, 3) := by decide +kernel
theorem dX11_firstLost_82 : decode cX11_firstLost 82 = .ok (.ifCond .eq 5, 3) := by decide +kernel
theorem dX11_firstLost_85 : decode cX11_firstLost 85 = .ok (.iload_n 2, 1) := by decide +kernel
theorem dX11_firstLost_86 : decode cX11_firstLost 86 = .ok (.ireturn, 1) := by decide +kernel
theorem dX11_firstLost_87 : decode cX11_firstLost 87 = .ok (.iinc 1 1, 3) := by decide +kernel
theorem dX11_firstLost_90 : decode cX11_firstLost 90 = .ok (.goto (-47), 3) := by decide +kernel
theorem dX11_firstLost_93 : decode cX11_firstLost 93 = .ok (.iconst (-1), 1) := by decide +kernel
theorem dX11_firstLost_94 : decode cX11_firstLost 94 = .ok (.ireturn, 1) := by decide +kernel
theorem dX11_offer_0 : decode cX11_offer 0 = .ok (.aload_n 0, 1) := by decide +kernel
theorem dX11_offer_1 : decode cX11_offer 1 = .ok (.iload_n 1, 1) := by decide +kernel
theorem dX11_offer_2 : decode cX11_offer 2 = .ok (.invokevirtual 159, 3) := by decide +kernel
theorem dX11_offer_5 : decode cX11_offer 5 = .ok (.ifCond .eq 36, 3) := by decide +kernel
theorem dX11_offer_8 : decode cX11_offer 8 = .ok (.aload_n 0, 1) := by decide +kernel
theorem dX11_offer_9 : decode cX11_offer 9 = .ok (.iload_n 2, 1) := by decide +kernel
theorem dX11_offer_10 : decode cX11_offer 10 = .ok (.invokevirtual 159, 3) := by decide +kernel
theorem dX11_offer_13 : decode cX11_offer 13 = .ok (.ifCond .eq 28, 3) := by decide +kernel
theorem dX11_offer_16 : decode cX11_offer 16 = .ok (.iload_n 1, 1) := by decide +kernel
theorem dX11_offer_17 : decode cX11_offer 17 = .ok (.iload_n 2, 1) := by decide +kernel
theorem dX11_offer_18 : decode cX11_offer 18 = .ok (.if_icmp .gt 23, 3) := by decide +kernel
theorem dX11_offer_21 : decode cX11_offer 21 = .ok (.iload_n 3, 1) := by decide +kernel
theorem dX11_offer_22 : decode cX11_offer 22 = .ok (.iconst 1, 1) := by decide +kernel
theorem dX11_offer_23 : decode cX11_offer 23 = .ok (.bipush 12, 2) := by decide +kernel
theorem dX11_offer_25 : decode cX11_offer 25 = .ok (.invokestatic 75, 3) := by decide +kernel
theorem dX11_offer_28 : decode cX11_offer 28 = .ok (.ifCond .eq 13, 3) := by decide +kernel
theorem dX11_offer_31 : decode cX11_offer 31 = .ok (.iload 4, 2) := by decide +kernel
theorem dX11_offer_33 : decode cX11_offer 33 = .ok (.iconst 0, 1) := by decide +kernel
theorem dX11_offer_34 : decode cX11_offer 34 = .ok (.iconst 1, 1) := by decide +kernel
theorem dX11_offer_35 : decode cX11_offer 35 = .ok (.invokestatic 75, 3) := by decide +kernel
theorem dX11_offer_38 : decode cX11_offer 38 = .ok (.ifCond .ne 13, 3) := by decide +kernel
theorem dX11_offer_41 : decode cX11_offer 41 = .ok (.aload_n 0, 1) := by decide +kernel
theorem dX11_offer_42 : decode cX11_offer 42 = .ok (.bipush (-2), 2) := by decide +kernel
theorem dX11_offer_44 : decode cX11_offer 44 = .ok (.sipush (-1000), 3) := by decide +kernel
theorem dX11_offer_47 : decode cX11_offer 47 = .ok (.invokevirtual 79, 3) := by decide +kernel
theorem dX11_offer_50 : decode cX11_offer 50 = .ok (.ireturn, 1) := by decide +kernel
theorem dX11_offer_51 : decode cX11_offer 51 = .ok (.aload_n 0, 1) := by decide +kernel
theorem dX11_offer_52 : decode cX11_offer 52 = .ok (.getfield 30, 3) := by decide +kernel
theorem dX11_offer_55 : decode cX11_offer 55 = .ok (.getfield 100, 3) := by decide +kernel
theorem dX11_offer_58 : decode cX11_offer 58 = .ok (.getfield 216, 3) := by decide +kernel
theorem dX11_offer_61 : decode cX11_offer 61 = .ok (.bipush 6, 2) := by decide +kernel
theorem dX11_offer_63 : decode cX11_offer 63 = .ok (.if_icmp .lt 13, 3) := by decide +kernel
theorem dX11_offer_66 : decode cX11_offer 66 = .ok (.aload_n 0, 1) := by decide +kernel
theorem dX11_offer_67 : decode cX11_offer 67 = .ok (.bipush (-3), 2) := by decide +kernel
theorem dX11_offer_69 : decode cX11_offer 69 = .ok (.sipush (-2000), 3) := by decide +kernel
theorem dX11_offer_72 : decode cX11_offer 72 = .ok (.invokevirtual 79, 3) := by decide +kernel
theorem dX11_offer_75 : decode cX11_offer 75 = .ok (.ireturn, 1) := by decide +kernel
theorem dX11_offer_76 : decode cX11_offer 76 = .ok (.aload_n 0, 1) := by decide +kernel
theorem dX11_offer_77 : decode cX11_offer 77 = .ok (.getfield 36, 3) := by decide +kernel
theorem dX11_offer_80 : decode cX11_offer 80 = .ok (.getfield 100, 3) := by decide +kernel
theorem dX11_offer_83 : decode cX11_offer 83 = .ok (.aload_n 0, 1) := by decide +kernel
theorem dX11_offer_84 : decode cX11_offer 84 = .ok (.getfield 30, 3) := by decide +kernel
theorem dX11_offer_87 : decode cX11_offer 87 = .ok (.getfield 100, 3) := by decide +kernel
theorem dX11_offer_90 : decode cX11_offer 90 = .ok (.invokevirtual 138, 3) := by decide +kernel
theorem dX11_offer_93 : decode cX11_offer 93 = .ok (.bipush 20, 2) := by decide +kernel
theorem dX11_offer_95 : decode cX11_offer 95 = .ok (.istore 5, 2) := by decide +kernel
theorem dX11_offer_97 : decode cX11_offer 97 = .ok (.aload_n 0, 1) := by decide +kernel
theorem dX11_offer_98 : decode cX11_offer 98 = .ok (.iload_n 1, 1) := by decide +kernel
theorem dX11_offer_99 : decode cX11_offer 99 = .ok (.iload_n 2, 1) := by decide +kernel
theorem dX11_offer_100 : decode cX11_offer 100 = .ok (.iload_n 3, 1) := by decide +kernel
theorem dX11_offer_101 : decode cX11_offer 101 = .ok (.iload 5, 2) := by decide +kernel
theorem dX11_offer_103 : decode cX11_offer 103 = .ok (.invokevirtual 219, 3) := by decide +kernel
theorem dX11_offer_106 : decode cX11_offer 106 = .ok (.ifCond .ne 14, 3) := by decide +kernel
theorem dX11_offer_109 : decode cX11_offer 109 = .ok (.iload 5, 2) := by decide +kernel
theorem dX11_offer_111 : decode cX11_offer 111 = .ok (.ifCond .le 9, 3) := by decide +kernel
theorem dX11_offer_114 : decode cX11_offer 114 = .ok (.iinc 5 (-1), 3) := by decide +kernel
theorem dX11_offer_117 : decode cX11_offer 117 = .ok (.goto (-20), 3) := by decide +kernel
theorem dX11_offer_120 : decode cX11_offer 120 = .ok (.iload 4, 2) := by decide +kernel
theorem dX11_offer_122 : decode cX11_offer 122 = .ok (.ifCond .ne 8, 3) := by decide +kernel
theorem dX11_offer_125 : decode cX11_offer 125 = .ok (.iload 5, 2) := by decide +kernel
theorem dX11_offer_127 : decode cX11_offer 127 = .ok (.goto 28, 3) := by decide +kernel
theorem dX11_offer_130 : decode cX11_offer 130 = .ok (.aload_n 0, 1) := by decide +kernel
theorem dX11_offer_131 : decode cX11_offer 131 = .ok (.aload_n 0, 1) := by decide +kernel
theorem dX11_offer_132 : decode cX11_offer 132 = .ok (.getfield 30, 3) := by decide +kernel
theorem dX11_offer_135 : decode cX11_offer 135 = .ok (.getfield 100, 3) := by decide +kernel
theorem dX11_offer_138 : decode cX11_offer 138 = .ok (.iload_n 3, 1) := by decide +kernel
theorem dX11_offer_139 : decode cX11_offer 139 = .ok (.invokevirtual 223, 3) := by decide +kernel
theorem dX11_offer_142 : decode cX11_offer 142 = .ok (.aload_n 0, 1) := by decide +kernel
theorem dX11_offer_143 : decode cX11_offer 143 = .ok (.aload_n 0, 1) := by decide +kernel
theorem dX11_offer_144 : decode cX11_offer 144 = .ok (.getfield 36, 3) := by decide +kernel
theorem dX11_offer_147 : decode cX11_offer 147 = .ok (.getfield 100, 3) := by decide +kernel
theorem dX11_offer_150 : decode cX11_offer 150 = .ok (.iload_n 3, 1) := by decide +kernel
theorem dX11_offer_151 : decode cX11_offer 151 = .ok (.invokevirtual 223, 3) := by decide +kernel
theorem dX11_offer_154 : decode cX11_offer 154 = .ok (.isub, 1) := by decide +kernel
theorem dX11_offer_155 : decode cX11_offer 155 = .ok (.ireturn, 1) := by decide +kernel
theorem dX11_cheapest_0 : decode cX11_cheapest 0 = .ok (.aload_n 0, 1) := by decide +kernel
theorem dX11_cheapest_1 : decode cX11_cheapest 1 = .ok (.iload_n 1, 1) := by decide +kernel
theorem dX11_cheapest_2 : decode cX11_cheapest 2 = .ok (.invokevirtual 227, 3) := by decide +kernel
theorem dX11_cheapest_5 : decode cX11_cheapest 5 = .ok (.ifCond .eq 22, 3) := by decide +kernel
theorem dX11_cheapest_8 : decode cX11_cheapest 8 = .ok (.iload_n 2, 1) := by decide +kernel
theorem dX11_cheapest_9 : decode cX11_cheapest 9 = .ok (.iconst 1, 1) := by decide +kernel
theorem dX11_cheapest_10 : decode cX11_cheapest 10 = .ok (.bipush 12, 2) := by decide +kernel
theorem dX11_cheapest_12 : decode cX11_cheapest 12 = .ok (.invokestatic 75, 3) := by decide +kernel
theorem dX11_cheapest_15 : decode cX11_cheapest 15 = .ok (.ifCond .eq 12, 3) := by decide +kernel
theorem dX11_cheapest_18 : decode cX11_cheapest 18 = .ok (.iload_n 3, 1) := by decide +kernel
theorem dX11_cheapest_19 : decode cX11_cheapest 19 = .ok (.iconst 0, 1) := by decide +kernel
theorem dX11_cheapest_20 : decode cX11_cheapest 20 = .ok (.iconst 1, 1) := by decide +kernel
theorem dX11_cheapest_21 : decode cX11_cheapest 21 = .ok (.invokestatic 75, 3) := by decide +kernel
theorem dX11_cheapest_24 : decode cX11_cheapest 24 = .ok (.ifCond .ne 12, 3) := by decide +kernel
theorem dX11_cheapest_27 : decode cX11_cheapest 27 = .ok (.aload_n 0, 1) := by decide +kernel
theorem dX11_cheapest_28 : decode cX11_cheapest 28 = .ok (.bipush (-2), 2) := by decide +kernel
theorem dX11_cheapest_30 : decode cX11_cheapest 30 = .ok (.bipush (-10), 2) := by decide +kernel
theorem dX11_cheapest_32 : decode cX11_cheapest 32 = .ok (.invokevirtual 79, 3) := by decide +kernel
theorem dX11_cheapest_35 : decode cX11_cheapest 35 = .ok (.ireturn, 1) := by decide +kernel
theorem dX11_cheapest_36 : decode cX11_cheapest 36 = .ok (.iconst 0, 1) := by decide +kernel
theorem dX11_cheapest_37 : decode cX11_cheapest 37 = .ok (.istore 4, 2) := by decide +kernel
theorem dX11_cheapest_39 : decode cX11_cheapest 39 = .ok (.iload 4, 2) := by decide +kernel
theorem dX11_cheapest_41 : decode cX11_cheapest 41 = .ok (.bipush 9, 2) := by decide +kernel
theorem dX11_cheapest_43 : decode cX11_cheapest 43 = .ok (.if_icmp .gt 58, 3) := by decide +kernel
theorem dX11_cheapest_46 : decode cX11_cheapest 46 = .ok (.iconst 0, 1) := by decide +kernel
theorem dX11_cheapest_47 : decode cX11_cheapest 47 = .ok (.istore 5, 2) := by decide +kernel
theorem dX11_cheapest_49 : decode cX11_cheapest 49 = .ok (.iload 5, 2) := by decide +kernel
theorem dX11_cheapest_51 : decode cX11_cheapest 51 = .ok (.aload_n 0, 1) := by decide +kernel
theorem dX11_cheapest_52 : decode cX11_cheapest 52 = .ok (.getfield 30, 3) := by decide +kernel
theorem dX11_cheapest_55 : decode cX11_cheapest 55 = .ok (.getfield 100, 3) := by decide +kernel
theorem dX11_cheapest_58 : decode cX11_cheapest 58 = .ok (.getfield 230, 3) := by decide +kernel
theorem dX11_cheapest_61 : decode cX11_cheapest 61 = .ok (.if_icmp .ge 34, 3) := by decide +kernel
theorem dX11_cheapest_64 : decode cX11_cheapest 64 = .ok (.aload_n 0, 1) := by decide +kernel
theorem dX11_cheapest_65 : decode cX11_cheapest 65 = .ok (.iload_n 1, 1) := by decide +kernel
theorem dX11_cheapest_66 : decode cX11_cheapest 66 = .ok (.iload_n 2, 1) := by decide +kernel
theorem dX11_cheapest_67 : decode cX11_cheapest 67 = .ok (.iload 5, 2) := by decide +kernel
theorem dX11_cheapest_69 : decode cX11_cheapest 69 = .ok (.iload 4, 2) := by decide +kernel
theorem dX11_cheapest_71 : decode cX11_cheapest 71 = .ok (.invokevirtual 233, 3) := by decide +kernel
theorem dX11_cheapest_74 : decode cX11_cheapest 74 = .ok (.ifCond .eq 15, 3) := by decide +kernel
theorem dX11_cheapest_77 : decode cX11_cheapest 77 = .ok (.iload_n 3, 1) := by decide +kernel
theorem dX11_cheapest_78 : decode cX11_cheapest 78 = .ok (.ifCond .ne 8, 3) := by decide +kernel
theorem dX11_cheapest_81 : decode cX11_cheapest 81 = .ok (.iload 4, 2) := by decide +kernel
theorem dX11_cheapest_83 : decode cX11_cheapest 83 = .ok (.goto 5, 3) := by decide +kernel
theorem dX11_cheapest_86 : decode cX11_cheapest 86 = .ok (.iload 5, 2) := by decide +kernel
theorem dX11_cheapest_88 : decode cX11_cheapest 88 = .ok (.ireturn, 1) := by decide +kernel
theorem dX11_cheapest_89 : decode cX11_cheapest 89 = .ok (.iinc 5 1, 3) := by decide +kernel
theorem dX11_cheapest_92 : decode cX11_cheapest 92 = .ok (.goto (-43), 3) := by decide +kernel
theorem dX11_cheapest_95 : decode cX11_cheapest 95 = .ok (.iinc 4 1, 3) := by decide +kernel
theorem dX11_cheapest_98 : decode cX11_cheapest 98 = .ok (.goto (-59), 3) := by decide +kernel
theorem dX11_cheapest_101 : decode cX11_cheapest 101 = .ok (.iconst (-1), 1) := by decide +kernel
theorem dX11_cheapest_102 : decode cX11_cheapest 102 = .ok (.ireturn, 1) := by decide +kernel
theorem dX11_clashes_0 : decode cX11_clashes 0 = .ok (.iload_n 1, 1) := by decide +kernel
theorem dX11_clashes_1 : decode cX11_clashes 1 = .ok (.iconst (-1), 1) := by decide +kernel
theorem dX11_clashes_2 : decode cX11_clashes 2 = .ok (.if_icmp .ge 12, 3) := by decide +kernel
theorem dX11_clashes_5 : decode cX11_clashes 5 = .ok (.aload_n 0, 1) := by decide +kernel
theorem dX11_clashes_6 : decode cX11_clashes 6 = .ok (.bipush (-2), 2) := by decide +kernel
theorem dX11_clashes_8 : decode cX11_clashes 8 = .ok (.bipush (-10), 2) := by decide +kernel
theorem dX11_clashes_10 : decode cX11_clashes 10 = .ok (.invokevirtual 79, 3) := by decide +kernel
theorem dX11_clashes_13 : decode cX11_clashes 13 = .ok (.ireturn, 1) := by decide +kernel
theorem dX11_clashes_14 : decode cX11_clashes 14 = .ok (.iconst 0, 1) := by decide +kernel
theorem dX11_clashes_15 : decode cX11_clashes 15 = .ok (.istore_n 2, 1) := by decide +kernel
theorem dX11_clashes_16 : decode cX11_clashes 16 = .ok (.iconst 0, 1) := by decide +kernel
theorem dX11_clashes_17 : decode cX11_clashes 17 = .ok (.istore_n 3, 1) := by decide +kernel
theorem dX11_clashes_18 : decode cX11_clashes 18 = .ok (.iload_n 3, 1) := by decide +kernel
theorem dX11_clashes_19 : decode cX11_clashes 19 = .ok (.aload_n 0, 1) := by decide +kernel
theorem dX11_clashes_20 : decode cX11_clashes 20 = .ok (.getfield 30, 3) := by decide +kernel
theorem dX11_clashes_23 : decode cX11_clashes 23 = .ok (.getfield 100, 3) := by decide +kernel
theorem dX11_clashes_26 : decode cX11_clashes 26 = .ok (.getfield 216, 3) := by decide +kernel
theorem dX11_clashes_29 : decode cX11_clashes 29 = .ok (.if_icmp .ge 64, 3) := by decide +kernel
theorem dX11_clashes_32 : decode cX11_clashes 32 = .ok (.iload_n 3, 1) := by decide +kernel
theorem dX11_clashes_33 : decode cX11_clashes 33 = .ok (.iconst 1, 1) := by decide +kernel
theorem dX11_clashes_34 : decode cX11_clashes 34 = .ok (.iadd, 1) := by decide +kernel
theorem dX11_clashes_35 : decode cX11_clashes 35 = .ok (.istore 4, 2) := by decide +kernel
theorem dX11_clashes_37 : decode cX11_clashes 37 = .ok (.iload 4, 2) := by decide +kernel
theorem dX11_clashes_39 : decode cX11_clashes 39 = .ok (.aload_n 0, 1) := by decide +kernel
theorem dX11_clashes_40 : decode cX11_clashes 40 = .ok (.getfield 30, 3) := by decide +kernel
theorem dX11_clashes_43 : decode cX11_clashes 43 = .ok (.getfield 100, 3) := by decide +kernel
theorem dX11_clashes_46 : decode cX11_clashes 46 = .ok (.getfield 216, 3) := by decide +kernel
theorem dX11_clashes_49 : decode cX11_clashes 49 = .ok (.if_icmp .ge 38, 3) := by decide +kernel
theorem dX11_clashes_52 : decode cX11_clashes 52 = .ok (.aload_n 0, 1) := by decide +kernel
theorem dX11_clashes_53 : decode cX11_clashes 53 = .ok (.iload_n 3, 1) := by decide +kernel
theorem dX11_clashes_54 : decode cX11_clashes 54 = .ok (.iload 4, 2) := by decide +kernel
theorem dX11_clashes_56 : decode cX11_clashes 56 = .ok (.invokevirtual 236, 3) := by decide +kernel
theorem dX11_clashes_59 : decode cX11_clashes 59 = .ok (.ifCond .ne 6, 3) := by decide +kernel
theorem dX11_clashes_62 : decode cX11_clashes 62 = .ok (.goto 19, 3) := by decide +kernel
theorem dX11_clashes_65 : decode cX11_clashes 65 = .ok (.iload_n 2, 1) := by decide +kernel
theorem dX11_clashes_66 : decode cX11_clashes 66 = .ok (.iload_n 1, 1) := by decide +kernel
theorem dX11_clashes_67 : decode cX11_clashes 67 = .ok (.if_icmp .ne 11, 3) := by decide +kernel
theorem dX11_clashes_70 : decode cX11_clashes 70 = .ok (.bipush 10, 2) := by decide +kernel
theorem dX11_clashes_72 : decode cX11_clashes 72 = .ok (.iload_n 3, 1) := by decide +kernel
theorem dX11_clashes_73 : decode cX11_clashes 73 = .ok (.imul, 1) := by decide +kernel
theorem dX11_clashes_74 : decode cX11_clashes 74 = .ok (.iload 4, 2) := by decide +kernel
theorem dX11_clashes_76 : decode cX11_clashes 76 = .ok (.iadd, 1) := by decide +kernel
theorem dX11_clashes_77 : decode cX11_clashes 77 = .ok (.ireturn, 1) := by decide +kernel
theorem dX11_clashes_78 : decode cX11_clashes 78 = .ok (.iinc 2 1, 3) := by decide +kernel
theorem dX11_clashes_81 : decode cX11_clashes 81 = .ok (.iinc 4 1, 3) := by decide +kernel
theorem dX11_clashes_84 : decode cX11_clashes 84 = .ok (.goto (-47), 3) := by decide +kernel
theorem dX11_clashes_87 : decode cX11_clashes 87 = .ok (.iinc 3 1, 3) := by decide +kernel
theorem dX11_clashes_90 : decode cX11_clashes 90 = .ok (.goto (-72), 3) := by decide +kernel
theorem dX11_clashes_93 : decode cX11_clashes 93 = .ok (.iload_n 1, 1) := by decide +kernel
theorem dX11_clashes_94 : decode cX11_clashes 94 = .ok (.iconst (-1), 1) := by decide +kernel
theorem dX11_clashes_95 : decode cX11_clashes 95 = .ok (.if_icmp .ne 7, 3) := by decide +kernel
theorem dX11_clashes_98 : decode cX11_clashes 98 = .ok (.iload_n 2, 1) := by decide +kernel
theorem dX11_clashes_99 : decode cX11_clashes 99 = .ok (.goto 5, 3) := by decide +kernel
theorem dX11_clashes_102 : decode cX11_clashes 102 = .ok (.bipush (-5), 2) := by decide +kernel
theorem dX11_clashes_104 : decode cX11_clashes 104 = .ok (.ireturn, 1) := by decide +kernel
theorem dX11_mend_0 : decode cX11_mend 0 = .ok (.iconst 0, 1) := by decide +kernel
theorem dX11_mend_1 : decode cX11_mend 1 = .ok (.istore_n 1, 1) := by decide +kernel
theorem dX11_mend_2 : decode cX11_mend 2 = .ok (.iconst 0, 1) := by decide +kernel
theorem dX11_mend_3 : decode cX11_mend 3 = .ok (.istore_n 2, 1) := by decide +kernel
theorem dX11_mend_4 : decode cX11_mend 4 = .ok (.iload_n 2, 1) := by decide +kernel
theorem dX11_mend_5 : decode cX11_mend 5 = .ok (.aload_n 0, 1) := by decide +kernel
theorem dX11_mend_6 : decode cX11_mend 6 = .ok (.getfield 30, 3) := by decide +kernel
theorem dX11_mend_9 : decode cX11_mend 9 = .ok (.getfield 100, 3) := by decide +kernel
theorem dX11_mend_12 : decode cX11_mend 12 = .ok (.getfield 216, 3) := by decide +kernel
theorem dX11_mend_15 : decode cX11_mend 15 = .ok (.if_icmp .ge 45, 3) := by decide +kernel
theorem dX11_mend_18 : decode cX11_mend 18 = .ok (.aload_n 0, 1) := by decide +kernel
theorem dX11_mend_19 : decode cX11_mend 19 = .ok (.getfield 50, 3) := by decide +kernel
theorem dX11_mend_22 : decode cX11_mend 22 = .ok (.iload_n 2, 1) := by decide +kernel
theorem dX11_mend_23 : decode cX11_mend 23 = .ok (.aload_n 0, 1) := by decide +kernel
theorem dX11_mend_24 : decode cX11_mend 24 = .ok (.iload_n 2, 1) := by decide +kernel
theorem dX11_mend_25 : decode cX11_mend 25 = .ok (.invokevirtual 240, 3) := by decide +kernel
theorem dX11_mend_28 : decode cX11_mend 28 = .ok (.iastore, 1) := by decide +kernel
theorem dX11_mend_29 : decode cX11_mend 29 = .ok (.iload_n 1, 1) := by decide +kernel
theorem dX11_mend_30 : decode cX11_mend 30 = .ok (.aload_n 0, 1) := by decide +kernel
theorem dX11_mend_31 : decode cX11_mend 31 = .ok (.getfield 30, 3) := by decide +kernel
theorem dX11_mend_34 : decode cX11_mend 34 = .ok (.getfield 100, 3) := by decide +kernel
theorem dX11_mend_37 : decode cX11_mend 37 = .ok (.getfield 104, 3) := by decide +kernel
theorem dX11_mend_40 : decode cX11_mend 40 = .ok (.iload_n 2, 1) := by decide +kernel
theorem dX11_mend_41 : decode cX11_mend 41 = .ok (.aaload, 1) := by decide +kernel
theorem dX11_mend_42 : decode cX11_mend 42 = .ok (.getfield 118, 3) := by decide +kernel
theorem dX11_mend_45 : decode cX11_mend 45 = .ok (.aload_n 0, 1) := by decide +kernel
theorem dX11_mend_46 : decode cX11_mend 46 = .ok (.getfield 50, 3) := by decide +kernel
theorem dX11_mend_49 : decode cX11_mend 49 = .ok (.iload_n 2, 1) := by decide +kernel
theorem dX11_mend_50 : decode cX11_mend 50 = .ok (.iaload, 1) := by decide +kernel
theorem dX11_mend_51 : decode cX11_mend 51 = .ok (.isub, 1) := by decide +kernel
theorem dX11_mend_52 : decode cX11_mend 52 = .ok (.iadd, 1) := by decide +kernel
theorem dX11_mend_53 : decode cX11_mend 53 = .ok (.istore_n 1, 1) := by decide +kernel
theorem dX11_mend_54 : decode cX11_mend 54 = .ok (.iinc 2 1, 3) := by decide +kernel
theorem dX11_mend_57 : decode cX11_mend 57 = .ok (.goto (-53), 3) := by decide +kernel
theorem dX11_mend_60 : decode cX11_mend 60 = .ok (.iload_n 1, 1) := by decide +kernel
theorem dX11_mend_61 : decode cX11_mend 61 = .ok (.ireturn, 1) := by decide +kernel
theorem dX11_letsIn_0 : decode cX11_letsIn 0 = .ok (.iload_n 1, 1) := by decide +kernel
theorem dX11_letsIn_1 : decode cX11_letsIn 1 = .ok (.invokestatic 243, 3) := by decide +kernel
theorem dX11_letsIn_4 : decode cX11_letsIn 4 = .ok (.ifCond .eq 12, 3) := by decide +kernel
theorem dX11_letsIn_7 : decode cX11_letsIn 7 = .ok (.iload_n 2, 1) := by decide +kernel
theorem dX11_letsIn_8 : decode cX11_letsIn 8 = .ok (.iconst 0, 1) := by decide +kernel
theorem dX11_letsIn_9 : decode cX11_letsIn 9 = .ok (.iconst 1, 1) := by decide +kernel
theorem dX11_letsIn_10 : decode cX11_letsIn 10 = .ok (.invokestatic 75, 3) := by decide +kernel
theorem dX11_letsIn_13 : decode cX11_letsIn 13 = .ok (.ifCond .ne 12, 3) := by decide +kernel
theorem dX11_letsIn_16 : decode cX11_letsIn 16 = .ok (.aload_n 0, 1) := by decide +kernel
theorem dX11_letsIn_17 : decode cX11_letsIn 17 = .ok (.bipush (-2), 2) := by decide +kernel
theorem dX11_letsIn_19 : decode cX11_letsIn 19 = .ok (.bipush (-2), 2) := by decide +kernel
theorem dX11_letsIn_21 : decode cX11_letsIn 21 = .ok (.invokevirtual 79, 3) := by decide +kernel
theorem dX11_letsIn_24 : decode cX11_letsIn 24 = .ok (.ireturn, 1) := by decide +kernel
theorem dX11_letsIn_25 : decode cX11_letsIn 25 = .ok (.aload_n 0, 1) := by decide +kernel
theorem dX11_letsIn_26 : decode cX11_letsIn 26 = .ok (.getfield 30, 3) := by decide +kernel
theorem dX11_letsIn_29 : decode cX11_letsIn 29 = .ok (.getfield 100, 3) := by decide +kernel
theorem dX11_letsIn_32 : decode cX11_letsIn 32 = .ok (.iload_n 1, 1) := by decide +kernel
theorem dX11_letsIn_33 : decode cX11_letsIn 33 = .ok (.invokevirtual 246, 3) := by decide +kernel
theorem dX11_letsIn_36 : decode cX11_letsIn 36 = .ok (.istore_n 3, 1) := by decide +kernel
theorem dX11_letsIn_37 : decode cX11_letsIn 37 = .ok (.aload_n 0, 1) := by decide +kernel
theorem dX11_letsIn_38 : decode cX11_letsIn 38 = .ok (.iload_n 3, 1) := by decide +kernel
theorem dX11_letsIn_39 : decode cX11_letsIn 39 = .ok (.invokevirtual 203, 3) := by decide +kernel
theorem dX11_letsIn_42 : decode cX11_letsIn 42 = .ok (.aload_n 0, 1) := by decide +kernel
theorem dX11_letsIn_43 : decode cX11_letsIn 43 = .ok (.iconst 0, 1) := by decide +kernel
theorem dX11_letsIn_44 : decode cX11_letsIn 44 = .ok (.invokevirtual 203, 3) := by decide +kernel
theorem dX11_letsIn_47 : decode cX11_letsIn 47 = .ok (.iconst (-1), 1) := by decide +kernel
theorem dX11_letsIn_48 : decode cX11_letsIn 48 = .ok (.ixor, 1) := by decide +kernel
theorem dX11_letsIn_49 : decode cX11_letsIn 49 = .ok (.iand, 1) := by decide +kernel
theorem dX11_letsIn_50 : decode cX11_letsIn 50 = .ok (.istore 4, 2) := by decide +kernel
theorem dX11_letsIn_52 : decode cX11_letsIn 52 = .ok (.aload_n 0, 1) := by decide +kernel
theorem dX11_letsIn_53 : decode cX11_letsIn 53 = .ok (.getfield 30, 3) := by decide +kernel
theorem dX11_letsIn_56 : decode cX11_letsIn 56 = .ok (.iload_n 2, 1) := by decide +kernel
theorem dX11_letsIn_57 : decode cX11_letsIn 57 = .ok (.ifCond .ne 10, 3) := by decide +kernel
theorem dX11_letsIn_60 : decode cX11_letsIn 60 = .ok (.iload 4, 2) := by decide +kernel
theorem dX11_letsIn_62 : decode cX11_letsIn 62 = .ok (.iload_n 3, 1) := by decide +kernel
theorem dX11_letsIn_63 : decode cX11_letsIn 63 = .ok (.iand, 1) := by decide +kernel
theorem dX11_letsIn_64 : decode cX11_letsIn 64 = .ok (.goto 9, 3) := by decide +kernel
theorem dX11_letsIn_67 : decode cX11_letsIn 67 = .ok (.iload 4, 2) := by decide +kernel
theorem dX11_letsIn_69 : decode cX11_letsIn 69 = .ok (.iload_n 3, 1) := by decide +kernel
theorem dX11_letsIn_70 : decode cX11_letsIn 70 = .ok (.iconst (-1), 1) := by decide +kernel
theorem dX11_letsIn_71 : decode cX11_letsIn 71 = .ok (.ixor, 1) := by decide +kernel
theorem dX11_letsIn_72 : decode cX11_letsIn 72 = .ok (.iand, 1) := by decide +kernel
theorem dX11_letsIn_73 : decode cX11_letsIn 73 = .ok (.invokevirtual 249, 3) := by decide +kernel
theorem dX11_letsIn_76 : decode cX11_letsIn 76 = .ok (.ireturn, 1) := by decide +kernel
theorem dX11_rests_0 : decode cX11_rests 0 = .ok (.iload_n 1, 1) := by decide +kernel
theorem dX11_rests_1 : decode cX11_rests 1 = .ok (.iconst 0, 1) := by decide +kernel
theorem dX11_rests_2 : decode cX11_rests 2 = .ok (.iconst 1, 1) := by decide +kernel
theorem dX11_rests_3 : decode cX11_rests 3 = .ok (.invokestatic 75, 3) := by decide +kernel
theorem dX11_rests_6 : decode cX11_rests 6 = .ok (.ifCond .ne 12, 3) := by decide +kernel
theorem dX11_rests_9 : decode cX11_rests 9 = .ok (.aload_n 0, 1) := by decide +kernel
theorem dX11_rests_10 : decode cX11_rests 10 = .ok (.bipush (-2), 2) := by decide +kernel
theorem dX11_rests_12 : decode cX11_rests 12 = .ok (.bipush (-10), 2) := by decide +kernel
theorem dX11_rests_14 : decode cX11_rests 14 = .ok (.invokevirtual 79, 3) := by decide +kernel
theorem dX11_rests_17 : decode cX11_rests 17 = .ok (.ireturn, 1) := by decide +kernel
theorem dX11_rests_18 : decode cX11_rests 18 = .ok (.iconst (-1), 1) := by decide +kernel
theorem dX11_rests_19 : decode cX11_rests 19 = .ok (.istore_n 2, 1) := by decide +kernel
theorem dX11_rests_20 : decode cX11_rests 20 = .ok (.iconst 0, 1) := by decide +kernel
theorem dX11_rests_21 : decode cX11_rests 21 = .ok (.istore_n 3, 1) := by decide +kernel
theorem dX11_rests_22 : decode cX11_rests 22 = .ok (.iconst 0, 1) := by decide +kernel
theorem dX11_rests_23 : decode cX11_rests 23 = .ok (.istore 4, 2) := by decide +kernel
theorem dX11_rests_25 : decode cX11_rests 25 = .ok (.iload 4, 2) := by decide +kernel
theorem dX11_rests_27 : decode cX11_rests 27 = .ok (.bipush 8, 2) := by decide +kernel
theorem dX11_rests_29 : decode cX11_rests 29 = .ok (.if_icmp .ge 31, 3) := by decide +kernel
theorem dX11_rests_32 : decode cX11_rests 32 = .ok (.aload_n 0, 1) := by decide +kernel
theorem dX11_rests_33 : decode cX11_rests 33 = .ok (.iload 4, 2) := by decide +kernel
theorem dX11_rests_35 : decode cX11_rests 35 = .ok (.invokevirtual 252, 3) := by decide +kernel
theorem dX11_rests_38 : decode cX11_rests 38 = .ok (.ifCond .ne 6, 3) := by decide +kernel
theorem dX11_rests_41 : decode cX11_rests 41 = .ok (.goto 13, 3) := by decide +kernel
theorem dX11_rests_44 : decode cX11_rests 44 = .ok (.iload_n 3, 1) := by decide +kernel
theorem dX11_rests_45 : decode cX11_rests 45 = .ok (.ifCond .ne 6, 3) := by decide +kernel
theorem dX11_rests_48 : decode cX11_rests 48 = .ok (.iload 4, 2) := by decide +kernel
theorem dX11_rests_50 : decode cX11_rests 50 = .ok (.istore_n 2, 1) := by decide +kernel
theorem dX11_rests_51 : decode cX11_rests 51 = .ok (.iinc 3 1, 3) := by decide +kernel
theorem dX11_rests_54 : decode cX11_rests 54 = .ok (.iinc 4 1, 3) := by decide +kernel
theorem dX11_rests_57 : decode cX11_rests 57 = .ok (.goto (-32), 3) := by decide +kernel
theorem dX11_rests_60 : decode cX11_rests 60 = .ok (.iload_n 1, 1) := by decide +kernel
theorem dX11_rests_61 : decode cX11_rests 61 = .ok (.ifCond .ne 7, 3) := by decide +kernel
theorem dX11_rests_64 : decode cX11_rests 64 = .ok (.iload_n 3, 1) := by decide +kernel
theorem dX11_rests_65 : decode cX11_rests 65 = .ok (.goto 4, 3) := by decide +kernel
theorem dX11_rests_68 : decode cX11_rests 68 = .ok (.iload_n 2, 1) := by decide +kernel
theorem dX11_rests_69 : decode cX11_rests 69 = .ok (.ireturn, 1) := by decide +kernel
theorem dX11_tide_0 : decode cX11_tide 0 = .ok (.iload_n 1, 1) := by decide +kernel
theorem dX11_tide_1 : decode cX11_tide 1 = .ok (.iconst 0, 1) := by decide +kernel
theorem dX11_tide_2 : decode cX11_tide 2 = .ok (.bipush 7, 2) := by decide +kernel
theorem dX11_tide_4 : decode cX11_tide 4 = .ok (.invokestatic 75, 3) := by decide +kernel
theorem dX11_tide_7 : decode cX11_tide 7 = .ok (.ifCond .eq 11, 3) := by decide +kernel
theorem dX11_tide_10 : decode cX11_tide 10 = .ok (.aload_n 0, 1) := by decide +kernel
theorem dX11_tide_11 : decode cX11_tide 11 = .ok (.iload_n 2, 1) := by decide +kernel
theorem dX11_tide_12 : decode cX11_tide 12 = .ok (.invokevirtual 159, 3) := by decide +kernel
theorem dX11_tide_15 : decode cX11_tide 15 = .ok (.ifCond .ne 12, 3) := by decide +kernel
theorem dX11_tide_18 : decode cX11_tide 18 = .ok (.aload_n 0, 1) := by decide +kernel
theorem dX11_tide_19 : decode cX11_tide 19 = .ok (.bipush (-2), 2) := by decide +kernel
theorem dX11_tide_21 : decode cX11_tide 21 = .ok (.bipush (-2), 2) := by decide +kernel
theorem dX11_tide_23 : decode cX11_tide 23 = .ok (.invokevirtual 79, 3) := by decide +kernel
theorem dX11_tide_26 : decode cX11_tide 26 = .ok (.ireturn, 1) := by decide +kernel
theorem dX11_tide_27 : decode cX11_tide 27 = .ok (.aload_n 0, 1) := by decide +kernel
theorem dX11_tide_28 : decode cX11_tide 28 = .ok (.aload_n 0, 1) := by decide +kernel
theorem dX11_tide_29 : decode cX11_tide 29 = .ok (.getfield 30, 3) := by decide +kernel
theorem dX11_tide_32 : decode cX11_tide 32 = .ok (.getfield 100, 3) := by decide +kernel
theorem dX11_tide_35 : decode cX11_tide 35 = .ok (.iload_n 1, 1) := by decide +kernel
theorem dX11_tide_36 : decode cX11_tide 36 = .ok (.iload_n 2, 1) := by decide +kernel
theorem dX11_tide_37 : decode cX11_tide 37 = .ok (.iload_n 3, 1) := by decide +kernel
theorem dX11_tide_38 : decode cX11_tide 38 = .ok (.invokevirtual 255, 3) := by decide +kernel
theorem dX11_tide_41 : decode cX11_tide 41 = .ok (.invokevirtual 58, 3) := by decide +kernel
theorem dX11_tide_44 : decode cX11_tide 44 = .ok (.ireturn, 1) := by decide +kernel
theorem dX11_learnt_0 : decode cX11_learnt 0 = .ok (.iload_n 1, 1) := by decide +kernel
theorem dX11_learnt_1 : decode cX11_learnt 1 = .ok (.iconst 0, 1) := by decide +kernel
theorem dX11_learnt_2 : decode cX11_learnt 2 = .ok (.bipush 7, 2) := by decide +kernel
theorem dX11_learnt_4 : decode cX11_learnt 4 = .ok (.invokestatic 75, 3) := by decide +kernel
theorem dX11_learnt_7 : decode cX11_learnt 7 = .ok (.ifCond .eq 12, 3) := by decide +kernel
theorem dX11_learnt_10 : decode cX11_learnt 10 = .ok (.iload_n 2, 1) := by decide +kernel
theorem dX11_learnt_11 : decode cX11_learnt 11 = .ok (.iconst 0, 1) := by decide +kernel
theorem dX11_learnt_12 : decode cX11_learnt 12 = .ok (.iconst 1, 1) := by decide +kernel
theorem dX11_learnt_13 : decode cX11_learnt 13 = .ok (.invokestatic 75, 3) := by decide +kernel
theorem dX11_learnt_16 : decode cX11_learnt 16 = .ok (.ifCond .ne 12, 3) := by decide +kernel
theorem dX11_learnt_19 : decode cX11_learnt 19 = .ok (.aload_n 0, 1) := by decide +kernel
theorem dX11_learnt_20 : decode cX11_learnt 20 = .ok (.bipush (-2), 2) := by decide +kernel
theorem dX11_learnt_22 : decode cX11_learnt 22 = .ok (.bipush (-10), 2) := by decide +kernel
theorem dX11_learnt_24 : decode cX11_learnt 24 = .ok (.invokevirtual 79, 3) := by decide +kernel
theorem dX11_learnt_27 : decode cX11_learnt 27 = .ok (.ireturn, 1) := by decide +kernel
theorem dX11_learnt_28 : decode cX11_learnt 28 = .ok (.aload_n 0, 1) := by decide +kernel
theorem dX11_learnt_29 : decode cX11_learnt 29 = .ok (.iload_n 1, 1) := by decide +kernel
theorem dX11_learnt_30 : decode cX11_learnt 30 = .ok (.invokevirtual 259, 3) := by decide +kernel
theorem dX11_learnt_33 : decode cX11_learnt 33 = .ok (.istore_n 3, 1) := by decide +kernel
theorem dX11_learnt_34 : decode cX11_learnt 34 = .ok (.iload_n 2, 1) := by decide +kernel
theorem dX11_learnt_35 : decode cX11_learnt 35 = .ok (.ifCond .ne 10, 3) := by decide +kernel
theorem dX11_learnt_38 : decode cX11_learnt 38 = .ok (.iload_n 3, 1) := by decide +kernel
theorem dX11_learnt_39 : decode cX11_learnt 39 = .ok (.invokestatic 262, 3) := by decide +kernel
theorem dX11_learnt_42 : decode cX11_learnt 42 = .ok (.goto 8, 3) := by decide +kernel
theorem dX11_learnt_45 : decode cX11_learnt 45 = .ok (.aload_n 0, 1) := by decide +kernel
theorem dX11_learnt_46 : decode cX11_learnt 46 = .ok (.iload_n 3, 1) := by decide +kernel
theorem dX11_learnt_47 : decode cX11_learnt 47 = .ok (.invokevirtual 267, 3) := by decide +kernel
theorem dX11_learnt_50 : decode cX11_learnt 50 = .ok (.ireturn, 1) := by decide +kernel
