theorem d_P_takeFrom_13 : decode b_P_takeFrom 13 = .ok (.isub, 1) := by decide +kernel
theorem d_P_takeFrom_14 : decode b_P_takeFrom 14 = .ok (.putfield 46, 3) := by decide +kernel
theorem d_P_takeFrom_17 : decode b_P_takeFrom 17 = .ok (.aload_n 0, 1) := by decide +kernel
theorem d_P_takeFrom_18 : decode b_P_takeFrom 18 = .ok (.getfield 9, 3) := by decide +kernel
theorem d_P_takeFrom_21 : decode b_P_takeFrom 21 = .ok (.iload_n 1, 1) := by decide +kernel
theorem d_P_takeFrom_22 : decode b_P_takeFrom 22 = .ok (.iconst 1, 1) := by decide +kernel
theorem d_P_takeFrom_23 : decode b_P_takeFrom 23 = .ok (.iadd, 1) := by decide +kernel
theorem d_P_takeFrom_24 : decode b_P_takeFrom 24 = .ok (.aload_n 0, 1) := by decide +kernel
theorem d_P_takeFrom_25 : decode b_P_takeFrom 25 = .ok (.getfield 9, 3) := by decide +kernel
theorem d_P_takeFrom_28 : decode b_P_takeFrom 28 = .ok (.iload_n 1, 1) := by decide +kernel
theorem d_P_takeFrom_29 : decode b_P_takeFrom 29 = .ok (.aload_n 0, 1) := by decide +kernel
theorem d_P_takeFrom_30 : decode b_P_takeFrom 30 = .ok (.getfield 46, 3) := by decide +kernel
theorem d_P_takeFrom_33 : decode b_P_takeFrom 33 = .ok (.iload_n 1, 1) := by decide +kernel
theorem d_P_takeFrom_34 : decode b_P_takeFrom 34 = .ok (.isub, 1) := by decide +kernel
theorem d_P_takeFrom_35 : decode b_P_takeFrom 35 = .ok (.invokestatic 62, 3) := by decide +kernel
theorem d_P_takeFrom_38 : decode b_P_takeFrom 38 = .ok (.iload_n 2, 1) := by decide +kernel
theorem d_P_takeFrom_39 : decode b_P_takeFrom 39 = .ok (.ireturn, 1) := by decide +kernel
theorem d_X_choose_0 : decode b_X_choose 0 = .ok (.iconst 0, 1) := by decide +kernel
theorem d_X_choose_1 : decode b_X_choose 1 = .ok (.istore_n 2, 1) := by decide +kernel
theorem d_X_choose_2 : decode b_X_choose 2 = .ok (.iload_n 2, 1) := by decide +kernel
theorem d_X_choose_3 : decode b_X_choose 3 = .ok (.bipush 54, 2) := by decide +kernel
theorem d_X_choose_5 : decode b_X_choose 5 = .ok (.if_icmp .ge 147, 3) := by decide +kernel
theorem d_X_choose_8 : decode b_X_choose 8 = .ok (.aload_n 1, 1) := by decide +kernel
theorem d_X_choose_9 : decode b_X_choose 9 = .ok (.getfield 137, 3) := by decide +kernel
theorem d_X_choose_12 : decode b_X_choose 12 = .ok (.ifCond .le 140, 3) := by decide +kernel
theorem d_X_choose_15 : decode b_X_choose 15 = .ok (.aload_n 1, 1) := by decide +kernel
theorem d_X_choose_16 : decode b_X_choose 16 = .ok (.getfield 282, 3) := by decide +kernel
theorem d_X_choose_19 : decode b_X_choose 19 = .ok (.iconst 0, 1) := by decide +kernel
theorem d_X_choose_20 : decode b_X_choose 20 = .ok (.iaload, 1) := by decide +kernel
theorem d_X_choose_21 : decode b_X_choose 21 = .ok (.istore_n 3, 1) := by decide +kernel
theorem d_X_choose_22 : decode b_X_choose 22 = .ok (.aload_n 1, 1) := by decide +kernel
theorem d_X_choose_23 : decode b_X_choose 23 = .ok (.invokevirtual 285, 3) := by decide +kernel
theorem d_X_choose_26 : decode b_X_choose 26 = .ok (.aload_n 0, 1) := by decide +kernel
theorem d_X_choose_27 : decode b_X_choose 27 = .ok (.aload_n 1, 1) := by decide +kernel
theorem d_X_choose_28 : decode b_X_choose 28 = .ok (.iload_n 3, 1) := by decide +kernel
theorem d_X_choose_29 : decode b_X_choose 29 = .ok (.invokevirtual 288, 3) := by decide +kernel
theorem d_X_choose_32 : decode b_X_choose 32 = .ok (.istore 4, 2) := by decide +kernel
theorem d_X_choose_34 : decode b_X_choose 34 = .ok (.aload_n 0, 1) := by decide +kernel
theorem d_X_choose_35 : decode b_X_choose 35 = .ok (.getfield 30, 3) := by decide +kernel
theorem d_X_choose_38 : decode b_X_choose 38 = .ok (.aload_n 1, 1) := by decide +kernel
theorem d_X_choose_39 : decode b_X_choose 39 = .ok (.getfield 279, 3) := by decide +kernel
theorem d_X_choose_42 : decode b_X_choose 42 = .ok (.iload 4, 2) := by decide +kernel
theorem d_X_choose_44 : decode b_X_choose 44 = .ok (.iaload, 1) := by decide +kernel
theorem d_X_choose_45 : decode b_X_choose 45 = .ok (.aaload, 1) := by decide +kernel
theorem d_X_choose_46 : decode b_X_choose 46 = .ok (.astore 5, 2) := by decide +kernel
theorem d_X_choose_48 : decode b_X_choose 48 = .ok (.aload 5, 2) := by decide +kernel
theorem d_X_choose_50 : decode b_X_choose 50 = .ok (.getfield 291, 3) := by decide +kernel
theorem d_X_choose_53 : decode b_X_choose 53 = .ok (.aload_n 1, 1) := by decide +kernel
theorem d_X_choose_54 : decode b_X_choose 54 = .ok (.getfield 144, 3) := by decide +kernel
theorem d_X_choose_57 : decode b_X_choose 57 = .ok (.iload_n 3, 1) := by decide +kernel
theorem d_X_choose_58 : decode b_X_choose 58 = .ok (.iaload, 1) := by decide +kernel
theorem d_X_choose_59 : decode b_X_choose 59 = .ok (.if_icmp .gt 78, 3) := by decide +kernel
theorem d_X_choose_62 : decode b_X_choose 62 = .ok (.aload_n 1, 1) := by decide +kernel
theorem d_X_choose_63 : decode b_X_choose 63 = .ok (.getfield 144, 3) := by decide +kernel
theorem d_X_choose_66 : decode b_X_choose 66 = .ok (.iload_n 3, 1) := by decide +kernel
theorem d_X_choose_67 : decode b_X_choose 67 = .ok (.dup2, 1) := by decide +kernel
theorem d_X_choose_68 : decode b_X_choose 68 = .ok (.iaload, 1) := by decide +kernel
theorem d_X_choose_69 : decode b_X_choose 69 = .ok (.aload 5, 2) := by decide +kernel
theorem d_X_choose_71 : decode b_X_choose 71 = .ok (.getfield 291, 3) := by decide +kernel
theorem d_X_choose_74 : decode b_X_choose 74 = .ok (.isub, 1) := by decide +kernel
theorem d_X_choose_75 : decode b_X_choose 75 = .ok (.iastore, 1) := by decide +kernel
theorem d_X_choose_76 : decode b_X_choose 76 = .ok (.aload_n 1, 1) := by decide +kernel
theorem d_X_choose_77 : decode b_X_choose 77 = .ok (.aload_n 1, 1) := by decide +kernel
theorem d_X_choose_78 : decode b_X_choose 78 = .ok (.iload 4, 2) := by decide +kernel
theorem d_X_choose_80 : decode b_X_choose 80 = .ok (.invokevirtual 294, 3) := by decide +kernel
theorem d_X_choose_83 : decode b_X_choose 83 = .ok (.putfield 148, 3) := by decide +kernel
theorem d_X_choose_86 : decode b_X_choose 86 = .ok (.aload_n 0, 1) := by decide +kernel
theorem d_X_choose_87 : decode b_X_choose 87 = .ok (.getfield 38, 3) := by decide +kernel
theorem d_X_choose_90 : decode b_X_choose 90 = .ok (.bipush 6, 2) := by decide +kernel
theorem d_X_choose_92 : decode b_X_choose 92 = .ok (.aload_n 1, 1) := by decide +kernel
theorem d_X_choose_93 : decode b_X_choose 93 = .ok (.getfield 148, 3) := by decide +kernel
theorem d_X_choose_96 : decode b_X_choose 96 = .ok (.iadd, 1) := by decide +kernel
theorem d_X_choose_97 : decode b_X_choose 97 = .ok (.iconst 2, 1) := by decide +kernel
theorem d_X_choose_98 : decode b_X_choose 98 = .ok (.aload_n 0, 1) := by decide +kernel
theorem d_X_choose_99 : decode b_X_choose 99 = .ok (.getfield 101, 3) := by decide +kernel
theorem d_X_choose_102 : decode b_X_choose 102 = .ok (.aload 5, 2) := by decide +kernel
theorem d_X_choose_104 : decode b_X_choose 104 = .ok (.getfield 291, 3) := by decide +kernel
theorem d_X_choose_107 : decode b_X_choose 107 = .ok (.aload_n 1, 1) := by decide +kernel
theorem d_X_choose_108 : decode b_X_choose 108 = .ok (.getfield 298, 3) := by decide +kernel
theorem d_X_choose_111 : decode b_X_choose 111 = .ok (.imul, 1) := by decide +kernel
theorem d_X_choose_112 : decode b_X_choose 112 = .ok (.iadd, 1) := by decide +kernel
theorem d_X_choose_113 : decode b_X_choose 113 = .ok (.invokevirtual 185, 3) := by decide +kernel
theorem d_X_choose_116 : decode b_X_choose 116 = .ok (.aload_n 0, 1) := by decide +kernel
theorem d_X_choose_117 : decode b_X_choose 117 = .ok (.aload_n 1, 1) := by decide +kernel
theorem d_X_choose_118 : decode b_X_choose 118 = .ok (.iload_n 3, 1) := by decide +kernel
theorem d_X_choose_119 : decode b_X_choose 119 = .ok (.invokevirtual 140, 3) := by decide +kernel
theorem d_X_choose_122 : decode b_X_choose 122 = .ok (.ifCond .ne 14, 3) := by decide +kernel
theorem d_X_choose_125 : decode b_X_choose 125 = .ok (.aload_n 1, 1) := by decide +kernel
theorem d_X_choose_126 : decode b_X_choose 126 = .ok (.invokevirtual 301, 3) := by decide +kernel
theorem d_X_choose_129 : decode b_X_choose 129 = .ok (.aload_n 1, 1) := by decide +kernel
theorem d_X_choose_130 : decode b_X_choose 130 = .ok (.getfield 144, 3) := by decide +kernel
theorem d_X_choose_133 : decode b_X_choose 133 = .ok (.iload_n 3, 1) := by decide +kernel
theorem d_X_choose_134 : decode b_X_choose 134 = .ok (.iconst 0, 1) := by decide +kernel
theorem d_X_choose_135 : decode b_X_choose 135 = .ok (.iastore, 1) := by decide +kernel
theorem d_X_choose_136 : decode b_X_choose 136 = .ok (.return_, 1) := by decide +kernel
theorem d_X_choose_137 : decode b_X_choose 137 = .ok (.aload_n 1, 1) := by decide +kernel
theorem d_X_choose_138 : decode b_X_choose 138 = .ok (.invokevirtual 301, 3) := by decide +kernel
theorem d_X_choose_141 : decode b_X_choose 141 = .ok (.aload_n 1, 1) := by decide +kernel
theorem d_X_choose_142 : decode b_X_choose 142 = .ok (.iload_n 3, 1) := by decide +kernel
theorem d_X_choose_143 : decode b_X_choose 143 = .ok (.invokevirtual 276, 3) := by decide +kernel
theorem d_X_choose_146 : decode b_X_choose 146 = .ok (.iinc 2 1, 3) := by decide +kernel
theorem d_X_choose_149 : decode b_X_choose 149 = .ok (.goto (-147), 3) := by decide +kernel
theorem d_X_choose_152 : decode b_X_choose 152 = .ok (.return_, 1) := by decide +kernel
theorem d_X_put_0 : decode b_X_put 0 = .ok (.iload_n 1, 1) := by decide +kernel
theorem d_X_put_1 : decode b_X_put 1 = .ok (.iconst (-1), 1) := by decide +kernel
theorem d_X_put_2 : decode b_X_put 2 = .ok (.if_icmp .ne 4, 3) := by decide +kernel
theorem d_X_put_5 : decode b_X_put 5 = .ok (.return_, 1) := by decide +kernel
theorem d_X_put_6 : decode b_X_put 6 = .ok (.aload_n 0, 1) := by decide +kernel
theorem d_X_put_7 : decode b_X_put 7 = .ok (.getfield 30, 3) := by decide +kernel
theorem d_X_put_10 : decode b_X_put 10 = .ok (.iload_n 1, 1) := by decide +kernel
theorem d_X_put_11 : decode b_X_put 11 = .ok (.aaload, 1) := by decide +kernel
theorem d_X_put_12 : decode b_X_put 12 = .ok (.astore_n 3, 1) := by decide +kernel
theorem d_X_put_13 : decode b_X_put 13 = .ok (.aload_n 0, 1) := by decide +kernel
theorem d_X_put_14 : decode b_X_put 14 = .ok (.iload_n 2, 1) := by decide +kernel
theorem d_X_put_15 : decode b_X_put 15 = .ok (.aload_n 3, 1) := by decide +kernel
theorem d_X_put_16 : decode b_X_put 16 = .ok (.getfield 225, 3) := by decide +kernel
theorem d_X_put_19 : decode b_X_put 19 = .ok (.invokevirtual 273, 3) := by decide +kernel
theorem d_X_put_22 : decode b_X_put 22 = .ok (.istore 4, 2) := by decide +kernel
theorem d_X_put_24 : decode b_X_put 24 = .ok (.iload 4, 2) := by decide +kernel
theorem d_X_put_26 : decode b_X_put 26 = .ok (.iconst (-1), 1) := by decide +kernel
theorem d_X_put_27 : decode b_X_put 27 = .ok (.if_icmp .eq 26, 3) := by decide +kernel
theorem d_X_put_30 : decode b_X_put 30 = .ok (.aload_n 0, 1) := by decide +kernel
theorem d_X_put_31 : decode b_X_put 31 = .ok (.getfield 16, 3) := by decide +kernel
theorem d_X_put_34 : decode b_X_put 34 = .ok (.iload 4, 2) := by decide +kernel
theorem d_X_put_36 : decode b_X_put 36 = .ok (.aaload, 1) := by decide +kernel
theorem d_X_put_37 : decode b_X_put 37 = .ok (.getfield 137, 3) := by decide +kernel
theorem d_X_put_40 : decode b_X_put 40 = .ok (.aload_n 0, 1) := by decide +kernel
theorem d_X_put_41 : decode b_X_put 41 = .ok (.getfield 16, 3) := by decide +kernel
theorem d_X_put_44 : decode b_X_put 44 = .ok (.iload 4, 2) := by decide +kernel
theorem d_X_put_46 : decode b_X_put 46 = .ok (.aaload, 1) := by decide +kernel
theorem d_X_put_47 : decode b_X_put 47 = .ok (.getfield 79, 3) := by decide +kernel
theorem d_X_put_50 : decode b_X_put 50 = .ok (.if_icmp .lt 27, 3) := by decide +kernel
theorem d_X_put_53 : decode b_X_put 53 = .ok (.aload_n 3, 1) := by decide +kernel
theorem d_X_put_54 : decode b_X_put 54 = .ok (.iconst 0, 1) := by decide +kernel
theorem d_X_put_55 : decode b_X_put 55 = .ok (.putfield 110, 3) := by decide +kernel
theorem d_X_put_58 : decode b_X_put 58 = .ok (.aload_n 0, 1) := by decide +kernel
theorem d_X_put_59 : decode b_X_put 59 = .ok (.getfield 23, 3) := by decide +kernel
theorem d_X_put_62 : decode b_X_put 62 = .ok (.aload_n 3, 1) := by decide +kernel
theorem d_X_put_63 : decode b_X_put 63 = .ok (.getfield 151, 3) := by decide +kernel
theorem d_X_put_66 : decode b_X_put 66 = .ok (.aaload, 1) := by decide +kernel
theorem d_X_put_67 : decode b_X_put 67 = .ok (.dup, 1) := by decide +kernel
theorem d_X_put_68 : decode b_X_put 68 = .ok (.getfield 179, 3) := by decide +kernel
theorem d_X_put_71 : decode b_X_put 71 = .ok (.iconst 1, 1) := by decide +kernel
theorem d_X_put_72 : decode b_X_put 72 = .ok (.iadd, 1) := by decide +kernel
theorem d_X_put_73 : decode b_X_put 73 = .ok (.putfield 179, 3) := by decide +kernel
theorem d_X_put_76 : decode b_X_put 76 = .ok (.return_, 1) := by decide +kernel
theorem d_X_put_77 : decode b_X_put 77 = .ok (.aload_n 0, 1) := by decide +kernel
theorem d_X_put_78 : decode b_X_put 78 = .ok (.getfield 16, 3) := by decide +kernel
theorem d_X_put_81 : decode b_X_put 81 = .ok (.iload 4, 2) := by decide +kernel
theorem d_X_put_83 : decode b_X_put 83 = .ok (.aaload, 1) := by decide +kernel
theorem d_X_put_84 : decode b_X_put 84 = .ok (.astore 5, 2) := by decide +kernel
theorem d_X_put_86 : decode b_X_put 86 = .ok (.aload_n 3, 1) := by decide +kernel
theorem d_X_put_87 : decode b_X_put 87 = .ok (.iload 4, 2) := by decide +kernel
theorem d_X_put_89 : decode b_X_put 89 = .ok (.putfield 215, 3) := by decide +kernel
theorem d_X_put_92 : decode b_X_put 92 = .ok (.aload_n 0, 1) := by decide +kernel
theorem d_X_put_93 : decode b_X_put 93 = .ok (.aload 5, 2) := by decide +kernel
theorem d_X_put_95 : decode b_X_put 95 = .ok (.aload_n 3, 1) := by decide +kernel
theorem d_X_put_96 : decode b_X_put 96 = .ok (.getfield 151, 3) := by decide +kernel
theorem d_X_put_99 : decode b_X_put 99 = .ok (.invokevirtual 140, 3) := by decide +kernel
theorem d_X_put_102 : decode b_X_put 102 = .ok (.ifCond .ne 12, 3) := by decide +kernel
theorem d_X_put_105 : decode b_X_put 105 = .ok (.aload 5, 2) := by decide +kernel
theorem d_X_put_107 : decode b_X_put 107 = .ok (.aload_n 3, 1) := by decide +kernel
theorem d_X_put_108 : decode b_X_put 108 = .ok (.getfield 151, 3) := by decide +kernel
theorem d_X_put_111 : decode b_X_put 111 = .ok (.invokevirtual 276, 3) := by decide +kernel
theorem d_X_put_114 : decode b_X_put 114 = .ok (.aload 5, 2) := by decide +kernel
theorem d_X_put_116 : decode b_X_put 116 = .ok (.getfield 279, 3) := by decide +kernel
theorem d_X_put_119 : decode b_X_put 119 = .ok (.aload 5, 2) := by decide +kernel
theorem d_X_put_121 : decode b_X_put 121 = .ok (.getfield 137, 3) := by decide +kernel
theorem d_X_put_124 : decode b_X_put 124 = .ok (.iload_n 1, 1) := by decide +kernel
theorem d_X_put_125 : decode b_X_put 125 = .ok (.iastore, 1) := by decide +kernel
theorem d_X_put_126 : decode b_X_put 126 = .ok (.aload 5, 2) := by decide +kernel
theorem d_X_put_128 : decode b_X_put 128 = .ok (.dup, 1) := by decide +kernel
theorem d_X_put_129 : decode b_X_put 129 = .ok (.getfield 137, 3) := by decide +kernel
theorem d_X_put_132 : decode b_X_put 132 = .ok (.iconst 1, 1) := by decide +kernel
theorem d_X_put_133 : decode b_X_put 133 = .ok (.iadd, 1) := by decide +kernel
theorem d_X_put_134 : decode b_X_put 134 = .ok (.putfield 137, 3) := by decide +kernel
theorem d_X_put_137 : decode b_X_put 137 = .ok (.aload 5, 2) := by decide +kernel
theorem d_X_put_139 : decode b_X_put 139 = .ok (.getfield 148, 3) := by decide +kernel
theorem d_X_put_142 : decode b_X_put 142 = .ok (.iconst (-1), 1) := by decide +kernel
theorem d_X_put_143 : decode b_X_put 143 = .ok (.if_icmp .ne 9, 3) := by decide +kernel
theorem d_X_put_146 : decode b_X_put 146 = .ok (.aload_n 0, 1) := by decide +kernel
theorem d_X_put_147 : decode b_X_put 147 = .ok (.aload 5, 2) := by decide +kernel
theorem d_X_put_149 : decode b_X_put 149 = .ok (.invokevirtual 221, 3) := by decide +kernel
theorem d_X_put_152 : decode b_X_put 152 = .ok (.return_, 1) := by decide +kernel
theorem d_X_setTimer_0 : decode b_X_setTimer 0 = .ok (.aload_n 0, 1) := by decide +kernel
theorem d_X_setTimer_1 : decode b_X_setTimer 1 = .ok (.getfield 38, 3) := by decide +kernel
theorem d_X_setTimer_4 : decode b_X_setTimer 4 = .ok (.iload_n 1, 1) := by decide +kernel
theorem d_X_setTimer_5 : decode b_X_setTimer 5 = .ok (.iconst 4, 1) := by decide +kernel
theorem d_X_setTimer_6 : decode b_X_setTimer 6 = .ok (.aload_n 0, 1) := by decide +kernel
theorem d_X_setTimer_7 : decode b_X_setTimer 7 = .ok (.getfield 101, 3) := by decide +kernel
theorem d_X_setTimer_10 : decode b_X_setTimer 10 = .ok (.aload_n 0, 1) := by decide +kernel
theorem d_X_setTimer_11 : decode b_X_setTimer 11 = .ok (.getfield 23, 3) := by decide +kernel
theorem d_X_setTimer_14 : decode b_X_setTimer 14 = .ok (.iload_n 1, 1) := by decide +kernel
theorem d_X_setTimer_15 : decode b_X_setTimer 15 = .ok (.aaload, 1) := by decide +kernel
theorem d_X_setTimer_16 : decode b_X_setTimer 16 = .ok (.getfield 95, 3) := by decide +kernel
theorem d_X_setTimer_19 : decode b_X_setTimer 19 = .ok (.iadd, 1) := by decide +kernel
theorem d_X_setTimer_20 : decode b_X_setTimer 20 = .ok (.invokevirtual 185, 3) := by decide +kernel
theorem d_X_setTimer_23 : decode b_X_setTimer 23 = .ok (.return_, 1) := by decide +kernel
theorem d_X_fill_0 : decode b_X_fill 0 = .ok (.aload_n 0, 1) := by decide +kernel
theorem d_X_fill_1 : decode b_X_fill 1 = .ok (.getfield 23, 3) := by decide +kernel
theorem d_X_fill_4 : decode b_X_fill 4 = .ok (.iload_n 1, 1) := by decide +kernel
theorem d_X_fill_5 : decode b_X_fill 5 = .ok (.aaload, 1) := by decide +kernel
theorem d_X_fill_6 : decode b_X_fill 6 = .ok (.astore_n 2, 1) := by decide +kernel
theorem d_X_fill_7 : decode b_X_fill 7 = .ok (.aload_n 2, 1) := by decide +kernel
theorem d_X_fill_8 : decode b_X_fill 8 = .ok (.getfield 164, 3) := by decide +kernel
theorem d_X_fill_11 : decode b_X_fill 11 = .ok (.aload_n 2, 1) := by decide +kernel
theorem d_X_fill_12 : decode b_X_fill 12 = .ok (.getfield 92, 3) := by decide +kernel
theorem d_X_fill_15 : decode b_X_fill 15 = .ok (.iadd, 1) := by decide +kernel
theorem d_X_fill_16 : decode b_X_fill 16 = .ok (.aload_n 2, 1) := by decide +kernel
theorem d_X_fill_17 : decode b_X_fill 17 = .ok (.getfield 260, 3) := by decide +kernel
theorem d_X_fill_20 : decode b_X_fill 20 = .ok (.invokestatic 263, 3) := by decide +kernel
theorem d_X_fill_23 : decode b_X_fill 23 = .ok (.istore_n 3, 1) := by decide +kernel
theorem d_X_fill_24 : decode b_X_fill 24 = .ok (.aload_n 2, 1) := by decide +kernel
theorem d_X_fill_25 : decode b_X_fill 25 = .ok (.getfield 167, 3) := by decide +kernel
theorem d_X_fill_28 : decode b_X_fill 28 = .ok (.istore 4, 2) := by decide +kernel
theorem d_X_fill_30 : decode b_X_fill 30 = .ok (.iload 4, 2) := by decide +kernel
theorem d_X_fill_32 : decode b_X_fill 32 = .ok (.iload_n 3, 1) := by decide +kernel
theorem d_X_fill_33 : decode b_X_fill 33 = .ok (.if_icmp .ge 46, 3) := by decide +kernel
theorem d_X_fill_36 : decode b_X_fill 36 = .ok (.aload_n 0, 1) := by decide +kernel
theorem d_X_fill_37 : decode b_X_fill 37 = .ok (.iload_n 1, 1) := by decide +kernel
theorem d_X_fill_38 : decode b_X_fill 38 = .ok (.invokevirtual 158, 3) := by decide +kernel
theorem d_X_fill_41 : decode b_X_fill 41 = .ok (.ifCond .ne 8, 3) := by decide +kernel
theorem d_X_fill_44 : decode b_X_fill 44 = .ok (.aload_n 0, 1) := by decide +kernel
theorem d_X_fill_45 : decode b_X_fill 45 = .ok (.iload_n 1, 1) := by decide +kernel
theorem d_X_fill_46 : decode b_X_fill 46 = .ok (.invokevirtual 257, 3) := by decide +kernel
theorem d_X_fill_49 : decode b_X_fill 49 = .ok (.aload_n 0, 1) := by decide +kernel
theorem d_X_fill_50 : decode b_X_fill 50 = .ok (.aload_n 0, 1) := by decide +kernel
theorem d_X_fill_51 : decode b_X_fill 51 = .ok (.iload_n 1, 1) := by decide +kernel
theorem d_X_fill_52 : decode b_X_fill 52 = .ok (.iload 4, 2) := by decide +kernel
theorem d_X_fill_54 : decode b_X_fill 54 = .ok (.iconst 0, 1) := by decide +kernel
theorem d_X_fill_55 : decode b_X_fill 55 = .ok (.invokevirtual 244, 3) := by decide +kernel
theorem d_X_fill_58 : decode b_X_fill 58 = .ok (.aload_n 2, 1) := by decide +kernel
theorem d_X_fill_59 : decode b_X_fill 59 = .ok (.getfield 266, 3) := by decide +kernel
theorem d_X_fill_62 : decode b_X_fill 62 = .ok (.invokevirtual 228, 3) := by decide +kernel
theorem d_X_fill_65 : decode b_X_fill 65 = .ok (.aload_n 2, 1) := by decide +kernel
theorem d_X_fill_66 : decode b_X_fill 66 = .ok (.iload 4, 2) := by decide +kernel
theorem d_X_fill_68 : decode b_X_fill 68 = .ok (.iconst 1, 1) := by decide +kernel
theorem d_X_fill_69 : decode b_X_fill 69 = .ok (.iadd, 1) := by decide +kernel
theorem d_X_fill_70 : decode b_X_fill 70 = .ok (.putfield 167, 3) := by decide +kernel
theorem d_X_fill_73 : decode b_X_fill 73 = .ok (.iinc 4 1, 3) := by decide +kernel
theorem d_X_fill_76 : decode b_X_fill 76 = .ok (.goto (-46), 3) := by decide +kernel
theorem d_X_fill_79 : decode b_X_fill 79 = .ok (.return_, 1) := by decide +kernel
theorem d_X_start_0 : decode b_X_start 0 = .ok (.aload_n 0, 1) := by decide +kernel
theorem d_X_start_1 : decode b_X_start 1 = .ok (.iconst 1, 1) := by decide +kernel
theorem d_X_start_2 : decode b_X_start 2 = .ok (.iload_n 1, 1) := by decide +kernel
theorem d_X_start_3 : decode b_X_start 3 = .ok (.aload_n 0, 1) := by decide +kernel
theorem d_X_start_4 : decode b_X_start 4 = .ok (.getfield 23, 3) := by decide +kernel
theorem d_X_start_7 : decode b_X_start 7 = .ok (.iload_n 1, 1) := by decide +kernel
theorem d_X_start_8 : decode b_X_start 8 = .ok (.aaload, 1) := by decide +kernel
theorem d_X_start_9 : decode b_X_start 9 = .ok (.getfield 167, 3) := by decide +kernel
theorem d_X_start_12 : decode b_X_start 12 = .ok (.invokevirtual 210, 3) := by decide +kernel
theorem d_X_start_15 : decode b_X_start 15 = .ok (.aload_n 0, 1) := by decide +kernel
theorem d_X_start_16 : decode b_X_start 16 = .ok (.iload_n 1, 1) := by decide +kernel
theorem d_X_start_17 : decode b_X_start 17 = .ok (.invokevirtual 213, 3) := by decide +kernel
theorem d_X_start_20 : decode b_X_start 20 = .ok (.return_, 1) := by decide +kernel
theorem d_K_label_0 : decode b_K_label 0 = .ok (.aload_n 0, 1) := by decide +kernel
theorem d_K_label_1 : decode b_K_label 1 = .ok (.getfield 15, 3) := by decide +kernel
theorem d_K_label_4 : decode b_K_label 4 = .ok (.ifCond .eq 14, 3) := by decide +kernel
theorem d_K_label_7 : decode b_K_label 7 = .ok (.aload_n 0, 1) := by decide +kernel
theorem d_K_label_8 : decode b_K_label 8 = .ok (.getfield 22, 3) := by decide +kernel
theorem d_K_label_11 : decode b_K_label 11 = .ok (.sipush 128, 3) := by decide +kernel
theorem d_K_label_14 : decode b_K_label 14 = .ok (.iadd, 1) := by decide +kernel
theorem d_K_label_15 : decode b_K_label 15 = .ok (.goto 7, 3) := by decide +kernel
theorem d_K_label_18 : decode b_K_label 18 = .ok (.aload_n 0, 1) := by decide +kernel
theorem d_K_label_19 : decode b_K_label 19 = .ok (.getfield 22, 3) := by decide +kernel
theorem d_K_label_22 : decode b_K_label 22 = .ok (.ireturn, 1) := by decide +kernel
theorem d_X_leave_0 : decode b_X_leave 0 = .ok (.aload_n 0, 1) := by decide +kernel
theorem d_X_leave_1 : decode b_X_leave 1 = .ok (.getfield 30, 3) := by decide +kernel
theorem d_X_leave_4 : decode b_X_leave 4 = .ok (.iload_n 1, 1) := by decide +kernel
theorem d_X_leave_5 : decode b_X_leave 5 = .ok (.aaload, 1) := by decide +kernel
theorem d_X_leave_6 : decode b_X_leave 6 = .ok (.astore_n 2, 1) := by decide +kernel
theorem d_X_leave_7 : decode b_X_leave 7 = .ok (.aload_n 0, 1) := by decide +kernel
theorem d_X_leave_8 : decode b_X_leave 8 = .ok (.getfield 16, 3) := by decide +kernel
theorem d_X_leave_11 : decode b_X_leave 11 = .ok (.aload_n 2, 1) := by decide +kernel
theorem d_X_leave_12 : decode b_X_leave 12 = .ok (.getfield 215, 3) := by decide +kernel
theorem d_X_leave_15 : decode b_X_leave 15 = .ok (.aaload, 1) := by decide +kernel
theorem d_X_leave_16 : decode b_X_leave 16 = .ok (.astore_n 3, 1) := by decide +kernel
theorem d_X_leave_17 : decode b_X_leave 17 = .ok (.aload_n 0, 1) := by decide +kernel
theorem d_X_leave_18 : decode b_X_leave 18 = .ok (.iconst 2, 1) := by decide +kernel
theorem d_X_leave_19 : decode b_X_leave 19 = .ok (.aload_n 2, 1) := by decide +kernel
theorem d_X_leave_20 : decode b_X_leave 20 = .ok (.getfield 215, 3) := by decide +kernel
theorem d_X_leave_23 : decode b_X_leave 23 = .ok (.aload_n 2, 1) := by decide +kernel
theorem d_X_leave_24 : decode b_X_leave 24 = .ok (.invokevirtual 154, 3) := by decide +kernel
theorem d_X_leave_27 : decode b_X_leave 27 = .ok (.invokevirtual 210, 3) := by decide +kernel
theorem d_X_leave_30 : decode b_X_leave 30 = .ok (.aload_n 3, 1) := by decide +kernel
theorem d_X_leave_31 : decode b_X_leave 31 = .ok (.iconst (-1), 1) := by decide +kernel
theorem d_X_leave_32 : decode b_X_leave 32 = .ok (.putfield 148, 3) := by decide +kernel
theorem d_X_leave_35 : decode b_X_leave 35 = .ok (.aload_n 0, 1) := by decide +kernel
theorem d_X_leave_36 : decode b_X_leave 36 = .ok (.getfield 38, 3) := by decide +kernel
theorem d_X_leave_39 : decode b_X_leave 39 = .ok (.bipush 6, 2) := by decide +kernel
theorem d_X_leave_41 : decode b_X_leave 41 = .ok (.iload_n 1, 1) := by decide +kernel
theorem d_X_leave_42 : decode b_X_leave 42 = .ok (.iadd, 1) := by decide +kernel
theorem d_X_leave_43 : decode b_X_leave 43 = .ok (.iconst 3, 1) := by decide +kernel
theorem d_X_leave_44 : decode b_X_leave 44 = .ok (.aload_n 0, 1) := by decide +kernel
theorem d_X_leave_45 : decode b_X_leave 45 = .ok (.getfield 101, 3) := by decide +kernel
theorem d_X_leave_48 : decode b_X_leave 48 = .ok (.aload_n 3, 1) := by decide +kernel
theorem d_X_leave_49 : decode b_X_leave 49 = .ok (.getfield 218, 3) := by decide +kernel
theorem d_X_leave_52 : decode b_X_leave 52 = .ok (.iadd, 1) := by decide +kernel
theorem d_X_leave_53 : decode b_X_leave 53 = .ok (.invokevirtual 185, 3) := by decide +kernel
theorem d_X_leave_56 : decode b_X_leave 56 = .ok (.aload_n 3, 1) := by decide +kernel
theorem d_X_leave_57 : decode b_X_leave 57 = .ok (.getfield 137, 3) := by decide +kernel
theorem d_X_leave_60 : decode b_X_leave 60 = .ok (.ifCond .le 8, 3) := by decide +kernel
theorem d_X_leave_63 : decode b_X_leave 63 = .ok (.aload_n 0, 1) := by decide +kernel
theorem d_X_leave_64 : decode b_X_leave 64 = .ok (.aload_n 3, 1) := by decide +kernel
theorem d_X_leave_65 : decode b_X_leave 65 = .ok (.invokevirtual 221, 3) := by decide +kernel
theorem d_X_leave_68 : decode b_X_leave 68 = .ok (.return_, 1) := by decide +kernel
theorem d_M_max_0 : decode b_M_max 0 = .ok (.iload_n 0, 1) := by decide +kernel
theorem d_M_max_1 : decode b_M_max 1 = .ok (.iload_n 1, 1) := by decide +kernel
theorem d_M_max_2 : decode b_M_max 2 = .ok (.if_icmp .lt 7, 3) := by decide +kernel
theorem d_M_max_5 : decode b_M_max 5 = .ok (.iload_n 0, 1) := by decide +kernel
theorem d_M_max_6 : decode b_M_max 6 = .ok (.goto 4, 3) := by decide +kernel
theorem d_M_max_9 : decode b_M_max 9 = .ok (.iload_n 1, 1) := by decide +kernel
theorem d_M_max_10 : decode b_M_max 10 = .ok (.ireturn, 1) := by decide +kernel
theorem d_X_moveBase_0 : decode b_X_moveBase 0 = .ok (.aload_n 0, 1) := by decide +kernel
theorem d_X_moveBase_1 : decode b_X_moveBase 1 = .ok (.getfield 23, 3) := by decide +kernel
theorem d_X_moveBase_4 : decode b_X_moveBase 4 = .ok (.iload_n 1, 1) := by decide +kernel
theorem d_X_moveBase_5 : decode b_X_moveBase 5 = .ok (.aaload, 1) := by decide +kernel
theorem d_X_moveBase_6 : decode b_X_moveBase 6 = .ok (.astore_n 3, 1) := by decide +kernel
theorem d_X_moveBase_7 : decode b_X_moveBase 7 = .ok (.aload_n 3, 1) := by decide +kernel
theorem d_X_moveBase_8 : decode b_X_moveBase 8 = .ok (.iload_n 2, 1) := by decide +kernel
theorem d_X_moveBase_9 : decode b_X_moveBase 9 = .ok (.putfield 164, 3) := by decide +kernel
theorem d_X_moveBase_12 : decode b_X_moveBase 12 = .ok (.aload_n 3, 1) := by decide +kernel
theorem d_X_moveBase_13 : decode b_X_moveBase 13 = .ok (.aload_n 3, 1) := by decide +kernel
theorem d_X_moveBase_14 : decode b_X_moveBase 14 = .ok (.getfield 167, 3) := by decide +kernel
theorem d_X_moveBase_17 : decode b_X_moveBase 17 = .ok (.iload_n 2, 1) := by decide +kernel
theorem d_X_moveBase_18 : decode b_X_moveBase 18 = .ok (.invokestatic 251, 3) := by decide +kernel
theorem d_X_moveBase_21 : decode b_X_moveBase 21 = .ok (.putfield 167, 3) := by decide +kernel
theorem d_X_moveBase_24 : decode b_X_moveBase 24 = .ok (.aload_n 0, 1) := by decide +kernel
theorem d_X_moveBase_25 : decode b_X_moveBase 25 = .ok (.getfield 38, 3) := by decide +kernel
theorem d_X_moveBase_28 : decode b_X_moveBase 28 = .ok (.iload_n 1, 1) := by decide +kernel
theorem d_X_moveBase_29 : decode b_X_moveBase 29 = .ok (.invokevirtual 194, 3) := by decide +kernel
theorem d_X_moveBase_32 : decode b_X_moveBase 32 = .ok (.aload_n 3, 1) := by decide +kernel
theorem d_X_moveBase_33 : decode b_X_moveBase 33 = .ok (.getfield 164, 3) := by decide +kernel
theorem d_X_moveBase_36 : decode b_X_moveBase 36 = .ok (.aload_n 3, 1) := by decide +kernel
theorem d_X_moveBase_37 : decode b_X_moveBase 37 = .ok (.getfield 167, 3) := by decide +kernel
theorem d_X_moveBase_40 : decode b_X_moveBase 40 = .ok (.if_icmp .ge 8, 3) := by decide +kernel
theorem d_X_moveBase_43 : decode b_X_moveBase 43 = .ok (.aload_n 0, 1) := by decide +kernel
theorem d_X_moveBase_44 : decode b_X_moveBase 44 = .ok (.iload_n 1, 1) := by decide +kernel
theorem d_X_moveBase_45 : decode b_X_moveBase 45 = .ok (.invokevirtual 257, 3) := by decide +kernel
theorem d_X_moveBase_48 : decode b_X_moveBase 48 = .ok (.return_, 1) := by decide +kernel
theorem d_X_takeData_0 : decode b_X_takeData 0 = .ok (.aload_n 0, 1) := by decide +kernel
theorem d_X_takeData_1 : decode b_X_takeData 1 = .ok (.getfield 23, 3) := by decide +kernel
theorem d_X_takeData_4 : decode b_X_takeData 4 = .ok (.iload_n 1, 1) := by decide +kernel
theorem d_X_takeData_5 : decode b_X_takeData 5 = .ok (.aaload, 1) := by decide +kernel
theorem d_X_takeData_6 : decode b_X_takeData 6 = .ok (.astore_n 3, 1) := by decide +kernel
theorem d_X_takeData_7 : decode b_X_takeData 7 = .ok (.iload_n 2, 1) := by decide +kernel
theorem d_X_takeData_8 : decode b_X_takeData 8 = .ok (.aload_n 3, 1) := by decide +kernel
theorem d_X_takeData_9 : decode b_X_takeData 9 = .ok (.getfield 170, 3) := by decide +kernel
theorem d_X_takeData_12 : decode b_X_takeData 12 = .ok (.if_icmp .ne 13, 3) := by decide +kernel
theorem d_X_takeData_15 : decode b_X_takeData 15 = .ok (.aload_n 3, 1) := by decide +kernel
theorem d_X_takeData_16 : decode b_X_takeData 16 = .ok (.dup, 1) := by decide +kernel
theorem d_X_takeData_17 : decode b_X_takeData 17 = .ok (.getfield 170, 3) := by decide +kernel
theorem d_X_takeData_20 : decode b_X_takeData 20 = .ok (.iconst 1, 1) := by decide +kernel
theorem d_X_takeData_21 : decode b_X_takeData 21 = .ok (.iadd, 1) := by decide +kernel
theorem d_X_takeData_22 : decode b_X_takeData 22 = .ok (.putfield 170, 3) := by decide +kernel
theorem d_X_takeData_25 : decode b_X_takeData 25 = .ok (.aload_n 0, 1) := by decide +kernel
theorem d_X_takeData_26 : decode b_X_takeData 26 = .ok (.aload_n 0, 1) := by decide +kernel
theorem d_X_takeData_27 : decode b_X_takeData 27 = .ok (.iload_n 1, 1) := by decide +kernel
theorem d_X_takeData_28 : decode b_X_takeData 28 = .ok (.aload_n 3, 1) := by decide +kernel
theorem d_X_takeData_29 : decode b_X_takeData 29 = .ok (.getfield 170, 3) := by decide +kernel
theorem d_X_takeData_32 : decode b_X_takeData 32 = .ok (.iconst 1, 1) := by decide +kernel
theorem d_X_takeData_33 : decode b_X_takeData 33 = .ok (.invokevirtual 244, 3) := by decide +kernel
theorem d_X_takeData_36 : decode b_X_takeData 36 = .ok (.aload_n 3, 1) := by decide +kernel
theorem d_X_takeData_37 : decode b_X_takeData 37 = .ok (.getfield 248, 3) := by decide +kernel
theorem d_X_takeData_40 : decode b_X_takeData 40 = .ok (.invokevirtual 228, 3) := by decide +kernel
theorem d_X_takeData_43 : decode b_X_takeData 43 = .ok (.return_, 1) := by decide +kernel
theorem d_X_arrive_0 : decode b_X_arrive 0 = .ok (.aload_n 0, 1) := by decide +kernel
theorem d_X_arrive_1 : decode b_X_arrive 1 = .ok (.getfield 30, 3) := by decide +kernel
theorem d_X_arrive_4 : decode b_X_arrive 4 = .ok (.iload_n 1, 1) := by decide +kernel
theorem d_X_arrive_5 : decode b_X_arrive 5 = .ok (.aaload, 1) := by decide +kernel
theorem d_X_arrive_6 : decode b_X_arrive 6 = .ok (.astore_n 2, 1) := by decide +kernel
theorem d_X_arrive_7 : decode b_X_arrive 7 = .ok (.aload_n 0, 1) := by decide +kernel
theorem d_X_arrive_8 : decode b_X_arrive 8 = .ok (.getfield 16, 3) := by decide +kernel
theorem d_X_arrive_11 : decode b_X_arrive 11 = .ok (.aload_n 2, 1) := by decide +kernel
theorem d_X_arrive_12 : decode b_X_arrive 12 = .ok (.getfield 215, 3) := by decide +kernel
theorem d_X_arrive_15 : decode b_X_arrive 15 = .ok (.aaload, 1) := by decide +kernel
theorem d_X_arrive_16 : decode b_X_arrive 16 = .ok (.getfield 134, 3) := by decide +kernel
theorem d_X_arrive_19 : decode b_X_arrive 19 = .ok (.istore_n 3, 1) := by decide +kernel
theorem d_X_arrive_20 : decode b_X_arrive 20 = .ok (.aload_n 0, 1) := by decide +kernel
theorem d_X_arrive_21 : decode b_X_arrive 21 = .ok (.iconst 3, 1) := by decide +kernel
theorem d_X_arrive_22 : decode b_X_arrive 22 = .ok (.iload_n 3, 1) := by decide +kernel
theorem d_X_arrive_23 : decode b_X_arrive 23 = .ok (.aload_n 2, 1) := by decide +kernel
theorem d_X_arrive_24 : decode b_X_arrive 24 = .ok (.invokevirtual 154, 3) := by decide +kernel
theorem d_X_arrive_27 : decode b_X_arrive 27 = .ok (.invokevirtual 210, 3) := by decide +kernel
theorem d_X_arrive_30 : decode b_X_arrive 30 = .ok (.iload_n 3, 1) := by decide +kernel
theorem d_X_arrive_31 : decode b_X_arrive 31 = .ok (.aload_n 2, 1) := by decide +kernel
theorem d_X_arrive_32 : decode b_X_arrive 32 = .ok (.getfield 225, 3) := by decide +kernel
theorem d_X_arrive_35 : decode b_X_arrive 35 = .ok (.if_icmp .eq 10, 3) := by decide +kernel
theorem d_X_arrive_38 : decode b_X_arrive 38 = .ok (.aload_n 0, 1) := by decide +kernel
theorem d_X_arrive_39 : decode b_X_arrive 39 = .ok (.iload_n 1, 1) := by decide +kernel
theorem d_X_arrive_40 : decode b_X_arrive 40 = .ok (.iload_n 3, 1) := by decide +kernel
theorem d_X_arrive_41 : decode b_X_arrive 41 = .ok (.invokevirtual 228, 3) := by decide +kernel
theorem d_X_arrive_44 : decode b_X_arrive 44 = .ok (.return_, 1) := by decide +kernel
theorem d_X_arrive_45 : decode b_X_arrive 45 = .ok (.aload_n 2, 1) := by decide +kernel
theorem d_X_arrive_46 : decode b_X_arrive 46 = .ok (.iconst 0, 1) := by decide +kernel
theorem d_X_arrive_47 : decode b_X_arrive 47 = .ok (.putfield 110, 3) := by decide +kernel
theorem d_X_arrive_50 : decode b_X_arrive 50 = .ok (.aload_n 0, 1) := by decide +kernel
theorem d_X_arrive_51 : decode b_X_arrive 51 = .ok (.getfield 23, 3) := by decide +kernel
theorem d_X_arrive_54 : decode b_X_arrive 54 = .ok (.aload_n 2, 1) := by decide +kernel
theorem d_X_arrive_55 : decode b_X_arrive 55 = .ok (.getfield 151, 3) := by decide +kernel
theorem d_X_arrive_58 : decode b_X_arrive 58 = .ok (.aaload, 1) := by decide +kernel
theorem d_X_arrive_59 : decode b_X_arrive 59 = .ok (.dup, 1) := by decide +kernel
theorem d_X_arrive_60 : decode b_X_arrive 60 = .ok (.getfield 176, 3) := by decide +kernel
theorem d_X_arrive_63 : decode b_X_arrive 63 = .ok (.iconst 1, 1) := by decide +kernel
theorem d_X_arrive_64 : decode b_X_arrive 64 = .ok (.iadd, 1) := by decide +kernel
theorem d_X_arrive_65 : decode b_X_arrive 65 = .ok (.putfield 176, 3) := by decide +kernel
theorem d_X_arrive_68 : decode b_X_arrive 68 = .ok (.aload_n 2, 1) := by decide +kernel
theorem d_X_arrive_69 : decode b_X_arrive 69 = .ok (.getfield 232, 3) := by decide +kernel
theorem d_X_arrive_72 : decode b_X_arrive 72 = .ok (.ifCond .ne 18, 3) := by decide +kernel
theorem d_X_arrive_75 : decode b_X_arrive 75 = .ok (.aload_n 0, 1) := by decide +kernel
theorem d_X_arrive_76 : decode b_X_arrive 76 = .ok (.aload_n 2, 1) := by decide +kernel
theorem d_X_arrive_77 : decode b_X_arrive 77 = .ok (.getfield 151, 3) := by decide +kernel
theorem d_X_arrive_80 : decode b_X_arrive 80 = .ok (.aload_n 2, 1) := by decide +kernel
theorem d_X_arrive_81 : decode b_X_arrive 81 = .ok (.getfield 235, 3) := by decide +kernel
theorem d_X_arrive_84 : decode b_X_arrive 84 = .ok (.invokevirtual 238, 3) := by decide +kernel
theorem d_X_arrive_87 : decode b_X_arrive 87 = .ok (.goto 42, 3) := by decide +kernel
theorem d_X_arrive_90 : decode b_X_arrive 90 = .ok (.aload_n 2, 1) := by decide +kernel
theorem d_X_arrive_91 : decode b_X_arrive 91 = .ok (.getfield 235, 3) := by decide +kernel
theorem d_X_arrive_94 : decode b_X_arrive 94 = .ok (.aload_n 0, 1) := by decide +kernel
theorem d_X_arrive_95 : decode b_X_arrive 95 = .ok (.getfield 23, 3) := by decide +kernel
theorem d_X_arrive_98 : decode b_X_arrive 98 = .ok (.aload_n 2, 1) := by decide +kernel
theorem d_X_arrive_99 : decode b_X_arrive 99 = .ok (.getfield 151, 3) := by decide +kernel
theorem d_X_arrive_102 : decode b_X_arrive 102 = .ok (.aaload, 1) := by decide +kernel
theorem d_X_arrive_103 : decode b_X_arrive 103 = .ok (.getfield 164, 3) := by decide +kernel
theorem d_X_arrive_106 : decode b_X_arrive 106 = .ok (.if_icmp .le 23, 3) := by decide +kernel
theorem d_X_arrive_109 : decode b_X_arrive 109 = .ok (.aload_n 0, 1) := by decide +kernel
theorem d_X_arrive_110 : decode b_X_arrive 110 = .ok (.aload_n 2, 1) := by decide +kernel
theorem d_X_arrive_111 : decode b_X_arrive 111 = .ok (.getfield 151, 3) := by decide +kernel
theorem d_X_arrive_114 : decode b_X_arrive 114 = .ok (.aload_n 2, 1) := by decide +kernel
theorem d_X_arrive_115 : decode b_X_arrive 115 = .ok (.getfield 235, 3) := by decide +kernel
theorem d_X_arrive_118 : decode b_X_arrive 118 = .ok (.invokevirtual 241, 3) := by decide +kernel
theorem d_X_arrive_121 : decode b_X_arrive 121 = .ok (.aload_n 0, 1) := by decide +kernel
theorem d_X_arrive_122 : decode b_X_arrive 122 = .ok (.aload_n 2, 1) := by decide +kernel
theorem d_X_arrive_123 : decode b_X_arrive 123 = .ok (.getfield 151, 3) := by decide +kernel
theorem d_X_arrive_126 : decode b_X_arrive 126 = .ok (.invokevirtual 213, 3) := by decide +kernel
theorem d_X_arrive_129 : decode b_X_arrive 129 = .ok (.return_, 1) := by decide +kernel
theorem d_X_timeOut_0 : decode b_X_timeOut 0 = .ok (.aload_n 0, 1) := by decide +kernel
theorem d_X_timeOut_1 : decode b_X_timeOut 1 = .ok (.getfield 23, 3) := by decide +kernel
theorem d_X_timeOut_4 : decode b_X_timeOut 4 = .ok (.iload_n 1, 1) := by decide +kernel
theorem d_X_timeOut_5 : decode b_X_timeOut 5 = .ok (.aaload, 1) := by decide +kernel
theorem d_X_timeOut_6 : decode b_X_timeOut 6 = .ok (.astore_n 2, 1) := by decide +kernel
theorem d_X_timeOut_7 : decode b_X_timeOut 7 = .ok (.aload_n 0, 1) := by decide +kernel
theorem d_X_timeOut_8 : decode b_X_timeOut 8 = .ok (.iconst 4, 1) := by decide +kernel
theorem d_X_timeOut_9 : decode b_X_timeOut 9 = .ok (.iload_n 1, 1) := by decide +kernel
theorem d_X_timeOut_10 : decode b_X_timeOut 10 = .ok (.aload_n 2, 1) := by decide +kernel
theorem d_X_timeOut_11 : decode b_X_timeOut 11 = .ok (.getfield 164, 3) := by decide +kernel
theorem d_X_timeOut_14 : decode b_X_timeOut 14 = .ok (.invokevirtual 210, 3) := by decide +kernel
theorem d_X_timeOut_17 : decode b_X_timeOut 17 = .ok (.aload_n 2, 1) := by decide +kernel
theorem d_X_timeOut_18 : decode b_X_timeOut 18 = .ok (.dup, 1) := by decide +kernel
theorem d_X_timeOut_19 : decode b_X_timeOut 19 = .ok (.getfield 182, 3) := by decide +kernel
theorem d_X_timeOut_22 : decode b_X_timeOut 22 = .ok (.iconst 1, 1) := by decide +kernel
theorem d_X_timeOut_23 : decode b_X_timeOut 23 = .ok (.iadd, 1) := by decide +kernel
theorem d_X_timeOut_24 : decode b_X_timeOut 24 = .ok (.putfield 182, 3) := by decide +kernel
theorem d_X_timeOut_27 : decode b_X_timeOut 27 = .ok (.aload_n 2, 1) := by decide +kernel
theorem d_X_timeOut_28 : decode b_X_timeOut 28 = .ok (.aload_n 2, 1) := by decide +kernel
theorem d_X_timeOut_29 : decode b_X_timeOut 29 = .ok (.getfield 164, 3) := by decide +kernel
theorem d_X_timeOut_32 : decode b_X_timeOut 32 = .ok (.putfield 167, 3) := by decide +kernel
theorem d_X_timeOut_35 : decode b_X_timeOut 35 = .ok (.aload_n 0, 1) := by decide +kernel
theorem d_X_timeOut_36 : decode b_X_timeOut 36 = .ok (.iload_n 1, 1) := by decide +kernel
theorem d_X_timeOut_37 : decode b_X_timeOut 37 = .ok (.invokevirtual 213, 3) := by decide +kernel
theorem d_X_timeOut_40 : decode b_X_timeOut 40 = .ok (.return_, 1) := by decide +kernel
theorem d_X_happen_0 : decode b_X_happen 0 = .ok (.aload_n 0, 1) := by decide +kernel
theorem d_X_happen_1 : decode b_X_happen 1 = .ok (.getfield 38, 3) := by decide +kernel
theorem d_X_happen_4 : decode b_X_happen 4 = .ok (.invokevirtual 188, 3) := by decide +kernel
theorem d_X_happen_7 : decode b_X_happen 7 = .ok (.istore_n 1, 1) := by decide +kernel
theorem d_X_happen_8 : decode b_X_happen 8 = .ok (.iload_n 1, 1) := by decide +kernel
theorem d_X_happen_9 : decode b_X_happen 9 = .ok (.iconst (-1), 1) := by decide +kernel
theorem d_X_happen_10 : decode b_X_happen 10 = .ok (.if_icmp .ne 5, 3) := by decide +kernel
theorem d_X_happen_13 : decode b_X_happen 13 = .ok (.iconst 0, 1) := by decide +kernel
theorem d_X_happen_14 : decode b_X_happen 14 = .ok (.ireturn, 1) := by decide +kernel
theorem d_X_happen_15 : decode b_X_happen 15 = .ok (.aload_n 0, 1) := by decide +kernel
theorem d_X_happen_16 : decode b_X_happen 16 = .ok (.aload_n 0, 1) := by decide +kernel
theorem d_X_happen_17 : decode b_X_happen 17 = .ok (.getfield 38, 3) := by decide +kernel
theorem d_X_happen_20 : decode b_X_happen 20 = .ok (.getfield 161, 3) := by decide +kernel
theorem d_X_happen_23 : decode b_X_happen 23 = .ok (.iload_n 1, 1) := by decide +kernel
theorem d_X_happen_24 : decode b_X_happen 24 = .ok (.iaload, 1) := by decide +kernel
theorem d_X_happen_25 : decode b_X_happen 25 = .ok (.putfield 101, 3) := by decide +kernel
theorem d_X_happen_28 : decode b_X_happen 28 = .ok (.aload_n 0, 1) := by decide +kernel
theorem d_X_happen_29 : decode b_X_happen 29 = .ok (.getfield 38, 3) := by decide +kernel
theorem d_X_happen_32 : decode b_X_happen 32 = .ok (.getfield 191, 3) := by decide +kernel
theorem d_X_happen_35 : decode b_X_happen 35 = .ok (.iload_n 1, 1) := by decide +kernel
theorem d_X_happen_36 : decode b_X_happen 36 = .ok (.iaload, 1) := by decide +kernel
theorem d_X_happen_37 : decode b_X_happen 37 = .ok (.istore_n 2, 1) := by decide +kernel
theorem d_X_happen_38 : decode b_X_happen 38 = .ok (.aload_n 0, 1) := by decide +kernel
theorem d_X_happen_39 : decode b_X_happen 39 = .ok (.getfield 38, 3) := by decide +kernel
theorem d_X_happen_42 : decode b_X_happen 42 = .ok (.iload_n 1, 1) := by decide +kernel
theorem d_X_happen_43 : decode b_X_happen 43 = .ok (.invokevirtual 194, 3) := by decide +kernel
theorem d_X_happen_46 : decode b_X_happen 46 = .ok (.iload_n 2, 1) := by decide +kernel
theorem d_X_happen_47 : decode b_X_happen 47 = .ok (.tableswitch 55 1 3 #[25, 33, 44], 25) := by decide +kernel
theorem d_X_happen_72 : decode b_X_happen 72 = .ok (.aload_n 0, 1) := by decide +kernel
theorem d_X_happen_73 : decode b_X_happen 73 = .ok (.iload_n 1, 1) := by decide +kernel
theorem d_X_happen_74 : decode b_X_happen 74 = .ok (.invokevirtual 198, 3) := by decide +kernel
theorem d_X_happen_77 : decode b_X_happen 77 = .ok (.goto 30, 3) := by decide +kernel
theorem d_X_happen_80 : decode b_X_happen 80 = .ok (.aload_n 0, 1) := by decide +kernel
theorem d_X_happen_81 : decode b_X_happen 81 = .ok (.iload_n 1, 1) := by decide +kernel
theorem d_X_happen_82 : decode b_X_happen 82 = .ok (.bipush 6, 2) := by decide +kernel
theorem d_X_happen_84 : decode b_X_happen 84 = .ok (.isub, 1) := by decide +kernel
theorem d_X_happen_85 : decode b_X_happen 85 = .ok (.invokevirtual 201, 3) := by decide +kernel
theorem d_X_happen_88 : decode b_X_happen 88 = .ok (.goto 19, 3) := by decide +kernel
theorem d_X_happen_91 : decode b_X_happen 91 = .ok (.aload_n 0, 1) := by decide +kernel
theorem d_X_happen_92 : decode b_X_happen 92 = .ok (.iload_n 1, 1) := by decide +kernel
theorem d_X_happen_93 : decode b_X_happen 93 = .ok (.bipush 6, 2) := by decide +kernel
theorem d_X_happen_95 : decode b_X_happen 95 = .ok (.isub, 1) := by decide +kernel
theorem d_X_happen_96 : decode b_X_happen 96 = .ok (.invokevirtual 204, 3) := by decide +kernel
theorem d_X_happen_99 : decode b_X_happen 99 = .ok (.goto 8, 3) := by decide +kernel
theorem d_X_happen_102 : decode b_X_happen 102 = .ok (.aload_n 0, 1) := by decide +kernel
theorem d_X_happen_103 : decode b_X_happen 103 = .ok (.iload_n 1, 1) := by decide +kernel
theorem d_X_happen_104 : decode b_X_happen 104 = .ok (.invokevirtual 207, 3) := by decide +kernel
theorem d_X_happen_107 : decode b_X_happen 107 = .ok (.iconst 1, 1) := by decide +kernel
theorem d_X_happen_108 : decode b_X_happen 108 = .ok (.ireturn, 1) := by decide +kernel
theorem d_X_step_0 : decode b_X_step 0 = .ok (.aload_n 0, 1) := by decide +kernel
theorem d_X_step_1 : decode b_X_step 1 = .ok (.invokevirtual 121, 3) := by decide +kernel
theorem d_X_step_4 : decode b_X_step 4 = .ok (.aload_n 0, 1) := by decide +kernel
theorem d_X_step_5 : decode b_X_step 5 = .ok (.invokevirtual 124, 3) := by decide +kernel
theorem d_X_step_8 : decode b_X_step 8 = .ok (.ireturn, 1) := by decide +kernel
theorem d_X_run_0 : decode b_X_run 0 = .ok (.iload_n 1, 1) := by decide +kernel
theorem d_X_run_1 : decode b_X_run 1 = .ok (.iconst 0, 1) := by decide +kernel
theorem d_X_run_2 : decode b_X_run 2 = .ok (.bipush 50, 2) := by decide +kernel
theorem d_X_run_4 : decode b_X_run 4 = .ok (.invokestatic 61, 3) := by decide +kernel
theorem d_X_run_7 : decode b_X_run 7 = .ok (.ifCond .ne 5, 3) := by decide +kernel
theorem d_X_run_10 : decode b_X_run 10 = .ok (.iconst (-1), 1) := by decide +kernel
theorem d_X_run_11 : decode b_X_run 11 = .ok (.ireturn, 1) := by decide +kernel
theorem d_X_run_12 : decode b_X_run 12 = .ok (.iload_n 1, 1) := by decide +kernel
theorem d_X_run_13 : decode b_X_run 13 = .ok (.ifCond .le 7, 3) := by decide +kernel
theorem d_X_run_16 : decode b_X_run 16 = .ok (.aload_n 0, 1) := by decide +kernel
theorem d_X_run_17 : decode b_X_run 17 = .ok (.invokevirtual 121, 3) := by decide +kernel
theorem d_X_run_20 : decode b_X_run 20 = .ok (.iconst 0, 1) := by decide +kernel
theorem d_X_run_21 : decode b_X_run 21 = .ok (.istore_n 2, 1) := by decide +kernel
theorem d_X_run_22 : decode b_X_run 22 = .ok (.iload_n 2, 1) := by decide +kernel
theorem d_X_run_23 : decode b_X_run 23 = .ok (.iload_n 1, 1) := by decide +kernel
theorem d_X_run_24 : decode b_X_run 24 = .ok (.if_icmp .ge 16, 3) := by decide +kernel
theorem d_X_run_27 : decode b_X_run 27 = .ok (.aload_n 0, 1) := by decide +kernel
theorem d_X_run_28 : decode b_X_run 28 = .ok (.invokevirtual 124, 3) := by decide +kernel
theorem d_X_run_31 : decode b_X_run 31 = .ok (.ifCond .eq 9, 3) := by decide +kernel
theorem d_X_run_34 : decode b_X_run 34 = .ok (.iinc 2 1, 3) := by decide +kernel
theorem d_X_run_37 : decode b_X_run 37 = .ok (.goto (-15), 3) := by decide +kernel
theorem d_X_run_40 : decode b_X_run 40 = .ok (.iload_n 2, 1) := by decide +kernel
theorem d_X_run_41 : decode b_X_run 41 = .ok (.ireturn, 1) := by decide +kernel
theorem d_X_now_0 : decode b_X_now 0 = .ok (.aload_n 0, 1) := by decide +kernel
theorem d_X_now_1 : decode b_X_now 1 = .ok (.getfield 101, 3) := by decide +kernel
theorem d_X_now_4 : decode b_X_now 4 = .ok (.ireturn, 1) := by decide +kernel
theorem d_X_trace_0 : decode b_X_trace 0 = .ok (.iload_n 1, 1) := by decide +kernel
theorem d_X_trace_1 : decode b_X_trace 1 = .ok (.iconst 0, 1) := by decide +kernel
theorem d_X_trace_2 : decode b_X_trace 2 = .ok (.bipush 15, 2) := by decide +kernel
theorem d_X_trace_4 : decode b_X_trace 4 = .ok (.invokestatic 61, 3) := by decide +kernel
theorem d_X_trace_7 : decode b_X_trace 7 = .ok (.ifCond .eq 12, 3) := by decide +kernel
theorem d_X_trace_10 : decode b_X_trace 10 = .ok (.aload_n 0, 1) := by decide +kernel
theorem d_X_trace_11 : decode b_X_trace 11 = .ok (.getfield 42, 3) := by decide +kernel
theorem d_X_trace_14 : decode b_X_trace 14 = .ok (.iload_n 1, 1) := by decide +kernel
theorem d_X_trace_15 : decode b_X_trace 15 = .ok (.laload, 1) := by decide +kernel
theorem d_X_trace_16 : decode b_X_trace 16 = .ok (.goto 6, 3) := by decide +kernel
theorem d_X_trace_19 : decode b_X_trace 19 = .ok (.ldc2_w 116, 3) := by decide +kernel
theorem d_X_trace_22 : decode b_X_trace 22 = .ok (.lreturn, 1) := by decide +kernel
theorem d_X_distance_0 : decode b_X_distance 0 = .ok (.iload_n 1, 1) := by decide +kernel
theorem d_X_distance_1 : decode b_X_distance 1 = .ok (.invokestatic 57, 3) := by decide +kernel
theorem d_X_distance_4 : decode b_X_distance 4 = .ok (.ifCond .eq 21, 3) := by decide +kernel
theorem d_X_distance_7 : decode b_X_distance 7 = .ok (.iload_n 2, 1) := by decide +kernel
theorem d_X_distance_8 : decode b_X_distance 8 = .ok (.invokestatic 57, 3) := by decide +kernel
theorem d_X_distance_11 : decode b_X_distance 11 = .ok (.ifCond .eq 14, 3) := by decide +kernel
theorem d_X_distance_14 : decode b_X_distance 14 = .ok (.aload_n 0, 1) := by decide +kernel
theorem d_X_distance_15 : decode b_X_distance 15 = .ok (.getfield 11, 3) := by decide +kernel
theorem d_X_distance_18 : decode b_X_distance 18 = .ok (.iload_n 1, 1) := by decide +kernel
theorem d_X_distance_19 : decode b_X_distance 19 = .ok (.aaload, 1) := by decide +kernel
theorem d_X_distance_20 : decode b_X_distance 20 = .ok (.iload_n 2, 1) := by decide +kernel
theorem d_X_distance_21 : decode b_X_distance 21 = .ok (.iaload, 1) := by decide +kernel
theorem d_X_distance_22 : decode b_X_distance 22 = .ok (.goto 4, 3) := by decide +kernel
theorem d_X_distance_25 : decode b_X_distance 25 = .ok (.iconst (-1), 1) := by decide +kernel
theorem d_X_distance_26 : decode b_X_distance 26 = .ok (.ireturn, 1) := by decide +kernel
theorem d_X_waiting_0 : decode b_X_waiting 0 = .ok (.aload_n 0, 1) := by decide +kernel
theorem d_X_waiting_1 : decode b_X_waiting 1 = .ok (.iload_n 1, 1) := by decide +kernel
theorem d_X_waiting_2 : decode b_X_waiting 2 = .ok (.invokevirtual 73, 3) := by decide +kernel
theorem d_X_waiting_5 : decode b_X_waiting 5 = .ok (.ifCond .ne 5, 3) := by decide +kernel
theorem d_X_waiting_8 : decode b_X_waiting 8 = .ok (.iconst (-1), 1) := by decide +kernel
theorem d_X_waiting_9 : decode b_X_waiting 9 = .ok (.ireturn, 1) := by decide +kernel
theorem d_X_waiting_10 : decode b_X_waiting 10 = .ok (.iload_n 2, 1) := by decide +kernel
theorem d_X_waiting_11 : decode b_X_waiting 11 = .ok (.iconst (-1), 1) := by decide +kernel
theorem d_X_waiting_12 : decode b_X_waiting 12 = .ok (.if_icmp .ne 13, 3) := by decide +kernel
theorem d_X_waiting_15 : decode b_X_waiting 15 = .ok (.aload_n 0, 1) := by decide +kernel
theorem d_X_waiting_16 : decode b_X_waiting 16 = .ok (.getfield 16, 3) := by decide +kernel
theorem d_X_waiting_19 : decode b_X_waiting 19 = .ok (.iload_n 1, 1) := by decide +kernel
theorem d_X_waiting_20 : decode b_X_waiting 20 = .ok (.aaload, 1) := by decide +kernel
theorem d_X_waiting_21 : decode b_X_waiting 21 = .ok (.getfield 137, 3) := by decide +kernel
theorem d_X_waiting_24 : decode b_X_waiting 24 = .ok (.ireturn, 1) := by decide +kernel
theorem d_X_waiting_25 : decode b_X_waiting 25 = .ok (.aload_n 0, 1) := by decide +kernel
theorem d_X_waiting_26 : decode b_X_waiting 26 = .ok (.iload_n 2, 1) := by decide +kernel
theorem d_X_waiting_27 : decode b_X_waiting 27 = .ok (.invokevirtual 89, 3) := by decide +kernel
theorem d_X_waiting_30 : decode b_X_waiting 30 = .ok (.ifCond .eq 17, 3) := by decide +kernel
theorem d_X_waiting_33 : decode b_X_waiting 33 = .ok (.aload_n 0, 1) := by decide +kernel
theorem d_X_waiting_34 : decode b_X_waiting 34 = .ok (.aload_n 0, 1) := by decide +kernel
theorem d_X_waiting_35 : decode b_X_waiting 35 = .ok (.getfield 16, 3) := by decide +kernel
theorem d_X_waiting_38 : decode b_X_waiting 38 = .ok (.iload_n 1, 1) := by decide +kernel
theorem d_X_waiting_39 : decode b_X_waiting 39 = .ok (.aaload, 1) := by decide +kernel
theorem d_X_waiting_40 : decode b_X_waiting 40 = .ok (.iload_n 2, 1) := by decide +kernel
theorem d_X_waiting_41 : decode b_X_waiting 41 = .ok (.invokevirtual 140, 3) := by decide +kernel
theorem d_X_waiting_44 : decode b_X_waiting 44 = .ok (.goto 4, 3) := by decide +kernel
theorem d_X_waiting_47 : decode b_X_waiting 47 = .ok (.iconst (-1), 1) := by decide +kernel
theorem d_X_waiting_48 : decode b_X_waiting 48 = .ok (.ireturn, 1) := by decide +kernel
theorem d_X_deficit_0 : decode b_X_deficit 0 = .ok (.aload_n 0, 1) := by decide +kernel
theorem d_X_deficit_1 : decode b_X_deficit 1 = .ok (.iload_n 1, 1) := by decide +kernel
theorem d_X_deficit_2 : decode b_X_deficit 2 = .ok (.invokevirtual 73, 3) := by decide +kernel
theorem d_X_deficit_5 : decode b_X_deficit 5 = .ok (.ifCond .eq 25, 3) := by decide +kernel
theorem d_X_deficit_8 : decode b_X_deficit 8 = .ok (.aload_n 0, 1) := by decide +kernel
theorem d_X_deficit_9 : decode b_X_deficit 9 = .ok (.iload_n 2, 1) := by decide +kernel
theorem d_X_deficit_10 : decode b_X_deficit 10 = .ok (.invokevirtual 89, 3) := by decide +kernel
theorem d_X_deficit_13 : decode b_X_deficit 13 = .ok (.ifCond .eq 17, 3) := by decide +kernel
theorem d_X_deficit_16 : decode b_X_deficit 16 = .ok (.aload_n 0, 1) := by decide +kernel
theorem d_X_deficit_17 : decode b_X_deficit 17 = .ok (.getfield 16, 3) := by decide +kernel
theorem d_X_deficit_20 : decode b_X_deficit 20 = .ok (.iload_n 1, 1) := by decide +kernel
theorem d_X_deficit_21 : decode b_X_deficit 21 = .ok (.aaload, 1) := by decide +kernel
theorem d_X_deficit_22 : decode b_X_deficit 22 = .ok (.getfield 144, 3) := by decide +kernel
theorem d_X_deficit_25 : decode b_X_deficit 25 = .ok (.iload_n 2, 1) := by decide +kernel
theorem d_X_deficit_26 : decode b_X_deficit 26 = .ok (.iaload, 1) := by decide +kernel
theorem d_X_deficit_27 : decode b_X_deficit 27 = .ok (.goto 4, 3) := by decide +kernel
theorem d_X_deficit_30 : decode b_X_deficit 30 = .ok (.iconst (-1), 1) := by decide +kernel
theorem d_X_deficit_31 : decode b_X_deficit 31 = .ok (.ireturn, 1) := by decide +kernel
theorem d_X_onPort_0 : decode b_X_onPort 0 = .ok (.aload_n 0, 1) := by decide +kernel
theorem d_X_onPort_1 : decode b_X_onPort 1 = .ok (.iload_n 1, 1) := by decide +kernel
theorem d_X_onPort_2 : decode b_X_onPort 2 = .ok (.invokevirtual 73, 3) := by decide +kernel
theorem d_X_onPort_5 : decode b_X_onPort 5 = .ok (.ifCond .eq 16, 3) := by decide +kernel
theorem d_X_onPort_8 : decode b_X_onPort 8 = .ok (.aload_n 0, 1) := by decide +kernel
theorem d_X_onPort_9 : decode b_X_onPort 9 = .ok (.getfield 16, 3) := by decide +kernel
theorem d_X_onPort_12 : decode b_X_onPort 12 = .ok (.iload_n 1, 1) := by decide +kernel
theorem d_X_onPort_13 : decode b_X_onPort 13 = .ok (.aaload, 1) := by decide +kernel
theorem d_X_onPort_14 : decode b_X_onPort 14 = .ok (.getfield 148, 3) := by decide +kernel
theorem d_X_onPort_17 : decode b_X_onPort 17 = .ok (.iconst (-1), 1) := by decide +kernel
theorem d_X_onPort_18 : decode b_X_onPort 18 = .ok (.if_icmp .ne 5, 3) := by decide +kernel
theorem d_X_onPort_21 : decode b_X_onPort 21 = .ok (.iconst (-1), 1) := by decide +kernel
theorem d_X_onPort_22 : decode b_X_onPort 22 = .ok (.ireturn, 1) := by decide +kernel
theorem d_X_onPort_23 : decode b_X_onPort 23 = .ok (.aload_n 0, 1) := by decide +kernel
theorem d_X_onPort_24 : decode b_X_onPort 24 = .ok (.getfield 30, 3) := by decide +kernel
theorem d_X_onPort_27 : decode b_X_onPort 27 = .ok (.aload_n 0, 1) := by decide +kernel
theorem d_X_onPort_28 : decode b_X_onPort 28 = .ok (.getfield 16, 3) := by decide +kernel
theorem d_X_onPort_31 : decode b_X_onPort 31 = .ok (.iload_n 1, 1) := by decide +kernel
theorem d_X_onPort_32 : decode b_X_onPort 32 = .ok (.aaload, 1) := by decide +kernel
theorem d_X_onPort_33 : decode b_X_onPort 33 = .ok (.getfield 148, 3) := by decide +kernel
theorem d_X_onPort_36 : decode b_X_onPort 36 = .ok (.aaload, 1) := by decide +kernel
theorem d_X_onPort_37 : decode b_X_onPort 37 = .ok (.astore_n 2, 1) := by decide +kernel
theorem d_X_onPort_38 : decode b_X_onPort 38 = .ok (.sipush 256, 3) := by decide +kernel
theorem d_X_onPort_41 : decode b_X_onPort 41 = .ok (.aload_n 2, 1) := by decide +kernel
theorem d_X_onPort_42 : decode b_X_onPort 42 = .ok (.getfield 151, 3) := by decide +kernel
theorem d_X_onPort_45 : decode b_X_onPort 45 = .ok (.imul, 1) := by decide +kernel
theorem d_X_onPort_46 : decode b_X_onPort 46 = .ok (.aload_n 2, 1) := by decide +kernel
theorem d_X_onPort_47 : decode b_X_onPort 47 = .ok (.invokevirtual 154, 3) := by decide +kernel
theorem d_X_onPort_50 : decode b_X_onPort 50 = .ok (.iadd, 1) := by decide +kernel
theorem d_X_onPort_51 : decode b_X_onPort 51 = .ok (.ireturn, 1) := by decide +kernel
theorem d_X_timer_0 : decode b_X_timer 0 = .ok (.aload_n 0, 1) := by decide +kernel
theorem d_X_timer_1 : decode b_X_timer 1 = .ok (.iload_n 1, 1) := by decide +kernel
theorem d_X_timer_2 : decode b_X_timer 2 = .ok (.invokevirtual 89, 3) := by decide +kernel
theorem d_X_timer_5 : decode b_X_timer 5 = .ok (.ifCond .eq 23, 3) := by decide +kernel
theorem d_X_timer_8 : decode b_X_timer 8 = .ok (.aload_n 0, 1) := by decide +kernel
theorem d_X_timer_9 : decode b_X_timer 9 = .ok (.iload_n 1, 1) := by decide +kernel
theorem d_X_timer_10 : decode b_X_timer 10 = .ok (.invokevirtual 158, 3) := by decide +kernel
theorem d_X_timer_13 : decode b_X_timer 13 = .ok (.ifCond .eq 15, 3) := by decide +kernel
theorem d_X_timer_16 : decode b_X_timer 16 = .ok (.aload_n 0, 1) := by decide +kernel
theorem d_X_timer_17 : decode b_X_timer 17 = .ok (.getfield 38, 3) := by decide +kernel
theorem d_X_timer_20 : decode b_X_timer 20 = .ok (.getfield 161, 3) := by decide +kernel
theorem d_X_timer_23 : decode b_X_timer 23 = .ok (.iload_n 1, 1) := by decide +kernel
theorem d_X_timer_24 : decode b_X_timer 24 = .ok (.iaload, 1) := by decide +kernel
theorem d_X_timer_25 : decode b_X_timer 25 = .ok (.goto 4, 3) := by decide +kernel
theorem d_X_timer_28 : decode b_X_timer 28 = .ok (.iconst (-1), 1) := by decide +kernel
theorem d_X_timer_29 : decode b_X_timer 29 = .ok (.ireturn, 1) := by decide +kernel
theorem d_X_count_0 : decode b_X_count 0 = .ok (.aload_n 0, 1) := by decide +kernel
theorem d_X_count_1 : decode b_X_count 1 = .ok (.iload_n 1, 1) := by decide +kernel
theorem d_X_count_2 : decode b_X_count 2 = .ok (.invokevirtual 89, 3) := by decide +kernel
theorem d_X_count_5 : decode b_X_count 5 = .ok (.ifCond .ne 5, 3) := by decide +kernel
theorem d_X_count_8 : decode b_X_count 8 = .ok (.iconst (-1), 1) := by decide +kernel
theorem d_X_count_9 : decode b_X_count 9 = .ok (.ireturn, 1) := by decide +kernel
theorem d_X_count_10 : decode b_X_count 10 = .ok (.iload_n 2, 1) := by decide +kernel
theorem d_X_count_11 : decode b_X_count 11 = .ok (.tableswitch 111 0 6 #[41, 51, 61, 71, 81, 91, 101], 41) := by decide +kernel
theorem d_X_count_52 : decode b_X_count 52 = .ok (.aload_n 0, 1) := by decide +kernel
theorem d_X_count_53 : decode b_X_count 53 = .ok (.getfield 23, 3) := by decide +kernel
theorem d_X_count_56 : decode b_X_count 56 = .ok (.iload_n 1, 1) := by decide +kernel
theorem d_X_count_57 : decode b_X_count 57 = .ok (.aaload, 1) := by decide +kernel
theorem d_X_count_58 : decode b_X_count 58 = .ok (.getfield 164, 3) := by decide +kernel
theorem d_X_count_61 : decode b_X_count 61 = .ok (.ireturn, 1) := by decide +kernel
theorem d_X_count_62 : decode b_X_count 62 = .ok (.aload_n 0, 1) := by decide +kernel
theorem d_X_count_63 : decode b_X_count 63 = .ok (.getfield 23, 3) := by decide +kernel
theorem d_X_count_66 : decode b_X_count 66 = .ok (.iload_n 1, 1) := by decide +kernel
theorem d_X_count_67 : decode b_X_count 67 = .ok (.aaload, 1) := by decide +kernel
theorem d_X_count_68 : decode b_X_count 68 = .ok (.getfield 167, 3) := by decide +kernel
theorem d_X_count_71 : decode b_X_count 71 = .ok (.ireturn, 1) := by decide +kernel
theorem d_X_count_72 : decode b_X_count 72 = .ok (.aload_n 0, 1) := by decide +kernel
theorem d_X_count_73 : decode b_X_count 73 = .ok (.getfield 23, 3) := by decide +kernel
theorem d_X_count_76 : decode b_X_count 76 = .ok (.iload_n 1, 1) := by decide +kernel
theorem d_X_count_77 : decode b_X_count 77 = .ok (.aaload, 1) := by decide +kernel
theorem d_X_count_78 : decode b_X_count 78 = .ok (.getfield 170, 3) := by decide +kernel
theorem d_X_count_81 : decode b_X_count 81 = .ok (.ireturn, 1) := by decide +kernel
theorem d_X_count_82 : decode b_X_count 82 = .ok (.aload_n 0, 1) := by decide +kernel
theorem d_X_count_83 : decode b_X_count 83 = .ok (.getfield 23, 3) := by decide +kernel
theorem d_X_count_86 : decode b_X_count 86 = .ok (.iload_n 1, 1) := by decide +kernel
theorem d_X_count_87 : decode b_X_count 87 = .ok (.aaload, 1) := by decide +kernel
theorem d_X_count_88 : decode b_X_count 88 = .ok (.getfield 173, 3) := by decide +kernel
theorem d_X_count_91 : decode b_X_count 91 = .ok (.ireturn, 1) := by decide +kernel
theorem d_X_count_92 : decode b_X_count 92 = .ok (.aload_n 0, 1) := by decide +kernel
theorem d_X_count_93 : decode b_X_count 93 = .ok (.getfield 23, 3) := by decide +kernel
theorem d_X_count_96 : decode b_X_count 96 = .ok (.iload_n 1, 1) := by decide +kernel
theorem d_X_count_97 : decode b_X_count 97 = .ok (.aaload, 1) := by decide +kernel
theorem d_X_count_98 : decode b_X_count 98 = .ok (.getfield 176, 3) := by decide +kernel
theorem d_X_count_101 : decode b_X_count 101 = .ok (.ireturn, 1) := by decide +kernel
theorem d_X_count_102 : decode b_X_count 102 = .ok (.aload_n 0, 1) := by decide +kernel
theorem d_X_count_103 : decode b_X_count 103 = .ok (.getfield 23, 3) := by decide +kernel
theorem d_X_count_106 : decode b_X_count 106 = .ok (.iload_n 1, 1) := by decide +kernel
theorem d_X_count_107 : decode b_X_count 107 = .ok (.aaload, 1) := by decide +kernel
theorem d_X_count_108 : decode b_X_count 108 = .ok (.getfield 179, 3) := by decide +kernel
theorem d_X_count_111 : decode b_X_count 111 = .ok (.ireturn, 1) := by decide +kernel
theorem d_X_count_112 : decode b_X_count 112 = .ok (.aload_n 0, 1) := by decide +kernel
theorem d_X_count_113 : decode b_X_count 113 = .ok (.getfield 23, 3) := by decide +kernel
theorem d_X_count_116 : decode b_X_count 116 = .ok (.iload_n 1, 1) := by decide +kernel
theorem d_X_count_117 : decode b_X_count 117 = .ok (.aaload, 1) := by decide +kernel
theorem d_X_count_118 : decode b_X_count 118 = .ok (.getfield 182, 3) := by decide +kernel
theorem d_X_count_121 : decode b_X_count 121 = .ok (.ireturn, 1) := by decide +kernel
theorem d_X_count_122 : decode b_X_count 122 = .ok (.iconst (-1), 1) := by decide +kernel
theorem d_X_count_123 : decode b_X_count 123 = .ok (.ireturn, 1) := by decide +kernel
