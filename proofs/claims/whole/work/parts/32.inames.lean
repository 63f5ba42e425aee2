abbrev b_X_init : ByteArray := prog_1_method_1_code
abbrev y_X_init : MethodName := ⟨"DeficitNet", "<init>", "()V"⟩
abbrev b_A_init : ByteArray := prog_2_method_1_code
abbrev y_A_init : MethodName := ⟨"DeficitNet$Agenda", "<init>", "()V"⟩
abbrev b_F_init : ByteArray := prog_3_method_1_code
abbrev y_F_init : MethodName := ⟨"DeficitNet$Flow", "<init>", "()V"⟩
abbrev b_K_init : ByteArray := prog_4_method_1_code
abbrev y_K_init : MethodName := ⟨"DeficitNet$Packet", "<init>", "()V"⟩
abbrev b_P_init : ByteArray := prog_5_method_1_code
abbrev y_P_init : MethodName := ⟨"DeficitNet$Port", "<init>", "()V"⟩
abbrev b_Y_init : ByteArray := prog_7_method_1_code
abbrev y_Y_init : MethodName := ⟨"DeficitNetModel", "<init>", "()V"⟩
theorem d_X_init_0 : decode b_X_init 0 = .ok (.aload_n 0, 1) := by decide +kernel
theorem d_X_init_1 : decode b_X_init 1 = .ok (.invokespecial 3, 3) := by decide +kernel
theorem d_X_init_4 : decode b_X_init 4 = .ok (.aload_n 0, 1) := by decide +kernel
theorem d_X_init_5 : decode b_X_init 5 = .ok (.bipush 8, 2) := by decide +kernel
theorem d_X_init_7 : decode b_X_init 7 = .ok (.bipush 8, 2) := by decide +kernel
theorem d_X_init_9 : decode b_X_init 9 = .ok (.multianewarray 9 2, 4) := by decide +kernel
theorem d_X_init_13 : decode b_X_init 13 = .ok (.putfield 11, 3) := by decide +kernel
theorem d_X_init_16 : decode b_X_init 16 = .ok (.aload_n 0, 1) := by decide +kernel
theorem d_X_init_17 : decode b_X_init 17 = .ok (.bipush 24, 2) := by decide +kernel
theorem d_X_init_19 : decode b_X_init 19 = .ok (.anewarray 14, 3) := by decide +kernel
theorem d_X_init_22 : decode b_X_init 22 = .ok (.putfield 16, 3) := by decide +kernel
theorem d_X_init_25 : decode b_X_init 25 = .ok (.iconst 0, 1) := by decide +kernel
theorem d_X_init_26 : decode b_X_init 26 = .ok (.istore_n 1, 1) := by decide +kernel
theorem d_X_init_27 : decode b_X_init 27 = .ok (.iload_n 1, 1) := by decide +kernel
theorem d_X_init_28 : decode b_X_init 28 = .ok (.bipush 24, 2) := by decide +kernel
theorem d_X_init_30 : decode b_X_init 30 = .ok (.if_icmp .ge 22, 3) := by decide +kernel
theorem d_X_init_33 : decode b_X_init 33 = .ok (.aload_n 0, 1) := by decide +kernel
theorem d_X_init_34 : decode b_X_init 34 = .ok (.getfield 16, 3) := by decide +kernel
theorem d_X_init_37 : decode b_X_init 37 = .ok (.iload_n 1, 1) := by decide +kernel
theorem d_X_init_38 : decode b_X_init 38 = .ok (.new 14, 3) := by decide +kernel
theorem d_X_init_41 : decode b_X_init 41 = .ok (.dup, 1) := by decide +kernel
theorem d_X_init_42 : decode b_X_init 42 = .ok (.invokespecial 20, 3) := by decide +kernel
theorem d_X_init_45 : decode b_X_init 45 = .ok (.aastore, 1) := by decide +kernel
theorem d_X_init_46 : decode b_X_init 46 = .ok (.iinc 1 1, 3) := by decide +kernel
theorem d_X_init_49 : decode b_X_init 49 = .ok (.goto (-22), 3) := by decide +kernel
theorem d_X_init_52 : decode b_X_init 52 = .ok (.aload_n 0, 1) := by decide +kernel
theorem d_X_init_53 : decode b_X_init 53 = .ok (.bipush 6, 2) := by decide +kernel
theorem d_X_init_55 : decode b_X_init 55 = .ok (.anewarray 21, 3) := by decide +kernel
theorem d_X_init_58 : decode b_X_init 58 = .ok (.putfield 23, 3) := by decide +kernel
theorem d_X_init_61 : decode b_X_init 61 = .ok (.iconst 0, 1) := by decide +kernel
theorem d_X_init_62 : decode b_X_init 62 = .ok (.istore_n 1, 1) := by decide +kernel
theorem d_X_init_63 : decode b_X_init 63 = .ok (.iload_n 1, 1) := by decide +kernel
theorem d_X_init_64 : decode b_X_init 64 = .ok (.bipush 6, 2) := by decide +kernel
theorem d_X_init_66 : decode b_X_init 66 = .ok (.if_icmp .ge 22, 3) := by decide +kernel
theorem d_X_init_69 : decode b_X_init 69 = .ok (.aload_n 0, 1) := by decide +kernel
theorem d_X_init_70 : decode b_X_init 70 = .ok (.getfield 23, 3) := by decide +kernel
theorem d_X_init_73 : decode b_X_init 73 = .ok (.iload_n 1, 1) := by decide +kernel
theorem d_X_init_74 : decode b_X_init 74 = .ok (.new 21, 3) := by decide +kernel
theorem d_X_init_77 : decode b_X_init 77 = .ok (.dup, 1) := by decide +kernel
theorem d_X_init_78 : decode b_X_init 78 = .ok (.invokespecial 27, 3) := by decide +kernel
theorem d_X_init_81 : decode b_X_init 81 = .ok (.aastore, 1) := by decide +kernel
theorem d_X_init_82 : decode b_X_init 82 = .ok (.iinc 1 1, 3) := by decide +kernel
theorem d_X_init_85 : decode b_X_init 85 = .ok (.goto (-22), 3) := by decide +kernel
theorem d_X_init_88 : decode b_X_init 88 = .ok (.aload_n 0, 1) := by decide +kernel
theorem d_X_init_89 : decode b_X_init 89 = .ok (.bipush 64, 2) := by decide +kernel
theorem d_X_init_91 : decode b_X_init 91 = .ok (.anewarray 28, 3) := by decide +kernel
theorem d_X_init_94 : decode b_X_init 94 = .ok (.putfield 30, 3) := by decide +kernel
theorem d_X_init_97 : decode b_X_init 97 = .ok (.iconst 0, 1) := by decide +kernel
theorem d_X_init_98 : decode b_X_init 98 = .ok (.istore_n 1, 1) := by decide +kernel
theorem d_X_init_99 : decode b_X_init 99 = .ok (.iload_n 1, 1) := by decide +kernel
theorem d_X_init_100 : decode b_X_init 100 = .ok (.bipush 64, 2) := by decide +kernel
theorem d_X_init_102 : decode b_X_init 102 = .ok (.if_icmp .ge 22, 3) := by decide +kernel
theorem d_X_init_105 : decode b_X_init 105 = .ok (.aload_n 0, 1) := by decide +kernel
theorem d_X_init_106 : decode b_X_init 106 = .ok (.getfield 30, 3) := by decide +kernel
theorem d_X_init_109 : decode b_X_init 109 = .ok (.iload_n 1, 1) := by decide +kernel
theorem d_X_init_110 : decode b_X_init 110 = .ok (.new 28, 3) := by decide +kernel
theorem d_X_init_113 : decode b_X_init 113 = .ok (.dup, 1) := by decide +kernel
theorem d_X_init_114 : decode b_X_init 114 = .ok (.invokespecial 34, 3) := by decide +kernel
theorem d_X_init_117 : decode b_X_init 117 = .ok (.aastore, 1) := by decide +kernel
theorem d_X_init_118 : decode b_X_init 118 = .ok (.iinc 1 1, 3) := by decide +kernel
theorem d_X_init_121 : decode b_X_init 121 = .ok (.goto (-22), 3) := by decide +kernel
theorem d_X_init_124 : decode b_X_init 124 = .ok (.aload_n 0, 1) := by decide +kernel
theorem d_X_init_125 : decode b_X_init 125 = .ok (.new 35, 3) := by decide +kernel
theorem d_X_init_128 : decode b_X_init 128 = .ok (.dup, 1) := by decide +kernel
theorem d_X_init_129 : decode b_X_init 129 = .ok (.invokespecial 37, 3) := by decide +kernel
theorem d_X_init_132 : decode b_X_init 132 = .ok (.putfield 38, 3) := by decide +kernel
theorem d_X_init_135 : decode b_X_init 135 = .ok (.aload_n 0, 1) := by decide +kernel
theorem d_X_init_136 : decode b_X_init 136 = .ok (.bipush 16, 2) := by decide +kernel
theorem d_X_init_138 : decode b_X_init 138 = .ok (.newarray .long, 2) := by decide +kernel
theorem d_X_init_140 : decode b_X_init 140 = .ok (.putfield 42, 3) := by decide +kernel
theorem d_X_init_143 : decode b_X_init 143 = .ok (.aload_n 0, 1) := by decide +kernel
theorem d_X_init_144 : decode b_X_init 144 = .ok (.invokevirtual 46, 3) := by decide +kernel
theorem d_X_init_147 : decode b_X_init 147 = .ok (.return_, 1) := by decide +kernel
theorem d_A_init_0 : decode b_A_init 0 = .ok (.aload_n 0, 1) := by decide +kernel
theorem d_A_init_1 : decode b_A_init 1 = .ok (.invokespecial 3, 3) := by decide +kernel
theorem d_A_init_4 : decode b_A_init 4 = .ok (.aload_n 0, 1) := by decide +kernel
theorem d_A_init_5 : decode b_A_init 5 = .ok (.bipush 70, 2) := by decide +kernel
theorem d_A_init_7 : decode b_A_init 7 = .ok (.newarray .int, 2) := by decide +kernel
theorem d_A_init_9 : decode b_A_init 9 = .ok (.putfield 9, 3) := by decide +kernel
theorem d_A_init_12 : decode b_A_init 12 = .ok (.aload_n 0, 1) := by decide +kernel
theorem d_A_init_13 : decode b_A_init 13 = .ok (.bipush 70, 2) := by decide +kernel
theorem d_A_init_15 : decode b_A_init 15 = .ok (.newarray .int, 2) := by decide +kernel
theorem d_A_init_17 : decode b_A_init 17 = .ok (.putfield 15, 3) := by decide +kernel
theorem d_A_init_20 : decode b_A_init 20 = .ok (.aload_n 0, 1) := by decide +kernel
theorem d_A_init_21 : decode b_A_init 21 = .ok (.bipush 70, 2) := by decide +kernel
theorem d_A_init_23 : decode b_A_init 23 = .ok (.newarray .int, 2) := by decide +kernel
theorem d_A_init_25 : decode b_A_init 25 = .ok (.putfield 18, 3) := by decide +kernel
theorem d_A_init_28 : decode b_A_init 28 = .ok (.return_, 1) := by decide +kernel
theorem d_F_init_0 : decode b_F_init 0 = .ok (.aload_n 0, 1) := by decide +kernel
theorem d_F_init_1 : decode b_F_init 1 = .ok (.invokespecial 3, 3) := by decide +kernel
theorem d_F_init_4 : decode b_F_init 4 = .ok (.return_, 1) := by decide +kernel
theorem d_K_init_0 : decode b_K_init 0 = .ok (.aload_n 0, 1) := by decide +kernel
theorem d_K_init_1 : decode b_K_init 1 = .ok (.invokespecial 3, 3) := by decide +kernel
theorem d_K_init_4 : decode b_K_init 4 = .ok (.return_, 1) := by decide +kernel
theorem d_P_init_0 : decode b_P_init 0 = .ok (.aload_n 0, 1) := by decide +kernel
theorem d_P_init_1 : decode b_P_init 1 = .ok (.invokespecial 3, 3) := by decide +kernel
theorem d_P_init_4 : decode b_P_init 4 = .ok (.aload_n 0, 1) := by decide +kernel
theorem d_P_init_5 : decode b_P_init 5 = .ok (.bipush 8, 2) := by decide +kernel
theorem d_P_init_7 : decode b_P_init 7 = .ok (.newarray .int, 2) := by decide +kernel
theorem d_P_init_9 : decode b_P_init 9 = .ok (.putfield 9, 3) := by decide +kernel
theorem d_P_init_12 : decode b_P_init 12 = .ok (.aload_n 0, 1) := by decide +kernel
theorem d_P_init_13 : decode b_P_init 13 = .ok (.bipush 6, 2) := by decide +kernel
theorem d_P_init_15 : decode b_P_init 15 = .ok (.newarray .int, 2) := by decide +kernel
theorem d_P_init_17 : decode b_P_init 17 = .ok (.putfield 15, 3) := by decide +kernel
theorem d_P_init_20 : decode b_P_init 20 = .ok (.aload_n 0, 1) := by decide +kernel
theorem d_P_init_21 : decode b_P_init 21 = .ok (.bipush 6, 2) := by decide +kernel
theorem d_P_init_23 : decode b_P_init 23 = .ok (.newarray .int, 2) := by decide +kernel
theorem d_P_init_25 : decode b_P_init 25 = .ok (.putfield 18, 3) := by decide +kernel
theorem d_P_init_28 : decode b_P_init 28 = .ok (.return_, 1) := by decide +kernel
theorem d_Y_init_0 : decode b_Y_init 0 = .ok (.aload_n 0, 1) := by decide +kernel
theorem d_Y_init_1 : decode b_Y_init 1 = .ok (.invokespecial 1, 3) := by decide +kernel
theorem d_Y_init_4 : decode b_Y_init 4 = .ok (.aload_n 0, 1) := by decide +kernel
theorem d_Y_init_5 : decode b_Y_init 5 = .ok (.bipush 12, 2) := by decide +kernel
theorem d_Y_init_7 : decode b_Y_init 7 = .ok (.newarray .int, 2) := by decide +kernel
theorem d_Y_init_9 : decode b_Y_init 9 = .ok (.putfield 7, 3) := by decide +kernel
theorem d_Y_init_12 : decode b_Y_init 12 = .ok (.aload_n 0, 1) := by decide +kernel
theorem d_Y_init_13 : decode b_Y_init 13 = .ok (.bipush 12, 2) := by decide +kernel
theorem d_Y_init_15 : decode b_Y_init 15 = .ok (.newarray .int, 2) := by decide +kernel
theorem d_Y_init_17 : decode b_Y_init 17 = .ok (.putfield 13, 3) := by decide +kernel
theorem d_Y_init_20 : decode b_Y_init 20 = .ok (.aload_n 0, 1) := by decide +kernel
theorem d_Y_init_21 : decode b_Y_init 21 = .ok (.bipush 12, 2) := by decide +kernel
theorem d_Y_init_23 : decode b_Y_init 23 = .ok (.newarray .int, 2) := by decide +kernel
theorem d_Y_init_25 : decode b_Y_init 25 = .ok (.putfield 16, 3) := by decide +kernel
theorem d_Y_init_28 : decode b_Y_init 28 = .ok (.aload_n 0, 1) := by decide +kernel
theorem d_Y_init_29 : decode b_Y_init 29 = .ok (.bipush 12, 2) := by decide +kernel
theorem d_Y_init_31 : decode b_Y_init 31 = .ok (.newarray .int, 2) := by decide +kernel
theorem d_Y_init_33 : decode b_Y_init 33 = .ok (.putfield 19, 3) := by decide +kernel
theorem d_Y_init_36 : decode b_Y_init 36 = .ok (.aload_n 0, 1) := by decide +kernel
theorem d_Y_init_37 : decode b_Y_init 37 = .ok (.bipush 12, 2) := by decide +kernel
theorem d_Y_init_39 : decode b_Y_init 39 = .ok (.newarray .int, 2) := by decide +kernel
theorem d_Y_init_41 : decode b_Y_init 41 = .ok (.putfield 22, 3) := by decide +kernel
theorem d_Y_init_44 : decode b_Y_init 44 = .ok (.aload_n 0, 1) := by decide +kernel
theorem d_Y_init_45 : decode b_Y_init 45 = .ok (.bipush 24, 2) := by decide +kernel
theorem d_Y_init_47 : decode b_Y_init 47 = .ok (.newarray .int, 2) := by decide +kernel
theorem d_Y_init_49 : decode b_Y_init 49 = .ok (.putfield 25, 3) := by decide +kernel
theorem d_Y_init_52 : decode b_Y_init 52 = .ok (.aload_n 0, 1) := by decide +kernel
theorem d_Y_init_53 : decode b_Y_init 53 = .ok (.bipush 24, 2) := by decide +kernel
theorem d_Y_init_55 : decode b_Y_init 55 = .ok (.newarray .int, 2) := by decide +kernel
theorem d_Y_init_57 : decode b_Y_init 57 = .ok (.putfield 28, 3) := by decide +kernel
theorem d_Y_init_60 : decode b_Y_init 60 = .ok (.aload_n 0, 1) := by decide +kernel
theorem d_Y_init_61 : decode b_Y_init 61 = .ok (.bipush 64, 2) := by decide +kernel
theorem d_Y_init_63 : decode b_Y_init 63 = .ok (.newarray .int, 2) := by decide +kernel
theorem d_Y_init_65 : decode b_Y_init 65 = .ok (.putfield 31, 3) := by decide +kernel
theorem d_Y_init_68 : decode b_Y_init 68 = .ok (.aload_n 0, 1) := by decide +kernel
theorem d_Y_init_69 : decode b_Y_init 69 = .ok (.bipush 6, 2) := by decide +kernel
theorem d_Y_init_71 : decode b_Y_init 71 = .ok (.newarray .int, 2) := by decide +kernel
theorem d_Y_init_73 : decode b_Y_init 73 = .ok (.putfield 34, 3) := by decide +kernel
theorem d_Y_init_76 : decode b_Y_init 76 = .ok (.aload_n 0, 1) := by decide +kernel
theorem d_Y_init_77 : decode b_Y_init 77 = .ok (.bipush 6, 2) := by decide +kernel
theorem d_Y_init_79 : decode b_Y_init 79 = .ok (.newarray .int, 2) := by decide +kernel
theorem d_Y_init_81 : decode b_Y_init 81 = .ok (.putfield 37, 3) := by decide +kernel
theorem d_Y_init_84 : decode b_Y_init 84 = .ok (.aload_n 0, 1) := by decide +kernel
theorem d_Y_init_85 : decode b_Y_init 85 = .ok (.bipush 6, 2) := by decide +kernel
theorem d_Y_init_87 : decode b_Y_init 87 = .ok (.newarray .int, 2) := by decide +kernel
theorem d_Y_init_89 : decode b_Y_init 89 = .ok (.putfield 40, 3) := by decide +kernel
theorem d_Y_init_92 : decode b_Y_init 92 = .ok (.aload_n 0, 1) := by decide +kernel
theorem d_Y_init_93 : decode b_Y_init 93 = .ok (.bipush 6, 2) := by decide +kernel
theorem d_Y_init_95 : decode b_Y_init 95 = .ok (.newarray .int, 2) := by decide +kernel
theorem d_Y_init_97 : decode b_Y_init 97 = .ok (.putfield 43, 3) := by decide +kernel
theorem d_Y_init_100 : decode b_Y_init 100 = .ok (.aload_n 0, 1) := by decide +kernel
theorem d_Y_init_101 : decode b_Y_init 101 = .ok (.bipush 6, 2) := by decide +kernel
theorem d_Y_init_103 : decode b_Y_init 103 = .ok (.newarray .int, 2) := by decide +kernel
theorem d_Y_init_105 : decode b_Y_init 105 = .ok (.putfield 46, 3) := by decide +kernel
theorem d_Y_init_108 : decode b_Y_init 108 = .ok (.aload_n 0, 1) := by decide +kernel
theorem d_Y_init_109 : decode b_Y_init 109 = .ok (.bipush 6, 2) := by decide +kernel
theorem d_Y_init_111 : decode b_Y_init 111 = .ok (.newarray .int, 2) := by decide +kernel
theorem d_Y_init_113 : decode b_Y_init 113 = .ok (.putfield 49, 3) := by decide +kernel
theorem d_Y_init_116 : decode b_Y_init 116 = .ok (.aload_n 0, 1) := by decide +kernel
theorem d_Y_init_117 : decode b_Y_init 117 = .ok (.bipush 6, 2) := by decide +kernel
theorem d_Y_init_119 : decode b_Y_init 119 = .ok (.newarray .int, 2) := by decide +kernel
theorem d_Y_init_121 : decode b_Y_init 121 = .ok (.putfield 52, 3) := by decide +kernel
theorem d_Y_init_124 : decode b_Y_init 124 = .ok (.aload_n 0, 1) := by decide +kernel
theorem d_Y_init_125 : decode b_Y_init 125 = .ok (.bipush 6, 2) := by decide +kernel
theorem d_Y_init_127 : decode b_Y_init 127 = .ok (.newarray .int, 2) := by decide +kernel
theorem d_Y_init_129 : decode b_Y_init 129 = .ok (.putfield 55, 3) := by decide +kernel
theorem d_Y_init_132 : decode b_Y_init 132 = .ok (.aload_n 0, 1) := by decide +kernel
theorem d_Y_init_133 : decode b_Y_init 133 = .ok (.bipush 6, 2) := by decide +kernel
theorem d_Y_init_135 : decode b_Y_init 135 = .ok (.newarray .int, 2) := by decide +kernel
theorem d_Y_init_137 : decode b_Y_init 137 = .ok (.putfield 58, 3) := by decide +kernel
theorem d_Y_init_140 : decode b_Y_init 140 = .ok (.aload_n 0, 1) := by decide +kernel
theorem d_Y_init_141 : decode b_Y_init 141 = .ok (.bipush 6, 2) := by decide +kernel
theorem d_Y_init_143 : decode b_Y_init 143 = .ok (.newarray .int, 2) := by decide +kernel
theorem d_Y_init_145 : decode b_Y_init 145 = .ok (.putfield 61, 3) := by decide +kernel
theorem d_Y_init_148 : decode b_Y_init 148 = .ok (.aload_n 0, 1) := by decide +kernel
theorem d_Y_init_149 : decode b_Y_init 149 = .ok (.bipush 6, 2) := by decide +kernel
theorem d_Y_init_151 : decode b_Y_init 151 = .ok (.newarray .int, 2) := by decide +kernel
theorem d_Y_init_153 : decode b_Y_init 153 = .ok (.putfield 64, 3) := by decide +kernel
theorem d_Y_init_156 : decode b_Y_init 156 = .ok (.aload_n 0, 1) := by decide +kernel
theorem d_Y_init_157 : decode b_Y_init 157 = .ok (.bipush 6, 2) := by decide +kernel
theorem d_Y_init_159 : decode b_Y_init 159 = .ok (.newarray .int, 2) := by decide +kernel
theorem d_Y_init_161 : decode b_Y_init 161 = .ok (.putfield 67, 3) := by decide +kernel
theorem d_Y_init_164 : decode b_Y_init 164 = .ok (.aload_n 0, 1) := by decide +kernel
theorem d_Y_init_165 : decode b_Y_init 165 = .ok (.bipush 6, 2) := by decide +kernel
theorem d_Y_init_167 : decode b_Y_init 167 = .ok (.newarray .int, 2) := by decide +kernel
theorem d_Y_init_169 : decode b_Y_init 169 = .ok (.putfield 70, 3) := by decide +kernel
theorem d_Y_init_172 : decode b_Y_init 172 = .ok (.aload_n 0, 1) := by decide +kernel
theorem d_Y_init_173 : decode b_Y_init 173 = .ok (.bipush 6, 2) := by decide +kernel
theorem d_Y_init_175 : decode b_Y_init 175 = .ok (.newarray .int, 2) := by decide +kernel
theorem d_Y_init_177 : decode b_Y_init 177 = .ok (.putfield 73, 3) := by decide +kernel
theorem d_Y_init_180 : decode b_Y_init 180 = .ok (.aload_n 0, 1) := by decide +kernel
theorem d_Y_init_181 : decode b_Y_init 181 = .ok (.bipush 24, 2) := by decide +kernel
theorem d_Y_init_183 : decode b_Y_init 183 = .ok (.newarray .int, 2) := by decide +kernel
theorem d_Y_init_185 : decode b_Y_init 185 = .ok (.putfield 76, 3) := by decide +kernel
theorem d_Y_init_188 : decode b_Y_init 188 = .ok (.aload_n 0, 1) := by decide +kernel
theorem d_Y_init_189 : decode b_Y_init 189 = .ok (.bipush 64, 2) := by decide +kernel
theorem d_Y_init_191 : decode b_Y_init 191 = .ok (.newarray .int, 2) := by decide +kernel
theorem d_Y_init_193 : decode b_Y_init 193 = .ok (.putfield 79, 3) := by decide +kernel
theorem d_Y_init_196 : decode b_Y_init 196 = .ok (.aload_n 0, 1) := by decide +kernel
theorem d_Y_init_197 : decode b_Y_init 197 = .ok (.bipush 64, 2) := by decide +kernel
theorem d_Y_init_199 : decode b_Y_init 199 = .ok (.newarray .int, 2) := by decide +kernel
theorem d_Y_init_201 : decode b_Y_init 201 = .ok (.putfield 82, 3) := by decide +kernel
theorem d_Y_init_204 : decode b_Y_init 204 = .ok (.aload_n 0, 1) := by decide +kernel
theorem d_Y_init_205 : decode b_Y_init 205 = .ok (.bipush 64, 2) := by decide +kernel
theorem d_Y_init_207 : decode b_Y_init 207 = .ok (.newarray .int, 2) := by decide +kernel
theorem d_Y_init_209 : decode b_Y_init 209 = .ok (.putfield 85, 3) := by decide +kernel
theorem d_Y_init_212 : decode b_Y_init 212 = .ok (.aload_n 0, 1) := by decide +kernel
theorem d_Y_init_213 : decode b_Y_init 213 = .ok (.bipush 64, 2) := by decide +kernel
theorem d_Y_init_215 : decode b_Y_init 215 = .ok (.newarray .boolean, 2) := by decide +kernel
theorem d_Y_init_217 : decode b_Y_init 217 = .ok (.putfield 88, 3) := by decide +kernel
theorem d_Y_init_220 : decode b_Y_init 220 = .ok (.aload_n 0, 1) := by decide +kernel
theorem d_Y_init_221 : decode b_Y_init 221 = .ok (.bipush 64, 2) := by decide +kernel
theorem d_Y_init_223 : decode b_Y_init 223 = .ok (.newarray .int, 2) := by decide +kernel
theorem d_Y_init_225 : decode b_Y_init 225 = .ok (.putfield 92, 3) := by decide +kernel
theorem d_Y_init_228 : decode b_Y_init 228 = .ok (.aload_n 0, 1) := by decide +kernel
theorem d_Y_init_229 : decode b_Y_init 229 = .ok (.bipush 64, 2) := by decide +kernel
theorem d_Y_init_231 : decode b_Y_init 231 = .ok (.newarray .int, 2) := by decide +kernel
theorem d_Y_init_233 : decode b_Y_init 233 = .ok (.putfield 95, 3) := by decide +kernel
theorem d_Y_init_236 : decode b_Y_init 236 = .ok (.aload_n 0, 1) := by decide +kernel
theorem d_Y_init_237 : decode b_Y_init 237 = .ok (.bipush 64, 2) := by decide +kernel
theorem d_Y_init_239 : decode b_Y_init 239 = .ok (.newarray .int, 2) := by decide +kernel
theorem d_Y_init_241 : decode b_Y_init 241 = .ok (.putfield 98, 3) := by decide +kernel
theorem d_Y_init_244 : decode b_Y_init 244 = .ok (.aload_n 0, 1) := by decide +kernel
theorem d_Y_init_245 : decode b_Y_init 245 = .ok (.sipush 144, 3) := by decide +kernel
theorem d_Y_init_248 : decode b_Y_init 248 = .ok (.newarray .int, 2) := by decide +kernel
theorem d_Y_init_250 : decode b_Y_init 250 = .ok (.putfield 101, 3) := by decide +kernel
theorem d_Y_init_253 : decode b_Y_init 253 = .ok (.aload_n 0, 1) := by decide +kernel
theorem d_Y_init_254 : decode b_Y_init 254 = .ok (.sipush 144, 3) := by decide +kernel
theorem d_Y_init_257 : decode b_Y_init 257 = .ok (.newarray .int, 2) := by decide +kernel
theorem d_Y_init_259 : decode b_Y_init 259 = .ok (.putfield 104, 3) := by decide +kernel
theorem d_Y_init_262 : decode b_Y_init 262 = .ok (.aload_n 0, 1) := by decide +kernel
theorem d_Y_init_263 : decode b_Y_init 263 = .ok (.sipush 144, 3) := by decide +kernel
theorem d_Y_init_266 : decode b_Y_init 266 = .ok (.newarray .boolean, 2) := by decide +kernel
theorem d_Y_init_268 : decode b_Y_init 268 = .ok (.putfield 107, 3) := by decide +kernel
theorem d_Y_init_271 : decode b_Y_init 271 = .ok (.aload_n 0, 1) := by decide +kernel
theorem d_Y_init_272 : decode b_Y_init 272 = .ok (.bipush 16, 2) := by decide +kernel
theorem d_Y_init_274 : decode b_Y_init 274 = .ok (.newarray .long, 2) := by decide +kernel
theorem d_Y_init_276 : decode b_Y_init 276 = .ok (.putfield 110, 3) := by decide +kernel
theorem d_Y_init_279 : decode b_Y_init 279 = .ok (.aload_n 0, 1) := by decide +kernel
theorem d_Y_init_280 : decode b_Y_init 280 = .ok (.invokevirtual 114, 3) := by decide +kernel
theorem d_Y_init_283 : decode b_Y_init 283 = .ok (.return_, 1) := by decide +kernel
theorem ti_1 : (Jvm.Cond.initialized "DeficitNet") ∈ wT := mem_wT (tb1 (List.mem_of_getElem? (i := 1) rfl)) rfl
theorem ti_2 : (Jvm.Cond.initialized "DeficitNet$Port") ∈ wT := mem_wT (tb1 (List.mem_of_getElem? (i := 2) rfl)) rfl
theorem ti_3 : (Jvm.Cond.initialized "DeficitNet$Flow") ∈ wT := mem_wT (tb1 (List.mem_of_getElem? (i := 3) rfl)) rfl
theorem ti_4 : (Jvm.Cond.initialized "DeficitNet$Packet") ∈ wT := mem_wT (tb1 (List.mem_of_getElem? (i := 4) rfl)) rfl
theorem ti_5 : (Jvm.Cond.initialized "DeficitNet$Agenda") ∈ wT := mem_wT (tb1 (List.mem_of_getElem? (i := 5) rfl)) rfl
theorem ti_7 : (Jvm.Cond.initialized "DeficitNetModel") ∈ wT := mem_wT (tb1 (List.mem_of_getElem? (i := 7) rfl)) rfl
theorem ti_10 : (Jvm.Cond.classLink "DeficitNetLaw" (7 : Nat) "DeficitNet") ∈ wT := mem_wT (tb1 (List.mem_of_getElem? (i := 10) rfl)) rfl
theorem ti_11 : (Jvm.Cond.instantiable "DeficitNet" (10 : Nat)) ∈ wT := mem_wT (tb1 (List.mem_of_getElem? (i := 11) rfl)) rfl
theorem ti_12 : (Jvm.Cond.methodLink "DeficitNetLaw" (9 : Nat) ({ cls := "DeficitNet", name := "<init>", desc := "()V" } : Jvm.MethodName)) ∈ wT := mem_wT (tb1 (List.mem_of_getElem? (i := 12) rfl)) rfl
theorem ti_13 : (Jvm.Cond.instanceMethod ({ cls := "DeficitNet", name := "<init>", desc := "()V" } : Jvm.MethodName)) ∈ wT := mem_wT (tb1 (List.mem_of_getElem? (i := 13) rfl)) rfl
theorem ti_14 : (Jvm.Cond.code ({ cls := "DeficitNet", name := "<init>", desc := "()V" } : Jvm.MethodName) prog_1_method_1_code (2 : Nat) (Option.none : Option Jvm.ClassFile.FieldType)) ∈ wT := mem_wT (tb1 (List.mem_of_getElem? (i := 14) rfl)) rfl
theorem ti_15 : (Jvm.Cond.methodLink "DeficitNet" (3 : Nat) ({ cls := "java/lang/Object", name := "<init>", desc := "()V" } : Jvm.MethodName)) ∈ wT := mem_wT (tb1 (List.mem_of_getElem? (i := 15) rfl)) rfl
theorem ti_16 : (Jvm.Cond.instanceMethod ({ cls := "java/lang/Object", name := "<init>", desc := "()V" } : Jvm.MethodName)) ∈ wT := mem_wT (tb1 (List.mem_of_getElem? (i := 16) rfl)) rfl
theorem ti_17 : (Jvm.Cond.code ({ cls := "java/lang/Object", name := "<init>", desc := "()V" } : Jvm.MethodName) object_method_1_code (1 : Nat) (Option.none : Option Jvm.ClassFile.FieldType)) ∈ wT := mem_wT (tb1 (List.mem_of_getElem? (i := 17) rfl)) rfl
theorem ti_18 : (Jvm.Cond.classLink "DeficitNet" (9 : Nat) "[[I") ∈ wT := mem_wT (tb1 (List.mem_of_getElem? (i := 18) rfl)) rfl
theorem ti_20 : (Jvm.Cond.classLink "DeficitNet" (14 : Nat) "DeficitNet$Port") ∈ wT := mem_wT (tb1 (List.mem_of_getElem? (i := 20) rfl)) rfl
theorem ti_22 : (Jvm.Cond.instantiable "DeficitNet$Port" (14 : Nat)) ∈ wT := mem_wT (tb1 (List.mem_of_getElem? (i := 22) rfl)) rfl
theorem ti_24 : (Jvm.Cond.instanceMethod ({ cls := "DeficitNet$Port", name := "<init>", desc := "()V" } : Jvm.MethodName)) ∈ wT := mem_wT (tb1 (List.mem_of_getElem? (i := 24) rfl)) rfl
theorem ti_25 : (Jvm.Cond.code ({ cls := "DeficitNet$Port", name := "<init>", desc := "()V" } : Jvm.MethodName) prog_5_method_1_code (1 : Nat) (Option.none : Option Jvm.ClassFile.FieldType)) ∈ wT := mem_wT (tb1 (List.mem_of_getElem? (i := 25) rfl)) rfl
theorem ti_26 : (Jvm.Cond.methodLink "DeficitNet$Port" (3 : Nat) ({ cls := "java/lang/Object", name := "<init>", desc := "()V" } : Jvm.MethodName)) ∈ wT := mem_wT (tb1 (List.mem_of_getElem? (i := 26) rfl)) rfl
theorem ti_47 : (Jvm.Cond.fieldLink "DeficitNet$Port" (9 : Nat) "DeficitNet$Port" "queue" "[I") ∈ wT := mem_wT (tb1 (List.mem_of_getElem? (i := 47) rfl)) rfl
theorem ti_49 : (Jvm.Cond.fieldLink "DeficitNet$Port" (15 : Nat) "DeficitNet$Port" "list" "[I") ∈ wT := mem_wT (tb1 (List.mem_of_getElem? (i := 49) rfl)) rfl
theorem ti_51 : (Jvm.Cond.fieldLink "DeficitNet$Port" (18 : Nat) "DeficitNet$Port" "deficits" "[I") ∈ wT := mem_wT (tb1 (List.mem_of_getElem? (i := 51) rfl)) rfl
theorem ti_82 : (Jvm.Cond.arrayClass Jvm.ClassFile.FieldType.int) ∈ wT := mem_wT (tb1 (List.mem_of_getElem? (i := 82) rfl)) rfl
theorem ti_83 : (Jvm.Cond.classLink "DeficitNet" (21 : Nat) "DeficitNet$Flow") ∈ wT := mem_wT (tb1 (List.mem_of_getElem? (i := 83) rfl)) rfl
theorem ti_85 : (Jvm.Cond.instantiable "DeficitNet$Flow" (14 : Nat)) ∈ wT := mem_wT (tb1 (List.mem_of_getElem? (i := 85) rfl)) rfl
theorem ti_87 : (Jvm.Cond.instanceMethod ({ cls := "DeficitNet$Flow", name := "<init>", desc := "()V" } : Jvm.MethodName)) ∈ wT := mem_wT (tb1 (List.mem_of_getElem? (i := 87) rfl)) rfl
theorem ti_88 : (Jvm.Cond.code ({ cls := "DeficitNet$Flow", name := "<init>", desc := "()V" } : Jvm.MethodName) prog_3_method_1_code (1 : Nat) (Option.none : Option Jvm.ClassFile.FieldType)) ∈ wT := mem_wT (tb1 (List.mem_of_getElem? (i := 88) rfl)) rfl
theorem ti_89 : (Jvm.Cond.methodLink "DeficitNet$Flow" (3 : Nat) ({ cls := "java/lang/Object", name := "<init>", desc := "()V" } : Jvm.MethodName)) ∈ wT := mem_wT (tb1 (List.mem_of_getElem? (i := 89) rfl)) rfl
theorem ti_149 : (Jvm.Cond.classLink "DeficitNet" (28 : Nat) "DeficitNet$Packet") ∈ wT := mem_wT (tb1 (List.mem_of_getElem? (i := 149) rfl)) rfl
theorem ti_151 : (Jvm.Cond.instantiable "DeficitNet$Packet" (7 : Nat)) ∈ wT := mem_wT (tb1 (List.mem_of_getElem? (i := 151) rfl)) rfl
theorem ti_153 : (Jvm.Cond.instanceMethod ({ cls := "DeficitNet$Packet", name := "<init>", desc := "()V" } : Jvm.MethodName)) ∈ wT := mem_wT (tb1 (List.mem_of_getElem? (i := 153) rfl)) rfl
theorem ti_154 : (Jvm.Cond.code ({ cls := "DeficitNet$Packet", name := "<init>", desc := "()V" } : Jvm.MethodName) prog_4_method_1_code (1 : Nat) (Option.none : Option Jvm.ClassFile.FieldType)) ∈ wT := mem_wT (tb1 (List.mem_of_getElem? (i := 154) rfl)) rfl
theorem ti_155 : (Jvm.Cond.methodLink "DeficitNet$Packet" (3 : Nat) ({ cls := "java/lang/Object", name := "<init>", desc := "()V" } : Jvm.MethodName)) ∈ wT := mem_wT (tb1 (List.mem_of_getElem? (i := 155) rfl)) rfl
theorem ti_184 : (Jvm.Cond.classLink "DeficitNet" (35 : Nat) "DeficitNet$Agenda") ∈ wT := mem_wT (tb1 (List.mem_of_getElem? (i := 184) rfl)) rfl
theorem ti_185 : (Jvm.Cond.instantiable "DeficitNet$Agenda" (4 : Nat)) ∈ wT := mem_wT (tb1 (List.mem_of_getElem? (i := 185) rfl)) rfl
theorem ti_187 : (Jvm.Cond.instanceMethod ({ cls := "DeficitNet$Agenda", name := "<init>", desc := "()V" } : Jvm.MethodName)) ∈ wT := mem_wT (tb1 (List.mem_of_getElem? (i := 187) rfl)) rfl
theorem ti_188 : (Jvm.Cond.code ({ cls := "DeficitNet$Agenda", name := "<init>", desc := "()V" } : Jvm.MethodName) prog_2_method_1_code (1 : Nat) (Option.none : Option Jvm.ClassFile.FieldType)) ∈ wT := mem_wT (tb1 (List.mem_of_getElem? (i := 188) rfl)) rfl
theorem ti_189 : (Jvm.Cond.methodLink "DeficitNet$Agenda" (3 : Nat) ({ cls := "java/lang/Object", name := "<init>", desc := "()V" } : Jvm.MethodName)) ∈ wT := mem_wT (tb1 (List.mem_of_getElem? (i := 189) rfl)) rfl
theorem ti_190 : (Jvm.Cond.fieldLink "DeficitNet$Agenda" (9 : Nat) "DeficitNet$Agenda" "kinds" "[I") ∈ wT := mem_wT (tb1 (List.mem_of_getElem? (i := 190) rfl)) rfl
theorem ti_192 : (Jvm.Cond.fieldLink "DeficitNet$Agenda" (15 : Nat) "DeficitNet$Agenda" "ticks" "[I") ∈ wT := mem_wT (tb1 (List.mem_of_getElem? (i := 192) rfl)) rfl
theorem ti_194 : (Jvm.Cond.fieldLink "DeficitNet$Agenda" (18 : Nat) "DeficitNet$Agenda" "turns" "[I") ∈ wT := mem_wT (tb1 (List.mem_of_getElem? (i := 194) rfl)) rfl
theorem ti_205 : (Jvm.Cond.methodLink "DeficitNet" (46 : Nat) ({ cls := "DeficitNet", name := "clear", desc := "()V" } : Jvm.MethodName)) ∈ wT := mem_wT (tb1 (List.mem_of_getElem? (i := 205) rfl)) rfl
theorem ti_221 : (Jvm.Cond.fieldLink "DeficitNet" (11 : Nat) "DeficitNet" "distances" "[[I") ∈ wT := mem_wT (tb1 (List.mem_of_getElem? (i := 221) rfl)) rfl
theorem ti_222 : (Jvm.Cond.fieldLink "DeficitNet" (16 : Nat) "DeficitNet" "ports" "[LDeficitNet$Port;") ∈ wT := mem_wT (tb1 (List.mem_of_getElem? (i := 222) rfl)) rfl
theorem ti_223 : (Jvm.Cond.fieldLink "DeficitNet" (23 : Nat) "DeficitNet" "flows" "[LDeficitNet$Flow;") ∈ wT := mem_wT (tb1 (List.mem_of_getElem? (i := 223) rfl)) rfl
theorem ti_224 : (Jvm.Cond.fieldLink "DeficitNet" (30 : Nat) "DeficitNet" "packets" "[LDeficitNet$Packet;") ∈ wT := mem_wT (tb1 (List.mem_of_getElem? (i := 224) rfl)) rfl
theorem ti_225 : (Jvm.Cond.fieldLink "DeficitNet" (38 : Nat) "DeficitNet" "agenda" "LDeficitNet$Agenda;") ∈ wT := mem_wT (tb1 (List.mem_of_getElem? (i := 225) rfl)) rfl
theorem ti_226 : (Jvm.Cond.fieldLink "DeficitNet" (42 : Nat) "DeficitNet" "latest" "[J") ∈ wT := mem_wT (tb1 (List.mem_of_getElem? (i := 226) rfl)) rfl
theorem ti_252 : (Jvm.Cond.arrayClass Jvm.ClassFile.FieldType.long) ∈ wT := mem_wT (tb2 (List.mem_of_getElem? (i := 12) rfl)) rfl
theorem ti_253 : (Jvm.Cond.methodLink "DeficitNetLaw" (13 : Nat) ({ cls := "DeficitNet", name := "link", desc := "(IIIII)I" } : Jvm.MethodName)) ∈ wT := mem_wT (tb2 (List.mem_of_getElem? (i := 13) rfl)) rfl
theorem ti_272 : (Jvm.Cond.methodLink "DeficitNetLaw" (18 : Nat) ({ cls := "DeficitNet", name := "shape", desc := "(III)Z" } : Jvm.MethodName)) ∈ wT := mem_wT (tb2 (List.mem_of_getElem? (i := 32) rfl)) rfl
theorem ti_280 : (Jvm.Cond.methodLink "DeficitNetLaw" (23 : Nat) ({ cls := "DeficitNet", name := "flow", desc := "(IIII)I" } : Jvm.MethodName)) ∈ wT := mem_wT (tb2 (List.mem_of_getElem? (i := 40) rfl)) rfl
theorem ti_288 : (Jvm.Cond.methodLink "DeficitNetLaw" (28 : Nat) ({ cls := "DeficitNet", name := "tune", desc := "(IIII)Z" } : Jvm.MethodName)) ∈ wT := mem_wT (tb2 (List.mem_of_getElem? (i := 48) rfl)) rfl
theorem ti_296 : (Jvm.Cond.methodLink "DeficitNetLaw" (33 : Nat) ({ cls := "DeficitNet", name := "clear", desc := "()V" } : Jvm.MethodName)) ∈ wT := mem_wT (tb2 (List.mem_of_getElem? (i := 56) rfl)) rfl
theorem ti_297 : (Jvm.Cond.methodLink "DeficitNetLaw" (37 : Nat) ({ cls := "DeficitNet", name := "step", desc := "()Z" } : Jvm.MethodName)) ∈ wT := mem_wT (tb2 (List.mem_of_getElem? (i := 57) rfl)) rfl
theorem ti_425 : (Jvm.Cond.methodLink "DeficitNetLaw" (42 : Nat) ({ cls := "DeficitNet", name := "run", desc := "(I)I" } : Jvm.MethodName)) ∈ wT := mem_wT (tb2 (List.mem_of_getElem? (i := 185) rfl)) rfl
theorem ti_429 : (Jvm.Cond.methodLink "DeficitNetLaw" (47 : Nat) ({ cls := "DeficitNet", name := "now", desc := "()I" } : Jvm.MethodName)) ∈ wT := mem_wT (tb2 (List.mem_of_getElem? (i := 189) rfl)) rfl
theorem ti_433 : (Jvm.Cond.methodLink "DeficitNetLaw" (52 : Nat) ({ cls := "DeficitNet", name := "trace", desc := "(I)J" } : Jvm.MethodName)) ∈ wT := mem_wT (tb2 (List.mem_of_getElem? (i := 193) rfl)) rfl
theorem ti_437 : (Jvm.Cond.methodLink "DeficitNetLaw" (57 : Nat) ({ cls := "DeficitNet", name := "distance", desc := "(II)I" } : Jvm.MethodName)) ∈ wT := mem_wT (tb2 (List.mem_of_getElem? (i := 197) rfl)) rfl
theorem ti_441 : (Jvm.Cond.methodLink "DeficitNetLaw" (62 : Nat) ({ cls := "DeficitNet", name := "way", desc := "(II)I" } : Jvm.MethodName)) ∈ wT := mem_wT (tb2 (List.mem_of_getElem? (i := 201) rfl)) rfl
theorem ti_442 : (Jvm.Cond.methodLink "DeficitNetLaw" (66 : Nat) ({ cls := "DeficitNet", name := "waiting", desc := "(II)I" } : Jvm.MethodName)) ∈ wT := mem_wT (tb2 (List.mem_of_getElem? (i := 202) rfl)) rfl
theorem ti_446 : (Jvm.Cond.methodLink "DeficitNetLaw" (70 : Nat) ({ cls := "DeficitNet", name := "deficit", desc := "(II)I" } : Jvm.MethodName)) ∈ wT := mem_wT (tb2 (List.mem_of_getElem? (i := 206) rfl)) rfl
theorem ti_450 : (Jvm.Cond.methodLink "DeficitNetLaw" (74 : Nat) ({ cls := "DeficitNet", name := "onPort", desc := "(I)I" } : Jvm.MethodName)) ∈ wT := mem_wT (tb2 (List.mem_of_getElem? (i := 210) rfl)) rfl
theorem ti_454 : (Jvm.Cond.methodLink "DeficitNetLaw" (78 : Nat) ({ cls := "DeficitNet", name := "timer", desc := "(I)I" } : Jvm.MethodName)) ∈ wT := mem_wT (tb2 (List.mem_of_getElem? (i := 214) rfl)) rfl
theorem ti_458 : (Jvm.Cond.methodLink "DeficitNetLaw" (82 : Nat) ({ cls := "DeficitNet", name := "count", desc := "(II)I" } : Jvm.MethodName)) ∈ wT := mem_wT (tb2 (List.mem_of_getElem? (i := 218) rfl)) rfl
theorem ti_462 : (Jvm.Cond.classLink "DeficitNetLaw" (10 : Nat) "DeficitNetModel") ∈ wT := mem_wT (tb2 (List.mem_of_getElem? (i := 222) rfl)) rfl
theorem ti_463 : (Jvm.Cond.instantiable "DeficitNetModel" (40 : Nat)) ∈ wT := mem_wT (tb2 (List.mem_of_getElem? (i := 223) rfl)) rfl
theorem ti_464 : (Jvm.Cond.methodLink "DeficitNetLaw" (12 : Nat) ({ cls := "DeficitNetModel", name := "<init>", desc := "()V" } : Jvm.MethodName)) ∈ wT := mem_wT (tb2 (List.mem_of_getElem? (i := 224) rfl)) rfl
theorem ti_465 : (Jvm.Cond.instanceMethod ({ cls := "DeficitNetModel", name := "<init>", desc := "()V" } : Jvm.MethodName)) ∈ wT := mem_wT (tb2 (List.mem_of_getElem? (i := 225) rfl)) rfl
theorem ti_466 : (Jvm.Cond.code ({ cls := "DeficitNetModel", name := "<init>", desc := "()V" } : Jvm.MethodName) prog_7_method_1_code (1 : Nat) (Option.none : Option Jvm.ClassFile.FieldType)) ∈ wT := mem_wT (tb2 (List.mem_of_getElem? (i := 226) rfl)) rfl
theorem ti_467 : (Jvm.Cond.methodLink "DeficitNetModel" (1 : Nat) ({ cls := "java/lang/Object", name := "<init>", desc := "()V" } : Jvm.MethodName)) ∈ wT := mem_wT (tb2 (List.mem_of_getElem? (i := 227) rfl)) rfl
theorem ti_468 : (Jvm.Cond.methodLink "DeficitNetModel" (114 : Nat) ({ cls := "DeficitNetModel", name := "clear", desc := "()V" } : Jvm.MethodName)) ∈ wT := mem_wT (tb2 (List.mem_of_getElem? (i := 228) rfl)) rfl
theorem ti_481 : (Jvm.Cond.fieldLink "DeficitNetModel" (7 : Nat) "DeficitNetModel" "first" "[I") ∈ wT := mem_wT (tb3 (List.mem_of_getElem? (i := 1) rfl)) rfl
theorem ti_482 : (Jvm.Cond.fieldLink "DeficitNetModel" (13 : Nat) "DeficitNetModel" "second" "[I") ∈ wT := mem_wT (tb3 (List.mem_of_getElem? (i := 2) rfl)) rfl
theorem ti_483 : (Jvm.Cond.fieldLink "DeficitNetModel" (16 : Nat) "DeficitNetModel" "cost" "[I") ∈ wT := mem_wT (tb3 (List.mem_of_getElem? (i := 3) rfl)) rfl
theorem ti_484 : (Jvm.Cond.fieldLink "DeficitNetModel" (19 : Nat) "DeficitNetModel" "slow" "[I") ∈ wT := mem_wT (tb3 (List.mem_of_getElem? (i := 4) rfl)) rfl
theorem ti_485 : (Jvm.Cond.fieldLink "DeficitNetModel" (22 : Nat) "DeficitNetModel" "delay" "[I") ∈ wT := mem_wT (tb3 (List.mem_of_getElem? (i := 5) rfl)) rfl
theorem ti_486 : (Jvm.Cond.fieldLink "DeficitNetModel" (25 : Nat) "DeficitNetModel" "quantum" "[I") ∈ wT := mem_wT (tb3 (List.mem_of_getElem? (i := 6) rfl)) rfl
theorem ti_487 : (Jvm.Cond.fieldLink "DeficitNetModel" (28 : Nat) "DeficitNetModel" "room" "[I") ∈ wT := mem_wT (tb3 (List.mem_of_getElem? (i := 7) rfl)) rfl
theorem ti_488 : (Jvm.Cond.fieldLink "DeficitNetModel" (31 : Nat) "DeficitNetModel" "far" "[I") ∈ wT := mem_wT (tb3 (List.mem_of_getElem? (i := 8) rfl)) rfl
theorem ti_490 : (Jvm.Cond.fieldLink "DeficitNetModel" (34 : Nat) "DeficitNetModel" "source" "[I") ∈ wT := mem_wT (tb3 (List.mem_of_getElem? (i := 10) rfl)) rfl
theorem ti_491 : (Jvm.Cond.fieldLink "DeficitNetModel" (37 : Nat) "DeficitNetModel" "sink" "[I") ∈ wT := mem_wT (tb3 (List.mem_of_getElem? (i := 11) rfl)) rfl
theorem ti_492 : (Jvm.Cond.fieldLink "DeficitNetModel" (40 : Nat) "DeficitNetModel" "all" "[I") ∈ wT := mem_wT (tb3 (List.mem_of_getElem? (i := 12) rfl)) rfl
theorem ti_493 : (Jvm.Cond.fieldLink "DeficitNetModel" (43 : Nat) "DeficitNetModel" "large" "[I") ∈ wT := mem_wT (tb3 (List.mem_of_getElem? (i := 13) rfl)) rfl
theorem ti_494 : (Jvm.Cond.fieldLink "DeficitNetModel" (46 : Nat) "DeficitNetModel" "window" "[I") ∈ wT := mem_wT (tb3 (List.mem_of_getElem? (i := 14) rfl)) rfl
theorem ti_495 : (Jvm.Cond.fieldLink "DeficitNetModel" (49 : Nat) "DeficitNetModel" "patience" "[I") ∈ wT := mem_wT (tb3 (List.mem_of_getElem? (i := 15) rfl)) rfl
theorem ti_496 : (Jvm.Cond.fieldLink "DeficitNetModel" (52 : Nat) "DeficitNetModel" "birth" "[I") ∈ wT := mem_wT (tb3 (List.mem_of_getElem? (i := 16) rfl)) rfl
theorem ti_497 : (Jvm.Cond.fieldLink "DeficitNetModel" (55 : Nat) "DeficitNetModel" "base" "[I") ∈ wT := mem_wT (tb3 (List.mem_of_getElem? (i := 17) rfl)) rfl
theorem ti_498 : (Jvm.Cond.fieldLink "DeficitNetModel" (58 : Nat) "DeficitNetModel" "next" "[I") ∈ wT := mem_wT (tb3 (List.mem_of_getElem? (i := 18) rfl)) rfl
theorem ti_499 : (Jvm.Cond.fieldLink "DeficitNetModel" (61 : Nat) "DeficitNetModel" "expected" "[I") ∈ wT := mem_wT (tb3 (List.mem_of_getElem? (i := 19) rfl)) rfl
theorem ti_500 : (Jvm.Cond.fieldLink "DeficitNetModel" (64 : Nat) "DeficitNetModel" "start" "[I") ∈ wT := mem_wT (tb3 (List.mem_of_getElem? (i := 20) rfl)) rfl
theorem ti_501 : (Jvm.Cond.fieldLink "DeficitNetModel" (67 : Nat) "DeficitNetModel" "startTurn" "[I") ∈ wT := mem_wT (tb3 (List.mem_of_getElem? (i := 21) rfl)) rfl
theorem ti_502 : (Jvm.Cond.fieldLink "DeficitNetModel" (70 : Nat) "DeficitNetModel" "timeout" "[I") ∈ wT := mem_wT (tb3 (List.mem_of_getElem? (i := 22) rfl)) rfl
theorem ti_503 : (Jvm.Cond.fieldLink "DeficitNetModel" (73 : Nat) "DeficitNetModel" "timeoutTurn" "[I") ∈ wT := mem_wT (tb3 (List.mem_of_getElem? (i := 23) rfl)) rfl
theorem ti_504 : (Jvm.Cond.fieldLink "DeficitNetModel" (76 : Nat) "DeficitNetModel" "tally" "[I") ∈ wT := mem_wT (tb3 (List.mem_of_getElem? (i := 24) rfl)) rfl
theorem ti_505 : (Jvm.Cond.fieldLink "DeficitNetModel" (79 : Nat) "DeficitNetModel" "state" "[I") ∈ wT := mem_wT (tb3 (List.mem_of_getElem? (i := 25) rfl)) rfl
theorem ti_506 : (Jvm.Cond.fieldLink "DeficitNetModel" (82 : Nat) "DeficitNetModel" "of" "[I") ∈ wT := mem_wT (tb3 (List.mem_of_getElem? (i := 26) rfl)) rfl
theorem ti_507 : (Jvm.Cond.fieldLink "DeficitNetModel" (85 : Nat) "DeficitNetModel" "number" "[I") ∈ wT := mem_wT (tb3 (List.mem_of_getElem? (i := 27) rfl)) rfl
theorem ti_508 : (Jvm.Cond.fieldLink "DeficitNetModel" (88 : Nat) "DeficitNetModel" "answer" "[Z") ∈ wT := mem_wT (tb3 (List.mem_of_getElem? (i := 28) rfl)) rfl
theorem ti_509 : (Jvm.Cond.fieldLink "DeficitNetModel" (92 : Nat) "DeficitNetModel" "port" "[I") ∈ wT := mem_wT (tb3 (List.mem_of_getElem? (i := 29) rfl)) rfl
theorem ti_510 : (Jvm.Cond.fieldLink "DeficitNetModel" (95 : Nat) "DeficitNetModel" "tick" "[I") ∈ wT := mem_wT (tb3 (List.mem_of_getElem? (i := 30) rfl)) rfl
theorem ti_511 : (Jvm.Cond.fieldLink "DeficitNetModel" (98 : Nat) "DeficitNetModel" "turn" "[I") ∈ wT := mem_wT (tb3 (List.mem_of_getElem? (i := 31) rfl)) rfl
theorem ti_512 : (Jvm.Cond.fieldLink "DeficitNetModel" (101 : Nat) "DeficitNetModel" "came" "[I") ∈ wT := mem_wT (tb3 (List.mem_of_getElem? (i := 32) rfl)) rfl
theorem ti_513 : (Jvm.Cond.fieldLink "DeficitNetModel" (104 : Nat) "DeficitNetModel" "deficit" "[I") ∈ wT := mem_wT (tb3 (List.mem_of_getElem? (i := 33) rfl)) rfl
theorem ti_514 : (Jvm.Cond.fieldLink "DeficitNetModel" (107 : Nat) "DeficitNetModel" "served" "[Z") ∈ wT := mem_wT (tb3 (List.mem_of_getElem? (i := 34) rfl)) rfl
theorem ti_519 : (Jvm.Cond.fieldLink "DeficitNetModel" (110 : Nat) "DeficitNetModel" "latest" "[J") ∈ wT := mem_wT (tb3 (List.mem_of_getElem? (i := 39) rfl)) rfl
theorem ti_601 : (Jvm.Cond.arrayClass Jvm.ClassFile.FieldType.boolean) ∈ wT := mem_wT (tb3 (List.mem_of_getElem? (i := 121) rfl)) rfl
theorem ti_602 : (Jvm.Cond.methodLink "DeficitNetLaw" (36 : Nat) ({ cls := "DeficitNetModel", name := "clear", desc := "()V" } : Jvm.MethodName)) ∈ wT := mem_wT (tb3 (List.mem_of_getElem? (i := 122) rfl)) rfl
theorem ti_603 : (Jvm.Cond.methodLink "DeficitNetLaw" (17 : Nat) ({ cls := "DeficitNetModel", name := "link", desc := "(IIIII)I" } : Jvm.MethodName)) ∈ wT := mem_wT (tb3 (List.mem_of_getElem? (i := 123) rfl)) rfl
theorem ti_613 : (Jvm.Cond.methodLink "DeficitNetLaw" (22 : Nat) ({ cls := "DeficitNetModel", name := "shape", desc := "(III)Z" } : Jvm.MethodName)) ∈ wT := mem_wT (tb3 (List.mem_of_getElem? (i := 133) rfl)) rfl
theorem ti_621 : (Jvm.Cond.methodLink "DeficitNetLaw" (27 : Nat) ({ cls := "DeficitNetModel", name := "flow", desc := "(IIII)I" } : Jvm.MethodName)) ∈ wT := mem_wT (tb3 (List.mem_of_getElem? (i := 141) rfl)) rfl
theorem ti_625 : (Jvm.Cond.methodLink "DeficitNetLaw" (32 : Nat) ({ cls := "DeficitNetModel", name := "tune", desc := "(IIII)Z" } : Jvm.MethodName)) ∈ wT := mem_wT (tb3 (List.mem_of_getElem? (i := 145) rfl)) rfl
theorem ti_633 : (Jvm.Cond.methodLink "DeficitNetLaw" (61 : Nat) ({ cls := "DeficitNetModel", name := "distance", desc := "(II)I" } : Jvm.MethodName)) ∈ wT := mem_wT (tb3 (List.mem_of_getElem? (i := 153) rfl)) rfl
theorem ti_637 : (Jvm.Cond.methodLink "DeficitNetLaw" (65 : Nat) ({ cls := "DeficitNetModel", name := "way", desc := "(II)I" } : Jvm.MethodName)) ∈ wT := mem_wT (tb3 (List.mem_of_getElem? (i := 157) rfl)) rfl
theorem ti_650 : (Jvm.Cond.methodLink "DeficitNetLaw" (41 : Nat) ({ cls := "DeficitNetModel", name := "step", desc := "()Z" } : Jvm.MethodName)) ∈ wT := mem_wT (tb3 (List.mem_of_getElem? (i := 170) rfl)) rfl
theorem ti_730 : (Jvm.Cond.methodLink "DeficitNetLaw" (46 : Nat) ({ cls := "DeficitNetModel", name := "run", desc := "(I)I" } : Jvm.MethodName)) ∈ wT := mem_wT (tb4 (List.mem_of_getElem? (i := 10) rfl)) rfl
theorem ti_735 : (Jvm.Cond.methodLink "DeficitNetLaw" (51 : Nat) ({ cls := "DeficitNetModel", name := "now", desc := "()I" } : Jvm.MethodName)) ∈ wT := mem_wT (tb4 (List.mem_of_getElem? (i := 15) rfl)) rfl
theorem ti_739 : (Jvm.Cond.methodLink "DeficitNetLaw" (56 : Nat) ({ cls := "DeficitNetModel", name := "trace", desc := "(I)J" } : Jvm.MethodName)) ∈ wT := mem_wT (tb4 (List.mem_of_getElem? (i := 19) rfl)) rfl
theorem ti_744 : (Jvm.Cond.methodLink "DeficitNetLaw" (69 : Nat) ({ cls := "DeficitNetModel", name := "waiting", desc := "(II)I" } : Jvm.MethodName)) ∈ wT := mem_wT (tb4 (List.mem_of_getElem? (i := 24) rfl)) rfl
theorem ti_748 : (Jvm.Cond.methodLink "DeficitNetLaw" (73 : Nat) ({ cls := "DeficitNetModel", name := "deficit", desc := "(II)I" } : Jvm.MethodName)) ∈ wT := mem_wT (tb4 (List.mem_of_getElem? (i := 28) rfl)) rfl
theorem ti_752 : (Jvm.Cond.methodLink "DeficitNetLaw" (77 : Nat) ({ cls := "DeficitNetModel", name := "onPort", desc := "(I)I" } : Jvm.MethodName)) ∈ wT := mem_wT (tb4 (List.mem_of_getElem? (i := 32) rfl)) rfl
theorem ti_756 : (Jvm.Cond.methodLink "DeficitNetLaw" (81 : Nat) ({ cls := "DeficitNetModel", name := "timer", desc := "(I)I" } : Jvm.MethodName)) ∈ wT := mem_wT (tb4 (List.mem_of_getElem? (i := 36) rfl)) rfl
theorem ti_760 : (Jvm.Cond.methodLink "DeficitNetLaw" (85 : Nat) ({ cls := "DeficitNetModel", name := "count", desc := "(II)I" } : Jvm.MethodName)) ∈ wT := mem_wT (tb4 (List.mem_of_getElem? (i := 40) rfl)) rfl
theorem nw_19 : (Jvm.Cond.arrayOver (Jvm.ClassFile.FieldType.array Jvm.ClassFile.FieldType.int)) ∈ lw_tbl := tb1 (List.mem_of_getElem? (i := 19) rfl)
theorem nw_21 : (Jvm.Cond.arrayOver (Jvm.ClassFile.FieldType.object "DeficitNet$Port")) ∈ lw_tbl := tb1 (List.mem_of_getElem? (i := 21) rfl)
theorem nw_23 : (Jvm.Cond.methodLinkNest "DeficitNet" (20 : Nat) ({ cls := "DeficitNet$Port", name := "<init>", desc := "()V" } : Jvm.MethodName) "DeficitNet") ∈ lw_tbl := tb1 (List.mem_of_getElem? (i := 23) rfl)
theorem nw_84 : (Jvm.Cond.arrayOver (Jvm.ClassFile.FieldType.object "DeficitNet$Flow")) ∈ lw_tbl := tb1 (List.mem_of_getElem? (i := 84) rfl)
theorem nw_86 : (Jvm.Cond.methodLinkNest "DeficitNet" (27 : Nat) ({ cls := "DeficitNet$Flow", name := "<init>", desc := "()V" } : Jvm.MethodName) "DeficitNet") ∈ lw_tbl := tb1 (List.mem_of_getElem? (i := 86) rfl)
theorem nw_150 : (Jvm.Cond.arrayOver (Jvm.ClassFile.FieldType.object "DeficitNet$Packet")) ∈ lw_tbl := tb1 (List.mem_of_getElem? (i := 150) rfl)
theorem nw_152 : (Jvm.Cond.methodLinkNest "DeficitNet" (34 : Nat) ({ cls := "DeficitNet$Packet", name := "<init>", desc := "()V" } : Jvm.MethodName) "DeficitNet") ∈ lw_tbl := tb1 (List.mem_of_getElem? (i := 152) rfl)
theorem nw_186 : (Jvm.Cond.methodLinkNest "DeficitNet" (37 : Nat) ({ cls := "DeficitNet$Agenda", name := "<init>", desc := "()V" } : Jvm.MethodName) "DeficitNet") ∈ lw_tbl := tb1 (List.mem_of_getElem? (i := 186) rfl)
