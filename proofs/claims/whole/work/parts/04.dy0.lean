theorem d_Y_lesser_0 : decode b_Y_lesser 0 = .ok (.iload_n 0, 1) := by decide +kernel
theorem d_Y_lesser_1 : decode b_Y_lesser 1 = .ok (.iload_n 1, 1) := by decide +kernel
theorem d_Y_lesser_2 : decode b_Y_lesser 2 = .ok (.if_icmp .ge 7, 3) := by decide +kernel
theorem d_Y_lesser_5 : decode b_Y_lesser 5 = .ok (.iload_n 0, 1) := by decide +kernel
theorem d_Y_lesser_6 : decode b_Y_lesser 6 = .ok (.goto 4, 3) := by decide +kernel
theorem d_Y_lesser_9 : decode b_Y_lesser 9 = .ok (.iload_n 1, 1) := by decide +kernel
theorem d_Y_lesser_10 : decode b_Y_lesser 10 = .ok (.ireturn, 1) := by decide +kernel
theorem d_Y_measure_0 : decode b_Y_measure 0 = .ok (.iconst 0, 1) := by decide +kernel
theorem d_Y_measure_1 : decode b_Y_measure 1 = .ok (.istore_n 1, 1) := by decide +kernel
theorem d_Y_measure_2 : decode b_Y_measure 2 = .ok (.iload_n 1, 1) := by decide +kernel
theorem d_Y_measure_3 : decode b_Y_measure 3 = .ok (.bipush 8, 2) := by decide +kernel
theorem d_Y_measure_5 : decode b_Y_measure 5 = .ok (.if_icmp .ge 45, 3) := by decide +kernel
theorem d_Y_measure_8 : decode b_Y_measure 8 = .ok (.iconst 0, 1) := by decide +kernel
theorem d_Y_measure_9 : decode b_Y_measure 9 = .ok (.istore_n 2, 1) := by decide +kernel
theorem d_Y_measure_10 : decode b_Y_measure 10 = .ok (.iload_n 2, 1) := by decide +kernel
theorem d_Y_measure_11 : decode b_Y_measure 11 = .ok (.bipush 8, 2) := by decide +kernel
theorem d_Y_measure_13 : decode b_Y_measure 13 = .ok (.if_icmp .ge 31, 3) := by decide +kernel
theorem d_Y_measure_16 : decode b_Y_measure 16 = .ok (.aload_n 0, 1) := by decide +kernel
theorem d_Y_measure_17 : decode b_Y_measure 17 = .ok (.getfield 31, 3) := by decide +kernel
theorem d_Y_measure_20 : decode b_Y_measure 20 = .ok (.bipush 8, 2) := by decide +kernel
theorem d_Y_measure_22 : decode b_Y_measure 22 = .ok (.iload_n 1, 1) := by decide +kernel
theorem d_Y_measure_23 : decode b_Y_measure 23 = .ok (.imul, 1) := by decide +kernel
theorem d_Y_measure_24 : decode b_Y_measure 24 = .ok (.iload_n 2, 1) := by decide +kernel
theorem d_Y_measure_25 : decode b_Y_measure 25 = .ok (.iadd, 1) := by decide +kernel
theorem d_Y_measure_26 : decode b_Y_measure 26 = .ok (.iload_n 1, 1) := by decide +kernel
theorem d_Y_measure_27 : decode b_Y_measure 27 = .ok (.iload_n 2, 1) := by decide +kernel
theorem d_Y_measure_28 : decode b_Y_measure 28 = .ok (.if_icmp .ne 7, 3) := by decide +kernel
theorem d_Y_measure_31 : decode b_Y_measure 31 = .ok (.iconst 0, 1) := by decide +kernel
theorem d_Y_measure_32 : decode b_Y_measure 32 = .ok (.goto 5, 3) := by decide +kernel
theorem d_Y_measure_35 : decode b_Y_measure 35 = .ok (.ldc 154, 2) := by decide +kernel
theorem d_Y_measure_37 : decode b_Y_measure 37 = .ok (.iastore, 1) := by decide +kernel
theorem d_Y_measure_38 : decode b_Y_measure 38 = .ok (.iinc 2 1, 3) := by decide +kernel
theorem d_Y_measure_41 : decode b_Y_measure 41 = .ok (.goto (-31), 3) := by decide +kernel
theorem d_Y_measure_44 : decode b_Y_measure 44 = .ok (.iinc 1 1, 3) := by decide +kernel
theorem d_Y_measure_47 : decode b_Y_measure 47 = .ok (.goto (-45), 3) := by decide +kernel
theorem d_Y_measure_50 : decode b_Y_measure 50 = .ok (.iconst 0, 1) := by decide +kernel
theorem d_Y_measure_51 : decode b_Y_measure 51 = .ok (.istore_n 1, 1) := by decide +kernel
theorem d_Y_measure_52 : decode b_Y_measure 52 = .ok (.iload_n 1, 1) := by decide +kernel
theorem d_Y_measure_53 : decode b_Y_measure 53 = .ok (.aload_n 0, 1) := by decide +kernel
theorem d_Y_measure_54 : decode b_Y_measure 54 = .ok (.getfield 117, 3) := by decide +kernel
theorem d_Y_measure_57 : decode b_Y_measure 57 = .ok (.if_icmp .ge 85, 3) := by decide +kernel
theorem d_Y_measure_60 : decode b_Y_measure 60 = .ok (.bipush 8, 2) := by decide +kernel
theorem d_Y_measure_62 : decode b_Y_measure 62 = .ok (.aload_n 0, 1) := by decide +kernel
theorem d_Y_measure_63 : decode b_Y_measure 63 = .ok (.getfield 7, 3) := by decide +kernel
theorem d_Y_measure_66 : decode b_Y_measure 66 = .ok (.iload_n 1, 1) := by decide +kernel
theorem d_Y_measure_67 : decode b_Y_measure 67 = .ok (.iaload, 1) := by decide +kernel
theorem d_Y_measure_68 : decode b_Y_measure 68 = .ok (.imul, 1) := by decide +kernel
theorem d_Y_measure_69 : decode b_Y_measure 69 = .ok (.aload_n 0, 1) := by decide +kernel
theorem d_Y_measure_70 : decode b_Y_measure 70 = .ok (.getfield 13, 3) := by decide +kernel
theorem d_Y_measure_73 : decode b_Y_measure 73 = .ok (.iload_n 1, 1) := by decide +kernel
theorem d_Y_measure_74 : decode b_Y_measure 74 = .ok (.iaload, 1) := by decide +kernel
theorem d_Y_measure_75 : decode b_Y_measure 75 = .ok (.iadd, 1) := by decide +kernel
theorem d_Y_measure_76 : decode b_Y_measure 76 = .ok (.istore_n 2, 1) := by decide +kernel
theorem d_Y_measure_77 : decode b_Y_measure 77 = .ok (.bipush 8, 2) := by decide +kernel
theorem d_Y_measure_79 : decode b_Y_measure 79 = .ok (.aload_n 0, 1) := by decide +kernel
theorem d_Y_measure_80 : decode b_Y_measure 80 = .ok (.getfield 13, 3) := by decide +kernel
theorem d_Y_measure_83 : decode b_Y_measure 83 = .ok (.iload_n 1, 1) := by decide +kernel
theorem d_Y_measure_84 : decode b_Y_measure 84 = .ok (.iaload, 1) := by decide +kernel
theorem d_Y_measure_85 : decode b_Y_measure 85 = .ok (.imul, 1) := by decide +kernel
theorem d_Y_measure_86 : decode b_Y_measure 86 = .ok (.aload_n 0, 1) := by decide +kernel
theorem d_Y_measure_87 : decode b_Y_measure 87 = .ok (.getfield 7, 3) := by decide +kernel
theorem d_Y_measure_90 : decode b_Y_measure 90 = .ok (.iload_n 1, 1) := by decide +kernel
theorem d_Y_measure_91 : decode b_Y_measure 91 = .ok (.iaload, 1) := by decide +kernel
theorem d_Y_measure_92 : decode b_Y_measure 92 = .ok (.iadd, 1) := by decide +kernel
theorem d_Y_measure_93 : decode b_Y_measure 93 = .ok (.istore_n 3, 1) := by decide +kernel
theorem d_Y_measure_94 : decode b_Y_measure 94 = .ok (.aload_n 0, 1) := by decide +kernel
theorem d_Y_measure_95 : decode b_Y_measure 95 = .ok (.getfield 31, 3) := by decide +kernel
theorem d_Y_measure_98 : decode b_Y_measure 98 = .ok (.iload_n 2, 1) := by decide +kernel
theorem d_Y_measure_99 : decode b_Y_measure 99 = .ok (.aload_n 0, 1) := by decide +kernel
theorem d_Y_measure_100 : decode b_Y_measure 100 = .ok (.getfield 31, 3) := by decide +kernel
theorem d_Y_measure_103 : decode b_Y_measure 103 = .ok (.iload_n 2, 1) := by decide +kernel
theorem d_Y_measure_104 : decode b_Y_measure 104 = .ok (.iaload, 1) := by decide +kernel
theorem d_Y_measure_105 : decode b_Y_measure 105 = .ok (.aload_n 0, 1) := by decide +kernel
theorem d_Y_measure_106 : decode b_Y_measure 106 = .ok (.getfield 16, 3) := by decide +kernel
theorem d_Y_measure_109 : decode b_Y_measure 109 = .ok (.iload_n 1, 1) := by decide +kernel
theorem d_Y_measure_110 : decode b_Y_measure 110 = .ok (.iaload, 1) := by decide +kernel
theorem d_Y_measure_111 : decode b_Y_measure 111 = .ok (.invokestatic 155, 3) := by decide +kernel
theorem d_Y_measure_114 : decode b_Y_measure 114 = .ok (.iastore, 1) := by decide +kernel
theorem d_Y_measure_115 : decode b_Y_measure 115 = .ok (.aload_n 0, 1) := by decide +kernel
theorem d_Y_measure_116 : decode b_Y_measure 116 = .ok (.getfield 31, 3) := by decide +kernel
theorem d_Y_measure_119 : decode b_Y_measure 119 = .ok (.iload_n 3, 1) := by decide +kernel
theorem d_Y_measure_120 : decode b_Y_measure 120 = .ok (.aload_n 0, 1) := by decide +kernel
theorem d_Y_measure_121 : decode b_Y_measure 121 = .ok (.getfield 31, 3) := by decide +kernel
theorem d_Y_measure_124 : decode b_Y_measure 124 = .ok (.iload_n 3, 1) := by decide +kernel
theorem d_Y_measure_125 : decode b_Y_measure 125 = .ok (.iaload, 1) := by decide +kernel
theorem d_Y_measure_126 : decode b_Y_measure 126 = .ok (.aload_n 0, 1) := by decide +kernel
theorem d_Y_measure_127 : decode b_Y_measure 127 = .ok (.getfield 16, 3) := by decide +kernel
theorem d_Y_measure_130 : decode b_Y_measure 130 = .ok (.iload_n 1, 1) := by decide +kernel
theorem d_Y_measure_131 : decode b_Y_measure 131 = .ok (.iaload, 1) := by decide +kernel
theorem d_Y_measure_132 : decode b_Y_measure 132 = .ok (.invokestatic 155, 3) := by decide +kernel
theorem d_Y_measure_135 : decode b_Y_measure 135 = .ok (.iastore, 1) := by decide +kernel
theorem d_Y_measure_136 : decode b_Y_measure 136 = .ok (.iinc 1 1, 3) := by decide +kernel
theorem d_Y_measure_139 : decode b_Y_measure 139 = .ok (.goto (-87), 3) := by decide +kernel
theorem d_Y_measure_142 : decode b_Y_measure 142 = .ok (.iconst 0, 1) := by decide +kernel
theorem d_Y_measure_143 : decode b_Y_measure 143 = .ok (.istore_n 1, 1) := by decide +kernel
theorem d_Y_measure_144 : decode b_Y_measure 144 = .ok (.iload_n 1, 1) := by decide +kernel
theorem d_Y_measure_145 : decode b_Y_measure 145 = .ok (.bipush 8, 2) := by decide +kernel
theorem d_Y_measure_147 : decode b_Y_measure 147 = .ok (.if_icmp .ge 85, 3) := by decide +kernel
theorem d_Y_measure_150 : decode b_Y_measure 150 = .ok (.iconst 0, 1) := by decide +kernel
theorem d_Y_measure_151 : decode b_Y_measure 151 = .ok (.istore_n 2, 1) := by decide +kernel
theorem d_Y_measure_152 : decode b_Y_measure 152 = .ok (.iload_n 2, 1) := by decide +kernel
theorem d_Y_measure_153 : decode b_Y_measure 153 = .ok (.bipush 8, 2) := by decide +kernel
theorem d_Y_measure_155 : decode b_Y_measure 155 = .ok (.if_icmp .ge 71, 3) := by decide +kernel
theorem d_Y_measure_158 : decode b_Y_measure 158 = .ok (.iconst 0, 1) := by decide +kernel
theorem d_Y_measure_159 : decode b_Y_measure 159 = .ok (.istore_n 3, 1) := by decide +kernel
theorem d_Y_measure_160 : decode b_Y_measure 160 = .ok (.iload_n 3, 1) := by decide +kernel
theorem d_Y_measure_161 : decode b_Y_measure 161 = .ok (.bipush 8, 2) := by decide +kernel
theorem d_Y_measure_163 : decode b_Y_measure 163 = .ok (.if_icmp .ge 57, 3) := by decide +kernel
theorem d_Y_measure_166 : decode b_Y_measure 166 = .ok (.aload_n 0, 1) := by decide +kernel
theorem d_Y_measure_167 : decode b_Y_measure 167 = .ok (.getfield 31, 3) := by decide +kernel
theorem d_Y_measure_170 : decode b_Y_measure 170 = .ok (.bipush 8, 2) := by decide +kernel
theorem d_Y_measure_172 : decode b_Y_measure 172 = .ok (.iload_n 2, 1) := by decide +kernel
theorem d_Y_measure_173 : decode b_Y_measure 173 = .ok (.imul, 1) := by decide +kernel
theorem d_Y_measure_174 : decode b_Y_measure 174 = .ok (.iload_n 3, 1) := by decide +kernel
theorem d_Y_measure_175 : decode b_Y_measure 175 = .ok (.iadd, 1) := by decide +kernel
theorem d_Y_measure_176 : decode b_Y_measure 176 = .ok (.aload_n 0, 1) := by decide +kernel
theorem d_Y_measure_177 : decode b_Y_measure 177 = .ok (.getfield 31, 3) := by decide +kernel
theorem d_Y_measure_180 : decode b_Y_measure 180 = .ok (.bipush 8, 2) := by decide +kernel
theorem d_Y_measure_182 : decode b_Y_measure 182 = .ok (.iload_n 2, 1) := by decide +kernel
theorem d_Y_measure_183 : decode b_Y_measure 183 = .ok (.imul, 1) := by decide +kernel
theorem d_Y_measure_184 : decode b_Y_measure 184 = .ok (.iload_n 3, 1) := by decide +kernel
theorem d_Y_measure_185 : decode b_Y_measure 185 = .ok (.iadd, 1) := by decide +kernel
theorem d_Y_measure_186 : decode b_Y_measure 186 = .ok (.iaload, 1) := by decide +kernel
theorem d_Y_measure_187 : decode b_Y_measure 187 = .ok (.aload_n 0, 1) := by decide +kernel
theorem d_Y_measure_188 : decode b_Y_measure 188 = .ok (.getfield 31, 3) := by decide +kernel
theorem d_Y_measure_191 : decode b_Y_measure 191 = .ok (.bipush 8, 2) := by decide +kernel
theorem d_Y_measure_193 : decode b_Y_measure 193 = .ok (.iload_n 2, 1) := by decide +kernel
theorem d_Y_measure_194 : decode b_Y_measure 194 = .ok (.imul, 1) := by decide +kernel
theorem d_Y_measure_195 : decode b_Y_measure 195 = .ok (.iload_n 1, 1) := by decide +kernel
theorem d_Y_measure_196 : decode b_Y_measure 196 = .ok (.iadd, 1) := by decide +kernel
theorem d_Y_measure_197 : decode b_Y_measure 197 = .ok (.iaload, 1) := by decide +kernel
theorem d_Y_measure_198 : decode b_Y_measure 198 = .ok (.aload_n 0, 1) := by decide +kernel
theorem d_Y_measure_199 : decode b_Y_measure 199 = .ok (.getfield 31, 3) := by decide +kernel
theorem d_Y_measure_202 : decode b_Y_measure 202 = .ok (.bipush 8, 2) := by decide +kernel
theorem d_Y_measure_204 : decode b_Y_measure 204 = .ok (.iload_n 1, 1) := by decide +kernel
theorem d_Y_measure_205 : decode b_Y_measure 205 = .ok (.imul, 1) := by decide +kernel
theorem d_Y_measure_206 : decode b_Y_measure 206 = .ok (.iload_n 3, 1) := by decide +kernel
theorem d_Y_measure_207 : decode b_Y_measure 207 = .ok (.iadd, 1) := by decide +kernel
theorem d_Y_measure_208 : decode b_Y_measure 208 = .ok (.iaload, 1) := by decide +kernel
theorem d_Y_measure_209 : decode b_Y_measure 209 = .ok (.iadd, 1) := by decide +kernel
theorem d_Y_measure_210 : decode b_Y_measure 210 = .ok (.invokestatic 155, 3) := by decide +kernel
theorem d_Y_measure_213 : decode b_Y_measure 213 = .ok (.iastore, 1) := by decide +kernel
theorem d_Y_measure_214 : decode b_Y_measure 214 = .ok (.iinc 3 1, 3) := by decide +kernel
theorem d_Y_measure_217 : decode b_Y_measure 217 = .ok (.goto (-57), 3) := by decide +kernel
theorem d_Y_measure_220 : decode b_Y_measure 220 = .ok (.iinc 2 1, 3) := by decide +kernel
theorem d_Y_measure_223 : decode b_Y_measure 223 = .ok (.goto (-71), 3) := by decide +kernel
theorem d_Y_measure_226 : decode b_Y_measure 226 = .ok (.iinc 1 1, 3) := by decide +kernel
theorem d_Y_measure_229 : decode b_Y_measure 229 = .ok (.goto (-85), 3) := by decide +kernel
theorem d_Y_measure_232 : decode b_Y_measure 232 = .ok (.return_, 1) := by decide +kernel
theorem d_Y_clear_0 : decode b_Y_clear 0 = .ok (.aload_n 0, 1) := by decide +kernel
theorem d_Y_clear_1 : decode b_Y_clear 1 = .ok (.iconst 0, 1) := by decide +kernel
theorem d_Y_clear_2 : decode b_Y_clear 2 = .ok (.putfield 117, 3) := by decide +kernel
theorem d_Y_clear_5 : decode b_Y_clear 5 = .ok (.aload_n 0, 1) := by decide +kernel
theorem d_Y_clear_6 : decode b_Y_clear 6 = .ok (.iconst 0, 1) := by decide +kernel
theorem d_Y_clear_7 : decode b_Y_clear 7 = .ok (.putfield 121, 3) := by decide +kernel
theorem d_Y_clear_10 : decode b_Y_clear 10 = .ok (.aload_n 0, 1) := by decide +kernel
theorem d_Y_clear_11 : decode b_Y_clear 11 = .ok (.iconst 0, 1) := by decide +kernel
theorem d_Y_clear_12 : decode b_Y_clear 12 = .ok (.putfield 124, 3) := by decide +kernel
theorem d_Y_clear_15 : decode b_Y_clear 15 = .ok (.aload_n 0, 1) := by decide +kernel
theorem d_Y_clear_16 : decode b_Y_clear 16 = .ok (.iconst 0, 1) := by decide +kernel
theorem d_Y_clear_17 : decode b_Y_clear 17 = .ok (.putfield 128, 3) := by decide +kernel
theorem d_Y_clear_20 : decode b_Y_clear 20 = .ok (.aload_n 0, 1) := by decide +kernel
theorem d_Y_clear_21 : decode b_Y_clear 21 = .ok (.iconst 0, 1) := by decide +kernel
theorem d_Y_clear_22 : decode b_Y_clear 22 = .ok (.putfield 131, 3) := by decide +kernel
theorem d_Y_clear_25 : decode b_Y_clear 25 = .ok (.aload_n 0, 1) := by decide +kernel
theorem d_Y_clear_26 : decode b_Y_clear 26 = .ok (.iconst 0, 1) := by decide +kernel
theorem d_Y_clear_27 : decode b_Y_clear 27 = .ok (.putfield 134, 3) := by decide +kernel
theorem d_Y_clear_30 : decode b_Y_clear 30 = .ok (.iconst 0, 1) := by decide +kernel
theorem d_Y_clear_31 : decode b_Y_clear 31 = .ok (.istore_n 1, 1) := by decide +kernel
theorem d_Y_clear_32 : decode b_Y_clear 32 = .ok (.iload_n 1, 1) := by decide +kernel
theorem d_Y_clear_33 : decode b_Y_clear 33 = .ok (.bipush 64, 2) := by decide +kernel
theorem d_Y_clear_35 : decode b_Y_clear 35 = .ok (.if_icmp .ge 16, 3) := by decide +kernel
theorem d_Y_clear_38 : decode b_Y_clear 38 = .ok (.aload_n 0, 1) := by decide +kernel
theorem d_Y_clear_39 : decode b_Y_clear 39 = .ok (.getfield 79, 3) := by decide +kernel
theorem d_Y_clear_42 : decode b_Y_clear 42 = .ok (.iload_n 1, 1) := by decide +kernel
theorem d_Y_clear_43 : decode b_Y_clear 43 = .ok (.iconst 0, 1) := by decide +kernel
theorem d_Y_clear_44 : decode b_Y_clear 44 = .ok (.iastore, 1) := by decide +kernel
theorem d_Y_clear_45 : decode b_Y_clear 45 = .ok (.iinc 1 1, 3) := by decide +kernel
theorem d_Y_clear_48 : decode b_Y_clear 48 = .ok (.goto (-16), 3) := by decide +kernel
theorem d_Y_clear_51 : decode b_Y_clear 51 = .ok (.aload_n 0, 1) := by decide +kernel
theorem d_Y_clear_52 : decode b_Y_clear 52 = .ok (.invokevirtual 137, 3) := by decide +kernel
theorem d_Y_clear_55 : decode b_Y_clear 55 = .ok (.return_, 1) := by decide +kernel
theorem d_Y_node_0 : decode b_Y_node 0 = .ok (.iload_n 0, 1) := by decide +kernel
theorem d_Y_node_1 : decode b_Y_node 1 = .ok (.ifCond .lt 13, 3) := by decide +kernel
theorem d_Y_node_4 : decode b_Y_node 4 = .ok (.iload_n 0, 1) := by decide +kernel
theorem d_Y_node_5 : decode b_Y_node 5 = .ok (.bipush 7, 2) := by decide +kernel
theorem d_Y_node_7 : decode b_Y_node 7 = .ok (.if_icmp .gt 7, 3) := by decide +kernel
theorem d_Y_node_10 : decode b_Y_node 10 = .ok (.iconst 1, 1) := by decide +kernel
theorem d_Y_node_11 : decode b_Y_node 11 = .ok (.goto 4, 3) := by decide +kernel
theorem d_Y_node_14 : decode b_Y_node 14 = .ok (.iconst 0, 1) := by decide +kernel
theorem d_Y_node_15 : decode b_Y_node 15 = .ok (.ireturn, 1) := by decide +kernel
theorem d_Y_within_0 : decode b_Y_within 0 = .ok (.iload_n 0, 1) := by decide +kernel
theorem d_Y_within_1 : decode b_Y_within 1 = .ok (.iload_n 1, 1) := by decide +kernel
theorem d_Y_within_2 : decode b_Y_within 2 = .ok (.if_icmp .lt 12, 3) := by decide +kernel
theorem d_Y_within_5 : decode b_Y_within 5 = .ok (.iload_n 0, 1) := by decide +kernel
theorem d_Y_within_6 : decode b_Y_within 6 = .ok (.iload_n 2, 1) := by decide +kernel
theorem d_Y_within_7 : decode b_Y_within 7 = .ok (.if_icmp .gt 7, 3) := by decide +kernel
theorem d_Y_within_10 : decode b_Y_within 10 = .ok (.iconst 1, 1) := by decide +kernel
theorem d_Y_within_11 : decode b_Y_within 11 = .ok (.goto 4, 3) := by decide +kernel
theorem d_Y_within_14 : decode b_Y_within 14 = .ok (.iconst 0, 1) := by decide +kernel
theorem d_Y_within_15 : decode b_Y_within 15 = .ok (.ireturn, 1) := by decide +kernel
theorem d_Y_link_0 : decode b_Y_link 0 = .ok (.aload_n 0, 1) := by decide +kernel
theorem d_Y_link_1 : decode b_Y_link 1 = .ok (.getfield 124, 3) := by decide +kernel
theorem d_Y_link_4 : decode b_Y_link 4 = .ok (.ifCond .ne 31, 3) := by decide +kernel
theorem d_Y_link_7 : decode b_Y_link 7 = .ok (.aload_n 0, 1) := by decide +kernel
theorem d_Y_link_8 : decode b_Y_link 8 = .ok (.getfield 117, 3) := by decide +kernel
theorem d_Y_link_11 : decode b_Y_link 11 = .ok (.bipush 12, 2) := by decide +kernel
theorem d_Y_link_13 : decode b_Y_link 13 = .ok (.if_icmp .eq 22, 3) := by decide +kernel
theorem d_Y_link_16 : decode b_Y_link 16 = .ok (.iload_n 1, 1) := by decide +kernel
theorem d_Y_link_17 : decode b_Y_link 17 = .ok (.invokestatic 140, 3) := by decide +kernel
theorem d_Y_link_20 : decode b_Y_link 20 = .ok (.ifCond .eq 15, 3) := by decide +kernel
theorem d_Y_link_23 : decode b_Y_link 23 = .ok (.iload_n 2, 1) := by decide +kernel
theorem d_Y_link_24 : decode b_Y_link 24 = .ok (.invokestatic 140, 3) := by decide +kernel
theorem d_Y_link_27 : decode b_Y_link 27 = .ok (.ifCond .eq 8, 3) := by decide +kernel
theorem d_Y_link_30 : decode b_Y_link 30 = .ok (.iload_n 1, 1) := by decide +kernel
theorem d_Y_link_31 : decode b_Y_link 31 = .ok (.iload_n 2, 1) := by decide +kernel
theorem d_Y_link_32 : decode b_Y_link 32 = .ok (.if_icmp .ne 5, 3) := by decide +kernel
theorem d_Y_link_35 : decode b_Y_link 35 = .ok (.iconst (-1), 1) := by decide +kernel
theorem d_Y_link_36 : decode b_Y_link 36 = .ok (.ireturn, 1) := by decide +kernel
theorem d_Y_link_37 : decode b_Y_link 37 = .ok (.iload_n 3, 1) := by decide +kernel
theorem d_Y_link_38 : decode b_Y_link 38 = .ok (.iconst 1, 1) := by decide +kernel
theorem d_Y_link_39 : decode b_Y_link 39 = .ok (.bipush 100, 2) := by decide +kernel
theorem d_Y_link_41 : decode b_Y_link 41 = .ok (.invokestatic 144, 3) := by decide +kernel
theorem d_Y_link_44 : decode b_Y_link 44 = .ok (.ifCond .eq 25, 3) := by decide +kernel
theorem d_Y_link_47 : decode b_Y_link 47 = .ok (.iload 4, 2) := by decide +kernel
theorem d_Y_link_49 : decode b_Y_link 49 = .ok (.iconst 1, 1) := by decide +kernel
theorem d_Y_link_50 : decode b_Y_link 50 = .ok (.bipush 16, 2) := by decide +kernel
theorem d_Y_link_52 : decode b_Y_link 52 = .ok (.invokestatic 144, 3) := by decide +kernel
theorem d_Y_link_55 : decode b_Y_link 55 = .ok (.ifCond .eq 14, 3) := by decide +kernel
theorem d_Y_link_58 : decode b_Y_link 58 = .ok (.iload 5, 2) := by decide +kernel
theorem d_Y_link_60 : decode b_Y_link 60 = .ok (.iconst 0, 1) := by decide +kernel
theorem d_Y_link_61 : decode b_Y_link 61 = .ok (.bipush 40, 2) := by decide +kernel
theorem d_Y_link_63 : decode b_Y_link 63 = .ok (.invokestatic 144, 3) := by decide +kernel
theorem d_Y_link_66 : decode b_Y_link 66 = .ok (.ifCond .ne 5, 3) := by decide +kernel
theorem d_Y_link_69 : decode b_Y_link 69 = .ok (.iconst (-1), 1) := by decide +kernel
theorem d_Y_link_70 : decode b_Y_link 70 = .ok (.ireturn, 1) := by decide +kernel
theorem d_Y_link_71 : decode b_Y_link 71 = .ok (.aload_n 0, 1) := by decide +kernel
theorem d_Y_link_72 : decode b_Y_link 72 = .ok (.getfield 7, 3) := by decide +kernel
theorem d_Y_link_75 : decode b_Y_link 75 = .ok (.aload_n 0, 1) := by decide +kernel
theorem d_Y_link_76 : decode b_Y_link 76 = .ok (.getfield 117, 3) := by decide +kernel
theorem d_Y_link_79 : decode b_Y_link 79 = .ok (.iload_n 1, 1) := by decide +kernel
theorem d_Y_link_80 : decode b_Y_link 80 = .ok (.iastore, 1) := by decide +kernel
theorem d_Y_link_81 : decode b_Y_link 81 = .ok (.aload_n 0, 1) := by decide +kernel
theorem d_Y_link_82 : decode b_Y_link 82 = .ok (.getfield 13, 3) := by decide +kernel
theorem d_Y_link_85 : decode b_Y_link 85 = .ok (.aload_n 0, 1) := by decide +kernel
theorem d_Y_link_86 : decode b_Y_link 86 = .ok (.getfield 117, 3) := by decide +kernel
theorem d_Y_link_89 : decode b_Y_link 89 = .ok (.iload_n 2, 1) := by decide +kernel
theorem d_Y_link_90 : decode b_Y_link 90 = .ok (.iastore, 1) := by decide +kernel
theorem d_Y_link_91 : decode b_Y_link 91 = .ok (.aload_n 0, 1) := by decide +kernel
theorem d_Y_link_92 : decode b_Y_link 92 = .ok (.getfield 16, 3) := by decide +kernel
theorem d_Y_link_95 : decode b_Y_link 95 = .ok (.aload_n 0, 1) := by decide +kernel
theorem d_Y_link_96 : decode b_Y_link 96 = .ok (.getfield 117, 3) := by decide +kernel
theorem d_Y_link_99 : decode b_Y_link 99 = .ok (.iload_n 3, 1) := by decide +kernel
theorem d_Y_link_100 : decode b_Y_link 100 = .ok (.iastore, 1) := by decide +kernel
theorem d_Y_link_101 : decode b_Y_link 101 = .ok (.aload_n 0, 1) := by decide +kernel
theorem d_Y_link_102 : decode b_Y_link 102 = .ok (.getfield 19, 3) := by decide +kernel
theorem d_Y_link_105 : decode b_Y_link 105 = .ok (.aload_n 0, 1) := by decide +kernel
theorem d_Y_link_106 : decode b_Y_link 106 = .ok (.getfield 117, 3) := by decide +kernel
theorem d_Y_link_109 : decode b_Y_link 109 = .ok (.iload 4, 2) := by decide +kernel
theorem d_Y_link_111 : decode b_Y_link 111 = .ok (.iastore, 1) := by decide +kernel
theorem d_Y_link_112 : decode b_Y_link 112 = .ok (.aload_n 0, 1) := by decide +kernel
theorem d_Y_link_113 : decode b_Y_link 113 = .ok (.getfield 22, 3) := by decide +kernel
theorem d_Y_link_116 : decode b_Y_link 116 = .ok (.aload_n 0, 1) := by decide +kernel
theorem d_Y_link_117 : decode b_Y_link 117 = .ok (.getfield 117, 3) := by decide +kernel
theorem d_Y_link_120 : decode b_Y_link 120 = .ok (.iload 5, 2) := by decide +kernel
theorem d_Y_link_122 : decode b_Y_link 122 = .ok (.iastore, 1) := by decide +kernel
theorem d_Y_link_123 : decode b_Y_link 123 = .ok (.iconst 2, 1) := by decide +kernel
theorem d_Y_link_124 : decode b_Y_link 124 = .ok (.aload_n 0, 1) := by decide +kernel
theorem d_Y_link_125 : decode b_Y_link 125 = .ok (.getfield 117, 3) := by decide +kernel
theorem d_Y_link_128 : decode b_Y_link 128 = .ok (.imul, 1) := by decide +kernel
theorem d_Y_link_129 : decode b_Y_link 129 = .ok (.istore 6, 2) := by decide +kernel
theorem d_Y_link_131 : decode b_Y_link 131 = .ok (.iload 6, 2) := by decide +kernel
theorem d_Y_link_133 : decode b_Y_link 133 = .ok (.iconst 2, 1) := by decide +kernel
theorem d_Y_link_134 : decode b_Y_link 134 = .ok (.aload_n 0, 1) := by decide +kernel
theorem d_Y_link_135 : decode b_Y_link 135 = .ok (.getfield 117, 3) := by decide +kernel
theorem d_Y_link_138 : decode b_Y_link 138 = .ok (.imul, 1) := by decide +kernel
theorem d_Y_link_139 : decode b_Y_link 139 = .ok (.iconst 1, 1) := by decide +kernel
theorem d_Y_link_140 : decode b_Y_link 140 = .ok (.iadd, 1) := by decide +kernel
theorem d_Y_link_141 : decode b_Y_link 141 = .ok (.if_icmp .gt 26, 3) := by decide +kernel
theorem d_Y_link_144 : decode b_Y_link 144 = .ok (.aload_n 0, 1) := by decide +kernel
theorem d_Y_link_145 : decode b_Y_link 145 = .ok (.getfield 25, 3) := by decide +kernel
theorem d_Y_link_148 : decode b_Y_link 148 = .ok (.iload 6, 2) := by decide +kernel
theorem d_Y_link_150 : decode b_Y_link 150 = .ok (.bipush 8, 2) := by decide +kernel
theorem d_Y_link_152 : decode b_Y_link 152 = .ok (.iastore, 1) := by decide +kernel
theorem d_Y_link_153 : decode b_Y_link 153 = .ok (.aload_n 0, 1) := by decide +kernel
theorem d_Y_link_154 : decode b_Y_link 154 = .ok (.getfield 28, 3) := by decide +kernel
theorem d_Y_link_157 : decode b_Y_link 157 = .ok (.iload 6, 2) := by decide +kernel
theorem d_Y_link_159 : decode b_Y_link 159 = .ok (.iconst 4, 1) := by decide +kernel
theorem d_Y_link_160 : decode b_Y_link 160 = .ok (.iastore, 1) := by decide +kernel
theorem d_Y_link_161 : decode b_Y_link 161 = .ok (.iinc 6 1, 3) := by decide +kernel
theorem d_Y_link_164 : decode b_Y_link 164 = .ok (.goto (-33), 3) := by decide +kernel
theorem d_Y_link_167 : decode b_Y_link 167 = .ok (.aload_n 0, 1) := by decide +kernel
theorem d_Y_link_168 : decode b_Y_link 168 = .ok (.dup, 1) := by decide +kernel
theorem d_Y_link_169 : decode b_Y_link 169 = .ok (.getfield 117, 3) := by decide +kernel
theorem d_Y_link_172 : decode b_Y_link 172 = .ok (.iconst 1, 1) := by decide +kernel
theorem d_Y_link_173 : decode b_Y_link 173 = .ok (.iadd, 1) := by decide +kernel
theorem d_Y_link_174 : decode b_Y_link 174 = .ok (.putfield 117, 3) := by decide +kernel
theorem d_Y_link_177 : decode b_Y_link 177 = .ok (.aload_n 0, 1) := by decide +kernel
theorem d_Y_link_178 : decode b_Y_link 178 = .ok (.invokevirtual 137, 3) := by decide +kernel
theorem d_Y_link_181 : decode b_Y_link 181 = .ok (.aload_n 0, 1) := by decide +kernel
theorem d_Y_link_182 : decode b_Y_link 182 = .ok (.getfield 117, 3) := by decide +kernel
theorem d_Y_link_185 : decode b_Y_link 185 = .ok (.iconst 1, 1) := by decide +kernel
theorem d_Y_link_186 : decode b_Y_link 186 = .ok (.isub, 1) := by decide +kernel
theorem d_Y_link_187 : decode b_Y_link 187 = .ok (.ireturn, 1) := by decide +kernel
theorem d_Y_isPort_0 : decode b_Y_isPort 0 = .ok (.iload_n 1, 1) := by decide +kernel
theorem d_Y_isPort_1 : decode b_Y_isPort 1 = .ok (.ifCond .lt 17, 3) := by decide +kernel
theorem d_Y_isPort_4 : decode b_Y_isPort 4 = .ok (.iload_n 1, 1) := by decide +kernel
theorem d_Y_isPort_5 : decode b_Y_isPort 5 = .ok (.iconst 2, 1) := by decide +kernel
theorem d_Y_isPort_6 : decode b_Y_isPort 6 = .ok (.aload_n 0, 1) := by decide +kernel
theorem d_Y_isPort_7 : decode b_Y_isPort 7 = .ok (.getfield 117, 3) := by decide +kernel
theorem d_Y_isPort_10 : decode b_Y_isPort 10 = .ok (.imul, 1) := by decide +kernel
theorem d_Y_isPort_11 : decode b_Y_isPort 11 = .ok (.if_icmp .ge 7, 3) := by decide +kernel
theorem d_Y_isPort_14 : decode b_Y_isPort 14 = .ok (.iconst 1, 1) := by decide +kernel
theorem d_Y_isPort_15 : decode b_Y_isPort 15 = .ok (.goto 4, 3) := by decide +kernel
theorem d_Y_isPort_18 : decode b_Y_isPort 18 = .ok (.iconst 0, 1) := by decide +kernel
theorem d_Y_isPort_19 : decode b_Y_isPort 19 = .ok (.ireturn, 1) := by decide +kernel
theorem d_Y_isFlow_0 : decode b_Y_isFlow 0 = .ok (.iload_n 1, 1) := by decide +kernel
theorem d_Y_isFlow_1 : decode b_Y_isFlow 1 = .ok (.ifCond .lt 15, 3) := by decide +kernel
theorem d_Y_isFlow_4 : decode b_Y_isFlow 4 = .ok (.iload_n 1, 1) := by decide +kernel
theorem d_Y_isFlow_5 : decode b_Y_isFlow 5 = .ok (.aload_n 0, 1) := by decide +kernel
theorem d_Y_isFlow_6 : decode b_Y_isFlow 6 = .ok (.getfield 121, 3) := by decide +kernel
theorem d_Y_isFlow_9 : decode b_Y_isFlow 9 = .ok (.if_icmp .ge 7, 3) := by decide +kernel
theorem d_Y_isFlow_12 : decode b_Y_isFlow 12 = .ok (.iconst 1, 1) := by decide +kernel
theorem d_Y_isFlow_13 : decode b_Y_isFlow 13 = .ok (.goto 4, 3) := by decide +kernel
theorem d_Y_isFlow_16 : decode b_Y_isFlow 16 = .ok (.iconst 0, 1) := by decide +kernel
theorem d_Y_isFlow_17 : decode b_Y_isFlow 17 = .ok (.ireturn, 1) := by decide +kernel
theorem d_Y_shape_0 : decode b_Y_shape 0 = .ok (.aload_n 0, 1) := by decide +kernel
theorem d_Y_shape_1 : decode b_Y_shape 1 = .ok (.getfield 124, 3) := by decide +kernel
theorem d_Y_shape_4 : decode b_Y_shape 4 = .ok (.ifCond .ne 31, 3) := by decide +kernel
theorem d_Y_shape_7 : decode b_Y_shape 7 = .ok (.aload_n 0, 1) := by decide +kernel
theorem d_Y_shape_8 : decode b_Y_shape 8 = .ok (.iload_n 1, 1) := by decide +kernel
theorem d_Y_shape_9 : decode b_Y_shape 9 = .ok (.invokevirtual 148, 3) := by decide +kernel
theorem d_Y_shape_12 : decode b_Y_shape 12 = .ok (.ifCond .eq 23, 3) := by decide +kernel
theorem d_Y_shape_15 : decode b_Y_shape 15 = .ok (.iload_n 2, 1) := by decide +kernel
theorem d_Y_shape_16 : decode b_Y_shape 16 = .ok (.iconst 1, 1) := by decide +kernel
theorem d_Y_shape_17 : decode b_Y_shape 17 = .ok (.bipush 16, 2) := by decide +kernel
theorem d_Y_shape_19 : decode b_Y_shape 19 = .ok (.invokestatic 144, 3) := by decide +kernel
theorem d_Y_shape_22 : decode b_Y_shape 22 = .ok (.ifCond .eq 13, 3) := by decide +kernel
theorem d_Y_shape_25 : decode b_Y_shape 25 = .ok (.iload_n 3, 1) := by decide +kernel
theorem d_Y_shape_26 : decode b_Y_shape 26 = .ok (.iconst 1, 1) := by decide +kernel
theorem d_Y_shape_27 : decode b_Y_shape 27 = .ok (.bipush 8, 2) := by decide +kernel
theorem d_Y_shape_29 : decode b_Y_shape 29 = .ok (.invokestatic 144, 3) := by decide +kernel
theorem d_Y_shape_32 : decode b_Y_shape 32 = .ok (.ifCond .ne 5, 3) := by decide +kernel
theorem d_Y_shape_35 : decode b_Y_shape 35 = .ok (.iconst 0, 1) := by decide +kernel
theorem d_Y_shape_36 : decode b_Y_shape 36 = .ok (.ireturn, 1) := by decide +kernel
theorem d_Y_shape_37 : decode b_Y_shape 37 = .ok (.aload_n 0, 1) := by decide +kernel
theorem d_Y_shape_38 : decode b_Y_shape 38 = .ok (.getfield 25, 3) := by decide +kernel
theorem d_Y_shape_41 : decode b_Y_shape 41 = .ok (.iload_n 1, 1) := by decide +kernel
theorem d_Y_shape_42 : decode b_Y_shape 42 = .ok (.iload_n 2, 1) := by decide +kernel
theorem d_Y_shape_43 : decode b_Y_shape 43 = .ok (.iastore, 1) := by decide +kernel
theorem d_Y_shape_44 : decode b_Y_shape 44 = .ok (.aload_n 0, 1) := by decide +kernel
theorem d_Y_shape_45 : decode b_Y_shape 45 = .ok (.getfield 28, 3) := by decide +kernel
theorem d_Y_shape_48 : decode b_Y_shape 48 = .ok (.iload_n 1, 1) := by decide +kernel
theorem d_Y_shape_49 : decode b_Y_shape 49 = .ok (.iload_n 3, 1) := by decide +kernel
theorem d_Y_shape_50 : decode b_Y_shape 50 = .ok (.iastore, 1) := by decide +kernel
theorem d_Y_shape_51 : decode b_Y_shape 51 = .ok (.iconst 1, 1) := by decide +kernel
theorem d_Y_shape_52 : decode b_Y_shape 52 = .ok (.ireturn, 1) := by decide +kernel
theorem d_Y_flow_0 : decode b_Y_flow 0 = .ok (.aload_n 0, 1) := by decide +kernel
theorem d_Y_flow_1 : decode b_Y_flow 1 = .ok (.getfield 124, 3) := by decide +kernel
theorem d_Y_flow_4 : decode b_Y_flow 4 = .ok (.ifCond .ne 52, 3) := by decide +kernel
theorem d_Y_flow_7 : decode b_Y_flow 7 = .ok (.aload_n 0, 1) := by decide +kernel
theorem d_Y_flow_8 : decode b_Y_flow 8 = .ok (.getfield 121, 3) := by decide +kernel
theorem d_Y_flow_11 : decode b_Y_flow 11 = .ok (.bipush 6, 2) := by decide +kernel
theorem d_Y_flow_13 : decode b_Y_flow 13 = .ok (.if_icmp .eq 43, 3) := by decide +kernel
theorem d_Y_flow_16 : decode b_Y_flow 16 = .ok (.iload_n 1, 1) := by decide +kernel
theorem d_Y_flow_17 : decode b_Y_flow 17 = .ok (.invokestatic 140, 3) := by decide +kernel
theorem d_Y_flow_20 : decode b_Y_flow 20 = .ok (.ifCond .eq 36, 3) := by decide +kernel
theorem d_Y_flow_23 : decode b_Y_flow 23 = .ok (.iload_n 2, 1) := by decide +kernel
theorem d_Y_flow_24 : decode b_Y_flow 24 = .ok (.invokestatic 140, 3) := by decide +kernel
theorem d_Y_flow_27 : decode b_Y_flow 27 = .ok (.ifCond .eq 29, 3) := by decide +kernel
theorem d_Y_flow_30 : decode b_Y_flow 30 = .ok (.iload_n 1, 1) := by decide +kernel
theorem d_Y_flow_31 : decode b_Y_flow 31 = .ok (.iload_n 2, 1) := by decide +kernel
theorem d_Y_flow_32 : decode b_Y_flow 32 = .ok (.if_icmp .eq 24, 3) := by decide +kernel
theorem d_Y_flow_35 : decode b_Y_flow 35 = .ok (.iload_n 3, 1) := by decide +kernel
theorem d_Y_flow_36 : decode b_Y_flow 36 = .ok (.iconst 1, 1) := by decide +kernel
theorem d_Y_flow_37 : decode b_Y_flow 37 = .ok (.bipush 100, 2) := by decide +kernel
theorem d_Y_flow_39 : decode b_Y_flow 39 = .ok (.invokestatic 144, 3) := by decide +kernel
theorem d_Y_flow_42 : decode b_Y_flow 42 = .ok (.ifCond .eq 14, 3) := by decide +kernel
theorem d_Y_flow_45 : decode b_Y_flow 45 = .ok (.iload 4, 2) := by decide +kernel
theorem d_Y_flow_47 : decode b_Y_flow 47 = .ok (.iconst 1, 1) := by decide +kernel
theorem d_Y_flow_48 : decode b_Y_flow 48 = .ok (.bipush 8, 2) := by decide +kernel
theorem d_Y_flow_50 : decode b_Y_flow 50 = .ok (.invokestatic 144, 3) := by decide +kernel
theorem d_Y_flow_53 : decode b_Y_flow 53 = .ok (.ifCond .ne 5, 3) := by decide +kernel
theorem d_Y_flow_56 : decode b_Y_flow 56 = .ok (.iconst (-1), 1) := by decide +kernel
theorem d_Y_flow_57 : decode b_Y_flow 57 = .ok (.ireturn, 1) := by decide +kernel
theorem d_Y_flow_58 : decode b_Y_flow 58 = .ok (.aload_n 0, 1) := by decide +kernel
theorem d_Y_flow_59 : decode b_Y_flow 59 = .ok (.getfield 34, 3) := by decide +kernel
theorem d_Y_flow_62 : decode b_Y_flow 62 = .ok (.aload_n 0, 1) := by decide +kernel
theorem d_Y_flow_63 : decode b_Y_flow 63 = .ok (.getfield 121, 3) := by decide +kernel
theorem d_Y_flow_66 : decode b_Y_flow 66 = .ok (.iload_n 1, 1) := by decide +kernel
theorem d_Y_flow_67 : decode b_Y_flow 67 = .ok (.iastore, 1) := by decide +kernel
theorem d_Y_flow_68 : decode b_Y_flow 68 = .ok (.aload_n 0, 1) := by decide +kernel
theorem d_Y_flow_69 : decode b_Y_flow 69 = .ok (.getfield 37, 3) := by decide +kernel
theorem d_Y_flow_72 : decode b_Y_flow 72 = .ok (.aload_n 0, 1) := by decide +kernel
theorem d_Y_flow_73 : decode b_Y_flow 73 = .ok (.getfield 121, 3) := by decide +kernel
theorem d_Y_flow_76 : decode b_Y_flow 76 = .ok (.iload_n 2, 1) := by decide +kernel
theorem d_Y_flow_77 : decode b_Y_flow 77 = .ok (.iastore, 1) := by decide +kernel
theorem d_Y_flow_78 : decode b_Y_flow 78 = .ok (.aload_n 0, 1) := by decide +kernel
theorem d_Y_flow_79 : decode b_Y_flow 79 = .ok (.getfield 40, 3) := by decide +kernel
theorem d_Y_flow_82 : decode b_Y_flow 82 = .ok (.aload_n 0, 1) := by decide +kernel
theorem d_Y_flow_83 : decode b_Y_flow 83 = .ok (.getfield 121, 3) := by decide +kernel
theorem d_Y_flow_86 : decode b_Y_flow 86 = .ok (.iload_n 3, 1) := by decide +kernel
theorem d_Y_flow_87 : decode b_Y_flow 87 = .ok (.iastore, 1) := by decide +kernel
theorem d_Y_flow_88 : decode b_Y_flow 88 = .ok (.aload_n 0, 1) := by decide +kernel
theorem d_Y_flow_89 : decode b_Y_flow 89 = .ok (.getfield 43, 3) := by decide +kernel
theorem d_Y_flow_92 : decode b_Y_flow 92 = .ok (.aload_n 0, 1) := by decide +kernel
theorem d_Y_flow_93 : decode b_Y_flow 93 = .ok (.getfield 121, 3) := by decide +kernel
theorem d_Y_flow_96 : decode b_Y_flow 96 = .ok (.iload 4, 2) := by decide +kernel
theorem d_Y_flow_98 : decode b_Y_flow 98 = .ok (.iastore, 1) := by decide +kernel
theorem d_Y_flow_99 : decode b_Y_flow 99 = .ok (.aload_n 0, 1) := by decide +kernel
theorem d_Y_flow_100 : decode b_Y_flow 100 = .ok (.getfield 46, 3) := by decide +kernel
theorem d_Y_flow_103 : decode b_Y_flow 103 = .ok (.aload_n 0, 1) := by decide +kernel
theorem d_Y_flow_104 : decode b_Y_flow 104 = .ok (.getfield 121, 3) := by decide +kernel
theorem d_Y_flow_107 : decode b_Y_flow 107 = .ok (.iconst 4, 1) := by decide +kernel
theorem d_Y_flow_108 : decode b_Y_flow 108 = .ok (.iastore, 1) := by decide +kernel
theorem d_Y_flow_109 : decode b_Y_flow 109 = .ok (.aload_n 0, 1) := by decide +kernel
theorem d_Y_flow_110 : decode b_Y_flow 110 = .ok (.getfield 49, 3) := by decide +kernel
theorem d_Y_flow_113 : decode b_Y_flow 113 = .ok (.aload_n 0, 1) := by decide +kernel
theorem d_Y_flow_114 : decode b_Y_flow 114 = .ok (.getfield 121, 3) := by decide +kernel
theorem d_Y_flow_117 : decode b_Y_flow 117 = .ok (.bipush 100, 2) := by decide +kernel
theorem d_Y_flow_119 : decode b_Y_flow 119 = .ok (.iastore, 1) := by decide +kernel
theorem d_Y_flow_120 : decode b_Y_flow 120 = .ok (.aload_n 0, 1) := by decide +kernel
theorem d_Y_flow_121 : decode b_Y_flow 121 = .ok (.getfield 52, 3) := by decide +kernel
theorem d_Y_flow_124 : decode b_Y_flow 124 = .ok (.aload_n 0, 1) := by decide +kernel
theorem d_Y_flow_125 : decode b_Y_flow 125 = .ok (.getfield 121, 3) := by decide +kernel
theorem d_Y_flow_128 : decode b_Y_flow 128 = .ok (.iconst 0, 1) := by decide +kernel
theorem d_Y_flow_129 : decode b_Y_flow 129 = .ok (.iastore, 1) := by decide +kernel
theorem d_Y_flow_130 : decode b_Y_flow 130 = .ok (.aload_n 0, 1) := by decide +kernel
theorem d_Y_flow_131 : decode b_Y_flow 131 = .ok (.getfield 55, 3) := by decide +kernel
theorem d_Y_flow_134 : decode b_Y_flow 134 = .ok (.aload_n 0, 1) := by decide +kernel
theorem d_Y_flow_135 : decode b_Y_flow 135 = .ok (.getfield 121, 3) := by decide +kernel
theorem d_Y_flow_138 : decode b_Y_flow 138 = .ok (.iconst 0, 1) := by decide +kernel
theorem d_Y_flow_139 : decode b_Y_flow 139 = .ok (.iastore, 1) := by decide +kernel
theorem d_Y_flow_140 : decode b_Y_flow 140 = .ok (.aload_n 0, 1) := by decide +kernel
theorem d_Y_flow_141 : decode b_Y_flow 141 = .ok (.getfield 58, 3) := by decide +kernel
theorem d_Y_flow_144 : decode b_Y_flow 144 = .ok (.aload_n 0, 1) := by decide +kernel
theorem d_Y_flow_145 : decode b_Y_flow 145 = .ok (.getfield 121, 3) := by decide +kernel
theorem d_Y_flow_148 : decode b_Y_flow 148 = .ok (.iconst 0, 1) := by decide +kernel
theorem d_Y_flow_149 : decode b_Y_flow 149 = .ok (.iastore, 1) := by decide +kernel
theorem d_Y_flow_150 : decode b_Y_flow 150 = .ok (.aload_n 0, 1) := by decide +kernel
theorem d_Y_flow_151 : decode b_Y_flow 151 = .ok (.getfield 61, 3) := by decide +kernel
theorem d_Y_flow_154 : decode b_Y_flow 154 = .ok (.aload_n 0, 1) := by decide +kernel
theorem d_Y_flow_155 : decode b_Y_flow 155 = .ok (.getfield 121, 3) := by decide +kernel
theorem d_Y_flow_158 : decode b_Y_flow 158 = .ok (.iconst 0, 1) := by decide +kernel
theorem d_Y_flow_159 : decode b_Y_flow 159 = .ok (.iastore, 1) := by decide +kernel
theorem d_Y_flow_160 : decode b_Y_flow 160 = .ok (.aload_n 0, 1) := by decide +kernel
theorem d_Y_flow_161 : decode b_Y_flow 161 = .ok (.getfield 64, 3) := by decide +kernel
theorem d_Y_flow_164 : decode b_Y_flow 164 = .ok (.aload_n 0, 1) := by decide +kernel
theorem d_Y_flow_165 : decode b_Y_flow 165 = .ok (.getfield 121, 3) := by decide +kernel
theorem d_Y_flow_168 : decode b_Y_flow 168 = .ok (.iconst (-1), 1) := by decide +kernel
theorem d_Y_flow_169 : decode b_Y_flow 169 = .ok (.iastore, 1) := by decide +kernel
theorem d_Y_flow_170 : decode b_Y_flow 170 = .ok (.aload_n 0, 1) := by decide +kernel
theorem d_Y_flow_171 : decode b_Y_flow 171 = .ok (.getfield 70, 3) := by decide +kernel
theorem d_Y_flow_174 : decode b_Y_flow 174 = .ok (.aload_n 0, 1) := by decide +kernel
theorem d_Y_flow_175 : decode b_Y_flow 175 = .ok (.getfield 121, 3) := by decide +kernel
theorem d_Y_flow_178 : decode b_Y_flow 178 = .ok (.iconst (-1), 1) := by decide +kernel
theorem d_Y_flow_179 : decode b_Y_flow 179 = .ok (.iastore, 1) := by decide +kernel
theorem d_Y_flow_180 : decode b_Y_flow 180 = .ok (.iconst 0, 1) := by decide +kernel
theorem d_Y_flow_181 : decode b_Y_flow 181 = .ok (.istore 5, 2) := by decide +kernel
theorem d_Y_flow_183 : decode b_Y_flow 183 = .ok (.iload 5, 2) := by decide +kernel
theorem d_Y_flow_185 : decode b_Y_flow 185 = .ok (.iconst 4, 1) := by decide +kernel
theorem d_Y_flow_186 : decode b_Y_flow 186 = .ok (.if_icmp .ge 24, 3) := by decide +kernel
theorem d_Y_flow_189 : decode b_Y_flow 189 = .ok (.aload_n 0, 1) := by decide +kernel
theorem d_Y_flow_190 : decode b_Y_flow 190 = .ok (.getfield 76, 3) := by decide +kernel
theorem d_Y_flow_193 : decode b_Y_flow 193 = .ok (.iconst 4, 1) := by decide +kernel
theorem d_Y_flow_194 : decode b_Y_flow 194 = .ok (.aload_n 0, 1) := by decide +kernel
theorem d_Y_flow_195 : decode b_Y_flow 195 = .ok (.getfield 121, 3) := by decide +kernel
theorem d_Y_flow_198 : decode b_Y_flow 198 = .ok (.imul, 1) := by decide +kernel
theorem d_Y_flow_199 : decode b_Y_flow 199 = .ok (.iload 5, 2) := by decide +kernel
theorem d_Y_flow_201 : decode b_Y_flow 201 = .ok (.iadd, 1) := by decide +kernel
theorem d_Y_flow_202 : decode b_Y_flow 202 = .ok (.iconst 0, 1) := by decide +kernel
theorem d_Y_flow_203 : decode b_Y_flow 203 = .ok (.iastore, 1) := by decide +kernel
theorem d_Y_flow_204 : decode b_Y_flow 204 = .ok (.iinc 5 1, 3) := by decide +kernel
theorem d_Y_flow_207 : decode b_Y_flow 207 = .ok (.goto (-24), 3) := by decide +kernel
theorem d_Y_flow_210 : decode b_Y_flow 210 = .ok (.aload_n 0, 1) := by decide +kernel
theorem d_Y_flow_211 : decode b_Y_flow 211 = .ok (.dup, 1) := by decide +kernel
theorem d_Y_flow_212 : decode b_Y_flow 212 = .ok (.getfield 121, 3) := by decide +kernel
theorem d_Y_flow_215 : decode b_Y_flow 215 = .ok (.iconst 1, 1) := by decide +kernel
theorem d_Y_flow_216 : decode b_Y_flow 216 = .ok (.iadd, 1) := by decide +kernel
theorem d_Y_flow_217 : decode b_Y_flow 217 = .ok (.putfield 121, 3) := by decide +kernel
theorem d_Y_flow_220 : decode b_Y_flow 220 = .ok (.aload_n 0, 1) := by decide +kernel
theorem d_Y_flow_221 : decode b_Y_flow 221 = .ok (.getfield 121, 3) := by decide +kernel
theorem d_Y_flow_224 : decode b_Y_flow 224 = .ok (.iconst 1, 1) := by decide +kernel
theorem d_Y_flow_225 : decode b_Y_flow 225 = .ok (.isub, 1) := by decide +kernel
theorem d_Y_flow_226 : decode b_Y_flow 226 = .ok (.ireturn, 1) := by decide +kernel
theorem d_Y_tune_0 : decode b_Y_tune 0 = .ok (.aload_n 0, 1) := by decide +kernel
theorem d_Y_tune_1 : decode b_Y_tune 1 = .ok (.getfield 124, 3) := by decide +kernel
theorem d_Y_tune_4 : decode b_Y_tune 4 = .ok (.ifCond .ne 44, 3) := by decide +kernel
theorem d_Y_tune_7 : decode b_Y_tune 7 = .ok (.aload_n 0, 1) := by decide +kernel
theorem d_Y_tune_8 : decode b_Y_tune 8 = .ok (.iload_n 1, 1) := by decide +kernel
theorem d_Y_tune_9 : decode b_Y_tune 9 = .ok (.invokevirtual 151, 3) := by decide +kernel
theorem d_Y_tune_12 : decode b_Y_tune 12 = .ok (.ifCond .eq 36, 3) := by decide +kernel
theorem d_Y_tune_15 : decode b_Y_tune 15 = .ok (.iload_n 2, 1) := by decide +kernel
theorem d_Y_tune_16 : decode b_Y_tune 16 = .ok (.iconst 1, 1) := by decide +kernel
theorem d_Y_tune_17 : decode b_Y_tune 17 = .ok (.bipush 8, 2) := by decide +kernel
theorem d_Y_tune_19 : decode b_Y_tune 19 = .ok (.invokestatic 144, 3) := by decide +kernel
theorem d_Y_tune_22 : decode b_Y_tune 22 = .ok (.ifCond .eq 26, 3) := by decide +kernel
theorem d_Y_tune_25 : decode b_Y_tune 25 = .ok (.iload_n 3, 1) := by decide +kernel
theorem d_Y_tune_26 : decode b_Y_tune 26 = .ok (.iconst 1, 1) := by decide +kernel
theorem d_Y_tune_27 : decode b_Y_tune 27 = .ok (.sipush 200, 3) := by decide +kernel
theorem d_Y_tune_30 : decode b_Y_tune 30 = .ok (.invokestatic 144, 3) := by decide +kernel
theorem d_Y_tune_33 : decode b_Y_tune 33 = .ok (.ifCond .eq 15, 3) := by decide +kernel
theorem d_Y_tune_36 : decode b_Y_tune 36 = .ok (.iload 4, 2) := by decide +kernel
theorem d_Y_tune_38 : decode b_Y_tune 38 = .ok (.iconst 0, 1) := by decide +kernel
theorem d_Y_tune_39 : decode b_Y_tune 39 = .ok (.sipush 1000, 3) := by decide +kernel
theorem d_Y_tune_42 : decode b_Y_tune 42 = .ok (.invokestatic 144, 3) := by decide +kernel
theorem d_Y_tune_45 : decode b_Y_tune 45 = .ok (.ifCond .ne 5, 3) := by decide +kernel
theorem d_Y_tune_48 : decode b_Y_tune 48 = .ok (.iconst 0, 1) := by decide +kernel
theorem d_Y_tune_49 : decode b_Y_tune 49 = .ok (.ireturn, 1) := by decide +kernel
theorem d_Y_tune_50 : decode b_Y_tune 50 = .ok (.aload_n 0, 1) := by decide +kernel
theorem d_Y_tune_51 : decode b_Y_tune 51 = .ok (.getfield 46, 3) := by decide +kernel
theorem d_Y_tune_54 : decode b_Y_tune 54 = .ok (.iload_n 1, 1) := by decide +kernel
theorem d_Y_tune_55 : decode b_Y_tune 55 = .ok (.iload_n 2, 1) := by decide +kernel
theorem d_Y_tune_56 : decode b_Y_tune 56 = .ok (.iastore, 1) := by decide +kernel
theorem d_Y_tune_57 : decode b_Y_tune 57 = .ok (.aload_n 0, 1) := by decide +kernel
theorem d_Y_tune_58 : decode b_Y_tune 58 = .ok (.getfield 49, 3) := by decide +kernel
theorem d_Y_tune_61 : decode b_Y_tune 61 = .ok (.iload_n 1, 1) := by decide +kernel
theorem d_Y_tune_62 : decode b_Y_tune 62 = .ok (.iload_n 3, 1) := by decide +kernel
theorem d_Y_tune_63 : decode b_Y_tune 63 = .ok (.iastore, 1) := by decide +kernel
theorem d_Y_tune_64 : decode b_Y_tune 64 = .ok (.aload_n 0, 1) := by decide +kernel
theorem d_Y_tune_65 : decode b_Y_tune 65 = .ok (.getfield 52, 3) := by decide +kernel
theorem d_Y_tune_68 : decode b_Y_tune 68 = .ok (.iload_n 1, 1) := by decide +kernel
theorem d_Y_tune_69 : decode b_Y_tune 69 = .ok (.iload 4, 2) := by decide +kernel
theorem d_Y_tune_71 : decode b_Y_tune 71 = .ok (.iastore, 1) := by decide +kernel
theorem d_Y_tune_72 : decode b_Y_tune 72 = .ok (.iconst 1, 1) := by decide +kernel
theorem d_Y_tune_73 : decode b_Y_tune 73 = .ok (.ireturn, 1) := by decide +kernel
theorem d_Y_distance_0 : decode b_Y_distance 0 = .ok (.iload_n 1, 1) := by decide +kernel
theorem d_Y_distance_1 : decode b_Y_distance 1 = .ok (.invokestatic 140, 3) := by decide +kernel
theorem d_Y_distance_4 : decode b_Y_distance 4 = .ok (.ifCond .eq 26, 3) := by decide +kernel
theorem d_Y_distance_7 : decode b_Y_distance 7 = .ok (.iload_n 2, 1) := by decide +kernel
theorem d_Y_distance_8 : decode b_Y_distance 8 = .ok (.invokestatic 140, 3) := by decide +kernel
theorem d_Y_distance_11 : decode b_Y_distance 11 = .ok (.ifCond .eq 19, 3) := by decide +kernel
theorem d_Y_distance_14 : decode b_Y_distance 14 = .ok (.aload_n 0, 1) := by decide +kernel
theorem d_Y_distance_15 : decode b_Y_distance 15 = .ok (.getfield 31, 3) := by decide +kernel
theorem d_Y_distance_18 : decode b_Y_distance 18 = .ok (.bipush 8, 2) := by decide +kernel
theorem d_Y_distance_20 : decode b_Y_distance 20 = .ok (.iload_n 1, 1) := by decide +kernel
theorem d_Y_distance_21 : decode b_Y_distance 21 = .ok (.imul, 1) := by decide +kernel
theorem d_Y_distance_22 : decode b_Y_distance 22 = .ok (.iload_n 2, 1) := by decide +kernel
theorem d_Y_distance_23 : decode b_Y_distance 23 = .ok (.iadd, 1) := by decide +kernel
theorem d_Y_distance_24 : decode b_Y_distance 24 = .ok (.iaload, 1) := by decide +kernel
theorem d_Y_distance_25 : decode b_Y_distance 25 = .ok (.ldc 154, 2) := by decide +kernel
theorem d_Y_distance_27 : decode b_Y_distance 27 = .ok (.if_icmp .lt 7, 3) := by decide +kernel
theorem d_Y_distance_30 : decode b_Y_distance 30 = .ok (.iconst (-1), 1) := by decide +kernel
theorem d_Y_distance_31 : decode b_Y_distance 31 = .ok (.goto 14, 3) := by decide +kernel
theorem d_Y_distance_34 : decode b_Y_distance 34 = .ok (.aload_n 0, 1) := by decide +kernel
theorem d_Y_distance_35 : decode b_Y_distance 35 = .ok (.getfield 31, 3) := by decide +kernel
theorem d_Y_distance_38 : decode b_Y_distance 38 = .ok (.bipush 8, 2) := by decide +kernel
theorem d_Y_distance_40 : decode b_Y_distance 40 = .ok (.iload_n 1, 1) := by decide +kernel
theorem d_Y_distance_41 : decode b_Y_distance 41 = .ok (.imul, 1) := by decide +kernel
theorem d_Y_distance_42 : decode b_Y_distance 42 = .ok (.iload_n 2, 1) := by decide +kernel
theorem d_Y_distance_43 : decode b_Y_distance 43 = .ok (.iadd, 1) := by decide +kernel
theorem d_Y_distance_44 : decode b_Y_distance 44 = .ok (.iaload, 1) := by decide +kernel
theorem d_Y_distance_45 : decode b_Y_distance 45 = .ok (.ireturn, 1) := by decide +kernel
theorem d_Y_at_0 : decode b_Y_at 0 = .ok (.iload_n 1, 1) := by decide +kernel
theorem d_Y_at_1 : decode b_Y_at 1 = .ok (.iconst 2, 1) := by decide +kernel
theorem d_Y_at_2 : decode b_Y_at 2 = .ok (.irem, 1) := by decide +kernel
theorem d_Y_at_3 : decode b_Y_at 3 = .ok (.ifCond .ne 14, 3) := by decide +kernel
theorem d_Y_at_6 : decode b_Y_at 6 = .ok (.aload_n 0, 1) := by decide +kernel
theorem d_Y_at_7 : decode b_Y_at 7 = .ok (.getfield 7, 3) := by decide +kernel
theorem d_Y_at_10 : decode b_Y_at 10 = .ok (.iload_n 1, 1) := by decide +kernel
theorem d_Y_at_11 : decode b_Y_at 11 = .ok (.iconst 2, 1) := by decide +kernel
theorem d_Y_at_12 : decode b_Y_at 12 = .ok (.idiv, 1) := by decide +kernel
theorem d_Y_at_13 : decode b_Y_at 13 = .ok (.iaload, 1) := by decide +kernel
theorem d_Y_at_14 : decode b_Y_at 14 = .ok (.goto 11, 3) := by decide +kernel
theorem d_Y_at_17 : decode b_Y_at 17 = .ok (.aload_n 0, 1) := by decide +kernel
theorem d_Y_at_18 : decode b_Y_at 18 = .ok (.getfield 13, 3) := by decide +kernel
theorem d_Y_at_21 : decode b_Y_at 21 = .ok (.iload_n 1, 1) := by decide +kernel
theorem d_Y_at_22 : decode b_Y_at 22 = .ok (.iconst 2, 1) := by decide +kernel
theorem d_Y_at_23 : decode b_Y_at 23 = .ok (.idiv, 1) := by decide +kernel
theorem d_Y_at_24 : decode b_Y_at 24 = .ok (.iaload, 1) := by decide +kernel
theorem d_Y_at_25 : decode b_Y_at 25 = .ok (.ireturn, 1) := by decide +kernel
theorem d_Y_leads_0 : decode b_Y_leads 0 = .ok (.iload_n 1, 1) := by decide +kernel
theorem d_Y_leads_1 : decode b_Y_leads 1 = .ok (.iconst 2, 1) := by decide +kernel
theorem d_Y_leads_2 : decode b_Y_leads 2 = .ok (.irem, 1) := by decide +kernel
theorem d_Y_leads_3 : decode b_Y_leads 3 = .ok (.ifCond .ne 14, 3) := by decide +kernel
theorem d_Y_leads_6 : decode b_Y_leads 6 = .ok (.aload_n 0, 1) := by decide +kernel
theorem d_Y_leads_7 : decode b_Y_leads 7 = .ok (.getfield 13, 3) := by decide +kernel
theorem d_Y_leads_10 : decode b_Y_leads 10 = .ok (.iload_n 1, 1) := by decide +kernel
theorem d_Y_leads_11 : decode b_Y_leads 11 = .ok (.iconst 2, 1) := by decide +kernel
theorem d_Y_leads_12 : decode b_Y_leads 12 = .ok (.idiv, 1) := by decide +kernel
theorem d_Y_leads_13 : decode b_Y_leads 13 = .ok (.iaload, 1) := by decide +kernel
theorem d_Y_leads_14 : decode b_Y_leads 14 = .ok (.goto 11, 3) := by decide +kernel
theorem d_Y_leads_17 : decode b_Y_leads 17 = .ok (.aload_n 0, 1) := by decide +kernel
theorem d_Y_leads_18 : decode b_Y_leads 18 = .ok (.getfield 7, 3) := by decide +kernel
theorem d_Y_leads_21 : decode b_Y_leads 21 = .ok (.iload_n 1, 1) := by decide +kernel
theorem d_Y_leads_22 : decode b_Y_leads 22 = .ok (.iconst 2, 1) := by decide +kernel
theorem d_Y_leads_23 : decode b_Y_leads 23 = .ok (.idiv, 1) := by decide +kernel
theorem d_Y_leads_24 : decode b_Y_leads 24 = .ok (.iaload, 1) := by decide +kernel
theorem d_Y_leads_25 : decode b_Y_leads 25 = .ok (.ireturn, 1) := by decide +kernel
theorem d_Y_way_0 : decode b_Y_way 0 = .ok (.iload_n 1, 1) := by decide +kernel
theorem d_Y_way_1 : decode b_Y_way 1 = .ok (.iload_n 2, 1) := by decide +kernel
theorem d_Y_way_2 : decode b_Y_way 2 = .ok (.if_icmp .eq 13, 3) := by decide +kernel
theorem d_Y_way_5 : decode b_Y_way 5 = .ok (.aload_n 0, 1) := by decide +kernel
theorem d_Y_way_6 : decode b_Y_way 6 = .ok (.iload_n 1, 1) := by decide +kernel
theorem d_Y_way_7 : decode b_Y_way 7 = .ok (.iload_n 2, 1) := by decide +kernel
theorem d_Y_way_8 : decode b_Y_way 8 = .ok (.invokevirtual 159, 3) := by decide +kernel
theorem d_Y_way_11 : decode b_Y_way 11 = .ok (.iconst (-1), 1) := by decide +kernel
theorem d_Y_way_12 : decode b_Y_way 12 = .ok (.if_icmp .ne 5, 3) := by decide +kernel
theorem d_Y_way_15 : decode b_Y_way 15 = .ok (.iconst (-1), 1) := by decide +kernel
theorem d_Y_way_16 : decode b_Y_way 16 = .ok (.ireturn, 1) := by decide +kernel
theorem d_Y_way_17 : decode b_Y_way 17 = .ok (.iconst 0, 1) := by decide +kernel
theorem d_Y_way_18 : decode b_Y_way 18 = .ok (.istore_n 3, 1) := by decide +kernel
theorem d_Y_way_19 : decode b_Y_way 19 = .ok (.iload_n 3, 1) := by decide +kernel
theorem d_Y_way_20 : decode b_Y_way 20 = .ok (.iconst 2, 1) := by decide +kernel
theorem d_Y_way_21 : decode b_Y_way 21 = .ok (.aload_n 0, 1) := by decide +kernel
theorem d_Y_way_22 : decode b_Y_way 22 = .ok (.getfield 117, 3) := by decide +kernel
theorem d_Y_way_25 : decode b_Y_way 25 = .ok (.imul, 1) := by decide +kernel
theorem d_Y_way_26 : decode b_Y_way 26 = .ok (.if_icmp .ge 58, 3) := by decide +kernel
theorem d_Y_way_29 : decode b_Y_way 29 = .ok (.aload_n 0, 1) := by decide +kernel
theorem d_Y_way_30 : decode b_Y_way 30 = .ok (.iload_n 3, 1) := by decide +kernel
theorem d_Y_way_31 : decode b_Y_way 31 = .ok (.invokevirtual 162, 3) := by decide +kernel
theorem d_Y_way_34 : decode b_Y_way 34 = .ok (.iload_n 1, 1) := by decide +kernel
theorem d_Y_way_35 : decode b_Y_way 35 = .ok (.if_icmp .ne 43, 3) := by decide +kernel
theorem d_Y_way_38 : decode b_Y_way 38 = .ok (.aload_n 0, 1) := by decide +kernel
theorem d_Y_way_39 : decode b_Y_way 39 = .ok (.getfield 16, 3) := by decide +kernel
theorem d_Y_way_42 : decode b_Y_way 42 = .ok (.iload_n 3, 1) := by decide +kernel
theorem d_Y_way_43 : decode b_Y_way 43 = .ok (.iconst 2, 1) := by decide +kernel
theorem d_Y_way_44 : decode b_Y_way 44 = .ok (.idiv, 1) := by decide +kernel
theorem d_Y_way_45 : decode b_Y_way 45 = .ok (.iaload, 1) := by decide +kernel
theorem d_Y_way_46 : decode b_Y_way 46 = .ok (.aload_n 0, 1) := by decide +kernel
theorem d_Y_way_47 : decode b_Y_way 47 = .ok (.getfield 31, 3) := by decide +kernel
theorem d_Y_way_50 : decode b_Y_way 50 = .ok (.bipush 8, 2) := by decide +kernel
theorem d_Y_way_52 : decode b_Y_way 52 = .ok (.aload_n 0, 1) := by decide +kernel
theorem d_Y_way_53 : decode b_Y_way 53 = .ok (.iload_n 3, 1) := by decide +kernel
theorem d_Y_way_54 : decode b_Y_way 54 = .ok (.invokevirtual 166, 3) := by decide +kernel
theorem d_Y_way_57 : decode b_Y_way 57 = .ok (.imul, 1) := by decide +kernel
theorem d_Y_way_58 : decode b_Y_way 58 = .ok (.iload_n 2, 1) := by decide +kernel
theorem d_Y_way_59 : decode b_Y_way 59 = .ok (.iadd, 1) := by decide +kernel
theorem d_Y_way_60 : decode b_Y_way 60 = .ok (.iaload, 1) := by decide +kernel
theorem d_Y_way_61 : decode b_Y_way 61 = .ok (.iadd, 1) := by decide +kernel
theorem d_Y_way_62 : decode b_Y_way 62 = .ok (.aload_n 0, 1) := by decide +kernel
theorem d_Y_way_63 : decode b_Y_way 63 = .ok (.getfield 31, 3) := by decide +kernel
theorem d_Y_way_66 : decode b_Y_way 66 = .ok (.bipush 8, 2) := by decide +kernel
theorem d_Y_way_68 : decode b_Y_way 68 = .ok (.iload_n 1, 1) := by decide +kernel
theorem d_Y_way_69 : decode b_Y_way 69 = .ok (.imul, 1) := by decide +kernel
theorem d_Y_way_70 : decode b_Y_way 70 = .ok (.iload_n 2, 1) := by decide +kernel
theorem d_Y_way_71 : decode b_Y_way 71 = .ok (.iadd, 1) := by decide +kernel
theorem d_Y_way_72 : decode b_Y_way 72 = .ok (.iaload, 1) := by decide +kernel
theorem d_Y_way_73 : decode b_Y_way 73 = .ok (.if_icmp .ne 5, 3) := by decide +kernel
theorem d_Y_way_76 : decode b_Y_way 76 = .ok (.iload_n 3, 1) := by decide +kernel
theorem d_Y_way_77 : decode b_Y_way 77 = .ok (.ireturn, 1) := by decide +kernel
theorem d_Y_way_78 : decode b_Y_way 78 = .ok (.iinc 3 1, 3) := by decide +kernel
theorem d_Y_way_81 : decode b_Y_way 81 = .ok (.goto (-62), 3) := by decide +kernel
theorem d_Y_way_84 : decode b_Y_way 84 = .ok (.iconst (-1), 1) := by decide +kernel
theorem d_Y_way_85 : decode b_Y_way 85 = .ok (.ireturn, 1) := by decide +kernel
theorem d_Y_sizeOf_0 : decode b_Y_sizeOf 0 = .ok (.aload_n 0, 1) := by decide +kernel
theorem d_Y_sizeOf_1 : decode b_Y_sizeOf 1 = .ok (.getfield 88, 3) := by decide +kernel
theorem d_Y_sizeOf_4 : decode b_Y_sizeOf 4 = .ok (.iload_n 1, 1) := by decide +kernel
theorem d_Y_sizeOf_5 : decode b_Y_sizeOf 5 = .ok (.baload, 1) := by decide +kernel
theorem d_Y_sizeOf_6 : decode b_Y_sizeOf 6 = .ok (.ifCond .eq 7, 3) := by decide +kernel
theorem d_Y_sizeOf_9 : decode b_Y_sizeOf 9 = .ok (.iconst 1, 1) := by decide +kernel
theorem d_Y_sizeOf_10 : decode b_Y_sizeOf 10 = .ok (.goto 14, 3) := by decide +kernel
theorem d_Y_sizeOf_13 : decode b_Y_sizeOf 13 = .ok (.aload_n 0, 1) := by decide +kernel
theorem d_Y_sizeOf_14 : decode b_Y_sizeOf 14 = .ok (.getfield 43, 3) := by decide +kernel
theorem d_Y_sizeOf_17 : decode b_Y_sizeOf 17 = .ok (.aload_n 0, 1) := by decide +kernel
theorem d_Y_sizeOf_18 : decode b_Y_sizeOf 18 = .ok (.getfield 82, 3) := by decide +kernel
theorem d_Y_sizeOf_21 : decode b_Y_sizeOf 21 = .ok (.iload_n 1, 1) := by decide +kernel
theorem d_Y_sizeOf_22 : decode b_Y_sizeOf 22 = .ok (.iaload, 1) := by decide +kernel
theorem d_Y_sizeOf_23 : decode b_Y_sizeOf 23 = .ok (.iaload, 1) := by decide +kernel
theorem d_Y_sizeOf_24 : decode b_Y_sizeOf 24 = .ok (.ireturn, 1) := by decide +kernel
theorem d_Y_endOf_0 : decode b_Y_endOf 0 = .ok (.aload_n 0, 1) := by decide +kernel
theorem d_Y_endOf_1 : decode b_Y_endOf 1 = .ok (.getfield 88, 3) := by decide +kernel
theorem d_Y_endOf_4 : decode b_Y_endOf 4 = .ok (.iload_n 1, 1) := by decide +kernel
theorem d_Y_endOf_5 : decode b_Y_endOf 5 = .ok (.baload, 1) := by decide +kernel
theorem d_Y_endOf_6 : decode b_Y_endOf 6 = .ok (.ifCond .eq 17, 3) := by decide +kernel
theorem d_Y_endOf_9 : decode b_Y_endOf 9 = .ok (.aload_n 0, 1) := by decide +kernel
theorem d_Y_endOf_10 : decode b_Y_endOf 10 = .ok (.getfield 34, 3) := by decide +kernel
theorem d_Y_endOf_13 : decode b_Y_endOf 13 = .ok (.aload_n 0, 1) := by decide +kernel
theorem d_Y_endOf_14 : decode b_Y_endOf 14 = .ok (.getfield 82, 3) := by decide +kernel
theorem d_Y_endOf_17 : decode b_Y_endOf 17 = .ok (.iload_n 1, 1) := by decide +kernel
theorem d_Y_endOf_18 : decode b_Y_endOf 18 = .ok (.iaload, 1) := by decide +kernel
theorem d_Y_endOf_19 : decode b_Y_endOf 19 = .ok (.iaload, 1) := by decide +kernel
theorem d_Y_endOf_20 : decode b_Y_endOf 20 = .ok (.goto 14, 3) := by decide +kernel
theorem d_Y_endOf_23 : decode b_Y_endOf 23 = .ok (.aload_n 0, 1) := by decide +kernel
theorem d_Y_endOf_24 : decode b_Y_endOf 24 = .ok (.getfield 37, 3) := by decide +kernel
theorem d_Y_endOf_27 : decode b_Y_endOf 27 = .ok (.aload_n 0, 1) := by decide +kernel
theorem d_Y_endOf_28 : decode b_Y_endOf 28 = .ok (.getfield 82, 3) := by decide +kernel
theorem d_Y_endOf_31 : decode b_Y_endOf 31 = .ok (.iload_n 1, 1) := by decide +kernel
theorem d_Y_endOf_32 : decode b_Y_endOf 32 = .ok (.iaload, 1) := by decide +kernel
theorem d_Y_endOf_33 : decode b_Y_endOf 33 = .ok (.iaload, 1) := by decide +kernel
theorem d_Y_endOf_34 : decode b_Y_endOf 34 = .ok (.ireturn, 1) := by decide +kernel
theorem d_Y_queued_0 : decode b_Y_queued 0 = .ok (.iconst 0, 1) := by decide +kernel
theorem d_Y_queued_1 : decode b_Y_queued 1 = .ok (.istore_n 3, 1) := by decide +kernel
theorem d_Y_queued_2 : decode b_Y_queued 2 = .ok (.iconst 0, 1) := by decide +kernel
theorem d_Y_queued_3 : decode b_Y_queued 3 = .ok (.istore 4, 2) := by decide +kernel
theorem d_Y_queued_5 : decode b_Y_queued 5 = .ok (.iload 4, 2) := by decide +kernel
theorem d_Y_queued_7 : decode b_Y_queued 7 = .ok (.bipush 64, 2) := by decide +kernel
theorem d_Y_queued_9 : decode b_Y_queued 9 = .ok (.if_icmp .ge 55, 3) := by decide +kernel
theorem d_Y_queued_12 : decode b_Y_queued 12 = .ok (.iload_n 3, 1) := by decide +kernel
theorem d_Y_queued_13 : decode b_Y_queued 13 = .ok (.aload_n 0, 1) := by decide +kernel
theorem d_Y_queued_14 : decode b_Y_queued 14 = .ok (.getfield 79, 3) := by decide +kernel
theorem d_Y_queued_17 : decode b_Y_queued 17 = .ok (.iload 4, 2) := by decide +kernel
theorem d_Y_queued_19 : decode b_Y_queued 19 = .ok (.iaload, 1) := by decide +kernel
theorem d_Y_queued_20 : decode b_Y_queued 20 = .ok (.iconst 1, 1) := by decide +kernel
theorem d_Y_queued_21 : decode b_Y_queued 21 = .ok (.if_icmp .ne 34, 3) := by decide +kernel
theorem d_Y_queued_24 : decode b_Y_queued 24 = .ok (.aload_n 0, 1) := by decide +kernel
theorem d_Y_queued_25 : decode b_Y_queued 25 = .ok (.getfield 92, 3) := by decide +kernel
theorem d_Y_queued_28 : decode b_Y_queued 28 = .ok (.iload 4, 2) := by decide +kernel
theorem d_Y_queued_30 : decode b_Y_queued 30 = .ok (.iaload, 1) := by decide +kernel
theorem d_Y_queued_31 : decode b_Y_queued 31 = .ok (.iload_n 1, 1) := by decide +kernel
theorem d_Y_queued_32 : decode b_Y_queued 32 = .ok (.if_icmp .ne 23, 3) := by decide +kernel
theorem d_Y_queued_35 : decode b_Y_queued 35 = .ok (.iload_n 2, 1) := by decide +kernel
theorem d_Y_queued_36 : decode b_Y_queued 36 = .ok (.iconst (-1), 1) := by decide +kernel
theorem d_Y_queued_37 : decode b_Y_queued 37 = .ok (.if_icmp .eq 14, 3) := by decide +kernel
theorem d_Y_queued_40 : decode b_Y_queued 40 = .ok (.aload_n 0, 1) := by decide +kernel
theorem d_Y_queued_41 : decode b_Y_queued 41 = .ok (.getfield 82, 3) := by decide +kernel
theorem d_Y_queued_44 : decode b_Y_queued 44 = .ok (.iload 4, 2) := by decide +kernel
theorem d_Y_queued_46 : decode b_Y_queued 46 = .ok (.iaload, 1) := by decide +kernel
theorem d_Y_queued_47 : decode b_Y_queued 47 = .ok (.iload_n 2, 1) := by decide +kernel
theorem d_Y_queued_48 : decode b_Y_queued 48 = .ok (.if_icmp .ne 7, 3) := by decide +kernel
theorem d_Y_queued_51 : decode b_Y_queued 51 = .ok (.iconst 1, 1) := by decide +kernel
theorem d_Y_queued_52 : decode b_Y_queued 52 = .ok (.goto 4, 3) := by decide +kernel
theorem d_Y_queued_55 : decode b_Y_queued 55 = .ok (.iconst 0, 1) := by decide +kernel
theorem d_Y_queued_56 : decode b_Y_queued 56 = .ok (.iadd, 1) := by decide +kernel
theorem d_Y_queued_57 : decode b_Y_queued 57 = .ok (.istore_n 3, 1) := by decide +kernel
theorem d_Y_queued_58 : decode b_Y_queued 58 = .ok (.iinc 4 1, 3) := by decide +kernel
theorem d_Y_queued_61 : decode b_Y_queued 61 = .ok (.goto (-56), 3) := by decide +kernel
theorem d_Y_queued_64 : decode b_Y_queued 64 = .ok (.iload_n 3, 1) := by decide +kernel
theorem d_Y_queued_65 : decode b_Y_queued 65 = .ok (.ireturn, 1) := by decide +kernel
theorem d_Y_on_0 : decode b_Y_on 0 = .ok (.iconst (-1), 1) := by decide +kernel
theorem d_Y_on_1 : decode b_Y_on 1 = .ok (.istore_n 2, 1) := by decide +kernel
theorem d_Y_on_2 : decode b_Y_on 2 = .ok (.iconst 0, 1) := by decide +kernel
theorem d_Y_on_3 : decode b_Y_on 3 = .ok (.istore_n 3, 1) := by decide +kernel
theorem d_Y_on_4 : decode b_Y_on 4 = .ok (.iload_n 3, 1) := by decide +kernel
theorem d_Y_on_5 : decode b_Y_on 5 = .ok (.bipush 64, 2) := by decide +kernel
theorem d_Y_on_7 : decode b_Y_on 7 = .ok (.if_icmp .ge 35, 3) := by decide +kernel
theorem d_Y_on_10 : decode b_Y_on 10 = .ok (.aload_n 0, 1) := by decide +kernel
theorem d_Y_on_11 : decode b_Y_on 11 = .ok (.getfield 79, 3) := by decide +kernel
theorem d_Y_on_14 : decode b_Y_on 14 = .ok (.iload_n 3, 1) := by decide +kernel
theorem d_Y_on_15 : decode b_Y_on 15 = .ok (.iaload, 1) := by decide +kernel
theorem d_Y_on_16 : decode b_Y_on 16 = .ok (.iconst 2, 1) := by decide +kernel
theorem d_Y_on_17 : decode b_Y_on 17 = .ok (.if_icmp .ne 17, 3) := by decide +kernel
theorem d_Y_on_20 : decode b_Y_on 20 = .ok (.aload_n 0, 1) := by decide +kernel
theorem d_Y_on_21 : decode b_Y_on 21 = .ok (.getfield 92, 3) := by decide +kernel
theorem d_Y_on_24 : decode b_Y_on 24 = .ok (.iload_n 3, 1) := by decide +kernel
theorem d_Y_on_25 : decode b_Y_on 25 = .ok (.iaload, 1) := by decide +kernel
theorem d_Y_on_26 : decode b_Y_on 26 = .ok (.iload_n 1, 1) := by decide +kernel
theorem d_Y_on_27 : decode b_Y_on 27 = .ok (.if_icmp .ne 7, 3) := by decide +kernel
theorem d_Y_on_30 : decode b_Y_on 30 = .ok (.iload_n 3, 1) := by decide +kernel
theorem d_Y_on_31 : decode b_Y_on 31 = .ok (.goto 4, 3) := by decide +kernel
theorem d_Y_on_34 : decode b_Y_on 34 = .ok (.iload_n 2, 1) := by decide +kernel
theorem d_Y_on_35 : decode b_Y_on 35 = .ok (.istore_n 2, 1) := by decide +kernel
theorem d_Y_on_36 : decode b_Y_on 36 = .ok (.iinc 3 1, 3) := by decide +kernel
theorem d_Y_on_39 : decode b_Y_on 39 = .ok (.goto (-35), 3) := by decide +kernel
theorem d_Y_on_42 : decode b_Y_on 42 = .ok (.iload_n 2, 1) := by decide +kernel
theorem d_Y_on_43 : decode b_Y_on 43 = .ok (.ireturn, 1) := by decide +kernel
theorem d_Y_lose_0 : decode b_Y_lose 0 = .ok (.aload_n 0, 1) := by decide +kernel
theorem d_Y_lose_1 : decode b_Y_lose 1 = .ok (.getfield 79, 3) := by decide +kernel
theorem d_Y_lose_4 : decode b_Y_lose 4 = .ok (.iload_n 1, 1) := by decide +kernel
theorem d_Y_lose_5 : decode b_Y_lose 5 = .ok (.iconst 0, 1) := by decide +kernel
theorem d_Y_lose_6 : decode b_Y_lose 6 = .ok (.iastore, 1) := by decide +kernel
theorem d_Y_lose_7 : decode b_Y_lose 7 = .ok (.aload_n 0, 1) := by decide +kernel
theorem d_Y_lose_8 : decode b_Y_lose 8 = .ok (.getfield 76, 3) := by decide +kernel
theorem d_Y_lose_11 : decode b_Y_lose 11 = .ok (.iconst 4, 1) := by decide +kernel
theorem d_Y_lose_12 : decode b_Y_lose 12 = .ok (.aload_n 0, 1) := by decide +kernel
theorem d_Y_lose_13 : decode b_Y_lose 13 = .ok (.getfield 82, 3) := by decide +kernel
theorem d_Y_lose_16 : decode b_Y_lose 16 = .ok (.iload_n 1, 1) := by decide +kernel
theorem d_Y_lose_17 : decode b_Y_lose 17 = .ok (.iaload, 1) := by decide +kernel
theorem d_Y_lose_18 : decode b_Y_lose 18 = .ok (.imul, 1) := by decide +kernel
theorem d_Y_lose_19 : decode b_Y_lose 19 = .ok (.iconst 2, 1) := by decide +kernel
theorem d_Y_lose_20 : decode b_Y_lose 20 = .ok (.iadd, 1) := by decide +kernel
theorem d_Y_lose_21 : decode b_Y_lose 21 = .ok (.dup2, 1) := by decide +kernel
theorem d_Y_lose_22 : decode b_Y_lose 22 = .ok (.iaload, 1) := by decide +kernel
theorem d_Y_lose_23 : decode b_Y_lose 23 = .ok (.iconst 1, 1) := by decide +kernel
theorem d_Y_lose_24 : decode b_Y_lose 24 = .ok (.iadd, 1) := by decide +kernel
theorem d_Y_lose_25 : decode b_Y_lose 25 = .ok (.iastore, 1) := by decide +kernel
theorem d_Y_lose_26 : decode b_Y_lose 26 = .ok (.return_, 1) := by decide +kernel
theorem d_Y_leader_0 : decode b_Y_leader 0 = .ok (.iconst (-1), 1) := by decide +kernel
theorem d_Y_leader_1 : decode b_Y_leader 1 = .ok (.istore_n 2, 1) := by decide +kernel
theorem d_Y_leader_2 : decode b_Y_leader 2 = .ok (.iconst 0, 1) := by decide +kernel
theorem d_Y_leader_3 : decode b_Y_leader 3 = .ok (.istore_n 3, 1) := by decide +kernel
theorem d_Y_leader_4 : decode b_Y_leader 4 = .ok (.iload_n 3, 1) := by decide +kernel
theorem d_Y_leader_5 : decode b_Y_leader 5 = .ok (.aload_n 0, 1) := by decide +kernel
theorem d_Y_leader_6 : decode b_Y_leader 6 = .ok (.getfield 121, 3) := by decide +kernel
theorem d_Y_leader_9 : decode b_Y_leader 9 = .ok (.if_icmp .ge 50, 3) := by decide +kernel
theorem d_Y_leader_12 : decode b_Y_leader 12 = .ok (.aload_n 0, 1) := by decide +kernel
theorem d_Y_leader_13 : decode b_Y_leader 13 = .ok (.iload_n 1, 1) := by decide +kernel
theorem d_Y_leader_14 : decode b_Y_leader 14 = .ok (.iload_n 3, 1) := by decide +kernel
theorem d_Y_leader_15 : decode b_Y_leader 15 = .ok (.invokevirtual 179, 3) := by decide +kernel
theorem d_Y_leader_18 : decode b_Y_leader 18 = .ok (.ifCond .le 35, 3) := by decide +kernel
theorem d_Y_leader_21 : decode b_Y_leader 21 = .ok (.iload_n 2, 1) := by decide +kernel
theorem d_Y_leader_22 : decode b_Y_leader 22 = .ok (.iconst (-1), 1) := by decide +kernel
theorem d_Y_leader_23 : decode b_Y_leader 23 = .ok (.if_icmp .eq 28, 3) := by decide +kernel
theorem d_Y_leader_26 : decode b_Y_leader 26 = .ok (.aload_n 0, 1) := by decide +kernel
theorem d_Y_leader_27 : decode b_Y_leader 27 = .ok (.getfield 101, 3) := by decide +kernel
theorem d_Y_leader_30 : decode b_Y_leader 30 = .ok (.bipush 6, 2) := by decide +kernel
theorem d_Y_leader_32 : decode b_Y_leader 32 = .ok (.iload_n 1, 1) := by decide +kernel
theorem d_Y_leader_33 : decode b_Y_leader 33 = .ok (.imul, 1) := by decide +kernel
theorem d_Y_leader_34 : decode b_Y_leader 34 = .ok (.iload_n 3, 1) := by decide +kernel
theorem d_Y_leader_35 : decode b_Y_leader 35 = .ok (.iadd, 1) := by decide +kernel
theorem d_Y_leader_36 : decode b_Y_leader 36 = .ok (.iaload, 1) := by decide +kernel
theorem d_Y_leader_37 : decode b_Y_leader 37 = .ok (.aload_n 0, 1) := by decide +kernel
theorem d_Y_leader_38 : decode b_Y_leader 38 = .ok (.getfield 101, 3) := by decide +kernel
theorem d_Y_leader_41 : decode b_Y_leader 41 = .ok (.bipush 6, 2) := by decide +kernel
theorem d_Y_leader_43 : decode b_Y_leader 43 = .ok (.iload_n 1, 1) := by decide +kernel
theorem d_Y_leader_44 : decode b_Y_leader 44 = .ok (.imul, 1) := by decide +kernel
theorem d_Y_leader_45 : decode b_Y_leader 45 = .ok (.iload_n 2, 1) := by decide +kernel
theorem d_Y_leader_46 : decode b_Y_leader 46 = .ok (.iadd, 1) := by decide +kernel
theorem d_Y_leader_47 : decode b_Y_leader 47 = .ok (.iaload, 1) := by decide +kernel
theorem d_Y_leader_48 : decode b_Y_leader 48 = .ok (.if_icmp .ge 5, 3) := by decide +kernel
theorem d_Y_leader_51 : decode b_Y_leader 51 = .ok (.iload_n 3, 1) := by decide +kernel
theorem d_Y_leader_52 : decode b_Y_leader 52 = .ok (.istore_n 2, 1) := by decide +kernel
theorem d_Y_leader_53 : decode b_Y_leader 53 = .ok (.iinc 3 1, 3) := by decide +kernel
theorem d_Y_leader_56 : decode b_Y_leader 56 = .ok (.goto (-52), 3) := by decide +kernel
theorem d_Y_leader_59 : decode b_Y_leader 59 = .ok (.iload_n 2, 1) := by decide +kernel
theorem d_Y_leader_60 : decode b_Y_leader 60 = .ok (.ireturn, 1) := by decide +kernel
theorem d_Y_head_0 : decode b_Y_head 0 = .ok (.iconst (-1), 1) := by decide +kernel
theorem d_Y_head_1 : decode b_Y_head 1 = .ok (.istore_n 3, 1) := by decide +kernel
theorem d_Y_head_2 : decode b_Y_head 2 = .ok (.iconst 0, 1) := by decide +kernel
theorem d_Y_head_3 : decode b_Y_head 3 = .ok (.istore 4, 2) := by decide +kernel
theorem d_Y_head_5 : decode b_Y_head 5 = .ok (.iload 4, 2) := by decide +kernel
theorem d_Y_head_7 : decode b_Y_head 7 = .ok (.bipush 64, 2) := by decide +kernel
theorem d_Y_head_9 : decode b_Y_head 9 = .ok (.if_icmp .ge 66, 3) := by decide +kernel
theorem d_Y_head_12 : decode b_Y_head 12 = .ok (.aload_n 0, 1) := by decide +kernel
theorem d_Y_head_13 : decode b_Y_head 13 = .ok (.getfield 79, 3) := by decide +kernel
theorem d_Y_head_16 : decode b_Y_head 16 = .ok (.iload 4, 2) := by decide +kernel
theorem d_Y_head_18 : decode b_Y_head 18 = .ok (.iaload, 1) := by decide +kernel
theorem d_Y_head_19 : decode b_Y_head 19 = .ok (.iconst 1, 1) := by decide +kernel
theorem d_Y_head_20 : decode b_Y_head 20 = .ok (.if_icmp .ne 49, 3) := by decide +kernel
theorem d_Y_head_23 : decode b_Y_head 23 = .ok (.aload_n 0, 1) := by decide +kernel
theorem d_Y_head_24 : decode b_Y_head 24 = .ok (.getfield 92, 3) := by decide +kernel
theorem d_Y_head_27 : decode b_Y_head 27 = .ok (.iload 4, 2) := by decide +kernel
theorem d_Y_head_29 : decode b_Y_head 29 = .ok (.iaload, 1) := by decide +kernel
theorem d_Y_head_30 : decode b_Y_head 30 = .ok (.iload_n 1, 1) := by decide +kernel
theorem d_Y_head_31 : decode b_Y_head 31 = .ok (.if_icmp .ne 38, 3) := by decide +kernel
theorem d_Y_head_34 : decode b_Y_head 34 = .ok (.aload_n 0, 1) := by decide +kernel
theorem d_Y_head_35 : decode b_Y_head 35 = .ok (.getfield 82, 3) := by decide +kernel
theorem d_Y_head_38 : decode b_Y_head 38 = .ok (.iload 4, 2) := by decide +kernel
theorem d_Y_head_40 : decode b_Y_head 40 = .ok (.iaload, 1) := by decide +kernel
theorem d_Y_head_41 : decode b_Y_head 41 = .ok (.iload_n 2, 1) := by decide +kernel
theorem d_Y_head_42 : decode b_Y_head 42 = .ok (.if_icmp .ne 27, 3) := by decide +kernel
theorem d_Y_head_45 : decode b_Y_head 45 = .ok (.iload_n 3, 1) := by decide +kernel
theorem d_Y_head_46 : decode b_Y_head 46 = .ok (.iconst (-1), 1) := by decide +kernel
theorem d_Y_head_47 : decode b_Y_head 47 = .ok (.if_icmp .eq 19, 3) := by decide +kernel
theorem d_Y_head_50 : decode b_Y_head 50 = .ok (.aload_n 0, 1) := by decide +kernel
theorem d_Y_head_51 : decode b_Y_head 51 = .ok (.getfield 98, 3) := by decide +kernel
theorem d_Y_head_54 : decode b_Y_head 54 = .ok (.iload 4, 2) := by decide +kernel
theorem d_Y_head_56 : decode b_Y_head 56 = .ok (.iaload, 1) := by decide +kernel
theorem d_Y_head_57 : decode b_Y_head 57 = .ok (.aload_n 0, 1) := by decide +kernel
theorem d_Y_head_58 : decode b_Y_head 58 = .ok (.getfield 98, 3) := by decide +kernel
theorem d_Y_head_61 : decode b_Y_head 61 = .ok (.iload_n 3, 1) := by decide +kernel
theorem d_Y_head_62 : decode b_Y_head 62 = .ok (.iaload, 1) := by decide +kernel
theorem d_Y_head_63 : decode b_Y_head 63 = .ok (.if_icmp .ge 6, 3) := by decide +kernel
theorem d_Y_head_66 : decode b_Y_head 66 = .ok (.iload 4, 2) := by decide +kernel
theorem d_Y_head_68 : decode b_Y_head 68 = .ok (.istore_n 3, 1) := by decide +kernel
theorem d_Y_head_69 : decode b_Y_head 69 = .ok (.iinc 4 1, 3) := by decide +kernel
theorem d_Y_head_72 : decode b_Y_head 72 = .ok (.goto (-67), 3) := by decide +kernel
theorem d_Y_head_75 : decode b_Y_head 75 = .ok (.iload_n 3, 1) := by decide +kernel
theorem d_Y_head_76 : decode b_Y_head 76 = .ok (.ireturn, 1) := by decide +kernel
theorem d_Y_choose_0 : decode b_Y_choose 0 = .ok (.iconst 0, 1) := by decide +kernel
theorem d_Y_choose_1 : decode b_Y_choose 1 = .ok (.istore_n 2, 1) := by decide +kernel
theorem d_Y_choose_2 : decode b_Y_choose 2 = .ok (.iload_n 2, 1) := by decide +kernel
theorem d_Y_choose_3 : decode b_Y_choose 3 = .ok (.bipush 100, 2) := by decide +kernel
theorem d_Y_choose_5 : decode b_Y_choose 5 = .ok (.if_icmp .ge 181, 3) := by decide +kernel
theorem d_Y_choose_8 : decode b_Y_choose 8 = .ok (.aload_n 0, 1) := by decide +kernel
theorem d_Y_choose_9 : decode b_Y_choose 9 = .ok (.iload_n 1, 1) := by decide +kernel
theorem d_Y_choose_10 : decode b_Y_choose 10 = .ok (.invokevirtual 192, 3) := by decide +kernel
theorem d_Y_choose_13 : decode b_Y_choose 13 = .ok (.istore_n 3, 1) := by decide +kernel
theorem d_Y_choose_14 : decode b_Y_choose 14 = .ok (.bipush 6, 2) := by decide +kernel
theorem d_Y_choose_16 : decode b_Y_choose 16 = .ok (.iload_n 1, 1) := by decide +kernel
theorem d_Y_choose_17 : decode b_Y_choose 17 = .ok (.imul, 1) := by decide +kernel
theorem d_Y_choose_18 : decode b_Y_choose 18 = .ok (.iload_n 3, 1) := by decide +kernel
theorem d_Y_choose_19 : decode b_Y_choose 19 = .ok (.iadd, 1) := by decide +kernel
theorem d_Y_choose_20 : decode b_Y_choose 20 = .ok (.istore 4, 2) := by decide +kernel
theorem d_Y_choose_22 : decode b_Y_choose 22 = .ok (.aload_n 0, 1) := by decide +kernel
theorem d_Y_choose_23 : decode b_Y_choose 23 = .ok (.getfield 104, 3) := by decide +kernel
theorem d_Y_choose_26 : decode b_Y_choose 26 = .ok (.iload 4, 2) := by decide +kernel
theorem d_Y_choose_28 : decode b_Y_choose 28 = .ok (.dup2, 1) := by decide +kernel
theorem d_Y_choose_29 : decode b_Y_choose 29 = .ok (.iaload, 1) := by decide +kernel
theorem d_Y_choose_30 : decode b_Y_choose 30 = .ok (.aload_n 0, 1) := by decide +kernel
theorem d_Y_choose_31 : decode b_Y_choose 31 = .ok (.getfield 107, 3) := by decide +kernel
theorem d_Y_choose_34 : decode b_Y_choose 34 = .ok (.iload 4, 2) := by decide +kernel
theorem d_Y_choose_36 : decode b_Y_choose 36 = .ok (.baload, 1) := by decide +kernel
theorem d_Y_choose_37 : decode b_Y_choose 37 = .ok (.ifCond .eq 7, 3) := by decide +kernel
theorem d_Y_choose_40 : decode b_Y_choose 40 = .ok (.iconst 0, 1) := by decide +kernel
theorem d_Y_choose_41 : decode b_Y_choose 41 = .ok (.goto 9, 3) := by decide +kernel
theorem d_Y_choose_44 : decode b_Y_choose 44 = .ok (.aload_n 0, 1) := by decide +kernel
theorem d_Y_choose_45 : decode b_Y_choose 45 = .ok (.getfield 25, 3) := by decide +kernel
theorem d_Y_choose_48 : decode b_Y_choose 48 = .ok (.iload_n 1, 1) := by decide +kernel
theorem d_Y_choose_49 : decode b_Y_choose 49 = .ok (.iaload, 1) := by decide +kernel
theorem d_Y_choose_50 : decode b_Y_choose 50 = .ok (.iadd, 1) := by decide +kernel
theorem d_Y_choose_51 : decode b_Y_choose 51 = .ok (.iastore, 1) := by decide +kernel
theorem d_Y_choose_52 : decode b_Y_choose 52 = .ok (.aload_n 0, 1) := by decide +kernel
theorem d_Y_choose_53 : decode b_Y_choose 53 = .ok (.getfield 107, 3) := by decide +kernel
theorem d_Y_choose_56 : decode b_Y_choose 56 = .ok (.iload 4, 2) := by decide +kernel
theorem d_Y_choose_58 : decode b_Y_choose 58 = .ok (.iconst 1, 1) := by decide +kernel
theorem d_Y_choose_59 : decode b_Y_choose 59 = .ok (.bastore, 1) := by decide +kernel
theorem d_Y_choose_60 : decode b_Y_choose 60 = .ok (.aload_n 0, 1) := by decide +kernel
theorem d_Y_choose_61 : decode b_Y_choose 61 = .ok (.iload_n 1, 1) := by decide +kernel
theorem d_Y_choose_62 : decode b_Y_choose 62 = .ok (.iload_n 3, 1) := by decide +kernel
theorem d_Y_choose_63 : decode b_Y_choose 63 = .ok (.invokevirtual 195, 3) := by decide +kernel
theorem d_Y_choose_66 : decode b_Y_choose 66 = .ok (.istore 5, 2) := by decide +kernel
theorem d_Y_choose_68 : decode b_Y_choose 68 = .ok (.aload_n 0, 1) := by decide +kernel
theorem d_Y_choose_69 : decode b_Y_choose 69 = .ok (.iload 5, 2) := by decide +kernel
theorem d_Y_choose_71 : decode b_Y_choose 71 = .ok (.invokevirtual 198, 3) := by decide +kernel
theorem d_Y_choose_74 : decode b_Y_choose 74 = .ok (.aload_n 0, 1) := by decide +kernel
theorem d_Y_choose_75 : decode b_Y_choose 75 = .ok (.getfield 104, 3) := by decide +kernel
theorem d_Y_choose_78 : decode b_Y_choose 78 = .ok (.iload 4, 2) := by decide +kernel
theorem d_Y_choose_80 : decode b_Y_choose 80 = .ok (.iaload, 1) := by decide +kernel
theorem d_Y_choose_81 : decode b_Y_choose 81 = .ok (.if_icmp .gt 73, 3) := by decide +kernel
theorem d_Y_choose_84 : decode b_Y_choose 84 = .ok (.aload_n 0, 1) := by decide +kernel
theorem d_Y_choose_85 : decode b_Y_choose 85 = .ok (.getfield 104, 3) := by decide +kernel
theorem d_Y_choose_88 : decode b_Y_choose 88 = .ok (.iload 4, 2) := by decide +kernel
theorem d_Y_choose_90 : decode b_Y_choose 90 = .ok (.dup2, 1) := by decide +kernel
theorem d_Y_choose_91 : decode b_Y_choose 91 = .ok (.iaload, 1) := by decide +kernel
theorem d_Y_choose_92 : decode b_Y_choose 92 = .ok (.aload_n 0, 1) := by decide +kernel
theorem d_Y_choose_93 : decode b_Y_choose 93 = .ok (.iload 5, 2) := by decide +kernel
theorem d_Y_choose_95 : decode b_Y_choose 95 = .ok (.invokevirtual 198, 3) := by decide +kernel
theorem d_Y_choose_98 : decode b_Y_choose 98 = .ok (.isub, 1) := by decide +kernel
theorem d_Y_choose_99 : decode b_Y_choose 99 = .ok (.iastore, 1) := by decide +kernel
theorem d_Y_choose_100 : decode b_Y_choose 100 = .ok (.aload_n 0, 1) := by decide +kernel
theorem d_Y_choose_101 : decode b_Y_choose 101 = .ok (.getfield 79, 3) := by decide +kernel
theorem d_Y_choose_104 : decode b_Y_choose 104 = .ok (.iload 5, 2) := by decide +kernel
theorem d_Y_choose_106 : decode b_Y_choose 106 = .ok (.iconst 2, 1) := by decide +kernel
theorem d_Y_choose_107 : decode b_Y_choose 107 = .ok (.iastore, 1) := by decide +kernel
theorem d_Y_choose_108 : decode b_Y_choose 108 = .ok (.aload_n 0, 1) := by decide +kernel
theorem d_Y_choose_109 : decode b_Y_choose 109 = .ok (.getfield 95, 3) := by decide +kernel
theorem d_Y_choose_112 : decode b_Y_choose 112 = .ok (.iload 5, 2) := by decide +kernel
theorem d_Y_choose_114 : decode b_Y_choose 114 = .ok (.aload_n 0, 1) := by decide +kernel
theorem d_Y_choose_115 : decode b_Y_choose 115 = .ok (.getfield 128, 3) := by decide +kernel
theorem d_Y_choose_118 : decode b_Y_choose 118 = .ok (.aload_n 0, 1) := by decide +kernel
theorem d_Y_choose_119 : decode b_Y_choose 119 = .ok (.iload 5, 2) := by decide +kernel
theorem d_Y_choose_121 : decode b_Y_choose 121 = .ok (.invokevirtual 198, 3) := by decide +kernel
theorem d_Y_choose_124 : decode b_Y_choose 124 = .ok (.aload_n 0, 1) := by decide +kernel
theorem d_Y_choose_125 : decode b_Y_choose 125 = .ok (.getfield 19, 3) := by decide +kernel
theorem d_Y_choose_128 : decode b_Y_choose 128 = .ok (.iload_n 1, 1) := by decide +kernel
theorem d_Y_choose_129 : decode b_Y_choose 129 = .ok (.iconst 2, 1) := by decide +kernel
theorem d_Y_choose_130 : decode b_Y_choose 130 = .ok (.idiv, 1) := by decide +kernel
theorem d_Y_choose_131 : decode b_Y_choose 131 = .ok (.iaload, 1) := by decide +kernel
theorem d_Y_choose_132 : decode b_Y_choose 132 = .ok (.imul, 1) := by decide +kernel
theorem d_Y_choose_133 : decode b_Y_choose 133 = .ok (.iadd, 1) := by decide +kernel
theorem d_Y_choose_134 : decode b_Y_choose 134 = .ok (.iastore, 1) := by decide +kernel
theorem d_Y_choose_135 : decode b_Y_choose 135 = .ok (.aload_n 0, 1) := by decide +kernel
theorem d_Y_choose_136 : decode b_Y_choose 136 = .ok (.getfield 98, 3) := by decide +kernel
theorem d_Y_choose_139 : decode b_Y_choose 139 = .ok (.iload 5, 2) := by decide +kernel
theorem d_Y_choose_141 : decode b_Y_choose 141 = .ok (.aload_n 0, 1) := by decide +kernel
theorem d_Y_choose_142 : decode b_Y_choose 142 = .ok (.dup, 1) := by decide +kernel
theorem d_Y_choose_143 : decode b_Y_choose 143 = .ok (.getfield 131, 3) := by decide +kernel
theorem d_Y_choose_146 : decode b_Y_choose 146 = .ok (.iconst 1, 1) := by decide +kernel
theorem d_Y_choose_147 : decode b_Y_choose 147 = .ok (.iadd, 1) := by decide +kernel
theorem d_Y_choose_148 : decode b_Y_choose 148 = .ok (.dup_x1, 1) := by decide +kernel
theorem d_Y_choose_149 : decode b_Y_choose 149 = .ok (.putfield 131, 3) := by decide +kernel
theorem d_Y_choose_152 : decode b_Y_choose 152 = .ok (.iastore, 1) := by decide +kernel
theorem d_Y_choose_153 : decode b_Y_choose 153 = .ok (.return_, 1) := by decide +kernel
theorem d_Y_choose_154 : decode b_Y_choose 154 = .ok (.aload_n 0, 1) := by decide +kernel
theorem d_Y_choose_155 : decode b_Y_choose 155 = .ok (.getfield 101, 3) := by decide +kernel
theorem d_Y_choose_158 : decode b_Y_choose 158 = .ok (.iload 4, 2) := by decide +kernel
theorem d_Y_choose_160 : decode b_Y_choose 160 = .ok (.aload_n 0, 1) := by decide +kernel
theorem d_Y_choose_161 : decode b_Y_choose 161 = .ok (.dup, 1) := by decide +kernel
theorem d_Y_choose_162 : decode b_Y_choose 162 = .ok (.getfield 131, 3) := by decide +kernel
theorem d_Y_choose_165 : decode b_Y_choose 165 = .ok (.iconst 1, 1) := by decide +kernel
theorem d_Y_choose_166 : decode b_Y_choose 166 = .ok (.iadd, 1) := by decide +kernel
theorem d_Y_choose_167 : decode b_Y_choose 167 = .ok (.dup_x1, 1) := by decide +kernel
theorem d_Y_choose_168 : decode b_Y_choose 168 = .ok (.putfield 131, 3) := by decide +kernel
theorem d_Y_choose_171 : decode b_Y_choose 171 = .ok (.iastore, 1) := by decide +kernel
theorem d_Y_choose_172 : decode b_Y_choose 172 = .ok (.aload_n 0, 1) := by decide +kernel
theorem d_Y_choose_173 : decode b_Y_choose 173 = .ok (.getfield 107, 3) := by decide +kernel
theorem d_Y_choose_176 : decode b_Y_choose 176 = .ok (.iload 4, 2) := by decide +kernel
theorem d_Y_choose_178 : decode b_Y_choose 178 = .ok (.iconst 0, 1) := by decide +kernel
theorem d_Y_choose_179 : decode b_Y_choose 179 = .ok (.bastore, 1) := by decide +kernel
theorem d_Y_choose_180 : decode b_Y_choose 180 = .ok (.iinc 2 1, 3) := by decide +kernel
theorem d_Y_choose_183 : decode b_Y_choose 183 = .ok (.goto (-181), 3) := by decide +kernel
theorem d_Y_choose_186 : decode b_Y_choose 186 = .ok (.return_, 1) := by decide +kernel
theorem d_Y_put_0 : decode b_Y_put 0 = .ok (.aload_n 0, 1) := by decide +kernel
theorem d_Y_put_1 : decode b_Y_put 1 = .ok (.iload_n 2, 1) := by decide +kernel
theorem d_Y_put_2 : decode b_Y_put 2 = .ok (.aload_n 0, 1) := by decide +kernel
theorem d_Y_put_3 : decode b_Y_put 3 = .ok (.iload_n 1, 1) := by decide +kernel
theorem d_Y_put_4 : decode b_Y_put 4 = .ok (.invokevirtual 173, 3) := by decide +kernel
theorem d_Y_put_7 : decode b_Y_put 7 = .ok (.invokevirtual 176, 3) := by decide +kernel
theorem d_Y_put_10 : decode b_Y_put 10 = .ok (.istore_n 3, 1) := by decide +kernel
theorem d_Y_put_11 : decode b_Y_put 11 = .ok (.iload_n 3, 1) := by decide +kernel
theorem d_Y_put_12 : decode b_Y_put 12 = .ok (.iconst (-1), 1) := by decide +kernel
theorem d_Y_put_13 : decode b_Y_put 13 = .ok (.if_icmp .eq 18, 3) := by decide +kernel
theorem d_Y_put_16 : decode b_Y_put 16 = .ok (.aload_n 0, 1) := by decide +kernel
theorem d_Y_put_17 : decode b_Y_put 17 = .ok (.iload_n 3, 1) := by decide +kernel
theorem d_Y_put_18 : decode b_Y_put 18 = .ok (.iconst (-1), 1) := by decide +kernel
theorem d_Y_put_19 : decode b_Y_put 19 = .ok (.invokevirtual 179, 3) := by decide +kernel
theorem d_Y_put_22 : decode b_Y_put 22 = .ok (.aload_n 0, 1) := by decide +kernel
theorem d_Y_put_23 : decode b_Y_put 23 = .ok (.getfield 28, 3) := by decide +kernel
theorem d_Y_put_26 : decode b_Y_put 26 = .ok (.iload_n 3, 1) := by decide +kernel
theorem d_Y_put_27 : decode b_Y_put 27 = .ok (.iaload, 1) := by decide +kernel
theorem d_Y_put_28 : decode b_Y_put 28 = .ok (.if_icmp .lt 9, 3) := by decide +kernel
theorem d_Y_put_31 : decode b_Y_put 31 = .ok (.aload_n 0, 1) := by decide +kernel
theorem d_Y_put_32 : decode b_Y_put 32 = .ok (.iload_n 1, 1) := by decide +kernel
theorem d_Y_put_33 : decode b_Y_put 33 = .ok (.invokevirtual 182, 3) := by decide +kernel
theorem d_Y_put_36 : decode b_Y_put 36 = .ok (.return_, 1) := by decide +kernel
theorem d_Y_put_37 : decode b_Y_put 37 = .ok (.bipush 6, 2) := by decide +kernel
theorem d_Y_put_39 : decode b_Y_put 39 = .ok (.iload_n 3, 1) := by decide +kernel
theorem d_Y_put_40 : decode b_Y_put 40 = .ok (.imul, 1) := by decide +kernel
theorem d_Y_put_41 : decode b_Y_put 41 = .ok (.aload_n 0, 1) := by decide +kernel
theorem d_Y_put_42 : decode b_Y_put 42 = .ok (.getfield 82, 3) := by decide +kernel
theorem d_Y_put_45 : decode b_Y_put 45 = .ok (.iload_n 1, 1) := by decide +kernel
theorem d_Y_put_46 : decode b_Y_put 46 = .ok (.iaload, 1) := by decide +kernel
theorem d_Y_put_47 : decode b_Y_put 47 = .ok (.iadd, 1) := by decide +kernel
theorem d_Y_put_48 : decode b_Y_put 48 = .ok (.istore 4, 2) := by decide +kernel
theorem d_Y_put_50 : decode b_Y_put 50 = .ok (.aload_n 0, 1) := by decide +kernel
theorem d_Y_put_51 : decode b_Y_put 51 = .ok (.iload_n 3, 1) := by decide +kernel
theorem d_Y_put_52 : decode b_Y_put 52 = .ok (.aload_n 0, 1) := by decide +kernel
theorem d_Y_put_53 : decode b_Y_put 53 = .ok (.getfield 82, 3) := by decide +kernel
theorem d_Y_put_56 : decode b_Y_put 56 = .ok (.iload_n 1, 1) := by decide +kernel
