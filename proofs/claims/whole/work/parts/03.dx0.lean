theorem d_X_isNode_0 : decode b_X_isNode 0 = .ok (.iload_n 0, 1) := by decide +kernel
theorem d_X_isNode_1 : decode b_X_isNode 1 = .ok (.ifCond .lt 13, 3) := by decide +kernel
theorem d_X_isNode_4 : decode b_X_isNode 4 = .ok (.iload_n 0, 1) := by decide +kernel
theorem d_X_isNode_5 : decode b_X_isNode 5 = .ok (.bipush 8, 2) := by decide +kernel
theorem d_X_isNode_7 : decode b_X_isNode 7 = .ok (.if_icmp .ge 7, 3) := by decide +kernel
theorem d_X_isNode_10 : decode b_X_isNode 10 = .ok (.iconst 1, 1) := by decide +kernel
theorem d_X_isNode_11 : decode b_X_isNode 11 = .ok (.goto 4, 3) := by decide +kernel
theorem d_X_isNode_14 : decode b_X_isNode 14 = .ok (.iconst 0, 1) := by decide +kernel
theorem d_X_isNode_15 : decode b_X_isNode 15 = .ok (.ireturn, 1) := by decide +kernel
theorem d_X_isWithin_0 : decode b_X_isWithin 0 = .ok (.iload_n 0, 1) := by decide +kernel
theorem d_X_isWithin_1 : decode b_X_isWithin 1 = .ok (.iload_n 1, 1) := by decide +kernel
theorem d_X_isWithin_2 : decode b_X_isWithin 2 = .ok (.if_icmp .lt 12, 3) := by decide +kernel
theorem d_X_isWithin_5 : decode b_X_isWithin 5 = .ok (.iload_n 0, 1) := by decide +kernel
theorem d_X_isWithin_6 : decode b_X_isWithin 6 = .ok (.iload_n 2, 1) := by decide +kernel
theorem d_X_isWithin_7 : decode b_X_isWithin 7 = .ok (.if_icmp .gt 7, 3) := by decide +kernel
theorem d_X_isWithin_10 : decode b_X_isWithin 10 = .ok (.iconst 1, 1) := by decide +kernel
theorem d_X_isWithin_11 : decode b_X_isWithin 11 = .ok (.goto 4, 3) := by decide +kernel
theorem d_X_isWithin_14 : decode b_X_isWithin 14 = .ok (.iconst 0, 1) := by decide +kernel
theorem d_X_isWithin_15 : decode b_X_isWithin 15 = .ok (.ireturn, 1) := by decide +kernel
theorem d_J_fill0_0 : decode b_J_fill0 0 = .ok (.iconst 0, 1) := by decide +kernel
theorem d_J_fill0_1 : decode b_J_fill0 1 = .ok (.istore_n 2, 1) := by decide +kernel
theorem d_J_fill0_2 : decode b_J_fill0 2 = .ok (.aload_n 0, 1) := by decide +kernel
theorem d_J_fill0_3 : decode b_J_fill0 3 = .ok (.arraylength, 1) := by decide +kernel
theorem d_J_fill0_4 : decode b_J_fill0 4 = .ok (.istore_n 3, 1) := by decide +kernel
theorem d_J_fill0_5 : decode b_J_fill0 5 = .ok (.iload_n 2, 1) := by decide +kernel
theorem d_J_fill0_6 : decode b_J_fill0 6 = .ok (.iload_n 3, 1) := by decide +kernel
theorem d_J_fill0_7 : decode b_J_fill0 7 = .ok (.if_icmp .ge 13, 3) := by decide +kernel
theorem d_J_fill0_10 : decode b_J_fill0 10 = .ok (.aload_n 0, 1) := by decide +kernel
theorem d_J_fill0_11 : decode b_J_fill0 11 = .ok (.iload_n 2, 1) := by decide +kernel
theorem d_J_fill0_12 : decode b_J_fill0 12 = .ok (.iload_n 1, 1) := by decide +kernel
theorem d_J_fill0_13 : decode b_J_fill0 13 = .ok (.iastore, 1) := by decide +kernel
theorem d_J_fill0_14 : decode b_J_fill0 14 = .ok (.iinc 2 1, 3) := by decide +kernel
theorem d_J_fill0_17 : decode b_J_fill0 17 = .ok (.goto (-12), 3) := by decide +kernel
theorem d_J_fill0_20 : decode b_J_fill0 20 = .ok (.return_, 1) := by decide +kernel
theorem d_P_lay_0 : decode b_P_lay 0 = .ok (.aload_n 0, 1) := by decide +kernel
theorem d_P_lay_1 : decode b_P_lay 1 = .ok (.iload_n 1, 1) := by decide +kernel
theorem d_P_lay_2 : decode b_P_lay 2 = .ok (.putfield 21, 3) := by decide +kernel
theorem d_P_lay_5 : decode b_P_lay 5 = .ok (.aload_n 0, 1) := by decide +kernel
theorem d_P_lay_6 : decode b_P_lay 6 = .ok (.iload_n 2, 1) := by decide +kernel
theorem d_P_lay_7 : decode b_P_lay 7 = .ok (.putfield 25, 3) := by decide +kernel
theorem d_P_lay_10 : decode b_P_lay 10 = .ok (.aload_n 0, 1) := by decide +kernel
theorem d_P_lay_11 : decode b_P_lay 11 = .ok (.iload_n 3, 1) := by decide +kernel
theorem d_P_lay_12 : decode b_P_lay 12 = .ok (.putfield 28, 3) := by decide +kernel
theorem d_P_lay_15 : decode b_P_lay 15 = .ok (.aload_n 0, 1) := by decide +kernel
theorem d_P_lay_16 : decode b_P_lay 16 = .ok (.iload 4, 2) := by decide +kernel
theorem d_P_lay_18 : decode b_P_lay 18 = .ok (.putfield 31, 3) := by decide +kernel
theorem d_P_lay_21 : decode b_P_lay 21 = .ok (.aload_n 0, 1) := by decide +kernel
theorem d_P_lay_22 : decode b_P_lay 22 = .ok (.iload 5, 2) := by decide +kernel
theorem d_P_lay_24 : decode b_P_lay 24 = .ok (.putfield 34, 3) := by decide +kernel
theorem d_P_lay_27 : decode b_P_lay 27 = .ok (.aload_n 0, 1) := by decide +kernel
theorem d_P_lay_28 : decode b_P_lay 28 = .ok (.bipush 8, 2) := by decide +kernel
theorem d_P_lay_30 : decode b_P_lay 30 = .ok (.putfield 37, 3) := by decide +kernel
theorem d_P_lay_33 : decode b_P_lay 33 = .ok (.aload_n 0, 1) := by decide +kernel
theorem d_P_lay_34 : decode b_P_lay 34 = .ok (.iconst 4, 1) := by decide +kernel
theorem d_P_lay_35 : decode b_P_lay 35 = .ok (.putfield 40, 3) := by decide +kernel
theorem d_P_lay_38 : decode b_P_lay 38 = .ok (.aload_n 0, 1) := by decide +kernel
theorem d_P_lay_39 : decode b_P_lay 39 = .ok (.iconst (-1), 1) := by decide +kernel
theorem d_P_lay_40 : decode b_P_lay 40 = .ok (.putfield 43, 3) := by decide +kernel
theorem d_P_lay_43 : decode b_P_lay 43 = .ok (.aload_n 0, 1) := by decide +kernel
theorem d_P_lay_44 : decode b_P_lay 44 = .ok (.iconst 0, 1) := by decide +kernel
theorem d_P_lay_45 : decode b_P_lay 45 = .ok (.putfield 46, 3) := by decide +kernel
theorem d_P_lay_48 : decode b_P_lay 48 = .ok (.aload_n 0, 1) := by decide +kernel
theorem d_P_lay_49 : decode b_P_lay 49 = .ok (.iconst 0, 1) := by decide +kernel
theorem d_P_lay_50 : decode b_P_lay 50 = .ok (.putfield 49, 3) := by decide +kernel
theorem d_P_lay_53 : decode b_P_lay 53 = .ok (.aload_n 0, 1) := by decide +kernel
theorem d_P_lay_54 : decode b_P_lay 54 = .ok (.iconst 0, 1) := by decide +kernel
theorem d_P_lay_55 : decode b_P_lay 55 = .ok (.putfield 52, 3) := by decide +kernel
theorem d_P_lay_58 : decode b_P_lay 58 = .ok (.aload_n 0, 1) := by decide +kernel
theorem d_P_lay_59 : decode b_P_lay 59 = .ok (.getfield 18, 3) := by decide +kernel
theorem d_P_lay_62 : decode b_P_lay 62 = .ok (.iconst 0, 1) := by decide +kernel
theorem d_P_lay_63 : decode b_P_lay 63 = .ok (.invokestatic 56, 3) := by decide +kernel
theorem d_P_lay_66 : decode b_P_lay 66 = .ok (.return_, 1) := by decide +kernel
theorem d_X_shortenOver_0 : decode b_X_shortenOver 0 = .ok (.iconst 0, 1) := by decide +kernel
theorem d_X_shortenOver_1 : decode b_X_shortenOver 1 = .ok (.istore 4, 2) := by decide +kernel
theorem d_X_shortenOver_3 : decode b_X_shortenOver 3 = .ok (.iload 4, 2) := by decide +kernel
theorem d_X_shortenOver_5 : decode b_X_shortenOver 5 = .ok (.bipush 8, 2) := by decide +kernel
theorem d_X_shortenOver_7 : decode b_X_shortenOver 7 = .ok (.if_icmp .ge 118, 3) := by decide +kernel
theorem d_X_shortenOver_10 : decode b_X_shortenOver 10 = .ok (.iconst 0, 1) := by decide +kernel
theorem d_X_shortenOver_11 : decode b_X_shortenOver 11 = .ok (.istore 5, 2) := by decide +kernel
theorem d_X_shortenOver_13 : decode b_X_shortenOver 13 = .ok (.iload 5, 2) := by decide +kernel
theorem d_X_shortenOver_15 : decode b_X_shortenOver 15 = .ok (.bipush 8, 2) := by decide +kernel
theorem d_X_shortenOver_17 : decode b_X_shortenOver 17 = .ok (.if_icmp .ge 102, 3) := by decide +kernel
theorem d_X_shortenOver_20 : decode b_X_shortenOver 20 = .ok (.aload_n 0, 1) := by decide +kernel
theorem d_X_shortenOver_21 : decode b_X_shortenOver 21 = .ok (.getfield 11, 3) := by decide +kernel
theorem d_X_shortenOver_24 : decode b_X_shortenOver 24 = .ok (.iload 4, 2) := by decide +kernel
theorem d_X_shortenOver_26 : decode b_X_shortenOver 26 = .ok (.aaload, 1) := by decide +kernel
theorem d_X_shortenOver_27 : decode b_X_shortenOver 27 = .ok (.iload_n 1, 1) := by decide +kernel
theorem d_X_shortenOver_28 : decode b_X_shortenOver 28 = .ok (.iaload, 1) := by decide +kernel
theorem d_X_shortenOver_29 : decode b_X_shortenOver 29 = .ok (.iconst (-1), 1) := by decide +kernel
theorem d_X_shortenOver_30 : decode b_X_shortenOver 30 = .ok (.if_icmp .eq 83, 3) := by decide +kernel
theorem d_X_shortenOver_33 : decode b_X_shortenOver 33 = .ok (.aload_n 0, 1) := by decide +kernel
theorem d_X_shortenOver_34 : decode b_X_shortenOver 34 = .ok (.getfield 11, 3) := by decide +kernel
theorem d_X_shortenOver_37 : decode b_X_shortenOver 37 = .ok (.iload_n 2, 1) := by decide +kernel
theorem d_X_shortenOver_38 : decode b_X_shortenOver 38 = .ok (.aaload, 1) := by decide +kernel
theorem d_X_shortenOver_39 : decode b_X_shortenOver 39 = .ok (.iload 5, 2) := by decide +kernel
theorem d_X_shortenOver_41 : decode b_X_shortenOver 41 = .ok (.iaload, 1) := by decide +kernel
theorem d_X_shortenOver_42 : decode b_X_shortenOver 42 = .ok (.iconst (-1), 1) := by decide +kernel
theorem d_X_shortenOver_43 : decode b_X_shortenOver 43 = .ok (.if_icmp .ne 6, 3) := by decide +kernel
theorem d_X_shortenOver_46 : decode b_X_shortenOver 46 = .ok (.goto 67, 3) := by decide +kernel
theorem d_X_shortenOver_49 : decode b_X_shortenOver 49 = .ok (.aload_n 0, 1) := by decide +kernel
theorem d_X_shortenOver_50 : decode b_X_shortenOver 50 = .ok (.getfield 11, 3) := by decide +kernel
theorem d_X_shortenOver_53 : decode b_X_shortenOver 53 = .ok (.iload 4, 2) := by decide +kernel
theorem d_X_shortenOver_55 : decode b_X_shortenOver 55 = .ok (.aaload, 1) := by decide +kernel
theorem d_X_shortenOver_56 : decode b_X_shortenOver 56 = .ok (.iload_n 1, 1) := by decide +kernel
theorem d_X_shortenOver_57 : decode b_X_shortenOver 57 = .ok (.iaload, 1) := by decide +kernel
theorem d_X_shortenOver_58 : decode b_X_shortenOver 58 = .ok (.iload_n 3, 1) := by decide +kernel
theorem d_X_shortenOver_59 : decode b_X_shortenOver 59 = .ok (.iadd, 1) := by decide +kernel
theorem d_X_shortenOver_60 : decode b_X_shortenOver 60 = .ok (.aload_n 0, 1) := by decide +kernel
theorem d_X_shortenOver_61 : decode b_X_shortenOver 61 = .ok (.getfield 11, 3) := by decide +kernel
theorem d_X_shortenOver_64 : decode b_X_shortenOver 64 = .ok (.iload_n 2, 1) := by decide +kernel
theorem d_X_shortenOver_65 : decode b_X_shortenOver 65 = .ok (.aaload, 1) := by decide +kernel
theorem d_X_shortenOver_66 : decode b_X_shortenOver 66 = .ok (.iload 5, 2) := by decide +kernel
theorem d_X_shortenOver_68 : decode b_X_shortenOver 68 = .ok (.iaload, 1) := by decide +kernel
theorem d_X_shortenOver_69 : decode b_X_shortenOver 69 = .ok (.iadd, 1) := by decide +kernel
theorem d_X_shortenOver_70 : decode b_X_shortenOver 70 = .ok (.istore 6, 2) := by decide +kernel
theorem d_X_shortenOver_72 : decode b_X_shortenOver 72 = .ok (.aload_n 0, 1) := by decide +kernel
theorem d_X_shortenOver_73 : decode b_X_shortenOver 73 = .ok (.getfield 11, 3) := by decide +kernel
theorem d_X_shortenOver_76 : decode b_X_shortenOver 76 = .ok (.iload 4, 2) := by decide +kernel
theorem d_X_shortenOver_78 : decode b_X_shortenOver 78 = .ok (.aaload, 1) := by decide +kernel
theorem d_X_shortenOver_79 : decode b_X_shortenOver 79 = .ok (.iload 5, 2) := by decide +kernel
theorem d_X_shortenOver_81 : decode b_X_shortenOver 81 = .ok (.iaload, 1) := by decide +kernel
theorem d_X_shortenOver_82 : decode b_X_shortenOver 82 = .ok (.iconst (-1), 1) := by decide +kernel
theorem d_X_shortenOver_83 : decode b_X_shortenOver 83 = .ok (.if_icmp .eq 18, 3) := by decide +kernel
theorem d_X_shortenOver_86 : decode b_X_shortenOver 86 = .ok (.iload 6, 2) := by decide +kernel
theorem d_X_shortenOver_88 : decode b_X_shortenOver 88 = .ok (.aload_n 0, 1) := by decide +kernel
theorem d_X_shortenOver_89 : decode b_X_shortenOver 89 = .ok (.getfield 11, 3) := by decide +kernel
theorem d_X_shortenOver_92 : decode b_X_shortenOver 92 = .ok (.iload 4, 2) := by decide +kernel
theorem d_X_shortenOver_94 : decode b_X_shortenOver 94 = .ok (.aaload, 1) := by decide +kernel
theorem d_X_shortenOver_95 : decode b_X_shortenOver 95 = .ok (.iload 5, 2) := by decide +kernel
theorem d_X_shortenOver_97 : decode b_X_shortenOver 97 = .ok (.iaload, 1) := by decide +kernel
theorem d_X_shortenOver_98 : decode b_X_shortenOver 98 = .ok (.if_icmp .ge 15, 3) := by decide +kernel
theorem d_X_shortenOver_101 : decode b_X_shortenOver 101 = .ok (.aload_n 0, 1) := by decide +kernel
theorem d_X_shortenOver_102 : decode b_X_shortenOver 102 = .ok (.getfield 11, 3) := by decide +kernel
theorem d_X_shortenOver_105 : decode b_X_shortenOver 105 = .ok (.iload 4, 2) := by decide +kernel
theorem d_X_shortenOver_107 : decode b_X_shortenOver 107 = .ok (.aaload, 1) := by decide +kernel
theorem d_X_shortenOver_108 : decode b_X_shortenOver 108 = .ok (.iload 5, 2) := by decide +kernel
theorem d_X_shortenOver_110 : decode b_X_shortenOver 110 = .ok (.iload 6, 2) := by decide +kernel
theorem d_X_shortenOver_112 : decode b_X_shortenOver 112 = .ok (.iastore, 1) := by decide +kernel
theorem d_X_shortenOver_113 : decode b_X_shortenOver 113 = .ok (.iinc 5 1, 3) := by decide +kernel
theorem d_X_shortenOver_116 : decode b_X_shortenOver 116 = .ok (.goto (-103), 3) := by decide +kernel
theorem d_X_shortenOver_119 : decode b_X_shortenOver 119 = .ok (.iinc 4 1, 3) := by decide +kernel
theorem d_X_shortenOver_122 : decode b_X_shortenOver 122 = .ok (.goto (-119), 3) := by decide +kernel
theorem d_X_shortenOver_125 : decode b_X_shortenOver 125 = .ok (.return_, 1) := by decide +kernel
theorem d_X_link_0 : decode b_X_link 0 = .ok (.aload_n 0, 1) := by decide +kernel
theorem d_X_link_1 : decode b_X_link 1 = .ok (.getfield 49, 3) := by decide +kernel
theorem d_X_link_4 : decode b_X_link 4 = .ok (.ifCond .ne 31, 3) := by decide +kernel
theorem d_X_link_7 : decode b_X_link 7 = .ok (.aload_n 0, 1) := by decide +kernel
theorem d_X_link_8 : decode b_X_link 8 = .ok (.getfield 53, 3) := by decide +kernel
theorem d_X_link_11 : decode b_X_link 11 = .ok (.bipush 12, 2) := by decide +kernel
theorem d_X_link_13 : decode b_X_link 13 = .ok (.if_icmp .ge 22, 3) := by decide +kernel
theorem d_X_link_16 : decode b_X_link 16 = .ok (.iload_n 1, 1) := by decide +kernel
theorem d_X_link_17 : decode b_X_link 17 = .ok (.invokestatic 57, 3) := by decide +kernel
theorem d_X_link_20 : decode b_X_link 20 = .ok (.ifCond .eq 15, 3) := by decide +kernel
theorem d_X_link_23 : decode b_X_link 23 = .ok (.iload_n 2, 1) := by decide +kernel
theorem d_X_link_24 : decode b_X_link 24 = .ok (.invokestatic 57, 3) := by decide +kernel
theorem d_X_link_27 : decode b_X_link 27 = .ok (.ifCond .eq 8, 3) := by decide +kernel
theorem d_X_link_30 : decode b_X_link 30 = .ok (.iload_n 1, 1) := by decide +kernel
theorem d_X_link_31 : decode b_X_link 31 = .ok (.iload_n 2, 1) := by decide +kernel
theorem d_X_link_32 : decode b_X_link 32 = .ok (.if_icmp .ne 5, 3) := by decide +kernel
theorem d_X_link_35 : decode b_X_link 35 = .ok (.iconst (-1), 1) := by decide +kernel
theorem d_X_link_36 : decode b_X_link 36 = .ok (.ireturn, 1) := by decide +kernel
theorem d_X_link_37 : decode b_X_link 37 = .ok (.iload_n 3, 1) := by decide +kernel
theorem d_X_link_38 : decode b_X_link 38 = .ok (.iconst 1, 1) := by decide +kernel
theorem d_X_link_39 : decode b_X_link 39 = .ok (.bipush 100, 2) := by decide +kernel
theorem d_X_link_41 : decode b_X_link 41 = .ok (.invokestatic 61, 3) := by decide +kernel
theorem d_X_link_44 : decode b_X_link 44 = .ok (.ifCond .eq 25, 3) := by decide +kernel
theorem d_X_link_47 : decode b_X_link 47 = .ok (.iload 4, 2) := by decide +kernel
theorem d_X_link_49 : decode b_X_link 49 = .ok (.iconst 1, 1) := by decide +kernel
theorem d_X_link_50 : decode b_X_link 50 = .ok (.bipush 16, 2) := by decide +kernel
theorem d_X_link_52 : decode b_X_link 52 = .ok (.invokestatic 61, 3) := by decide +kernel
theorem d_X_link_55 : decode b_X_link 55 = .ok (.ifCond .eq 14, 3) := by decide +kernel
theorem d_X_link_58 : decode b_X_link 58 = .ok (.iload 5, 2) := by decide +kernel
theorem d_X_link_60 : decode b_X_link 60 = .ok (.iconst 0, 1) := by decide +kernel
theorem d_X_link_61 : decode b_X_link 61 = .ok (.bipush 40, 2) := by decide +kernel
theorem d_X_link_63 : decode b_X_link 63 = .ok (.invokestatic 61, 3) := by decide +kernel
theorem d_X_link_66 : decode b_X_link 66 = .ok (.ifCond .ne 5, 3) := by decide +kernel
theorem d_X_link_69 : decode b_X_link 69 = .ok (.iconst (-1), 1) := by decide +kernel
theorem d_X_link_70 : decode b_X_link 70 = .ok (.ireturn, 1) := by decide +kernel
theorem d_X_link_71 : decode b_X_link 71 = .ok (.aload_n 0, 1) := by decide +kernel
theorem d_X_link_72 : decode b_X_link 72 = .ok (.getfield 53, 3) := by decide +kernel
theorem d_X_link_75 : decode b_X_link 75 = .ok (.istore 6, 2) := by decide +kernel
theorem d_X_link_77 : decode b_X_link 77 = .ok (.aload_n 0, 1) := by decide +kernel
theorem d_X_link_78 : decode b_X_link 78 = .ok (.getfield 16, 3) := by decide +kernel
theorem d_X_link_81 : decode b_X_link 81 = .ok (.iconst 2, 1) := by decide +kernel
theorem d_X_link_82 : decode b_X_link 82 = .ok (.iload 6, 2) := by decide +kernel
theorem d_X_link_84 : decode b_X_link 84 = .ok (.imul, 1) := by decide +kernel
theorem d_X_link_85 : decode b_X_link 85 = .ok (.aaload, 1) := by decide +kernel
theorem d_X_link_86 : decode b_X_link 86 = .ok (.iload_n 1, 1) := by decide +kernel
theorem d_X_link_87 : decode b_X_link 87 = .ok (.iload_n 2, 1) := by decide +kernel
theorem d_X_link_88 : decode b_X_link 88 = .ok (.iload_n 3, 1) := by decide +kernel
theorem d_X_link_89 : decode b_X_link 89 = .ok (.iload 4, 2) := by decide +kernel
theorem d_X_link_91 : decode b_X_link 91 = .ok (.iload 5, 2) := by decide +kernel
theorem d_X_link_93 : decode b_X_link 93 = .ok (.invokevirtual 65, 3) := by decide +kernel
theorem d_X_link_96 : decode b_X_link 96 = .ok (.aload_n 0, 1) := by decide +kernel
theorem d_X_link_97 : decode b_X_link 97 = .ok (.getfield 16, 3) := by decide +kernel
theorem d_X_link_100 : decode b_X_link 100 = .ok (.iconst 2, 1) := by decide +kernel
theorem d_X_link_101 : decode b_X_link 101 = .ok (.iload 6, 2) := by decide +kernel
theorem d_X_link_103 : decode b_X_link 103 = .ok (.imul, 1) := by decide +kernel
theorem d_X_link_104 : decode b_X_link 104 = .ok (.iconst 1, 1) := by decide +kernel
theorem d_X_link_105 : decode b_X_link 105 = .ok (.iadd, 1) := by decide +kernel
theorem d_X_link_106 : decode b_X_link 106 = .ok (.aaload, 1) := by decide +kernel
theorem d_X_link_107 : decode b_X_link 107 = .ok (.iload_n 2, 1) := by decide +kernel
theorem d_X_link_108 : decode b_X_link 108 = .ok (.iload_n 1, 1) := by decide +kernel
theorem d_X_link_109 : decode b_X_link 109 = .ok (.iload_n 3, 1) := by decide +kernel
theorem d_X_link_110 : decode b_X_link 110 = .ok (.iload 4, 2) := by decide +kernel
theorem d_X_link_112 : decode b_X_link 112 = .ok (.iload 5, 2) := by decide +kernel
theorem d_X_link_114 : decode b_X_link 114 = .ok (.invokevirtual 65, 3) := by decide +kernel
theorem d_X_link_117 : decode b_X_link 117 = .ok (.aload_n 0, 1) := by decide +kernel
theorem d_X_link_118 : decode b_X_link 118 = .ok (.dup, 1) := by decide +kernel
theorem d_X_link_119 : decode b_X_link 119 = .ok (.getfield 53, 3) := by decide +kernel
theorem d_X_link_122 : decode b_X_link 122 = .ok (.iconst 1, 1) := by decide +kernel
theorem d_X_link_123 : decode b_X_link 123 = .ok (.iadd, 1) := by decide +kernel
theorem d_X_link_124 : decode b_X_link 124 = .ok (.putfield 53, 3) := by decide +kernel
theorem d_X_link_127 : decode b_X_link 127 = .ok (.aload_n 0, 1) := by decide +kernel
theorem d_X_link_128 : decode b_X_link 128 = .ok (.iload_n 1, 1) := by decide +kernel
theorem d_X_link_129 : decode b_X_link 129 = .ok (.iload_n 2, 1) := by decide +kernel
theorem d_X_link_130 : decode b_X_link 130 = .ok (.iload_n 3, 1) := by decide +kernel
theorem d_X_link_131 : decode b_X_link 131 = .ok (.invokevirtual 69, 3) := by decide +kernel
theorem d_X_link_134 : decode b_X_link 134 = .ok (.aload_n 0, 1) := by decide +kernel
theorem d_X_link_135 : decode b_X_link 135 = .ok (.iload_n 2, 1) := by decide +kernel
theorem d_X_link_136 : decode b_X_link 136 = .ok (.iload_n 1, 1) := by decide +kernel
theorem d_X_link_137 : decode b_X_link 137 = .ok (.iload_n 3, 1) := by decide +kernel
theorem d_X_link_138 : decode b_X_link 138 = .ok (.invokevirtual 69, 3) := by decide +kernel
theorem d_X_link_141 : decode b_X_link 141 = .ok (.iload 6, 2) := by decide +kernel
theorem d_X_link_143 : decode b_X_link 143 = .ok (.ireturn, 1) := by decide +kernel
theorem d_X_isPort_0 : decode b_X_isPort 0 = .ok (.iload_n 1, 1) := by decide +kernel
theorem d_X_isPort_1 : decode b_X_isPort 1 = .ok (.iconst 0, 1) := by decide +kernel
theorem d_X_isPort_2 : decode b_X_isPort 2 = .ok (.iconst 2, 1) := by decide +kernel
theorem d_X_isPort_3 : decode b_X_isPort 3 = .ok (.aload_n 0, 1) := by decide +kernel
theorem d_X_isPort_4 : decode b_X_isPort 4 = .ok (.getfield 53, 3) := by decide +kernel
theorem d_X_isPort_7 : decode b_X_isPort 7 = .ok (.imul, 1) := by decide +kernel
theorem d_X_isPort_8 : decode b_X_isPort 8 = .ok (.iconst 1, 1) := by decide +kernel
theorem d_X_isPort_9 : decode b_X_isPort 9 = .ok (.isub, 1) := by decide +kernel
theorem d_X_isPort_10 : decode b_X_isPort 10 = .ok (.invokestatic 61, 3) := by decide +kernel
theorem d_X_isPort_13 : decode b_X_isPort 13 = .ok (.ireturn, 1) := by decide +kernel
theorem d_X_shape_0 : decode b_X_shape 0 = .ok (.aload_n 0, 1) := by decide +kernel
theorem d_X_shape_1 : decode b_X_shape 1 = .ok (.getfield 49, 3) := by decide +kernel
theorem d_X_shape_4 : decode b_X_shape 4 = .ok (.ifCond .ne 31, 3) := by decide +kernel
theorem d_X_shape_7 : decode b_X_shape 7 = .ok (.aload_n 0, 1) := by decide +kernel
theorem d_X_shape_8 : decode b_X_shape 8 = .ok (.iload_n 1, 1) := by decide +kernel
theorem d_X_shape_9 : decode b_X_shape 9 = .ok (.invokevirtual 73, 3) := by decide +kernel
theorem d_X_shape_12 : decode b_X_shape 12 = .ok (.ifCond .eq 23, 3) := by decide +kernel
theorem d_X_shape_15 : decode b_X_shape 15 = .ok (.iload_n 2, 1) := by decide +kernel
theorem d_X_shape_16 : decode b_X_shape 16 = .ok (.iconst 1, 1) := by decide +kernel
theorem d_X_shape_17 : decode b_X_shape 17 = .ok (.bipush 16, 2) := by decide +kernel
theorem d_X_shape_19 : decode b_X_shape 19 = .ok (.invokestatic 61, 3) := by decide +kernel
theorem d_X_shape_22 : decode b_X_shape 22 = .ok (.ifCond .eq 13, 3) := by decide +kernel
theorem d_X_shape_25 : decode b_X_shape 25 = .ok (.iload_n 3, 1) := by decide +kernel
theorem d_X_shape_26 : decode b_X_shape 26 = .ok (.iconst 1, 1) := by decide +kernel
theorem d_X_shape_27 : decode b_X_shape 27 = .ok (.bipush 8, 2) := by decide +kernel
theorem d_X_shape_29 : decode b_X_shape 29 = .ok (.invokestatic 61, 3) := by decide +kernel
theorem d_X_shape_32 : decode b_X_shape 32 = .ok (.ifCond .ne 5, 3) := by decide +kernel
theorem d_X_shape_35 : decode b_X_shape 35 = .ok (.iconst 0, 1) := by decide +kernel
theorem d_X_shape_36 : decode b_X_shape 36 = .ok (.ireturn, 1) := by decide +kernel
theorem d_X_shape_37 : decode b_X_shape 37 = .ok (.aload_n 0, 1) := by decide +kernel
theorem d_X_shape_38 : decode b_X_shape 38 = .ok (.getfield 16, 3) := by decide +kernel
theorem d_X_shape_41 : decode b_X_shape 41 = .ok (.iload_n 1, 1) := by decide +kernel
theorem d_X_shape_42 : decode b_X_shape 42 = .ok (.aaload, 1) := by decide +kernel
theorem d_X_shape_43 : decode b_X_shape 43 = .ok (.iload_n 2, 1) := by decide +kernel
theorem d_X_shape_44 : decode b_X_shape 44 = .ok (.putfield 76, 3) := by decide +kernel
theorem d_X_shape_47 : decode b_X_shape 47 = .ok (.aload_n 0, 1) := by decide +kernel
theorem d_X_shape_48 : decode b_X_shape 48 = .ok (.getfield 16, 3) := by decide +kernel
theorem d_X_shape_51 : decode b_X_shape 51 = .ok (.iload_n 1, 1) := by decide +kernel
theorem d_X_shape_52 : decode b_X_shape 52 = .ok (.aaload, 1) := by decide +kernel
theorem d_X_shape_53 : decode b_X_shape 53 = .ok (.iload_n 3, 1) := by decide +kernel
theorem d_X_shape_54 : decode b_X_shape 54 = .ok (.putfield 79, 3) := by decide +kernel
theorem d_X_shape_57 : decode b_X_shape 57 = .ok (.iconst 1, 1) := by decide +kernel
theorem d_X_shape_58 : decode b_X_shape 58 = .ok (.ireturn, 1) := by decide +kernel
theorem d_F_found_0 : decode b_F_found 0 = .ok (.aload_n 0, 1) := by decide +kernel
theorem d_F_found_1 : decode b_F_found 1 = .ok (.iload_n 1, 1) := by decide +kernel
theorem d_F_found_2 : decode b_F_found 2 = .ok (.putfield 9, 3) := by decide +kernel
theorem d_F_found_5 : decode b_F_found 5 = .ok (.aload_n 0, 1) := by decide +kernel
theorem d_F_found_6 : decode b_F_found 6 = .ok (.iload_n 2, 1) := by decide +kernel
theorem d_F_found_7 : decode b_F_found 7 = .ok (.putfield 15, 3) := by decide +kernel
theorem d_F_found_10 : decode b_F_found 10 = .ok (.aload_n 0, 1) := by decide +kernel
theorem d_F_found_11 : decode b_F_found 11 = .ok (.iload_n 3, 1) := by decide +kernel
theorem d_F_found_12 : decode b_F_found 12 = .ok (.putfield 18, 3) := by decide +kernel
theorem d_F_found_15 : decode b_F_found 15 = .ok (.aload_n 0, 1) := by decide +kernel
theorem d_F_found_16 : decode b_F_found 16 = .ok (.iload 4, 2) := by decide +kernel
theorem d_F_found_18 : decode b_F_found 18 = .ok (.putfield 21, 3) := by decide +kernel
theorem d_F_found_21 : decode b_F_found 21 = .ok (.aload_n 0, 1) := by decide +kernel
theorem d_F_found_22 : decode b_F_found 22 = .ok (.iconst 4, 1) := by decide +kernel
theorem d_F_found_23 : decode b_F_found 23 = .ok (.putfield 24, 3) := by decide +kernel
theorem d_F_found_26 : decode b_F_found 26 = .ok (.aload_n 0, 1) := by decide +kernel
theorem d_F_found_27 : decode b_F_found 27 = .ok (.bipush 100, 2) := by decide +kernel
theorem d_F_found_29 : decode b_F_found 29 = .ok (.putfield 27, 3) := by decide +kernel
theorem d_F_found_32 : decode b_F_found 32 = .ok (.aload_n 0, 1) := by decide +kernel
theorem d_F_found_33 : decode b_F_found 33 = .ok (.iconst 0, 1) := by decide +kernel
theorem d_F_found_34 : decode b_F_found 34 = .ok (.putfield 30, 3) := by decide +kernel
theorem d_F_found_37 : decode b_F_found 37 = .ok (.aload_n 0, 1) := by decide +kernel
theorem d_F_found_38 : decode b_F_found 38 = .ok (.iconst 0, 1) := by decide +kernel
theorem d_F_found_39 : decode b_F_found 39 = .ok (.putfield 33, 3) := by decide +kernel
theorem d_F_found_42 : decode b_F_found 42 = .ok (.aload_n 0, 1) := by decide +kernel
theorem d_F_found_43 : decode b_F_found 43 = .ok (.iconst 0, 1) := by decide +kernel
theorem d_F_found_44 : decode b_F_found 44 = .ok (.putfield 36, 3) := by decide +kernel
theorem d_F_found_47 : decode b_F_found 47 = .ok (.aload_n 0, 1) := by decide +kernel
theorem d_F_found_48 : decode b_F_found 48 = .ok (.iconst 0, 1) := by decide +kernel
theorem d_F_found_49 : decode b_F_found 49 = .ok (.putfield 39, 3) := by decide +kernel
theorem d_F_found_52 : decode b_F_found 52 = .ok (.aload_n 0, 1) := by decide +kernel
theorem d_F_found_53 : decode b_F_found 53 = .ok (.iconst 0, 1) := by decide +kernel
theorem d_F_found_54 : decode b_F_found 54 = .ok (.putfield 42, 3) := by decide +kernel
theorem d_F_found_57 : decode b_F_found 57 = .ok (.aload_n 0, 1) := by decide +kernel
theorem d_F_found_58 : decode b_F_found 58 = .ok (.iconst 0, 1) := by decide +kernel
theorem d_F_found_59 : decode b_F_found 59 = .ok (.putfield 45, 3) := by decide +kernel
theorem d_F_found_62 : decode b_F_found 62 = .ok (.aload_n 0, 1) := by decide +kernel
theorem d_F_found_63 : decode b_F_found 63 = .ok (.iconst 0, 1) := by decide +kernel
theorem d_F_found_64 : decode b_F_found 64 = .ok (.putfield 48, 3) := by decide +kernel
theorem d_F_found_67 : decode b_F_found 67 = .ok (.aload_n 0, 1) := by decide +kernel
theorem d_F_found_68 : decode b_F_found 68 = .ok (.iconst 0, 1) := by decide +kernel
theorem d_F_found_69 : decode b_F_found 69 = .ok (.putfield 51, 3) := by decide +kernel
theorem d_F_found_72 : decode b_F_found 72 = .ok (.return_, 1) := by decide +kernel
theorem d_X_flow_0 : decode b_X_flow 0 = .ok (.aload_n 0, 1) := by decide +kernel
theorem d_X_flow_1 : decode b_X_flow 1 = .ok (.getfield 49, 3) := by decide +kernel
theorem d_X_flow_4 : decode b_X_flow 4 = .ok (.ifCond .ne 31, 3) := by decide +kernel
theorem d_X_flow_7 : decode b_X_flow 7 = .ok (.aload_n 0, 1) := by decide +kernel
theorem d_X_flow_8 : decode b_X_flow 8 = .ok (.getfield 82, 3) := by decide +kernel
theorem d_X_flow_11 : decode b_X_flow 11 = .ok (.bipush 6, 2) := by decide +kernel
theorem d_X_flow_13 : decode b_X_flow 13 = .ok (.if_icmp .ge 22, 3) := by decide +kernel
theorem d_X_flow_16 : decode b_X_flow 16 = .ok (.iload_n 1, 1) := by decide +kernel
theorem d_X_flow_17 : decode b_X_flow 17 = .ok (.invokestatic 57, 3) := by decide +kernel
theorem d_X_flow_20 : decode b_X_flow 20 = .ok (.ifCond .eq 15, 3) := by decide +kernel
theorem d_X_flow_23 : decode b_X_flow 23 = .ok (.iload_n 2, 1) := by decide +kernel
theorem d_X_flow_24 : decode b_X_flow 24 = .ok (.invokestatic 57, 3) := by decide +kernel
theorem d_X_flow_27 : decode b_X_flow 27 = .ok (.ifCond .eq 8, 3) := by decide +kernel
theorem d_X_flow_30 : decode b_X_flow 30 = .ok (.iload_n 1, 1) := by decide +kernel
theorem d_X_flow_31 : decode b_X_flow 31 = .ok (.iload_n 2, 1) := by decide +kernel
theorem d_X_flow_32 : decode b_X_flow 32 = .ok (.if_icmp .ne 5, 3) := by decide +kernel
theorem d_X_flow_35 : decode b_X_flow 35 = .ok (.iconst (-1), 1) := by decide +kernel
theorem d_X_flow_36 : decode b_X_flow 36 = .ok (.ireturn, 1) := by decide +kernel
theorem d_X_flow_37 : decode b_X_flow 37 = .ok (.iload_n 3, 1) := by decide +kernel
theorem d_X_flow_38 : decode b_X_flow 38 = .ok (.iconst 1, 1) := by decide +kernel
theorem d_X_flow_39 : decode b_X_flow 39 = .ok (.bipush 100, 2) := by decide +kernel
theorem d_X_flow_41 : decode b_X_flow 41 = .ok (.invokestatic 61, 3) := by decide +kernel
theorem d_X_flow_44 : decode b_X_flow 44 = .ok (.ifCond .eq 14, 3) := by decide +kernel
theorem d_X_flow_47 : decode b_X_flow 47 = .ok (.iload 4, 2) := by decide +kernel
theorem d_X_flow_49 : decode b_X_flow 49 = .ok (.iconst 1, 1) := by decide +kernel
theorem d_X_flow_50 : decode b_X_flow 50 = .ok (.bipush 8, 2) := by decide +kernel
theorem d_X_flow_52 : decode b_X_flow 52 = .ok (.invokestatic 61, 3) := by decide +kernel
theorem d_X_flow_55 : decode b_X_flow 55 = .ok (.ifCond .ne 5, 3) := by decide +kernel
theorem d_X_flow_58 : decode b_X_flow 58 = .ok (.iconst (-1), 1) := by decide +kernel
theorem d_X_flow_59 : decode b_X_flow 59 = .ok (.ireturn, 1) := by decide +kernel
theorem d_X_flow_60 : decode b_X_flow 60 = .ok (.aload_n 0, 1) := by decide +kernel
theorem d_X_flow_61 : decode b_X_flow 61 = .ok (.getfield 82, 3) := by decide +kernel
theorem d_X_flow_64 : decode b_X_flow 64 = .ok (.istore 5, 2) := by decide +kernel
theorem d_X_flow_66 : decode b_X_flow 66 = .ok (.aload_n 0, 1) := by decide +kernel
theorem d_X_flow_67 : decode b_X_flow 67 = .ok (.getfield 23, 3) := by decide +kernel
theorem d_X_flow_70 : decode b_X_flow 70 = .ok (.iload 5, 2) := by decide +kernel
theorem d_X_flow_72 : decode b_X_flow 72 = .ok (.aaload, 1) := by decide +kernel
theorem d_X_flow_73 : decode b_X_flow 73 = .ok (.iload_n 1, 1) := by decide +kernel
theorem d_X_flow_74 : decode b_X_flow 74 = .ok (.iload_n 2, 1) := by decide +kernel
theorem d_X_flow_75 : decode b_X_flow 75 = .ok (.iload_n 3, 1) := by decide +kernel
theorem d_X_flow_76 : decode b_X_flow 76 = .ok (.iload 4, 2) := by decide +kernel
theorem d_X_flow_78 : decode b_X_flow 78 = .ok (.invokevirtual 85, 3) := by decide +kernel
theorem d_X_flow_81 : decode b_X_flow 81 = .ok (.aload_n 0, 1) := by decide +kernel
theorem d_X_flow_82 : decode b_X_flow 82 = .ok (.dup, 1) := by decide +kernel
theorem d_X_flow_83 : decode b_X_flow 83 = .ok (.getfield 82, 3) := by decide +kernel
theorem d_X_flow_86 : decode b_X_flow 86 = .ok (.iconst 1, 1) := by decide +kernel
theorem d_X_flow_87 : decode b_X_flow 87 = .ok (.iadd, 1) := by decide +kernel
theorem d_X_flow_88 : decode b_X_flow 88 = .ok (.putfield 82, 3) := by decide +kernel
theorem d_X_flow_91 : decode b_X_flow 91 = .ok (.iload 5, 2) := by decide +kernel
theorem d_X_flow_93 : decode b_X_flow 93 = .ok (.ireturn, 1) := by decide +kernel
theorem d_X_isFlow_0 : decode b_X_isFlow 0 = .ok (.iload_n 1, 1) := by decide +kernel
theorem d_X_isFlow_1 : decode b_X_isFlow 1 = .ok (.iconst 0, 1) := by decide +kernel
theorem d_X_isFlow_2 : decode b_X_isFlow 2 = .ok (.aload_n 0, 1) := by decide +kernel
theorem d_X_isFlow_3 : decode b_X_isFlow 3 = .ok (.getfield 82, 3) := by decide +kernel
theorem d_X_isFlow_6 : decode b_X_isFlow 6 = .ok (.iconst 1, 1) := by decide +kernel
theorem d_X_isFlow_7 : decode b_X_isFlow 7 = .ok (.isub, 1) := by decide +kernel
theorem d_X_isFlow_8 : decode b_X_isFlow 8 = .ok (.invokestatic 61, 3) := by decide +kernel
theorem d_X_isFlow_11 : decode b_X_isFlow 11 = .ok (.ireturn, 1) := by decide +kernel
theorem d_X_tune_0 : decode b_X_tune 0 = .ok (.aload_n 0, 1) := by decide +kernel
theorem d_X_tune_1 : decode b_X_tune 1 = .ok (.getfield 49, 3) := by decide +kernel
theorem d_X_tune_4 : decode b_X_tune 4 = .ok (.ifCond .ne 21, 3) := by decide +kernel
theorem d_X_tune_7 : decode b_X_tune 7 = .ok (.aload_n 0, 1) := by decide +kernel
theorem d_X_tune_8 : decode b_X_tune 8 = .ok (.iload_n 1, 1) := by decide +kernel
theorem d_X_tune_9 : decode b_X_tune 9 = .ok (.invokevirtual 89, 3) := by decide +kernel
theorem d_X_tune_12 : decode b_X_tune 12 = .ok (.ifCond .eq 13, 3) := by decide +kernel
theorem d_X_tune_15 : decode b_X_tune 15 = .ok (.iload_n 2, 1) := by decide +kernel
theorem d_X_tune_16 : decode b_X_tune 16 = .ok (.iconst 1, 1) := by decide +kernel
theorem d_X_tune_17 : decode b_X_tune 17 = .ok (.bipush 8, 2) := by decide +kernel
theorem d_X_tune_19 : decode b_X_tune 19 = .ok (.invokestatic 61, 3) := by decide +kernel
theorem d_X_tune_22 : decode b_X_tune 22 = .ok (.ifCond .ne 5, 3) := by decide +kernel
theorem d_X_tune_25 : decode b_X_tune 25 = .ok (.iconst 0, 1) := by decide +kernel
theorem d_X_tune_26 : decode b_X_tune 26 = .ok (.ireturn, 1) := by decide +kernel
theorem d_X_tune_27 : decode b_X_tune 27 = .ok (.iload_n 3, 1) := by decide +kernel
theorem d_X_tune_28 : decode b_X_tune 28 = .ok (.iconst 1, 1) := by decide +kernel
theorem d_X_tune_29 : decode b_X_tune 29 = .ok (.sipush 200, 3) := by decide +kernel
theorem d_X_tune_32 : decode b_X_tune 32 = .ok (.invokestatic 61, 3) := by decide +kernel
theorem d_X_tune_35 : decode b_X_tune 35 = .ok (.ifCond .eq 15, 3) := by decide +kernel
theorem d_X_tune_38 : decode b_X_tune 38 = .ok (.iload 4, 2) := by decide +kernel
theorem d_X_tune_40 : decode b_X_tune 40 = .ok (.iconst 0, 1) := by decide +kernel
theorem d_X_tune_41 : decode b_X_tune 41 = .ok (.sipush 1000, 3) := by decide +kernel
theorem d_X_tune_44 : decode b_X_tune 44 = .ok (.invokestatic 61, 3) := by decide +kernel
theorem d_X_tune_47 : decode b_X_tune 47 = .ok (.ifCond .ne 5, 3) := by decide +kernel
theorem d_X_tune_50 : decode b_X_tune 50 = .ok (.iconst 0, 1) := by decide +kernel
theorem d_X_tune_51 : decode b_X_tune 51 = .ok (.ireturn, 1) := by decide +kernel
theorem d_X_tune_52 : decode b_X_tune 52 = .ok (.aload_n 0, 1) := by decide +kernel
theorem d_X_tune_53 : decode b_X_tune 53 = .ok (.getfield 23, 3) := by decide +kernel
theorem d_X_tune_56 : decode b_X_tune 56 = .ok (.iload_n 1, 1) := by decide +kernel
theorem d_X_tune_57 : decode b_X_tune 57 = .ok (.aaload, 1) := by decide +kernel
theorem d_X_tune_58 : decode b_X_tune 58 = .ok (.iload_n 2, 1) := by decide +kernel
theorem d_X_tune_59 : decode b_X_tune 59 = .ok (.putfield 92, 3) := by decide +kernel
theorem d_X_tune_62 : decode b_X_tune 62 = .ok (.aload_n 0, 1) := by decide +kernel
theorem d_X_tune_63 : decode b_X_tune 63 = .ok (.getfield 23, 3) := by decide +kernel
theorem d_X_tune_66 : decode b_X_tune 66 = .ok (.iload_n 1, 1) := by decide +kernel
theorem d_X_tune_67 : decode b_X_tune 67 = .ok (.aaload, 1) := by decide +kernel
theorem d_X_tune_68 : decode b_X_tune 68 = .ok (.iload_n 3, 1) := by decide +kernel
theorem d_X_tune_69 : decode b_X_tune 69 = .ok (.putfield 95, 3) := by decide +kernel
theorem d_X_tune_72 : decode b_X_tune 72 = .ok (.aload_n 0, 1) := by decide +kernel
theorem d_X_tune_73 : decode b_X_tune 73 = .ok (.getfield 23, 3) := by decide +kernel
theorem d_X_tune_76 : decode b_X_tune 76 = .ok (.iload_n 1, 1) := by decide +kernel
theorem d_X_tune_77 : decode b_X_tune 77 = .ok (.aaload, 1) := by decide +kernel
theorem d_X_tune_78 : decode b_X_tune 78 = .ok (.iload 4, 2) := by decide +kernel
theorem d_X_tune_80 : decode b_X_tune 80 = .ok (.putfield 98, 3) := by decide +kernel
theorem d_X_tune_83 : decode b_X_tune 83 = .ok (.iconst 1, 1) := by decide +kernel
theorem d_X_tune_84 : decode b_X_tune 84 = .ok (.ireturn, 1) := by decide +kernel
theorem d_A_unsetAll_0 : decode b_A_unsetAll 0 = .ok (.aload_n 0, 1) := by decide +kernel
theorem d_A_unsetAll_1 : decode b_A_unsetAll 1 = .ok (.getfield 9, 3) := by decide +kernel
theorem d_A_unsetAll_4 : decode b_A_unsetAll 4 = .ok (.iconst 0, 1) := by decide +kernel
theorem d_A_unsetAll_5 : decode b_A_unsetAll 5 = .ok (.invokestatic 21, 3) := by decide +kernel
theorem d_A_unsetAll_8 : decode b_A_unsetAll 8 = .ok (.aload_n 0, 1) := by decide +kernel
theorem d_A_unsetAll_9 : decode b_A_unsetAll 9 = .ok (.iconst 0, 1) := by decide +kernel
theorem d_A_unsetAll_10 : decode b_A_unsetAll 10 = .ok (.putfield 27, 3) := by decide +kernel
theorem d_A_unsetAll_13 : decode b_A_unsetAll 13 = .ok (.return_, 1) := by decide +kernel
theorem d_J_fill1_0 : decode b_J_fill1 0 = .ok (.iconst 0, 1) := by decide +kernel
theorem d_J_fill1_1 : decode b_J_fill1 1 = .ok (.istore_n 3, 1) := by decide +kernel
theorem d_J_fill1_2 : decode b_J_fill1 2 = .ok (.aload_n 0, 1) := by decide +kernel
theorem d_J_fill1_3 : decode b_J_fill1 3 = .ok (.arraylength, 1) := by decide +kernel
theorem d_J_fill1_4 : decode b_J_fill1 4 = .ok (.istore 4, 2) := by decide +kernel
theorem d_J_fill1_6 : decode b_J_fill1 6 = .ok (.iload_n 3, 1) := by decide +kernel
theorem d_J_fill1_7 : decode b_J_fill1 7 = .ok (.iload 4, 2) := by decide +kernel
theorem d_J_fill1_9 : decode b_J_fill1 9 = .ok (.if_icmp .ge 13, 3) := by decide +kernel
theorem d_J_fill1_12 : decode b_J_fill1 12 = .ok (.aload_n 0, 1) := by decide +kernel
theorem d_J_fill1_13 : decode b_J_fill1 13 = .ok (.iload_n 3, 1) := by decide +kernel
theorem d_J_fill1_14 : decode b_J_fill1 14 = .ok (.lload_n 1, 1) := by decide +kernel
theorem d_J_fill1_15 : decode b_J_fill1 15 = .ok (.lastore, 1) := by decide +kernel
theorem d_J_fill1_16 : decode b_J_fill1 16 = .ok (.iinc 3 1, 3) := by decide +kernel
theorem d_J_fill1_19 : decode b_J_fill1 19 = .ok (.goto (-13), 3) := by decide +kernel
theorem d_J_fill1_22 : decode b_J_fill1 22 = .ok (.return_, 1) := by decide +kernel
theorem d_X_clear_0 : decode b_X_clear 0 = .ok (.aload_n 0, 1) := by decide +kernel
theorem d_X_clear_1 : decode b_X_clear 1 = .ok (.iconst 0, 1) := by decide +kernel
theorem d_X_clear_2 : decode b_X_clear 2 = .ok (.putfield 49, 3) := by decide +kernel
theorem d_X_clear_5 : decode b_X_clear 5 = .ok (.aload_n 0, 1) := by decide +kernel
theorem d_X_clear_6 : decode b_X_clear 6 = .ok (.iconst 0, 1) := by decide +kernel
theorem d_X_clear_7 : decode b_X_clear 7 = .ok (.putfield 101, 3) := by decide +kernel
theorem d_X_clear_10 : decode b_X_clear 10 = .ok (.aload_n 0, 1) := by decide +kernel
theorem d_X_clear_11 : decode b_X_clear 11 = .ok (.iconst 0, 1) := by decide +kernel
theorem d_X_clear_12 : decode b_X_clear 12 = .ok (.putfield 53, 3) := by decide +kernel
theorem d_X_clear_15 : decode b_X_clear 15 = .ok (.aload_n 0, 1) := by decide +kernel
theorem d_X_clear_16 : decode b_X_clear 16 = .ok (.iconst 0, 1) := by decide +kernel
theorem d_X_clear_17 : decode b_X_clear 17 = .ok (.putfield 82, 3) := by decide +kernel
theorem d_X_clear_20 : decode b_X_clear 20 = .ok (.iconst 0, 1) := by decide +kernel
theorem d_X_clear_21 : decode b_X_clear 21 = .ok (.istore_n 1, 1) := by decide +kernel
theorem d_X_clear_22 : decode b_X_clear 22 = .ok (.iload_n 1, 1) := by decide +kernel
theorem d_X_clear_23 : decode b_X_clear 23 = .ok (.bipush 8, 2) := by decide +kernel
theorem d_X_clear_25 : decode b_X_clear 25 = .ok (.if_icmp .ge 28, 3) := by decide +kernel
theorem d_X_clear_28 : decode b_X_clear 28 = .ok (.aload_n 0, 1) := by decide +kernel
theorem d_X_clear_29 : decode b_X_clear 29 = .ok (.getfield 11, 3) := by decide +kernel
theorem d_X_clear_32 : decode b_X_clear 32 = .ok (.iload_n 1, 1) := by decide +kernel
theorem d_X_clear_33 : decode b_X_clear 33 = .ok (.aaload, 1) := by decide +kernel
theorem d_X_clear_34 : decode b_X_clear 34 = .ok (.iconst (-1), 1) := by decide +kernel
theorem d_X_clear_35 : decode b_X_clear 35 = .ok (.invokestatic 104, 3) := by decide +kernel
theorem d_X_clear_38 : decode b_X_clear 38 = .ok (.aload_n 0, 1) := by decide +kernel
theorem d_X_clear_39 : decode b_X_clear 39 = .ok (.getfield 11, 3) := by decide +kernel
theorem d_X_clear_42 : decode b_X_clear 42 = .ok (.iload_n 1, 1) := by decide +kernel
theorem d_X_clear_43 : decode b_X_clear 43 = .ok (.aaload, 1) := by decide +kernel
theorem d_X_clear_44 : decode b_X_clear 44 = .ok (.iload_n 1, 1) := by decide +kernel
theorem d_X_clear_45 : decode b_X_clear 45 = .ok (.iconst 0, 1) := by decide +kernel
theorem d_X_clear_46 : decode b_X_clear 46 = .ok (.iastore, 1) := by decide +kernel
theorem d_X_clear_47 : decode b_X_clear 47 = .ok (.iinc 1 1, 3) := by decide +kernel
theorem d_X_clear_50 : decode b_X_clear 50 = .ok (.goto (-28), 3) := by decide +kernel
theorem d_X_clear_53 : decode b_X_clear 53 = .ok (.iconst 0, 1) := by decide +kernel
theorem d_X_clear_54 : decode b_X_clear 54 = .ok (.istore_n 1, 1) := by decide +kernel
theorem d_X_clear_55 : decode b_X_clear 55 = .ok (.iload_n 1, 1) := by decide +kernel
theorem d_X_clear_56 : decode b_X_clear 56 = .ok (.bipush 64, 2) := by decide +kernel
theorem d_X_clear_58 : decode b_X_clear 58 = .ok (.if_icmp .ge 19, 3) := by decide +kernel
theorem d_X_clear_61 : decode b_X_clear 61 = .ok (.aload_n 0, 1) := by decide +kernel
theorem d_X_clear_62 : decode b_X_clear 62 = .ok (.getfield 30, 3) := by decide +kernel
theorem d_X_clear_65 : decode b_X_clear 65 = .ok (.iload_n 1, 1) := by decide +kernel
theorem d_X_clear_66 : decode b_X_clear 66 = .ok (.aaload, 1) := by decide +kernel
theorem d_X_clear_67 : decode b_X_clear 67 = .ok (.iconst 0, 1) := by decide +kernel
theorem d_X_clear_68 : decode b_X_clear 68 = .ok (.putfield 110, 3) := by decide +kernel
theorem d_X_clear_71 : decode b_X_clear 71 = .ok (.iinc 1 1, 3) := by decide +kernel
theorem d_X_clear_74 : decode b_X_clear 74 = .ok (.goto (-19), 3) := by decide +kernel
theorem d_X_clear_77 : decode b_X_clear 77 = .ok (.aload_n 0, 1) := by decide +kernel
theorem d_X_clear_78 : decode b_X_clear 78 = .ok (.getfield 38, 3) := by decide +kernel
theorem d_X_clear_81 : decode b_X_clear 81 = .ok (.invokevirtual 113, 3) := by decide +kernel
theorem d_X_clear_84 : decode b_X_clear 84 = .ok (.aload_n 0, 1) := by decide +kernel
theorem d_X_clear_85 : decode b_X_clear 85 = .ok (.getfield 42, 3) := by decide +kernel
theorem d_X_clear_88 : decode b_X_clear 88 = .ok (.ldc2_w 116, 3) := by decide +kernel
theorem d_X_clear_91 : decode b_X_clear 91 = .ok (.invokestatic 118, 3) := by decide +kernel
theorem d_X_clear_94 : decode b_X_clear 94 = .ok (.return_, 1) := by decide +kernel
theorem d_A_set_0 : decode b_A_set 0 = .ok (.aload_n 0, 1) := by decide +kernel
theorem d_A_set_1 : decode b_A_set 1 = .ok (.getfield 9, 3) := by decide +kernel
theorem d_A_set_4 : decode b_A_set 4 = .ok (.iload_n 1, 1) := by decide +kernel
theorem d_A_set_5 : decode b_A_set 5 = .ok (.iload_n 2, 1) := by decide +kernel
theorem d_A_set_6 : decode b_A_set 6 = .ok (.iastore, 1) := by decide +kernel
theorem d_A_set_7 : decode b_A_set 7 = .ok (.aload_n 0, 1) := by decide +kernel
theorem d_A_set_8 : decode b_A_set 8 = .ok (.getfield 15, 3) := by decide +kernel
theorem d_A_set_11 : decode b_A_set 11 = .ok (.iload_n 1, 1) := by decide +kernel
theorem d_A_set_12 : decode b_A_set 12 = .ok (.iload_n 3, 1) := by decide +kernel
theorem d_A_set_13 : decode b_A_set 13 = .ok (.iastore, 1) := by decide +kernel
theorem d_A_set_14 : decode b_A_set 14 = .ok (.aload_n 0, 1) := by decide +kernel
theorem d_A_set_15 : decode b_A_set 15 = .ok (.getfield 18, 3) := by decide +kernel
theorem d_A_set_18 : decode b_A_set 18 = .ok (.iload_n 1, 1) := by decide +kernel
theorem d_A_set_19 : decode b_A_set 19 = .ok (.aload_n 0, 1) := by decide +kernel
theorem d_A_set_20 : decode b_A_set 20 = .ok (.getfield 27, 3) := by decide +kernel
theorem d_A_set_23 : decode b_A_set 23 = .ok (.iastore, 1) := by decide +kernel
theorem d_A_set_24 : decode b_A_set 24 = .ok (.aload_n 0, 1) := by decide +kernel
theorem d_A_set_25 : decode b_A_set 25 = .ok (.dup, 1) := by decide +kernel
theorem d_A_set_26 : decode b_A_set 26 = .ok (.getfield 27, 3) := by decide +kernel
theorem d_A_set_29 : decode b_A_set 29 = .ok (.iconst 1, 1) := by decide +kernel
theorem d_A_set_30 : decode b_A_set 30 = .ok (.iadd, 1) := by decide +kernel
theorem d_A_set_31 : decode b_A_set 31 = .ok (.putfield 27, 3) := by decide +kernel
theorem d_A_set_34 : decode b_A_set 34 = .ok (.return_, 1) := by decide +kernel
theorem d_X_begin_0 : decode b_X_begin 0 = .ok (.aload_n 0, 1) := by decide +kernel
theorem d_X_begin_1 : decode b_X_begin 1 = .ok (.getfield 49, 3) := by decide +kernel
theorem d_X_begin_4 : decode b_X_begin 4 = .ok (.ifCond .eq 4, 3) := by decide +kernel
theorem d_X_begin_7 : decode b_X_begin 7 = .ok (.return_, 1) := by decide +kernel
theorem d_X_begin_8 : decode b_X_begin 8 = .ok (.aload_n 0, 1) := by decide +kernel
theorem d_X_begin_9 : decode b_X_begin 9 = .ok (.iconst 1, 1) := by decide +kernel
theorem d_X_begin_10 : decode b_X_begin 10 = .ok (.putfield 49, 3) := by decide +kernel
theorem d_X_begin_13 : decode b_X_begin 13 = .ok (.iconst 0, 1) := by decide +kernel
theorem d_X_begin_14 : decode b_X_begin 14 = .ok (.istore_n 1, 1) := by decide +kernel
theorem d_X_begin_15 : decode b_X_begin 15 = .ok (.iload_n 1, 1) := by decide +kernel
theorem d_X_begin_16 : decode b_X_begin 16 = .ok (.aload_n 0, 1) := by decide +kernel
theorem d_X_begin_17 : decode b_X_begin 17 = .ok (.getfield 82, 3) := by decide +kernel
theorem d_X_begin_20 : decode b_X_begin 20 = .ok (.if_icmp .ge 27, 3) := by decide +kernel
theorem d_X_begin_23 : decode b_X_begin 23 = .ok (.aload_n 0, 1) := by decide +kernel
theorem d_X_begin_24 : decode b_X_begin 24 = .ok (.getfield 38, 3) := by decide +kernel
theorem d_X_begin_27 : decode b_X_begin 27 = .ok (.iload_n 1, 1) := by decide +kernel
theorem d_X_begin_28 : decode b_X_begin 28 = .ok (.iconst 1, 1) := by decide +kernel
theorem d_X_begin_29 : decode b_X_begin 29 = .ok (.aload_n 0, 1) := by decide +kernel
theorem d_X_begin_30 : decode b_X_begin 30 = .ok (.getfield 23, 3) := by decide +kernel
theorem d_X_begin_33 : decode b_X_begin 33 = .ok (.iload_n 1, 1) := by decide +kernel
theorem d_X_begin_34 : decode b_X_begin 34 = .ok (.aaload, 1) := by decide +kernel
theorem d_X_begin_35 : decode b_X_begin 35 = .ok (.getfield 98, 3) := by decide +kernel
theorem d_X_begin_38 : decode b_X_begin 38 = .ok (.invokevirtual 185, 3) := by decide +kernel
theorem d_X_begin_41 : decode b_X_begin 41 = .ok (.iinc 1 1, 3) := by decide +kernel
theorem d_X_begin_44 : decode b_X_begin 44 = .ok (.goto (-29), 3) := by decide +kernel
theorem d_X_begin_47 : decode b_X_begin 47 = .ok (.return_, 1) := by decide +kernel
theorem d_A_isBefore_0 : decode b_A_isBefore 0 = .ok (.aload_n 0, 1) := by decide +kernel
theorem d_A_isBefore_1 : decode b_A_isBefore 1 = .ok (.getfield 15, 3) := by decide +kernel
theorem d_A_isBefore_4 : decode b_A_isBefore 4 = .ok (.iload_n 1, 1) := by decide +kernel
theorem d_A_isBefore_5 : decode b_A_isBefore 5 = .ok (.iaload, 1) := by decide +kernel
theorem d_A_isBefore_6 : decode b_A_isBefore 6 = .ok (.aload_n 0, 1) := by decide +kernel
theorem d_A_isBefore_7 : decode b_A_isBefore 7 = .ok (.getfield 15, 3) := by decide +kernel
theorem d_A_isBefore_10 : decode b_A_isBefore 10 = .ok (.iload_n 2, 1) := by decide +kernel
theorem d_A_isBefore_11 : decode b_A_isBefore 11 = .ok (.iaload, 1) := by decide +kernel
theorem d_A_isBefore_12 : decode b_A_isBefore 12 = .ok (.if_icmp .lt 33, 3) := by decide +kernel
theorem d_A_isBefore_15 : decode b_A_isBefore 15 = .ok (.aload_n 0, 1) := by decide +kernel
theorem d_A_isBefore_16 : decode b_A_isBefore 16 = .ok (.getfield 15, 3) := by decide +kernel
theorem d_A_isBefore_19 : decode b_A_isBefore 19 = .ok (.iload_n 1, 1) := by decide +kernel
theorem d_A_isBefore_20 : decode b_A_isBefore 20 = .ok (.iaload, 1) := by decide +kernel
theorem d_A_isBefore_21 : decode b_A_isBefore 21 = .ok (.aload_n 0, 1) := by decide +kernel
theorem d_A_isBefore_22 : decode b_A_isBefore 22 = .ok (.getfield 15, 3) := by decide +kernel
theorem d_A_isBefore_25 : decode b_A_isBefore 25 = .ok (.iload_n 2, 1) := by decide +kernel
theorem d_A_isBefore_26 : decode b_A_isBefore 26 = .ok (.iaload, 1) := by decide +kernel
theorem d_A_isBefore_27 : decode b_A_isBefore 27 = .ok (.if_icmp .ne 22, 3) := by decide +kernel
theorem d_A_isBefore_30 : decode b_A_isBefore 30 = .ok (.aload_n 0, 1) := by decide +kernel
theorem d_A_isBefore_31 : decode b_A_isBefore 31 = .ok (.getfield 18, 3) := by decide +kernel
theorem d_A_isBefore_34 : decode b_A_isBefore 34 = .ok (.iload_n 1, 1) := by decide +kernel
theorem d_A_isBefore_35 : decode b_A_isBefore 35 = .ok (.iaload, 1) := by decide +kernel
theorem d_A_isBefore_36 : decode b_A_isBefore 36 = .ok (.aload_n 0, 1) := by decide +kernel
theorem d_A_isBefore_37 : decode b_A_isBefore 37 = .ok (.getfield 18, 3) := by decide +kernel
theorem d_A_isBefore_40 : decode b_A_isBefore 40 = .ok (.iload_n 2, 1) := by decide +kernel
theorem d_A_isBefore_41 : decode b_A_isBefore 41 = .ok (.iaload, 1) := by decide +kernel
theorem d_A_isBefore_42 : decode b_A_isBefore 42 = .ok (.if_icmp .ge 7, 3) := by decide +kernel
theorem d_A_isBefore_45 : decode b_A_isBefore 45 = .ok (.iconst 1, 1) := by decide +kernel
theorem d_A_isBefore_46 : decode b_A_isBefore 46 = .ok (.goto 4, 3) := by decide +kernel
theorem d_A_isBefore_49 : decode b_A_isBefore 49 = .ok (.iconst 0, 1) := by decide +kernel
theorem d_A_isBefore_50 : decode b_A_isBefore 50 = .ok (.ireturn, 1) := by decide +kernel
theorem d_A_firstSlot_0 : decode b_A_firstSlot 0 = .ok (.iconst (-1), 1) := by decide +kernel
theorem d_A_firstSlot_1 : decode b_A_firstSlot 1 = .ok (.istore_n 1, 1) := by decide +kernel
theorem d_A_firstSlot_2 : decode b_A_firstSlot 2 = .ok (.iconst 0, 1) := by decide +kernel
theorem d_A_firstSlot_3 : decode b_A_firstSlot 3 = .ok (.istore_n 2, 1) := by decide +kernel
theorem d_A_firstSlot_4 : decode b_A_firstSlot 4 = .ok (.iload_n 2, 1) := by decide +kernel
theorem d_A_firstSlot_5 : decode b_A_firstSlot 5 = .ok (.bipush 70, 2) := by decide +kernel
theorem d_A_firstSlot_7 : decode b_A_firstSlot 7 = .ok (.if_icmp .ge 34, 3) := by decide +kernel
theorem d_A_firstSlot_10 : decode b_A_firstSlot 10 = .ok (.aload_n 0, 1) := by decide +kernel
theorem d_A_firstSlot_11 : decode b_A_firstSlot 11 = .ok (.getfield 9, 3) := by decide +kernel
theorem d_A_firstSlot_14 : decode b_A_firstSlot 14 = .ok (.iload_n 2, 1) := by decide +kernel
theorem d_A_firstSlot_15 : decode b_A_firstSlot 15 = .ok (.iaload, 1) := by decide +kernel
theorem d_A_firstSlot_16 : decode b_A_firstSlot 16 = .ok (.ifCond .eq 19, 3) := by decide +kernel
theorem d_A_firstSlot_19 : decode b_A_firstSlot 19 = .ok (.iload_n 1, 1) := by decide +kernel
theorem d_A_firstSlot_20 : decode b_A_firstSlot 20 = .ok (.iconst (-1), 1) := by decide +kernel
theorem d_A_firstSlot_21 : decode b_A_firstSlot 21 = .ok (.if_icmp .eq 12, 3) := by decide +kernel
theorem d_A_firstSlot_24 : decode b_A_firstSlot 24 = .ok (.aload_n 0, 1) := by decide +kernel
theorem d_A_firstSlot_25 : decode b_A_firstSlot 25 = .ok (.iload_n 2, 1) := by decide +kernel
theorem d_A_firstSlot_26 : decode b_A_firstSlot 26 = .ok (.iload_n 1, 1) := by decide +kernel
theorem d_A_firstSlot_27 : decode b_A_firstSlot 27 = .ok (.invokevirtual 31, 3) := by decide +kernel
theorem d_A_firstSlot_30 : decode b_A_firstSlot 30 = .ok (.ifCond .eq 5, 3) := by decide +kernel
theorem d_A_firstSlot_33 : decode b_A_firstSlot 33 = .ok (.iload_n 2, 1) := by decide +kernel
theorem d_A_firstSlot_34 : decode b_A_firstSlot 34 = .ok (.istore_n 1, 1) := by decide +kernel
theorem d_A_firstSlot_35 : decode b_A_firstSlot 35 = .ok (.iinc 2 1, 3) := by decide +kernel
theorem d_A_firstSlot_38 : decode b_A_firstSlot 38 = .ok (.goto (-34), 3) := by decide +kernel
theorem d_A_firstSlot_41 : decode b_A_firstSlot 41 = .ok (.iload_n 1, 1) := by decide +kernel
theorem d_A_firstSlot_42 : decode b_A_firstSlot 42 = .ok (.ireturn, 1) := by decide +kernel
theorem d_A_unset_0 : decode b_A_unset 0 = .ok (.aload_n 0, 1) := by decide +kernel
theorem d_A_unset_1 : decode b_A_unset 1 = .ok (.getfield 9, 3) := by decide +kernel
theorem d_A_unset_4 : decode b_A_unset 4 = .ok (.iload_n 1, 1) := by decide +kernel
theorem d_A_unset_5 : decode b_A_unset 5 = .ok (.iconst 0, 1) := by decide +kernel
theorem d_A_unset_6 : decode b_A_unset 6 = .ok (.iastore, 1) := by decide +kernel
theorem d_A_unset_7 : decode b_A_unset 7 = .ok (.return_, 1) := by decide +kernel
theorem d_X_remember_0 : decode b_X_remember 0 = .ok (.aload_n 0, 1) := by decide +kernel
theorem d_X_remember_1 : decode b_X_remember 1 = .ok (.getfield 42, 3) := by decide +kernel
theorem d_X_remember_4 : decode b_X_remember 4 = .ok (.iconst 0, 1) := by decide +kernel
theorem d_X_remember_5 : decode b_X_remember 5 = .ok (.aload_n 0, 1) := by decide +kernel
theorem d_X_remember_6 : decode b_X_remember 6 = .ok (.getfield 42, 3) := by decide +kernel
theorem d_X_remember_9 : decode b_X_remember 9 = .ok (.iconst 1, 1) := by decide +kernel
theorem d_X_remember_10 : decode b_X_remember 10 = .ok (.bipush 15, 2) := by decide +kernel
theorem d_X_remember_12 : decode b_X_remember 12 = .ok (.invokestatic 304, 3) := by decide +kernel
theorem d_X_remember_15 : decode b_X_remember 15 = .ok (.aload_n 0, 1) := by decide +kernel
theorem d_X_remember_16 : decode b_X_remember 16 = .ok (.getfield 42, 3) := by decide +kernel
theorem d_X_remember_19 : decode b_X_remember 19 = .ok (.iconst 0, 1) := by decide +kernel
theorem d_X_remember_20 : decode b_X_remember 20 = .ok (.aload_n 0, 1) := by decide +kernel
theorem d_X_remember_21 : decode b_X_remember 21 = .ok (.getfield 101, 3) := by decide +kernel
theorem d_X_remember_24 : decode b_X_remember 24 = .ok (.i2l, 1) := by decide +kernel
theorem d_X_remember_25 : decode b_X_remember 25 = .ok (.ldc2_w 310, 3) := by decide +kernel
theorem d_X_remember_28 : decode b_X_remember 28 = .ok (.lmul, 1) := by decide +kernel
theorem d_X_remember_29 : decode b_X_remember 29 = .ok (.iload_n 1, 1) := by decide +kernel
theorem d_X_remember_30 : decode b_X_remember 30 = .ok (.ldc_w 312, 3) := by decide +kernel
theorem d_X_remember_33 : decode b_X_remember 33 = .ok (.imul, 1) := by decide +kernel
theorem d_X_remember_34 : decode b_X_remember 34 = .ok (.i2l, 1) := by decide +kernel
theorem d_X_remember_35 : decode b_X_remember 35 = .ok (.ladd, 1) := by decide +kernel
theorem d_X_remember_36 : decode b_X_remember 36 = .ok (.iload_n 2, 1) := by decide +kernel
theorem d_X_remember_37 : decode b_X_remember 37 = .ok (.sipush 256, 3) := by decide +kernel
theorem d_X_remember_40 : decode b_X_remember 40 = .ok (.imul, 1) := by decide +kernel
theorem d_X_remember_41 : decode b_X_remember 41 = .ok (.i2l, 1) := by decide +kernel
theorem d_X_remember_42 : decode b_X_remember 42 = .ok (.ladd, 1) := by decide +kernel
theorem d_X_remember_43 : decode b_X_remember 43 = .ok (.iload_n 3, 1) := by decide +kernel
theorem d_X_remember_44 : decode b_X_remember 44 = .ok (.i2l, 1) := by decide +kernel
theorem d_X_remember_45 : decode b_X_remember 45 = .ok (.ladd, 1) := by decide +kernel
theorem d_X_remember_46 : decode b_X_remember 46 = .ok (.lastore, 1) := by decide +kernel
theorem d_X_remember_47 : decode b_X_remember 47 = .ok (.return_, 1) := by decide +kernel
theorem d_M_min_0 : decode b_M_min 0 = .ok (.iload_n 0, 1) := by decide +kernel
theorem d_M_min_1 : decode b_M_min 1 = .ok (.iload_n 1, 1) := by decide +kernel
theorem d_M_min_2 : decode b_M_min 2 = .ok (.if_icmp .gt 7, 3) := by decide +kernel
theorem d_M_min_5 : decode b_M_min 5 = .ok (.iload_n 0, 1) := by decide +kernel
theorem d_M_min_6 : decode b_M_min 6 = .ok (.goto 4, 3) := by decide +kernel
theorem d_M_min_9 : decode b_M_min 9 = .ok (.iload_n 1, 1) := by decide +kernel
theorem d_M_min_10 : decode b_M_min 10 = .ok (.ireturn, 1) := by decide +kernel
theorem d_X_hasTimer_0 : decode b_X_hasTimer 0 = .ok (.aload_n 0, 1) := by decide +kernel
theorem d_X_hasTimer_1 : decode b_X_hasTimer 1 = .ok (.getfield 38, 3) := by decide +kernel
theorem d_X_hasTimer_4 : decode b_X_hasTimer 4 = .ok (.getfield 191, 3) := by decide +kernel
theorem d_X_hasTimer_7 : decode b_X_hasTimer 7 = .ok (.iload_n 1, 1) := by decide +kernel
theorem d_X_hasTimer_8 : decode b_X_hasTimer 8 = .ok (.iaload, 1) := by decide +kernel
theorem d_X_hasTimer_9 : decode b_X_hasTimer 9 = .ok (.iconst 4, 1) := by decide +kernel
theorem d_X_hasTimer_10 : decode b_X_hasTimer 10 = .ok (.if_icmp .ne 7, 3) := by decide +kernel
theorem d_X_hasTimer_13 : decode b_X_hasTimer 13 = .ok (.iconst 1, 1) := by decide +kernel
theorem d_X_hasTimer_14 : decode b_X_hasTimer 14 = .ok (.goto 4, 3) := by decide +kernel
theorem d_X_hasTimer_17 : decode b_X_hasTimer 17 = .ok (.iconst 0, 1) := by decide +kernel
theorem d_X_hasTimer_18 : decode b_X_hasTimer 18 = .ok (.ireturn, 1) := by decide +kernel
theorem d_K_enter_0 : decode b_K_enter 0 = .ok (.aload_n 0, 1) := by decide +kernel
theorem d_K_enter_1 : decode b_K_enter 1 = .ok (.iconst 1, 1) := by decide +kernel
theorem d_K_enter_2 : decode b_K_enter 2 = .ok (.putfield 9, 3) := by decide +kernel
theorem d_K_enter_5 : decode b_K_enter 5 = .ok (.aload_n 0, 1) := by decide +kernel
theorem d_K_enter_6 : decode b_K_enter 6 = .ok (.iload_n 3, 1) := by decide +kernel
theorem d_K_enter_7 : decode b_K_enter 7 = .ok (.putfield 15, 3) := by decide +kernel
theorem d_K_enter_10 : decode b_K_enter 10 = .ok (.aload_n 0, 1) := by decide +kernel
theorem d_K_enter_11 : decode b_K_enter 11 = .ok (.iload_n 1, 1) := by decide +kernel
theorem d_K_enter_12 : decode b_K_enter 12 = .ok (.putfield 18, 3) := by decide +kernel
theorem d_K_enter_15 : decode b_K_enter 15 = .ok (.aload_n 0, 1) := by decide +kernel
theorem d_K_enter_16 : decode b_K_enter 16 = .ok (.iload_n 2, 1) := by decide +kernel
theorem d_K_enter_17 : decode b_K_enter 17 = .ok (.putfield 22, 3) := by decide +kernel
theorem d_K_enter_20 : decode b_K_enter 20 = .ok (.aload_n 0, 1) := by decide +kernel
theorem d_K_enter_21 : decode b_K_enter 21 = .ok (.iload_n 3, 1) := by decide +kernel
theorem d_K_enter_22 : decode b_K_enter 22 = .ok (.ifCond .eq 7, 3) := by decide +kernel
theorem d_K_enter_25 : decode b_K_enter 25 = .ok (.iconst 1, 1) := by decide +kernel
theorem d_K_enter_26 : decode b_K_enter 26 = .ok (.goto 8, 3) := by decide +kernel
theorem d_K_enter_29 : decode b_K_enter 29 = .ok (.aload 4, 2) := by decide +kernel
theorem d_K_enter_31 : decode b_K_enter 31 = .ok (.getfield 25, 3) := by decide +kernel
theorem d_K_enter_34 : decode b_K_enter 34 = .ok (.putfield 30, 3) := by decide +kernel
theorem d_K_enter_37 : decode b_K_enter 37 = .ok (.aload_n 0, 1) := by decide +kernel
theorem d_K_enter_38 : decode b_K_enter 38 = .ok (.iload_n 3, 1) := by decide +kernel
theorem d_K_enter_39 : decode b_K_enter 39 = .ok (.ifCond .eq 11, 3) := by decide +kernel
theorem d_K_enter_42 : decode b_K_enter 42 = .ok (.aload 4, 2) := by decide +kernel
theorem d_K_enter_44 : decode b_K_enter 44 = .ok (.getfield 31, 3) := by decide +kernel
theorem d_K_enter_47 : decode b_K_enter 47 = .ok (.goto 8, 3) := by decide +kernel
theorem d_K_enter_50 : decode b_K_enter 50 = .ok (.aload 4, 2) := by decide +kernel
theorem d_K_enter_52 : decode b_K_enter 52 = .ok (.getfield 34, 3) := by decide +kernel
theorem d_K_enter_55 : decode b_K_enter 55 = .ok (.putfield 37, 3) := by decide +kernel
theorem d_K_enter_58 : decode b_K_enter 58 = .ok (.return_, 1) := by decide +kernel
theorem d_X_make_0 : decode b_X_make 0 = .ok (.aload_n 0, 1) := by decide +kernel
theorem d_X_make_1 : decode b_X_make 1 = .ok (.getfield 23, 3) := by decide +kernel
theorem d_X_make_4 : decode b_X_make 4 = .ok (.iload_n 1, 1) := by decide +kernel
theorem d_X_make_5 : decode b_X_make 5 = .ok (.aaload, 1) := by decide +kernel
theorem d_X_make_6 : decode b_X_make 6 = .ok (.dup, 1) := by decide +kernel
theorem d_X_make_7 : decode b_X_make 7 = .ok (.getfield 173, 3) := by decide +kernel
theorem d_X_make_10 : decode b_X_make 10 = .ok (.iconst 1, 1) := by decide +kernel
theorem d_X_make_11 : decode b_X_make 11 = .ok (.iadd, 1) := by decide +kernel
theorem d_X_make_12 : decode b_X_make 12 = .ok (.putfield 173, 3) := by decide +kernel
theorem d_X_make_15 : decode b_X_make 15 = .ok (.iconst 0, 1) := by decide +kernel
theorem d_X_make_16 : decode b_X_make 16 = .ok (.istore 4, 2) := by decide +kernel
theorem d_X_make_18 : decode b_X_make 18 = .ok (.iload 4, 2) := by decide +kernel
theorem d_X_make_20 : decode b_X_make 20 = .ok (.bipush 64, 2) := by decide +kernel
theorem d_X_make_22 : decode b_X_make 22 = .ok (.if_icmp .ge 44, 3) := by decide +kernel
theorem d_X_make_25 : decode b_X_make 25 = .ok (.aload_n 0, 1) := by decide +kernel
theorem d_X_make_26 : decode b_X_make 26 = .ok (.getfield 30, 3) := by decide +kernel
theorem d_X_make_29 : decode b_X_make 29 = .ok (.iload 4, 2) := by decide +kernel
theorem d_X_make_31 : decode b_X_make 31 = .ok (.aaload, 1) := by decide +kernel
theorem d_X_make_32 : decode b_X_make 32 = .ok (.getfield 110, 3) := by decide +kernel
theorem d_X_make_35 : decode b_X_make 35 = .ok (.ifCond .ne 25, 3) := by decide +kernel
theorem d_X_make_38 : decode b_X_make 38 = .ok (.aload_n 0, 1) := by decide +kernel
theorem d_X_make_39 : decode b_X_make 39 = .ok (.getfield 30, 3) := by decide +kernel
theorem d_X_make_42 : decode b_X_make 42 = .ok (.iload 4, 2) := by decide +kernel
theorem d_X_make_44 : decode b_X_make 44 = .ok (.aaload, 1) := by decide +kernel
theorem d_X_make_45 : decode b_X_make 45 = .ok (.iload_n 1, 1) := by decide +kernel
theorem d_X_make_46 : decode b_X_make 46 = .ok (.iload_n 2, 1) := by decide +kernel
theorem d_X_make_47 : decode b_X_make 47 = .ok (.iload_n 3, 1) := by decide +kernel
theorem d_X_make_48 : decode b_X_make 48 = .ok (.aload_n 0, 1) := by decide +kernel
theorem d_X_make_49 : decode b_X_make 49 = .ok (.getfield 23, 3) := by decide +kernel
theorem d_X_make_52 : decode b_X_make 52 = .ok (.iload_n 1, 1) := by decide +kernel
theorem d_X_make_53 : decode b_X_make 53 = .ok (.aaload, 1) := by decide +kernel
theorem d_X_make_54 : decode b_X_make 54 = .ok (.invokevirtual 269, 3) := by decide +kernel
theorem d_X_make_57 : decode b_X_make 57 = .ok (.iload 4, 2) := by decide +kernel
theorem d_X_make_59 : decode b_X_make 59 = .ok (.ireturn, 1) := by decide +kernel
theorem d_X_make_60 : decode b_X_make 60 = .ok (.iinc 4 1, 3) := by decide +kernel
theorem d_X_make_63 : decode b_X_make 63 = .ok (.goto (-45), 3) := by decide +kernel
theorem d_X_make_66 : decode b_X_make 66 = .ok (.aload_n 0, 1) := by decide +kernel
theorem d_X_make_67 : decode b_X_make 67 = .ok (.getfield 23, 3) := by decide +kernel
theorem d_X_make_70 : decode b_X_make 70 = .ok (.iload_n 1, 1) := by decide +kernel
theorem d_X_make_71 : decode b_X_make 71 = .ok (.aaload, 1) := by decide +kernel
theorem d_X_make_72 : decode b_X_make 72 = .ok (.dup, 1) := by decide +kernel
theorem d_X_make_73 : decode b_X_make 73 = .ok (.getfield 179, 3) := by decide +kernel
theorem d_X_make_76 : decode b_X_make 76 = .ok (.iconst 1, 1) := by decide +kernel
theorem d_X_make_77 : decode b_X_make 77 = .ok (.iadd, 1) := by decide +kernel
theorem d_X_make_78 : decode b_X_make 78 = .ok (.putfield 179, 3) := by decide +kernel
theorem d_X_make_81 : decode b_X_make 81 = .ok (.iconst (-1), 1) := by decide +kernel
theorem d_X_make_82 : decode b_X_make 82 = .ok (.ireturn, 1) := by decide +kernel
theorem d_X_way_0 : decode b_X_way 0 = .ok (.iload_n 1, 1) := by decide +kernel
theorem d_X_way_1 : decode b_X_way 1 = .ok (.invokestatic 57, 3) := by decide +kernel
theorem d_X_way_4 : decode b_X_way 4 = .ok (.ifCond .eq 27, 3) := by decide +kernel
theorem d_X_way_7 : decode b_X_way 7 = .ok (.iload_n 2, 1) := by decide +kernel
theorem d_X_way_8 : decode b_X_way 8 = .ok (.invokestatic 57, 3) := by decide +kernel
theorem d_X_way_11 : decode b_X_way 11 = .ok (.ifCond .eq 20, 3) := by decide +kernel
theorem d_X_way_14 : decode b_X_way 14 = .ok (.iload_n 1, 1) := by decide +kernel
theorem d_X_way_15 : decode b_X_way 15 = .ok (.iload_n 2, 1) := by decide +kernel
theorem d_X_way_16 : decode b_X_way 16 = .ok (.if_icmp .eq 15, 3) := by decide +kernel
theorem d_X_way_19 : decode b_X_way 19 = .ok (.aload_n 0, 1) := by decide +kernel
theorem d_X_way_20 : decode b_X_way 20 = .ok (.getfield 11, 3) := by decide +kernel
theorem d_X_way_23 : decode b_X_way 23 = .ok (.iload_n 1, 1) := by decide +kernel
theorem d_X_way_24 : decode b_X_way 24 = .ok (.aaload, 1) := by decide +kernel
theorem d_X_way_25 : decode b_X_way 25 = .ok (.iload_n 2, 1) := by decide +kernel
theorem d_X_way_26 : decode b_X_way 26 = .ok (.iaload, 1) := by decide +kernel
theorem d_X_way_27 : decode b_X_way 27 = .ok (.iconst (-1), 1) := by decide +kernel
theorem d_X_way_28 : decode b_X_way 28 = .ok (.if_icmp .ne 5, 3) := by decide +kernel
theorem d_X_way_31 : decode b_X_way 31 = .ok (.iconst (-1), 1) := by decide +kernel
theorem d_X_way_32 : decode b_X_way 32 = .ok (.ireturn, 1) := by decide +kernel
theorem d_X_way_33 : decode b_X_way 33 = .ok (.iconst 0, 1) := by decide +kernel
theorem d_X_way_34 : decode b_X_way 34 = .ok (.istore_n 3, 1) := by decide +kernel
theorem d_X_way_35 : decode b_X_way 35 = .ok (.iload_n 3, 1) := by decide +kernel
theorem d_X_way_36 : decode b_X_way 36 = .ok (.iconst 2, 1) := by decide +kernel
theorem d_X_way_37 : decode b_X_way 37 = .ok (.aload_n 0, 1) := by decide +kernel
theorem d_X_way_38 : decode b_X_way 38 = .ok (.getfield 53, 3) := by decide +kernel
theorem d_X_way_41 : decode b_X_way 41 = .ok (.imul, 1) := by decide +kernel
theorem d_X_way_42 : decode b_X_way 42 = .ok (.if_icmp .ge 57, 3) := by decide +kernel
theorem d_X_way_45 : decode b_X_way 45 = .ok (.aload_n 0, 1) := by decide +kernel
theorem d_X_way_46 : decode b_X_way 46 = .ok (.getfield 16, 3) := by decide +kernel
theorem d_X_way_49 : decode b_X_way 49 = .ok (.iload_n 3, 1) := by decide +kernel
theorem d_X_way_50 : decode b_X_way 50 = .ok (.aaload, 1) := by decide +kernel
theorem d_X_way_51 : decode b_X_way 51 = .ok (.astore 4, 2) := by decide +kernel
theorem d_X_way_53 : decode b_X_way 53 = .ok (.aload 4, 2) := by decide +kernel
theorem d_X_way_55 : decode b_X_way 55 = .ok (.getfield 128, 3) := by decide +kernel
theorem d_X_way_58 : decode b_X_way 58 = .ok (.iload_n 1, 1) := by decide +kernel
theorem d_X_way_59 : decode b_X_way 59 = .ok (.if_icmp .ne 34, 3) := by decide +kernel
theorem d_X_way_62 : decode b_X_way 62 = .ok (.aload 4, 2) := by decide +kernel
theorem d_X_way_64 : decode b_X_way 64 = .ok (.getfield 131, 3) := by decide +kernel
theorem d_X_way_67 : decode b_X_way 67 = .ok (.aload_n 0, 1) := by decide +kernel
theorem d_X_way_68 : decode b_X_way 68 = .ok (.getfield 11, 3) := by decide +kernel
theorem d_X_way_71 : decode b_X_way 71 = .ok (.aload 4, 2) := by decide +kernel
theorem d_X_way_73 : decode b_X_way 73 = .ok (.getfield 134, 3) := by decide +kernel
theorem d_X_way_76 : decode b_X_way 76 = .ok (.aaload, 1) := by decide +kernel
theorem d_X_way_77 : decode b_X_way 77 = .ok (.iload_n 2, 1) := by decide +kernel
theorem d_X_way_78 : decode b_X_way 78 = .ok (.iaload, 1) := by decide +kernel
theorem d_X_way_79 : decode b_X_way 79 = .ok (.iadd, 1) := by decide +kernel
theorem d_X_way_80 : decode b_X_way 80 = .ok (.aload_n 0, 1) := by decide +kernel
theorem d_X_way_81 : decode b_X_way 81 = .ok (.getfield 11, 3) := by decide +kernel
theorem d_X_way_84 : decode b_X_way 84 = .ok (.iload_n 1, 1) := by decide +kernel
theorem d_X_way_85 : decode b_X_way 85 = .ok (.aaload, 1) := by decide +kernel
theorem d_X_way_86 : decode b_X_way 86 = .ok (.iload_n 2, 1) := by decide +kernel
theorem d_X_way_87 : decode b_X_way 87 = .ok (.iaload, 1) := by decide +kernel
theorem d_X_way_88 : decode b_X_way 88 = .ok (.if_icmp .ne 5, 3) := by decide +kernel
theorem d_X_way_91 : decode b_X_way 91 = .ok (.iload_n 3, 1) := by decide +kernel
theorem d_X_way_92 : decode b_X_way 92 = .ok (.ireturn, 1) := by decide +kernel
theorem d_X_way_93 : decode b_X_way 93 = .ok (.iinc 3 1, 3) := by decide +kernel
theorem d_X_way_96 : decode b_X_way 96 = .ok (.goto (-61), 3) := by decide +kernel
theorem d_X_way_99 : decode b_X_way 99 = .ok (.iconst (-1), 1) := by decide +kernel
theorem d_X_way_100 : decode b_X_way 100 = .ok (.ireturn, 1) := by decide +kernel
theorem d_X_queuedOf_0 : decode b_X_queuedOf 0 = .ok (.iconst 0, 1) := by decide +kernel
theorem d_X_queuedOf_1 : decode b_X_queuedOf 1 = .ok (.istore_n 3, 1) := by decide +kernel
theorem d_X_queuedOf_2 : decode b_X_queuedOf 2 = .ok (.iconst 0, 1) := by decide +kernel
theorem d_X_queuedOf_3 : decode b_X_queuedOf 3 = .ok (.istore 4, 2) := by decide +kernel
theorem d_X_queuedOf_5 : decode b_X_queuedOf 5 = .ok (.iload 4, 2) := by decide +kernel
theorem d_X_queuedOf_7 : decode b_X_queuedOf 7 = .ok (.aload_n 1, 1) := by decide +kernel
theorem d_X_queuedOf_8 : decode b_X_queuedOf 8 = .ok (.getfield 137, 3) := by decide +kernel
theorem d_X_queuedOf_11 : decode b_X_queuedOf 11 = .ok (.if_icmp .ge 31, 3) := by decide +kernel
theorem d_X_queuedOf_14 : decode b_X_queuedOf 14 = .ok (.aload_n 0, 1) := by decide +kernel
theorem d_X_queuedOf_15 : decode b_X_queuedOf 15 = .ok (.getfield 30, 3) := by decide +kernel
theorem d_X_queuedOf_18 : decode b_X_queuedOf 18 = .ok (.aload_n 1, 1) := by decide +kernel
theorem d_X_queuedOf_19 : decode b_X_queuedOf 19 = .ok (.getfield 279, 3) := by decide +kernel
theorem d_X_queuedOf_22 : decode b_X_queuedOf 22 = .ok (.iload 4, 2) := by decide +kernel
theorem d_X_queuedOf_24 : decode b_X_queuedOf 24 = .ok (.iaload, 1) := by decide +kernel
theorem d_X_queuedOf_25 : decode b_X_queuedOf 25 = .ok (.aaload, 1) := by decide +kernel
theorem d_X_queuedOf_26 : decode b_X_queuedOf 26 = .ok (.getfield 151, 3) := by decide +kernel
theorem d_X_queuedOf_29 : decode b_X_queuedOf 29 = .ok (.iload_n 2, 1) := by decide +kernel
theorem d_X_queuedOf_30 : decode b_X_queuedOf 30 = .ok (.if_icmp .ne 6, 3) := by decide +kernel
theorem d_X_queuedOf_33 : decode b_X_queuedOf 33 = .ok (.iinc 3 1, 3) := by decide +kernel
theorem d_X_queuedOf_36 : decode b_X_queuedOf 36 = .ok (.iinc 4 1, 3) := by decide +kernel
theorem d_X_queuedOf_39 : decode b_X_queuedOf 39 = .ok (.goto (-34), 3) := by decide +kernel
theorem d_X_queuedOf_42 : decode b_X_queuedOf 42 = .ok (.iload_n 3, 1) := by decide +kernel
theorem d_X_queuedOf_43 : decode b_X_queuedOf 43 = .ok (.ireturn, 1) := by decide +kernel
theorem d_P_serveFirst_0 : decode b_P_serveFirst 0 = .ok (.aload_n 0, 1) := by decide +kernel
theorem d_P_serveFirst_1 : decode b_P_serveFirst 1 = .ok (.getfield 52, 3) := by decide +kernel
theorem d_P_serveFirst_4 : decode b_P_serveFirst 4 = .ok (.ifCond .ne 26, 3) := by decide +kernel
theorem d_P_serveFirst_7 : decode b_P_serveFirst 7 = .ok (.aload_n 0, 1) := by decide +kernel
theorem d_P_serveFirst_8 : decode b_P_serveFirst 8 = .ok (.getfield 18, 3) := by decide +kernel
theorem d_P_serveFirst_11 : decode b_P_serveFirst 11 = .ok (.aload_n 0, 1) := by decide +kernel
theorem d_P_serveFirst_12 : decode b_P_serveFirst 12 = .ok (.getfield 15, 3) := by decide +kernel
theorem d_P_serveFirst_15 : decode b_P_serveFirst 15 = .ok (.iconst 0, 1) := by decide +kernel
theorem d_P_serveFirst_16 : decode b_P_serveFirst 16 = .ok (.iaload, 1) := by decide +kernel
theorem d_P_serveFirst_17 : decode b_P_serveFirst 17 = .ok (.dup2, 1) := by decide +kernel
theorem d_P_serveFirst_18 : decode b_P_serveFirst 18 = .ok (.iaload, 1) := by decide +kernel
theorem d_P_serveFirst_19 : decode b_P_serveFirst 19 = .ok (.aload_n 0, 1) := by decide +kernel
theorem d_P_serveFirst_20 : decode b_P_serveFirst 20 = .ok (.getfield 37, 3) := by decide +kernel
theorem d_P_serveFirst_23 : decode b_P_serveFirst 23 = .ok (.iadd, 1) := by decide +kernel
theorem d_P_serveFirst_24 : decode b_P_serveFirst 24 = .ok (.iastore, 1) := by decide +kernel
theorem d_P_serveFirst_25 : decode b_P_serveFirst 25 = .ok (.aload_n 0, 1) := by decide +kernel
theorem d_P_serveFirst_26 : decode b_P_serveFirst 26 = .ok (.iconst 1, 1) := by decide +kernel
theorem d_P_serveFirst_27 : decode b_P_serveFirst 27 = .ok (.putfield 52, 3) := by decide +kernel
theorem d_P_serveFirst_30 : decode b_P_serveFirst 30 = .ok (.return_, 1) := by decide +kernel
theorem d_X_firstPlaceOf_0 : decode b_X_firstPlaceOf 0 = .ok (.iconst 0, 1) := by decide +kernel
theorem d_X_firstPlaceOf_1 : decode b_X_firstPlaceOf 1 = .ok (.istore_n 3, 1) := by decide +kernel
theorem d_X_firstPlaceOf_2 : decode b_X_firstPlaceOf 2 = .ok (.iload_n 3, 1) := by decide +kernel
theorem d_X_firstPlaceOf_3 : decode b_X_firstPlaceOf 3 = .ok (.aload_n 1, 1) := by decide +kernel
theorem d_X_firstPlaceOf_4 : decode b_X_firstPlaceOf 4 = .ok (.getfield 137, 3) := by decide +kernel
theorem d_X_firstPlaceOf_7 : decode b_X_firstPlaceOf 7 = .ok (.iconst 1, 1) := by decide +kernel
theorem d_X_firstPlaceOf_8 : decode b_X_firstPlaceOf 8 = .ok (.isub, 1) := by decide +kernel
theorem d_X_firstPlaceOf_9 : decode b_X_firstPlaceOf 9 = .ok (.if_icmp .ge 27, 3) := by decide +kernel
theorem d_X_firstPlaceOf_12 : decode b_X_firstPlaceOf 12 = .ok (.aload_n 0, 1) := by decide +kernel
theorem d_X_firstPlaceOf_13 : decode b_X_firstPlaceOf 13 = .ok (.getfield 30, 3) := by decide +kernel
theorem d_X_firstPlaceOf_16 : decode b_X_firstPlaceOf 16 = .ok (.aload_n 1, 1) := by decide +kernel
theorem d_X_firstPlaceOf_17 : decode b_X_firstPlaceOf 17 = .ok (.getfield 279, 3) := by decide +kernel
theorem d_X_firstPlaceOf_20 : decode b_X_firstPlaceOf 20 = .ok (.iload_n 3, 1) := by decide +kernel
theorem d_X_firstPlaceOf_21 : decode b_X_firstPlaceOf 21 = .ok (.iaload, 1) := by decide +kernel
theorem d_X_firstPlaceOf_22 : decode b_X_firstPlaceOf 22 = .ok (.aaload, 1) := by decide +kernel
theorem d_X_firstPlaceOf_23 : decode b_X_firstPlaceOf 23 = .ok (.getfield 151, 3) := by decide +kernel
theorem d_X_firstPlaceOf_26 : decode b_X_firstPlaceOf 26 = .ok (.iload_n 2, 1) := by decide +kernel
theorem d_X_firstPlaceOf_27 : decode b_X_firstPlaceOf 27 = .ok (.if_icmp .eq 9, 3) := by decide +kernel
theorem d_X_firstPlaceOf_30 : decode b_X_firstPlaceOf 30 = .ok (.iinc 3 1, 3) := by decide +kernel
theorem d_X_firstPlaceOf_33 : decode b_X_firstPlaceOf 33 = .ok (.goto (-31), 3) := by decide +kernel
theorem d_X_firstPlaceOf_36 : decode b_X_firstPlaceOf 36 = .ok (.iload_n 3, 1) := by decide +kernel
theorem d_X_firstPlaceOf_37 : decode b_X_firstPlaceOf 37 = .ok (.ireturn, 1) := by decide +kernel
theorem d_P_dropFirst_0 : decode b_P_dropFirst 0 = .ok (.aload_n 0, 1) := by decide +kernel
theorem d_P_dropFirst_1 : decode b_P_dropFirst 1 = .ok (.getfield 49, 3) := by decide +kernel
theorem d_P_dropFirst_4 : decode b_P_dropFirst 4 = .ok (.ifCond .le 35, 3) := by decide +kernel
theorem d_P_dropFirst_7 : decode b_P_dropFirst 7 = .ok (.aload_n 0, 1) := by decide +kernel
theorem d_P_dropFirst_8 : decode b_P_dropFirst 8 = .ok (.dup, 1) := by decide +kernel
theorem d_P_dropFirst_9 : decode b_P_dropFirst 9 = .ok (.getfield 49, 3) := by decide +kernel
theorem d_P_dropFirst_12 : decode b_P_dropFirst 12 = .ok (.iconst 1, 1) := by decide +kernel
theorem d_P_dropFirst_13 : decode b_P_dropFirst 13 = .ok (.isub, 1) := by decide +kernel
theorem d_P_dropFirst_14 : decode b_P_dropFirst 14 = .ok (.putfield 49, 3) := by decide +kernel
theorem d_P_dropFirst_17 : decode b_P_dropFirst 17 = .ok (.aload_n 0, 1) := by decide +kernel
theorem d_P_dropFirst_18 : decode b_P_dropFirst 18 = .ok (.getfield 15, 3) := by decide +kernel
theorem d_P_dropFirst_21 : decode b_P_dropFirst 21 = .ok (.iconst 1, 1) := by decide +kernel
theorem d_P_dropFirst_22 : decode b_P_dropFirst 22 = .ok (.aload_n 0, 1) := by decide +kernel
theorem d_P_dropFirst_23 : decode b_P_dropFirst 23 = .ok (.getfield 15, 3) := by decide +kernel
theorem d_P_dropFirst_26 : decode b_P_dropFirst 26 = .ok (.iconst 0, 1) := by decide +kernel
theorem d_P_dropFirst_27 : decode b_P_dropFirst 27 = .ok (.aload_n 0, 1) := by decide +kernel
theorem d_P_dropFirst_28 : decode b_P_dropFirst 28 = .ok (.getfield 49, 3) := by decide +kernel
theorem d_P_dropFirst_31 : decode b_P_dropFirst 31 = .ok (.invokestatic 62, 3) := by decide +kernel
theorem d_P_dropFirst_34 : decode b_P_dropFirst 34 = .ok (.aload_n 0, 1) := by decide +kernel
theorem d_P_dropFirst_35 : decode b_P_dropFirst 35 = .ok (.iconst 0, 1) := by decide +kernel
theorem d_P_dropFirst_36 : decode b_P_dropFirst 36 = .ok (.putfield 52, 3) := by decide +kernel
theorem d_P_dropFirst_39 : decode b_P_dropFirst 39 = .ok (.return_, 1) := by decide +kernel
theorem d_P_append_0 : decode b_P_append 0 = .ok (.aload_n 0, 1) := by decide +kernel
theorem d_P_append_1 : decode b_P_append 1 = .ok (.getfield 49, 3) := by decide +kernel
theorem d_P_append_4 : decode b_P_append 4 = .ok (.bipush 6, 2) := by decide +kernel
theorem d_P_append_6 : decode b_P_append 6 = .ok (.if_icmp .ge 23, 3) := by decide +kernel
theorem d_P_append_9 : decode b_P_append 9 = .ok (.aload_n 0, 1) := by decide +kernel
theorem d_P_append_10 : decode b_P_append 10 = .ok (.getfield 15, 3) := by decide +kernel
theorem d_P_append_13 : decode b_P_append 13 = .ok (.aload_n 0, 1) := by decide +kernel
theorem d_P_append_14 : decode b_P_append 14 = .ok (.getfield 49, 3) := by decide +kernel
theorem d_P_append_17 : decode b_P_append 17 = .ok (.iload_n 1, 1) := by decide +kernel
theorem d_P_append_18 : decode b_P_append 18 = .ok (.iastore, 1) := by decide +kernel
theorem d_P_append_19 : decode b_P_append 19 = .ok (.aload_n 0, 1) := by decide +kernel
theorem d_P_append_20 : decode b_P_append 20 = .ok (.dup, 1) := by decide +kernel
theorem d_P_append_21 : decode b_P_append 21 = .ok (.getfield 49, 3) := by decide +kernel
theorem d_P_append_24 : decode b_P_append 24 = .ok (.iconst 1, 1) := by decide +kernel
theorem d_P_append_25 : decode b_P_append 25 = .ok (.iadd, 1) := by decide +kernel
theorem d_P_append_26 : decode b_P_append 26 = .ok (.putfield 49, 3) := by decide +kernel
theorem d_P_append_29 : decode b_P_append 29 = .ok (.return_, 1) := by decide +kernel
theorem d_P_takeFrom_0 : decode b_P_takeFrom 0 = .ok (.aload_n 0, 1) := by decide +kernel
theorem d_P_takeFrom_1 : decode b_P_takeFrom 1 = .ok (.getfield 9, 3) := by decide +kernel
theorem d_P_takeFrom_4 : decode b_P_takeFrom 4 = .ok (.iload_n 1, 1) := by decide +kernel
theorem d_P_takeFrom_5 : decode b_P_takeFrom 5 = .ok (.iaload, 1) := by decide +kernel
theorem d_P_takeFrom_6 : decode b_P_takeFrom 6 = .ok (.istore_n 2, 1) := by decide +kernel
theorem d_P_takeFrom_7 : decode b_P_takeFrom 7 = .ok (.aload_n 0, 1) := by decide +kernel
theorem d_P_takeFrom_8 : decode b_P_takeFrom 8 = .ok (.dup, 1) := by decide +kernel
theorem d_P_takeFrom_9 : decode b_P_takeFrom 9 = .ok (.getfield 46, 3) := by decide +kernel
theorem d_P_takeFrom_12 : decode b_P_takeFrom 12 = .ok (.iconst 1, 1) := by decide +kernel
