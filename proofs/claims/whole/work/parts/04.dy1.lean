theorem d_Y_put_57 : decode b_Y_put 57 = .ok (.iaload, 1) := by decide +kernel
theorem d_Y_put_58 : decode b_Y_put 58 = .ok (.invokevirtual 179, 3) := by decide +kernel
theorem d_Y_put_61 : decode b_Y_put 61 = .ok (.ifCond .ne 37, 3) := by decide +kernel
theorem d_Y_put_64 : decode b_Y_put 64 = .ok (.aload_n 0, 1) := by decide +kernel
theorem d_Y_put_65 : decode b_Y_put 65 = .ok (.getfield 101, 3) := by decide +kernel
theorem d_Y_put_68 : decode b_Y_put 68 = .ok (.iload 4, 2) := by decide +kernel
theorem d_Y_put_70 : decode b_Y_put 70 = .ok (.aload_n 0, 1) := by decide +kernel
theorem d_Y_put_71 : decode b_Y_put 71 = .ok (.dup, 1) := by decide +kernel
theorem d_Y_put_72 : decode b_Y_put 72 = .ok (.getfield 131, 3) := by decide +kernel
theorem d_Y_put_75 : decode b_Y_put 75 = .ok (.iconst 1, 1) := by decide +kernel
theorem d_Y_put_76 : decode b_Y_put 76 = .ok (.iadd, 1) := by decide +kernel
theorem d_Y_put_77 : decode b_Y_put 77 = .ok (.dup_x1, 1) := by decide +kernel
theorem d_Y_put_78 : decode b_Y_put 78 = .ok (.putfield 131, 3) := by decide +kernel
theorem d_Y_put_81 : decode b_Y_put 81 = .ok (.iastore, 1) := by decide +kernel
theorem d_Y_put_82 : decode b_Y_put 82 = .ok (.aload_n 0, 1) := by decide +kernel
theorem d_Y_put_83 : decode b_Y_put 83 = .ok (.getfield 104, 3) := by decide +kernel
theorem d_Y_put_86 : decode b_Y_put 86 = .ok (.iload 4, 2) := by decide +kernel
theorem d_Y_put_88 : decode b_Y_put 88 = .ok (.iconst 0, 1) := by decide +kernel
theorem d_Y_put_89 : decode b_Y_put 89 = .ok (.iastore, 1) := by decide +kernel
theorem d_Y_put_90 : decode b_Y_put 90 = .ok (.aload_n 0, 1) := by decide +kernel
theorem d_Y_put_91 : decode b_Y_put 91 = .ok (.getfield 107, 3) := by decide +kernel
theorem d_Y_put_94 : decode b_Y_put 94 = .ok (.iload 4, 2) := by decide +kernel
theorem d_Y_put_96 : decode b_Y_put 96 = .ok (.iconst 0, 1) := by decide +kernel
theorem d_Y_put_97 : decode b_Y_put 97 = .ok (.bastore, 1) := by decide +kernel
theorem d_Y_put_98 : decode b_Y_put 98 = .ok (.aload_n 0, 1) := by decide +kernel
theorem d_Y_put_99 : decode b_Y_put 99 = .ok (.getfield 79, 3) := by decide +kernel
theorem d_Y_put_102 : decode b_Y_put 102 = .ok (.iload_n 1, 1) := by decide +kernel
theorem d_Y_put_103 : decode b_Y_put 103 = .ok (.iconst 1, 1) := by decide +kernel
theorem d_Y_put_104 : decode b_Y_put 104 = .ok (.iastore, 1) := by decide +kernel
theorem d_Y_put_105 : decode b_Y_put 105 = .ok (.aload_n 0, 1) := by decide +kernel
theorem d_Y_put_106 : decode b_Y_put 106 = .ok (.getfield 92, 3) := by decide +kernel
theorem d_Y_put_109 : decode b_Y_put 109 = .ok (.iload_n 1, 1) := by decide +kernel
theorem d_Y_put_110 : decode b_Y_put 110 = .ok (.iload_n 3, 1) := by decide +kernel
theorem d_Y_put_111 : decode b_Y_put 111 = .ok (.iastore, 1) := by decide +kernel
theorem d_Y_put_112 : decode b_Y_put 112 = .ok (.aload_n 0, 1) := by decide +kernel
theorem d_Y_put_113 : decode b_Y_put 113 = .ok (.getfield 98, 3) := by decide +kernel
theorem d_Y_put_116 : decode b_Y_put 116 = .ok (.iload_n 1, 1) := by decide +kernel
theorem d_Y_put_117 : decode b_Y_put 117 = .ok (.aload_n 0, 1) := by decide +kernel
theorem d_Y_put_118 : decode b_Y_put 118 = .ok (.dup, 1) := by decide +kernel
theorem d_Y_put_119 : decode b_Y_put 119 = .ok (.getfield 131, 3) := by decide +kernel
theorem d_Y_put_122 : decode b_Y_put 122 = .ok (.iconst 1, 1) := by decide +kernel
theorem d_Y_put_123 : decode b_Y_put 123 = .ok (.iadd, 1) := by decide +kernel
theorem d_Y_put_124 : decode b_Y_put 124 = .ok (.dup_x1, 1) := by decide +kernel
theorem d_Y_put_125 : decode b_Y_put 125 = .ok (.putfield 131, 3) := by decide +kernel
theorem d_Y_put_128 : decode b_Y_put 128 = .ok (.iastore, 1) := by decide +kernel
theorem d_Y_put_129 : decode b_Y_put 129 = .ok (.aload_n 0, 1) := by decide +kernel
theorem d_Y_put_130 : decode b_Y_put 130 = .ok (.iload_n 3, 1) := by decide +kernel
theorem d_Y_put_131 : decode b_Y_put 131 = .ok (.invokevirtual 186, 3) := by decide +kernel
theorem d_Y_put_134 : decode b_Y_put 134 = .ok (.iconst (-1), 1) := by decide +kernel
theorem d_Y_put_135 : decode b_Y_put 135 = .ok (.if_icmp .ne 8, 3) := by decide +kernel
theorem d_Y_put_138 : decode b_Y_put 138 = .ok (.aload_n 0, 1) := by decide +kernel
theorem d_Y_put_139 : decode b_Y_put 139 = .ok (.iload_n 3, 1) := by decide +kernel
theorem d_Y_put_140 : decode b_Y_put 140 = .ok (.invokevirtual 189, 3) := by decide +kernel
theorem d_Y_put_143 : decode b_Y_put 143 = .ok (.return_, 1) := by decide +kernel
theorem d_Y_make_0 : decode b_Y_make 0 = .ok (.aload_n 0, 1) := by decide +kernel
theorem d_Y_make_1 : decode b_Y_make 1 = .ok (.getfield 76, 3) := by decide +kernel
theorem d_Y_make_4 : decode b_Y_make 4 = .ok (.iconst 4, 1) := by decide +kernel
theorem d_Y_make_5 : decode b_Y_make 5 = .ok (.iload_n 1, 1) := by decide +kernel
theorem d_Y_make_6 : decode b_Y_make 6 = .ok (.imul, 1) := by decide +kernel
theorem d_Y_make_7 : decode b_Y_make 7 = .ok (.iconst 0, 1) := by decide +kernel
theorem d_Y_make_8 : decode b_Y_make 8 = .ok (.iadd, 1) := by decide +kernel
theorem d_Y_make_9 : decode b_Y_make 9 = .ok (.dup2, 1) := by decide +kernel
theorem d_Y_make_10 : decode b_Y_make 10 = .ok (.iaload, 1) := by decide +kernel
theorem d_Y_make_11 : decode b_Y_make 11 = .ok (.iconst 1, 1) := by decide +kernel
theorem d_Y_make_12 : decode b_Y_make 12 = .ok (.iadd, 1) := by decide +kernel
theorem d_Y_make_13 : decode b_Y_make 13 = .ok (.iastore, 1) := by decide +kernel
theorem d_Y_make_14 : decode b_Y_make 14 = .ok (.iconst 0, 1) := by decide +kernel
theorem d_Y_make_15 : decode b_Y_make 15 = .ok (.istore 5, 2) := by decide +kernel
theorem d_Y_make_17 : decode b_Y_make 17 = .ok (.iload 5, 2) := by decide +kernel
theorem d_Y_make_19 : decode b_Y_make 19 = .ok (.bipush 64, 2) := by decide +kernel
theorem d_Y_make_21 : decode b_Y_make 21 = .ok (.if_icmp .ge 19, 3) := by decide +kernel
theorem d_Y_make_24 : decode b_Y_make 24 = .ok (.aload_n 0, 1) := by decide +kernel
theorem d_Y_make_25 : decode b_Y_make 25 = .ok (.getfield 79, 3) := by decide +kernel
theorem d_Y_make_28 : decode b_Y_make 28 = .ok (.iload 5, 2) := by decide +kernel
theorem d_Y_make_30 : decode b_Y_make 30 = .ok (.iaload, 1) := by decide +kernel
theorem d_Y_make_31 : decode b_Y_make 31 = .ok (.ifCond .eq 9, 3) := by decide +kernel
theorem d_Y_make_34 : decode b_Y_make 34 = .ok (.iinc 5 1, 3) := by decide +kernel
theorem d_Y_make_37 : decode b_Y_make 37 = .ok (.goto (-20), 3) := by decide +kernel
theorem d_Y_make_40 : decode b_Y_make 40 = .ok (.iload 5, 2) := by decide +kernel
theorem d_Y_make_42 : decode b_Y_make 42 = .ok (.bipush 64, 2) := by decide +kernel
theorem d_Y_make_44 : decode b_Y_make 44 = .ok (.if_icmp .ne 18, 3) := by decide +kernel
theorem d_Y_make_47 : decode b_Y_make 47 = .ok (.aload_n 0, 1) := by decide +kernel
theorem d_Y_make_48 : decode b_Y_make 48 = .ok (.getfield 76, 3) := by decide +kernel
theorem d_Y_make_51 : decode b_Y_make 51 = .ok (.iconst 4, 1) := by decide +kernel
theorem d_Y_make_52 : decode b_Y_make 52 = .ok (.iload_n 1, 1) := by decide +kernel
theorem d_Y_make_53 : decode b_Y_make 53 = .ok (.imul, 1) := by decide +kernel
theorem d_Y_make_54 : decode b_Y_make 54 = .ok (.iconst 2, 1) := by decide +kernel
theorem d_Y_make_55 : decode b_Y_make 55 = .ok (.iadd, 1) := by decide +kernel
theorem d_Y_make_56 : decode b_Y_make 56 = .ok (.dup2, 1) := by decide +kernel
theorem d_Y_make_57 : decode b_Y_make 57 = .ok (.iaload, 1) := by decide +kernel
theorem d_Y_make_58 : decode b_Y_make 58 = .ok (.iconst 1, 1) := by decide +kernel
theorem d_Y_make_59 : decode b_Y_make 59 = .ok (.iadd, 1) := by decide +kernel
theorem d_Y_make_60 : decode b_Y_make 60 = .ok (.iastore, 1) := by decide +kernel
theorem d_Y_make_61 : decode b_Y_make 61 = .ok (.return_, 1) := by decide +kernel
theorem d_Y_make_62 : decode b_Y_make 62 = .ok (.aload_n 0, 1) := by decide +kernel
theorem d_Y_make_63 : decode b_Y_make 63 = .ok (.getfield 82, 3) := by decide +kernel
theorem d_Y_make_66 : decode b_Y_make 66 = .ok (.iload 5, 2) := by decide +kernel
theorem d_Y_make_68 : decode b_Y_make 68 = .ok (.iload_n 1, 1) := by decide +kernel
theorem d_Y_make_69 : decode b_Y_make 69 = .ok (.iastore, 1) := by decide +kernel
theorem d_Y_make_70 : decode b_Y_make 70 = .ok (.aload_n 0, 1) := by decide +kernel
theorem d_Y_make_71 : decode b_Y_make 71 = .ok (.getfield 85, 3) := by decide +kernel
theorem d_Y_make_74 : decode b_Y_make 74 = .ok (.iload 5, 2) := by decide +kernel
theorem d_Y_make_76 : decode b_Y_make 76 = .ok (.iload_n 2, 1) := by decide +kernel
theorem d_Y_make_77 : decode b_Y_make 77 = .ok (.iastore, 1) := by decide +kernel
theorem d_Y_make_78 : decode b_Y_make 78 = .ok (.aload_n 0, 1) := by decide +kernel
theorem d_Y_make_79 : decode b_Y_make 79 = .ok (.getfield 88, 3) := by decide +kernel
theorem d_Y_make_82 : decode b_Y_make 82 = .ok (.iload 5, 2) := by decide +kernel
theorem d_Y_make_84 : decode b_Y_make 84 = .ok (.iload_n 3, 1) := by decide +kernel
theorem d_Y_make_85 : decode b_Y_make 85 = .ok (.bastore, 1) := by decide +kernel
theorem d_Y_make_86 : decode b_Y_make 86 = .ok (.aload_n 0, 1) := by decide +kernel
theorem d_Y_make_87 : decode b_Y_make 87 = .ok (.iload 5, 2) := by decide +kernel
theorem d_Y_make_89 : decode b_Y_make 89 = .ok (.iload 4, 2) := by decide +kernel
theorem d_Y_make_91 : decode b_Y_make 91 = .ok (.invokevirtual 169, 3) := by decide +kernel
theorem d_Y_make_94 : decode b_Y_make 94 = .ok (.return_, 1) := by decide +kernel
theorem d_Y_setTimeout_0 : decode b_Y_setTimeout 0 = .ok (.aload_n 0, 1) := by decide +kernel
theorem d_Y_setTimeout_1 : decode b_Y_setTimeout 1 = .ok (.getfield 70, 3) := by decide +kernel
theorem d_Y_setTimeout_4 : decode b_Y_setTimeout 4 = .ok (.iload_n 1, 1) := by decide +kernel
theorem d_Y_setTimeout_5 : decode b_Y_setTimeout 5 = .ok (.aload_n 0, 1) := by decide +kernel
theorem d_Y_setTimeout_6 : decode b_Y_setTimeout 6 = .ok (.getfield 128, 3) := by decide +kernel
theorem d_Y_setTimeout_9 : decode b_Y_setTimeout 9 = .ok (.aload_n 0, 1) := by decide +kernel
theorem d_Y_setTimeout_10 : decode b_Y_setTimeout 10 = .ok (.getfield 49, 3) := by decide +kernel
theorem d_Y_setTimeout_13 : decode b_Y_setTimeout 13 = .ok (.iload_n 1, 1) := by decide +kernel
theorem d_Y_setTimeout_14 : decode b_Y_setTimeout 14 = .ok (.iaload, 1) := by decide +kernel
theorem d_Y_setTimeout_15 : decode b_Y_setTimeout 15 = .ok (.iadd, 1) := by decide +kernel
theorem d_Y_setTimeout_16 : decode b_Y_setTimeout 16 = .ok (.iastore, 1) := by decide +kernel
theorem d_Y_setTimeout_17 : decode b_Y_setTimeout 17 = .ok (.aload_n 0, 1) := by decide +kernel
theorem d_Y_setTimeout_18 : decode b_Y_setTimeout 18 = .ok (.getfield 73, 3) := by decide +kernel
theorem d_Y_setTimeout_21 : decode b_Y_setTimeout 21 = .ok (.iload_n 1, 1) := by decide +kernel
theorem d_Y_setTimeout_22 : decode b_Y_setTimeout 22 = .ok (.aload_n 0, 1) := by decide +kernel
theorem d_Y_setTimeout_23 : decode b_Y_setTimeout 23 = .ok (.dup, 1) := by decide +kernel
theorem d_Y_setTimeout_24 : decode b_Y_setTimeout 24 = .ok (.getfield 131, 3) := by decide +kernel
theorem d_Y_setTimeout_27 : decode b_Y_setTimeout 27 = .ok (.iconst 1, 1) := by decide +kernel
theorem d_Y_setTimeout_28 : decode b_Y_setTimeout 28 = .ok (.iadd, 1) := by decide +kernel
theorem d_Y_setTimeout_29 : decode b_Y_setTimeout 29 = .ok (.dup_x1, 1) := by decide +kernel
theorem d_Y_setTimeout_30 : decode b_Y_setTimeout 30 = .ok (.putfield 131, 3) := by decide +kernel
theorem d_Y_setTimeout_33 : decode b_Y_setTimeout 33 = .ok (.iastore, 1) := by decide +kernel
theorem d_Y_setTimeout_34 : decode b_Y_setTimeout 34 = .ok (.return_, 1) := by decide +kernel
theorem d_Y_fill_0 : decode b_Y_fill 0 = .ok (.aload_n 0, 1) := by decide +kernel
theorem d_Y_fill_1 : decode b_Y_fill 1 = .ok (.getfield 58, 3) := by decide +kernel
theorem d_Y_fill_4 : decode b_Y_fill 4 = .ok (.iload_n 1, 1) := by decide +kernel
theorem d_Y_fill_5 : decode b_Y_fill 5 = .ok (.iaload, 1) := by decide +kernel
theorem d_Y_fill_6 : decode b_Y_fill 6 = .ok (.aload_n 0, 1) := by decide +kernel
theorem d_Y_fill_7 : decode b_Y_fill 7 = .ok (.getfield 55, 3) := by decide +kernel
theorem d_Y_fill_10 : decode b_Y_fill 10 = .ok (.iload_n 1, 1) := by decide +kernel
theorem d_Y_fill_11 : decode b_Y_fill 11 = .ok (.iaload, 1) := by decide +kernel
theorem d_Y_fill_12 : decode b_Y_fill 12 = .ok (.aload_n 0, 1) := by decide +kernel
theorem d_Y_fill_13 : decode b_Y_fill 13 = .ok (.getfield 46, 3) := by decide +kernel
theorem d_Y_fill_16 : decode b_Y_fill 16 = .ok (.iload_n 1, 1) := by decide +kernel
theorem d_Y_fill_17 : decode b_Y_fill 17 = .ok (.iaload, 1) := by decide +kernel
theorem d_Y_fill_18 : decode b_Y_fill 18 = .ok (.iadd, 1) := by decide +kernel
theorem d_Y_fill_19 : decode b_Y_fill 19 = .ok (.if_icmp .ge 65, 3) := by decide +kernel
theorem d_Y_fill_22 : decode b_Y_fill 22 = .ok (.aload_n 0, 1) := by decide +kernel
theorem d_Y_fill_23 : decode b_Y_fill 23 = .ok (.getfield 58, 3) := by decide +kernel
theorem d_Y_fill_26 : decode b_Y_fill 26 = .ok (.iload_n 1, 1) := by decide +kernel
theorem d_Y_fill_27 : decode b_Y_fill 27 = .ok (.iaload, 1) := by decide +kernel
theorem d_Y_fill_28 : decode b_Y_fill 28 = .ok (.aload_n 0, 1) := by decide +kernel
theorem d_Y_fill_29 : decode b_Y_fill 29 = .ok (.getfield 40, 3) := by decide +kernel
theorem d_Y_fill_32 : decode b_Y_fill 32 = .ok (.iload_n 1, 1) := by decide +kernel
theorem d_Y_fill_33 : decode b_Y_fill 33 = .ok (.iaload, 1) := by decide +kernel
theorem d_Y_fill_34 : decode b_Y_fill 34 = .ok (.if_icmp .ge 50, 3) := by decide +kernel
theorem d_Y_fill_37 : decode b_Y_fill 37 = .ok (.aload_n 0, 1) := by decide +kernel
theorem d_Y_fill_38 : decode b_Y_fill 38 = .ok (.getfield 70, 3) := by decide +kernel
theorem d_Y_fill_41 : decode b_Y_fill 41 = .ok (.iload_n 1, 1) := by decide +kernel
theorem d_Y_fill_42 : decode b_Y_fill 42 = .ok (.iaload, 1) := by decide +kernel
theorem d_Y_fill_43 : decode b_Y_fill 43 = .ok (.iconst (-1), 1) := by decide +kernel
theorem d_Y_fill_44 : decode b_Y_fill 44 = .ok (.if_icmp .ne 8, 3) := by decide +kernel
theorem d_Y_fill_47 : decode b_Y_fill 47 = .ok (.aload_n 0, 1) := by decide +kernel
theorem d_Y_fill_48 : decode b_Y_fill 48 = .ok (.iload_n 1, 1) := by decide +kernel
theorem d_Y_fill_49 : decode b_Y_fill 49 = .ok (.invokevirtual 201, 3) := by decide +kernel
theorem d_Y_fill_52 : decode b_Y_fill 52 = .ok (.aload_n 0, 1) := by decide +kernel
theorem d_Y_fill_53 : decode b_Y_fill 53 = .ok (.getfield 58, 3) := by decide +kernel
theorem d_Y_fill_56 : decode b_Y_fill 56 = .ok (.iload_n 1, 1) := by decide +kernel
theorem d_Y_fill_57 : decode b_Y_fill 57 = .ok (.iaload, 1) := by decide +kernel
theorem d_Y_fill_58 : decode b_Y_fill 58 = .ok (.istore_n 2, 1) := by decide +kernel
theorem d_Y_fill_59 : decode b_Y_fill 59 = .ok (.aload_n 0, 1) := by decide +kernel
theorem d_Y_fill_60 : decode b_Y_fill 60 = .ok (.iload_n 1, 1) := by decide +kernel
theorem d_Y_fill_61 : decode b_Y_fill 61 = .ok (.iload_n 2, 1) := by decide +kernel
theorem d_Y_fill_62 : decode b_Y_fill 62 = .ok (.iconst 0, 1) := by decide +kernel
theorem d_Y_fill_63 : decode b_Y_fill 63 = .ok (.aload_n 0, 1) := by decide +kernel
theorem d_Y_fill_64 : decode b_Y_fill 64 = .ok (.getfield 34, 3) := by decide +kernel
theorem d_Y_fill_67 : decode b_Y_fill 67 = .ok (.iload_n 1, 1) := by decide +kernel
theorem d_Y_fill_68 : decode b_Y_fill 68 = .ok (.iaload, 1) := by decide +kernel
theorem d_Y_fill_69 : decode b_Y_fill 69 = .ok (.invokevirtual 204, 3) := by decide +kernel
theorem d_Y_fill_72 : decode b_Y_fill 72 = .ok (.aload_n 0, 1) := by decide +kernel
theorem d_Y_fill_73 : decode b_Y_fill 73 = .ok (.getfield 58, 3) := by decide +kernel
theorem d_Y_fill_76 : decode b_Y_fill 76 = .ok (.iload_n 1, 1) := by decide +kernel
theorem d_Y_fill_77 : decode b_Y_fill 77 = .ok (.iload_n 2, 1) := by decide +kernel
theorem d_Y_fill_78 : decode b_Y_fill 78 = .ok (.iconst 1, 1) := by decide +kernel
theorem d_Y_fill_79 : decode b_Y_fill 79 = .ok (.iadd, 1) := by decide +kernel
theorem d_Y_fill_80 : decode b_Y_fill 80 = .ok (.iastore, 1) := by decide +kernel
theorem d_Y_fill_81 : decode b_Y_fill 81 = .ok (.goto (-81), 3) := by decide +kernel
theorem d_Y_fill_84 : decode b_Y_fill 84 = .ok (.return_, 1) := by decide +kernel
theorem d_Y_arrive_0 : decode b_Y_arrive 0 = .ok (.aload_n 0, 1) := by decide +kernel
theorem d_Y_arrive_1 : decode b_Y_arrive 1 = .ok (.aload_n 0, 1) := by decide +kernel
theorem d_Y_arrive_2 : decode b_Y_arrive 2 = .ok (.getfield 92, 3) := by decide +kernel
theorem d_Y_arrive_5 : decode b_Y_arrive 5 = .ok (.iload_n 1, 1) := by decide +kernel
theorem d_Y_arrive_6 : decode b_Y_arrive 6 = .ok (.iaload, 1) := by decide +kernel
theorem d_Y_arrive_7 : decode b_Y_arrive 7 = .ok (.invokevirtual 166, 3) := by decide +kernel
theorem d_Y_arrive_10 : decode b_Y_arrive 10 = .ok (.istore_n 2, 1) := by decide +kernel
theorem d_Y_arrive_11 : decode b_Y_arrive 11 = .ok (.iload_n 2, 1) := by decide +kernel
theorem d_Y_arrive_12 : decode b_Y_arrive 12 = .ok (.aload_n 0, 1) := by decide +kernel
theorem d_Y_arrive_13 : decode b_Y_arrive 13 = .ok (.iload_n 1, 1) := by decide +kernel
theorem d_Y_arrive_14 : decode b_Y_arrive 14 = .ok (.invokevirtual 173, 3) := by decide +kernel
theorem d_Y_arrive_17 : decode b_Y_arrive 17 = .ok (.if_icmp .eq 10, 3) := by decide +kernel
theorem d_Y_arrive_20 : decode b_Y_arrive 20 = .ok (.aload_n 0, 1) := by decide +kernel
theorem d_Y_arrive_21 : decode b_Y_arrive 21 = .ok (.iload_n 1, 1) := by decide +kernel
theorem d_Y_arrive_22 : decode b_Y_arrive 22 = .ok (.iload_n 2, 1) := by decide +kernel
theorem d_Y_arrive_23 : decode b_Y_arrive 23 = .ok (.invokevirtual 169, 3) := by decide +kernel
theorem d_Y_arrive_26 : decode b_Y_arrive 26 = .ok (.return_, 1) := by decide +kernel
theorem d_Y_arrive_27 : decode b_Y_arrive 27 = .ok (.aload_n 0, 1) := by decide +kernel
theorem d_Y_arrive_28 : decode b_Y_arrive 28 = .ok (.getfield 82, 3) := by decide +kernel
theorem d_Y_arrive_31 : decode b_Y_arrive 31 = .ok (.iload_n 1, 1) := by decide +kernel
theorem d_Y_arrive_32 : decode b_Y_arrive 32 = .ok (.iaload, 1) := by decide +kernel
theorem d_Y_arrive_33 : decode b_Y_arrive 33 = .ok (.istore_n 3, 1) := by decide +kernel
theorem d_Y_arrive_34 : decode b_Y_arrive 34 = .ok (.aload_n 0, 1) := by decide +kernel
theorem d_Y_arrive_35 : decode b_Y_arrive 35 = .ok (.getfield 85, 3) := by decide +kernel
theorem d_Y_arrive_38 : decode b_Y_arrive 38 = .ok (.iload_n 1, 1) := by decide +kernel
theorem d_Y_arrive_39 : decode b_Y_arrive 39 = .ok (.iaload, 1) := by decide +kernel
theorem d_Y_arrive_40 : decode b_Y_arrive 40 = .ok (.istore 4, 2) := by decide +kernel
theorem d_Y_arrive_42 : decode b_Y_arrive 42 = .ok (.aload_n 0, 1) := by decide +kernel
theorem d_Y_arrive_43 : decode b_Y_arrive 43 = .ok (.getfield 79, 3) := by decide +kernel
theorem d_Y_arrive_46 : decode b_Y_arrive 46 = .ok (.iload_n 1, 1) := by decide +kernel
theorem d_Y_arrive_47 : decode b_Y_arrive 47 = .ok (.iconst 0, 1) := by decide +kernel
theorem d_Y_arrive_48 : decode b_Y_arrive 48 = .ok (.iastore, 1) := by decide +kernel
theorem d_Y_arrive_49 : decode b_Y_arrive 49 = .ok (.aload_n 0, 1) := by decide +kernel
theorem d_Y_arrive_50 : decode b_Y_arrive 50 = .ok (.getfield 76, 3) := by decide +kernel
theorem d_Y_arrive_53 : decode b_Y_arrive 53 = .ok (.iconst 4, 1) := by decide +kernel
theorem d_Y_arrive_54 : decode b_Y_arrive 54 = .ok (.iload_n 3, 1) := by decide +kernel
theorem d_Y_arrive_55 : decode b_Y_arrive 55 = .ok (.imul, 1) := by decide +kernel
theorem d_Y_arrive_56 : decode b_Y_arrive 56 = .ok (.iconst 1, 1) := by decide +kernel
theorem d_Y_arrive_57 : decode b_Y_arrive 57 = .ok (.iadd, 1) := by decide +kernel
theorem d_Y_arrive_58 : decode b_Y_arrive 58 = .ok (.dup2, 1) := by decide +kernel
theorem d_Y_arrive_59 : decode b_Y_arrive 59 = .ok (.iaload, 1) := by decide +kernel
theorem d_Y_arrive_60 : decode b_Y_arrive 60 = .ok (.iconst 1, 1) := by decide +kernel
theorem d_Y_arrive_61 : decode b_Y_arrive 61 = .ok (.iadd, 1) := by decide +kernel
theorem d_Y_arrive_62 : decode b_Y_arrive 62 = .ok (.iastore, 1) := by decide +kernel
theorem d_Y_arrive_63 : decode b_Y_arrive 63 = .ok (.aload_n 0, 1) := by decide +kernel
theorem d_Y_arrive_64 : decode b_Y_arrive 64 = .ok (.getfield 88, 3) := by decide +kernel
theorem d_Y_arrive_67 : decode b_Y_arrive 67 = .ok (.iload_n 1, 1) := by decide +kernel
theorem d_Y_arrive_68 : decode b_Y_arrive 68 = .ok (.baload, 1) := by decide +kernel
theorem d_Y_arrive_69 : decode b_Y_arrive 69 = .ok (.ifCond .ne 49, 3) := by decide +kernel
theorem d_Y_arrive_72 : decode b_Y_arrive 72 = .ok (.aload_n 0, 1) := by decide +kernel
theorem d_Y_arrive_73 : decode b_Y_arrive 73 = .ok (.getfield 61, 3) := by decide +kernel
theorem d_Y_arrive_76 : decode b_Y_arrive 76 = .ok (.iload_n 3, 1) := by decide +kernel
theorem d_Y_arrive_77 : decode b_Y_arrive 77 = .ok (.iload 4, 2) := by decide +kernel
theorem d_Y_arrive_79 : decode b_Y_arrive 79 = .ok (.aload_n 0, 1) := by decide +kernel
theorem d_Y_arrive_80 : decode b_Y_arrive 80 = .ok (.getfield 61, 3) := by decide +kernel
theorem d_Y_arrive_83 : decode b_Y_arrive 83 = .ok (.iload_n 3, 1) := by decide +kernel
theorem d_Y_arrive_84 : decode b_Y_arrive 84 = .ok (.iaload, 1) := by decide +kernel
theorem d_Y_arrive_85 : decode b_Y_arrive 85 = .ok (.if_icmp .ne 10, 3) := by decide +kernel
theorem d_Y_arrive_88 : decode b_Y_arrive 88 = .ok (.iload 4, 2) := by decide +kernel
theorem d_Y_arrive_90 : decode b_Y_arrive 90 = .ok (.iconst 1, 1) := by decide +kernel
theorem d_Y_arrive_91 : decode b_Y_arrive 91 = .ok (.iadd, 1) := by decide +kernel
theorem d_Y_arrive_92 : decode b_Y_arrive 92 = .ok (.goto 9, 3) := by decide +kernel
theorem d_Y_arrive_95 : decode b_Y_arrive 95 = .ok (.aload_n 0, 1) := by decide +kernel
theorem d_Y_arrive_96 : decode b_Y_arrive 96 = .ok (.getfield 61, 3) := by decide +kernel
theorem d_Y_arrive_99 : decode b_Y_arrive 99 = .ok (.iload_n 3, 1) := by decide +kernel
theorem d_Y_arrive_100 : decode b_Y_arrive 100 = .ok (.iaload, 1) := by decide +kernel
theorem d_Y_arrive_101 : decode b_Y_arrive 101 = .ok (.iastore, 1) := by decide +kernel
theorem d_Y_arrive_102 : decode b_Y_arrive 102 = .ok (.aload_n 0, 1) := by decide +kernel
theorem d_Y_arrive_103 : decode b_Y_arrive 103 = .ok (.iload_n 3, 1) := by decide +kernel
theorem d_Y_arrive_104 : decode b_Y_arrive 104 = .ok (.aload_n 0, 1) := by decide +kernel
theorem d_Y_arrive_105 : decode b_Y_arrive 105 = .ok (.getfield 61, 3) := by decide +kernel
theorem d_Y_arrive_108 : decode b_Y_arrive 108 = .ok (.iload_n 3, 1) := by decide +kernel
theorem d_Y_arrive_109 : decode b_Y_arrive 109 = .ok (.iaload, 1) := by decide +kernel
theorem d_Y_arrive_110 : decode b_Y_arrive 110 = .ok (.iconst 1, 1) := by decide +kernel
theorem d_Y_arrive_111 : decode b_Y_arrive 111 = .ok (.iload_n 2, 1) := by decide +kernel
theorem d_Y_arrive_112 : decode b_Y_arrive 112 = .ok (.invokevirtual 204, 3) := by decide +kernel
theorem d_Y_arrive_115 : decode b_Y_arrive 115 = .ok (.goto 82, 3) := by decide +kernel
theorem d_Y_arrive_118 : decode b_Y_arrive 118 = .ok (.iload 4, 2) := by decide +kernel
theorem d_Y_arrive_120 : decode b_Y_arrive 120 = .ok (.aload_n 0, 1) := by decide +kernel
theorem d_Y_arrive_121 : decode b_Y_arrive 121 = .ok (.getfield 55, 3) := by decide +kernel
theorem d_Y_arrive_124 : decode b_Y_arrive 124 = .ok (.iload_n 3, 1) := by decide +kernel
theorem d_Y_arrive_125 : decode b_Y_arrive 125 = .ok (.iaload, 1) := by decide +kernel
theorem d_Y_arrive_126 : decode b_Y_arrive 126 = .ok (.if_icmp .le 71, 3) := by decide +kernel
theorem d_Y_arrive_129 : decode b_Y_arrive 129 = .ok (.aload_n 0, 1) := by decide +kernel
theorem d_Y_arrive_130 : decode b_Y_arrive 130 = .ok (.getfield 55, 3) := by decide +kernel
theorem d_Y_arrive_133 : decode b_Y_arrive 133 = .ok (.iload_n 3, 1) := by decide +kernel
theorem d_Y_arrive_134 : decode b_Y_arrive 134 = .ok (.iload 4, 2) := by decide +kernel
theorem d_Y_arrive_136 : decode b_Y_arrive 136 = .ok (.iastore, 1) := by decide +kernel
theorem d_Y_arrive_137 : decode b_Y_arrive 137 = .ok (.aload_n 0, 1) := by decide +kernel
theorem d_Y_arrive_138 : decode b_Y_arrive 138 = .ok (.getfield 58, 3) := by decide +kernel
theorem d_Y_arrive_141 : decode b_Y_arrive 141 = .ok (.iload_n 3, 1) := by decide +kernel
theorem d_Y_arrive_142 : decode b_Y_arrive 142 = .ok (.aload_n 0, 1) := by decide +kernel
theorem d_Y_arrive_143 : decode b_Y_arrive 143 = .ok (.getfield 58, 3) := by decide +kernel
theorem d_Y_arrive_146 : decode b_Y_arrive 146 = .ok (.iload_n 3, 1) := by decide +kernel
theorem d_Y_arrive_147 : decode b_Y_arrive 147 = .ok (.iaload, 1) := by decide +kernel
theorem d_Y_arrive_148 : decode b_Y_arrive 148 = .ok (.iload 4, 2) := by decide +kernel
theorem d_Y_arrive_150 : decode b_Y_arrive 150 = .ok (.if_icmp .ge 8, 3) := by decide +kernel
theorem d_Y_arrive_153 : decode b_Y_arrive 153 = .ok (.iload 4, 2) := by decide +kernel
theorem d_Y_arrive_155 : decode b_Y_arrive 155 = .ok (.goto 9, 3) := by decide +kernel
theorem d_Y_arrive_158 : decode b_Y_arrive 158 = .ok (.aload_n 0, 1) := by decide +kernel
theorem d_Y_arrive_159 : decode b_Y_arrive 159 = .ok (.getfield 58, 3) := by decide +kernel
theorem d_Y_arrive_162 : decode b_Y_arrive 162 = .ok (.iload_n 3, 1) := by decide +kernel
theorem d_Y_arrive_163 : decode b_Y_arrive 163 = .ok (.iaload, 1) := by decide +kernel
theorem d_Y_arrive_164 : decode b_Y_arrive 164 = .ok (.iastore, 1) := by decide +kernel
theorem d_Y_arrive_165 : decode b_Y_arrive 165 = .ok (.aload_n 0, 1) := by decide +kernel
theorem d_Y_arrive_166 : decode b_Y_arrive 166 = .ok (.getfield 70, 3) := by decide +kernel
theorem d_Y_arrive_169 : decode b_Y_arrive 169 = .ok (.iload_n 3, 1) := by decide +kernel
theorem d_Y_arrive_170 : decode b_Y_arrive 170 = .ok (.iconst (-1), 1) := by decide +kernel
theorem d_Y_arrive_171 : decode b_Y_arrive 171 = .ok (.iastore, 1) := by decide +kernel
theorem d_Y_arrive_172 : decode b_Y_arrive 172 = .ok (.aload_n 0, 1) := by decide +kernel
theorem d_Y_arrive_173 : decode b_Y_arrive 173 = .ok (.getfield 55, 3) := by decide +kernel
theorem d_Y_arrive_176 : decode b_Y_arrive 176 = .ok (.iload_n 3, 1) := by decide +kernel
theorem d_Y_arrive_177 : decode b_Y_arrive 177 = .ok (.iaload, 1) := by decide +kernel
theorem d_Y_arrive_178 : decode b_Y_arrive 178 = .ok (.aload_n 0, 1) := by decide +kernel
theorem d_Y_arrive_179 : decode b_Y_arrive 179 = .ok (.getfield 58, 3) := by decide +kernel
theorem d_Y_arrive_182 : decode b_Y_arrive 182 = .ok (.iload_n 3, 1) := by decide +kernel
theorem d_Y_arrive_183 : decode b_Y_arrive 183 = .ok (.iaload, 1) := by decide +kernel
theorem d_Y_arrive_184 : decode b_Y_arrive 184 = .ok (.if_icmp .ge 8, 3) := by decide +kernel
theorem d_Y_arrive_187 : decode b_Y_arrive 187 = .ok (.aload_n 0, 1) := by decide +kernel
theorem d_Y_arrive_188 : decode b_Y_arrive 188 = .ok (.iload_n 3, 1) := by decide +kernel
theorem d_Y_arrive_189 : decode b_Y_arrive 189 = .ok (.invokevirtual 201, 3) := by decide +kernel
theorem d_Y_arrive_192 : decode b_Y_arrive 192 = .ok (.aload_n 0, 1) := by decide +kernel
theorem d_Y_arrive_193 : decode b_Y_arrive 193 = .ok (.iload_n 3, 1) := by decide +kernel
theorem d_Y_arrive_194 : decode b_Y_arrive 194 = .ok (.invokevirtual 208, 3) := by decide +kernel
theorem d_Y_arrive_197 : decode b_Y_arrive 197 = .ok (.return_, 1) := by decide +kernel
theorem d_Y_begin_0 : decode b_Y_begin 0 = .ok (.aload_n 0, 1) := by decide +kernel
theorem d_Y_begin_1 : decode b_Y_begin 1 = .ok (.getfield 124, 3) := by decide +kernel
theorem d_Y_begin_4 : decode b_Y_begin 4 = .ok (.ifCond .eq 4, 3) := by decide +kernel
theorem d_Y_begin_7 : decode b_Y_begin 7 = .ok (.return_, 1) := by decide +kernel
theorem d_Y_begin_8 : decode b_Y_begin 8 = .ok (.aload_n 0, 1) := by decide +kernel
theorem d_Y_begin_9 : decode b_Y_begin 9 = .ok (.iconst 1, 1) := by decide +kernel
theorem d_Y_begin_10 : decode b_Y_begin 10 = .ok (.putfield 124, 3) := by decide +kernel
theorem d_Y_begin_13 : decode b_Y_begin 13 = .ok (.iconst 0, 1) := by decide +kernel
theorem d_Y_begin_14 : decode b_Y_begin 14 = .ok (.istore_n 1, 1) := by decide +kernel
theorem d_Y_begin_15 : decode b_Y_begin 15 = .ok (.iload_n 1, 1) := by decide +kernel
theorem d_Y_begin_16 : decode b_Y_begin 16 = .ok (.aload_n 0, 1) := by decide +kernel
theorem d_Y_begin_17 : decode b_Y_begin 17 = .ok (.getfield 121, 3) := by decide +kernel
theorem d_Y_begin_20 : decode b_Y_begin 20 = .ok (.if_icmp .ge 38, 3) := by decide +kernel
theorem d_Y_begin_23 : decode b_Y_begin 23 = .ok (.aload_n 0, 1) := by decide +kernel
theorem d_Y_begin_24 : decode b_Y_begin 24 = .ok (.getfield 64, 3) := by decide +kernel
theorem d_Y_begin_27 : decode b_Y_begin 27 = .ok (.iload_n 1, 1) := by decide +kernel
theorem d_Y_begin_28 : decode b_Y_begin 28 = .ok (.aload_n 0, 1) := by decide +kernel
theorem d_Y_begin_29 : decode b_Y_begin 29 = .ok (.getfield 52, 3) := by decide +kernel
theorem d_Y_begin_32 : decode b_Y_begin 32 = .ok (.iload_n 1, 1) := by decide +kernel
theorem d_Y_begin_33 : decode b_Y_begin 33 = .ok (.iaload, 1) := by decide +kernel
theorem d_Y_begin_34 : decode b_Y_begin 34 = .ok (.iastore, 1) := by decide +kernel
theorem d_Y_begin_35 : decode b_Y_begin 35 = .ok (.aload_n 0, 1) := by decide +kernel
theorem d_Y_begin_36 : decode b_Y_begin 36 = .ok (.getfield 67, 3) := by decide +kernel
theorem d_Y_begin_39 : decode b_Y_begin 39 = .ok (.iload_n 1, 1) := by decide +kernel
theorem d_Y_begin_40 : decode b_Y_begin 40 = .ok (.aload_n 0, 1) := by decide +kernel
theorem d_Y_begin_41 : decode b_Y_begin 41 = .ok (.dup, 1) := by decide +kernel
theorem d_Y_begin_42 : decode b_Y_begin 42 = .ok (.getfield 131, 3) := by decide +kernel
theorem d_Y_begin_45 : decode b_Y_begin 45 = .ok (.iconst 1, 1) := by decide +kernel
theorem d_Y_begin_46 : decode b_Y_begin 46 = .ok (.iadd, 1) := by decide +kernel
theorem d_Y_begin_47 : decode b_Y_begin 47 = .ok (.dup_x1, 1) := by decide +kernel
theorem d_Y_begin_48 : decode b_Y_begin 48 = .ok (.putfield 131, 3) := by decide +kernel
theorem d_Y_begin_51 : decode b_Y_begin 51 = .ok (.iastore, 1) := by decide +kernel
theorem d_Y_begin_52 : decode b_Y_begin 52 = .ok (.iinc 1 1, 3) := by decide +kernel
theorem d_Y_begin_55 : decode b_Y_begin 55 = .ok (.goto (-40), 3) := by decide +kernel
theorem d_Y_begin_58 : decode b_Y_begin 58 = .ok (.return_, 1) := by decide +kernel
theorem d_Y_note_0 : decode b_Y_note 0 = .ok (.aload_n 0, 1) := by decide +kernel
theorem d_Y_note_1 : decode b_Y_note 1 = .ok (.getfield 110, 3) := by decide +kernel
theorem d_Y_note_4 : decode b_Y_note 4 = .ok (.aload_n 0, 1) := by decide +kernel
theorem d_Y_note_5 : decode b_Y_note 5 = .ok (.getfield 134, 3) := by decide +kernel
theorem d_Y_note_8 : decode b_Y_note 8 = .ok (.bipush 16, 2) := by decide +kernel
theorem d_Y_note_10 : decode b_Y_note 10 = .ok (.irem, 1) := by decide +kernel
theorem d_Y_note_11 : decode b_Y_note 11 = .ok (.aload_n 0, 1) := by decide +kernel
theorem d_Y_note_12 : decode b_Y_note 12 = .ok (.getfield 128, 3) := by decide +kernel
theorem d_Y_note_15 : decode b_Y_note 15 = .ok (.i2l, 1) := by decide +kernel
theorem d_Y_note_16 : decode b_Y_note 16 = .ok (.ldc2_w 211, 3) := by decide +kernel
theorem d_Y_note_19 : decode b_Y_note 19 = .ok (.lmul, 1) := by decide +kernel
theorem d_Y_note_20 : decode b_Y_note 20 = .ok (.iload_n 1, 1) := by decide +kernel
theorem d_Y_note_21 : decode b_Y_note 21 = .ok (.i2l, 1) := by decide +kernel
theorem d_Y_note_22 : decode b_Y_note 22 = .ok (.ldc2_w 213, 3) := by decide +kernel
theorem d_Y_note_25 : decode b_Y_note 25 = .ok (.lmul, 1) := by decide +kernel
theorem d_Y_note_26 : decode b_Y_note 26 = .ok (.ladd, 1) := by decide +kernel
theorem d_Y_note_27 : decode b_Y_note 27 = .ok (.iload_n 2, 1) := by decide +kernel
theorem d_Y_note_28 : decode b_Y_note 28 = .ok (.i2l, 1) := by decide +kernel
theorem d_Y_note_29 : decode b_Y_note 29 = .ok (.ldc2_w 215, 3) := by decide +kernel
theorem d_Y_note_32 : decode b_Y_note 32 = .ok (.lmul, 1) := by decide +kernel
theorem d_Y_note_33 : decode b_Y_note 33 = .ok (.ladd, 1) := by decide +kernel
theorem d_Y_note_34 : decode b_Y_note 34 = .ok (.iload_n 3, 1) := by decide +kernel
theorem d_Y_note_35 : decode b_Y_note 35 = .ok (.i2l, 1) := by decide +kernel
theorem d_Y_note_36 : decode b_Y_note 36 = .ok (.ladd, 1) := by decide +kernel
theorem d_Y_note_37 : decode b_Y_note 37 = .ok (.lastore, 1) := by decide +kernel
theorem d_Y_note_38 : decode b_Y_note 38 = .ok (.aload_n 0, 1) := by decide +kernel
theorem d_Y_note_39 : decode b_Y_note 39 = .ok (.dup, 1) := by decide +kernel
theorem d_Y_note_40 : decode b_Y_note 40 = .ok (.getfield 134, 3) := by decide +kernel
theorem d_Y_note_43 : decode b_Y_note 43 = .ok (.iconst 1, 1) := by decide +kernel
theorem d_Y_note_44 : decode b_Y_note 44 = .ok (.iadd, 1) := by decide +kernel
theorem d_Y_note_45 : decode b_Y_note 45 = .ok (.putfield 134, 3) := by decide +kernel
theorem d_Y_note_48 : decode b_Y_note 48 = .ok (.return_, 1) := by decide +kernel
theorem d_Y_sooner_0 : decode b_Y_sooner 0 = .ok (.iload_n 2, 1) := by decide +kernel
theorem d_Y_sooner_1 : decode b_Y_sooner 1 = .ok (.i2l, 1) := by decide +kernel
theorem d_Y_sooner_2 : decode b_Y_sooner 2 = .ok (.ldc2_w 221, 3) := by decide +kernel
theorem d_Y_sooner_5 : decode b_Y_sooner 5 = .ok (.lmul, 1) := by decide +kernel
theorem d_Y_sooner_6 : decode b_Y_sooner 6 = .ok (.iload_n 3, 1) := by decide +kernel
theorem d_Y_sooner_7 : decode b_Y_sooner 7 = .ok (.i2l, 1) := by decide +kernel
theorem d_Y_sooner_8 : decode b_Y_sooner 8 = .ok (.ladd, 1) := by decide +kernel
theorem d_Y_sooner_9 : decode b_Y_sooner 9 = .ok (.lstore 4, 2) := by decide +kernel
theorem d_Y_sooner_11 : decode b_Y_sooner 11 = .ok (.lload_n 0, 1) := by decide +kernel
theorem d_Y_sooner_12 : decode b_Y_sooner 12 = .ok (.lconst 0, 1) := by decide +kernel
theorem d_Y_sooner_13 : decode b_Y_sooner 13 = .ok (.lcmp, 1) := by decide +kernel
theorem d_Y_sooner_14 : decode b_Y_sooner 14 = .ok (.ifCond .eq 10, 3) := by decide +kernel
theorem d_Y_sooner_17 : decode b_Y_sooner 17 = .ok (.lload 4, 2) := by decide +kernel
theorem d_Y_sooner_19 : decode b_Y_sooner 19 = .ok (.lload_n 0, 1) := by decide +kernel
theorem d_Y_sooner_20 : decode b_Y_sooner 20 = .ok (.lcmp, 1) := by decide +kernel
theorem d_Y_sooner_21 : decode b_Y_sooner 21 = .ok (.ifCond .ge 8, 3) := by decide +kernel
theorem d_Y_sooner_24 : decode b_Y_sooner 24 = .ok (.lload 4, 2) := by decide +kernel
theorem d_Y_sooner_26 : decode b_Y_sooner 26 = .ok (.goto 4, 3) := by decide +kernel
theorem d_Y_sooner_29 : decode b_Y_sooner 29 = .ok (.lload_n 0, 1) := by decide +kernel
theorem d_Y_sooner_30 : decode b_Y_sooner 30 = .ok (.lreturn, 1) := by decide +kernel
theorem d_Y_soonest_0 : decode b_Y_soonest 0 = .ok (.lconst 0, 1) := by decide +kernel
theorem d_Y_soonest_1 : decode b_Y_soonest 1 = .ok (.lstore_n 1, 1) := by decide +kernel
theorem d_Y_soonest_2 : decode b_Y_soonest 2 = .ok (.iconst 0, 1) := by decide +kernel
theorem d_Y_soonest_3 : decode b_Y_soonest 3 = .ok (.istore_n 3, 1) := by decide +kernel
theorem d_Y_soonest_4 : decode b_Y_soonest 4 = .ok (.iload_n 3, 1) := by decide +kernel
theorem d_Y_soonest_5 : decode b_Y_soonest 5 = .ok (.bipush 64, 2) := by decide +kernel
theorem d_Y_soonest_7 : decode b_Y_soonest 7 = .ok (.if_icmp .ge 36, 3) := by decide +kernel
theorem d_Y_soonest_10 : decode b_Y_soonest 10 = .ok (.aload_n 0, 1) := by decide +kernel
theorem d_Y_soonest_11 : decode b_Y_soonest 11 = .ok (.getfield 79, 3) := by decide +kernel
theorem d_Y_soonest_14 : decode b_Y_soonest 14 = .ok (.iload_n 3, 1) := by decide +kernel
theorem d_Y_soonest_15 : decode b_Y_soonest 15 = .ok (.iaload, 1) := by decide +kernel
theorem d_Y_soonest_16 : decode b_Y_soonest 16 = .ok (.iconst 2, 1) := by decide +kernel
theorem d_Y_soonest_17 : decode b_Y_soonest 17 = .ok (.if_icmp .lt 20, 3) := by decide +kernel
theorem d_Y_soonest_20 : decode b_Y_soonest 20 = .ok (.lload_n 1, 1) := by decide +kernel
theorem d_Y_soonest_21 : decode b_Y_soonest 21 = .ok (.aload_n 0, 1) := by decide +kernel
theorem d_Y_soonest_22 : decode b_Y_soonest 22 = .ok (.getfield 95, 3) := by decide +kernel
theorem d_Y_soonest_25 : decode b_Y_soonest 25 = .ok (.iload_n 3, 1) := by decide +kernel
theorem d_Y_soonest_26 : decode b_Y_soonest 26 = .ok (.iaload, 1) := by decide +kernel
theorem d_Y_soonest_27 : decode b_Y_soonest 27 = .ok (.aload_n 0, 1) := by decide +kernel
theorem d_Y_soonest_28 : decode b_Y_soonest 28 = .ok (.getfield 98, 3) := by decide +kernel
theorem d_Y_soonest_31 : decode b_Y_soonest 31 = .ok (.iload_n 3, 1) := by decide +kernel
theorem d_Y_soonest_32 : decode b_Y_soonest 32 = .ok (.iaload, 1) := by decide +kernel
theorem d_Y_soonest_33 : decode b_Y_soonest 33 = .ok (.invokestatic 217, 3) := by decide +kernel
theorem d_Y_soonest_36 : decode b_Y_soonest 36 = .ok (.lstore_n 1, 1) := by decide +kernel
theorem d_Y_soonest_37 : decode b_Y_soonest 37 = .ok (.iinc 3 1, 3) := by decide +kernel
theorem d_Y_soonest_40 : decode b_Y_soonest 40 = .ok (.goto (-36), 3) := by decide +kernel
theorem d_Y_soonest_43 : decode b_Y_soonest 43 = .ok (.iconst 0, 1) := by decide +kernel
theorem d_Y_soonest_44 : decode b_Y_soonest 44 = .ok (.istore_n 3, 1) := by decide +kernel
theorem d_Y_soonest_45 : decode b_Y_soonest 45 = .ok (.iload_n 3, 1) := by decide +kernel
theorem d_Y_soonest_46 : decode b_Y_soonest 46 = .ok (.aload_n 0, 1) := by decide +kernel
theorem d_Y_soonest_47 : decode b_Y_soonest 47 = .ok (.getfield 121, 3) := by decide +kernel
theorem d_Y_soonest_50 : decode b_Y_soonest 50 = .ok (.if_icmp .ge 63, 3) := by decide +kernel
theorem d_Y_soonest_53 : decode b_Y_soonest 53 = .ok (.aload_n 0, 1) := by decide +kernel
theorem d_Y_soonest_54 : decode b_Y_soonest 54 = .ok (.getfield 64, 3) := by decide +kernel
theorem d_Y_soonest_57 : decode b_Y_soonest 57 = .ok (.iload_n 3, 1) := by decide +kernel
theorem d_Y_soonest_58 : decode b_Y_soonest 58 = .ok (.iaload, 1) := by decide +kernel
theorem d_Y_soonest_59 : decode b_Y_soonest 59 = .ok (.iconst (-1), 1) := by decide +kernel
theorem d_Y_soonest_60 : decode b_Y_soonest 60 = .ok (.if_icmp .eq 20, 3) := by decide +kernel
theorem d_Y_soonest_63 : decode b_Y_soonest 63 = .ok (.lload_n 1, 1) := by decide +kernel
theorem d_Y_soonest_64 : decode b_Y_soonest 64 = .ok (.aload_n 0, 1) := by decide +kernel
theorem d_Y_soonest_65 : decode b_Y_soonest 65 = .ok (.getfield 64, 3) := by decide +kernel
theorem d_Y_soonest_68 : decode b_Y_soonest 68 = .ok (.iload_n 3, 1) := by decide +kernel
theorem d_Y_soonest_69 : decode b_Y_soonest 69 = .ok (.iaload, 1) := by decide +kernel
theorem d_Y_soonest_70 : decode b_Y_soonest 70 = .ok (.aload_n 0, 1) := by decide +kernel
theorem d_Y_soonest_71 : decode b_Y_soonest 71 = .ok (.getfield 67, 3) := by decide +kernel
theorem d_Y_soonest_74 : decode b_Y_soonest 74 = .ok (.iload_n 3, 1) := by decide +kernel
theorem d_Y_soonest_75 : decode b_Y_soonest 75 = .ok (.iaload, 1) := by decide +kernel
theorem d_Y_soonest_76 : decode b_Y_soonest 76 = .ok (.invokestatic 217, 3) := by decide +kernel
theorem d_Y_soonest_79 : decode b_Y_soonest 79 = .ok (.lstore_n 1, 1) := by decide +kernel
theorem d_Y_soonest_80 : decode b_Y_soonest 80 = .ok (.aload_n 0, 1) := by decide +kernel
theorem d_Y_soonest_81 : decode b_Y_soonest 81 = .ok (.getfield 70, 3) := by decide +kernel
theorem d_Y_soonest_84 : decode b_Y_soonest 84 = .ok (.iload_n 3, 1) := by decide +kernel
theorem d_Y_soonest_85 : decode b_Y_soonest 85 = .ok (.iaload, 1) := by decide +kernel
theorem d_Y_soonest_86 : decode b_Y_soonest 86 = .ok (.iconst (-1), 1) := by decide +kernel
theorem d_Y_soonest_87 : decode b_Y_soonest 87 = .ok (.if_icmp .eq 20, 3) := by decide +kernel
theorem d_Y_soonest_90 : decode b_Y_soonest 90 = .ok (.lload_n 1, 1) := by decide +kernel
theorem d_Y_soonest_91 : decode b_Y_soonest 91 = .ok (.aload_n 0, 1) := by decide +kernel
theorem d_Y_soonest_92 : decode b_Y_soonest 92 = .ok (.getfield 70, 3) := by decide +kernel
theorem d_Y_soonest_95 : decode b_Y_soonest 95 = .ok (.iload_n 3, 1) := by decide +kernel
theorem d_Y_soonest_96 : decode b_Y_soonest 96 = .ok (.iaload, 1) := by decide +kernel
theorem d_Y_soonest_97 : decode b_Y_soonest 97 = .ok (.aload_n 0, 1) := by decide +kernel
theorem d_Y_soonest_98 : decode b_Y_soonest 98 = .ok (.getfield 73, 3) := by decide +kernel
theorem d_Y_soonest_101 : decode b_Y_soonest 101 = .ok (.iload_n 3, 1) := by decide +kernel
theorem d_Y_soonest_102 : decode b_Y_soonest 102 = .ok (.iaload, 1) := by decide +kernel
theorem d_Y_soonest_103 : decode b_Y_soonest 103 = .ok (.invokestatic 217, 3) := by decide +kernel
theorem d_Y_soonest_106 : decode b_Y_soonest 106 = .ok (.lstore_n 1, 1) := by decide +kernel
theorem d_Y_soonest_107 : decode b_Y_soonest 107 = .ok (.iinc 3 1, 3) := by decide +kernel
theorem d_Y_soonest_110 : decode b_Y_soonest 110 = .ok (.goto (-65), 3) := by decide +kernel
theorem d_Y_soonest_113 : decode b_Y_soonest 113 = .ok (.lload_n 1, 1) := by decide +kernel
theorem d_Y_soonest_114 : decode b_Y_soonest 114 = .ok (.lreturn, 1) := by decide +kernel
theorem d_Y_moved_0 : decode b_Y_moved 0 = .ok (.aload_n 0, 1) := by decide +kernel
theorem d_Y_moved_1 : decode b_Y_moved 1 = .ok (.getfield 88, 3) := by decide +kernel
theorem d_Y_moved_4 : decode b_Y_moved 4 = .ok (.iload_n 1, 1) := by decide +kernel
theorem d_Y_moved_5 : decode b_Y_moved 5 = .ok (.baload, 1) := by decide +kernel
theorem d_Y_moved_6 : decode b_Y_moved 6 = .ok (.ifCond .eq 16, 3) := by decide +kernel
theorem d_Y_moved_9 : decode b_Y_moved 9 = .ok (.aload_n 0, 1) := by decide +kernel
theorem d_Y_moved_10 : decode b_Y_moved 10 = .ok (.getfield 85, 3) := by decide +kernel
theorem d_Y_moved_13 : decode b_Y_moved 13 = .ok (.iload_n 1, 1) := by decide +kernel
theorem d_Y_moved_14 : decode b_Y_moved 14 = .ok (.iaload, 1) := by decide +kernel
theorem d_Y_moved_15 : decode b_Y_moved 15 = .ok (.sipush 128, 3) := by decide +kernel
theorem d_Y_moved_18 : decode b_Y_moved 18 = .ok (.iadd, 1) := by decide +kernel
theorem d_Y_moved_19 : decode b_Y_moved 19 = .ok (.goto 9, 3) := by decide +kernel
theorem d_Y_moved_22 : decode b_Y_moved 22 = .ok (.aload_n 0, 1) := by decide +kernel
theorem d_Y_moved_23 : decode b_Y_moved 23 = .ok (.getfield 85, 3) := by decide +kernel
theorem d_Y_moved_26 : decode b_Y_moved 26 = .ok (.iload_n 1, 1) := by decide +kernel
theorem d_Y_moved_27 : decode b_Y_moved 27 = .ok (.iaload, 1) := by decide +kernel
theorem d_Y_moved_28 : decode b_Y_moved 28 = .ok (.istore_n 2, 1) := by decide +kernel
theorem d_Y_moved_29 : decode b_Y_moved 29 = .ok (.aload_n 0, 1) := by decide +kernel
theorem d_Y_moved_30 : decode b_Y_moved 30 = .ok (.getfield 92, 3) := by decide +kernel
theorem d_Y_moved_33 : decode b_Y_moved 33 = .ok (.iload_n 1, 1) := by decide +kernel
theorem d_Y_moved_34 : decode b_Y_moved 34 = .ok (.iaload, 1) := by decide +kernel
theorem d_Y_moved_35 : decode b_Y_moved 35 = .ok (.istore_n 3, 1) := by decide +kernel
theorem d_Y_moved_36 : decode b_Y_moved 36 = .ok (.aload_n 0, 1) := by decide +kernel
theorem d_Y_moved_37 : decode b_Y_moved 37 = .ok (.getfield 79, 3) := by decide +kernel
theorem d_Y_moved_40 : decode b_Y_moved 40 = .ok (.iload_n 1, 1) := by decide +kernel
theorem d_Y_moved_41 : decode b_Y_moved 41 = .ok (.iaload, 1) := by decide +kernel
theorem d_Y_moved_42 : decode b_Y_moved 42 = .ok (.iconst 3, 1) := by decide +kernel
theorem d_Y_moved_43 : decode b_Y_moved 43 = .ok (.if_icmp .ne 20, 3) := by decide +kernel
theorem d_Y_moved_46 : decode b_Y_moved 46 = .ok (.aload_n 0, 1) := by decide +kernel
theorem d_Y_moved_47 : decode b_Y_moved 47 = .ok (.iconst 3, 1) := by decide +kernel
theorem d_Y_moved_48 : decode b_Y_moved 48 = .ok (.aload_n 0, 1) := by decide +kernel
theorem d_Y_moved_49 : decode b_Y_moved 49 = .ok (.iload_n 3, 1) := by decide +kernel
theorem d_Y_moved_50 : decode b_Y_moved 50 = .ok (.invokevirtual 166, 3) := by decide +kernel
theorem d_Y_moved_53 : decode b_Y_moved 53 = .ok (.iload_n 2, 1) := by decide +kernel
theorem d_Y_moved_54 : decode b_Y_moved 54 = .ok (.invokevirtual 230, 3) := by decide +kernel
theorem d_Y_moved_57 : decode b_Y_moved 57 = .ok (.aload_n 0, 1) := by decide +kernel
theorem d_Y_moved_58 : decode b_Y_moved 58 = .ok (.iload_n 1, 1) := by decide +kernel
theorem d_Y_moved_59 : decode b_Y_moved 59 = .ok (.invokevirtual 237, 3) := by decide +kernel
theorem d_Y_moved_62 : decode b_Y_moved 62 = .ok (.return_, 1) := by decide +kernel
theorem d_Y_moved_63 : decode b_Y_moved 63 = .ok (.aload_n 0, 1) := by decide +kernel
theorem d_Y_moved_64 : decode b_Y_moved 64 = .ok (.iconst 2, 1) := by decide +kernel
theorem d_Y_moved_65 : decode b_Y_moved 65 = .ok (.iload_n 3, 1) := by decide +kernel
theorem d_Y_moved_66 : decode b_Y_moved 66 = .ok (.iload_n 2, 1) := by decide +kernel
theorem d_Y_moved_67 : decode b_Y_moved 67 = .ok (.invokevirtual 230, 3) := by decide +kernel
theorem d_Y_moved_70 : decode b_Y_moved 70 = .ok (.aload_n 0, 1) := by decide +kernel
theorem d_Y_moved_71 : decode b_Y_moved 71 = .ok (.getfield 79, 3) := by decide +kernel
theorem d_Y_moved_74 : decode b_Y_moved 74 = .ok (.iload_n 1, 1) := by decide +kernel
theorem d_Y_moved_75 : decode b_Y_moved 75 = .ok (.iconst 3, 1) := by decide +kernel
theorem d_Y_moved_76 : decode b_Y_moved 76 = .ok (.iastore, 1) := by decide +kernel
theorem d_Y_moved_77 : decode b_Y_moved 77 = .ok (.aload_n 0, 1) := by decide +kernel
theorem d_Y_moved_78 : decode b_Y_moved 78 = .ok (.getfield 95, 3) := by decide +kernel
theorem d_Y_moved_81 : decode b_Y_moved 81 = .ok (.iload_n 1, 1) := by decide +kernel
theorem d_Y_moved_82 : decode b_Y_moved 82 = .ok (.aload_n 0, 1) := by decide +kernel
theorem d_Y_moved_83 : decode b_Y_moved 83 = .ok (.getfield 128, 3) := by decide +kernel
theorem d_Y_moved_86 : decode b_Y_moved 86 = .ok (.aload_n 0, 1) := by decide +kernel
theorem d_Y_moved_87 : decode b_Y_moved 87 = .ok (.getfield 22, 3) := by decide +kernel
theorem d_Y_moved_90 : decode b_Y_moved 90 = .ok (.iload_n 3, 1) := by decide +kernel
theorem d_Y_moved_91 : decode b_Y_moved 91 = .ok (.iconst 2, 1) := by decide +kernel
theorem d_Y_moved_92 : decode b_Y_moved 92 = .ok (.idiv, 1) := by decide +kernel
theorem d_Y_moved_93 : decode b_Y_moved 93 = .ok (.iaload, 1) := by decide +kernel
theorem d_Y_moved_94 : decode b_Y_moved 94 = .ok (.iadd, 1) := by decide +kernel
theorem d_Y_moved_95 : decode b_Y_moved 95 = .ok (.iastore, 1) := by decide +kernel
theorem d_Y_moved_96 : decode b_Y_moved 96 = .ok (.aload_n 0, 1) := by decide +kernel
theorem d_Y_moved_97 : decode b_Y_moved 97 = .ok (.getfield 98, 3) := by decide +kernel
theorem d_Y_moved_100 : decode b_Y_moved 100 = .ok (.iload_n 1, 1) := by decide +kernel
theorem d_Y_moved_101 : decode b_Y_moved 101 = .ok (.aload_n 0, 1) := by decide +kernel
theorem d_Y_moved_102 : decode b_Y_moved 102 = .ok (.dup, 1) := by decide +kernel
theorem d_Y_moved_103 : decode b_Y_moved 103 = .ok (.getfield 131, 3) := by decide +kernel
theorem d_Y_moved_106 : decode b_Y_moved 106 = .ok (.iconst 1, 1) := by decide +kernel
theorem d_Y_moved_107 : decode b_Y_moved 107 = .ok (.iadd, 1) := by decide +kernel
theorem d_Y_moved_108 : decode b_Y_moved 108 = .ok (.dup_x1, 1) := by decide +kernel
theorem d_Y_moved_109 : decode b_Y_moved 109 = .ok (.putfield 131, 3) := by decide +kernel
theorem d_Y_moved_112 : decode b_Y_moved 112 = .ok (.iastore, 1) := by decide +kernel
theorem d_Y_moved_113 : decode b_Y_moved 113 = .ok (.aload_n 0, 1) := by decide +kernel
theorem d_Y_moved_114 : decode b_Y_moved 114 = .ok (.iload_n 3, 1) := by decide +kernel
theorem d_Y_moved_115 : decode b_Y_moved 115 = .ok (.iconst (-1), 1) := by decide +kernel
theorem d_Y_moved_116 : decode b_Y_moved 116 = .ok (.invokevirtual 179, 3) := by decide +kernel
theorem d_Y_moved_119 : decode b_Y_moved 119 = .ok (.ifCond .le 8, 3) := by decide +kernel
theorem d_Y_moved_122 : decode b_Y_moved 122 = .ok (.aload_n 0, 1) := by decide +kernel
theorem d_Y_moved_123 : decode b_Y_moved 123 = .ok (.iload_n 3, 1) := by decide +kernel
theorem d_Y_moved_124 : decode b_Y_moved 124 = .ok (.invokevirtual 189, 3) := by decide +kernel
theorem d_Y_moved_127 : decode b_Y_moved 127 = .ok (.return_, 1) := by decide +kernel
theorem d_Y_step_0 : decode b_Y_step 0 = .ok (.aload_n 0, 1) := by decide +kernel
theorem d_Y_step_1 : decode b_Y_step 1 = .ok (.invokevirtual 223, 3) := by decide +kernel
theorem d_Y_step_4 : decode b_Y_step 4 = .ok (.aload_n 0, 1) := by decide +kernel
theorem d_Y_step_5 : decode b_Y_step 5 = .ok (.invokevirtual 226, 3) := by decide +kernel
theorem d_Y_step_8 : decode b_Y_step 8 = .ok (.lstore_n 1, 1) := by decide +kernel
theorem d_Y_step_9 : decode b_Y_step 9 = .ok (.lload_n 1, 1) := by decide +kernel
theorem d_Y_step_10 : decode b_Y_step 10 = .ok (.lconst 0, 1) := by decide +kernel
theorem d_Y_step_11 : decode b_Y_step 11 = .ok (.lcmp, 1) := by decide +kernel
theorem d_Y_step_12 : decode b_Y_step 12 = .ok (.ifCond .ne 5, 3) := by decide +kernel
theorem d_Y_step_15 : decode b_Y_step 15 = .ok (.iconst 0, 1) := by decide +kernel
theorem d_Y_step_16 : decode b_Y_step 16 = .ok (.ireturn, 1) := by decide +kernel
theorem d_Y_step_17 : decode b_Y_step 17 = .ok (.lload_n 1, 1) := by decide +kernel
theorem d_Y_step_18 : decode b_Y_step 18 = .ok (.ldc2_w 221, 3) := by decide +kernel
theorem d_Y_step_21 : decode b_Y_step 21 = .ok (.lrem, 1) := by decide +kernel
theorem d_Y_step_22 : decode b_Y_step 22 = .ok (.l2i, 1) := by decide +kernel
theorem d_Y_step_23 : decode b_Y_step 23 = .ok (.istore_n 3, 1) := by decide +kernel
theorem d_Y_step_24 : decode b_Y_step 24 = .ok (.aload_n 0, 1) := by decide +kernel
theorem d_Y_step_25 : decode b_Y_step 25 = .ok (.lload_n 1, 1) := by decide +kernel
theorem d_Y_step_26 : decode b_Y_step 26 = .ok (.ldc2_w 221, 3) := by decide +kernel
theorem d_Y_step_29 : decode b_Y_step 29 = .ok (.ldiv, 1) := by decide +kernel
theorem d_Y_step_30 : decode b_Y_step 30 = .ok (.l2i, 1) := by decide +kernel
theorem d_Y_step_31 : decode b_Y_step 31 = .ok (.putfield 128, 3) := by decide +kernel
theorem d_Y_step_34 : decode b_Y_step 34 = .ok (.iconst 0, 1) := by decide +kernel
theorem d_Y_step_35 : decode b_Y_step 35 = .ok (.istore 4, 2) := by decide +kernel
theorem d_Y_step_37 : decode b_Y_step 37 = .ok (.iload 4, 2) := by decide +kernel
theorem d_Y_step_39 : decode b_Y_step 39 = .ok (.aload_n 0, 1) := by decide +kernel
theorem d_Y_step_40 : decode b_Y_step 40 = .ok (.getfield 121, 3) := by decide +kernel
theorem d_Y_step_43 : decode b_Y_step 43 = .ok (.if_icmp .ge 142, 3) := by decide +kernel
theorem d_Y_step_46 : decode b_Y_step 46 = .ok (.aload_n 0, 1) := by decide +kernel
theorem d_Y_step_47 : decode b_Y_step 47 = .ok (.getfield 64, 3) := by decide +kernel
theorem d_Y_step_50 : decode b_Y_step 50 = .ok (.iload 4, 2) := by decide +kernel
theorem d_Y_step_52 : decode b_Y_step 52 = .ok (.iaload, 1) := by decide +kernel
theorem d_Y_step_53 : decode b_Y_step 53 = .ok (.iconst (-1), 1) := by decide +kernel
theorem d_Y_step_54 : decode b_Y_step 54 = .ok (.if_icmp .eq 44, 3) := by decide +kernel
theorem d_Y_step_57 : decode b_Y_step 57 = .ok (.aload_n 0, 1) := by decide +kernel
theorem d_Y_step_58 : decode b_Y_step 58 = .ok (.getfield 67, 3) := by decide +kernel
theorem d_Y_step_61 : decode b_Y_step 61 = .ok (.iload 4, 2) := by decide +kernel
theorem d_Y_step_63 : decode b_Y_step 63 = .ok (.iaload, 1) := by decide +kernel
theorem d_Y_step_64 : decode b_Y_step 64 = .ok (.iload_n 3, 1) := by decide +kernel
theorem d_Y_step_65 : decode b_Y_step 65 = .ok (.if_icmp .ne 33, 3) := by decide +kernel
theorem d_Y_step_68 : decode b_Y_step 68 = .ok (.aload_n 0, 1) := by decide +kernel
theorem d_Y_step_69 : decode b_Y_step 69 = .ok (.getfield 64, 3) := by decide +kernel
theorem d_Y_step_72 : decode b_Y_step 72 = .ok (.iload 4, 2) := by decide +kernel
theorem d_Y_step_74 : decode b_Y_step 74 = .ok (.iconst (-1), 1) := by decide +kernel
theorem d_Y_step_75 : decode b_Y_step 75 = .ok (.iastore, 1) := by decide +kernel
theorem d_Y_step_76 : decode b_Y_step 76 = .ok (.aload_n 0, 1) := by decide +kernel
theorem d_Y_step_77 : decode b_Y_step 77 = .ok (.iconst 1, 1) := by decide +kernel
theorem d_Y_step_78 : decode b_Y_step 78 = .ok (.iload 4, 2) := by decide +kernel
theorem d_Y_step_80 : decode b_Y_step 80 = .ok (.aload_n 0, 1) := by decide +kernel
theorem d_Y_step_81 : decode b_Y_step 81 = .ok (.getfield 58, 3) := by decide +kernel
theorem d_Y_step_84 : decode b_Y_step 84 = .ok (.iload 4, 2) := by decide +kernel
theorem d_Y_step_86 : decode b_Y_step 86 = .ok (.iaload, 1) := by decide +kernel
theorem d_Y_step_87 : decode b_Y_step 87 = .ok (.invokevirtual 230, 3) := by decide +kernel
theorem d_Y_step_90 : decode b_Y_step 90 = .ok (.aload_n 0, 1) := by decide +kernel
theorem d_Y_step_91 : decode b_Y_step 91 = .ok (.iload 4, 2) := by decide +kernel
theorem d_Y_step_93 : decode b_Y_step 93 = .ok (.invokevirtual 208, 3) := by decide +kernel
theorem d_Y_step_96 : decode b_Y_step 96 = .ok (.iconst 1, 1) := by decide +kernel
theorem d_Y_step_97 : decode b_Y_step 97 = .ok (.ireturn, 1) := by decide +kernel
theorem d_Y_step_98 : decode b_Y_step 98 = .ok (.aload_n 0, 1) := by decide +kernel
theorem d_Y_step_99 : decode b_Y_step 99 = .ok (.getfield 70, 3) := by decide +kernel
theorem d_Y_step_102 : decode b_Y_step 102 = .ok (.iload 4, 2) := by decide +kernel
theorem d_Y_step_104 : decode b_Y_step 104 = .ok (.iaload, 1) := by decide +kernel
theorem d_Y_step_105 : decode b_Y_step 105 = .ok (.iconst (-1), 1) := by decide +kernel
theorem d_Y_step_106 : decode b_Y_step 106 = .ok (.if_icmp .eq 73, 3) := by decide +kernel
theorem d_Y_step_109 : decode b_Y_step 109 = .ok (.aload_n 0, 1) := by decide +kernel
theorem d_Y_step_110 : decode b_Y_step 110 = .ok (.getfield 73, 3) := by decide +kernel
theorem d_Y_step_113 : decode b_Y_step 113 = .ok (.iload 4, 2) := by decide +kernel
theorem d_Y_step_115 : decode b_Y_step 115 = .ok (.iaload, 1) := by decide +kernel
theorem d_Y_step_116 : decode b_Y_step 116 = .ok (.iload_n 3, 1) := by decide +kernel
theorem d_Y_step_117 : decode b_Y_step 117 = .ok (.if_icmp .ne 62, 3) := by decide +kernel
theorem d_Y_step_120 : decode b_Y_step 120 = .ok (.aload_n 0, 1) := by decide +kernel
theorem d_Y_step_121 : decode b_Y_step 121 = .ok (.getfield 70, 3) := by decide +kernel
theorem d_Y_step_124 : decode b_Y_step 124 = .ok (.iload 4, 2) := by decide +kernel
theorem d_Y_step_126 : decode b_Y_step 126 = .ok (.iconst (-1), 1) := by decide +kernel
theorem d_Y_step_127 : decode b_Y_step 127 = .ok (.iastore, 1) := by decide +kernel
theorem d_Y_step_128 : decode b_Y_step 128 = .ok (.aload_n 0, 1) := by decide +kernel
theorem d_Y_step_129 : decode b_Y_step 129 = .ok (.getfield 76, 3) := by decide +kernel
theorem d_Y_step_132 : decode b_Y_step 132 = .ok (.iconst 4, 1) := by decide +kernel
theorem d_Y_step_133 : decode b_Y_step 133 = .ok (.iload 4, 2) := by decide +kernel
theorem d_Y_step_135 : decode b_Y_step 135 = .ok (.imul, 1) := by decide +kernel
theorem d_Y_step_136 : decode b_Y_step 136 = .ok (.iconst 3, 1) := by decide +kernel
theorem d_Y_step_137 : decode b_Y_step 137 = .ok (.iadd, 1) := by decide +kernel
theorem d_Y_step_138 : decode b_Y_step 138 = .ok (.dup2, 1) := by decide +kernel
theorem d_Y_step_139 : decode b_Y_step 139 = .ok (.iaload, 1) := by decide +kernel
theorem d_Y_step_140 : decode b_Y_step 140 = .ok (.iconst 1, 1) := by decide +kernel
theorem d_Y_step_141 : decode b_Y_step 141 = .ok (.iadd, 1) := by decide +kernel
theorem d_Y_step_142 : decode b_Y_step 142 = .ok (.iastore, 1) := by decide +kernel
theorem d_Y_step_143 : decode b_Y_step 143 = .ok (.aload_n 0, 1) := by decide +kernel
theorem d_Y_step_144 : decode b_Y_step 144 = .ok (.iconst 4, 1) := by decide +kernel
theorem d_Y_step_145 : decode b_Y_step 145 = .ok (.iload 4, 2) := by decide +kernel
theorem d_Y_step_147 : decode b_Y_step 147 = .ok (.aload_n 0, 1) := by decide +kernel
theorem d_Y_step_148 : decode b_Y_step 148 = .ok (.getfield 55, 3) := by decide +kernel
theorem d_Y_step_151 : decode b_Y_step 151 = .ok (.iload 4, 2) := by decide +kernel
theorem d_Y_step_153 : decode b_Y_step 153 = .ok (.iaload, 1) := by decide +kernel
theorem d_Y_step_154 : decode b_Y_step 154 = .ok (.invokevirtual 230, 3) := by decide +kernel
theorem d_Y_step_157 : decode b_Y_step 157 = .ok (.aload_n 0, 1) := by decide +kernel
theorem d_Y_step_158 : decode b_Y_step 158 = .ok (.getfield 58, 3) := by decide +kernel
theorem d_Y_step_161 : decode b_Y_step 161 = .ok (.iload 4, 2) := by decide +kernel
theorem d_Y_step_163 : decode b_Y_step 163 = .ok (.aload_n 0, 1) := by decide +kernel
theorem d_Y_step_164 : decode b_Y_step 164 = .ok (.getfield 55, 3) := by decide +kernel
theorem d_Y_step_167 : decode b_Y_step 167 = .ok (.iload 4, 2) := by decide +kernel
theorem d_Y_step_169 : decode b_Y_step 169 = .ok (.iaload, 1) := by decide +kernel
theorem d_Y_step_170 : decode b_Y_step 170 = .ok (.iastore, 1) := by decide +kernel
theorem d_Y_step_171 : decode b_Y_step 171 = .ok (.aload_n 0, 1) := by decide +kernel
theorem d_Y_step_172 : decode b_Y_step 172 = .ok (.iload 4, 2) := by decide +kernel
theorem d_Y_step_174 : decode b_Y_step 174 = .ok (.invokevirtual 208, 3) := by decide +kernel
theorem d_Y_step_177 : decode b_Y_step 177 = .ok (.iconst 1, 1) := by decide +kernel
theorem d_Y_step_178 : decode b_Y_step 178 = .ok (.ireturn, 1) := by decide +kernel
theorem d_Y_step_179 : decode b_Y_step 179 = .ok (.iinc 4 1, 3) := by decide +kernel
theorem d_Y_step_182 : decode b_Y_step 182 = .ok (.goto (-145), 3) := by decide +kernel
theorem d_Y_step_185 : decode b_Y_step 185 = .ok (.iconst 0, 1) := by decide +kernel
theorem d_Y_step_186 : decode b_Y_step 186 = .ok (.istore 4, 2) := by decide +kernel
theorem d_Y_step_188 : decode b_Y_step 188 = .ok (.iload 4, 2) := by decide +kernel
theorem d_Y_step_190 : decode b_Y_step 190 = .ok (.bipush 64, 2) := by decide +kernel
theorem d_Y_step_192 : decode b_Y_step 192 = .ok (.if_icmp .ge 39, 3) := by decide +kernel
theorem d_Y_step_195 : decode b_Y_step 195 = .ok (.aload_n 0, 1) := by decide +kernel
theorem d_Y_step_196 : decode b_Y_step 196 = .ok (.getfield 79, 3) := by decide +kernel
theorem d_Y_step_199 : decode b_Y_step 199 = .ok (.iload 4, 2) := by decide +kernel
theorem d_Y_step_201 : decode b_Y_step 201 = .ok (.iaload, 1) := by decide +kernel
theorem d_Y_step_202 : decode b_Y_step 202 = .ok (.iconst 2, 1) := by decide +kernel
theorem d_Y_step_203 : decode b_Y_step 203 = .ok (.if_icmp .lt 22, 3) := by decide +kernel
theorem d_Y_step_206 : decode b_Y_step 206 = .ok (.aload_n 0, 1) := by decide +kernel
theorem d_Y_step_207 : decode b_Y_step 207 = .ok (.getfield 98, 3) := by decide +kernel
theorem d_Y_step_210 : decode b_Y_step 210 = .ok (.iload 4, 2) := by decide +kernel
theorem d_Y_step_212 : decode b_Y_step 212 = .ok (.iaload, 1) := by decide +kernel
theorem d_Y_step_213 : decode b_Y_step 213 = .ok (.iload_n 3, 1) := by decide +kernel
theorem d_Y_step_214 : decode b_Y_step 214 = .ok (.if_icmp .ne 11, 3) := by decide +kernel
theorem d_Y_step_217 : decode b_Y_step 217 = .ok (.aload_n 0, 1) := by decide +kernel
theorem d_Y_step_218 : decode b_Y_step 218 = .ok (.iload 4, 2) := by decide +kernel
theorem d_Y_step_220 : decode b_Y_step 220 = .ok (.invokevirtual 234, 3) := by decide +kernel
theorem d_Y_step_223 : decode b_Y_step 223 = .ok (.iconst 1, 1) := by decide +kernel
theorem d_Y_step_224 : decode b_Y_step 224 = .ok (.ireturn, 1) := by decide +kernel
theorem d_Y_step_225 : decode b_Y_step 225 = .ok (.iinc 4 1, 3) := by decide +kernel
theorem d_Y_step_228 : decode b_Y_step 228 = .ok (.goto (-40), 3) := by decide +kernel
theorem d_Y_step_231 : decode b_Y_step 231 = .ok (.iconst 1, 1) := by decide +kernel
theorem d_Y_step_232 : decode b_Y_step 232 = .ok (.ireturn, 1) := by decide +kernel
theorem d_Y_run_0 : decode b_Y_run 0 = .ok (.iload_n 1, 1) := by decide +kernel
theorem d_Y_run_1 : decode b_Y_run 1 = .ok (.ifCond .lt 9, 3) := by decide +kernel
theorem d_Y_run_4 : decode b_Y_run 4 = .ok (.iload_n 1, 1) := by decide +kernel
theorem d_Y_run_5 : decode b_Y_run 5 = .ok (.bipush 50, 2) := by decide +kernel
theorem d_Y_run_7 : decode b_Y_run 7 = .ok (.if_icmp .le 5, 3) := by decide +kernel
theorem d_Y_run_10 : decode b_Y_run 10 = .ok (.iconst (-1), 1) := by decide +kernel
theorem d_Y_run_11 : decode b_Y_run 11 = .ok (.ireturn, 1) := by decide +kernel
theorem d_Y_run_12 : decode b_Y_run 12 = .ok (.iconst 0, 1) := by decide +kernel
theorem d_Y_run_13 : decode b_Y_run 13 = .ok (.istore_n 2, 1) := by decide +kernel
theorem d_Y_run_14 : decode b_Y_run 14 = .ok (.iload_n 2, 1) := by decide +kernel
theorem d_Y_run_15 : decode b_Y_run 15 = .ok (.iload_n 1, 1) := by decide +kernel
theorem d_Y_run_16 : decode b_Y_run 16 = .ok (.if_icmp .ge 16, 3) := by decide +kernel
theorem d_Y_run_19 : decode b_Y_run 19 = .ok (.aload_n 0, 1) := by decide +kernel
theorem d_Y_run_20 : decode b_Y_run 20 = .ok (.invokevirtual 240, 3) := by decide +kernel
theorem d_Y_run_23 : decode b_Y_run 23 = .ok (.ifCond .eq 9, 3) := by decide +kernel
theorem d_Y_run_26 : decode b_Y_run 26 = .ok (.iinc 2 1, 3) := by decide +kernel
theorem d_Y_run_29 : decode b_Y_run 29 = .ok (.goto (-15), 3) := by decide +kernel
theorem d_Y_run_32 : decode b_Y_run 32 = .ok (.iload_n 2, 1) := by decide +kernel
theorem d_Y_run_33 : decode b_Y_run 33 = .ok (.ireturn, 1) := by decide +kernel
theorem d_Y_now_0 : decode b_Y_now 0 = .ok (.aload_n 0, 1) := by decide +kernel
theorem d_Y_now_1 : decode b_Y_now 1 = .ok (.getfield 128, 3) := by decide +kernel
theorem d_Y_now_4 : decode b_Y_now 4 = .ok (.ireturn, 1) := by decide +kernel
theorem d_Y_trace_0 : decode b_Y_trace 0 = .ok (.iload_n 1, 1) := by decide +kernel
theorem d_Y_trace_1 : decode b_Y_trace 1 = .ok (.ifCond .lt 17, 3) := by decide +kernel
theorem d_Y_trace_4 : decode b_Y_trace 4 = .ok (.iload_n 1, 1) := by decide +kernel
theorem d_Y_trace_5 : decode b_Y_trace 5 = .ok (.bipush 15, 2) := by decide +kernel
theorem d_Y_trace_7 : decode b_Y_trace 7 = .ok (.if_icmp .gt 11, 3) := by decide +kernel
theorem d_Y_trace_10 : decode b_Y_trace 10 = .ok (.iload_n 1, 1) := by decide +kernel
theorem d_Y_trace_11 : decode b_Y_trace 11 = .ok (.aload_n 0, 1) := by decide +kernel
theorem d_Y_trace_12 : decode b_Y_trace 12 = .ok (.getfield 134, 3) := by decide +kernel
theorem d_Y_trace_15 : decode b_Y_trace 15 = .ok (.if_icmp .lt 9, 3) := by decide +kernel
theorem d_Y_trace_18 : decode b_Y_trace 18 = .ok (.ldc2_w 244, 3) := by decide +kernel
theorem d_Y_trace_21 : decode b_Y_trace 21 = .ok (.goto 19, 3) := by decide +kernel
theorem d_Y_trace_24 : decode b_Y_trace 24 = .ok (.aload_n 0, 1) := by decide +kernel
theorem d_Y_trace_25 : decode b_Y_trace 25 = .ok (.getfield 110, 3) := by decide +kernel
theorem d_Y_trace_28 : decode b_Y_trace 28 = .ok (.aload_n 0, 1) := by decide +kernel
theorem d_Y_trace_29 : decode b_Y_trace 29 = .ok (.getfield 134, 3) := by decide +kernel
theorem d_Y_trace_32 : decode b_Y_trace 32 = .ok (.iconst 1, 1) := by decide +kernel
theorem d_Y_trace_33 : decode b_Y_trace 33 = .ok (.isub, 1) := by decide +kernel
theorem d_Y_trace_34 : decode b_Y_trace 34 = .ok (.iload_n 1, 1) := by decide +kernel
theorem d_Y_trace_35 : decode b_Y_trace 35 = .ok (.isub, 1) := by decide +kernel
theorem d_Y_trace_36 : decode b_Y_trace 36 = .ok (.bipush 16, 2) := by decide +kernel
theorem d_Y_trace_38 : decode b_Y_trace 38 = .ok (.irem, 1) := by decide +kernel
theorem d_Y_trace_39 : decode b_Y_trace 39 = .ok (.laload, 1) := by decide +kernel
theorem d_Y_trace_40 : decode b_Y_trace 40 = .ok (.lreturn, 1) := by decide +kernel
theorem d_Y_waiting_0 : decode b_Y_waiting 0 = .ok (.aload_n 0, 1) := by decide +kernel
theorem d_Y_waiting_1 : decode b_Y_waiting 1 = .ok (.iload_n 1, 1) := by decide +kernel
theorem d_Y_waiting_2 : decode b_Y_waiting 2 = .ok (.invokevirtual 148, 3) := by decide +kernel
theorem d_Y_waiting_5 : decode b_Y_waiting 5 = .ok (.ifCond .eq 16, 3) := by decide +kernel
theorem d_Y_waiting_8 : decode b_Y_waiting 8 = .ok (.iload_n 2, 1) := by decide +kernel
theorem d_Y_waiting_9 : decode b_Y_waiting 9 = .ok (.iconst (-1), 1) := by decide +kernel
theorem d_Y_waiting_10 : decode b_Y_waiting 10 = .ok (.if_icmp .eq 15, 3) := by decide +kernel
theorem d_Y_waiting_13 : decode b_Y_waiting 13 = .ok (.aload_n 0, 1) := by decide +kernel
theorem d_Y_waiting_14 : decode b_Y_waiting 14 = .ok (.iload_n 2, 1) := by decide +kernel
theorem d_Y_waiting_15 : decode b_Y_waiting 15 = .ok (.invokevirtual 151, 3) := by decide +kernel
theorem d_Y_waiting_18 : decode b_Y_waiting 18 = .ok (.ifCond .ne 7, 3) := by decide +kernel
theorem d_Y_waiting_21 : decode b_Y_waiting 21 = .ok (.iconst (-1), 1) := by decide +kernel
theorem d_Y_waiting_22 : decode b_Y_waiting 22 = .ok (.goto 9, 3) := by decide +kernel
theorem d_Y_waiting_25 : decode b_Y_waiting 25 = .ok (.aload_n 0, 1) := by decide +kernel
theorem d_Y_waiting_26 : decode b_Y_waiting 26 = .ok (.iload_n 1, 1) := by decide +kernel
theorem d_Y_waiting_27 : decode b_Y_waiting 27 = .ok (.iload_n 2, 1) := by decide +kernel
theorem d_Y_waiting_28 : decode b_Y_waiting 28 = .ok (.invokevirtual 179, 3) := by decide +kernel
theorem d_Y_waiting_31 : decode b_Y_waiting 31 = .ok (.ireturn, 1) := by decide +kernel
theorem d_Y_deficit_0 : decode b_Y_deficit 0 = .ok (.aload_n 0, 1) := by decide +kernel
theorem d_Y_deficit_1 : decode b_Y_deficit 1 = .ok (.iload_n 1, 1) := by decide +kernel
theorem d_Y_deficit_2 : decode b_Y_deficit 2 = .ok (.invokevirtual 148, 3) := by decide +kernel
theorem d_Y_deficit_5 : decode b_Y_deficit 5 = .ok (.ifCond .eq 11, 3) := by decide +kernel
theorem d_Y_deficit_8 : decode b_Y_deficit 8 = .ok (.aload_n 0, 1) := by decide +kernel
theorem d_Y_deficit_9 : decode b_Y_deficit 9 = .ok (.iload_n 2, 1) := by decide +kernel
theorem d_Y_deficit_10 : decode b_Y_deficit 10 = .ok (.invokevirtual 151, 3) := by decide +kernel
theorem d_Y_deficit_13 : decode b_Y_deficit 13 = .ok (.ifCond .ne 5, 3) := by decide +kernel
theorem d_Y_deficit_16 : decode b_Y_deficit 16 = .ok (.iconst (-1), 1) := by decide +kernel
theorem d_Y_deficit_17 : decode b_Y_deficit 17 = .ok (.ireturn, 1) := by decide +kernel
theorem d_Y_deficit_18 : decode b_Y_deficit 18 = .ok (.aload_n 0, 1) := by decide +kernel
theorem d_Y_deficit_19 : decode b_Y_deficit 19 = .ok (.iload_n 1, 1) := by decide +kernel
theorem d_Y_deficit_20 : decode b_Y_deficit 20 = .ok (.iload_n 2, 1) := by decide +kernel
theorem d_Y_deficit_21 : decode b_Y_deficit 21 = .ok (.invokevirtual 179, 3) := by decide +kernel
theorem d_Y_deficit_24 : decode b_Y_deficit 24 = .ok (.ifCond .ne 7, 3) := by decide +kernel
theorem d_Y_deficit_27 : decode b_Y_deficit 27 = .ok (.iconst 0, 1) := by decide +kernel
theorem d_Y_deficit_28 : decode b_Y_deficit 28 = .ok (.goto 14, 3) := by decide +kernel
theorem d_Y_deficit_31 : decode b_Y_deficit 31 = .ok (.aload_n 0, 1) := by decide +kernel
theorem d_Y_deficit_32 : decode b_Y_deficit 32 = .ok (.getfield 104, 3) := by decide +kernel
theorem d_Y_deficit_35 : decode b_Y_deficit 35 = .ok (.bipush 6, 2) := by decide +kernel
theorem d_Y_deficit_37 : decode b_Y_deficit 37 = .ok (.iload_n 1, 1) := by decide +kernel
theorem d_Y_deficit_38 : decode b_Y_deficit 38 = .ok (.imul, 1) := by decide +kernel
theorem d_Y_deficit_39 : decode b_Y_deficit 39 = .ok (.iload_n 2, 1) := by decide +kernel
theorem d_Y_deficit_40 : decode b_Y_deficit 40 = .ok (.iadd, 1) := by decide +kernel
theorem d_Y_deficit_41 : decode b_Y_deficit 41 = .ok (.iaload, 1) := by decide +kernel
theorem d_Y_deficit_42 : decode b_Y_deficit 42 = .ok (.ireturn, 1) := by decide +kernel
theorem d_Y_onPort_0 : decode b_Y_onPort 0 = .ok (.aload_n 0, 1) := by decide +kernel
theorem d_Y_onPort_1 : decode b_Y_onPort 1 = .ok (.iload_n 1, 1) := by decide +kernel
theorem d_Y_onPort_2 : decode b_Y_onPort 2 = .ok (.invokevirtual 148, 3) := by decide +kernel
theorem d_Y_onPort_5 : decode b_Y_onPort 5 = .ok (.ifCond .eq 11, 3) := by decide +kernel
theorem d_Y_onPort_8 : decode b_Y_onPort 8 = .ok (.aload_n 0, 1) := by decide +kernel
theorem d_Y_onPort_9 : decode b_Y_onPort 9 = .ok (.iload_n 1, 1) := by decide +kernel
theorem d_Y_onPort_10 : decode b_Y_onPort 10 = .ok (.invokevirtual 186, 3) := by decide +kernel
theorem d_Y_onPort_13 : decode b_Y_onPort 13 = .ok (.goto 4, 3) := by decide +kernel
theorem d_Y_onPort_16 : decode b_Y_onPort 16 = .ok (.iconst (-1), 1) := by decide +kernel
theorem d_Y_onPort_17 : decode b_Y_onPort 17 = .ok (.istore_n 2, 1) := by decide +kernel
theorem d_Y_onPort_18 : decode b_Y_onPort 18 = .ok (.iload_n 2, 1) := by decide +kernel
theorem d_Y_onPort_19 : decode b_Y_onPort 19 = .ok (.iconst (-1), 1) := by decide +kernel
theorem d_Y_onPort_20 : decode b_Y_onPort 20 = .ok (.if_icmp .ne 7, 3) := by decide +kernel
theorem d_Y_onPort_23 : decode b_Y_onPort 23 = .ok (.iconst (-1), 1) := by decide +kernel
theorem d_Y_onPort_24 : decode b_Y_onPort 24 = .ok (.goto 37, 3) := by decide +kernel
theorem d_Y_onPort_27 : decode b_Y_onPort 27 = .ok (.sipush 256, 3) := by decide +kernel
theorem d_Y_onPort_30 : decode b_Y_onPort 30 = .ok (.aload_n 0, 1) := by decide +kernel
theorem d_Y_onPort_31 : decode b_Y_onPort 31 = .ok (.getfield 82, 3) := by decide +kernel
theorem d_Y_onPort_34 : decode b_Y_onPort 34 = .ok (.iload_n 2, 1) := by decide +kernel
theorem d_Y_onPort_35 : decode b_Y_onPort 35 = .ok (.iaload, 1) := by decide +kernel
theorem d_Y_onPort_36 : decode b_Y_onPort 36 = .ok (.imul, 1) := by decide +kernel
theorem d_Y_onPort_37 : decode b_Y_onPort 37 = .ok (.aload_n 0, 1) := by decide +kernel
theorem d_Y_onPort_38 : decode b_Y_onPort 38 = .ok (.getfield 85, 3) := by decide +kernel
theorem d_Y_onPort_41 : decode b_Y_onPort 41 = .ok (.iload_n 2, 1) := by decide +kernel
theorem d_Y_onPort_42 : decode b_Y_onPort 42 = .ok (.iaload, 1) := by decide +kernel
theorem d_Y_onPort_43 : decode b_Y_onPort 43 = .ok (.iadd, 1) := by decide +kernel
theorem d_Y_onPort_44 : decode b_Y_onPort 44 = .ok (.aload_n 0, 1) := by decide +kernel
theorem d_Y_onPort_45 : decode b_Y_onPort 45 = .ok (.getfield 88, 3) := by decide +kernel
theorem d_Y_onPort_48 : decode b_Y_onPort 48 = .ok (.iload_n 2, 1) := by decide +kernel
theorem d_Y_onPort_49 : decode b_Y_onPort 49 = .ok (.baload, 1) := by decide +kernel
theorem d_Y_onPort_50 : decode b_Y_onPort 50 = .ok (.ifCond .eq 9, 3) := by decide +kernel
theorem d_Y_onPort_53 : decode b_Y_onPort 53 = .ok (.sipush 128, 3) := by decide +kernel
theorem d_Y_onPort_56 : decode b_Y_onPort 56 = .ok (.goto 4, 3) := by decide +kernel
theorem d_Y_onPort_59 : decode b_Y_onPort 59 = .ok (.iconst 0, 1) := by decide +kernel
theorem d_Y_onPort_60 : decode b_Y_onPort 60 = .ok (.iadd, 1) := by decide +kernel
theorem d_Y_onPort_61 : decode b_Y_onPort 61 = .ok (.ireturn, 1) := by decide +kernel
theorem d_Y_timer_0 : decode b_Y_timer 0 = .ok (.aload_n 0, 1) := by decide +kernel
theorem d_Y_timer_1 : decode b_Y_timer 1 = .ok (.iload_n 1, 1) := by decide +kernel
theorem d_Y_timer_2 : decode b_Y_timer 2 = .ok (.invokevirtual 151, 3) := by decide +kernel
theorem d_Y_timer_5 : decode b_Y_timer 5 = .ok (.ifCond .eq 12, 3) := by decide +kernel
theorem d_Y_timer_8 : decode b_Y_timer 8 = .ok (.aload_n 0, 1) := by decide +kernel
theorem d_Y_timer_9 : decode b_Y_timer 9 = .ok (.getfield 70, 3) := by decide +kernel
theorem d_Y_timer_12 : decode b_Y_timer 12 = .ok (.iload_n 1, 1) := by decide +kernel
theorem d_Y_timer_13 : decode b_Y_timer 13 = .ok (.iaload, 1) := by decide +kernel
theorem d_Y_timer_14 : decode b_Y_timer 14 = .ok (.goto 4, 3) := by decide +kernel
theorem d_Y_timer_17 : decode b_Y_timer 17 = .ok (.iconst (-1), 1) := by decide +kernel
theorem d_Y_timer_18 : decode b_Y_timer 18 = .ok (.ireturn, 1) := by decide +kernel
theorem d_Y_count_0 : decode b_Y_count 0 = .ok (.aload_n 0, 1) := by decide +kernel
theorem d_Y_count_1 : decode b_Y_count 1 = .ok (.iload_n 1, 1) := by decide +kernel
theorem d_Y_count_2 : decode b_Y_count 2 = .ok (.invokevirtual 151, 3) := by decide +kernel
theorem d_Y_count_5 : decode b_Y_count 5 = .ok (.ifCond .eq 13, 3) := by decide +kernel
theorem d_Y_count_8 : decode b_Y_count 8 = .ok (.iload_n 2, 1) := by decide +kernel
theorem d_Y_count_9 : decode b_Y_count 9 = .ok (.ifCond .lt 9, 3) := by decide +kernel
theorem d_Y_count_12 : decode b_Y_count 12 = .ok (.iload_n 2, 1) := by decide +kernel
theorem d_Y_count_13 : decode b_Y_count 13 = .ok (.bipush 6, 2) := by decide +kernel
theorem d_Y_count_15 : decode b_Y_count 15 = .ok (.if_icmp .le 5, 3) := by decide +kernel
theorem d_Y_count_18 : decode b_Y_count 18 = .ok (.iconst (-1), 1) := by decide +kernel
theorem d_Y_count_19 : decode b_Y_count 19 = .ok (.ireturn, 1) := by decide +kernel
theorem d_Y_count_20 : decode b_Y_count 20 = .ok (.iload_n 2, 1) := by decide +kernel
theorem d_Y_count_21 : decode b_Y_count 21 = .ok (.iconst 3, 1) := by decide +kernel
theorem d_Y_count_22 : decode b_Y_count 22 = .ok (.if_icmp .ge 37, 3) := by decide +kernel
theorem d_Y_count_25 : decode b_Y_count 25 = .ok (.iload_n 2, 1) := by decide +kernel
theorem d_Y_count_26 : decode b_Y_count 26 = .ok (.ifCond .ne 12, 3) := by decide +kernel
theorem d_Y_count_29 : decode b_Y_count 29 = .ok (.aload_n 0, 1) := by decide +kernel
theorem d_Y_count_30 : decode b_Y_count 30 = .ok (.getfield 55, 3) := by decide +kernel
theorem d_Y_count_33 : decode b_Y_count 33 = .ok (.iload_n 1, 1) := by decide +kernel
theorem d_Y_count_34 : decode b_Y_count 34 = .ok (.iaload, 1) := by decide +kernel
theorem d_Y_count_35 : decode b_Y_count 35 = .ok (.goto 23, 3) := by decide +kernel
theorem d_Y_count_38 : decode b_Y_count 38 = .ok (.iload_n 2, 1) := by decide +kernel
theorem d_Y_count_39 : decode b_Y_count 39 = .ok (.iconst 1, 1) := by decide +kernel
theorem d_Y_count_40 : decode b_Y_count 40 = .ok (.if_icmp .ne 12, 3) := by decide +kernel
theorem d_Y_count_43 : decode b_Y_count 43 = .ok (.aload_n 0, 1) := by decide +kernel
theorem d_Y_count_44 : decode b_Y_count 44 = .ok (.getfield 58, 3) := by decide +kernel
theorem d_Y_count_47 : decode b_Y_count 47 = .ok (.iload_n 1, 1) := by decide +kernel
theorem d_Y_count_48 : decode b_Y_count 48 = .ok (.iaload, 1) := by decide +kernel
theorem d_Y_count_49 : decode b_Y_count 49 = .ok (.goto 9, 3) := by decide +kernel
theorem d_Y_count_52 : decode b_Y_count 52 = .ok (.aload_n 0, 1) := by decide +kernel
theorem d_Y_count_53 : decode b_Y_count 53 = .ok (.getfield 61, 3) := by decide +kernel
theorem d_Y_count_56 : decode b_Y_count 56 = .ok (.iload_n 1, 1) := by decide +kernel
theorem d_Y_count_57 : decode b_Y_count 57 = .ok (.iaload, 1) := by decide +kernel
theorem d_Y_count_58 : decode b_Y_count 58 = .ok (.ireturn, 1) := by decide +kernel
theorem d_Y_count_59 : decode b_Y_count 59 = .ok (.aload_n 0, 1) := by decide +kernel
theorem d_Y_count_60 : decode b_Y_count 60 = .ok (.getfield 76, 3) := by decide +kernel
theorem d_Y_count_63 : decode b_Y_count 63 = .ok (.iconst 4, 1) := by decide +kernel
theorem d_Y_count_64 : decode b_Y_count 64 = .ok (.iload_n 1, 1) := by decide +kernel
theorem d_Y_count_65 : decode b_Y_count 65 = .ok (.imul, 1) := by decide +kernel
theorem d_Y_count_66 : decode b_Y_count 66 = .ok (.iload_n 2, 1) := by decide +kernel
theorem d_Y_count_67 : decode b_Y_count 67 = .ok (.iadd, 1) := by decide +kernel
theorem d_Y_count_68 : decode b_Y_count 68 = .ok (.iconst 3, 1) := by decide +kernel
theorem d_Y_count_69 : decode b_Y_count 69 = .ok (.isub, 1) := by decide +kernel
theorem d_Y_count_70 : decode b_Y_count 70 = .ok (.iaload, 1) := by decide +kernel
theorem d_Y_count_71 : decode b_Y_count 71 = .ok (.ireturn, 1) := by decide +kernel
