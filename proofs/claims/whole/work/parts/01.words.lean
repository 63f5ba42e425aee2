/-- the words that every method here takes: those of the tables that keep -/
def wT : List Cond := lw_tbl.filter goodWord
theorem mem_wT {w : Cond} (h : w ∈ lw_tbl) (g : goodWord w = true) : w ∈ wT := List.mem_filter.mpr ⟨h, g⟩
theorem wT_tbl {w : Cond} (h : w ∈ wT) : w ∈ lw_tbl := (List.mem_filter.mp h).1
theorem tb1 {w : Cond} (h : w ∈ tables_1_1) : w ∈ lw_tbl := List.mem_append_right _ (List.mem_append_left _ h)
theorem tb2 {w : Cond} (h : w ∈ tables_1_2) : w ∈ lw_tbl := List.mem_append_right _ (List.mem_append_right _ (List.mem_append_left _ h))
theorem tb3 {w : Cond} (h : w ∈ tables_1_3) : w ∈ lw_tbl := List.mem_append_right _ (List.mem_append_right _ (List.mem_append_right _ (List.mem_append_left _ h)))
theorem tb4 {w : Cond} (h : w ∈ tables_1_4) : w ∈ lw_tbl := List.mem_append_right _ (List.mem_append_right _ (List.mem_append_right _ (List.mem_append_right _ h)))
theorem t_1 : (Jvm.Cond.initialized "DeficitNet") ∈ wT := mem_wT (tb1 (List.mem_of_getElem? (i := 1) rfl)) rfl
theorem t_2 : (Jvm.Cond.initialized "DeficitNet$Port") ∈ wT := mem_wT (tb1 (List.mem_of_getElem? (i := 2) rfl)) rfl
theorem t_3 : (Jvm.Cond.initialized "DeficitNet$Flow") ∈ wT := mem_wT (tb1 (List.mem_of_getElem? (i := 3) rfl)) rfl
theorem t_4 : (Jvm.Cond.initialized "DeficitNet$Packet") ∈ wT := mem_wT (tb1 (List.mem_of_getElem? (i := 4) rfl)) rfl
theorem t_5 : (Jvm.Cond.initialized "DeficitNet$Agenda") ∈ wT := mem_wT (tb1 (List.mem_of_getElem? (i := 5) rfl)) rfl
theorem t_6 : (Jvm.Cond.initialized "java/util/Arrays") ∈ wT := mem_wT (tb1 (List.mem_of_getElem? (i := 6) rfl)) rfl
theorem t_7 : (Jvm.Cond.initialized "DeficitNetModel") ∈ wT := mem_wT (tb1 (List.mem_of_getElem? (i := 7) rfl)) rfl
theorem t_8 : (Jvm.Cond.initialized "java/lang/System") ∈ wT := mem_wT (tb1 (List.mem_of_getElem? (i := 8) rfl)) rfl
theorem t_9 : (Jvm.Cond.initialized "java/lang/Math") ∈ wT := mem_wT (tb1 (List.mem_of_getElem? (i := 9) rfl)) rfl
theorem t_27 : (Jvm.Cond.fieldLink "DeficitNet$Port" (21 : Nat) "DeficitNet$Port" "from" "I") ∈ wT := mem_wT (tb1 (List.mem_of_getElem? (i := 27) rfl)) rfl
theorem t_28 : (Jvm.Cond.fieldLink "DeficitNet" (128 : Nat) "DeficitNet$Port" "from" "I") ∈ wT := mem_wT (tb1 (List.mem_of_getElem? (i := 28) rfl)) rfl
theorem t_29 : (Jvm.Cond.fieldLink "DeficitNet$Port" (25 : Nat) "DeficitNet$Port" "to" "I") ∈ wT := mem_wT (tb1 (List.mem_of_getElem? (i := 29) rfl)) rfl
theorem t_30 : (Jvm.Cond.fieldLink "DeficitNet" (134 : Nat) "DeficitNet$Port" "to" "I") ∈ wT := mem_wT (tb1 (List.mem_of_getElem? (i := 30) rfl)) rfl
theorem t_31 : (Jvm.Cond.fieldLink "DeficitNet$Port" (28 : Nat) "DeficitNet$Port" "cost" "I") ∈ wT := mem_wT (tb1 (List.mem_of_getElem? (i := 31) rfl)) rfl
theorem t_32 : (Jvm.Cond.fieldLink "DeficitNet" (131 : Nat) "DeficitNet$Port" "cost" "I") ∈ wT := mem_wT (tb1 (List.mem_of_getElem? (i := 32) rfl)) rfl
theorem t_33 : (Jvm.Cond.fieldLink "DeficitNet$Port" (31 : Nat) "DeficitNet$Port" "slowness" "I") ∈ wT := mem_wT (tb1 (List.mem_of_getElem? (i := 33) rfl)) rfl
theorem t_34 : (Jvm.Cond.fieldLink "DeficitNet" (298 : Nat) "DeficitNet$Port" "slowness" "I") ∈ wT := mem_wT (tb1 (List.mem_of_getElem? (i := 34) rfl)) rfl
theorem t_35 : (Jvm.Cond.fieldLink "DeficitNet$Port" (34 : Nat) "DeficitNet$Port" "delay" "I") ∈ wT := mem_wT (tb1 (List.mem_of_getElem? (i := 35) rfl)) rfl
theorem t_36 : (Jvm.Cond.fieldLink "DeficitNet" (218 : Nat) "DeficitNet$Port" "delay" "I") ∈ wT := mem_wT (tb1 (List.mem_of_getElem? (i := 36) rfl)) rfl
theorem t_37 : (Jvm.Cond.fieldLink "DeficitNet$Port" (37 : Nat) "DeficitNet$Port" "quantum" "I") ∈ wT := mem_wT (tb1 (List.mem_of_getElem? (i := 37) rfl)) rfl
theorem t_38 : (Jvm.Cond.fieldLink "DeficitNet" (76 : Nat) "DeficitNet$Port" "quantum" "I") ∈ wT := mem_wT (tb1 (List.mem_of_getElem? (i := 38) rfl)) rfl
theorem t_39 : (Jvm.Cond.fieldLink "DeficitNet$Port" (40 : Nat) "DeficitNet$Port" "room" "I") ∈ wT := mem_wT (tb1 (List.mem_of_getElem? (i := 39) rfl)) rfl
theorem t_40 : (Jvm.Cond.fieldLink "DeficitNet" (79 : Nat) "DeficitNet$Port" "room" "I") ∈ wT := mem_wT (tb1 (List.mem_of_getElem? (i := 40) rfl)) rfl
theorem t_41 : (Jvm.Cond.fieldLink "DeficitNet$Port" (43 : Nat) "DeficitNet$Port" "on" "I") ∈ wT := mem_wT (tb1 (List.mem_of_getElem? (i := 41) rfl)) rfl
theorem t_42 : (Jvm.Cond.fieldLink "DeficitNet" (148 : Nat) "DeficitNet$Port" "on" "I") ∈ wT := mem_wT (tb1 (List.mem_of_getElem? (i := 42) rfl)) rfl
theorem t_43 : (Jvm.Cond.fieldLink "DeficitNet$Port" (46 : Nat) "DeficitNet$Port" "queued" "I") ∈ wT := mem_wT (tb1 (List.mem_of_getElem? (i := 43) rfl)) rfl
theorem t_44 : (Jvm.Cond.fieldLink "DeficitNet" (137 : Nat) "DeficitNet$Port" "queued" "I") ∈ wT := mem_wT (tb1 (List.mem_of_getElem? (i := 44) rfl)) rfl
theorem t_45 : (Jvm.Cond.fieldLink "DeficitNet$Port" (49 : Nat) "DeficitNet$Port" "listed" "I") ∈ wT := mem_wT (tb1 (List.mem_of_getElem? (i := 45) rfl)) rfl
theorem t_46 : (Jvm.Cond.fieldLink "DeficitNet$Port" (52 : Nat) "DeficitNet$Port" "firstIsServed" "Z") ∈ wT := mem_wT (tb1 (List.mem_of_getElem? (i := 46) rfl)) rfl
theorem t_47 : (Jvm.Cond.fieldLink "DeficitNet$Port" (9 : Nat) "DeficitNet$Port" "queue" "[I") ∈ wT := mem_wT (tb1 (List.mem_of_getElem? (i := 47) rfl)) rfl
theorem t_48 : (Jvm.Cond.fieldLink "DeficitNet" (279 : Nat) "DeficitNet$Port" "queue" "[I") ∈ wT := mem_wT (tb1 (List.mem_of_getElem? (i := 48) rfl)) rfl
theorem t_49 : (Jvm.Cond.fieldLink "DeficitNet$Port" (15 : Nat) "DeficitNet$Port" "list" "[I") ∈ wT := mem_wT (tb1 (List.mem_of_getElem? (i := 49) rfl)) rfl
theorem t_50 : (Jvm.Cond.fieldLink "DeficitNet" (282 : Nat) "DeficitNet$Port" "list" "[I") ∈ wT := mem_wT (tb1 (List.mem_of_getElem? (i := 50) rfl)) rfl
theorem t_51 : (Jvm.Cond.fieldLink "DeficitNet$Port" (18 : Nat) "DeficitNet$Port" "deficits" "[I") ∈ wT := mem_wT (tb1 (List.mem_of_getElem? (i := 51) rfl)) rfl
theorem t_52 : (Jvm.Cond.fieldLink "DeficitNet" (144 : Nat) "DeficitNet$Port" "deficits" "[I") ∈ wT := mem_wT (tb1 (List.mem_of_getElem? (i := 52) rfl)) rfl
theorem t_53 : (Jvm.Cond.lays "DeficitNet$Port" "DeficitNet$Port" "from" "I") ∈ wT := mem_wT (tb1 (List.mem_of_getElem? (i := 53) rfl)) rfl
theorem t_55 : (Jvm.Cond.lays "DeficitNet$Port" "DeficitNet$Port" "to" "I") ∈ wT := mem_wT (tb1 (List.mem_of_getElem? (i := 55) rfl)) rfl
theorem t_57 : (Jvm.Cond.lays "DeficitNet$Port" "DeficitNet$Port" "cost" "I") ∈ wT := mem_wT (tb1 (List.mem_of_getElem? (i := 57) rfl)) rfl
theorem t_59 : (Jvm.Cond.lays "DeficitNet$Port" "DeficitNet$Port" "slowness" "I") ∈ wT := mem_wT (tb1 (List.mem_of_getElem? (i := 59) rfl)) rfl
theorem t_61 : (Jvm.Cond.lays "DeficitNet$Port" "DeficitNet$Port" "delay" "I") ∈ wT := mem_wT (tb1 (List.mem_of_getElem? (i := 61) rfl)) rfl
theorem t_63 : (Jvm.Cond.lays "DeficitNet$Port" "DeficitNet$Port" "quantum" "I") ∈ wT := mem_wT (tb1 (List.mem_of_getElem? (i := 63) rfl)) rfl
theorem t_65 : (Jvm.Cond.lays "DeficitNet$Port" "DeficitNet$Port" "room" "I") ∈ wT := mem_wT (tb1 (List.mem_of_getElem? (i := 65) rfl)) rfl
theorem t_67 : (Jvm.Cond.lays "DeficitNet$Port" "DeficitNet$Port" "on" "I") ∈ wT := mem_wT (tb1 (List.mem_of_getElem? (i := 67) rfl)) rfl
theorem t_69 : (Jvm.Cond.lays "DeficitNet$Port" "DeficitNet$Port" "queued" "I") ∈ wT := mem_wT (tb1 (List.mem_of_getElem? (i := 69) rfl)) rfl
theorem t_71 : (Jvm.Cond.lays "DeficitNet$Port" "DeficitNet$Port" "listed" "I") ∈ wT := mem_wT (tb1 (List.mem_of_getElem? (i := 71) rfl)) rfl
theorem t_73 : (Jvm.Cond.lays "DeficitNet$Port" "DeficitNet$Port" "firstIsServed" "Z") ∈ wT := mem_wT (tb1 (List.mem_of_getElem? (i := 73) rfl)) rfl
theorem t_75 : (Jvm.Cond.laysFinal "DeficitNet$Port" "DeficitNet$Port" "queue" "[I") ∈ wT := mem_wT (tb1 (List.mem_of_getElem? (i := 75) rfl)) rfl
theorem t_77 : (Jvm.Cond.laysFinal "DeficitNet$Port" "DeficitNet$Port" "list" "[I") ∈ wT := mem_wT (tb1 (List.mem_of_getElem? (i := 77) rfl)) rfl
theorem t_79 : (Jvm.Cond.laysFinal "DeficitNet$Port" "DeficitNet$Port" "deficits" "[I") ∈ wT := mem_wT (tb1 (List.mem_of_getElem? (i := 79) rfl)) rfl
theorem t_90 : (Jvm.Cond.fieldLink "DeficitNet$Flow" (9 : Nat) "DeficitNet$Flow" "source" "I") ∈ wT := mem_wT (tb1 (List.mem_of_getElem? (i := 90) rfl)) rfl
theorem t_91 : (Jvm.Cond.fieldLink "DeficitNet$Packet" (31 : Nat) "DeficitNet$Flow" "source" "I") ∈ wT := mem_wT (tb1 (List.mem_of_getElem? (i := 91) rfl)) rfl
theorem t_92 : (Jvm.Cond.fieldLink "DeficitNet" (266 : Nat) "DeficitNet$Flow" "source" "I") ∈ wT := mem_wT (tb1 (List.mem_of_getElem? (i := 92) rfl)) rfl
theorem t_93 : (Jvm.Cond.fieldLink "DeficitNet$Flow" (15 : Nat) "DeficitNet$Flow" "sink" "I") ∈ wT := mem_wT (tb1 (List.mem_of_getElem? (i := 93) rfl)) rfl
theorem t_94 : (Jvm.Cond.fieldLink "DeficitNet$Packet" (34 : Nat) "DeficitNet$Flow" "sink" "I") ∈ wT := mem_wT (tb1 (List.mem_of_getElem? (i := 94) rfl)) rfl
theorem t_95 : (Jvm.Cond.fieldLink "DeficitNet" (248 : Nat) "DeficitNet$Flow" "sink" "I") ∈ wT := mem_wT (tb1 (List.mem_of_getElem? (i := 95) rfl)) rfl
theorem t_96 : (Jvm.Cond.fieldLink "DeficitNet$Flow" (18 : Nat) "DeficitNet$Flow" "count" "I") ∈ wT := mem_wT (tb1 (List.mem_of_getElem? (i := 96) rfl)) rfl
theorem t_97 : (Jvm.Cond.fieldLink "DeficitNet" (260 : Nat) "DeficitNet$Flow" "count" "I") ∈ wT := mem_wT (tb1 (List.mem_of_getElem? (i := 97) rfl)) rfl
theorem t_98 : (Jvm.Cond.fieldLink "DeficitNet$Flow" (21 : Nat) "DeficitNet$Flow" "size" "I") ∈ wT := mem_wT (tb1 (List.mem_of_getElem? (i := 98) rfl)) rfl
theorem t_99 : (Jvm.Cond.fieldLink "DeficitNet$Packet" (25 : Nat) "DeficitNet$Flow" "size" "I") ∈ wT := mem_wT (tb1 (List.mem_of_getElem? (i := 99) rfl)) rfl
theorem t_100 : (Jvm.Cond.fieldLink "DeficitNet$Flow" (24 : Nat) "DeficitNet$Flow" "window" "I") ∈ wT := mem_wT (tb1 (List.mem_of_getElem? (i := 100) rfl)) rfl
theorem t_101 : (Jvm.Cond.fieldLink "DeficitNet" (92 : Nat) "DeficitNet$Flow" "window" "I") ∈ wT := mem_wT (tb1 (List.mem_of_getElem? (i := 101) rfl)) rfl
theorem t_102 : (Jvm.Cond.fieldLink "DeficitNet$Flow" (27 : Nat) "DeficitNet$Flow" "patience" "I") ∈ wT := mem_wT (tb1 (List.mem_of_getElem? (i := 102) rfl)) rfl
theorem t_103 : (Jvm.Cond.fieldLink "DeficitNet" (95 : Nat) "DeficitNet$Flow" "patience" "I") ∈ wT := mem_wT (tb1 (List.mem_of_getElem? (i := 103) rfl)) rfl
theorem t_104 : (Jvm.Cond.fieldLink "DeficitNet$Flow" (30 : Nat) "DeficitNet$Flow" "birth" "I") ∈ wT := mem_wT (tb1 (List.mem_of_getElem? (i := 104) rfl)) rfl
theorem t_105 : (Jvm.Cond.fieldLink "DeficitNet" (98 : Nat) "DeficitNet$Flow" "birth" "I") ∈ wT := mem_wT (tb1 (List.mem_of_getElem? (i := 105) rfl)) rfl
theorem t_106 : (Jvm.Cond.fieldLink "DeficitNet$Flow" (33 : Nat) "DeficitNet$Flow" "base" "I") ∈ wT := mem_wT (tb1 (List.mem_of_getElem? (i := 106) rfl)) rfl
theorem t_107 : (Jvm.Cond.fieldLink "DeficitNet" (164 : Nat) "DeficitNet$Flow" "base" "I") ∈ wT := mem_wT (tb1 (List.mem_of_getElem? (i := 107) rfl)) rfl
theorem t_108 : (Jvm.Cond.fieldLink "DeficitNet$Flow" (36 : Nat) "DeficitNet$Flow" "next" "I") ∈ wT := mem_wT (tb1 (List.mem_of_getElem? (i := 108) rfl)) rfl
theorem t_109 : (Jvm.Cond.fieldLink "DeficitNet" (167 : Nat) "DeficitNet$Flow" "next" "I") ∈ wT := mem_wT (tb1 (List.mem_of_getElem? (i := 109) rfl)) rfl
theorem t_110 : (Jvm.Cond.fieldLink "DeficitNet$Flow" (39 : Nat) "DeficitNet$Flow" "expected" "I") ∈ wT := mem_wT (tb1 (List.mem_of_getElem? (i := 110) rfl)) rfl
theorem t_111 : (Jvm.Cond.fieldLink "DeficitNet" (170 : Nat) "DeficitNet$Flow" "expected" "I") ∈ wT := mem_wT (tb1 (List.mem_of_getElem? (i := 111) rfl)) rfl
theorem t_112 : (Jvm.Cond.fieldLink "DeficitNet$Flow" (42 : Nat) "DeficitNet$Flow" "made" "I") ∈ wT := mem_wT (tb1 (List.mem_of_getElem? (i := 112) rfl)) rfl
theorem t_113 : (Jvm.Cond.fieldLink "DeficitNet" (173 : Nat) "DeficitNet$Flow" "made" "I") ∈ wT := mem_wT (tb1 (List.mem_of_getElem? (i := 113) rfl)) rfl
theorem t_114 : (Jvm.Cond.fieldLink "DeficitNet$Flow" (45 : Nat) "DeficitNet$Flow" "arrived" "I") ∈ wT := mem_wT (tb1 (List.mem_of_getElem? (i := 114) rfl)) rfl
theorem t_115 : (Jvm.Cond.fieldLink "DeficitNet" (176 : Nat) "DeficitNet$Flow" "arrived" "I") ∈ wT := mem_wT (tb1 (List.mem_of_getElem? (i := 115) rfl)) rfl
theorem t_116 : (Jvm.Cond.fieldLink "DeficitNet$Flow" (48 : Nat) "DeficitNet$Flow" "lost" "I") ∈ wT := mem_wT (tb1 (List.mem_of_getElem? (i := 116) rfl)) rfl
theorem t_117 : (Jvm.Cond.fieldLink "DeficitNet" (179 : Nat) "DeficitNet$Flow" "lost" "I") ∈ wT := mem_wT (tb1 (List.mem_of_getElem? (i := 117) rfl)) rfl
theorem t_118 : (Jvm.Cond.fieldLink "DeficitNet$Flow" (51 : Nat) "DeficitNet$Flow" "timeouts" "I") ∈ wT := mem_wT (tb1 (List.mem_of_getElem? (i := 118) rfl)) rfl
theorem t_119 : (Jvm.Cond.fieldLink "DeficitNet" (182 : Nat) "DeficitNet$Flow" "timeouts" "I") ∈ wT := mem_wT (tb1 (List.mem_of_getElem? (i := 119) rfl)) rfl
theorem t_120 : (Jvm.Cond.lays "DeficitNet$Flow" "DeficitNet$Flow" "source" "I") ∈ wT := mem_wT (tb1 (List.mem_of_getElem? (i := 120) rfl)) rfl
theorem t_122 : (Jvm.Cond.lays "DeficitNet$Flow" "DeficitNet$Flow" "sink" "I") ∈ wT := mem_wT (tb1 (List.mem_of_getElem? (i := 122) rfl)) rfl
theorem t_124 : (Jvm.Cond.lays "DeficitNet$Flow" "DeficitNet$Flow" "count" "I") ∈ wT := mem_wT (tb1 (List.mem_of_getElem? (i := 124) rfl)) rfl
theorem t_126 : (Jvm.Cond.lays "DeficitNet$Flow" "DeficitNet$Flow" "size" "I") ∈ wT := mem_wT (tb1 (List.mem_of_getElem? (i := 126) rfl)) rfl
theorem t_128 : (Jvm.Cond.lays "DeficitNet$Flow" "DeficitNet$Flow" "window" "I") ∈ wT := mem_wT (tb1 (List.mem_of_getElem? (i := 128) rfl)) rfl
theorem t_130 : (Jvm.Cond.lays "DeficitNet$Flow" "DeficitNet$Flow" "patience" "I") ∈ wT := mem_wT (tb1 (List.mem_of_getElem? (i := 130) rfl)) rfl
theorem t_132 : (Jvm.Cond.lays "DeficitNet$Flow" "DeficitNet$Flow" "birth" "I") ∈ wT := mem_wT (tb1 (List.mem_of_getElem? (i := 132) rfl)) rfl
theorem t_134 : (Jvm.Cond.lays "DeficitNet$Flow" "DeficitNet$Flow" "base" "I") ∈ wT := mem_wT (tb1 (List.mem_of_getElem? (i := 134) rfl)) rfl
theorem t_136 : (Jvm.Cond.lays "DeficitNet$Flow" "DeficitNet$Flow" "next" "I") ∈ wT := mem_wT (tb1 (List.mem_of_getElem? (i := 136) rfl)) rfl
theorem t_138 : (Jvm.Cond.lays "DeficitNet$Flow" "DeficitNet$Flow" "expected" "I") ∈ wT := mem_wT (tb1 (List.mem_of_getElem? (i := 138) rfl)) rfl
theorem t_140 : (Jvm.Cond.lays "DeficitNet$Flow" "DeficitNet$Flow" "made" "I") ∈ wT := mem_wT (tb1 (List.mem_of_getElem? (i := 140) rfl)) rfl
theorem t_142 : (Jvm.Cond.lays "DeficitNet$Flow" "DeficitNet$Flow" "arrived" "I") ∈ wT := mem_wT (tb1 (List.mem_of_getElem? (i := 142) rfl)) rfl
theorem t_144 : (Jvm.Cond.lays "DeficitNet$Flow" "DeficitNet$Flow" "lost" "I") ∈ wT := mem_wT (tb1 (List.mem_of_getElem? (i := 144) rfl)) rfl
theorem t_146 : (Jvm.Cond.lays "DeficitNet$Flow" "DeficitNet$Flow" "timeouts" "I") ∈ wT := mem_wT (tb1 (List.mem_of_getElem? (i := 146) rfl)) rfl
theorem t_156 : (Jvm.Cond.fieldLink "DeficitNet$Packet" (9 : Nat) "DeficitNet$Packet" "inNet" "Z") ∈ wT := mem_wT (tb1 (List.mem_of_getElem? (i := 156) rfl)) rfl
theorem t_157 : (Jvm.Cond.fieldLink "DeficitNet" (110 : Nat) "DeficitNet$Packet" "inNet" "Z") ∈ wT := mem_wT (tb1 (List.mem_of_getElem? (i := 157) rfl)) rfl
theorem t_158 : (Jvm.Cond.fieldLink "DeficitNet$Packet" (15 : Nat) "DeficitNet$Packet" "isAnswer" "Z") ∈ wT := mem_wT (tb1 (List.mem_of_getElem? (i := 158) rfl)) rfl
theorem t_159 : (Jvm.Cond.fieldLink "DeficitNet" (232 : Nat) "DeficitNet$Packet" "isAnswer" "Z") ∈ wT := mem_wT (tb1 (List.mem_of_getElem? (i := 159) rfl)) rfl
theorem t_160 : (Jvm.Cond.fieldLink "DeficitNet$Packet" (18 : Nat) "DeficitNet$Packet" "flow" "I") ∈ wT := mem_wT (tb1 (List.mem_of_getElem? (i := 160) rfl)) rfl
theorem t_161 : (Jvm.Cond.fieldLink "DeficitNet" (151 : Nat) "DeficitNet$Packet" "flow" "I") ∈ wT := mem_wT (tb1 (List.mem_of_getElem? (i := 161) rfl)) rfl
theorem t_162 : (Jvm.Cond.fieldLink "DeficitNet$Packet" (22 : Nat) "DeficitNet$Packet" "number" "I") ∈ wT := mem_wT (tb1 (List.mem_of_getElem? (i := 162) rfl)) rfl
theorem t_163 : (Jvm.Cond.fieldLink "DeficitNet" (235 : Nat) "DeficitNet$Packet" "number" "I") ∈ wT := mem_wT (tb1 (List.mem_of_getElem? (i := 163) rfl)) rfl
theorem t_164 : (Jvm.Cond.fieldLink "DeficitNet$Packet" (30 : Nat) "DeficitNet$Packet" "size" "I") ∈ wT := mem_wT (tb1 (List.mem_of_getElem? (i := 164) rfl)) rfl
theorem t_165 : (Jvm.Cond.fieldLink "DeficitNet" (291 : Nat) "DeficitNet$Packet" "size" "I") ∈ wT := mem_wT (tb1 (List.mem_of_getElem? (i := 165) rfl)) rfl
theorem t_166 : (Jvm.Cond.fieldLink "DeficitNet$Packet" (37 : Nat) "DeficitNet$Packet" "end" "I") ∈ wT := mem_wT (tb1 (List.mem_of_getElem? (i := 166) rfl)) rfl
theorem t_167 : (Jvm.Cond.fieldLink "DeficitNet" (225 : Nat) "DeficitNet$Packet" "end" "I") ∈ wT := mem_wT (tb1 (List.mem_of_getElem? (i := 167) rfl)) rfl
theorem t_168 : (Jvm.Cond.fieldLink "DeficitNet" (215 : Nat) "DeficitNet$Packet" "port" "I") ∈ wT := mem_wT (tb1 (List.mem_of_getElem? (i := 168) rfl)) rfl
theorem t_169 : (Jvm.Cond.lays "DeficitNet$Packet" "DeficitNet$Packet" "inNet" "Z") ∈ wT := mem_wT (tb1 (List.mem_of_getElem? (i := 169) rfl)) rfl
theorem t_171 : (Jvm.Cond.lays "DeficitNet$Packet" "DeficitNet$Packet" "isAnswer" "Z") ∈ wT := mem_wT (tb1 (List.mem_of_getElem? (i := 171) rfl)) rfl
theorem t_173 : (Jvm.Cond.lays "DeficitNet$Packet" "DeficitNet$Packet" "flow" "I") ∈ wT := mem_wT (tb1 (List.mem_of_getElem? (i := 173) rfl)) rfl
theorem t_175 : (Jvm.Cond.lays "DeficitNet$Packet" "DeficitNet$Packet" "number" "I") ∈ wT := mem_wT (tb1 (List.mem_of_getElem? (i := 175) rfl)) rfl
theorem t_177 : (Jvm.Cond.lays "DeficitNet$Packet" "DeficitNet$Packet" "size" "I") ∈ wT := mem_wT (tb1 (List.mem_of_getElem? (i := 177) rfl)) rfl
theorem t_179 : (Jvm.Cond.lays "DeficitNet$Packet" "DeficitNet$Packet" "end" "I") ∈ wT := mem_wT (tb1 (List.mem_of_getElem? (i := 179) rfl)) rfl
theorem t_181 : (Jvm.Cond.lays "DeficitNet$Packet" "DeficitNet$Packet" "port" "I") ∈ wT := mem_wT (tb1 (List.mem_of_getElem? (i := 181) rfl)) rfl
theorem t_190 : (Jvm.Cond.fieldLink "DeficitNet$Agenda" (9 : Nat) "DeficitNet$Agenda" "kinds" "[I") ∈ wT := mem_wT (tb1 (List.mem_of_getElem? (i := 190) rfl)) rfl
theorem t_191 : (Jvm.Cond.fieldLink "DeficitNet" (191 : Nat) "DeficitNet$Agenda" "kinds" "[I") ∈ wT := mem_wT (tb1 (List.mem_of_getElem? (i := 191) rfl)) rfl
theorem t_192 : (Jvm.Cond.fieldLink "DeficitNet$Agenda" (15 : Nat) "DeficitNet$Agenda" "ticks" "[I") ∈ wT := mem_wT (tb1 (List.mem_of_getElem? (i := 192) rfl)) rfl
theorem t_193 : (Jvm.Cond.fieldLink "DeficitNet" (161 : Nat) "DeficitNet$Agenda" "ticks" "[I") ∈ wT := mem_wT (tb1 (List.mem_of_getElem? (i := 193) rfl)) rfl
theorem t_194 : (Jvm.Cond.fieldLink "DeficitNet$Agenda" (18 : Nat) "DeficitNet$Agenda" "turns" "[I") ∈ wT := mem_wT (tb1 (List.mem_of_getElem? (i := 194) rfl)) rfl
theorem t_195 : (Jvm.Cond.fieldLink "DeficitNet$Agenda" (27 : Nat) "DeficitNet$Agenda" "turn" "I") ∈ wT := mem_wT (tb1 (List.mem_of_getElem? (i := 195) rfl)) rfl
theorem t_196 : (Jvm.Cond.laysFinal "DeficitNet$Agenda" "DeficitNet$Agenda" "kinds" "[I") ∈ wT := mem_wT (tb1 (List.mem_of_getElem? (i := 196) rfl)) rfl
theorem t_198 : (Jvm.Cond.laysFinal "DeficitNet$Agenda" "DeficitNet$Agenda" "ticks" "[I") ∈ wT := mem_wT (tb1 (List.mem_of_getElem? (i := 198) rfl)) rfl
theorem t_200 : (Jvm.Cond.laysFinal "DeficitNet$Agenda" "DeficitNet$Agenda" "turns" "[I") ∈ wT := mem_wT (tb1 (List.mem_of_getElem? (i := 200) rfl)) rfl
theorem t_202 : (Jvm.Cond.lays "DeficitNet$Agenda" "DeficitNet$Agenda" "turn" "I") ∈ wT := mem_wT (tb1 (List.mem_of_getElem? (i := 202) rfl)) rfl
theorem t_206 : (Jvm.Cond.instanceMethod ({ cls := "DeficitNet", name := "clear", desc := "()V" } : Jvm.MethodName)) ∈ wT := mem_wT (tb1 (List.mem_of_getElem? (i := 206) rfl)) rfl
theorem t_207 : (Jvm.Cond.selects "DeficitNet" ({ cls := "DeficitNet", name := "clear", desc := "()V" } : Jvm.MethodName) ({ cls := "DeficitNet", name := "clear", desc := "()V" } : Jvm.MethodName)) ∈ wT := mem_wT (tb1 (List.mem_of_getElem? (i := 207) rfl)) rfl
theorem t_208 : (Jvm.Cond.code ({ cls := "DeficitNet", name := "clear", desc := "()V" } : Jvm.MethodName) prog_1_method_6_code (2 : Nat) (Option.none : Option Jvm.ClassFile.FieldType)) ∈ wT := mem_wT (tb1 (List.mem_of_getElem? (i := 208) rfl)) rfl
theorem t_209 : (Jvm.Cond.methodLink "DeficitNet" (104 : Nat) ({ cls := "java/util/Arrays", name := "fill", desc := "([II)V" } : Jvm.MethodName)) ∈ wT := mem_wT (tb1 (List.mem_of_getElem? (i := 209) rfl)) rfl
theorem t_210 : (Jvm.Cond.static ({ cls := "java/util/Arrays", name := "fill", desc := "([II)V" } : Jvm.MethodName)) ∈ wT := mem_wT (tb1 (List.mem_of_getElem? (i := 210) rfl)) rfl
theorem t_211 : (Jvm.Cond.code ({ cls := "java/util/Arrays", name := "fill", desc := "([II)V" } : Jvm.MethodName) prog_10_method_103_code (4 : Nat) (Option.none : Option Jvm.ClassFile.FieldType)) ∈ wT := mem_wT (tb1 (List.mem_of_getElem? (i := 211) rfl)) rfl
theorem t_212 : (Jvm.Cond.methodLink "DeficitNet" (113 : Nat) ({ cls := "DeficitNet$Agenda", name := "unsetAll", desc := "()V" } : Jvm.MethodName)) ∈ wT := mem_wT (tb1 (List.mem_of_getElem? (i := 212) rfl)) rfl
theorem t_213 : (Jvm.Cond.instanceMethod ({ cls := "DeficitNet$Agenda", name := "unsetAll", desc := "()V" } : Jvm.MethodName)) ∈ wT := mem_wT (tb1 (List.mem_of_getElem? (i := 213) rfl)) rfl
theorem t_214 : (Jvm.Cond.selects "DeficitNet$Agenda" ({ cls := "DeficitNet$Agenda", name := "unsetAll", desc := "()V" } : Jvm.MethodName) ({ cls := "DeficitNet$Agenda", name := "unsetAll", desc := "()V" } : Jvm.MethodName)) ∈ wT := mem_wT (tb1 (List.mem_of_getElem? (i := 214) rfl)) rfl
theorem t_215 : (Jvm.Cond.code ({ cls := "DeficitNet$Agenda", name := "unsetAll", desc := "()V" } : Jvm.MethodName) prog_2_method_2_code (1 : Nat) (Option.none : Option Jvm.ClassFile.FieldType)) ∈ wT := mem_wT (tb1 (List.mem_of_getElem? (i := 215) rfl)) rfl
theorem t_216 : (Jvm.Cond.methodLink "DeficitNet$Agenda" (21 : Nat) ({ cls := "java/util/Arrays", name := "fill", desc := "([II)V" } : Jvm.MethodName)) ∈ wT := mem_wT (tb1 (List.mem_of_getElem? (i := 216) rfl)) rfl
theorem t_217 : (Jvm.Cond.constantLong "DeficitNet" (116 : Nat) (-1 : Int64)) ∈ wT := mem_wT (tb1 (List.mem_of_getElem? (i := 217) rfl)) rfl
theorem t_218 : (Jvm.Cond.methodLink "DeficitNet" (118 : Nat) ({ cls := "java/util/Arrays", name := "fill", desc := "([JJ)V" } : Jvm.MethodName)) ∈ wT := mem_wT (tb1 (List.mem_of_getElem? (i := 218) rfl)) rfl
theorem t_219 : (Jvm.Cond.static ({ cls := "java/util/Arrays", name := "fill", desc := "([JJ)V" } : Jvm.MethodName)) ∈ wT := mem_wT (tb1 (List.mem_of_getElem? (i := 219) rfl)) rfl
theorem t_220 : (Jvm.Cond.code ({ cls := "java/util/Arrays", name := "fill", desc := "([JJ)V" } : Jvm.MethodName) prog_10_method_101_code (5 : Nat) (Option.none : Option Jvm.ClassFile.FieldType)) ∈ wT := mem_wT (tb1 (List.mem_of_getElem? (i := 220) rfl)) rfl
theorem t_221 : (Jvm.Cond.fieldLink "DeficitNet" (11 : Nat) "DeficitNet" "distances" "[[I") ∈ wT := mem_wT (tb1 (List.mem_of_getElem? (i := 221) rfl)) rfl
theorem t_222 : (Jvm.Cond.fieldLink "DeficitNet" (16 : Nat) "DeficitNet" "ports" "[LDeficitNet$Port;") ∈ wT := mem_wT (tb1 (List.mem_of_getElem? (i := 222) rfl)) rfl
theorem t_223 : (Jvm.Cond.fieldLink "DeficitNet" (23 : Nat) "DeficitNet" "flows" "[LDeficitNet$Flow;") ∈ wT := mem_wT (tb1 (List.mem_of_getElem? (i := 223) rfl)) rfl
theorem t_224 : (Jvm.Cond.fieldLink "DeficitNet" (30 : Nat) "DeficitNet" "packets" "[LDeficitNet$Packet;") ∈ wT := mem_wT (tb1 (List.mem_of_getElem? (i := 224) rfl)) rfl
theorem t_225 : (Jvm.Cond.fieldLink "DeficitNet" (38 : Nat) "DeficitNet" "agenda" "LDeficitNet$Agenda;") ∈ wT := mem_wT (tb1 (List.mem_of_getElem? (i := 225) rfl)) rfl
theorem t_226 : (Jvm.Cond.fieldLink "DeficitNet" (42 : Nat) "DeficitNet" "latest" "[J") ∈ wT := mem_wT (tb1 (List.mem_of_getElem? (i := 226) rfl)) rfl
theorem t_227 : (Jvm.Cond.fieldLink "DeficitNet" (53 : Nat) "DeficitNet" "linkCount" "I") ∈ wT := mem_wT (tb1 (List.mem_of_getElem? (i := 227) rfl)) rfl
theorem t_228 : (Jvm.Cond.fieldLink "DeficitNet" (82 : Nat) "DeficitNet" "flowCount" "I") ∈ wT := mem_wT (tb1 (List.mem_of_getElem? (i := 228) rfl)) rfl
theorem t_229 : (Jvm.Cond.fieldLink "DeficitNet" (101 : Nat) "DeficitNet" "nowTick" "I") ∈ wT := mem_wT (tb1 (List.mem_of_getElem? (i := 229) rfl)) rfl
theorem t_230 : (Jvm.Cond.fieldLink "DeficitNet" (49 : Nat) "DeficitNet" "begun" "Z") ∈ wT := mem_wT (tb1 (List.mem_of_getElem? (i := 230) rfl)) rfl
theorem t_231 : (Jvm.Cond.laysFinal "DeficitNet" "DeficitNet" "distances" "[[I") ∈ wT := mem_wT (tb1 (List.mem_of_getElem? (i := 231) rfl)) rfl
theorem t_233 : (Jvm.Cond.laysFinal "DeficitNet" "DeficitNet" "ports" "[LDeficitNet$Port;") ∈ wT := mem_wT (tb1 (List.mem_of_getElem? (i := 233) rfl)) rfl
theorem t_235 : (Jvm.Cond.laysFinal "DeficitNet" "DeficitNet" "flows" "[LDeficitNet$Flow;") ∈ wT := mem_wT (tb1 (List.mem_of_getElem? (i := 235) rfl)) rfl
theorem t_237 : (Jvm.Cond.laysFinal "DeficitNet" "DeficitNet" "packets" "[LDeficitNet$Packet;") ∈ wT := mem_wT (tb1 (List.mem_of_getElem? (i := 237) rfl)) rfl
theorem t_239 : (Jvm.Cond.laysFinal "DeficitNet" "DeficitNet" "agenda" "LDeficitNet$Agenda;") ∈ wT := mem_wT (tb1 (List.mem_of_getElem? (i := 239) rfl)) rfl
theorem t_241 : (Jvm.Cond.laysFinal "DeficitNet" "DeficitNet" "latest" "[J") ∈ wT := mem_wT (tb2 (List.mem_of_getElem? (i := 1) rfl)) rfl
theorem t_243 : (Jvm.Cond.lays "DeficitNet" "DeficitNet" "linkCount" "I") ∈ wT := mem_wT (tb2 (List.mem_of_getElem? (i := 3) rfl)) rfl
theorem t_245 : (Jvm.Cond.lays "DeficitNet" "DeficitNet" "flowCount" "I") ∈ wT := mem_wT (tb2 (List.mem_of_getElem? (i := 5) rfl)) rfl
theorem t_247 : (Jvm.Cond.lays "DeficitNet" "DeficitNet" "nowTick" "I") ∈ wT := mem_wT (tb2 (List.mem_of_getElem? (i := 7) rfl)) rfl
theorem t_249 : (Jvm.Cond.lays "DeficitNet" "DeficitNet" "begun" "Z") ∈ wT := mem_wT (tb2 (List.mem_of_getElem? (i := 9) rfl)) rfl
theorem t_254 : (Jvm.Cond.instanceMethod ({ cls := "DeficitNet", name := "link", desc := "(IIIII)I" } : Jvm.MethodName)) ∈ wT := mem_wT (tb2 (List.mem_of_getElem? (i := 14) rfl)) rfl
theorem t_255 : (Jvm.Cond.selects "DeficitNet" ({ cls := "DeficitNet", name := "link", desc := "(IIIII)I" } : Jvm.MethodName) ({ cls := "DeficitNet", name := "link", desc := "(IIIII)I" } : Jvm.MethodName)) ∈ wT := mem_wT (tb2 (List.mem_of_getElem? (i := 15) rfl)) rfl
theorem t_256 : (Jvm.Cond.code ({ cls := "DeficitNet", name := "link", desc := "(IIIII)I" } : Jvm.MethodName) prog_1_method_2_code (7 : Nat) (Option.some Jvm.ClassFile.FieldType.int)) ∈ wT := mem_wT (tb2 (List.mem_of_getElem? (i := 16) rfl)) rfl
theorem t_257 : (Jvm.Cond.methodLink "DeficitNet" (57 : Nat) ({ cls := "DeficitNet", name := "isNode", desc := "(I)Z" } : Jvm.MethodName)) ∈ wT := mem_wT (tb2 (List.mem_of_getElem? (i := 17) rfl)) rfl
theorem t_258 : (Jvm.Cond.static ({ cls := "DeficitNet", name := "isNode", desc := "(I)Z" } : Jvm.MethodName)) ∈ wT := mem_wT (tb2 (List.mem_of_getElem? (i := 18) rfl)) rfl
theorem t_259 : (Jvm.Cond.code ({ cls := "DeficitNet", name := "isNode", desc := "(I)Z" } : Jvm.MethodName) prog_1_method_19_code (1 : Nat) (Option.some Jvm.ClassFile.FieldType.boolean)) ∈ wT := mem_wT (tb2 (List.mem_of_getElem? (i := 19) rfl)) rfl
theorem t_260 : (Jvm.Cond.methodLink "DeficitNet" (61 : Nat) ({ cls := "DeficitNet", name := "isWithin", desc := "(III)Z" } : Jvm.MethodName)) ∈ wT := mem_wT (tb2 (List.mem_of_getElem? (i := 20) rfl)) rfl
theorem t_261 : (Jvm.Cond.static ({ cls := "DeficitNet", name := "isWithin", desc := "(III)Z" } : Jvm.MethodName)) ∈ wT := mem_wT (tb2 (List.mem_of_getElem? (i := 21) rfl)) rfl
theorem t_262 : (Jvm.Cond.code ({ cls := "DeficitNet", name := "isWithin", desc := "(III)Z" } : Jvm.MethodName) prog_1_method_18_code (3 : Nat) (Option.some Jvm.ClassFile.FieldType.boolean)) ∈ wT := mem_wT (tb2 (List.mem_of_getElem? (i := 22) rfl)) rfl
theorem t_263 : (Jvm.Cond.methodLink "DeficitNet" (65 : Nat) ({ cls := "DeficitNet$Port", name := "lay", desc := "(IIIII)V" } : Jvm.MethodName)) ∈ wT := mem_wT (tb2 (List.mem_of_getElem? (i := 23) rfl)) rfl
theorem t_264 : (Jvm.Cond.instanceMethod ({ cls := "DeficitNet$Port", name := "lay", desc := "(IIIII)V" } : Jvm.MethodName)) ∈ wT := mem_wT (tb2 (List.mem_of_getElem? (i := 24) rfl)) rfl
theorem t_265 : (Jvm.Cond.selects "DeficitNet$Port" ({ cls := "DeficitNet$Port", name := "lay", desc := "(IIIII)V" } : Jvm.MethodName) ({ cls := "DeficitNet$Port", name := "lay", desc := "(IIIII)V" } : Jvm.MethodName)) ∈ wT := mem_wT (tb2 (List.mem_of_getElem? (i := 25) rfl)) rfl
theorem t_266 : (Jvm.Cond.code ({ cls := "DeficitNet$Port", name := "lay", desc := "(IIIII)V" } : Jvm.MethodName) prog_5_method_2_code (6 : Nat) (Option.none : Option Jvm.ClassFile.FieldType)) ∈ wT := mem_wT (tb2 (List.mem_of_getElem? (i := 26) rfl)) rfl
theorem t_267 : (Jvm.Cond.methodLink "DeficitNet$Port" (56 : Nat) ({ cls := "java/util/Arrays", name := "fill", desc := "([II)V" } : Jvm.MethodName)) ∈ wT := mem_wT (tb2 (List.mem_of_getElem? (i := 27) rfl)) rfl
theorem t_268 : (Jvm.Cond.methodLink "DeficitNet" (69 : Nat) ({ cls := "DeficitNet", name := "shortenOver", desc := "(III)V" } : Jvm.MethodName)) ∈ wT := mem_wT (tb2 (List.mem_of_getElem? (i := 28) rfl)) rfl
theorem t_270 : (Jvm.Cond.instanceMethod ({ cls := "DeficitNet", name := "shortenOver", desc := "(III)V" } : Jvm.MethodName)) ∈ wT := mem_wT (tb2 (List.mem_of_getElem? (i := 30) rfl)) rfl
theorem t_271 : (Jvm.Cond.code ({ cls := "DeficitNet", name := "shortenOver", desc := "(III)V" } : Jvm.MethodName) prog_1_method_22_code (7 : Nat) (Option.none : Option Jvm.ClassFile.FieldType)) ∈ wT := mem_wT (tb2 (List.mem_of_getElem? (i := 31) rfl)) rfl
theorem t_273 : (Jvm.Cond.instanceMethod ({ cls := "DeficitNet", name := "shape", desc := "(III)Z" } : Jvm.MethodName)) ∈ wT := mem_wT (tb2 (List.mem_of_getElem? (i := 33) rfl)) rfl
theorem t_274 : (Jvm.Cond.selects "DeficitNet" ({ cls := "DeficitNet", name := "shape", desc := "(III)Z" } : Jvm.MethodName) ({ cls := "DeficitNet", name := "shape", desc := "(III)Z" } : Jvm.MethodName)) ∈ wT := mem_wT (tb2 (List.mem_of_getElem? (i := 34) rfl)) rfl
theorem t_275 : (Jvm.Cond.code ({ cls := "DeficitNet", name := "shape", desc := "(III)Z" } : Jvm.MethodName) prog_1_method_3_code (4 : Nat) (Option.some Jvm.ClassFile.FieldType.boolean)) ∈ wT := mem_wT (tb2 (List.mem_of_getElem? (i := 35) rfl)) rfl
theorem t_276 : (Jvm.Cond.methodLink "DeficitNet" (73 : Nat) ({ cls := "DeficitNet", name := "isPort", desc := "(I)Z" } : Jvm.MethodName)) ∈ wT := mem_wT (tb2 (List.mem_of_getElem? (i := 36) rfl)) rfl
theorem t_278 : (Jvm.Cond.instanceMethod ({ cls := "DeficitNet", name := "isPort", desc := "(I)Z" } : Jvm.MethodName)) ∈ wT := mem_wT (tb2 (List.mem_of_getElem? (i := 38) rfl)) rfl
theorem t_279 : (Jvm.Cond.code ({ cls := "DeficitNet", name := "isPort", desc := "(I)Z" } : Jvm.MethodName) prog_1_method_20_code (2 : Nat) (Option.some Jvm.ClassFile.FieldType.boolean)) ∈ wT := mem_wT (tb2 (List.mem_of_getElem? (i := 39) rfl)) rfl
theorem t_281 : (Jvm.Cond.instanceMethod ({ cls := "DeficitNet", name := "flow", desc := "(IIII)I" } : Jvm.MethodName)) ∈ wT := mem_wT (tb2 (List.mem_of_getElem? (i := 41) rfl)) rfl
theorem t_282 : (Jvm.Cond.selects "DeficitNet" ({ cls := "DeficitNet", name := "flow", desc := "(IIII)I" } : Jvm.MethodName) ({ cls := "DeficitNet", name := "flow", desc := "(IIII)I" } : Jvm.MethodName)) ∈ wT := mem_wT (tb2 (List.mem_of_getElem? (i := 42) rfl)) rfl
theorem t_283 : (Jvm.Cond.code ({ cls := "DeficitNet", name := "flow", desc := "(IIII)I" } : Jvm.MethodName) prog_1_method_4_code (6 : Nat) (Option.some Jvm.ClassFile.FieldType.int)) ∈ wT := mem_wT (tb2 (List.mem_of_getElem? (i := 43) rfl)) rfl
theorem t_284 : (Jvm.Cond.methodLink "DeficitNet" (85 : Nat) ({ cls := "DeficitNet$Flow", name := "found", desc := "(IIII)V" } : Jvm.MethodName)) ∈ wT := mem_wT (tb2 (List.mem_of_getElem? (i := 44) rfl)) rfl
theorem t_285 : (Jvm.Cond.instanceMethod ({ cls := "DeficitNet$Flow", name := "found", desc := "(IIII)V" } : Jvm.MethodName)) ∈ wT := mem_wT (tb2 (List.mem_of_getElem? (i := 45) rfl)) rfl
theorem t_286 : (Jvm.Cond.selects "DeficitNet$Flow" ({ cls := "DeficitNet$Flow", name := "found", desc := "(IIII)V" } : Jvm.MethodName) ({ cls := "DeficitNet$Flow", name := "found", desc := "(IIII)V" } : Jvm.MethodName)) ∈ wT := mem_wT (tb2 (List.mem_of_getElem? (i := 46) rfl)) rfl
theorem t_287 : (Jvm.Cond.code ({ cls := "DeficitNet$Flow", name := "found", desc := "(IIII)V" } : Jvm.MethodName) prog_3_method_2_code (5 : Nat) (Option.none : Option Jvm.ClassFile.FieldType)) ∈ wT := mem_wT (tb2 (List.mem_of_getElem? (i := 47) rfl)) rfl
theorem t_289 : (Jvm.Cond.instanceMethod ({ cls := "DeficitNet", name := "tune", desc := "(IIII)Z" } : Jvm.MethodName)) ∈ wT := mem_wT (tb2 (List.mem_of_getElem? (i := 49) rfl)) rfl
theorem t_290 : (Jvm.Cond.selects "DeficitNet" ({ cls := "DeficitNet", name := "tune", desc := "(IIII)Z" } : Jvm.MethodName) ({ cls := "DeficitNet", name := "tune", desc := "(IIII)Z" } : Jvm.MethodName)) ∈ wT := mem_wT (tb2 (List.mem_of_getElem? (i := 50) rfl)) rfl
theorem t_291 : (Jvm.Cond.code ({ cls := "DeficitNet", name := "tune", desc := "(IIII)Z" } : Jvm.MethodName) prog_1_method_5_code (5 : Nat) (Option.some Jvm.ClassFile.FieldType.boolean)) ∈ wT := mem_wT (tb2 (List.mem_of_getElem? (i := 51) rfl)) rfl
theorem t_292 : (Jvm.Cond.methodLink "DeficitNet" (89 : Nat) ({ cls := "DeficitNet", name := "isFlow", desc := "(I)Z" } : Jvm.MethodName)) ∈ wT := mem_wT (tb2 (List.mem_of_getElem? (i := 52) rfl)) rfl
theorem t_294 : (Jvm.Cond.instanceMethod ({ cls := "DeficitNet", name := "isFlow", desc := "(I)Z" } : Jvm.MethodName)) ∈ wT := mem_wT (tb2 (List.mem_of_getElem? (i := 54) rfl)) rfl
theorem t_295 : (Jvm.Cond.code ({ cls := "DeficitNet", name := "isFlow", desc := "(I)Z" } : Jvm.MethodName) prog_1_method_21_code (2 : Nat) (Option.some Jvm.ClassFile.FieldType.boolean)) ∈ wT := mem_wT (tb2 (List.mem_of_getElem? (i := 55) rfl)) rfl
theorem t_298 : (Jvm.Cond.instanceMethod ({ cls := "DeficitNet", name := "step", desc := "()Z" } : Jvm.MethodName)) ∈ wT := mem_wT (tb2 (List.mem_of_getElem? (i := 58) rfl)) rfl
theorem t_299 : (Jvm.Cond.selects "DeficitNet" ({ cls := "DeficitNet", name := "step", desc := "()Z" } : Jvm.MethodName) ({ cls := "DeficitNet", name := "step", desc := "()Z" } : Jvm.MethodName)) ∈ wT := mem_wT (tb2 (List.mem_of_getElem? (i := 59) rfl)) rfl
theorem t_300 : (Jvm.Cond.code ({ cls := "DeficitNet", name := "step", desc := "()Z" } : Jvm.MethodName) prog_1_method_7_code (1 : Nat) (Option.some Jvm.ClassFile.FieldType.boolean)) ∈ wT := mem_wT (tb2 (List.mem_of_getElem? (i := 60) rfl)) rfl
theorem t_301 : (Jvm.Cond.methodLink "DeficitNet" (121 : Nat) ({ cls := "DeficitNet", name := "begin", desc := "()V" } : Jvm.MethodName)) ∈ wT := mem_wT (tb2 (List.mem_of_getElem? (i := 61) rfl)) rfl
theorem t_303 : (Jvm.Cond.instanceMethod ({ cls := "DeficitNet", name := "begin", desc := "()V" } : Jvm.MethodName)) ∈ wT := mem_wT (tb2 (List.mem_of_getElem? (i := 63) rfl)) rfl
theorem t_304 : (Jvm.Cond.code ({ cls := "DeficitNet", name := "begin", desc := "()V" } : Jvm.MethodName) prog_1_method_23_code (2 : Nat) (Option.none : Option Jvm.ClassFile.FieldType)) ∈ wT := mem_wT (tb2 (List.mem_of_getElem? (i := 64) rfl)) rfl
theorem t_305 : (Jvm.Cond.methodLink "DeficitNet" (185 : Nat) ({ cls := "DeficitNet$Agenda", name := "set", desc := "(III)V" } : Jvm.MethodName)) ∈ wT := mem_wT (tb2 (List.mem_of_getElem? (i := 65) rfl)) rfl
theorem t_306 : (Jvm.Cond.instanceMethod ({ cls := "DeficitNet$Agenda", name := "set", desc := "(III)V" } : Jvm.MethodName)) ∈ wT := mem_wT (tb2 (List.mem_of_getElem? (i := 66) rfl)) rfl
theorem t_307 : (Jvm.Cond.selects "DeficitNet$Agenda" ({ cls := "DeficitNet$Agenda", name := "set", desc := "(III)V" } : Jvm.MethodName) ({ cls := "DeficitNet$Agenda", name := "set", desc := "(III)V" } : Jvm.MethodName)) ∈ wT := mem_wT (tb2 (List.mem_of_getElem? (i := 67) rfl)) rfl
theorem t_308 : (Jvm.Cond.code ({ cls := "DeficitNet$Agenda", name := "set", desc := "(III)V" } : Jvm.MethodName) prog_2_method_4_code (4 : Nat) (Option.none : Option Jvm.ClassFile.FieldType)) ∈ wT := mem_wT (tb2 (List.mem_of_getElem? (i := 68) rfl)) rfl
theorem t_309 : (Jvm.Cond.methodLink "DeficitNet" (124 : Nat) ({ cls := "DeficitNet", name := "happen", desc := "()Z" } : Jvm.MethodName)) ∈ wT := mem_wT (tb2 (List.mem_of_getElem? (i := 69) rfl)) rfl
theorem t_311 : (Jvm.Cond.instanceMethod ({ cls := "DeficitNet", name := "happen", desc := "()Z" } : Jvm.MethodName)) ∈ wT := mem_wT (tb2 (List.mem_of_getElem? (i := 71) rfl)) rfl
theorem t_312 : (Jvm.Cond.code ({ cls := "DeficitNet", name := "happen", desc := "()Z" } : Jvm.MethodName) prog_1_method_24_code (3 : Nat) (Option.some Jvm.ClassFile.FieldType.boolean)) ∈ wT := mem_wT (tb2 (List.mem_of_getElem? (i := 72) rfl)) rfl
theorem t_313 : (Jvm.Cond.methodLink "DeficitNet" (188 : Nat) ({ cls := "DeficitNet$Agenda", name := "firstSlot", desc := "()I" } : Jvm.MethodName)) ∈ wT := mem_wT (tb2 (List.mem_of_getElem? (i := 73) rfl)) rfl
theorem t_314 : (Jvm.Cond.instanceMethod ({ cls := "DeficitNet$Agenda", name := "firstSlot", desc := "()I" } : Jvm.MethodName)) ∈ wT := mem_wT (tb2 (List.mem_of_getElem? (i := 74) rfl)) rfl
theorem t_315 : (Jvm.Cond.selects "DeficitNet$Agenda" ({ cls := "DeficitNet$Agenda", name := "firstSlot", desc := "()I" } : Jvm.MethodName) ({ cls := "DeficitNet$Agenda", name := "firstSlot", desc := "()I" } : Jvm.MethodName)) ∈ wT := mem_wT (tb2 (List.mem_of_getElem? (i := 75) rfl)) rfl
theorem t_316 : (Jvm.Cond.code ({ cls := "DeficitNet$Agenda", name := "firstSlot", desc := "()I" } : Jvm.MethodName) prog_2_method_5_code (3 : Nat) (Option.some Jvm.ClassFile.FieldType.int)) ∈ wT := mem_wT (tb2 (List.mem_of_getElem? (i := 76) rfl)) rfl
theorem t_317 : (Jvm.Cond.methodLink "DeficitNet$Agenda" (31 : Nat) ({ cls := "DeficitNet$Agenda", name := "isBefore", desc := "(II)Z" } : Jvm.MethodName)) ∈ wT := mem_wT (tb2 (List.mem_of_getElem? (i := 77) rfl)) rfl
theorem t_318 : (Jvm.Cond.instanceMethod ({ cls := "DeficitNet$Agenda", name := "isBefore", desc := "(II)Z" } : Jvm.MethodName)) ∈ wT := mem_wT (tb2 (List.mem_of_getElem? (i := 78) rfl)) rfl
theorem t_319 : (Jvm.Cond.selects "DeficitNet$Agenda" ({ cls := "DeficitNet$Agenda", name := "isBefore", desc := "(II)Z" } : Jvm.MethodName) ({ cls := "DeficitNet$Agenda", name := "isBefore", desc := "(II)Z" } : Jvm.MethodName)) ∈ wT := mem_wT (tb2 (List.mem_of_getElem? (i := 79) rfl)) rfl
theorem t_320 : (Jvm.Cond.code ({ cls := "DeficitNet$Agenda", name := "isBefore", desc := "(II)Z" } : Jvm.MethodName) prog_2_method_6_code (3 : Nat) (Option.some Jvm.ClassFile.FieldType.boolean)) ∈ wT := mem_wT (tb2 (List.mem_of_getElem? (i := 80) rfl)) rfl
theorem t_321 : (Jvm.Cond.methodLink "DeficitNet" (194 : Nat) ({ cls := "DeficitNet$Agenda", name := "unset", desc := "(I)V" } : Jvm.MethodName)) ∈ wT := mem_wT (tb2 (List.mem_of_getElem? (i := 81) rfl)) rfl
theorem t_322 : (Jvm.Cond.instanceMethod ({ cls := "DeficitNet$Agenda", name := "unset", desc := "(I)V" } : Jvm.MethodName)) ∈ wT := mem_wT (tb2 (List.mem_of_getElem? (i := 82) rfl)) rfl
theorem t_323 : (Jvm.Cond.selects "DeficitNet$Agenda" ({ cls := "DeficitNet$Agenda", name := "unset", desc := "(I)V" } : Jvm.MethodName) ({ cls := "DeficitNet$Agenda", name := "unset", desc := "(I)V" } : Jvm.MethodName)) ∈ wT := mem_wT (tb2 (List.mem_of_getElem? (i := 83) rfl)) rfl
theorem t_324 : (Jvm.Cond.code ({ cls := "DeficitNet$Agenda", name := "unset", desc := "(I)V" } : Jvm.MethodName) prog_2_method_3_code (2 : Nat) (Option.none : Option Jvm.ClassFile.FieldType)) ∈ wT := mem_wT (tb2 (List.mem_of_getElem? (i := 84) rfl)) rfl
theorem t_325 : (Jvm.Cond.methodLink "DeficitNet" (198 : Nat) ({ cls := "DeficitNet", name := "start", desc := "(I)V" } : Jvm.MethodName)) ∈ wT := mem_wT (tb2 (List.mem_of_getElem? (i := 85) rfl)) rfl
theorem t_327 : (Jvm.Cond.instanceMethod ({ cls := "DeficitNet", name := "start", desc := "(I)V" } : Jvm.MethodName)) ∈ wT := mem_wT (tb2 (List.mem_of_getElem? (i := 87) rfl)) rfl
theorem t_328 : (Jvm.Cond.code ({ cls := "DeficitNet", name := "start", desc := "(I)V" } : Jvm.MethodName) prog_1_method_25_code (2 : Nat) (Option.none : Option Jvm.ClassFile.FieldType)) ∈ wT := mem_wT (tb2 (List.mem_of_getElem? (i := 88) rfl)) rfl
theorem t_329 : (Jvm.Cond.methodLink "DeficitNet" (210 : Nat) ({ cls := "DeficitNet", name := "remember", desc := "(III)V" } : Jvm.MethodName)) ∈ wT := mem_wT (tb2 (List.mem_of_getElem? (i := 89) rfl)) rfl
theorem t_331 : (Jvm.Cond.instanceMethod ({ cls := "DeficitNet", name := "remember", desc := "(III)V" } : Jvm.MethodName)) ∈ wT := mem_wT (tb2 (List.mem_of_getElem? (i := 91) rfl)) rfl
theorem t_332 : (Jvm.Cond.code ({ cls := "DeficitNet", name := "remember", desc := "(III)V" } : Jvm.MethodName) prog_1_method_39_code (4 : Nat) (Option.none : Option Jvm.ClassFile.FieldType)) ∈ wT := mem_wT (tb2 (List.mem_of_getElem? (i := 92) rfl)) rfl
theorem t_333 : (Jvm.Cond.methodLink "DeficitNet" (304 : Nat) ({ cls := "java/lang/System", name := "arraycopy", desc := "(Ljava/lang/Object;ILjava/lang/Object;II)V" } : Jvm.MethodName)) ∈ wT := mem_wT (tb2 (List.mem_of_getElem? (i := 93) rfl)) rfl
theorem t_334 : (Jvm.Cond.static ({ cls := "java/lang/System", name := "arraycopy", desc := "(Ljava/lang/Object;ILjava/lang/Object;II)V" } : Jvm.MethodName)) ∈ wT := mem_wT (tb2 (List.mem_of_getElem? (i := 94) rfl)) rfl
theorem t_335 : (Jvm.Cond.native ({ cls := "java/lang/System", name := "arraycopy", desc := "(Ljava/lang/Object;ILjava/lang/Object;II)V" } : Jvm.MethodName)) ∈ wT := mem_wT (tb2 (List.mem_of_getElem? (i := 95) rfl)) rfl
theorem t_336 : (Jvm.Cond.constantLong "DeficitNet" (310 : Nat) (1048576 : Int64)) ∈ wT := mem_wT (tb2 (List.mem_of_getElem? (i := 96) rfl)) rfl
theorem t_337 : (Jvm.Cond.constant "DeficitNet" (312 : Nat) (65536 : Int32)) ∈ wT := mem_wT (tb2 (List.mem_of_getElem? (i := 97) rfl)) rfl
theorem t_338 : (Jvm.Cond.methodLink "DeficitNet" (213 : Nat) ({ cls := "DeficitNet", name := "fill", desc := "(I)V" } : Jvm.MethodName)) ∈ wT := mem_wT (tb2 (List.mem_of_getElem? (i := 98) rfl)) rfl
theorem t_340 : (Jvm.Cond.instanceMethod ({ cls := "DeficitNet", name := "fill", desc := "(I)V" } : Jvm.MethodName)) ∈ wT := mem_wT (tb2 (List.mem_of_getElem? (i := 100) rfl)) rfl
theorem t_341 : (Jvm.Cond.code ({ cls := "DeficitNet", name := "fill", desc := "(I)V" } : Jvm.MethodName) prog_1_method_31_code (5 : Nat) (Option.none : Option Jvm.ClassFile.FieldType)) ∈ wT := mem_wT (tb2 (List.mem_of_getElem? (i := 101) rfl)) rfl
theorem t_342 : (Jvm.Cond.methodLink "DeficitNet" (263 : Nat) ({ cls := "java/lang/Math", name := "min", desc := "(II)I" } : Jvm.MethodName)) ∈ wT := mem_wT (tb2 (List.mem_of_getElem? (i := 102) rfl)) rfl
theorem t_343 : (Jvm.Cond.static ({ cls := "java/lang/Math", name := "min", desc := "(II)I" } : Jvm.MethodName)) ∈ wT := mem_wT (tb2 (List.mem_of_getElem? (i := 103) rfl)) rfl
theorem t_344 : (Jvm.Cond.code ({ cls := "java/lang/Math", name := "min", desc := "(II)I" } : Jvm.MethodName) prog_8_method_69_code (2 : Nat) (Option.some Jvm.ClassFile.FieldType.int)) ∈ wT := mem_wT (tb2 (List.mem_of_getElem? (i := 104) rfl)) rfl
theorem t_345 : (Jvm.Cond.methodLink "DeficitNet" (158 : Nat) ({ cls := "DeficitNet", name := "hasTimer", desc := "(I)Z" } : Jvm.MethodName)) ∈ wT := mem_wT (tb2 (List.mem_of_getElem? (i := 105) rfl)) rfl
theorem t_347 : (Jvm.Cond.instanceMethod ({ cls := "DeficitNet", name := "hasTimer", desc := "(I)Z" } : Jvm.MethodName)) ∈ wT := mem_wT (tb2 (List.mem_of_getElem? (i := 107) rfl)) rfl
theorem t_348 : (Jvm.Cond.code ({ cls := "DeficitNet", name := "hasTimer", desc := "(I)Z" } : Jvm.MethodName) prog_1_method_32_code (2 : Nat) (Option.some Jvm.ClassFile.FieldType.boolean)) ∈ wT := mem_wT (tb2 (List.mem_of_getElem? (i := 108) rfl)) rfl
theorem t_349 : (Jvm.Cond.methodLink "DeficitNet" (257 : Nat) ({ cls := "DeficitNet", name := "setTimer", desc := "(I)V" } : Jvm.MethodName)) ∈ wT := mem_wT (tb2 (List.mem_of_getElem? (i := 109) rfl)) rfl
theorem t_351 : (Jvm.Cond.instanceMethod ({ cls := "DeficitNet", name := "setTimer", desc := "(I)V" } : Jvm.MethodName)) ∈ wT := mem_wT (tb2 (List.mem_of_getElem? (i := 111) rfl)) rfl
theorem t_352 : (Jvm.Cond.code ({ cls := "DeficitNet", name := "setTimer", desc := "(I)V" } : Jvm.MethodName) prog_1_method_33_code (2 : Nat) (Option.none : Option Jvm.ClassFile.FieldType)) ∈ wT := mem_wT (tb2 (List.mem_of_getElem? (i := 112) rfl)) rfl
theorem t_353 : (Jvm.Cond.methodLink "DeficitNet" (244 : Nat) ({ cls := "DeficitNet", name := "make", desc := "(IIZ)I" } : Jvm.MethodName)) ∈ wT := mem_wT (tb2 (List.mem_of_getElem? (i := 113) rfl)) rfl
theorem t_355 : (Jvm.Cond.instanceMethod ({ cls := "DeficitNet", name := "make", desc := "(IIZ)I" } : Jvm.MethodName)) ∈ wT := mem_wT (tb2 (List.mem_of_getElem? (i := 115) rfl)) rfl
theorem t_356 : (Jvm.Cond.code ({ cls := "DeficitNet", name := "make", desc := "(IIZ)I" } : Jvm.MethodName) prog_1_method_34_code (5 : Nat) (Option.some Jvm.ClassFile.FieldType.int)) ∈ wT := mem_wT (tb2 (List.mem_of_getElem? (i := 116) rfl)) rfl
theorem t_357 : (Jvm.Cond.methodLink "DeficitNet" (269 : Nat) ({ cls := "DeficitNet$Packet", name := "enter", desc := "(IIZLDeficitNet$Flow;)V" } : Jvm.MethodName)) ∈ wT := mem_wT (tb2 (List.mem_of_getElem? (i := 117) rfl)) rfl
theorem t_358 : (Jvm.Cond.instanceMethod ({ cls := "DeficitNet$Packet", name := "enter", desc := "(IIZLDeficitNet$Flow;)V" } : Jvm.MethodName)) ∈ wT := mem_wT (tb2 (List.mem_of_getElem? (i := 118) rfl)) rfl
theorem t_359 : (Jvm.Cond.selects "DeficitNet$Packet" ({ cls := "DeficitNet$Packet", name := "enter", desc := "(IIZLDeficitNet$Flow;)V" } : Jvm.MethodName) ({ cls := "DeficitNet$Packet", name := "enter", desc := "(IIZLDeficitNet$Flow;)V" } : Jvm.MethodName)) ∈ wT := mem_wT (tb2 (List.mem_of_getElem? (i := 119) rfl)) rfl
theorem t_360 : (Jvm.Cond.code ({ cls := "DeficitNet$Packet", name := "enter", desc := "(IIZLDeficitNet$Flow;)V" } : Jvm.MethodName) prog_4_method_2_code (5 : Nat) (Option.none : Option Jvm.ClassFile.FieldType)) ∈ wT := mem_wT (tb2 (List.mem_of_getElem? (i := 120) rfl)) rfl
theorem t_361 : (Jvm.Cond.methodLink "DeficitNet" (228 : Nat) ({ cls := "DeficitNet", name := "put", desc := "(II)V" } : Jvm.MethodName)) ∈ wT := mem_wT (tb2 (List.mem_of_getElem? (i := 121) rfl)) rfl
theorem t_363 : (Jvm.Cond.instanceMethod ({ cls := "DeficitNet", name := "put", desc := "(II)V" } : Jvm.MethodName)) ∈ wT := mem_wT (tb2 (List.mem_of_getElem? (i := 123) rfl)) rfl
theorem t_364 : (Jvm.Cond.code ({ cls := "DeficitNet", name := "put", desc := "(II)V" } : Jvm.MethodName) prog_1_method_35_code (6 : Nat) (Option.none : Option Jvm.ClassFile.FieldType)) ∈ wT := mem_wT (tb2 (List.mem_of_getElem? (i := 124) rfl)) rfl
theorem t_365 : (Jvm.Cond.methodLink "DeficitNet" (273 : Nat) ({ cls := "DeficitNet", name := "way", desc := "(II)I" } : Jvm.MethodName)) ∈ wT := mem_wT (tb2 (List.mem_of_getElem? (i := 125) rfl)) rfl
theorem t_366 : (Jvm.Cond.instanceMethod ({ cls := "DeficitNet", name := "way", desc := "(II)I" } : Jvm.MethodName)) ∈ wT := mem_wT (tb2 (List.mem_of_getElem? (i := 126) rfl)) rfl
theorem t_367 : (Jvm.Cond.selects "DeficitNet" ({ cls := "DeficitNet", name := "way", desc := "(II)I" } : Jvm.MethodName) ({ cls := "DeficitNet", name := "way", desc := "(II)I" } : Jvm.MethodName)) ∈ wT := mem_wT (tb2 (List.mem_of_getElem? (i := 127) rfl)) rfl
theorem t_368 : (Jvm.Cond.code ({ cls := "DeficitNet", name := "way", desc := "(II)I" } : Jvm.MethodName) prog_1_method_12_code (5 : Nat) (Option.some Jvm.ClassFile.FieldType.int)) ∈ wT := mem_wT (tb2 (List.mem_of_getElem? (i := 128) rfl)) rfl
theorem t_369 : (Jvm.Cond.methodLink "DeficitNet" (140 : Nat) ({ cls := "DeficitNet", name := "queuedOf", desc := "(LDeficitNet$Port;I)I" } : Jvm.MethodName)) ∈ wT := mem_wT (tb2 (List.mem_of_getElem? (i := 129) rfl)) rfl
theorem t_371 : (Jvm.Cond.instanceMethod ({ cls := "DeficitNet", name := "queuedOf", desc := "(LDeficitNet$Port;I)I" } : Jvm.MethodName)) ∈ wT := mem_wT (tb2 (List.mem_of_getElem? (i := 131) rfl)) rfl
theorem t_372 : (Jvm.Cond.code ({ cls := "DeficitNet", name := "queuedOf", desc := "(LDeficitNet$Port;I)I" } : Jvm.MethodName) prog_1_method_37_code (5 : Nat) (Option.some Jvm.ClassFile.FieldType.int)) ∈ wT := mem_wT (tb2 (List.mem_of_getElem? (i := 132) rfl)) rfl
theorem t_373 : (Jvm.Cond.methodLink "DeficitNet" (276 : Nat) ({ cls := "DeficitNet$Port", name := "append", desc := "(I)V" } : Jvm.MethodName)) ∈ wT := mem_wT (tb2 (List.mem_of_getElem? (i := 133) rfl)) rfl
theorem t_374 : (Jvm.Cond.instanceMethod ({ cls := "DeficitNet$Port", name := "append", desc := "(I)V" } : Jvm.MethodName)) ∈ wT := mem_wT (tb2 (List.mem_of_getElem? (i := 134) rfl)) rfl
theorem t_375 : (Jvm.Cond.selects "DeficitNet$Port" ({ cls := "DeficitNet$Port", name := "append", desc := "(I)V" } : Jvm.MethodName) ({ cls := "DeficitNet$Port", name := "append", desc := "(I)V" } : Jvm.MethodName)) ∈ wT := mem_wT (tb2 (List.mem_of_getElem? (i := 135) rfl)) rfl
theorem t_376 : (Jvm.Cond.code ({ cls := "DeficitNet$Port", name := "append", desc := "(I)V" } : Jvm.MethodName) prog_5_method_3_code (2 : Nat) (Option.none : Option Jvm.ClassFile.FieldType)) ∈ wT := mem_wT (tb2 (List.mem_of_getElem? (i := 136) rfl)) rfl
theorem t_377 : (Jvm.Cond.methodLink "DeficitNet" (221 : Nat) ({ cls := "DeficitNet", name := "choose", desc := "(LDeficitNet$Port;)V" } : Jvm.MethodName)) ∈ wT := mem_wT (tb2 (List.mem_of_getElem? (i := 137) rfl)) rfl
theorem t_379 : (Jvm.Cond.instanceMethod ({ cls := "DeficitNet", name := "choose", desc := "(LDeficitNet$Port;)V" } : Jvm.MethodName)) ∈ wT := mem_wT (tb2 (List.mem_of_getElem? (i := 139) rfl)) rfl
theorem t_380 : (Jvm.Cond.code ({ cls := "DeficitNet", name := "choose", desc := "(LDeficitNet$Port;)V" } : Jvm.MethodName) prog_1_method_36_code (6 : Nat) (Option.none : Option Jvm.ClassFile.FieldType)) ∈ wT := mem_wT (tb2 (List.mem_of_getElem? (i := 140) rfl)) rfl
theorem t_381 : (Jvm.Cond.methodLink "DeficitNet" (285 : Nat) ({ cls := "DeficitNet$Port", name := "serveFirst", desc := "()V" } : Jvm.MethodName)) ∈ wT := mem_wT (tb2 (List.mem_of_getElem? (i := 141) rfl)) rfl
theorem t_382 : (Jvm.Cond.instanceMethod ({ cls := "DeficitNet$Port", name := "serveFirst", desc := "()V" } : Jvm.MethodName)) ∈ wT := mem_wT (tb2 (List.mem_of_getElem? (i := 142) rfl)) rfl
theorem t_383 : (Jvm.Cond.selects "DeficitNet$Port" ({ cls := "DeficitNet$Port", name := "serveFirst", desc := "()V" } : Jvm.MethodName) ({ cls := "DeficitNet$Port", name := "serveFirst", desc := "()V" } : Jvm.MethodName)) ∈ wT := mem_wT (tb2 (List.mem_of_getElem? (i := 143) rfl)) rfl
theorem t_384 : (Jvm.Cond.code ({ cls := "DeficitNet$Port", name := "serveFirst", desc := "()V" } : Jvm.MethodName) prog_5_method_5_code (1 : Nat) (Option.none : Option Jvm.ClassFile.FieldType)) ∈ wT := mem_wT (tb2 (List.mem_of_getElem? (i := 144) rfl)) rfl
theorem t_385 : (Jvm.Cond.methodLink "DeficitNet" (288 : Nat) ({ cls := "DeficitNet", name := "firstPlaceOf", desc := "(LDeficitNet$Port;I)I" } : Jvm.MethodName)) ∈ wT := mem_wT (tb2 (List.mem_of_getElem? (i := 145) rfl)) rfl
theorem t_387 : (Jvm.Cond.instanceMethod ({ cls := "DeficitNet", name := "firstPlaceOf", desc := "(LDeficitNet$Port;I)I" } : Jvm.MethodName)) ∈ wT := mem_wT (tb2 (List.mem_of_getElem? (i := 147) rfl)) rfl
theorem t_388 : (Jvm.Cond.code ({ cls := "DeficitNet", name := "firstPlaceOf", desc := "(LDeficitNet$Port;I)I" } : Jvm.MethodName) prog_1_method_38_code (4 : Nat) (Option.some Jvm.ClassFile.FieldType.int)) ∈ wT := mem_wT (tb2 (List.mem_of_getElem? (i := 148) rfl)) rfl
theorem t_389 : (Jvm.Cond.methodLink "DeficitNet" (294 : Nat) ({ cls := "DeficitNet$Port", name := "takeFrom", desc := "(I)I" } : Jvm.MethodName)) ∈ wT := mem_wT (tb2 (List.mem_of_getElem? (i := 149) rfl)) rfl
theorem t_390 : (Jvm.Cond.instanceMethod ({ cls := "DeficitNet$Port", name := "takeFrom", desc := "(I)I" } : Jvm.MethodName)) ∈ wT := mem_wT (tb2 (List.mem_of_getElem? (i := 150) rfl)) rfl
theorem t_391 : (Jvm.Cond.selects "DeficitNet$Port" ({ cls := "DeficitNet$Port", name := "takeFrom", desc := "(I)I" } : Jvm.MethodName) ({ cls := "DeficitNet$Port", name := "takeFrom", desc := "(I)I" } : Jvm.MethodName)) ∈ wT := mem_wT (tb2 (List.mem_of_getElem? (i := 151) rfl)) rfl
theorem t_392 : (Jvm.Cond.code ({ cls := "DeficitNet$Port", name := "takeFrom", desc := "(I)I" } : Jvm.MethodName) prog_5_method_6_code (3 : Nat) (Option.some Jvm.ClassFile.FieldType.int)) ∈ wT := mem_wT (tb2 (List.mem_of_getElem? (i := 152) rfl)) rfl
theorem t_393 : (Jvm.Cond.methodLink "DeficitNet$Port" (62 : Nat) ({ cls := "java/lang/System", name := "arraycopy", desc := "(Ljava/lang/Object;ILjava/lang/Object;II)V" } : Jvm.MethodName)) ∈ wT := mem_wT (tb2 (List.mem_of_getElem? (i := 153) rfl)) rfl
theorem t_394 : (Jvm.Cond.methodLink "DeficitNet" (301 : Nat) ({ cls := "DeficitNet$Port", name := "dropFirst", desc := "()V" } : Jvm.MethodName)) ∈ wT := mem_wT (tb2 (List.mem_of_getElem? (i := 154) rfl)) rfl
theorem t_395 : (Jvm.Cond.instanceMethod ({ cls := "DeficitNet$Port", name := "dropFirst", desc := "()V" } : Jvm.MethodName)) ∈ wT := mem_wT (tb2 (List.mem_of_getElem? (i := 155) rfl)) rfl
theorem t_396 : (Jvm.Cond.selects "DeficitNet$Port" ({ cls := "DeficitNet$Port", name := "dropFirst", desc := "()V" } : Jvm.MethodName) ({ cls := "DeficitNet$Port", name := "dropFirst", desc := "()V" } : Jvm.MethodName)) ∈ wT := mem_wT (tb2 (List.mem_of_getElem? (i := 156) rfl)) rfl
theorem t_397 : (Jvm.Cond.code ({ cls := "DeficitNet$Port", name := "dropFirst", desc := "()V" } : Jvm.MethodName) prog_5_method_4_code (1 : Nat) (Option.none : Option Jvm.ClassFile.FieldType)) ∈ wT := mem_wT (tb2 (List.mem_of_getElem? (i := 157) rfl)) rfl
theorem t_398 : (Jvm.Cond.methodLink "DeficitNet" (201 : Nat) ({ cls := "DeficitNet", name := "leave", desc := "(I)V" } : Jvm.MethodName)) ∈ wT := mem_wT (tb2 (List.mem_of_getElem? (i := 158) rfl)) rfl
theorem t_400 : (Jvm.Cond.instanceMethod ({ cls := "DeficitNet", name := "leave", desc := "(I)V" } : Jvm.MethodName)) ∈ wT := mem_wT (tb2 (List.mem_of_getElem? (i := 160) rfl)) rfl
theorem t_401 : (Jvm.Cond.code ({ cls := "DeficitNet", name := "leave", desc := "(I)V" } : Jvm.MethodName) prog_1_method_27_code (4 : Nat) (Option.none : Option Jvm.ClassFile.FieldType)) ∈ wT := mem_wT (tb2 (List.mem_of_getElem? (i := 161) rfl)) rfl
theorem t_402 : (Jvm.Cond.methodLink "DeficitNet" (154 : Nat) ({ cls := "DeficitNet$Packet", name := "label", desc := "()I" } : Jvm.MethodName)) ∈ wT := mem_wT (tb2 (List.mem_of_getElem? (i := 162) rfl)) rfl
theorem t_403 : (Jvm.Cond.instanceMethod ({ cls := "DeficitNet$Packet", name := "label", desc := "()I" } : Jvm.MethodName)) ∈ wT := mem_wT (tb2 (List.mem_of_getElem? (i := 163) rfl)) rfl
theorem t_404 : (Jvm.Cond.selects "DeficitNet$Packet" ({ cls := "DeficitNet$Packet", name := "label", desc := "()I" } : Jvm.MethodName) ({ cls := "DeficitNet$Packet", name := "label", desc := "()I" } : Jvm.MethodName)) ∈ wT := mem_wT (tb2 (List.mem_of_getElem? (i := 164) rfl)) rfl
theorem t_405 : (Jvm.Cond.code ({ cls := "DeficitNet$Packet", name := "label", desc := "()I" } : Jvm.MethodName) prog_4_method_3_code (1 : Nat) (Option.some Jvm.ClassFile.FieldType.int)) ∈ wT := mem_wT (tb2 (List.mem_of_getElem? (i := 165) rfl)) rfl
theorem t_406 : (Jvm.Cond.methodLink "DeficitNet" (204 : Nat) ({ cls := "DeficitNet", name := "arrive", desc := "(I)V" } : Jvm.MethodName)) ∈ wT := mem_wT (tb2 (List.mem_of_getElem? (i := 166) rfl)) rfl
theorem t_408 : (Jvm.Cond.instanceMethod ({ cls := "DeficitNet", name := "arrive", desc := "(I)V" } : Jvm.MethodName)) ∈ wT := mem_wT (tb2 (List.mem_of_getElem? (i := 168) rfl)) rfl
theorem t_409 : (Jvm.Cond.code ({ cls := "DeficitNet", name := "arrive", desc := "(I)V" } : Jvm.MethodName) prog_1_method_28_code (4 : Nat) (Option.none : Option Jvm.ClassFile.FieldType)) ∈ wT := mem_wT (tb2 (List.mem_of_getElem? (i := 169) rfl)) rfl
theorem t_410 : (Jvm.Cond.methodLink "DeficitNet" (238 : Nat) ({ cls := "DeficitNet", name := "takeData", desc := "(II)V" } : Jvm.MethodName)) ∈ wT := mem_wT (tb2 (List.mem_of_getElem? (i := 170) rfl)) rfl
theorem t_412 : (Jvm.Cond.instanceMethod ({ cls := "DeficitNet", name := "takeData", desc := "(II)V" } : Jvm.MethodName)) ∈ wT := mem_wT (tb2 (List.mem_of_getElem? (i := 172) rfl)) rfl
theorem t_413 : (Jvm.Cond.code ({ cls := "DeficitNet", name := "takeData", desc := "(II)V" } : Jvm.MethodName) prog_1_method_29_code (4 : Nat) (Option.none : Option Jvm.ClassFile.FieldType)) ∈ wT := mem_wT (tb2 (List.mem_of_getElem? (i := 173) rfl)) rfl
theorem t_414 : (Jvm.Cond.methodLink "DeficitNet" (241 : Nat) ({ cls := "DeficitNet", name := "moveBase", desc := "(II)V" } : Jvm.MethodName)) ∈ wT := mem_wT (tb2 (List.mem_of_getElem? (i := 174) rfl)) rfl
theorem t_416 : (Jvm.Cond.instanceMethod ({ cls := "DeficitNet", name := "moveBase", desc := "(II)V" } : Jvm.MethodName)) ∈ wT := mem_wT (tb2 (List.mem_of_getElem? (i := 176) rfl)) rfl
theorem t_417 : (Jvm.Cond.code ({ cls := "DeficitNet", name := "moveBase", desc := "(II)V" } : Jvm.MethodName) prog_1_method_30_code (4 : Nat) (Option.none : Option Jvm.ClassFile.FieldType)) ∈ wT := mem_wT (tb2 (List.mem_of_getElem? (i := 177) rfl)) rfl
theorem t_418 : (Jvm.Cond.methodLink "DeficitNet" (251 : Nat) ({ cls := "java/lang/Math", name := "max", desc := "(II)I" } : Jvm.MethodName)) ∈ wT := mem_wT (tb2 (List.mem_of_getElem? (i := 178) rfl)) rfl
theorem t_419 : (Jvm.Cond.static ({ cls := "java/lang/Math", name := "max", desc := "(II)I" } : Jvm.MethodName)) ∈ wT := mem_wT (tb2 (List.mem_of_getElem? (i := 179) rfl)) rfl
theorem t_420 : (Jvm.Cond.code ({ cls := "java/lang/Math", name := "max", desc := "(II)I" } : Jvm.MethodName) prog_8_method_65_code (2 : Nat) (Option.some Jvm.ClassFile.FieldType.int)) ∈ wT := mem_wT (tb2 (List.mem_of_getElem? (i := 180) rfl)) rfl
theorem t_421 : (Jvm.Cond.methodLink "DeficitNet" (207 : Nat) ({ cls := "DeficitNet", name := "timeOut", desc := "(I)V" } : Jvm.MethodName)) ∈ wT := mem_wT (tb2 (List.mem_of_getElem? (i := 181) rfl)) rfl
theorem t_423 : (Jvm.Cond.instanceMethod ({ cls := "DeficitNet", name := "timeOut", desc := "(I)V" } : Jvm.MethodName)) ∈ wT := mem_wT (tb2 (List.mem_of_getElem? (i := 183) rfl)) rfl
theorem t_424 : (Jvm.Cond.code ({ cls := "DeficitNet", name := "timeOut", desc := "(I)V" } : Jvm.MethodName) prog_1_method_26_code (3 : Nat) (Option.none : Option Jvm.ClassFile.FieldType)) ∈ wT := mem_wT (tb2 (List.mem_of_getElem? (i := 184) rfl)) rfl
theorem t_426 : (Jvm.Cond.instanceMethod ({ cls := "DeficitNet", name := "run", desc := "(I)I" } : Jvm.MethodName)) ∈ wT := mem_wT (tb2 (List.mem_of_getElem? (i := 186) rfl)) rfl
theorem t_427 : (Jvm.Cond.selects "DeficitNet" ({ cls := "DeficitNet", name := "run", desc := "(I)I" } : Jvm.MethodName) ({ cls := "DeficitNet", name := "run", desc := "(I)I" } : Jvm.MethodName)) ∈ wT := mem_wT (tb2 (List.mem_of_getElem? (i := 187) rfl)) rfl
theorem t_428 : (Jvm.Cond.code ({ cls := "DeficitNet", name := "run", desc := "(I)I" } : Jvm.MethodName) prog_1_method_8_code (3 : Nat) (Option.some Jvm.ClassFile.FieldType.int)) ∈ wT := mem_wT (tb2 (List.mem_of_getElem? (i := 188) rfl)) rfl
theorem t_430 : (Jvm.Cond.instanceMethod ({ cls := "DeficitNet", name := "now", desc := "()I" } : Jvm.MethodName)) ∈ wT := mem_wT (tb2 (List.mem_of_getElem? (i := 190) rfl)) rfl
theorem t_431 : (Jvm.Cond.selects "DeficitNet" ({ cls := "DeficitNet", name := "now", desc := "()I" } : Jvm.MethodName) ({ cls := "DeficitNet", name := "now", desc := "()I" } : Jvm.MethodName)) ∈ wT := mem_wT (tb2 (List.mem_of_getElem? (i := 191) rfl)) rfl
theorem t_432 : (Jvm.Cond.code ({ cls := "DeficitNet", name := "now", desc := "()I" } : Jvm.MethodName) prog_1_method_9_code (1 : Nat) (Option.some Jvm.ClassFile.FieldType.int)) ∈ wT := mem_wT (tb2 (List.mem_of_getElem? (i := 192) rfl)) rfl
theorem t_434 : (Jvm.Cond.instanceMethod ({ cls := "DeficitNet", name := "trace", desc := "(I)J" } : Jvm.MethodName)) ∈ wT := mem_wT (tb2 (List.mem_of_getElem? (i := 194) rfl)) rfl
theorem t_435 : (Jvm.Cond.selects "DeficitNet" ({ cls := "DeficitNet", name := "trace", desc := "(I)J" } : Jvm.MethodName) ({ cls := "DeficitNet", name := "trace", desc := "(I)J" } : Jvm.MethodName)) ∈ wT := mem_wT (tb2 (List.mem_of_getElem? (i := 195) rfl)) rfl
theorem t_436 : (Jvm.Cond.code ({ cls := "DeficitNet", name := "trace", desc := "(I)J" } : Jvm.MethodName) prog_1_method_10_code (2 : Nat) (Option.some Jvm.ClassFile.FieldType.long)) ∈ wT := mem_wT (tb2 (List.mem_of_getElem? (i := 196) rfl)) rfl
theorem t_438 : (Jvm.Cond.instanceMethod ({ cls := "DeficitNet", name := "distance", desc := "(II)I" } : Jvm.MethodName)) ∈ wT := mem_wT (tb2 (List.mem_of_getElem? (i := 198) rfl)) rfl
theorem t_439 : (Jvm.Cond.selects "DeficitNet" ({ cls := "DeficitNet", name := "distance", desc := "(II)I" } : Jvm.MethodName) ({ cls := "DeficitNet", name := "distance", desc := "(II)I" } : Jvm.MethodName)) ∈ wT := mem_wT (tb2 (List.mem_of_getElem? (i := 199) rfl)) rfl
theorem t_440 : (Jvm.Cond.code ({ cls := "DeficitNet", name := "distance", desc := "(II)I" } : Jvm.MethodName) prog_1_method_11_code (3 : Nat) (Option.some Jvm.ClassFile.FieldType.int)) ∈ wT := mem_wT (tb2 (List.mem_of_getElem? (i := 200) rfl)) rfl
theorem t_443 : (Jvm.Cond.instanceMethod ({ cls := "DeficitNet", name := "waiting", desc := "(II)I" } : Jvm.MethodName)) ∈ wT := mem_wT (tb2 (List.mem_of_getElem? (i := 203) rfl)) rfl
theorem t_444 : (Jvm.Cond.selects "DeficitNet" ({ cls := "DeficitNet", name := "waiting", desc := "(II)I" } : Jvm.MethodName) ({ cls := "DeficitNet", name := "waiting", desc := "(II)I" } : Jvm.MethodName)) ∈ wT := mem_wT (tb2 (List.mem_of_getElem? (i := 204) rfl)) rfl
theorem t_445 : (Jvm.Cond.code ({ cls := "DeficitNet", name := "waiting", desc := "(II)I" } : Jvm.MethodName) prog_1_method_13_code (3 : Nat) (Option.some Jvm.ClassFile.FieldType.int)) ∈ wT := mem_wT (tb2 (List.mem_of_getElem? (i := 205) rfl)) rfl
theorem t_447 : (Jvm.Cond.instanceMethod ({ cls := "DeficitNet", name := "deficit", desc := "(II)I" } : Jvm.MethodName)) ∈ wT := mem_wT (tb2 (List.mem_of_getElem? (i := 207) rfl)) rfl
theorem t_448 : (Jvm.Cond.selects "DeficitNet" ({ cls := "DeficitNet", name := "deficit", desc := "(II)I" } : Jvm.MethodName) ({ cls := "DeficitNet", name := "deficit", desc := "(II)I" } : Jvm.MethodName)) ∈ wT := mem_wT (tb2 (List.mem_of_getElem? (i := 208) rfl)) rfl
theorem t_449 : (Jvm.Cond.code ({ cls := "DeficitNet", name := "deficit", desc := "(II)I" } : Jvm.MethodName) prog_1_method_14_code (3 : Nat) (Option.some Jvm.ClassFile.FieldType.int)) ∈ wT := mem_wT (tb2 (List.mem_of_getElem? (i := 209) rfl)) rfl
theorem t_451 : (Jvm.Cond.instanceMethod ({ cls := "DeficitNet", name := "onPort", desc := "(I)I" } : Jvm.MethodName)) ∈ wT := mem_wT (tb2 (List.mem_of_getElem? (i := 211) rfl)) rfl
theorem t_452 : (Jvm.Cond.selects "DeficitNet" ({ cls := "DeficitNet", name := "onPort", desc := "(I)I" } : Jvm.MethodName) ({ cls := "DeficitNet", name := "onPort", desc := "(I)I" } : Jvm.MethodName)) ∈ wT := mem_wT (tb2 (List.mem_of_getElem? (i := 212) rfl)) rfl
theorem t_453 : (Jvm.Cond.code ({ cls := "DeficitNet", name := "onPort", desc := "(I)I" } : Jvm.MethodName) prog_1_method_15_code (3 : Nat) (Option.some Jvm.ClassFile.FieldType.int)) ∈ wT := mem_wT (tb2 (List.mem_of_getElem? (i := 213) rfl)) rfl
theorem t_455 : (Jvm.Cond.instanceMethod ({ cls := "DeficitNet", name := "timer", desc := "(I)I" } : Jvm.MethodName)) ∈ wT := mem_wT (tb2 (List.mem_of_getElem? (i := 215) rfl)) rfl
theorem t_456 : (Jvm.Cond.selects "DeficitNet" ({ cls := "DeficitNet", name := "timer", desc := "(I)I" } : Jvm.MethodName) ({ cls := "DeficitNet", name := "timer", desc := "(I)I" } : Jvm.MethodName)) ∈ wT := mem_wT (tb2 (List.mem_of_getElem? (i := 216) rfl)) rfl
theorem t_457 : (Jvm.Cond.code ({ cls := "DeficitNet", name := "timer", desc := "(I)I" } : Jvm.MethodName) prog_1_method_16_code (2 : Nat) (Option.some Jvm.ClassFile.FieldType.int)) ∈ wT := mem_wT (tb2 (List.mem_of_getElem? (i := 217) rfl)) rfl
theorem t_459 : (Jvm.Cond.instanceMethod ({ cls := "DeficitNet", name := "count", desc := "(II)I" } : Jvm.MethodName)) ∈ wT := mem_wT (tb2 (List.mem_of_getElem? (i := 219) rfl)) rfl
theorem t_460 : (Jvm.Cond.selects "DeficitNet" ({ cls := "DeficitNet", name := "count", desc := "(II)I" } : Jvm.MethodName) ({ cls := "DeficitNet", name := "count", desc := "(II)I" } : Jvm.MethodName)) ∈ wT := mem_wT (tb2 (List.mem_of_getElem? (i := 220) rfl)) rfl
theorem t_461 : (Jvm.Cond.code ({ cls := "DeficitNet", name := "count", desc := "(II)I" } : Jvm.MethodName) prog_1_method_17_code (3 : Nat) (Option.some Jvm.ClassFile.FieldType.int)) ∈ wT := mem_wT (tb2 (List.mem_of_getElem? (i := 221) rfl)) rfl
theorem t_469 : (Jvm.Cond.instanceMethod ({ cls := "DeficitNetModel", name := "clear", desc := "()V" } : Jvm.MethodName)) ∈ wT := mem_wT (tb2 (List.mem_of_getElem? (i := 229) rfl)) rfl
theorem t_470 : (Jvm.Cond.selects "DeficitNetModel" ({ cls := "DeficitNetModel", name := "clear", desc := "()V" } : Jvm.MethodName) ({ cls := "DeficitNetModel", name := "clear", desc := "()V" } : Jvm.MethodName)) ∈ wT := mem_wT (tb2 (List.mem_of_getElem? (i := 230) rfl)) rfl
theorem t_471 : (Jvm.Cond.code ({ cls := "DeficitNetModel", name := "clear", desc := "()V" } : Jvm.MethodName) prog_7_method_2_code (2 : Nat) (Option.none : Option Jvm.ClassFile.FieldType)) ∈ wT := mem_wT (tb2 (List.mem_of_getElem? (i := 231) rfl)) rfl
theorem t_472 : (Jvm.Cond.methodLink "DeficitNetModel" (137 : Nat) ({ cls := "DeficitNetModel", name := "measure", desc := "()V" } : Jvm.MethodName)) ∈ wT := mem_wT (tb2 (List.mem_of_getElem? (i := 232) rfl)) rfl
theorem t_474 : (Jvm.Cond.instanceMethod ({ cls := "DeficitNetModel", name := "measure", desc := "()V" } : Jvm.MethodName)) ∈ wT := mem_wT (tb2 (List.mem_of_getElem? (i := 234) rfl)) rfl
theorem t_475 : (Jvm.Cond.code ({ cls := "DeficitNetModel", name := "measure", desc := "()V" } : Jvm.MethodName) prog_7_method_12_code (4 : Nat) (Option.none : Option Jvm.ClassFile.FieldType)) ∈ wT := mem_wT (tb2 (List.mem_of_getElem? (i := 235) rfl)) rfl
theorem t_476 : (Jvm.Cond.constant "DeficitNetModel" (154 : Nat) (1000000 : Int32)) ∈ wT := mem_wT (tb2 (List.mem_of_getElem? (i := 236) rfl)) rfl
theorem t_477 : (Jvm.Cond.methodLink "DeficitNetModel" (155 : Nat) ({ cls := "DeficitNetModel", name := "lesser", desc := "(II)I" } : Jvm.MethodName)) ∈ wT := mem_wT (tb2 (List.mem_of_getElem? (i := 237) rfl)) rfl
theorem t_478 : (Jvm.Cond.static ({ cls := "DeficitNetModel", name := "lesser", desc := "(II)I" } : Jvm.MethodName)) ∈ wT := mem_wT (tb2 (List.mem_of_getElem? (i := 238) rfl)) rfl
theorem t_479 : (Jvm.Cond.code ({ cls := "DeficitNetModel", name := "lesser", desc := "(II)I" } : Jvm.MethodName) prog_7_method_11_code (2 : Nat) (Option.some Jvm.ClassFile.FieldType.int)) ∈ wT := mem_wT (tb2 (List.mem_of_getElem? (i := 239) rfl)) rfl
theorem t_480 : (Jvm.Cond.fieldLink "DeficitNetModel" (117 : Nat) "DeficitNetModel" "links" "I") ∈ wT := mem_wT (tb3 (List.mem_of_getElem? (i := 0) rfl)) rfl
theorem t_481 : (Jvm.Cond.fieldLink "DeficitNetModel" (7 : Nat) "DeficitNetModel" "first" "[I") ∈ wT := mem_wT (tb3 (List.mem_of_getElem? (i := 1) rfl)) rfl
theorem t_482 : (Jvm.Cond.fieldLink "DeficitNetModel" (13 : Nat) "DeficitNetModel" "second" "[I") ∈ wT := mem_wT (tb3 (List.mem_of_getElem? (i := 2) rfl)) rfl
theorem t_483 : (Jvm.Cond.fieldLink "DeficitNetModel" (16 : Nat) "DeficitNetModel" "cost" "[I") ∈ wT := mem_wT (tb3 (List.mem_of_getElem? (i := 3) rfl)) rfl
theorem t_484 : (Jvm.Cond.fieldLink "DeficitNetModel" (19 : Nat) "DeficitNetModel" "slow" "[I") ∈ wT := mem_wT (tb3 (List.mem_of_getElem? (i := 4) rfl)) rfl
theorem t_485 : (Jvm.Cond.fieldLink "DeficitNetModel" (22 : Nat) "DeficitNetModel" "delay" "[I") ∈ wT := mem_wT (tb3 (List.mem_of_getElem? (i := 5) rfl)) rfl
theorem t_486 : (Jvm.Cond.fieldLink "DeficitNetModel" (25 : Nat) "DeficitNetModel" "quantum" "[I") ∈ wT := mem_wT (tb3 (List.mem_of_getElem? (i := 6) rfl)) rfl
theorem t_487 : (Jvm.Cond.fieldLink "DeficitNetModel" (28 : Nat) "DeficitNetModel" "room" "[I") ∈ wT := mem_wT (tb3 (List.mem_of_getElem? (i := 7) rfl)) rfl
theorem t_488 : (Jvm.Cond.fieldLink "DeficitNetModel" (31 : Nat) "DeficitNetModel" "far" "[I") ∈ wT := mem_wT (tb3 (List.mem_of_getElem? (i := 8) rfl)) rfl
theorem t_489 : (Jvm.Cond.fieldLink "DeficitNetModel" (121 : Nat) "DeficitNetModel" "flows" "I") ∈ wT := mem_wT (tb3 (List.mem_of_getElem? (i := 9) rfl)) rfl
theorem t_490 : (Jvm.Cond.fieldLink "DeficitNetModel" (34 : Nat) "DeficitNetModel" "source" "[I") ∈ wT := mem_wT (tb3 (List.mem_of_getElem? (i := 10) rfl)) rfl
theorem t_491 : (Jvm.Cond.fieldLink "DeficitNetModel" (37 : Nat) "DeficitNetModel" "sink" "[I") ∈ wT := mem_wT (tb3 (List.mem_of_getElem? (i := 11) rfl)) rfl
theorem t_492 : (Jvm.Cond.fieldLink "DeficitNetModel" (40 : Nat) "DeficitNetModel" "all" "[I") ∈ wT := mem_wT (tb3 (List.mem_of_getElem? (i := 12) rfl)) rfl
theorem t_493 : (Jvm.Cond.fieldLink "DeficitNetModel" (43 : Nat) "DeficitNetModel" "large" "[I") ∈ wT := mem_wT (tb3 (List.mem_of_getElem? (i := 13) rfl)) rfl
theorem t_494 : (Jvm.Cond.fieldLink "DeficitNetModel" (46 : Nat) "DeficitNetModel" "window" "[I") ∈ wT := mem_wT (tb3 (List.mem_of_getElem? (i := 14) rfl)) rfl
theorem t_495 : (Jvm.Cond.fieldLink "DeficitNetModel" (49 : Nat) "DeficitNetModel" "patience" "[I") ∈ wT := mem_wT (tb3 (List.mem_of_getElem? (i := 15) rfl)) rfl
theorem t_496 : (Jvm.Cond.fieldLink "DeficitNetModel" (52 : Nat) "DeficitNetModel" "birth" "[I") ∈ wT := mem_wT (tb3 (List.mem_of_getElem? (i := 16) rfl)) rfl
theorem t_497 : (Jvm.Cond.fieldLink "DeficitNetModel" (55 : Nat) "DeficitNetModel" "base" "[I") ∈ wT := mem_wT (tb3 (List.mem_of_getElem? (i := 17) rfl)) rfl
theorem t_498 : (Jvm.Cond.fieldLink "DeficitNetModel" (58 : Nat) "DeficitNetModel" "next" "[I") ∈ wT := mem_wT (tb3 (List.mem_of_getElem? (i := 18) rfl)) rfl
theorem t_499 : (Jvm.Cond.fieldLink "DeficitNetModel" (61 : Nat) "DeficitNetModel" "expected" "[I") ∈ wT := mem_wT (tb3 (List.mem_of_getElem? (i := 19) rfl)) rfl
theorem t_500 : (Jvm.Cond.fieldLink "DeficitNetModel" (64 : Nat) "DeficitNetModel" "start" "[I") ∈ wT := mem_wT (tb3 (List.mem_of_getElem? (i := 20) rfl)) rfl
theorem t_501 : (Jvm.Cond.fieldLink "DeficitNetModel" (67 : Nat) "DeficitNetModel" "startTurn" "[I") ∈ wT := mem_wT (tb3 (List.mem_of_getElem? (i := 21) rfl)) rfl
theorem t_502 : (Jvm.Cond.fieldLink "DeficitNetModel" (70 : Nat) "DeficitNetModel" "timeout" "[I") ∈ wT := mem_wT (tb3 (List.mem_of_getElem? (i := 22) rfl)) rfl
theorem t_503 : (Jvm.Cond.fieldLink "DeficitNetModel" (73 : Nat) "DeficitNetModel" "timeoutTurn" "[I") ∈ wT := mem_wT (tb3 (List.mem_of_getElem? (i := 23) rfl)) rfl
theorem t_504 : (Jvm.Cond.fieldLink "DeficitNetModel" (76 : Nat) "DeficitNetModel" "tally" "[I") ∈ wT := mem_wT (tb3 (List.mem_of_getElem? (i := 24) rfl)) rfl
theorem t_505 : (Jvm.Cond.fieldLink "DeficitNetModel" (79 : Nat) "DeficitNetModel" "state" "[I") ∈ wT := mem_wT (tb3 (List.mem_of_getElem? (i := 25) rfl)) rfl
theorem t_506 : (Jvm.Cond.fieldLink "DeficitNetModel" (82 : Nat) "DeficitNetModel" "of" "[I") ∈ wT := mem_wT (tb3 (List.mem_of_getElem? (i := 26) rfl)) rfl
theorem t_507 : (Jvm.Cond.fieldLink "DeficitNetModel" (85 : Nat) "DeficitNetModel" "number" "[I") ∈ wT := mem_wT (tb3 (List.mem_of_getElem? (i := 27) rfl)) rfl
theorem t_508 : (Jvm.Cond.fieldLink "DeficitNetModel" (88 : Nat) "DeficitNetModel" "answer" "[Z") ∈ wT := mem_wT (tb3 (List.mem_of_getElem? (i := 28) rfl)) rfl
theorem t_509 : (Jvm.Cond.fieldLink "DeficitNetModel" (92 : Nat) "DeficitNetModel" "port" "[I") ∈ wT := mem_wT (tb3 (List.mem_of_getElem? (i := 29) rfl)) rfl
theorem t_510 : (Jvm.Cond.fieldLink "DeficitNetModel" (95 : Nat) "DeficitNetModel" "tick" "[I") ∈ wT := mem_wT (tb3 (List.mem_of_getElem? (i := 30) rfl)) rfl
theorem t_511 : (Jvm.Cond.fieldLink "DeficitNetModel" (98 : Nat) "DeficitNetModel" "turn" "[I") ∈ wT := mem_wT (tb3 (List.mem_of_getElem? (i := 31) rfl)) rfl
theorem t_512 : (Jvm.Cond.fieldLink "DeficitNetModel" (101 : Nat) "DeficitNetModel" "came" "[I") ∈ wT := mem_wT (tb3 (List.mem_of_getElem? (i := 32) rfl)) rfl
theorem t_513 : (Jvm.Cond.fieldLink "DeficitNetModel" (104 : Nat) "DeficitNetModel" "deficit" "[I") ∈ wT := mem_wT (tb3 (List.mem_of_getElem? (i := 33) rfl)) rfl
theorem t_514 : (Jvm.Cond.fieldLink "DeficitNetModel" (107 : Nat) "DeficitNetModel" "served" "[Z") ∈ wT := mem_wT (tb3 (List.mem_of_getElem? (i := 34) rfl)) rfl
theorem t_515 : (Jvm.Cond.fieldLink "DeficitNetModel" (124 : Nat) "DeficitNetModel" "begun" "Z") ∈ wT := mem_wT (tb3 (List.mem_of_getElem? (i := 35) rfl)) rfl
theorem t_516 : (Jvm.Cond.fieldLink "DeficitNetModel" (128 : Nat) "DeficitNetModel" "now" "I") ∈ wT := mem_wT (tb3 (List.mem_of_getElem? (i := 36) rfl)) rfl
theorem t_517 : (Jvm.Cond.fieldLink "DeficitNetModel" (131 : Nat) "DeficitNetModel" "turns" "I") ∈ wT := mem_wT (tb3 (List.mem_of_getElem? (i := 37) rfl)) rfl
theorem t_518 : (Jvm.Cond.fieldLink "DeficitNetModel" (134 : Nat) "DeficitNetModel" "events" "I") ∈ wT := mem_wT (tb3 (List.mem_of_getElem? (i := 38) rfl)) rfl
theorem t_519 : (Jvm.Cond.fieldLink "DeficitNetModel" (110 : Nat) "DeficitNetModel" "latest" "[J") ∈ wT := mem_wT (tb3 (List.mem_of_getElem? (i := 39) rfl)) rfl
theorem t_520 : (Jvm.Cond.lays "DeficitNetModel" "DeficitNetModel" "links" "I") ∈ wT := mem_wT (tb3 (List.mem_of_getElem? (i := 40) rfl)) rfl
theorem t_522 : (Jvm.Cond.laysFinal "DeficitNetModel" "DeficitNetModel" "first" "[I") ∈ wT := mem_wT (tb3 (List.mem_of_getElem? (i := 42) rfl)) rfl
theorem t_524 : (Jvm.Cond.laysFinal "DeficitNetModel" "DeficitNetModel" "second" "[I") ∈ wT := mem_wT (tb3 (List.mem_of_getElem? (i := 44) rfl)) rfl
theorem t_526 : (Jvm.Cond.laysFinal "DeficitNetModel" "DeficitNetModel" "cost" "[I") ∈ wT := mem_wT (tb3 (List.mem_of_getElem? (i := 46) rfl)) rfl
theorem t_528 : (Jvm.Cond.laysFinal "DeficitNetModel" "DeficitNetModel" "slow" "[I") ∈ wT := mem_wT (tb3 (List.mem_of_getElem? (i := 48) rfl)) rfl
theorem t_530 : (Jvm.Cond.laysFinal "DeficitNetModel" "DeficitNetModel" "delay" "[I") ∈ wT := mem_wT (tb3 (List.mem_of_getElem? (i := 50) rfl)) rfl
theorem t_532 : (Jvm.Cond.laysFinal "DeficitNetModel" "DeficitNetModel" "quantum" "[I") ∈ wT := mem_wT (tb3 (List.mem_of_getElem? (i := 52) rfl)) rfl
theorem t_534 : (Jvm.Cond.laysFinal "DeficitNetModel" "DeficitNetModel" "room" "[I") ∈ wT := mem_wT (tb3 (List.mem_of_getElem? (i := 54) rfl)) rfl
theorem t_536 : (Jvm.Cond.laysFinal "DeficitNetModel" "DeficitNetModel" "far" "[I") ∈ wT := mem_wT (tb3 (List.mem_of_getElem? (i := 56) rfl)) rfl
theorem t_538 : (Jvm.Cond.lays "DeficitNetModel" "DeficitNetModel" "flows" "I") ∈ wT := mem_wT (tb3 (List.mem_of_getElem? (i := 58) rfl)) rfl
theorem t_540 : (Jvm.Cond.laysFinal "DeficitNetModel" "DeficitNetModel" "source" "[I") ∈ wT := mem_wT (tb3 (List.mem_of_getElem? (i := 60) rfl)) rfl
theorem t_542 : (Jvm.Cond.laysFinal "DeficitNetModel" "DeficitNetModel" "sink" "[I") ∈ wT := mem_wT (tb3 (List.mem_of_getElem? (i := 62) rfl)) rfl
theorem t_544 : (Jvm.Cond.laysFinal "DeficitNetModel" "DeficitNetModel" "all" "[I") ∈ wT := mem_wT (tb3 (List.mem_of_getElem? (i := 64) rfl)) rfl
theorem t_546 : (Jvm.Cond.laysFinal "DeficitNetModel" "DeficitNetModel" "large" "[I") ∈ wT := mem_wT (tb3 (List.mem_of_getElem? (i := 66) rfl)) rfl
theorem t_548 : (Jvm.Cond.laysFinal "DeficitNetModel" "DeficitNetModel" "window" "[I") ∈ wT := mem_wT (tb3 (List.mem_of_getElem? (i := 68) rfl)) rfl
theorem t_550 : (Jvm.Cond.laysFinal "DeficitNetModel" "DeficitNetModel" "patience" "[I") ∈ wT := mem_wT (tb3 (List.mem_of_getElem? (i := 70) rfl)) rfl
theorem t_552 : (Jvm.Cond.laysFinal "DeficitNetModel" "DeficitNetModel" "birth" "[I") ∈ wT := mem_wT (tb3 (List.mem_of_getElem? (i := 72) rfl)) rfl
theorem t_554 : (Jvm.Cond.laysFinal "DeficitNetModel" "DeficitNetModel" "base" "[I") ∈ wT := mem_wT (tb3 (List.mem_of_getElem? (i := 74) rfl)) rfl
theorem t_556 : (Jvm.Cond.laysFinal "DeficitNetModel" "DeficitNetModel" "next" "[I") ∈ wT := mem_wT (tb3 (List.mem_of_getElem? (i := 76) rfl)) rfl
theorem t_558 : (Jvm.Cond.laysFinal "DeficitNetModel" "DeficitNetModel" "expected" "[I") ∈ wT := mem_wT (tb3 (List.mem_of_getElem? (i := 78) rfl)) rfl
theorem t_560 : (Jvm.Cond.laysFinal "DeficitNetModel" "DeficitNetModel" "start" "[I") ∈ wT := mem_wT (tb3 (List.mem_of_getElem? (i := 80) rfl)) rfl
theorem t_562 : (Jvm.Cond.laysFinal "DeficitNetModel" "DeficitNetModel" "startTurn" "[I") ∈ wT := mem_wT (tb3 (List.mem_of_getElem? (i := 82) rfl)) rfl
theorem t_564 : (Jvm.Cond.laysFinal "DeficitNetModel" "DeficitNetModel" "timeout" "[I") ∈ wT := mem_wT (tb3 (List.mem_of_getElem? (i := 84) rfl)) rfl
theorem t_566 : (Jvm.Cond.laysFinal "DeficitNetModel" "DeficitNetModel" "timeoutTurn" "[I") ∈ wT := mem_wT (tb3 (List.mem_of_getElem? (i := 86) rfl)) rfl
theorem t_568 : (Jvm.Cond.laysFinal "DeficitNetModel" "DeficitNetModel" "tally" "[I") ∈ wT := mem_wT (tb3 (List.mem_of_getElem? (i := 88) rfl)) rfl
theorem t_570 : (Jvm.Cond.laysFinal "DeficitNetModel" "DeficitNetModel" "state" "[I") ∈ wT := mem_wT (tb3 (List.mem_of_getElem? (i := 90) rfl)) rfl
theorem t_572 : (Jvm.Cond.laysFinal "DeficitNetModel" "DeficitNetModel" "of" "[I") ∈ wT := mem_wT (tb3 (List.mem_of_getElem? (i := 92) rfl)) rfl
theorem t_574 : (Jvm.Cond.laysFinal "DeficitNetModel" "DeficitNetModel" "number" "[I") ∈ wT := mem_wT (tb3 (List.mem_of_getElem? (i := 94) rfl)) rfl
theorem t_576 : (Jvm.Cond.laysFinal "DeficitNetModel" "DeficitNetModel" "answer" "[Z") ∈ wT := mem_wT (tb3 (List.mem_of_getElem? (i := 96) rfl)) rfl
theorem t_578 : (Jvm.Cond.laysFinal "DeficitNetModel" "DeficitNetModel" "port" "[I") ∈ wT := mem_wT (tb3 (List.mem_of_getElem? (i := 98) rfl)) rfl
theorem t_580 : (Jvm.Cond.laysFinal "DeficitNetModel" "DeficitNetModel" "tick" "[I") ∈ wT := mem_wT (tb3 (List.mem_of_getElem? (i := 100) rfl)) rfl
theorem t_582 : (Jvm.Cond.laysFinal "DeficitNetModel" "DeficitNetModel" "turn" "[I") ∈ wT := mem_wT (tb3 (List.mem_of_getElem? (i := 102) rfl)) rfl
theorem t_584 : (Jvm.Cond.laysFinal "DeficitNetModel" "DeficitNetModel" "came" "[I") ∈ wT := mem_wT (tb3 (List.mem_of_getElem? (i := 104) rfl)) rfl
theorem t_586 : (Jvm.Cond.laysFinal "DeficitNetModel" "DeficitNetModel" "deficit" "[I") ∈ wT := mem_wT (tb3 (List.mem_of_getElem? (i := 106) rfl)) rfl
theorem t_588 : (Jvm.Cond.laysFinal "DeficitNetModel" "DeficitNetModel" "served" "[Z") ∈ wT := mem_wT (tb3 (List.mem_of_getElem? (i := 108) rfl)) rfl
theorem t_590 : (Jvm.Cond.lays "DeficitNetModel" "DeficitNetModel" "begun" "Z") ∈ wT := mem_wT (tb3 (List.mem_of_getElem? (i := 110) rfl)) rfl
theorem t_592 : (Jvm.Cond.lays "DeficitNetModel" "DeficitNetModel" "now" "I") ∈ wT := mem_wT (tb3 (List.mem_of_getElem? (i := 112) rfl)) rfl
theorem t_594 : (Jvm.Cond.lays "DeficitNetModel" "DeficitNetModel" "turns" "I") ∈ wT := mem_wT (tb3 (List.mem_of_getElem? (i := 114) rfl)) rfl
theorem t_596 : (Jvm.Cond.lays "DeficitNetModel" "DeficitNetModel" "events" "I") ∈ wT := mem_wT (tb3 (List.mem_of_getElem? (i := 116) rfl)) rfl
theorem t_598 : (Jvm.Cond.laysFinal "DeficitNetModel" "DeficitNetModel" "latest" "[J") ∈ wT := mem_wT (tb3 (List.mem_of_getElem? (i := 118) rfl)) rfl
theorem t_604 : (Jvm.Cond.instanceMethod ({ cls := "DeficitNetModel", name := "link", desc := "(IIIII)I" } : Jvm.MethodName)) ∈ wT := mem_wT (tb3 (List.mem_of_getElem? (i := 124) rfl)) rfl
theorem t_605 : (Jvm.Cond.selects "DeficitNetModel" ({ cls := "DeficitNetModel", name := "link", desc := "(IIIII)I" } : Jvm.MethodName) ({ cls := "DeficitNetModel", name := "link", desc := "(IIIII)I" } : Jvm.MethodName)) ∈ wT := mem_wT (tb3 (List.mem_of_getElem? (i := 125) rfl)) rfl
theorem t_606 : (Jvm.Cond.code ({ cls := "DeficitNetModel", name := "link", desc := "(IIIII)I" } : Jvm.MethodName) prog_7_method_5_code (7 : Nat) (Option.some Jvm.ClassFile.FieldType.int)) ∈ wT := mem_wT (tb3 (List.mem_of_getElem? (i := 126) rfl)) rfl
theorem t_607 : (Jvm.Cond.methodLink "DeficitNetModel" (140 : Nat) ({ cls := "DeficitNetModel", name := "node", desc := "(I)Z" } : Jvm.MethodName)) ∈ wT := mem_wT (tb3 (List.mem_of_getElem? (i := 127) rfl)) rfl
theorem t_608 : (Jvm.Cond.static ({ cls := "DeficitNetModel", name := "node", desc := "(I)Z" } : Jvm.MethodName)) ∈ wT := mem_wT (tb3 (List.mem_of_getElem? (i := 128) rfl)) rfl
theorem t_609 : (Jvm.Cond.code ({ cls := "DeficitNetModel", name := "node", desc := "(I)Z" } : Jvm.MethodName) prog_7_method_3_code (1 : Nat) (Option.some Jvm.ClassFile.FieldType.boolean)) ∈ wT := mem_wT (tb3 (List.mem_of_getElem? (i := 129) rfl)) rfl
theorem t_610 : (Jvm.Cond.methodLink "DeficitNetModel" (144 : Nat) ({ cls := "DeficitNetModel", name := "within", desc := "(III)Z" } : Jvm.MethodName)) ∈ wT := mem_wT (tb3 (List.mem_of_getElem? (i := 130) rfl)) rfl
theorem t_611 : (Jvm.Cond.static ({ cls := "DeficitNetModel", name := "within", desc := "(III)Z" } : Jvm.MethodName)) ∈ wT := mem_wT (tb3 (List.mem_of_getElem? (i := 131) rfl)) rfl
theorem t_612 : (Jvm.Cond.code ({ cls := "DeficitNetModel", name := "within", desc := "(III)Z" } : Jvm.MethodName) prog_7_method_4_code (3 : Nat) (Option.some Jvm.ClassFile.FieldType.boolean)) ∈ wT := mem_wT (tb3 (List.mem_of_getElem? (i := 132) rfl)) rfl
theorem t_614 : (Jvm.Cond.instanceMethod ({ cls := "DeficitNetModel", name := "shape", desc := "(III)Z" } : Jvm.MethodName)) ∈ wT := mem_wT (tb3 (List.mem_of_getElem? (i := 134) rfl)) rfl
theorem t_615 : (Jvm.Cond.selects "DeficitNetModel" ({ cls := "DeficitNetModel", name := "shape", desc := "(III)Z" } : Jvm.MethodName) ({ cls := "DeficitNetModel", name := "shape", desc := "(III)Z" } : Jvm.MethodName)) ∈ wT := mem_wT (tb3 (List.mem_of_getElem? (i := 135) rfl)) rfl
theorem t_616 : (Jvm.Cond.code ({ cls := "DeficitNetModel", name := "shape", desc := "(III)Z" } : Jvm.MethodName) prog_7_method_8_code (4 : Nat) (Option.some Jvm.ClassFile.FieldType.boolean)) ∈ wT := mem_wT (tb3 (List.mem_of_getElem? (i := 136) rfl)) rfl
theorem t_617 : (Jvm.Cond.methodLink "DeficitNetModel" (148 : Nat) ({ cls := "DeficitNetModel", name := "isPort", desc := "(I)Z" } : Jvm.MethodName)) ∈ wT := mem_wT (tb3 (List.mem_of_getElem? (i := 137) rfl)) rfl
theorem t_619 : (Jvm.Cond.instanceMethod ({ cls := "DeficitNetModel", name := "isPort", desc := "(I)Z" } : Jvm.MethodName)) ∈ wT := mem_wT (tb3 (List.mem_of_getElem? (i := 139) rfl)) rfl
theorem t_620 : (Jvm.Cond.code ({ cls := "DeficitNetModel", name := "isPort", desc := "(I)Z" } : Jvm.MethodName) prog_7_method_6_code (2 : Nat) (Option.some Jvm.ClassFile.FieldType.boolean)) ∈ wT := mem_wT (tb3 (List.mem_of_getElem? (i := 140) rfl)) rfl
theorem t_622 : (Jvm.Cond.instanceMethod ({ cls := "DeficitNetModel", name := "flow", desc := "(IIII)I" } : Jvm.MethodName)) ∈ wT := mem_wT (tb3 (List.mem_of_getElem? (i := 142) rfl)) rfl
theorem t_623 : (Jvm.Cond.selects "DeficitNetModel" ({ cls := "DeficitNetModel", name := "flow", desc := "(IIII)I" } : Jvm.MethodName) ({ cls := "DeficitNetModel", name := "flow", desc := "(IIII)I" } : Jvm.MethodName)) ∈ wT := mem_wT (tb3 (List.mem_of_getElem? (i := 143) rfl)) rfl
theorem t_624 : (Jvm.Cond.code ({ cls := "DeficitNetModel", name := "flow", desc := "(IIII)I" } : Jvm.MethodName) prog_7_method_9_code (6 : Nat) (Option.some Jvm.ClassFile.FieldType.int)) ∈ wT := mem_wT (tb3 (List.mem_of_getElem? (i := 144) rfl)) rfl
theorem t_626 : (Jvm.Cond.instanceMethod ({ cls := "DeficitNetModel", name := "tune", desc := "(IIII)Z" } : Jvm.MethodName)) ∈ wT := mem_wT (tb3 (List.mem_of_getElem? (i := 146) rfl)) rfl
theorem t_627 : (Jvm.Cond.selects "DeficitNetModel" ({ cls := "DeficitNetModel", name := "tune", desc := "(IIII)Z" } : Jvm.MethodName) ({ cls := "DeficitNetModel", name := "tune", desc := "(IIII)Z" } : Jvm.MethodName)) ∈ wT := mem_wT (tb3 (List.mem_of_getElem? (i := 147) rfl)) rfl
theorem t_628 : (Jvm.Cond.code ({ cls := "DeficitNetModel", name := "tune", desc := "(IIII)Z" } : Jvm.MethodName) prog_7_method_10_code (5 : Nat) (Option.some Jvm.ClassFile.FieldType.boolean)) ∈ wT := mem_wT (tb3 (List.mem_of_getElem? (i := 148) rfl)) rfl
theorem t_629 : (Jvm.Cond.methodLink "DeficitNetModel" (151 : Nat) ({ cls := "DeficitNetModel", name := "isFlow", desc := "(I)Z" } : Jvm.MethodName)) ∈ wT := mem_wT (tb3 (List.mem_of_getElem? (i := 149) rfl)) rfl
theorem t_631 : (Jvm.Cond.instanceMethod ({ cls := "DeficitNetModel", name := "isFlow", desc := "(I)Z" } : Jvm.MethodName)) ∈ wT := mem_wT (tb3 (List.mem_of_getElem? (i := 151) rfl)) rfl
theorem t_632 : (Jvm.Cond.code ({ cls := "DeficitNetModel", name := "isFlow", desc := "(I)Z" } : Jvm.MethodName) prog_7_method_7_code (2 : Nat) (Option.some Jvm.ClassFile.FieldType.boolean)) ∈ wT := mem_wT (tb3 (List.mem_of_getElem? (i := 152) rfl)) rfl
theorem t_634 : (Jvm.Cond.instanceMethod ({ cls := "DeficitNetModel", name := "distance", desc := "(II)I" } : Jvm.MethodName)) ∈ wT := mem_wT (tb3 (List.mem_of_getElem? (i := 154) rfl)) rfl
theorem t_635 : (Jvm.Cond.selects "DeficitNetModel" ({ cls := "DeficitNetModel", name := "distance", desc := "(II)I" } : Jvm.MethodName) ({ cls := "DeficitNetModel", name := "distance", desc := "(II)I" } : Jvm.MethodName)) ∈ wT := mem_wT (tb3 (List.mem_of_getElem? (i := 155) rfl)) rfl
theorem t_636 : (Jvm.Cond.code ({ cls := "DeficitNetModel", name := "distance", desc := "(II)I" } : Jvm.MethodName) prog_7_method_13_code (3 : Nat) (Option.some Jvm.ClassFile.FieldType.int)) ∈ wT := mem_wT (tb3 (List.mem_of_getElem? (i := 156) rfl)) rfl
theorem t_638 : (Jvm.Cond.instanceMethod ({ cls := "DeficitNetModel", name := "way", desc := "(II)I" } : Jvm.MethodName)) ∈ wT := mem_wT (tb3 (List.mem_of_getElem? (i := 158) rfl)) rfl
theorem t_639 : (Jvm.Cond.selects "DeficitNetModel" ({ cls := "DeficitNetModel", name := "way", desc := "(II)I" } : Jvm.MethodName) ({ cls := "DeficitNetModel", name := "way", desc := "(II)I" } : Jvm.MethodName)) ∈ wT := mem_wT (tb3 (List.mem_of_getElem? (i := 159) rfl)) rfl
theorem t_640 : (Jvm.Cond.code ({ cls := "DeficitNetModel", name := "way", desc := "(II)I" } : Jvm.MethodName) prog_7_method_16_code (4 : Nat) (Option.some Jvm.ClassFile.FieldType.int)) ∈ wT := mem_wT (tb3 (List.mem_of_getElem? (i := 160) rfl)) rfl
theorem t_641 : (Jvm.Cond.methodLink "DeficitNetModel" (159 : Nat) ({ cls := "DeficitNetModel", name := "distance", desc := "(II)I" } : Jvm.MethodName)) ∈ wT := mem_wT (tb3 (List.mem_of_getElem? (i := 161) rfl)) rfl
theorem t_642 : (Jvm.Cond.methodLink "DeficitNetModel" (162 : Nat) ({ cls := "DeficitNetModel", name := "at", desc := "(I)I" } : Jvm.MethodName)) ∈ wT := mem_wT (tb3 (List.mem_of_getElem? (i := 162) rfl)) rfl
theorem t_644 : (Jvm.Cond.instanceMethod ({ cls := "DeficitNetModel", name := "at", desc := "(I)I" } : Jvm.MethodName)) ∈ wT := mem_wT (tb3 (List.mem_of_getElem? (i := 164) rfl)) rfl
theorem t_645 : (Jvm.Cond.code ({ cls := "DeficitNetModel", name := "at", desc := "(I)I" } : Jvm.MethodName) prog_7_method_14_code (2 : Nat) (Option.some Jvm.ClassFile.FieldType.int)) ∈ wT := mem_wT (tb3 (List.mem_of_getElem? (i := 165) rfl)) rfl
theorem t_646 : (Jvm.Cond.methodLink "DeficitNetModel" (166 : Nat) ({ cls := "DeficitNetModel", name := "leads", desc := "(I)I" } : Jvm.MethodName)) ∈ wT := mem_wT (tb3 (List.mem_of_getElem? (i := 166) rfl)) rfl
theorem t_648 : (Jvm.Cond.instanceMethod ({ cls := "DeficitNetModel", name := "leads", desc := "(I)I" } : Jvm.MethodName)) ∈ wT := mem_wT (tb3 (List.mem_of_getElem? (i := 168) rfl)) rfl
theorem t_649 : (Jvm.Cond.code ({ cls := "DeficitNetModel", name := "leads", desc := "(I)I" } : Jvm.MethodName) prog_7_method_15_code (2 : Nat) (Option.some Jvm.ClassFile.FieldType.int)) ∈ wT := mem_wT (tb3 (List.mem_of_getElem? (i := 169) rfl)) rfl
theorem t_651 : (Jvm.Cond.instanceMethod ({ cls := "DeficitNetModel", name := "step", desc := "()Z" } : Jvm.MethodName)) ∈ wT := mem_wT (tb3 (List.mem_of_getElem? (i := 171) rfl)) rfl
theorem t_652 : (Jvm.Cond.selects "DeficitNetModel" ({ cls := "DeficitNetModel", name := "step", desc := "()Z" } : Jvm.MethodName) ({ cls := "DeficitNetModel", name := "step", desc := "()Z" } : Jvm.MethodName)) ∈ wT := mem_wT (tb3 (List.mem_of_getElem? (i := 172) rfl)) rfl
theorem t_653 : (Jvm.Cond.code ({ cls := "DeficitNetModel", name := "step", desc := "()Z" } : Jvm.MethodName) prog_7_method_34_code (5 : Nat) (Option.some Jvm.ClassFile.FieldType.boolean)) ∈ wT := mem_wT (tb3 (List.mem_of_getElem? (i := 173) rfl)) rfl
theorem t_654 : (Jvm.Cond.methodLink "DeficitNetModel" (223 : Nat) ({ cls := "DeficitNetModel", name := "begin", desc := "()V" } : Jvm.MethodName)) ∈ wT := mem_wT (tb3 (List.mem_of_getElem? (i := 174) rfl)) rfl
theorem t_656 : (Jvm.Cond.instanceMethod ({ cls := "DeficitNetModel", name := "begin", desc := "()V" } : Jvm.MethodName)) ∈ wT := mem_wT (tb3 (List.mem_of_getElem? (i := 176) rfl)) rfl
theorem t_657 : (Jvm.Cond.code ({ cls := "DeficitNetModel", name := "begin", desc := "()V" } : Jvm.MethodName) prog_7_method_30_code (2 : Nat) (Option.none : Option Jvm.ClassFile.FieldType)) ∈ wT := mem_wT (tb3 (List.mem_of_getElem? (i := 177) rfl)) rfl
theorem t_658 : (Jvm.Cond.methodLink "DeficitNetModel" (226 : Nat) ({ cls := "DeficitNetModel", name := "soonest", desc := "()J" } : Jvm.MethodName)) ∈ wT := mem_wT (tb3 (List.mem_of_getElem? (i := 178) rfl)) rfl
theorem t_660 : (Jvm.Cond.instanceMethod ({ cls := "DeficitNetModel", name := "soonest", desc := "()J" } : Jvm.MethodName)) ∈ wT := mem_wT (tb3 (List.mem_of_getElem? (i := 180) rfl)) rfl
theorem t_661 : (Jvm.Cond.code ({ cls := "DeficitNetModel", name := "soonest", desc := "()J" } : Jvm.MethodName) prog_7_method_32_code (4 : Nat) (Option.some Jvm.ClassFile.FieldType.long)) ∈ wT := mem_wT (tb3 (List.mem_of_getElem? (i := 181) rfl)) rfl
theorem t_662 : (Jvm.Cond.methodLink "DeficitNetModel" (217 : Nat) ({ cls := "DeficitNetModel", name := "sooner", desc := "(JII)J" } : Jvm.MethodName)) ∈ wT := mem_wT (tb3 (List.mem_of_getElem? (i := 182) rfl)) rfl
theorem t_663 : (Jvm.Cond.static ({ cls := "DeficitNetModel", name := "sooner", desc := "(JII)J" } : Jvm.MethodName)) ∈ wT := mem_wT (tb3 (List.mem_of_getElem? (i := 183) rfl)) rfl
theorem t_664 : (Jvm.Cond.code ({ cls := "DeficitNetModel", name := "sooner", desc := "(JII)J" } : Jvm.MethodName) prog_7_method_33_code (6 : Nat) (Option.some Jvm.ClassFile.FieldType.long)) ∈ wT := mem_wT (tb3 (List.mem_of_getElem? (i := 184) rfl)) rfl
theorem t_665 : (Jvm.Cond.constantLong "DeficitNetModel" (221 : Nat) (4294967296 : Int64)) ∈ wT := mem_wT (tb3 (List.mem_of_getElem? (i := 185) rfl)) rfl
theorem t_666 : (Jvm.Cond.methodLink "DeficitNetModel" (230 : Nat) ({ cls := "DeficitNetModel", name := "note", desc := "(III)V" } : Jvm.MethodName)) ∈ wT := mem_wT (tb3 (List.mem_of_getElem? (i := 186) rfl)) rfl
theorem t_668 : (Jvm.Cond.instanceMethod ({ cls := "DeficitNetModel", name := "note", desc := "(III)V" } : Jvm.MethodName)) ∈ wT := mem_wT (tb3 (List.mem_of_getElem? (i := 188) rfl)) rfl
theorem t_669 : (Jvm.Cond.code ({ cls := "DeficitNetModel", name := "note", desc := "(III)V" } : Jvm.MethodName) prog_7_method_31_code (4 : Nat) (Option.none : Option Jvm.ClassFile.FieldType)) ∈ wT := mem_wT (tb3 (List.mem_of_getElem? (i := 189) rfl)) rfl
theorem t_670 : (Jvm.Cond.constantLong "DeficitNetModel" (211 : Nat) (1048576 : Int64)) ∈ wT := mem_wT (tb3 (List.mem_of_getElem? (i := 190) rfl)) rfl
theorem t_671 : (Jvm.Cond.constantLong "DeficitNetModel" (213 : Nat) (65536 : Int64)) ∈ wT := mem_wT (tb3 (List.mem_of_getElem? (i := 191) rfl)) rfl
theorem t_672 : (Jvm.Cond.constantLong "DeficitNetModel" (215 : Nat) (256 : Int64)) ∈ wT := mem_wT (tb3 (List.mem_of_getElem? (i := 192) rfl)) rfl
theorem t_673 : (Jvm.Cond.methodLink "DeficitNetModel" (208 : Nat) ({ cls := "DeficitNetModel", name := "fill", desc := "(I)V" } : Jvm.MethodName)) ∈ wT := mem_wT (tb3 (List.mem_of_getElem? (i := 193) rfl)) rfl
theorem t_675 : (Jvm.Cond.instanceMethod ({ cls := "DeficitNetModel", name := "fill", desc := "(I)V" } : Jvm.MethodName)) ∈ wT := mem_wT (tb3 (List.mem_of_getElem? (i := 195) rfl)) rfl
theorem t_676 : (Jvm.Cond.code ({ cls := "DeficitNetModel", name := "fill", desc := "(I)V" } : Jvm.MethodName) prog_7_method_28_code (3 : Nat) (Option.none : Option Jvm.ClassFile.FieldType)) ∈ wT := mem_wT (tb3 (List.mem_of_getElem? (i := 196) rfl)) rfl
theorem t_677 : (Jvm.Cond.methodLink "DeficitNetModel" (201 : Nat) ({ cls := "DeficitNetModel", name := "setTimeout", desc := "(I)V" } : Jvm.MethodName)) ∈ wT := mem_wT (tb3 (List.mem_of_getElem? (i := 197) rfl)) rfl
theorem t_679 : (Jvm.Cond.instanceMethod ({ cls := "DeficitNetModel", name := "setTimeout", desc := "(I)V" } : Jvm.MethodName)) ∈ wT := mem_wT (tb3 (List.mem_of_getElem? (i := 199) rfl)) rfl
theorem t_680 : (Jvm.Cond.code ({ cls := "DeficitNetModel", name := "setTimeout", desc := "(I)V" } : Jvm.MethodName) prog_7_method_27_code (2 : Nat) (Option.none : Option Jvm.ClassFile.FieldType)) ∈ wT := mem_wT (tb3 (List.mem_of_getElem? (i := 200) rfl)) rfl
theorem t_681 : (Jvm.Cond.methodLink "DeficitNetModel" (204 : Nat) ({ cls := "DeficitNetModel", name := "make", desc := "(IIZI)V" } : Jvm.MethodName)) ∈ wT := mem_wT (tb3 (List.mem_of_getElem? (i := 201) rfl)) rfl
theorem t_683 : (Jvm.Cond.instanceMethod ({ cls := "DeficitNetModel", name := "make", desc := "(IIZI)V" } : Jvm.MethodName)) ∈ wT := mem_wT (tb3 (List.mem_of_getElem? (i := 203) rfl)) rfl
theorem t_684 : (Jvm.Cond.code ({ cls := "DeficitNetModel", name := "make", desc := "(IIZI)V" } : Jvm.MethodName) prog_7_method_22_code (6 : Nat) (Option.none : Option Jvm.ClassFile.FieldType)) ∈ wT := mem_wT (tb3 (List.mem_of_getElem? (i := 204) rfl)) rfl
theorem t_685 : (Jvm.Cond.methodLink "DeficitNetModel" (169 : Nat) ({ cls := "DeficitNetModel", name := "put", desc := "(II)V" } : Jvm.MethodName)) ∈ wT := mem_wT (tb3 (List.mem_of_getElem? (i := 205) rfl)) rfl
theorem t_687 : (Jvm.Cond.instanceMethod ({ cls := "DeficitNetModel", name := "put", desc := "(II)V" } : Jvm.MethodName)) ∈ wT := mem_wT (tb3 (List.mem_of_getElem? (i := 207) rfl)) rfl
theorem t_688 : (Jvm.Cond.code ({ cls := "DeficitNetModel", name := "put", desc := "(II)V" } : Jvm.MethodName) prog_7_method_23_code (5 : Nat) (Option.none : Option Jvm.ClassFile.FieldType)) ∈ wT := mem_wT (tb3 (List.mem_of_getElem? (i := 208) rfl)) rfl
theorem t_689 : (Jvm.Cond.methodLink "DeficitNetModel" (173 : Nat) ({ cls := "DeficitNetModel", name := "endOf", desc := "(I)I" } : Jvm.MethodName)) ∈ wT := mem_wT (tb3 (List.mem_of_getElem? (i := 209) rfl)) rfl
theorem t_691 : (Jvm.Cond.instanceMethod ({ cls := "DeficitNetModel", name := "endOf", desc := "(I)I" } : Jvm.MethodName)) ∈ wT := mem_wT (tb3 (List.mem_of_getElem? (i := 211) rfl)) rfl
theorem t_692 : (Jvm.Cond.code ({ cls := "DeficitNetModel", name := "endOf", desc := "(I)I" } : Jvm.MethodName) prog_7_method_18_code (2 : Nat) (Option.some Jvm.ClassFile.FieldType.int)) ∈ wT := mem_wT (tb3 (List.mem_of_getElem? (i := 212) rfl)) rfl
theorem t_693 : (Jvm.Cond.methodLink "DeficitNetModel" (176 : Nat) ({ cls := "DeficitNetModel", name := "way", desc := "(II)I" } : Jvm.MethodName)) ∈ wT := mem_wT (tb3 (List.mem_of_getElem? (i := 213) rfl)) rfl
theorem t_694 : (Jvm.Cond.methodLink "DeficitNetModel" (179 : Nat) ({ cls := "DeficitNetModel", name := "queued", desc := "(II)I" } : Jvm.MethodName)) ∈ wT := mem_wT (tb3 (List.mem_of_getElem? (i := 214) rfl)) rfl
theorem t_696 : (Jvm.Cond.instanceMethod ({ cls := "DeficitNetModel", name := "queued", desc := "(II)I" } : Jvm.MethodName)) ∈ wT := mem_wT (tb3 (List.mem_of_getElem? (i := 216) rfl)) rfl
theorem t_697 : (Jvm.Cond.code ({ cls := "DeficitNetModel", name := "queued", desc := "(II)I" } : Jvm.MethodName) prog_7_method_19_code (5 : Nat) (Option.some Jvm.ClassFile.FieldType.int)) ∈ wT := mem_wT (tb3 (List.mem_of_getElem? (i := 217) rfl)) rfl
theorem t_698 : (Jvm.Cond.methodLink "DeficitNetModel" (182 : Nat) ({ cls := "DeficitNetModel", name := "lose", desc := "(I)V" } : Jvm.MethodName)) ∈ wT := mem_wT (tb3 (List.mem_of_getElem? (i := 218) rfl)) rfl
theorem t_700 : (Jvm.Cond.instanceMethod ({ cls := "DeficitNetModel", name := "lose", desc := "(I)V" } : Jvm.MethodName)) ∈ wT := mem_wT (tb3 (List.mem_of_getElem? (i := 220) rfl)) rfl
theorem t_701 : (Jvm.Cond.code ({ cls := "DeficitNetModel", name := "lose", desc := "(I)V" } : Jvm.MethodName) prog_7_method_21_code (2 : Nat) (Option.none : Option Jvm.ClassFile.FieldType)) ∈ wT := mem_wT (tb3 (List.mem_of_getElem? (i := 221) rfl)) rfl
theorem t_702 : (Jvm.Cond.methodLink "DeficitNetModel" (186 : Nat) ({ cls := "DeficitNetModel", name := "on", desc := "(I)I" } : Jvm.MethodName)) ∈ wT := mem_wT (tb3 (List.mem_of_getElem? (i := 222) rfl)) rfl
theorem t_704 : (Jvm.Cond.instanceMethod ({ cls := "DeficitNetModel", name := "on", desc := "(I)I" } : Jvm.MethodName)) ∈ wT := mem_wT (tb3 (List.mem_of_getElem? (i := 224) rfl)) rfl
theorem t_705 : (Jvm.Cond.code ({ cls := "DeficitNetModel", name := "on", desc := "(I)I" } : Jvm.MethodName) prog_7_method_20_code (4 : Nat) (Option.some Jvm.ClassFile.FieldType.int)) ∈ wT := mem_wT (tb3 (List.mem_of_getElem? (i := 225) rfl)) rfl
theorem t_706 : (Jvm.Cond.methodLink "DeficitNetModel" (189 : Nat) ({ cls := "DeficitNetModel", name := "choose", desc := "(I)V" } : Jvm.MethodName)) ∈ wT := mem_wT (tb3 (List.mem_of_getElem? (i := 226) rfl)) rfl
theorem t_708 : (Jvm.Cond.instanceMethod ({ cls := "DeficitNetModel", name := "choose", desc := "(I)V" } : Jvm.MethodName)) ∈ wT := mem_wT (tb3 (List.mem_of_getElem? (i := 228) rfl)) rfl
theorem t_709 : (Jvm.Cond.code ({ cls := "DeficitNetModel", name := "choose", desc := "(I)V" } : Jvm.MethodName) prog_7_method_26_code (6 : Nat) (Option.none : Option Jvm.ClassFile.FieldType)) ∈ wT := mem_wT (tb3 (List.mem_of_getElem? (i := 229) rfl)) rfl
theorem t_710 : (Jvm.Cond.methodLink "DeficitNetModel" (192 : Nat) ({ cls := "DeficitNetModel", name := "leader", desc := "(I)I" } : Jvm.MethodName)) ∈ wT := mem_wT (tb3 (List.mem_of_getElem? (i := 230) rfl)) rfl
theorem t_712 : (Jvm.Cond.instanceMethod ({ cls := "DeficitNetModel", name := "leader", desc := "(I)I" } : Jvm.MethodName)) ∈ wT := mem_wT (tb3 (List.mem_of_getElem? (i := 232) rfl)) rfl
theorem t_713 : (Jvm.Cond.code ({ cls := "DeficitNetModel", name := "leader", desc := "(I)I" } : Jvm.MethodName) prog_7_method_24_code (4 : Nat) (Option.some Jvm.ClassFile.FieldType.int)) ∈ wT := mem_wT (tb3 (List.mem_of_getElem? (i := 233) rfl)) rfl
theorem t_714 : (Jvm.Cond.methodLink "DeficitNetModel" (195 : Nat) ({ cls := "DeficitNetModel", name := "head", desc := "(II)I" } : Jvm.MethodName)) ∈ wT := mem_wT (tb3 (List.mem_of_getElem? (i := 234) rfl)) rfl
theorem t_716 : (Jvm.Cond.instanceMethod ({ cls := "DeficitNetModel", name := "head", desc := "(II)I" } : Jvm.MethodName)) ∈ wT := mem_wT (tb3 (List.mem_of_getElem? (i := 236) rfl)) rfl
theorem t_717 : (Jvm.Cond.code ({ cls := "DeficitNetModel", name := "head", desc := "(II)I" } : Jvm.MethodName) prog_7_method_25_code (5 : Nat) (Option.some Jvm.ClassFile.FieldType.int)) ∈ wT := mem_wT (tb3 (List.mem_of_getElem? (i := 237) rfl)) rfl
theorem t_718 : (Jvm.Cond.methodLink "DeficitNetModel" (198 : Nat) ({ cls := "DeficitNetModel", name := "sizeOf", desc := "(I)I" } : Jvm.MethodName)) ∈ wT := mem_wT (tb3 (List.mem_of_getElem? (i := 238) rfl)) rfl
theorem t_720 : (Jvm.Cond.instanceMethod ({ cls := "DeficitNetModel", name := "sizeOf", desc := "(I)I" } : Jvm.MethodName)) ∈ wT := mem_wT (tb4 (List.mem_of_getElem? (i := 0) rfl)) rfl
theorem t_721 : (Jvm.Cond.code ({ cls := "DeficitNetModel", name := "sizeOf", desc := "(I)I" } : Jvm.MethodName) prog_7_method_17_code (2 : Nat) (Option.some Jvm.ClassFile.FieldType.int)) ∈ wT := mem_wT (tb4 (List.mem_of_getElem? (i := 1) rfl)) rfl
theorem t_722 : (Jvm.Cond.methodLink "DeficitNetModel" (234 : Nat) ({ cls := "DeficitNetModel", name := "moved", desc := "(I)V" } : Jvm.MethodName)) ∈ wT := mem_wT (tb4 (List.mem_of_getElem? (i := 2) rfl)) rfl
theorem t_724 : (Jvm.Cond.instanceMethod ({ cls := "DeficitNetModel", name := "moved", desc := "(I)V" } : Jvm.MethodName)) ∈ wT := mem_wT (tb4 (List.mem_of_getElem? (i := 4) rfl)) rfl
theorem t_725 : (Jvm.Cond.code ({ cls := "DeficitNetModel", name := "moved", desc := "(I)V" } : Jvm.MethodName) prog_7_method_35_code (4 : Nat) (Option.none : Option Jvm.ClassFile.FieldType)) ∈ wT := mem_wT (tb4 (List.mem_of_getElem? (i := 5) rfl)) rfl
theorem t_726 : (Jvm.Cond.methodLink "DeficitNetModel" (237 : Nat) ({ cls := "DeficitNetModel", name := "arrive", desc := "(I)V" } : Jvm.MethodName)) ∈ wT := mem_wT (tb4 (List.mem_of_getElem? (i := 6) rfl)) rfl
theorem t_728 : (Jvm.Cond.instanceMethod ({ cls := "DeficitNetModel", name := "arrive", desc := "(I)V" } : Jvm.MethodName)) ∈ wT := mem_wT (tb4 (List.mem_of_getElem? (i := 8) rfl)) rfl
theorem t_729 : (Jvm.Cond.code ({ cls := "DeficitNetModel", name := "arrive", desc := "(I)V" } : Jvm.MethodName) prog_7_method_29_code (5 : Nat) (Option.none : Option Jvm.ClassFile.FieldType)) ∈ wT := mem_wT (tb4 (List.mem_of_getElem? (i := 9) rfl)) rfl
theorem t_731 : (Jvm.Cond.instanceMethod ({ cls := "DeficitNetModel", name := "run", desc := "(I)I" } : Jvm.MethodName)) ∈ wT := mem_wT (tb4 (List.mem_of_getElem? (i := 11) rfl)) rfl
theorem t_732 : (Jvm.Cond.selects "DeficitNetModel" ({ cls := "DeficitNetModel", name := "run", desc := "(I)I" } : Jvm.MethodName) ({ cls := "DeficitNetModel", name := "run", desc := "(I)I" } : Jvm.MethodName)) ∈ wT := mem_wT (tb4 (List.mem_of_getElem? (i := 12) rfl)) rfl
theorem t_733 : (Jvm.Cond.code ({ cls := "DeficitNetModel", name := "run", desc := "(I)I" } : Jvm.MethodName) prog_7_method_36_code (3 : Nat) (Option.some Jvm.ClassFile.FieldType.int)) ∈ wT := mem_wT (tb4 (List.mem_of_getElem? (i := 13) rfl)) rfl
theorem t_734 : (Jvm.Cond.methodLink "DeficitNetModel" (240 : Nat) ({ cls := "DeficitNetModel", name := "step", desc := "()Z" } : Jvm.MethodName)) ∈ wT := mem_wT (tb4 (List.mem_of_getElem? (i := 14) rfl)) rfl
theorem t_736 : (Jvm.Cond.instanceMethod ({ cls := "DeficitNetModel", name := "now", desc := "()I" } : Jvm.MethodName)) ∈ wT := mem_wT (tb4 (List.mem_of_getElem? (i := 16) rfl)) rfl
theorem t_737 : (Jvm.Cond.selects "DeficitNetModel" ({ cls := "DeficitNetModel", name := "now", desc := "()I" } : Jvm.MethodName) ({ cls := "DeficitNetModel", name := "now", desc := "()I" } : Jvm.MethodName)) ∈ wT := mem_wT (tb4 (List.mem_of_getElem? (i := 17) rfl)) rfl
theorem t_738 : (Jvm.Cond.code ({ cls := "DeficitNetModel", name := "now", desc := "()I" } : Jvm.MethodName) prog_7_method_37_code (1 : Nat) (Option.some Jvm.ClassFile.FieldType.int)) ∈ wT := mem_wT (tb4 (List.mem_of_getElem? (i := 18) rfl)) rfl
theorem t_740 : (Jvm.Cond.instanceMethod ({ cls := "DeficitNetModel", name := "trace", desc := "(I)J" } : Jvm.MethodName)) ∈ wT := mem_wT (tb4 (List.mem_of_getElem? (i := 20) rfl)) rfl
theorem t_741 : (Jvm.Cond.selects "DeficitNetModel" ({ cls := "DeficitNetModel", name := "trace", desc := "(I)J" } : Jvm.MethodName) ({ cls := "DeficitNetModel", name := "trace", desc := "(I)J" } : Jvm.MethodName)) ∈ wT := mem_wT (tb4 (List.mem_of_getElem? (i := 21) rfl)) rfl
theorem t_742 : (Jvm.Cond.code ({ cls := "DeficitNetModel", name := "trace", desc := "(I)J" } : Jvm.MethodName) prog_7_method_38_code (2 : Nat) (Option.some Jvm.ClassFile.FieldType.long)) ∈ wT := mem_wT (tb4 (List.mem_of_getElem? (i := 22) rfl)) rfl
theorem t_743 : (Jvm.Cond.constantLong "DeficitNetModel" (244 : Nat) (-1 : Int64)) ∈ wT := mem_wT (tb4 (List.mem_of_getElem? (i := 23) rfl)) rfl
theorem t_745 : (Jvm.Cond.instanceMethod ({ cls := "DeficitNetModel", name := "waiting", desc := "(II)I" } : Jvm.MethodName)) ∈ wT := mem_wT (tb4 (List.mem_of_getElem? (i := 25) rfl)) rfl
theorem t_746 : (Jvm.Cond.selects "DeficitNetModel" ({ cls := "DeficitNetModel", name := "waiting", desc := "(II)I" } : Jvm.MethodName) ({ cls := "DeficitNetModel", name := "waiting", desc := "(II)I" } : Jvm.MethodName)) ∈ wT := mem_wT (tb4 (List.mem_of_getElem? (i := 26) rfl)) rfl
theorem t_747 : (Jvm.Cond.code ({ cls := "DeficitNetModel", name := "waiting", desc := "(II)I" } : Jvm.MethodName) prog_7_method_39_code (3 : Nat) (Option.some Jvm.ClassFile.FieldType.int)) ∈ wT := mem_wT (tb4 (List.mem_of_getElem? (i := 27) rfl)) rfl
theorem t_749 : (Jvm.Cond.instanceMethod ({ cls := "DeficitNetModel", name := "deficit", desc := "(II)I" } : Jvm.MethodName)) ∈ wT := mem_wT (tb4 (List.mem_of_getElem? (i := 29) rfl)) rfl
theorem t_750 : (Jvm.Cond.selects "DeficitNetModel" ({ cls := "DeficitNetModel", name := "deficit", desc := "(II)I" } : Jvm.MethodName) ({ cls := "DeficitNetModel", name := "deficit", desc := "(II)I" } : Jvm.MethodName)) ∈ wT := mem_wT (tb4 (List.mem_of_getElem? (i := 30) rfl)) rfl
theorem t_751 : (Jvm.Cond.code ({ cls := "DeficitNetModel", name := "deficit", desc := "(II)I" } : Jvm.MethodName) prog_7_method_40_code (3 : Nat) (Option.some Jvm.ClassFile.FieldType.int)) ∈ wT := mem_wT (tb4 (List.mem_of_getElem? (i := 31) rfl)) rfl
theorem t_753 : (Jvm.Cond.instanceMethod ({ cls := "DeficitNetModel", name := "onPort", desc := "(I)I" } : Jvm.MethodName)) ∈ wT := mem_wT (tb4 (List.mem_of_getElem? (i := 33) rfl)) rfl
theorem t_754 : (Jvm.Cond.selects "DeficitNetModel" ({ cls := "DeficitNetModel", name := "onPort", desc := "(I)I" } : Jvm.MethodName) ({ cls := "DeficitNetModel", name := "onPort", desc := "(I)I" } : Jvm.MethodName)) ∈ wT := mem_wT (tb4 (List.mem_of_getElem? (i := 34) rfl)) rfl
theorem t_755 : (Jvm.Cond.code ({ cls := "DeficitNetModel", name := "onPort", desc := "(I)I" } : Jvm.MethodName) prog_7_method_41_code (3 : Nat) (Option.some Jvm.ClassFile.FieldType.int)) ∈ wT := mem_wT (tb4 (List.mem_of_getElem? (i := 35) rfl)) rfl
theorem t_757 : (Jvm.Cond.instanceMethod ({ cls := "DeficitNetModel", name := "timer", desc := "(I)I" } : Jvm.MethodName)) ∈ wT := mem_wT (tb4 (List.mem_of_getElem? (i := 37) rfl)) rfl
theorem t_758 : (Jvm.Cond.selects "DeficitNetModel" ({ cls := "DeficitNetModel", name := "timer", desc := "(I)I" } : Jvm.MethodName) ({ cls := "DeficitNetModel", name := "timer", desc := "(I)I" } : Jvm.MethodName)) ∈ wT := mem_wT (tb4 (List.mem_of_getElem? (i := 38) rfl)) rfl
theorem t_759 : (Jvm.Cond.code ({ cls := "DeficitNetModel", name := "timer", desc := "(I)I" } : Jvm.MethodName) prog_7_method_42_code (2 : Nat) (Option.some Jvm.ClassFile.FieldType.int)) ∈ wT := mem_wT (tb4 (List.mem_of_getElem? (i := 39) rfl)) rfl
theorem t_761 : (Jvm.Cond.instanceMethod ({ cls := "DeficitNetModel", name := "count", desc := "(II)I" } : Jvm.MethodName)) ∈ wT := mem_wT (tb4 (List.mem_of_getElem? (i := 41) rfl)) rfl
theorem t_762 : (Jvm.Cond.selects "DeficitNetModel" ({ cls := "DeficitNetModel", name := "count", desc := "(II)I" } : Jvm.MethodName) ({ cls := "DeficitNetModel", name := "count", desc := "(II)I" } : Jvm.MethodName)) ∈ wT := mem_wT (tb4 (List.mem_of_getElem? (i := 42) rfl)) rfl
theorem t_763 : (Jvm.Cond.code ({ cls := "DeficitNetModel", name := "count", desc := "(II)I" } : Jvm.MethodName) prog_7_method_43_code (3 : Nat) (Option.some Jvm.ClassFile.FieldType.int)) ∈ wT := mem_wT (tb4 (List.mem_of_getElem? (i := 43) rfl)) rfl
theorem s_0 : Cond.selects "DeficitNet" ({ cls := "DeficitNet", name := "shortenOver", desc := "(III)V" } : Jvm.MethodName) ({ cls := "DeficitNet", name := "shortenOver", desc := "(III)V" } : Jvm.MethodName) ∈ wT := mem_wT (List.mem_append_left _ (List.mem_of_getElem? (i := 0) rfl)) rfl
theorem s_1 : Cond.selects "DeficitNet" ({ cls := "DeficitNet", name := "isPort", desc := "(I)Z" } : Jvm.MethodName) ({ cls := "DeficitNet", name := "isPort", desc := "(I)Z" } : Jvm.MethodName) ∈ wT := mem_wT (List.mem_append_left _ (List.mem_of_getElem? (i := 1) rfl)) rfl
theorem s_2 : Cond.selects "DeficitNet" ({ cls := "DeficitNet", name := "isFlow", desc := "(I)Z" } : Jvm.MethodName) ({ cls := "DeficitNet", name := "isFlow", desc := "(I)Z" } : Jvm.MethodName) ∈ wT := mem_wT (List.mem_append_left _ (List.mem_of_getElem? (i := 2) rfl)) rfl
theorem s_3 : Cond.selects "DeficitNet" ({ cls := "DeficitNet", name := "begin", desc := "()V" } : Jvm.MethodName) ({ cls := "DeficitNet", name := "begin", desc := "()V" } : Jvm.MethodName) ∈ wT := mem_wT (List.mem_append_left _ (List.mem_of_getElem? (i := 3) rfl)) rfl
theorem s_4 : Cond.selects "DeficitNet" ({ cls := "DeficitNet", name := "happen", desc := "()Z" } : Jvm.MethodName) ({ cls := "DeficitNet", name := "happen", desc := "()Z" } : Jvm.MethodName) ∈ wT := mem_wT (List.mem_append_left _ (List.mem_of_getElem? (i := 4) rfl)) rfl
theorem s_5 : Cond.selects "DeficitNet" ({ cls := "DeficitNet", name := "start", desc := "(I)V" } : Jvm.MethodName) ({ cls := "DeficitNet", name := "start", desc := "(I)V" } : Jvm.MethodName) ∈ wT := mem_wT (List.mem_append_left _ (List.mem_of_getElem? (i := 5) rfl)) rfl
theorem s_6 : Cond.selects "DeficitNet" ({ cls := "DeficitNet", name := "remember", desc := "(III)V" } : Jvm.MethodName) ({ cls := "DeficitNet", name := "remember", desc := "(III)V" } : Jvm.MethodName) ∈ wT := mem_wT (List.mem_append_left _ (List.mem_of_getElem? (i := 6) rfl)) rfl
theorem s_7 : Cond.selects "DeficitNet" ({ cls := "DeficitNet", name := "fill", desc := "(I)V" } : Jvm.MethodName) ({ cls := "DeficitNet", name := "fill", desc := "(I)V" } : Jvm.MethodName) ∈ wT := mem_wT (List.mem_append_left _ (List.mem_of_getElem? (i := 7) rfl)) rfl
theorem s_8 : Cond.selects "DeficitNet" ({ cls := "DeficitNet", name := "hasTimer", desc := "(I)Z" } : Jvm.MethodName) ({ cls := "DeficitNet", name := "hasTimer", desc := "(I)Z" } : Jvm.MethodName) ∈ wT := mem_wT (List.mem_append_left _ (List.mem_of_getElem? (i := 8) rfl)) rfl
theorem s_9 : Cond.selects "DeficitNet" ({ cls := "DeficitNet", name := "setTimer", desc := "(I)V" } : Jvm.MethodName) ({ cls := "DeficitNet", name := "setTimer", desc := "(I)V" } : Jvm.MethodName) ∈ wT := mem_wT (List.mem_append_left _ (List.mem_of_getElem? (i := 9) rfl)) rfl
theorem s_10 : Cond.selects "DeficitNet" ({ cls := "DeficitNet", name := "make", desc := "(IIZ)I" } : Jvm.MethodName) ({ cls := "DeficitNet", name := "make", desc := "(IIZ)I" } : Jvm.MethodName) ∈ wT := mem_wT (List.mem_append_left _ (List.mem_of_getElem? (i := 10) rfl)) rfl
theorem s_11 : Cond.selects "DeficitNet" ({ cls := "DeficitNet", name := "put", desc := "(II)V" } : Jvm.MethodName) ({ cls := "DeficitNet", name := "put", desc := "(II)V" } : Jvm.MethodName) ∈ wT := mem_wT (List.mem_append_left _ (List.mem_of_getElem? (i := 11) rfl)) rfl
theorem s_12 : Cond.selects "DeficitNet" ({ cls := "DeficitNet", name := "queuedOf", desc := "(LDeficitNet$Port;I)I" } : Jvm.MethodName) ({ cls := "DeficitNet", name := "queuedOf", desc := "(LDeficitNet$Port;I)I" } : Jvm.MethodName) ∈ wT := mem_wT (List.mem_append_left _ (List.mem_of_getElem? (i := 12) rfl)) rfl
theorem s_13 : Cond.selects "DeficitNet" ({ cls := "DeficitNet", name := "choose", desc := "(LDeficitNet$Port;)V" } : Jvm.MethodName) ({ cls := "DeficitNet", name := "choose", desc := "(LDeficitNet$Port;)V" } : Jvm.MethodName) ∈ wT := mem_wT (List.mem_append_left _ (List.mem_of_getElem? (i := 13) rfl)) rfl
theorem s_14 : Cond.selects "DeficitNet" ({ cls := "DeficitNet", name := "firstPlaceOf", desc := "(LDeficitNet$Port;I)I" } : Jvm.MethodName) ({ cls := "DeficitNet", name := "firstPlaceOf", desc := "(LDeficitNet$Port;I)I" } : Jvm.MethodName) ∈ wT := mem_wT (List.mem_append_left _ (List.mem_of_getElem? (i := 14) rfl)) rfl
theorem s_15 : Cond.selects "DeficitNet" ({ cls := "DeficitNet", name := "leave", desc := "(I)V" } : Jvm.MethodName) ({ cls := "DeficitNet", name := "leave", desc := "(I)V" } : Jvm.MethodName) ∈ wT := mem_wT (List.mem_append_left _ (List.mem_of_getElem? (i := 15) rfl)) rfl
theorem s_16 : Cond.selects "DeficitNet" ({ cls := "DeficitNet", name := "arrive", desc := "(I)V" } : Jvm.MethodName) ({ cls := "DeficitNet", name := "arrive", desc := "(I)V" } : Jvm.MethodName) ∈ wT := mem_wT (List.mem_append_left _ (List.mem_of_getElem? (i := 16) rfl)) rfl
theorem s_17 : Cond.selects "DeficitNet" ({ cls := "DeficitNet", name := "takeData", desc := "(II)V" } : Jvm.MethodName) ({ cls := "DeficitNet", name := "takeData", desc := "(II)V" } : Jvm.MethodName) ∈ wT := mem_wT (List.mem_append_left _ (List.mem_of_getElem? (i := 17) rfl)) rfl
theorem s_18 : Cond.selects "DeficitNet" ({ cls := "DeficitNet", name := "moveBase", desc := "(II)V" } : Jvm.MethodName) ({ cls := "DeficitNet", name := "moveBase", desc := "(II)V" } : Jvm.MethodName) ∈ wT := mem_wT (List.mem_append_left _ (List.mem_of_getElem? (i := 18) rfl)) rfl
theorem s_19 : Cond.selects "DeficitNet" ({ cls := "DeficitNet", name := "timeOut", desc := "(I)V" } : Jvm.MethodName) ({ cls := "DeficitNet", name := "timeOut", desc := "(I)V" } : Jvm.MethodName) ∈ wT := mem_wT (List.mem_append_left _ (List.mem_of_getElem? (i := 19) rfl)) rfl
theorem s_20 : Cond.selects "DeficitNetModel" ({ cls := "DeficitNetModel", name := "measure", desc := "()V" } : Jvm.MethodName) ({ cls := "DeficitNetModel", name := "measure", desc := "()V" } : Jvm.MethodName) ∈ wT := mem_wT (List.mem_append_left _ (List.mem_of_getElem? (i := 20) rfl)) rfl
theorem s_21 : Cond.selects "DeficitNetModel" ({ cls := "DeficitNetModel", name := "isPort", desc := "(I)Z" } : Jvm.MethodName) ({ cls := "DeficitNetModel", name := "isPort", desc := "(I)Z" } : Jvm.MethodName) ∈ wT := mem_wT (List.mem_append_left _ (List.mem_of_getElem? (i := 21) rfl)) rfl
theorem s_22 : Cond.selects "DeficitNetModel" ({ cls := "DeficitNetModel", name := "isFlow", desc := "(I)Z" } : Jvm.MethodName) ({ cls := "DeficitNetModel", name := "isFlow", desc := "(I)Z" } : Jvm.MethodName) ∈ wT := mem_wT (List.mem_append_left _ (List.mem_of_getElem? (i := 22) rfl)) rfl
theorem s_23 : Cond.selects "DeficitNetModel" ({ cls := "DeficitNetModel", name := "at", desc := "(I)I" } : Jvm.MethodName) ({ cls := "DeficitNetModel", name := "at", desc := "(I)I" } : Jvm.MethodName) ∈ wT := mem_wT (List.mem_append_left _ (List.mem_of_getElem? (i := 23) rfl)) rfl
theorem s_24 : Cond.selects "DeficitNetModel" ({ cls := "DeficitNetModel", name := "leads", desc := "(I)I" } : Jvm.MethodName) ({ cls := "DeficitNetModel", name := "leads", desc := "(I)I" } : Jvm.MethodName) ∈ wT := mem_wT (List.mem_append_left _ (List.mem_of_getElem? (i := 24) rfl)) rfl
theorem s_25 : Cond.selects "DeficitNetModel" ({ cls := "DeficitNetModel", name := "begin", desc := "()V" } : Jvm.MethodName) ({ cls := "DeficitNetModel", name := "begin", desc := "()V" } : Jvm.MethodName) ∈ wT := mem_wT (List.mem_append_left _ (List.mem_of_getElem? (i := 25) rfl)) rfl
theorem s_26 : Cond.selects "DeficitNetModel" ({ cls := "DeficitNetModel", name := "soonest", desc := "()J" } : Jvm.MethodName) ({ cls := "DeficitNetModel", name := "soonest", desc := "()J" } : Jvm.MethodName) ∈ wT := mem_wT (List.mem_append_left _ (List.mem_of_getElem? (i := 26) rfl)) rfl
theorem s_27 : Cond.selects "DeficitNetModel" ({ cls := "DeficitNetModel", name := "note", desc := "(III)V" } : Jvm.MethodName) ({ cls := "DeficitNetModel", name := "note", desc := "(III)V" } : Jvm.MethodName) ∈ wT := mem_wT (List.mem_append_left _ (List.mem_of_getElem? (i := 27) rfl)) rfl
theorem s_28 : Cond.selects "DeficitNetModel" ({ cls := "DeficitNetModel", name := "fill", desc := "(I)V" } : Jvm.MethodName) ({ cls := "DeficitNetModel", name := "fill", desc := "(I)V" } : Jvm.MethodName) ∈ wT := mem_wT (List.mem_append_left _ (List.mem_of_getElem? (i := 28) rfl)) rfl
theorem s_29 : Cond.selects "DeficitNetModel" ({ cls := "DeficitNetModel", name := "setTimeout", desc := "(I)V" } : Jvm.MethodName) ({ cls := "DeficitNetModel", name := "setTimeout", desc := "(I)V" } : Jvm.MethodName) ∈ wT := mem_wT (List.mem_append_left _ (List.mem_of_getElem? (i := 29) rfl)) rfl
theorem s_30 : Cond.selects "DeficitNetModel" ({ cls := "DeficitNetModel", name := "make", desc := "(IIZI)V" } : Jvm.MethodName) ({ cls := "DeficitNetModel", name := "make", desc := "(IIZI)V" } : Jvm.MethodName) ∈ wT := mem_wT (List.mem_append_left _ (List.mem_of_getElem? (i := 30) rfl)) rfl
theorem s_31 : Cond.selects "DeficitNetModel" ({ cls := "DeficitNetModel", name := "put", desc := "(II)V" } : Jvm.MethodName) ({ cls := "DeficitNetModel", name := "put", desc := "(II)V" } : Jvm.MethodName) ∈ wT := mem_wT (List.mem_append_left _ (List.mem_of_getElem? (i := 31) rfl)) rfl
theorem s_32 : Cond.selects "DeficitNetModel" ({ cls := "DeficitNetModel", name := "endOf", desc := "(I)I" } : Jvm.MethodName) ({ cls := "DeficitNetModel", name := "endOf", desc := "(I)I" } : Jvm.MethodName) ∈ wT := mem_wT (List.mem_append_left _ (List.mem_of_getElem? (i := 32) rfl)) rfl
theorem s_33 : Cond.selects "DeficitNetModel" ({ cls := "DeficitNetModel", name := "queued", desc := "(II)I" } : Jvm.MethodName) ({ cls := "DeficitNetModel", name := "queued", desc := "(II)I" } : Jvm.MethodName) ∈ wT := mem_wT (List.mem_append_left _ (List.mem_of_getElem? (i := 33) rfl)) rfl
theorem s_34 : Cond.selects "DeficitNetModel" ({ cls := "DeficitNetModel", name := "lose", desc := "(I)V" } : Jvm.MethodName) ({ cls := "DeficitNetModel", name := "lose", desc := "(I)V" } : Jvm.MethodName) ∈ wT := mem_wT (List.mem_append_left _ (List.mem_of_getElem? (i := 34) rfl)) rfl
theorem s_35 : Cond.selects "DeficitNetModel" ({ cls := "DeficitNetModel", name := "on", desc := "(I)I" } : Jvm.MethodName) ({ cls := "DeficitNetModel", name := "on", desc := "(I)I" } : Jvm.MethodName) ∈ wT := mem_wT (List.mem_append_left _ (List.mem_of_getElem? (i := 35) rfl)) rfl
theorem s_36 : Cond.selects "DeficitNetModel" ({ cls := "DeficitNetModel", name := "choose", desc := "(I)V" } : Jvm.MethodName) ({ cls := "DeficitNetModel", name := "choose", desc := "(I)V" } : Jvm.MethodName) ∈ wT := mem_wT (List.mem_append_left _ (List.mem_of_getElem? (i := 36) rfl)) rfl
theorem s_37 : Cond.selects "DeficitNetModel" ({ cls := "DeficitNetModel", name := "leader", desc := "(I)I" } : Jvm.MethodName) ({ cls := "DeficitNetModel", name := "leader", desc := "(I)I" } : Jvm.MethodName) ∈ wT := mem_wT (List.mem_append_left _ (List.mem_of_getElem? (i := 37) rfl)) rfl
theorem s_38 : Cond.selects "DeficitNetModel" ({ cls := "DeficitNetModel", name := "head", desc := "(II)I" } : Jvm.MethodName) ({ cls := "DeficitNetModel", name := "head", desc := "(II)I" } : Jvm.MethodName) ∈ wT := mem_wT (List.mem_append_left _ (List.mem_of_getElem? (i := 38) rfl)) rfl
theorem s_39 : Cond.selects "DeficitNetModel" ({ cls := "DeficitNetModel", name := "sizeOf", desc := "(I)I" } : Jvm.MethodName) ({ cls := "DeficitNetModel", name := "sizeOf", desc := "(I)I" } : Jvm.MethodName) ∈ wT := mem_wT (List.mem_append_left _ (List.mem_of_getElem? (i := 39) rfl)) rfl
theorem s_40 : Cond.selects "DeficitNetModel" ({ cls := "DeficitNetModel", name := "moved", desc := "(I)V" } : Jvm.MethodName) ({ cls := "DeficitNetModel", name := "moved", desc := "(I)V" } : Jvm.MethodName) ∈ wT := mem_wT (List.mem_append_left _ (List.mem_of_getElem? (i := 40) rfl)) rfl
theorem s_41 : Cond.selects "DeficitNetModel" ({ cls := "DeficitNetModel", name := "arrive", desc := "(I)V" } : Jvm.MethodName) ({ cls := "DeficitNetModel", name := "arrive", desc := "(I)V" } : Jvm.MethodName) ∈ wT := mem_wT (List.mem_append_left _ (List.mem_of_getElem? (i := 41) rfl)) rfl
