theorem dX7_init_0 : decode cX7_init 0 = .ok (.aload_n 0, 1) := by decide +kernel
theorem dX7_init_1 : decode cX7_init 1 = .ok (.invokespecial 1, 3) := by decide +kernel
theorem dX7_init_4 : decode cX7_init 4 = .ok (.aload_n 0, 1) := by decide +kernel
theorem dX7_init_5 : decode cX7_init 5 = .ok (.sipush 256, 3) := by decide +kernel
theorem dX7_init_8 : decode cX7_init 8 = .ok (.newarray .int, 2) := by decide +kernel
theorem dX7_init_10 : decode cX7_init 10 = .ok (.putfield 7, 3) := by decide +kernel
theorem dX7_init_13 : decode cX7_init 13 = .ok (.aload_n 0, 1) := by decide +kernel
theorem dX7_init_14 : decode cX7_init 14 = .ok (.bipush 10, 2) := by decide +kernel
theorem dX7_init_16 : decode cX7_init 16 = .ok (.newarray .int, 2) := by decide +kernel
theorem dX7_init_18 : decode cX7_init 18 = .ok (.putfield 13, 3) := by decide +kernel
theorem dX7_init_21 : decode cX7_init 21 = .ok (.aload_n 0, 1) := by decide +kernel
theorem dX7_init_22 : decode cX7_init 22 = .ok (.bipush 10, 2) := by decide +kernel
theorem dX7_init_24 : decode cX7_init 24 = .ok (.newarray .boolean, 2) := by decide +kernel
theorem dX7_init_26 : decode cX7_init 26 = .ok (.putfield 16, 3) := by decide +kernel
theorem dX7_init_29 : decode cX7_init 29 = .ok (.aload_n 0, 1) := by decide +kernel
theorem dX7_init_30 : decode cX7_init 30 = .ok (.sipush 2560, 3) := by decide +kernel
theorem dX7_init_33 : decode cX7_init 33 = .ok (.newarray .boolean, 2) := by decide +kernel
theorem dX7_init_35 : decode cX7_init 35 = .ok (.putfield 20, 3) := by decide +kernel
theorem dX7_init_38 : decode cX7_init 38 = .ok (.aload_n 0, 1) := by decide +kernel
theorem dX7_init_39 : decode cX7_init 39 = .ok (.sipush 2560, 3) := by decide +kernel
theorem dX7_init_42 : decode cX7_init 42 = .ok (.newarray .boolean, 2) := by decide +kernel
theorem dX7_init_44 : decode cX7_init 44 = .ok (.putfield 23, 3) := by decide +kernel
theorem dX7_init_47 : decode cX7_init 47 = .ok (.aload_n 0, 1) := by decide +kernel
theorem dX7_init_48 : decode cX7_init 48 = .ok (.sipush 2560, 3) := by decide +kernel
theorem dX7_init_51 : decode cX7_init 51 = .ok (.newarray .int, 2) := by decide +kernel
theorem dX7_init_53 : decode cX7_init 53 = .ok (.putfield 26, 3) := by decide +kernel
theorem dX7_init_56 : decode cX7_init 56 = .ok (.aload_n 0, 1) := by decide +kernel
theorem dX7_init_57 : decode cX7_init 57 = .ok (.bipush 10, 2) := by decide +kernel
theorem dX7_init_59 : decode cX7_init 59 = .ok (.newarray .int, 2) := by decide +kernel
theorem dX7_init_61 : decode cX7_init 61 = .ok (.putfield 29, 3) := by decide +kernel
theorem dX7_init_64 : decode cX7_init 64 = .ok (.aload_n 0, 1) := by decide +kernel
theorem dX7_init_65 : decode cX7_init 65 = .ok (.bipush 10, 2) := by decide +kernel
theorem dX7_init_67 : decode cX7_init 67 = .ok (.newarray .boolean, 2) := by decide +kernel
theorem dX7_init_69 : decode cX7_init 69 = .ok (.putfield 32, 3) := by decide +kernel
theorem dX7_init_72 : decode cX7_init 72 = .ok (.aload_n 0, 1) := by decide +kernel
theorem dX7_init_73 : decode cX7_init 73 = .ok (.sipush 2560, 3) := by decide +kernel
theorem dX7_init_76 : decode cX7_init 76 = .ok (.newarray .boolean, 2) := by decide +kernel
theorem dX7_init_78 : decode cX7_init 78 = .ok (.putfield 35, 3) := by decide +kernel
theorem dX7_init_81 : decode cX7_init 81 = .ok (.aload_n 0, 1) := by decide +kernel
theorem dX7_init_82 : decode cX7_init 82 = .ok (.sipush 2560, 3) := by decide +kernel
theorem dX7_init_85 : decode cX7_init 85 = .ok (.newarray .boolean, 2) := by decide +kernel
theorem dX7_init_87 : decode cX7_init 87 = .ok (.putfield 38, 3) := by decide +kernel
theorem dX7_init_90 : decode cX7_init 90 = .ok (.aload_n 0, 1) := by decide +kernel
theorem dX7_init_91 : decode cX7_init 91 = .ok (.sipush 2560, 3) := by decide +kernel
theorem dX7_init_94 : decode cX7_init 94 = .ok (.newarray .int, 2) := by decide +kernel
theorem dX7_init_96 : decode cX7_init 96 = .ok (.putfield 41, 3) := by decide +kernel
theorem dX7_init_99 : decode cX7_init 99 = .ok (.aload_n 0, 1) := by decide +kernel
theorem dX7_init_100 : decode cX7_init 100 = .ok (.sipush 1024, 3) := by decide +kernel
theorem dX7_init_103 : decode cX7_init 103 = .ok (.newarray .int, 2) := by decide +kernel
theorem dX7_init_105 : decode cX7_init 105 = .ok (.putfield 44, 3) := by decide +kernel
theorem dX7_init_108 : decode cX7_init 108 = .ok (.aload_n 0, 1) := by decide +kernel
theorem dX7_init_109 : decode cX7_init 109 = .ok (.sipush 2048, 3) := by decide +kernel
theorem dX7_init_112 : decode cX7_init 112 = .ok (.newarray .int, 2) := by decide +kernel
theorem dX7_init_114 : decode cX7_init 114 = .ok (.putfield 47, 3) := by decide +kernel
theorem dX7_init_117 : decode cX7_init 117 = .ok (.aload_n 0, 1) := by decide +kernel
theorem dX7_init_118 : decode cX7_init 118 = .ok (.sipush 256, 3) := by decide +kernel
theorem dX7_init_121 : decode cX7_init 121 = .ok (.newarray .int, 2) := by decide +kernel
theorem dX7_init_123 : decode cX7_init 123 = .ok (.putfield 50, 3) := by decide +kernel
theorem dX7_init_126 : decode cX7_init 126 = .ok (.aload_n 0, 1) := by decide +kernel
theorem dX7_init_127 : decode cX7_init 127 = .ok (.bipush 9, 2) := by decide +kernel
theorem dX7_init_129 : decode cX7_init 129 = .ok (.newarray .int, 2) := by decide +kernel
theorem dX7_init_131 : decode cX7_init 131 = .ok (.putfield 53, 3) := by decide +kernel
theorem dX7_init_134 : decode cX7_init 134 = .ok (.aload_n 0, 1) := by decide +kernel
theorem dX7_init_135 : decode cX7_init 135 = .ok (.sipush 256, 3) := by decide +kernel
theorem dX7_init_138 : decode cX7_init 138 = .ok (.newarray .boolean, 2) := by decide +kernel
theorem dX7_init_140 : decode cX7_init 140 = .ok (.putfield 56, 3) := by decide +kernel
theorem dX7_init_143 : decode cX7_init 143 = .ok (.aload_n 0, 1) := by decide +kernel
theorem dX7_init_144 : decode cX7_init 144 = .ok (.sipush 256, 3) := by decide +kernel
theorem dX7_init_147 : decode cX7_init 147 = .ok (.newarray .boolean, 2) := by decide +kernel
theorem dX7_init_149 : decode cX7_init 149 = .ok (.putfield 59, 3) := by decide +kernel
theorem dX7_init_152 : decode cX7_init 152 = .ok (.aload_n 0, 1) := by decide +kernel
theorem dX7_init_153 : decode cX7_init 153 = .ok (.sipush 256, 3) := by decide +kernel
theorem dX7_init_156 : decode cX7_init 156 = .ok (.newarray .int, 2) := by decide +kernel
theorem dX7_init_158 : decode cX7_init 158 = .ok (.putfield 62, 3) := by decide +kernel
theorem dX7_init_161 : decode cX7_init 161 = .ok (.aload_n 0, 1) := by decide +kernel
theorem dX7_init_162 : decode cX7_init 162 = .ok (.bipush 6, 2) := by decide +kernel
theorem dX7_init_164 : decode cX7_init 164 = .ok (.newarray .int, 2) := by decide +kernel
theorem dX7_init_166 : decode cX7_init 166 = .ok (.putfield 65, 3) := by decide +kernel
theorem dX7_init_169 : decode cX7_init 169 = .ok (.aload_n 0, 1) := by decide +kernel
theorem dX7_init_170 : decode cX7_init 170 = .ok (.bipush 6, 2) := by decide +kernel
theorem dX7_init_172 : decode cX7_init 172 = .ok (.newarray .int, 2) := by decide +kernel
theorem dX7_init_174 : decode cX7_init 174 = .ok (.putfield 68, 3) := by decide +kernel
theorem dX7_init_177 : decode cX7_init 177 = .ok (.return_, 1) := by decide +kernel
theorem dX7_thrown_0 : decode cX7_thrown 0 = .ok (.aload_n 0, 1) := by decide +kernel
theorem dX7_thrown_1 : decode cX7_thrown 1 = .ok (.getfield 71, 3) := by decide +kernel
theorem dX7_thrown_4 : decode cX7_thrown 4 = .ok (.ireturn, 1) := by decide +kernel
theorem dX7_in_0 : decode cX7_in 0 = .ok (.iload_n 0, 1) := by decide +kernel
theorem dX7_in_1 : decode cX7_in 1 = .ok (.iload_n 1, 1) := by decide +kernel
theorem dX7_in_2 : decode cX7_in 2 = .ok (.if_icmp .lt 12, 3) := by decide +kernel
theorem dX7_in_5 : decode cX7_in 5 = .ok (.iload_n 0, 1) := by decide +kernel
theorem dX7_in_6 : decode cX7_in 6 = .ok (.iload_n 2, 1) := by decide +kernel
theorem dX7_in_7 : decode cX7_in 7 = .ok (.if_icmp .gt 7, 3) := by decide +kernel
theorem dX7_in_10 : decode cX7_in 10 = .ok (.iconst 1, 1) := by decide +kernel
theorem dX7_in_11 : decode cX7_in 11 = .ok (.goto 4, 3) := by decide +kernel
theorem dX7_in_14 : decode cX7_in 14 = .ok (.iconst 0, 1) := by decide +kernel
theorem dX7_in_15 : decode cX7_in 15 = .ok (.ireturn, 1) := by decide +kernel
theorem dX7_isRoutine_0 : decode cX7_isRoutine 0 = .ok (.iload_n 1, 1) := by decide +kernel
theorem dX7_isRoutine_1 : decode cX7_isRoutine 1 = .ok (.iconst 0, 1) := by decide +kernel
theorem dX7_isRoutine_2 : decode cX7_isRoutine 2 = .ok (.aload_n 0, 1) := by decide +kernel
theorem dX7_isRoutine_3 : decode cX7_isRoutine 3 = .ok (.getfield 75, 3) := by decide +kernel
theorem dX7_isRoutine_6 : decode cX7_isRoutine 6 = .ok (.iconst 1, 1) := by decide +kernel
theorem dX7_isRoutine_7 : decode cX7_isRoutine 7 = .ok (.isub, 1) := by decide +kernel
theorem dX7_isRoutine_8 : decode cX7_isRoutine 8 = .ok (.invokestatic 78, 3) := by decide +kernel
theorem dX7_isRoutine_11 : decode cX7_isRoutine 11 = .ok (.ireturn, 1) := by decide +kernel
theorem dX7_isLooked_0 : decode cX7_isLooked 0 = .ok (.iconst 0, 1) := by decide +kernel
theorem dX7_isLooked_1 : decode cX7_isLooked 1 = .ok (.istore_n 2, 1) := by decide +kernel
theorem dX7_isLooked_2 : decode cX7_isLooked 2 = .ok (.iconst 0, 1) := by decide +kernel
theorem dX7_isLooked_3 : decode cX7_isLooked 3 = .ok (.istore_n 3, 1) := by decide +kernel
theorem dX7_isLooked_4 : decode cX7_isLooked 4 = .ok (.iload_n 3, 1) := by decide +kernel
theorem dX7_isLooked_5 : decode cX7_isLooked 5 = .ok (.aload_n 0, 1) := by decide +kernel
theorem dX7_isLooked_6 : decode cX7_isLooked 6 = .ok (.getfield 75, 3) := by decide +kernel
theorem dX7_isLooked_9 : decode cX7_isLooked 9 = .ok (.if_icmp .ge 65, 3) := by decide +kernel
theorem dX7_isLooked_12 : decode cX7_isLooked 12 = .ok (.iconst 0, 1) := by decide +kernel
theorem dX7_isLooked_13 : decode cX7_isLooked 13 = .ok (.istore 4, 2) := by decide +kernel
theorem dX7_isLooked_15 : decode cX7_isLooked 15 = .ok (.iload 4, 2) := by decide +kernel
theorem dX7_isLooked_17 : decode cX7_isLooked 17 = .ok (.bipush 16, 2) := by decide +kernel
theorem dX7_isLooked_19 : decode cX7_isLooked 19 = .ok (.if_icmp .ge 49, 3) := by decide +kernel
theorem dX7_isLooked_22 : decode cX7_isLooked 22 = .ok (.aload_n 0, 1) := by decide +kernel
theorem dX7_isLooked_23 : decode cX7_isLooked 23 = .ok (.getfield 16, 3) := by decide +kernel
theorem dX7_isLooked_26 : decode cX7_isLooked 26 = .ok (.iload_n 3, 1) := by decide +kernel
theorem dX7_isLooked_27 : decode cX7_isLooked 27 = .ok (.baload, 1) := by decide +kernel
theorem dX7_isLooked_28 : decode cX7_isLooked 28 = .ok (.ifCond .eq 40, 3) := by decide +kernel
theorem dX7_isLooked_31 : decode cX7_isLooked 31 = .ok (.iload_n 2, 1) := by decide +kernel
theorem dX7_isLooked_32 : decode cX7_isLooked 32 = .ok (.ifCond .ne 24, 3) := by decide +kernel
theorem dX7_isLooked_35 : decode cX7_isLooked 35 = .ok (.aload_n 0, 1) := by decide +kernel
theorem dX7_isLooked_36 : decode cX7_isLooked 36 = .ok (.getfield 23, 3) := by decide +kernel
theorem dX7_isLooked_39 : decode cX7_isLooked 39 = .ok (.sipush 256, 3) := by decide +kernel
theorem dX7_isLooked_42 : decode cX7_isLooked 42 = .ok (.iload_n 3, 1) := by decide +kernel
theorem dX7_isLooked_43 : decode cX7_isLooked 43 = .ok (.imul, 1) := by decide +kernel
theorem dX7_isLooked_44 : decode cX7_isLooked 44 = .ok (.bipush 16, 2) := by decide +kernel
theorem dX7_isLooked_46 : decode cX7_isLooked 46 = .ok (.iload_n 1, 1) := by decide +kernel
theorem dX7_isLooked_47 : decode cX7_isLooked 47 = .ok (.imul, 1) := by decide +kernel
theorem dX7_isLooked_48 : decode cX7_isLooked 48 = .ok (.iadd, 1) := by decide +kernel
theorem dX7_isLooked_49 : decode cX7_isLooked 49 = .ok (.iload 4, 2) := by decide +kernel
theorem dX7_isLooked_51 : decode cX7_isLooked 51 = .ok (.iadd, 1) := by decide +kernel
theorem dX7_isLooked_52 : decode cX7_isLooked 52 = .ok (.baload, 1) := by decide +kernel
theorem dX7_isLooked_53 : decode cX7_isLooked 53 = .ok (.ifCond .eq 7, 3) := by decide +kernel
theorem dX7_isLooked_56 : decode cX7_isLooked 56 = .ok (.iconst 1, 1) := by decide +kernel
theorem dX7_isLooked_57 : decode cX7_isLooked 57 = .ok (.goto 4, 3) := by decide +kernel
theorem dX7_isLooked_60 : decode cX7_isLooked 60 = .ok (.iconst 0, 1) := by decide +kernel
theorem dX7_isLooked_61 : decode cX7_isLooked 61 = .ok (.istore_n 2, 1) := by decide +kernel
theorem dX7_isLooked_62 : decode cX7_isLooked 62 = .ok (.iinc 4 1, 3) := by decide +kernel
theorem dX7_isLooked_65 : decode cX7_isLooked 65 = .ok (.goto (-50), 3) := by decide +kernel
theorem dX7_isLooked_68 : decode cX7_isLooked 68 = .ok (.iinc 3 1, 3) := by decide +kernel
theorem dX7_isLooked_71 : decode cX7_isLooked 71 = .ok (.goto (-67), 3) := by decide +kernel
theorem dX7_isLooked_74 : decode cX7_isLooked 74 = .ok (.iload_n 2, 1) := by decide +kernel
theorem dX7_isLooked_75 : decode cX7_isLooked 75 = .ok (.ireturn, 1) := by decide +kernel
theorem dX7_drop_0 : decode cX7_drop 0 = .ok (.sipush 256, 3) := by decide +kernel
theorem dX7_drop_3 : decode cX7_drop 3 = .ok (.iload_n 1, 1) := by decide +kernel
theorem dX7_drop_4 : decode cX7_drop 4 = .ok (.imul, 1) := by decide +kernel
theorem dX7_drop_5 : decode cX7_drop 5 = .ok (.istore_n 2, 1) := by decide +kernel
theorem dX7_drop_6 : decode cX7_drop 6 = .ok (.iload_n 2, 1) := by decide +kernel
theorem dX7_drop_7 : decode cX7_drop 7 = .ok (.sipush 256, 3) := by decide +kernel
theorem dX7_drop_10 : decode cX7_drop 10 = .ok (.iload_n 1, 1) := by decide +kernel
theorem dX7_drop_11 : decode cX7_drop 11 = .ok (.imul, 1) := by decide +kernel
theorem dX7_drop_12 : decode cX7_drop 12 = .ok (.sipush 256, 3) := by decide +kernel
theorem dX7_drop_15 : decode cX7_drop 15 = .ok (.iadd, 1) := by decide +kernel
theorem dX7_drop_16 : decode cX7_drop 16 = .ok (.if_icmp .ge 45, 3) := by decide +kernel
theorem dX7_drop_19 : decode cX7_drop 19 = .ok (.aload_n 0, 1) := by decide +kernel
theorem dX7_drop_20 : decode cX7_drop 20 = .ok (.getfield 35, 3) := by decide +kernel
theorem dX7_drop_23 : decode cX7_drop 23 = .ok (.iload_n 2, 1) := by decide +kernel
theorem dX7_drop_24 : decode cX7_drop 24 = .ok (.aload_n 0, 1) := by decide +kernel
theorem dX7_drop_25 : decode cX7_drop 25 = .ok (.getfield 20, 3) := by decide +kernel
theorem dX7_drop_28 : decode cX7_drop 28 = .ok (.iload_n 2, 1) := by decide +kernel
theorem dX7_drop_29 : decode cX7_drop 29 = .ok (.baload, 1) := by decide +kernel
theorem dX7_drop_30 : decode cX7_drop 30 = .ok (.bastore, 1) := by decide +kernel
theorem dX7_drop_31 : decode cX7_drop 31 = .ok (.aload_n 0, 1) := by decide +kernel
theorem dX7_drop_32 : decode cX7_drop 32 = .ok (.getfield 38, 3) := by decide +kernel
theorem dX7_drop_35 : decode cX7_drop 35 = .ok (.iload_n 2, 1) := by decide +kernel
theorem dX7_drop_36 : decode cX7_drop 36 = .ok (.aload_n 0, 1) := by decide +kernel
theorem dX7_drop_37 : decode cX7_drop 37 = .ok (.getfield 23, 3) := by decide +kernel
theorem dX7_drop_40 : decode cX7_drop 40 = .ok (.iload_n 2, 1) := by decide +kernel
theorem dX7_drop_41 : decode cX7_drop 41 = .ok (.baload, 1) := by decide +kernel
theorem dX7_drop_42 : decode cX7_drop 42 = .ok (.bastore, 1) := by decide +kernel
theorem dX7_drop_43 : decode cX7_drop 43 = .ok (.aload_n 0, 1) := by decide +kernel
theorem dX7_drop_44 : decode cX7_drop 44 = .ok (.getfield 41, 3) := by decide +kernel
theorem dX7_drop_47 : decode cX7_drop 47 = .ok (.iload_n 2, 1) := by decide +kernel
theorem dX7_drop_48 : decode cX7_drop 48 = .ok (.aload_n 0, 1) := by decide +kernel
theorem dX7_drop_49 : decode cX7_drop 49 = .ok (.getfield 26, 3) := by decide +kernel
theorem dX7_drop_52 : decode cX7_drop 52 = .ok (.iload_n 2, 1) := by decide +kernel
theorem dX7_drop_53 : decode cX7_drop 53 = .ok (.iaload, 1) := by decide +kernel
theorem dX7_drop_54 : decode cX7_drop 54 = .ok (.iastore, 1) := by decide +kernel
theorem dX7_drop_55 : decode cX7_drop 55 = .ok (.iinc 2 1, 3) := by decide +kernel
theorem dX7_drop_58 : decode cX7_drop 58 = .ok (.goto (-52), 3) := by decide +kernel
theorem dX7_drop_61 : decode cX7_drop 61 = .ok (.aload_n 0, 1) := by decide +kernel
theorem dX7_drop_62 : decode cX7_drop 62 = .ok (.getfield 32, 3) := by decide +kernel
theorem dX7_drop_65 : decode cX7_drop 65 = .ok (.iload_n 1, 1) := by decide +kernel
theorem dX7_drop_66 : decode cX7_drop 66 = .ok (.iconst 1, 1) := by decide +kernel
theorem dX7_drop_67 : decode cX7_drop 67 = .ok (.bastore, 1) := by decide +kernel
theorem dX7_drop_68 : decode cX7_drop 68 = .ok (.aload_n 0, 1) := by decide +kernel
theorem dX7_drop_69 : decode cX7_drop 69 = .ok (.getfield 16, 3) := by decide +kernel
theorem dX7_drop_72 : decode cX7_drop 72 = .ok (.iload_n 1, 1) := by decide +kernel
theorem dX7_drop_73 : decode cX7_drop 73 = .ok (.iconst 0, 1) := by decide +kernel
theorem dX7_drop_74 : decode cX7_drop 74 = .ok (.bastore, 1) := by decide +kernel
theorem dX7_drop_75 : decode cX7_drop 75 = .ok (.aload_n 0, 1) := by decide +kernel
theorem dX7_drop_76 : decode cX7_drop 76 = .ok (.getfield 29, 3) := by decide +kernel
theorem dX7_drop_79 : decode cX7_drop 79 = .ok (.iload_n 1, 1) := by decide +kernel
theorem dX7_drop_80 : decode cX7_drop 80 = .ok (.dup2, 1) := by decide +kernel
theorem dX7_drop_81 : decode cX7_drop 81 = .ok (.iaload, 1) := by decide +kernel
theorem dX7_drop_82 : decode cX7_drop 82 = .ok (.iconst 1, 1) := by decide +kernel
theorem dX7_drop_83 : decode cX7_drop 83 = .ok (.iadd, 1) := by decide +kernel
theorem dX7_drop_84 : decode cX7_drop 84 = .ok (.iastore, 1) := by decide +kernel
theorem dX7_drop_85 : decode cX7_drop 85 = .ok (.aload_n 0, 1) := by decide +kernel
theorem dX7_drop_86 : decode cX7_drop 86 = .ok (.dup, 1) := by decide +kernel
theorem dX7_drop_87 : decode cX7_drop 87 = .ok (.getfield 82, 3) := by decide +kernel
theorem dX7_drop_90 : decode cX7_drop 90 = .ok (.iconst 1, 1) := by decide +kernel
theorem dX7_drop_91 : decode cX7_drop 91 = .ok (.iadd, 1) := by decide +kernel
theorem dX7_drop_92 : decode cX7_drop 92 = .ok (.putfield 82, 3) := by decide +kernel
theorem dX7_drop_95 : decode cX7_drop 95 = .ok (.return_, 1) := by decide +kernel
theorem dX7_becomes_0 : decode cX7_becomes 0 = .ok (.aload_n 0, 1) := by decide +kernel
theorem dX7_becomes_1 : decode cX7_becomes 1 = .ok (.getfield 7, 3) := by decide +kernel
theorem dX7_becomes_4 : decode cX7_becomes 4 = .ok (.iload_n 1, 1) := by decide +kernel
theorem dX7_becomes_5 : decode cX7_becomes 5 = .ok (.iaload, 1) := by decide +kernel
theorem dX7_becomes_6 : decode cX7_becomes 6 = .ok (.iload_n 2, 1) := by decide +kernel
theorem dX7_becomes_7 : decode cX7_becomes 7 = .ok (.if_icmp .ne 5, 3) := by decide +kernel
theorem dX7_becomes_10 : decode cX7_becomes 10 = .ok (.iconst (-1), 1) := by decide +kernel
theorem dX7_becomes_11 : decode cX7_becomes 11 = .ok (.ireturn, 1) := by decide +kernel
theorem dX7_becomes_12 : decode cX7_becomes 12 = .ok (.aload_n 0, 1) := by decide +kernel
theorem dX7_becomes_13 : decode cX7_becomes 13 = .ok (.dup, 1) := by decide +kernel
theorem dX7_becomes_14 : decode cX7_becomes 14 = .ok (.getfield 85, 3) := by decide +kernel
theorem dX7_becomes_17 : decode cX7_becomes 17 = .ok (.aload_n 0, 1) := by decide +kernel
theorem dX7_becomes_18 : decode cX7_becomes 18 = .ok (.iload_n 1, 1) := by decide +kernel
theorem dX7_becomes_19 : decode cX7_becomes 19 = .ok (.bipush 16, 2) := by decide +kernel
theorem dX7_becomes_21 : decode cX7_becomes 21 = .ok (.idiv, 1) := by decide +kernel
theorem dX7_becomes_22 : decode cX7_becomes 22 = .ok (.invokevirtual 88, 3) := by decide +kernel
theorem dX7_becomes_25 : decode cX7_becomes 25 = .ok (.ifCond .eq 7, 3) := by decide +kernel
theorem dX7_becomes_28 : decode cX7_becomes 28 = .ok (.iconst 1, 1) := by decide +kernel
theorem dX7_becomes_29 : decode cX7_becomes 29 = .ok (.goto 4, 3) := by decide +kernel
theorem dX7_becomes_32 : decode cX7_becomes 32 = .ok (.iconst 0, 1) := by decide +kernel
theorem dX7_becomes_33 : decode cX7_becomes 33 = .ok (.iadd, 1) := by decide +kernel
theorem dX7_becomes_34 : decode cX7_becomes 34 = .ok (.putfield 85, 3) := by decide +kernel
theorem dX7_becomes_37 : decode cX7_becomes 37 = .ok (.aload_n 0, 1) := by decide +kernel
theorem dX7_becomes_38 : decode cX7_becomes 38 = .ok (.getfield 7, 3) := by decide +kernel
theorem dX7_becomes_41 : decode cX7_becomes 41 = .ok (.iload_n 1, 1) := by decide +kernel
theorem dX7_becomes_42 : decode cX7_becomes 42 = .ok (.iload_n 2, 1) := by decide +kernel
theorem dX7_becomes_43 : decode cX7_becomes 43 = .ok (.iastore, 1) := by decide +kernel
theorem dX7_becomes_44 : decode cX7_becomes 44 = .ok (.iconst 0, 1) := by decide +kernel
theorem dX7_becomes_45 : decode cX7_becomes 45 = .ok (.istore_n 3, 1) := by decide +kernel
theorem dX7_becomes_46 : decode cX7_becomes 46 = .ok (.iconst 0, 1) := by decide +kernel
theorem dX7_becomes_47 : decode cX7_becomes 47 = .ok (.istore 4, 2) := by decide +kernel
theorem dX7_becomes_49 : decode cX7_becomes 49 = .ok (.iload 4, 2) := by decide +kernel
theorem dX7_becomes_51 : decode cX7_becomes 51 = .ok (.aload_n 0, 1) := by decide +kernel
theorem dX7_becomes_52 : decode cX7_becomes 52 = .ok (.getfield 75, 3) := by decide +kernel
theorem dX7_becomes_55 : decode cX7_becomes 55 = .ok (.if_icmp .ge 44, 3) := by decide +kernel
theorem dX7_becomes_58 : decode cX7_becomes 58 = .ok (.aload_n 0, 1) := by decide +kernel
theorem dX7_becomes_59 : decode cX7_becomes 59 = .ok (.getfield 16, 3) := by decide +kernel
theorem dX7_becomes_62 : decode cX7_becomes 62 = .ok (.iload 4, 2) := by decide +kernel
theorem dX7_becomes_64 : decode cX7_becomes 64 = .ok (.baload, 1) := by decide +kernel
theorem dX7_becomes_65 : decode cX7_becomes 65 = .ok (.ifCond .eq 28, 3) := by decide +kernel
theorem dX7_becomes_68 : decode cX7_becomes 68 = .ok (.aload_n 0, 1) := by decide +kernel
theorem dX7_becomes_69 : decode cX7_becomes 69 = .ok (.getfield 23, 3) := by decide +kernel
theorem dX7_becomes_72 : decode cX7_becomes 72 = .ok (.sipush 256, 3) := by decide +kernel
theorem dX7_becomes_75 : decode cX7_becomes 75 = .ok (.iload 4, 2) := by decide +kernel
theorem dX7_becomes_77 : decode cX7_becomes 77 = .ok (.imul, 1) := by decide +kernel
theorem dX7_becomes_78 : decode cX7_becomes 78 = .ok (.iload_n 1, 1) := by decide +kernel
theorem dX7_becomes_79 : decode cX7_becomes 79 = .ok (.iadd, 1) := by decide +kernel
theorem dX7_becomes_80 : decode cX7_becomes 80 = .ok (.baload, 1) := by decide +kernel
theorem dX7_becomes_81 : decode cX7_becomes 81 = .ok (.ifCond .eq 12, 3) := by decide +kernel
theorem dX7_becomes_84 : decode cX7_becomes 84 = .ok (.aload_n 0, 1) := by decide +kernel
theorem dX7_becomes_85 : decode cX7_becomes 85 = .ok (.iload 4, 2) := by decide +kernel
theorem dX7_becomes_87 : decode cX7_becomes 87 = .ok (.invokevirtual 92, 3) := by decide +kernel
theorem dX7_becomes_90 : decode cX7_becomes 90 = .ok (.iinc 3 1, 3) := by decide +kernel
theorem dX7_becomes_93 : decode cX7_becomes 93 = .ok (.iinc 4 1, 3) := by decide +kernel
theorem dX7_becomes_96 : decode cX7_becomes 96 = .ok (.goto (-47), 3) := by decide +kernel
theorem dX7_becomes_99 : decode cX7_becomes 99 = .ok (.iload_n 3, 1) := by decide +kernel
theorem dX7_becomes_100 : decode cX7_becomes 100 = .ok (.ireturn, 1) := by decide +kernel
theorem dX7_note_0 : decode cX7_note 0 = .ok (.iconst 0, 1) := by decide +kernel
theorem dX7_note_1 : decode cX7_note 1 = .ok (.istore_n 1, 1) := by decide +kernel
theorem dX7_note_2 : decode cX7_note 2 = .ok (.iload_n 1, 1) := by decide +kernel
theorem dX7_note_3 : decode cX7_note 3 = .ok (.sipush 256, 3) := by decide +kernel
theorem dX7_note_6 : decode cX7_note 6 = .ok (.if_icmp .ge 21, 3) := by decide +kernel
theorem dX7_note_9 : decode cX7_note 9 = .ok (.aload_n 0, 1) := by decide +kernel
theorem dX7_note_10 : decode cX7_note 10 = .ok (.getfield 50, 3) := by decide +kernel
theorem dX7_note_13 : decode cX7_note 13 = .ok (.iload_n 1, 1) := by decide +kernel
theorem dX7_note_14 : decode cX7_note 14 = .ok (.aload_n 0, 1) := by decide +kernel
theorem dX7_note_15 : decode cX7_note 15 = .ok (.getfield 7, 3) := by decide +kernel
theorem dX7_note_18 : decode cX7_note 18 = .ok (.iload_n 1, 1) := by decide +kernel
theorem dX7_note_19 : decode cX7_note 19 = .ok (.iaload, 1) := by decide +kernel
theorem dX7_note_20 : decode cX7_note 20 = .ok (.iastore, 1) := by decide +kernel
theorem dX7_note_21 : decode cX7_note 21 = .ok (.iinc 1 1, 3) := by decide +kernel
theorem dX7_note_24 : decode cX7_note 24 = .ok (.goto (-22), 3) := by decide +kernel
theorem dX7_note_27 : decode cX7_note 27 = .ok (.return_, 1) := by decide +kernel
theorem dX7_keep_0 : decode cX7_keep 0 = .ok (.aload_n 0, 1) := by decide +kernel
theorem dX7_keep_1 : decode cX7_keep 1 = .ok (.getfield 96, 3) := by decide +kernel
theorem dX7_keep_4 : decode cX7_keep 4 = .ok (.bipush 8, 2) := by decide +kernel
theorem dX7_keep_6 : decode cX7_keep 6 = .ok (.if_icmp .ne 44, 3) := by decide +kernel
theorem dX7_keep_9 : decode cX7_keep 9 = .ok (.iconst 0, 1) := by decide +kernel
theorem dX7_keep_10 : decode cX7_keep 10 = .ok (.istore_n 1, 1) := by decide +kernel
theorem dX7_keep_11 : decode cX7_keep 11 = .ok (.iload_n 1, 1) := by decide +kernel
theorem dX7_keep_12 : decode cX7_keep 12 = .ok (.sipush 1792, 3) := by decide +kernel
theorem dX7_keep_15 : decode cX7_keep 15 = .ok (.if_icmp .ge 25, 3) := by decide +kernel
theorem dX7_keep_18 : decode cX7_keep 18 = .ok (.aload_n 0, 1) := by decide +kernel
theorem dX7_keep_19 : decode cX7_keep 19 = .ok (.getfield 47, 3) := by decide +kernel
theorem dX7_keep_22 : decode cX7_keep 22 = .ok (.iload_n 1, 1) := by decide +kernel
theorem dX7_keep_23 : decode cX7_keep 23 = .ok (.aload_n 0, 1) := by decide +kernel
theorem dX7_keep_24 : decode cX7_keep 24 = .ok (.getfield 47, 3) := by decide +kernel
theorem dX7_keep_27 : decode cX7_keep 27 = .ok (.iload_n 1, 1) := by decide +kernel
theorem dX7_keep_28 : decode cX7_keep 28 = .ok (.sipush 256, 3) := by decide +kernel
theorem dX7_keep_31 : decode cX7_keep 31 = .ok (.iadd, 1) := by decide +kernel
theorem dX7_keep_32 : decode cX7_keep 32 = .ok (.iaload, 1) := by decide +kernel
theorem dX7_keep_33 : decode cX7_keep 33 = .ok (.iastore, 1) := by decide +kernel
theorem dX7_keep_34 : decode cX7_keep 34 = .ok (.iinc 1 1, 3) := by decide +kernel
theorem dX7_keep_37 : decode cX7_keep 37 = .ok (.goto (-26), 3) := by decide +kernel
theorem dX7_keep_40 : decode cX7_keep 40 = .ok (.aload_n 0, 1) := by decide +kernel
theorem dX7_keep_41 : decode cX7_keep 41 = .ok (.dup, 1) := by decide +kernel
theorem dX7_keep_42 : decode cX7_keep 42 = .ok (.getfield 96, 3) := by decide +kernel
theorem dX7_keep_45 : decode cX7_keep 45 = .ok (.iconst 1, 1) := by decide +kernel
theorem dX7_keep_46 : decode cX7_keep 46 = .ok (.isub, 1) := by decide +kernel
theorem dX7_keep_47 : decode cX7_keep 47 = .ok (.putfield 96, 3) := by decide +kernel
theorem dX7_keep_50 : decode cX7_keep 50 = .ok (.iconst 0, 1) := by decide +kernel
theorem dX7_keep_51 : decode cX7_keep 51 = .ok (.istore_n 1, 1) := by decide +kernel
theorem dX7_keep_52 : decode cX7_keep 52 = .ok (.iload_n 1, 1) := by decide +kernel
theorem dX7_keep_53 : decode cX7_keep 53 = .ok (.sipush 256, 3) := by decide +kernel
theorem dX7_keep_56 : decode cX7_keep 56 = .ok (.if_icmp .ge 30, 3) := by decide +kernel
theorem dX7_keep_59 : decode cX7_keep 59 = .ok (.aload_n 0, 1) := by decide +kernel
theorem dX7_keep_60 : decode cX7_keep 60 = .ok (.getfield 47, 3) := by decide +kernel
theorem dX7_keep_63 : decode cX7_keep 63 = .ok (.sipush 256, 3) := by decide +kernel
theorem dX7_keep_66 : decode cX7_keep 66 = .ok (.aload_n 0, 1) := by decide +kernel
theorem dX7_keep_67 : decode cX7_keep 67 = .ok (.getfield 96, 3) := by decide +kernel
theorem dX7_keep_70 : decode cX7_keep 70 = .ok (.imul, 1) := by decide +kernel
theorem dX7_keep_71 : decode cX7_keep 71 = .ok (.iload_n 1, 1) := by decide +kernel
theorem dX7_keep_72 : decode cX7_keep 72 = .ok (.iadd, 1) := by decide +kernel
theorem dX7_keep_73 : decode cX7_keep 73 = .ok (.aload_n 0, 1) := by decide +kernel
theorem dX7_keep_74 : decode cX7_keep 74 = .ok (.getfield 50, 3) := by decide +kernel
theorem dX7_keep_77 : decode cX7_keep 77 = .ok (.iload_n 1, 1) := by decide +kernel
theorem dX7_keep_78 : decode cX7_keep 78 = .ok (.iaload, 1) := by decide +kernel
theorem dX7_keep_79 : decode cX7_keep 79 = .ok (.iastore, 1) := by decide +kernel
theorem dX7_keep_80 : decode cX7_keep 80 = .ok (.iinc 1 1, 3) := by decide +kernel
theorem dX7_keep_83 : decode cX7_keep 83 = .ok (.goto (-31), 3) := by decide +kernel
theorem dX7_keep_86 : decode cX7_keep 86 = .ok (.aload_n 0, 1) := by decide +kernel
theorem dX7_keep_87 : decode cX7_keep 87 = .ok (.dup, 1) := by decide +kernel
theorem dX7_keep_88 : decode cX7_keep 88 = .ok (.getfield 96, 3) := by decide +kernel
theorem dX7_keep_91 : decode cX7_keep 91 = .ok (.iconst 1, 1) := by decide +kernel
theorem dX7_keep_92 : decode cX7_keep 92 = .ok (.iadd, 1) := by decide +kernel
theorem dX7_keep_93 : decode cX7_keep 93 = .ok (.putfield 96, 3) := by decide +kernel
theorem dX7_keep_96 : decode cX7_keep 96 = .ok (.return_, 1) := by decide +kernel
theorem dX7_put_0 : decode cX7_put 0 = .ok (.aload_n 0, 1) := by decide +kernel
theorem dX7_put_1 : decode cX7_put 1 = .ok (.iconst 0, 1) := by decide +kernel
theorem dX7_put_2 : decode cX7_put 2 = .ok (.putfield 71, 3) := by decide +kernel
theorem dX7_put_5 : decode cX7_put 5 = .ok (.iload_n 1, 1) := by decide +kernel
theorem dX7_put_6 : decode cX7_put 6 = .ok (.iconst 0, 1) := by decide +kernel
theorem dX7_put_7 : decode cX7_put 7 = .ok (.sipush 255, 3) := by decide +kernel
theorem dX7_put_10 : decode cX7_put 10 = .ok (.invokestatic 78, 3) := by decide +kernel
theorem dX7_put_13 : decode cX7_put 13 = .ok (.ifCond .eq 14, 3) := by decide +kernel
theorem dX7_put_16 : decode cX7_put 16 = .ok (.iload 4, 2) := by decide +kernel
theorem dX7_put_18 : decode cX7_put 18 = .ok (.iconst 1, 1) := by decide +kernel
theorem dX7_put_19 : decode cX7_put 19 = .ok (.bipush 8, 2) := by decide +kernel
theorem dX7_put_21 : decode cX7_put 21 = .ok (.invokestatic 78, 3) := by decide +kernel
theorem dX7_put_24 : decode cX7_put 24 = .ok (.ifCond .ne 6, 3) := by decide +kernel
theorem dX7_put_27 : decode cX7_put 27 = .ok (.bipush (-2), 2) := by decide +kernel
theorem dX7_put_29 : decode cX7_put 29 = .ok (.ireturn, 1) := by decide +kernel
theorem dX7_put_30 : decode cX7_put 30 = .ok (.aload_n 0, 1) := by decide +kernel
theorem dX7_put_31 : decode cX7_put 31 = .ok (.invokevirtual 99, 3) := by decide +kernel
theorem dX7_put_34 : decode cX7_put 34 = .ok (.iconst 0, 1) := by decide +kernel
theorem dX7_put_35 : decode cX7_put 35 = .ok (.istore 5, 2) := by decide +kernel
theorem dX7_put_37 : decode cX7_put 37 = .ok (.iconst 0, 1) := by decide +kernel
theorem dX7_put_38 : decode cX7_put 38 = .ok (.istore 6, 2) := by decide +kernel
theorem dX7_put_40 : decode cX7_put 40 = .ok (.iconst 0, 1) := by decide +kernel
theorem dX7_put_41 : decode cX7_put 41 = .ok (.istore 7, 2) := by decide +kernel
theorem dX7_put_43 : decode cX7_put 43 = .ok (.iload 7, 2) := by decide +kernel
theorem dX7_put_45 : decode cX7_put 45 = .ok (.iload 4, 2) := by decide +kernel
theorem dX7_put_47 : decode cX7_put 47 = .ok (.if_icmp .ge 73, 3) := by decide +kernel
theorem dX7_put_50 : decode cX7_put 50 = .ok (.aload_n 0, 1) := by decide +kernel
theorem dX7_put_51 : decode cX7_put 51 = .ok (.iload_n 1, 1) := by decide +kernel
theorem dX7_put_52 : decode cX7_put 52 = .ok (.iload 7, 2) := by decide +kernel
theorem dX7_put_54 : decode cX7_put 54 = .ok (.iadd, 1) := by decide +kernel
theorem dX7_put_55 : decode cX7_put 55 = .ok (.sipush 255, 3) := by decide +kernel
theorem dX7_put_58 : decode cX7_put 58 = .ok (.iand, 1) := by decide +kernel
theorem dX7_put_59 : decode cX7_put 59 = .ok (.lload_n 2, 1) := by decide +kernel
theorem dX7_put_60 : decode cX7_put 60 = .ok (.bipush 8, 2) := by decide +kernel
theorem dX7_put_62 : decode cX7_put 62 = .ok (.iload 4, 2) := by decide +kernel
theorem dX7_put_64 : decode cX7_put 64 = .ok (.iconst 1, 1) := by decide +kernel
theorem dX7_put_65 : decode cX7_put 65 = .ok (.isub, 1) := by decide +kernel
theorem dX7_put_66 : decode cX7_put 66 = .ok (.iload 7, 2) := by decide +kernel
theorem dX7_put_68 : decode cX7_put 68 = .ok (.isub, 1) := by decide +kernel
theorem dX7_put_69 : decode cX7_put 69 = .ok (.imul, 1) := by decide +kernel
theorem dX7_put_70 : decode cX7_put 70 = .ok (.lshr, 1) := by decide +kernel
theorem dX7_put_71 : decode cX7_put 71 = .ok (.ldc2_w 102, 3) := by decide +kernel
theorem dX7_put_74 : decode cX7_put 74 = .ok (.land, 1) := by decide +kernel
theorem dX7_put_75 : decode cX7_put 75 = .ok (.l2i, 1) := by decide +kernel
theorem dX7_put_76 : decode cX7_put 76 = .ok (.invokevirtual 104, 3) := by decide +kernel
theorem dX7_put_79 : decode cX7_put 79 = .ok (.istore 8, 2) := by decide +kernel
theorem dX7_put_81 : decode cX7_put 81 = .ok (.iload 6, 2) := by decide +kernel
theorem dX7_put_83 : decode cX7_put 83 = .ok (.ifCond .ne 8, 3) := by decide +kernel
theorem dX7_put_86 : decode cX7_put 86 = .ok (.iload 8, 2) := by decide +kernel
theorem dX7_put_88 : decode cX7_put 88 = .ok (.ifCond .lt 7, 3) := by decide +kernel
theorem dX7_put_91 : decode cX7_put 91 = .ok (.iconst 1, 1) := by decide +kernel
theorem dX7_put_92 : decode cX7_put 92 = .ok (.goto 4, 3) := by decide +kernel
theorem dX7_put_95 : decode cX7_put 95 = .ok (.iconst 0, 1) := by decide +kernel
theorem dX7_put_96 : decode cX7_put 96 = .ok (.istore 6, 2) := by decide +kernel
theorem dX7_put_98 : decode cX7_put 98 = .ok (.iload 5, 2) := by decide +kernel
theorem dX7_put_100 : decode cX7_put 100 = .ok (.iload 8, 2) := by decide +kernel
theorem dX7_put_102 : decode cX7_put 102 = .ok (.ifCond .le 8, 3) := by decide +kernel
theorem dX7_put_105 : decode cX7_put 105 = .ok (.iload 8, 2) := by decide +kernel
theorem dX7_put_107 : decode cX7_put 107 = .ok (.goto 4, 3) := by decide +kernel
theorem dX7_put_110 : decode cX7_put 110 = .ok (.iconst 0, 1) := by decide +kernel
theorem dX7_put_111 : decode cX7_put 111 = .ok (.iadd, 1) := by decide +kernel
theorem dX7_put_112 : decode cX7_put 112 = .ok (.istore 5, 2) := by decide +kernel
theorem dX7_put_114 : decode cX7_put 114 = .ok (.iinc 7 1, 3) := by decide +kernel
theorem dX7_put_117 : decode cX7_put 117 = .ok (.goto (-74), 3) := by decide +kernel
theorem dX7_put_120 : decode cX7_put 120 = .ok (.iload 6, 2) := by decide +kernel
theorem dX7_put_122 : decode cX7_put 122 = .ok (.ifCond .eq 7, 3) := by decide +kernel
theorem dX7_put_125 : decode cX7_put 125 = .ok (.aload_n 0, 1) := by decide +kernel
theorem dX7_put_126 : decode cX7_put 126 = .ok (.invokevirtual 108, 3) := by decide +kernel
theorem dX7_put_129 : decode cX7_put 129 = .ok (.iload 5, 2) := by decide +kernel
theorem dX7_put_131 : decode cX7_put 131 = .ok (.ireturn, 1) := by decide +kernel
theorem dX7_write_0 : decode cX7_write 0 = .ok (.aload_n 0, 1) := by decide +kernel
theorem dX7_write_1 : decode cX7_write 1 = .ok (.iconst 0, 1) := by decide +kernel
theorem dX7_write_2 : decode cX7_write 2 = .ok (.putfield 71, 3) := by decide +kernel
theorem dX7_write_5 : decode cX7_write 5 = .ok (.iload_n 1, 1) := by decide +kernel
theorem dX7_write_6 : decode cX7_write 6 = .ok (.iconst 0, 1) := by decide +kernel
theorem dX7_write_7 : decode cX7_write 7 = .ok (.sipush 255, 3) := by decide +kernel
theorem dX7_write_10 : decode cX7_write 10 = .ok (.invokestatic 78, 3) := by decide +kernel
theorem dX7_write_13 : decode cX7_write 13 = .ok (.ifCond .eq 14, 3) := by decide +kernel
theorem dX7_write_16 : decode cX7_write 16 = .ok (.iload_n 2, 1) := by decide +kernel
theorem dX7_write_17 : decode cX7_write 17 = .ok (.iconst 0, 1) := by decide +kernel
theorem dX7_write_18 : decode cX7_write 18 = .ok (.sipush 255, 3) := by decide +kernel
theorem dX7_write_21 : decode cX7_write 21 = .ok (.invokestatic 78, 3) := by decide +kernel
theorem dX7_write_24 : decode cX7_write 24 = .ok (.ifCond .ne 6, 3) := by decide +kernel
theorem dX7_write_27 : decode cX7_write 27 = .ok (.bipush (-2), 2) := by decide +kernel
theorem dX7_write_29 : decode cX7_write 29 = .ok (.ireturn, 1) := by decide +kernel
theorem dX7_write_30 : decode cX7_write 30 = .ok (.aload_n 0, 1) := by decide +kernel
theorem dX7_write_31 : decode cX7_write 31 = .ok (.invokevirtual 99, 3) := by decide +kernel
theorem dX7_write_34 : decode cX7_write 34 = .ok (.aload_n 0, 1) := by decide +kernel
theorem dX7_write_35 : decode cX7_write 35 = .ok (.iload_n 1, 1) := by decide +kernel
theorem dX7_write_36 : decode cX7_write 36 = .ok (.iload_n 2, 1) := by decide +kernel
theorem dX7_write_37 : decode cX7_write 37 = .ok (.invokevirtual 104, 3) := by decide +kernel
theorem dX7_write_40 : decode cX7_write 40 = .ok (.istore_n 3, 1) := by decide +kernel
theorem dX7_write_41 : decode cX7_write 41 = .ok (.iload_n 3, 1) := by decide +kernel
theorem dX7_write_42 : decode cX7_write 42 = .ok (.ifCond .lt 7, 3) := by decide +kernel
theorem dX7_write_45 : decode cX7_write 45 = .ok (.aload_n 0, 1) := by decide +kernel
theorem dX7_write_46 : decode cX7_write 46 = .ok (.invokevirtual 108, 3) := by decide +kernel
theorem dX7_write_49 : decode cX7_write 49 = .ok (.iload_n 3, 1) := by decide +kernel
theorem dX7_write_50 : decode cX7_write 50 = .ok (.ifCond .le 7, 3) := by decide +kernel
theorem dX7_write_53 : decode cX7_write 53 = .ok (.iload_n 3, 1) := by decide +kernel
theorem dX7_write_54 : decode cX7_write 54 = .ok (.goto 4, 3) := by decide +kernel
theorem dX7_write_57 : decode cX7_write 57 = .ok (.iconst 0, 1) := by decide +kernel
theorem dX7_write_58 : decode cX7_write 58 = .ok (.ireturn, 1) := by decide +kernel
theorem dX7_read_0 : decode cX7_read 0 = .ok (.aload_n 0, 1) := by decide +kernel
theorem dX7_read_1 : decode cX7_read 1 = .ok (.iload_n 1, 1) := by decide +kernel
theorem dX7_read_2 : decode cX7_read 2 = .ok (.iconst 0, 1) := by decide +kernel
theorem dX7_read_3 : decode cX7_read 3 = .ok (.sipush 255, 3) := by decide +kernel
theorem dX7_read_6 : decode cX7_read 6 = .ok (.invokestatic 78, 3) := by decide +kernel
theorem dX7_read_9 : decode cX7_read 9 = .ok (.ifCond .eq 7, 3) := by decide +kernel
theorem dX7_read_12 : decode cX7_read 12 = .ok (.iconst 0, 1) := by decide +kernel
theorem dX7_read_13 : decode cX7_read 13 = .ok (.goto 4, 3) := by decide +kernel
theorem dX7_read_16 : decode cX7_read 16 = .ok (.iconst 1, 1) := by decide +kernel
theorem dX7_read_17 : decode cX7_read 17 = .ok (.putfield 71, 3) := by decide +kernel
theorem dX7_read_20 : decode cX7_read 20 = .ok (.aload_n 0, 1) := by decide +kernel
theorem dX7_read_21 : decode cX7_read 21 = .ok (.getfield 71, 3) := by decide +kernel
theorem dX7_read_24 : decode cX7_read 24 = .ok (.ifCond .ne 12, 3) := by decide +kernel
theorem dX7_read_27 : decode cX7_read 27 = .ok (.aload_n 0, 1) := by decide +kernel
theorem dX7_read_28 : decode cX7_read 28 = .ok (.getfield 7, 3) := by decide +kernel
theorem dX7_read_31 : decode cX7_read 31 = .ok (.iload_n 1, 1) := by decide +kernel
theorem dX7_read_32 : decode cX7_read 32 = .ok (.iaload, 1) := by decide +kernel
theorem dX7_read_33 : decode cX7_read 33 = .ok (.goto 4, 3) := by decide +kernel
theorem dX7_read_36 : decode cX7_read 36 = .ok (.iconst 0, 1) := by decide +kernel
theorem dX7_read_37 : decode cX7_read 37 = .ok (.ireturn, 1) := by decide +kernel
theorem dX7_routine_0 : decode cX7_routine 0 = .ok (.aload_n 0, 1) := by decide +kernel
theorem dX7_routine_1 : decode cX7_routine 1 = .ok (.iconst 0, 1) := by decide +kernel
theorem dX7_routine_2 : decode cX7_routine 2 = .ok (.putfield 71, 3) := by decide +kernel
theorem dX7_routine_5 : decode cX7_routine 5 = .ok (.iload_n 1, 1) := by decide +kernel
theorem dX7_routine_6 : decode cX7_routine 6 = .ok (.iconst 0, 1) := by decide +kernel
theorem dX7_routine_7 : decode cX7_routine 7 = .ok (.sipush 255, 3) := by decide +kernel
theorem dX7_routine_10 : decode cX7_routine 10 = .ok (.invokestatic 78, 3) := by decide +kernel
theorem dX7_routine_13 : decode cX7_routine 13 = .ok (.ifCond .ne 6, 3) := by decide +kernel
theorem dX7_routine_16 : decode cX7_routine 16 = .ok (.bipush (-2), 2) := by decide +kernel
theorem dX7_routine_18 : decode cX7_routine 18 = .ok (.ireturn, 1) := by decide +kernel
theorem dX7_routine_19 : decode cX7_routine 19 = .ok (.aload_n 0, 1) := by decide +kernel
theorem dX7_routine_20 : decode cX7_routine 20 = .ok (.getfield 75, 3) := by decide +kernel
theorem dX7_routine_23 : decode cX7_routine 23 = .ok (.bipush 10, 2) := by decide +kernel
theorem dX7_routine_25 : decode cX7_routine 25 = .ok (.if_icmp .ne 6, 3) := by decide +kernel
theorem dX7_routine_28 : decode cX7_routine 28 = .ok (.bipush (-4), 2) := by decide +kernel
theorem dX7_routine_30 : decode cX7_routine 30 = .ok (.ireturn, 1) := by decide +kernel
theorem dX7_routine_31 : decode cX7_routine 31 = .ok (.aload_n 0, 1) := by decide +kernel
theorem dX7_routine_32 : decode cX7_routine 32 = .ok (.getfield 13, 3) := by decide +kernel
theorem dX7_routine_35 : decode cX7_routine 35 = .ok (.aload_n 0, 1) := by decide +kernel
theorem dX7_routine_36 : decode cX7_routine 36 = .ok (.getfield 75, 3) := by decide +kernel
theorem dX7_routine_39 : decode cX7_routine 39 = .ok (.iload_n 1, 1) := by decide +kernel
theorem dX7_routine_40 : decode cX7_routine 40 = .ok (.iastore, 1) := by decide +kernel
theorem dX7_routine_41 : decode cX7_routine 41 = .ok (.aload_n 0, 1) := by decide +kernel
theorem dX7_routine_42 : decode cX7_routine 42 = .ok (.getfield 16, 3) := by decide +kernel
theorem dX7_routine_45 : decode cX7_routine 45 = .ok (.aload_n 0, 1) := by decide +kernel
theorem dX7_routine_46 : decode cX7_routine 46 = .ok (.getfield 75, 3) := by decide +kernel
theorem dX7_routine_49 : decode cX7_routine 49 = .ok (.iconst 0, 1) := by decide +kernel
theorem dX7_routine_50 : decode cX7_routine 50 = .ok (.bastore, 1) := by decide +kernel
theorem dX7_routine_51 : decode cX7_routine 51 = .ok (.aload_n 0, 1) := by decide +kernel
theorem dX7_routine_52 : decode cX7_routine 52 = .ok (.getfield 32, 3) := by decide +kernel
theorem dX7_routine_55 : decode cX7_routine 55 = .ok (.aload_n 0, 1) := by decide +kernel
theorem dX7_routine_56 : decode cX7_routine 56 = .ok (.getfield 75, 3) := by decide +kernel
theorem dX7_routine_59 : decode cX7_routine 59 = .ok (.iconst 0, 1) := by decide +kernel
theorem dX7_routine_60 : decode cX7_routine 60 = .ok (.bastore, 1) := by decide +kernel
theorem dX7_routine_61 : decode cX7_routine 61 = .ok (.aload_n 0, 1) := by decide +kernel
theorem dX7_routine_62 : decode cX7_routine 62 = .ok (.getfield 29, 3) := by decide +kernel
theorem dX7_routine_65 : decode cX7_routine 65 = .ok (.aload_n 0, 1) := by decide +kernel
theorem dX7_routine_66 : decode cX7_routine 66 = .ok (.getfield 75, 3) := by decide +kernel
theorem dX7_routine_69 : decode cX7_routine 69 = .ok (.iconst 0, 1) := by decide +kernel
theorem dX7_routine_70 : decode cX7_routine 70 = .ok (.iastore, 1) := by decide +kernel
theorem dX7_routine_71 : decode cX7_routine 71 = .ok (.aload_n 0, 1) := by decide +kernel
theorem dX7_routine_72 : decode cX7_routine 72 = .ok (.dup, 1) := by decide +kernel
theorem dX7_routine_73 : decode cX7_routine 73 = .ok (.getfield 75, 3) := by decide +kernel
theorem dX7_routine_76 : decode cX7_routine 76 = .ok (.iconst 1, 1) := by decide +kernel
theorem dX7_routine_77 : decode cX7_routine 77 = .ok (.iadd, 1) := by decide +kernel
theorem dX7_routine_78 : decode cX7_routine 78 = .ok (.putfield 75, 3) := by decide +kernel
theorem dX7_routine_81 : decode cX7_routine 81 = .ok (.aload_n 0, 1) := by decide +kernel
theorem dX7_routine_82 : decode cX7_routine 82 = .ok (.getfield 75, 3) := by decide +kernel
theorem dX7_routine_85 : decode cX7_routine 85 = .ok (.iconst 1, 1) := by decide +kernel
theorem dX7_routine_86 : decode cX7_routine 86 = .ok (.isub, 1) := by decide +kernel
theorem dX7_routine_87 : decode cX7_routine 87 = .ok (.ireturn, 1) := by decide +kernel
theorem dX7_isLong_0 : decode cX7_isLong 0 = .ok (.iload_n 0, 1) := by decide +kernel
theorem dX7_isLong_1 : decode cX7_isLong 1 = .ok (.iconst 1, 1) := by decide +kernel
theorem dX7_isLong_2 : decode cX7_isLong 2 = .ok (.if_icmp .eq 19, 3) := by decide +kernel
theorem dX7_isLong_5 : decode cX7_isLong 5 = .ok (.iload_n 0, 1) := by decide +kernel
theorem dX7_isLong_6 : decode cX7_isLong 6 = .ok (.iconst 2, 1) := by decide +kernel
theorem dX7_isLong_7 : decode cX7_isLong 7 = .ok (.if_icmp .eq 14, 3) := by decide +kernel
theorem dX7_isLong_10 : decode cX7_isLong 10 = .ok (.iload_n 0, 1) := by decide +kernel
theorem dX7_isLong_11 : decode cX7_isLong 11 = .ok (.iconst 4, 1) := by decide +kernel
theorem dX7_isLong_12 : decode cX7_isLong 12 = .ok (.if_icmp .lt 13, 3) := by decide +kernel
theorem dX7_isLong_15 : decode cX7_isLong 15 = .ok (.iload_n 0, 1) := by decide +kernel
theorem dX7_isLong_16 : decode cX7_isLong 16 = .ok (.bipush 9, 2) := by decide +kernel
theorem dX7_isLong_18 : decode cX7_isLong 18 = .ok (.if_icmp .gt 7, 3) := by decide +kernel
theorem dX7_isLong_21 : decode cX7_isLong 21 = .ok (.iconst 1, 1) := by decide +kernel
theorem dX7_isLong_22 : decode cX7_isLong 22 = .ok (.goto 4, 3) := by decide +kernel
theorem dX7_isLong_25 : decode cX7_isLong 25 = .ok (.iconst 0, 1) := by decide +kernel
theorem dX7_isLong_26 : decode cX7_isLong 26 = .ok (.ireturn, 1) := by decide +kernel
theorem dX7_behind_0 : decode cX7_behind 0 = .ok (.iload_n 1, 1) := by decide +kernel
theorem dX7_behind_1 : decode cX7_behind 1 = .ok (.aload_n 0, 1) := by decide +kernel
theorem dX7_behind_2 : decode cX7_behind 2 = .ok (.getfield 7, 3) := by decide +kernel
theorem dX7_behind_5 : decode cX7_behind 5 = .ok (.iload_n 1, 1) := by decide +kernel
theorem dX7_behind_6 : decode cX7_behind 6 = .ok (.iaload, 1) := by decide +kernel
theorem dX7_behind_7 : decode cX7_behind 7 = .ok (.invokestatic 111, 3) := by decide +kernel
theorem dX7_behind_10 : decode cX7_behind 10 = .ok (.ifCond .eq 7, 3) := by decide +kernel
theorem dX7_behind_13 : decode cX7_behind 13 = .ok (.iconst 2, 1) := by decide +kernel
theorem dX7_behind_14 : decode cX7_behind 14 = .ok (.goto 4, 3) := by decide +kernel
theorem dX7_behind_17 : decode cX7_behind 17 = .ok (.iconst 1, 1) := by decide +kernel
theorem dX7_behind_18 : decode cX7_behind 18 = .ok (.iadd, 1) := by decide +kernel
theorem dX7_behind_19 : decode cX7_behind 19 = .ok (.sipush 255, 3) := by decide +kernel
theorem dX7_behind_22 : decode cX7_behind 22 = .ok (.iand, 1) := by decide +kernel
theorem dX7_behind_23 : decode cX7_behind 23 = .ok (.ireturn, 1) := by decide +kernel
theorem dX7_other_0 : decode cX7_other 0 = .ok (.iload_n 1, 1) := by decide +kernel
theorem dX7_other_1 : decode cX7_other 1 = .ok (.iconst 2, 1) := by decide +kernel
theorem dX7_other_2 : decode cX7_other 2 = .ok (.iadd, 1) := by decide +kernel
theorem dX7_other_3 : decode cX7_other 3 = .ok (.aload_n 0, 1) := by decide +kernel
theorem dX7_other_4 : decode cX7_other 4 = .ok (.getfield 7, 3) := by decide +kernel
theorem dX7_other_7 : decode cX7_other 7 = .ok (.iload_n 1, 1) := by decide +kernel
theorem dX7_other_8 : decode cX7_other 8 = .ok (.iconst 1, 1) := by decide +kernel
theorem dX7_other_9 : decode cX7_other 9 = .ok (.iadd, 1) := by decide +kernel
theorem dX7_other_10 : decode cX7_other 10 = .ok (.sipush 255, 3) := by decide +kernel
theorem dX7_other_13 : decode cX7_other 13 = .ok (.iand, 1) := by decide +kernel
theorem dX7_other_14 : decode cX7_other 14 = .ok (.iaload, 1) := by decide +kernel
theorem dX7_other_15 : decode cX7_other 15 = .ok (.i2b, 1) := by decide +kernel
theorem dX7_other_16 : decode cX7_other 16 = .ok (.iadd, 1) := by decide +kernel
theorem dX7_other_17 : decode cX7_other 17 = .ok (.sipush 255, 3) := by decide +kernel
theorem dX7_other_20 : decode cX7_other 20 = .ok (.iand, 1) := by decide +kernel
theorem dX7_other_21 : decode cX7_other 21 = .ok (.ireturn, 1) := by decide +kernel
theorem dX7_find_0 : decode cX7_find 0 = .ok (.iconst 0, 1) := by decide +kernel
theorem dX7_find_1 : decode cX7_find 1 = .ok (.istore_n 2, 1) := by decide +kernel
theorem dX7_find_2 : decode cX7_find 2 = .ok (.iload_n 2, 1) := by decide +kernel
theorem dX7_find_3 : decode cX7_find 3 = .ok (.sipush 256, 3) := by decide +kernel
theorem dX7_find_6 : decode cX7_find 6 = .ok (.if_icmp .ge 30, 3) := by decide +kernel
theorem dX7_find_9 : decode cX7_find 9 = .ok (.aload_n 0, 1) := by decide +kernel
theorem dX7_find_10 : decode cX7_find 10 = .ok (.getfield 56, 3) := by decide +kernel
theorem dX7_find_13 : decode cX7_find 13 = .ok (.iload_n 2, 1) := by decide +kernel
theorem dX7_find_14 : decode cX7_find 14 = .ok (.iconst 0, 1) := by decide +kernel
theorem dX7_find_15 : decode cX7_find 15 = .ok (.bastore, 1) := by decide +kernel
theorem dX7_find_16 : decode cX7_find 16 = .ok (.aload_n 0, 1) := by decide +kernel
theorem dX7_find_17 : decode cX7_find 17 = .ok (.getfield 59, 3) := by decide +kernel
theorem dX7_find_20 : decode cX7_find 20 = .ok (.iload_n 2, 1) := by decide +kernel
theorem dX7_find_21 : decode cX7_find 21 = .ok (.iconst 0, 1) := by decide +kernel
theorem dX7_find_22 : decode cX7_find 22 = .ok (.bastore, 1) := by decide +kernel
theorem dX7_find_23 : decode cX7_find 23 = .ok (.aload_n 0, 1) := by decide +kernel
theorem dX7_find_24 : decode cX7_find 24 = .ok (.getfield 62, 3) := by decide +kernel
theorem dX7_find_27 : decode cX7_find 27 = .ok (.iload_n 2, 1) := by decide +kernel
theorem dX7_find_28 : decode cX7_find 28 = .ok (.iconst 0, 1) := by decide +kernel
theorem dX7_find_29 : decode cX7_find 29 = .ok (.iastore, 1) := by decide +kernel
theorem dX7_find_30 : decode cX7_find 30 = .ok (.iinc 2 1, 3) := by decide +kernel
theorem dX7_find_33 : decode cX7_find 33 = .ok (.goto (-31), 3) := by decide +kernel
theorem dX7_find_36 : decode cX7_find 36 = .ok (.aload_n 0, 1) := by decide +kernel
theorem dX7_find_37 : decode cX7_find 37 = .ok (.getfield 56, 3) := by decide +kernel
theorem dX7_find_40 : decode cX7_find 40 = .ok (.iload_n 1, 1) := by decide +kernel
theorem dX7_find_41 : decode cX7_find 41 = .ok (.iconst 1, 1) := by decide +kernel
theorem dX7_find_42 : decode cX7_find 42 = .ok (.bastore, 1) := by decide +kernel
theorem dX7_find_43 : decode cX7_find 43 = .ok (.iconst 1, 1) := by decide +kernel
theorem dX7_find_44 : decode cX7_find 44 = .ok (.istore_n 2, 1) := by decide +kernel
theorem dX7_find_45 : decode cX7_find 45 = .ok (.iload_n 2, 1) := by decide +kernel
theorem dX7_find_46 : decode cX7_find 46 = .ok (.ifCond .eq 153, 3) := by decide +kernel
theorem dX7_find_49 : decode cX7_find 49 = .ok (.iconst 0, 1) := by decide +kernel
theorem dX7_find_50 : decode cX7_find 50 = .ok (.istore_n 2, 1) := by decide +kernel
theorem dX7_find_51 : decode cX7_find 51 = .ok (.iconst 0, 1) := by decide +kernel
theorem dX7_find_52 : decode cX7_find 52 = .ok (.istore_n 3, 1) := by decide +kernel
theorem dX7_find_53 : decode cX7_find 53 = .ok (.iload_n 3, 1) := by decide +kernel
theorem dX7_find_54 : decode cX7_find 54 = .ok (.sipush 256, 3) := by decide +kernel
theorem dX7_find_57 : decode cX7_find 57 = .ok (.if_icmp .ge 139, 3) := by decide +kernel
theorem dX7_find_60 : decode cX7_find 60 = .ok (.aload_n 0, 1) := by decide +kernel
theorem dX7_find_61 : decode cX7_find 61 = .ok (.getfield 56, 3) := by decide +kernel
theorem dX7_find_64 : decode cX7_find 64 = .ok (.iload_n 3, 1) := by decide +kernel
theorem dX7_find_65 : decode cX7_find 65 = .ok (.baload, 1) := by decide +kernel
theorem dX7_find_66 : decode cX7_find 66 = .ok (.ifCond .eq 124, 3) := by decide +kernel
theorem dX7_find_69 : decode cX7_find 69 = .ok (.aload_n 0, 1) := by decide +kernel
theorem dX7_find_70 : decode cX7_find 70 = .ok (.getfield 59, 3) := by decide +kernel
theorem dX7_find_73 : decode cX7_find 73 = .ok (.iload_n 3, 1) := by decide +kernel
theorem dX7_find_74 : decode cX7_find 74 = .ok (.baload, 1) := by decide +kernel
theorem dX7_find_75 : decode cX7_find 75 = .ok (.ifCond .ne 115, 3) := by decide +kernel
theorem dX7_find_78 : decode cX7_find 78 = .ok (.aload_n 0, 1) := by decide +kernel
theorem dX7_find_79 : decode cX7_find 79 = .ok (.getfield 59, 3) := by decide +kernel
theorem dX7_find_82 : decode cX7_find 82 = .ok (.iload_n 3, 1) := by decide +kernel
theorem dX7_find_83 : decode cX7_find 83 = .ok (.iconst 1, 1) := by decide +kernel
theorem dX7_find_84 : decode cX7_find 84 = .ok (.bastore, 1) := by decide +kernel
theorem dX7_find_85 : decode cX7_find 85 = .ok (.iconst 1, 1) := by decide +kernel
theorem dX7_find_86 : decode cX7_find 86 = .ok (.istore_n 2, 1) := by decide +kernel
theorem dX7_find_87 : decode cX7_find 87 = .ok (.aload_n 0, 1) := by decide +kernel
theorem dX7_find_88 : decode cX7_find 88 = .ok (.getfield 7, 3) := by decide +kernel
theorem dX7_find_91 : decode cX7_find 91 = .ok (.iload_n 3, 1) := by decide +kernel
theorem dX7_find_92 : decode cX7_find 92 = .ok (.iaload, 1) := by decide +kernel
theorem dX7_find_93 : decode cX7_find 93 = .ok (.istore 4, 2) := by decide +kernel
theorem dX7_find_95 : decode cX7_find 95 = .ok (.iload 4, 2) := by decide +kernel
theorem dX7_find_97 : decode cX7_find 97 = .ok (.bipush 12, 2) := by decide +kernel
theorem dX7_find_99 : decode cX7_find 99 = .ok (.if_icmp .le 5, 3) := by decide +kernel
theorem dX7_find_102 : decode cX7_find 102 = .ok (.iconst 0, 1) := by decide +kernel
theorem dX7_find_103 : decode cX7_find 103 = .ok (.ireturn, 1) := by decide +kernel
theorem dX7_find_104 : decode cX7_find 104 = .ok (.aload_n 0, 1) := by decide +kernel
theorem dX7_find_105 : decode cX7_find 105 = .ok (.getfield 62, 3) := by decide +kernel
theorem dX7_find_108 : decode cX7_find 108 = .ok (.iload_n 3, 1) := by decide +kernel
theorem dX7_find_109 : decode cX7_find 109 = .ok (.dup2, 1) := by decide +kernel
theorem dX7_find_110 : decode cX7_find 110 = .ok (.iaload, 1) := by decide +kernel
theorem dX7_find_111 : decode cX7_find 111 = .ok (.iconst 1, 1) := by decide +kernel
theorem dX7_find_112 : decode cX7_find 112 = .ok (.iadd, 1) := by decide +kernel
theorem dX7_find_113 : decode cX7_find 113 = .ok (.iastore, 1) := by decide +kernel
theorem dX7_find_114 : decode cX7_find 114 = .ok (.aload_n 0, 1) := by decide +kernel
theorem dX7_find_115 : decode cX7_find 115 = .ok (.getfield 62, 3) := by decide +kernel
theorem dX7_find_118 : decode cX7_find 118 = .ok (.iload_n 3, 1) := by decide +kernel
theorem dX7_find_119 : decode cX7_find 119 = .ok (.iconst 1, 1) := by decide +kernel
theorem dX7_find_120 : decode cX7_find 120 = .ok (.iadd, 1) := by decide +kernel
theorem dX7_find_121 : decode cX7_find 121 = .ok (.sipush 255, 3) := by decide +kernel
theorem dX7_find_124 : decode cX7_find 124 = .ok (.iand, 1) := by decide +kernel
theorem dX7_find_125 : decode cX7_find 125 = .ok (.dup2, 1) := by decide +kernel
theorem dX7_find_126 : decode cX7_find 126 = .ok (.iaload, 1) := by decide +kernel
theorem dX7_find_127 : decode cX7_find 127 = .ok (.iload 4, 2) := by decide +kernel
theorem dX7_find_129 : decode cX7_find 129 = .ok (.invokestatic 111, 3) := by decide +kernel
theorem dX7_find_132 : decode cX7_find 132 = .ok (.ifCond .eq 7, 3) := by decide +kernel
theorem dX7_find_135 : decode cX7_find 135 = .ok (.iconst 1, 1) := by decide +kernel
theorem dX7_find_136 : decode cX7_find 136 = .ok (.goto 4, 3) := by decide +kernel
theorem dX7_find_139 : decode cX7_find 139 = .ok (.iconst 0, 1) := by decide +kernel
theorem dX7_find_140 : decode cX7_find 140 = .ok (.iadd, 1) := by decide +kernel
theorem dX7_find_141 : decode cX7_find 141 = .ok (.iastore, 1) := by decide +kernel
theorem dX7_find_142 : decode cX7_find 142 = .ok (.iload 4, 2) := by decide +kernel
theorem dX7_find_144 : decode cX7_find 144 = .ok (.ifCond .eq 21, 3) := by decide +kernel
theorem dX7_find_147 : decode cX7_find 147 = .ok (.iload 4, 2) := by decide +kernel
theorem dX7_find_149 : decode cX7_find 149 = .ok (.bipush 6, 2) := by decide +kernel
theorem dX7_find_151 : decode cX7_find 151 = .ok (.if_icmp .eq 14, 3) := by decide +kernel
theorem dX7_find_154 : decode cX7_find 154 = .ok (.aload_n 0, 1) := by decide +kernel
theorem dX7_find_155 : decode cX7_find 155 = .ok (.getfield 56, 3) := by decide +kernel
theorem dX7_find_158 : decode cX7_find 158 = .ok (.aload_n 0, 1) := by decide +kernel
theorem dX7_find_159 : decode cX7_find 159 = .ok (.iload_n 3, 1) := by decide +kernel
theorem dX7_find_160 : decode cX7_find 160 = .ok (.invokevirtual 114, 3) := by decide +kernel
theorem dX7_find_163 : decode cX7_find 163 = .ok (.iconst 1, 1) := by decide +kernel
theorem dX7_find_164 : decode cX7_find 164 = .ok (.bastore, 1) := by decide +kernel
theorem dX7_find_165 : decode cX7_find 165 = .ok (.iload 4, 2) := by decide +kernel
theorem dX7_find_167 : decode cX7_find 167 = .ok (.bipush 6, 2) := by decide +kernel
theorem dX7_find_169 : decode cX7_find 169 = .ok (.if_icmp .lt 21, 3) := by decide +kernel
theorem dX7_find_172 : decode cX7_find 172 = .ok (.iload 4, 2) := by decide +kernel
theorem dX7_find_174 : decode cX7_find 174 = .ok (.bipush 8, 2) := by decide +kernel
theorem dX7_find_176 : decode cX7_find 176 = .ok (.if_icmp .gt 14, 3) := by decide +kernel
theorem dX7_find_179 : decode cX7_find 179 = .ok (.aload_n 0, 1) := by decide +kernel
theorem dX7_find_180 : decode cX7_find 180 = .ok (.getfield 56, 3) := by decide +kernel
theorem dX7_find_183 : decode cX7_find 183 = .ok (.aload_n 0, 1) := by decide +kernel
theorem dX7_find_184 : decode cX7_find 184 = .ok (.iload_n 3, 1) := by decide +kernel
theorem dX7_find_185 : decode cX7_find 185 = .ok (.invokevirtual 118, 3) := by decide +kernel
theorem dX7_find_188 : decode cX7_find 188 = .ok (.iconst 1, 1) := by decide +kernel
theorem dX7_find_189 : decode cX7_find 189 = .ok (.bastore, 1) := by decide +kernel
theorem dX7_find_190 : decode cX7_find 190 = .ok (.iinc 3 1, 3) := by decide +kernel
theorem dX7_find_193 : decode cX7_find 193 = .ok (.goto (-140), 3) := by decide +kernel
theorem dX7_find_196 : decode cX7_find 196 = .ok (.goto (-151), 3) := by decide +kernel
theorem dX7_find_199 : decode cX7_find 199 = .ok (.iconst 0, 1) := by decide +kernel
theorem dX7_find_200 : decode cX7_find 200 = .ok (.istore_n 3, 1) := by decide +kernel
theorem dX7_find_201 : decode cX7_find 201 = .ok (.iconst 1, 1) := by decide +kernel
theorem dX7_find_202 : decode cX7_find 202 = .ok (.istore 4, 2) := by decide +kernel
theorem dX7_find_204 : decode cX7_find 204 = .ok (.iconst 0, 1) := by decide +kernel
theorem dX7_find_205 : decode cX7_find 205 = .ok (.istore 5, 2) := by decide +kernel
theorem dX7_find_207 : decode cX7_find 207 = .ok (.iload 5, 2) := by decide +kernel
theorem dX7_find_209 : decode cX7_find 209 = .ok (.sipush 256, 3) := by decide +kernel
theorem dX7_find_212 : decode cX7_find 212 = .ok (.if_icmp .ge 50, 3) := by decide +kernel
theorem dX7_find_215 : decode cX7_find 215 = .ok (.iload_n 3, 1) := by decide +kernel
theorem dX7_find_216 : decode cX7_find 216 = .ok (.aload_n 0, 1) := by decide +kernel
theorem dX7_find_217 : decode cX7_find 217 = .ok (.getfield 56, 3) := by decide +kernel
theorem dX7_find_220 : decode cX7_find 220 = .ok (.iload 5, 2) := by decide +kernel
theorem dX7_find_222 : decode cX7_find 222 = .ok (.baload, 1) := by decide +kernel
theorem dX7_find_223 : decode cX7_find 223 = .ok (.ifCond .eq 7, 3) := by decide +kernel
theorem dX7_find_226 : decode cX7_find 226 = .ok (.iconst 1, 1) := by decide +kernel
theorem dX7_find_227 : decode cX7_find 227 = .ok (.goto 4, 3) := by decide +kernel
theorem dX7_find_230 : decode cX7_find 230 = .ok (.iconst 0, 1) := by decide +kernel
theorem dX7_find_231 : decode cX7_find 231 = .ok (.iadd, 1) := by decide +kernel
theorem dX7_find_232 : decode cX7_find 232 = .ok (.istore_n 3, 1) := by decide +kernel
theorem dX7_find_233 : decode cX7_find 233 = .ok (.iload 4, 2) := by decide +kernel
theorem dX7_find_235 : decode cX7_find 235 = .ok (.ifCond .eq 18, 3) := by decide +kernel
theorem dX7_find_238 : decode cX7_find 238 = .ok (.aload_n 0, 1) := by decide +kernel
theorem dX7_find_239 : decode cX7_find 239 = .ok (.getfield 62, 3) := by decide +kernel
theorem dX7_find_242 : decode cX7_find 242 = .ok (.iload 5, 2) := by decide +kernel
theorem dX7_find_244 : decode cX7_find 244 = .ok (.iaload, 1) := by decide +kernel
theorem dX7_find_245 : decode cX7_find 245 = .ok (.iconst 2, 1) := by decide +kernel
theorem dX7_find_246 : decode cX7_find 246 = .ok (.if_icmp .ge 7, 3) := by decide +kernel
theorem dX7_find_249 : decode cX7_find 249 = .ok (.iconst 1, 1) := by decide +kernel
theorem dX7_find_250 : decode cX7_find 250 = .ok (.goto 4, 3) := by decide +kernel
theorem dX7_find_253 : decode cX7_find 253 = .ok (.iconst 0, 1) := by decide +kernel
theorem dX7_find_254 : decode cX7_find 254 = .ok (.istore 4, 2) := by decide +kernel
theorem dX7_find_256 : decode cX7_find 256 = .ok (.iinc 5 1, 3) := by decide +kernel
theorem dX7_find_259 : decode cX7_find 259 = .ok (.goto (-52), 3) := by decide +kernel
theorem dX7_find_262 : decode cX7_find 262 = .ok (.iload_n 3, 1) := by decide +kernel
theorem dX7_find_263 : decode cX7_find 263 = .ok (.bipush 24, 2) := by decide +kernel
theorem dX7_find_265 : decode cX7_find 265 = .ok (.if_icmp .gt 12, 3) := by decide +kernel
theorem dX7_find_268 : decode cX7_find 268 = .ok (.iload 4, 2) := by decide +kernel
theorem dX7_find_270 : decode cX7_find 270 = .ok (.ifCond .eq 7, 3) := by decide +kernel
theorem dX7_find_273 : decode cX7_find 273 = .ok (.iconst 1, 1) := by decide +kernel
theorem dX7_find_274 : decode cX7_find 274 = .ok (.goto 4, 3) := by decide +kernel
theorem dX7_find_277 : decode cX7_find 277 = .ok (.iconst 0, 1) := by decide +kernel
theorem dX7_find_278 : decode cX7_find 278 = .ok (.ireturn, 1) := by decide +kernel
theorem dX7_make_0 : decode cX7_make 0 = .ok (.aload_n 0, 1) := by decide +kernel
theorem dX7_make_1 : decode cX7_make 1 = .ok (.iconst 0, 1) := by decide +kernel
theorem dX7_make_2 : decode cX7_make 2 = .ok (.putfield 71, 3) := by decide +kernel
theorem dX7_make_5 : decode cX7_make 5 = .ok (.iconst 0, 1) := by decide +kernel
theorem dX7_make_6 : decode cX7_make 6 = .ok (.istore_n 1, 1) := by decide +kernel
theorem dX7_make_7 : decode cX7_make 7 = .ok (.iconst 0, 1) := by decide +kernel
theorem dX7_make_8 : decode cX7_make 8 = .ok (.istore_n 2, 1) := by decide +kernel
theorem dX7_make_9 : decode cX7_make 9 = .ok (.iload_n 2, 1) := by decide +kernel
theorem dX7_make_10 : decode cX7_make 10 = .ok (.aload_n 0, 1) := by decide +kernel
theorem dX7_make_11 : decode cX7_make 11 = .ok (.getfield 75, 3) := by decide +kernel
theorem dX7_make_14 : decode cX7_make 14 = .ok (.if_icmp .ge 128, 3) := by decide +kernel
theorem dX7_make_17 : decode cX7_make 17 = .ok (.aload_n 0, 1) := by decide +kernel
theorem dX7_make_18 : decode cX7_make 18 = .ok (.getfield 16, 3) := by decide +kernel
theorem dX7_make_21 : decode cX7_make 21 = .ok (.iload_n 2, 1) := by decide +kernel
theorem dX7_make_22 : decode cX7_make 22 = .ok (.baload, 1) := by decide +kernel
theorem dX7_make_23 : decode cX7_make 23 = .ok (.ifCond .ne 113, 3) := by decide +kernel
theorem dX7_make_26 : decode cX7_make 26 = .ok (.aload_n 0, 1) := by decide +kernel
theorem dX7_make_27 : decode cX7_make 27 = .ok (.getfield 29, 3) := by decide +kernel
theorem dX7_make_30 : decode cX7_make 30 = .ok (.iload_n 2, 1) := by decide +kernel
theorem dX7_make_31 : decode cX7_make 31 = .ok (.iaload, 1) := by decide +kernel
theorem dX7_make_32 : decode cX7_make 32 = .ok (.iconst 3, 1) := by decide +kernel
theorem dX7_make_33 : decode cX7_make 33 = .ok (.if_icmp .ge 103, 3) := by decide +kernel
theorem dX7_make_36 : decode cX7_make 36 = .ok (.aload_n 0, 1) := by decide +kernel
theorem dX7_make_37 : decode cX7_make 37 = .ok (.aload_n 0, 1) := by decide +kernel
theorem dX7_make_38 : decode cX7_make 38 = .ok (.getfield 13, 3) := by decide +kernel
theorem dX7_make_41 : decode cX7_make 41 = .ok (.iload_n 2, 1) := by decide +kernel
theorem dX7_make_42 : decode cX7_make 42 = .ok (.iaload, 1) := by decide +kernel
theorem dX7_make_43 : decode cX7_make 43 = .ok (.invokevirtual 121, 3) := by decide +kernel
theorem dX7_make_46 : decode cX7_make 46 = .ok (.ifCond .eq 90, 3) := by decide +kernel
theorem dX7_make_49 : decode cX7_make 49 = .ok (.iconst 0, 1) := by decide +kernel
theorem dX7_make_50 : decode cX7_make 50 = .ok (.istore_n 3, 1) := by decide +kernel
theorem dX7_make_51 : decode cX7_make 51 = .ok (.iload_n 3, 1) := by decide +kernel
theorem dX7_make_52 : decode cX7_make 52 = .ok (.sipush 256, 3) := by decide +kernel
theorem dX7_make_55 : decode cX7_make 55 = .ok (.if_icmp .ge 71, 3) := by decide +kernel
theorem dX7_make_58 : decode cX7_make 58 = .ok (.aload_n 0, 1) := by decide +kernel
theorem dX7_make_59 : decode cX7_make 59 = .ok (.getfield 20, 3) := by decide +kernel
theorem dX7_make_62 : decode cX7_make 62 = .ok (.sipush 256, 3) := by decide +kernel
theorem dX7_make_65 : decode cX7_make 65 = .ok (.iload_n 2, 1) := by decide +kernel
theorem dX7_make_66 : decode cX7_make 66 = .ok (.imul, 1) := by decide +kernel
theorem dX7_make_67 : decode cX7_make 67 = .ok (.iload_n 3, 1) := by decide +kernel
theorem dX7_make_68 : decode cX7_make 68 = .ok (.iadd, 1) := by decide +kernel
theorem dX7_make_69 : decode cX7_make 69 = .ok (.aload_n 0, 1) := by decide +kernel
theorem dX7_make_70 : decode cX7_make 70 = .ok (.getfield 56, 3) := by decide +kernel
theorem dX7_make_73 : decode cX7_make 73 = .ok (.iload_n 3, 1) := by decide +kernel
theorem dX7_make_74 : decode cX7_make 74 = .ok (.baload, 1) := by decide +kernel
theorem dX7_make_75 : decode cX7_make 75 = .ok (.bastore, 1) := by decide +kernel
theorem dX7_make_76 : decode cX7_make 76 = .ok (.aload_n 0, 1) := by decide +kernel
theorem dX7_make_77 : decode cX7_make 77 = .ok (.getfield 23, 3) := by decide +kernel
theorem dX7_make_80 : decode cX7_make 80 = .ok (.sipush 256, 3) := by decide +kernel
theorem dX7_make_83 : decode cX7_make 83 = .ok (.iload_n 2, 1) := by decide +kernel
theorem dX7_make_84 : decode cX7_make 84 = .ok (.imul, 1) := by decide +kernel
theorem dX7_make_85 : decode cX7_make 85 = .ok (.iload_n 3, 1) := by decide +kernel
theorem dX7_make_86 : decode cX7_make 86 = .ok (.iadd, 1) := by decide +kernel
theorem dX7_make_87 : decode cX7_make 87 = .ok (.aload_n 0, 1) := by decide +kernel
theorem dX7_make_88 : decode cX7_make 88 = .ok (.getfield 62, 3) := by decide +kernel
theorem dX7_make_91 : decode cX7_make 91 = .ok (.iload_n 3, 1) := by decide +kernel
theorem dX7_make_92 : decode cX7_make 92 = .ok (.iaload, 1) := by decide +kernel
theorem dX7_make_93 : decode cX7_make 93 = .ok (.ifCond .le 7, 3) := by decide +kernel
theorem dX7_make_96 : decode cX7_make 96 = .ok (.iconst 1, 1) := by decide +kernel
theorem dX7_make_97 : decode cX7_make 97 = .ok (.goto 4, 3) := by decide +kernel
theorem dX7_make_100 : decode cX7_make 100 = .ok (.iconst 0, 1) := by decide +kernel
theorem dX7_make_101 : decode cX7_make 101 = .ok (.bastore, 1) := by decide +kernel
theorem dX7_make_102 : decode cX7_make 102 = .ok (.aload_n 0, 1) := by decide +kernel
theorem dX7_make_103 : decode cX7_make 103 = .ok (.getfield 26, 3) := by decide +kernel
theorem dX7_make_106 : decode cX7_make 106 = .ok (.sipush 256, 3) := by decide +kernel
theorem dX7_make_109 : decode cX7_make 109 = .ok (.iload_n 2, 1) := by decide +kernel
theorem dX7_make_110 : decode cX7_make 110 = .ok (.imul, 1) := by decide +kernel
theorem dX7_make_111 : decode cX7_make 111 = .ok (.iload_n 3, 1) := by decide +kernel
theorem dX7_make_112 : decode cX7_make 112 = .ok (.iadd, 1) := by decide +kernel
theorem dX7_make_113 : decode cX7_make 113 = .ok (.aload_n 0, 1) := by decide +kernel
theorem dX7_make_114 : decode cX7_make 114 = .ok (.getfield 7, 3) := by decide +kernel
theorem dX7_make_117 : decode cX7_make 117 = .ok (.iload_n 3, 1) := by decide +kernel
theorem dX7_make_118 : decode cX7_make 118 = .ok (.iaload, 1) := by decide +kernel
theorem dX7_make_119 : decode cX7_make 119 = .ok (.iastore, 1) := by decide +kernel
theorem dX7_make_120 : decode cX7_make 120 = .ok (.iinc 3 1, 3) := by decide +kernel
theorem dX7_make_123 : decode cX7_make 123 = .ok (.goto (-72), 3) := by decide +kernel
theorem dX7_make_126 : decode cX7_make 126 = .ok (.aload_n 0, 1) := by decide +kernel
theorem dX7_make_127 : decode cX7_make 127 = .ok (.getfield 16, 3) := by decide +kernel
theorem dX7_make_130 : decode cX7_make 130 = .ok (.iload_n 2, 1) := by decide +kernel
theorem dX7_make_131 : decode cX7_make 131 = .ok (.iconst 1, 1) := by decide +kernel
theorem dX7_make_132 : decode cX7_make 132 = .ok (.bastore, 1) := by decide +kernel
theorem dX7_make_133 : decode cX7_make 133 = .ok (.iinc 1 1, 3) := by decide +kernel
theorem dX7_make_136 : decode cX7_make 136 = .ok (.iinc 2 1, 3) := by decide +kernel
theorem dX7_make_139 : decode cX7_make 139 = .ok (.goto (-130), 3) := by decide +kernel
theorem dX7_make_142 : decode cX7_make 142 = .ok (.aload_n 0, 1) := by decide +kernel
theorem dX7_make_143 : decode cX7_make 143 = .ok (.dup, 1) := by decide +kernel
theorem dX7_make_144 : decode cX7_make 144 = .ok (.getfield 124, 3) := by decide +kernel
theorem dX7_make_147 : decode cX7_make 147 = .ok (.iload_n 1, 1) := by decide +kernel
theorem dX7_make_148 : decode cX7_make 148 = .ok (.iadd, 1) := by decide +kernel
theorem dX7_make_149 : decode cX7_make 149 = .ok (.putfield 124, 3) := by decide +kernel
theorem dX7_make_152 : decode cX7_make 152 = .ok (.iload_n 1, 1) := by decide +kernel
theorem dX7_make_153 : decode cX7_make 153 = .ok (.ireturn, 1) := by decide +kernel
theorem dX7_countOf_0 : decode cX7_countOf 0 = .ok (.iconst 0, 1) := by decide +kernel
theorem dX7_countOf_1 : decode cX7_countOf 1 = .ok (.istore_n 3, 1) := by decide +kernel
theorem dX7_countOf_2 : decode cX7_countOf 2 = .ok (.sipush 256, 3) := by decide +kernel
theorem dX7_countOf_5 : decode cX7_countOf 5 = .ok (.iload_n 1, 1) := by decide +kernel
theorem dX7_countOf_6 : decode cX7_countOf 6 = .ok (.imul, 1) := by decide +kernel
theorem dX7_countOf_7 : decode cX7_countOf 7 = .ok (.istore 4, 2) := by decide +kernel
theorem dX7_countOf_9 : decode cX7_countOf 9 = .ok (.iload 4, 2) := by decide +kernel
theorem dX7_countOf_11 : decode cX7_countOf 11 = .ok (.sipush 256, 3) := by decide +kernel
theorem dX7_countOf_14 : decode cX7_countOf 14 = .ok (.iload_n 1, 1) := by decide +kernel
theorem dX7_countOf_15 : decode cX7_countOf 15 = .ok (.imul, 1) := by decide +kernel
theorem dX7_countOf_16 : decode cX7_countOf 16 = .ok (.sipush 256, 3) := by decide +kernel
theorem dX7_countOf_19 : decode cX7_countOf 19 = .ok (.iadd, 1) := by decide +kernel
theorem dX7_countOf_20 : decode cX7_countOf 20 = .ok (.if_icmp .ge 53, 3) := by decide +kernel
theorem dX7_countOf_23 : decode cX7_countOf 23 = .ok (.aload_n 0, 1) := by decide +kernel
theorem dX7_countOf_24 : decode cX7_countOf 24 = .ok (.getfield 16, 3) := by decide +kernel
theorem dX7_countOf_27 : decode cX7_countOf 27 = .ok (.iload_n 1, 1) := by decide +kernel
theorem dX7_countOf_28 : decode cX7_countOf 28 = .ok (.baload, 1) := by decide +kernel
theorem dX7_countOf_29 : decode cX7_countOf 29 = .ok (.ifCond .eq 44, 3) := by decide +kernel
theorem dX7_countOf_32 : decode cX7_countOf 32 = .ok (.iload_n 3, 1) := by decide +kernel
theorem dX7_countOf_33 : decode cX7_countOf 33 = .ok (.iload_n 2, 1) := by decide +kernel
theorem dX7_countOf_34 : decode cX7_countOf 34 = .ok (.ifCond .eq 16, 3) := by decide +kernel
theorem dX7_countOf_37 : decode cX7_countOf 37 = .ok (.aload_n 0, 1) := by decide +kernel
theorem dX7_countOf_38 : decode cX7_countOf 38 = .ok (.getfield 20, 3) := by decide +kernel
theorem dX7_countOf_41 : decode cX7_countOf 41 = .ok (.iload 4, 2) := by decide +kernel
theorem dX7_countOf_43 : decode cX7_countOf 43 = .ok (.baload, 1) := by decide +kernel
theorem dX7_countOf_44 : decode cX7_countOf 44 = .ok (.ifCond .eq 20, 3) := by decide +kernel
theorem dX7_countOf_47 : decode cX7_countOf 47 = .ok (.goto 13, 3) := by decide +kernel
theorem dX7_countOf_50 : decode cX7_countOf 50 = .ok (.aload_n 0, 1) := by decide +kernel
theorem dX7_countOf_51 : decode cX7_countOf 51 = .ok (.getfield 23, 3) := by decide +kernel
theorem dX7_countOf_54 : decode cX7_countOf 54 = .ok (.iload 4, 2) := by decide +kernel
theorem dX7_countOf_56 : decode cX7_countOf 56 = .ok (.baload, 1) := by decide +kernel
theorem dX7_countOf_57 : decode cX7_countOf 57 = .ok (.ifCond .eq 7, 3) := by decide +kernel
theorem dX7_countOf_60 : decode cX7_countOf 60 = .ok (.iconst 1, 1) := by decide +kernel
theorem dX7_countOf_61 : decode cX7_countOf 61 = .ok (.goto 4, 3) := by decide +kernel
theorem dX7_countOf_64 : decode cX7_countOf 64 = .ok (.iconst 0, 1) := by decide +kernel
theorem dX7_countOf_65 : decode cX7_countOf 65 = .ok (.iadd, 1) := by decide +kernel
theorem dX7_countOf_66 : decode cX7_countOf 66 = .ok (.istore_n 3, 1) := by decide +kernel
theorem dX7_countOf_67 : decode cX7_countOf 67 = .ok (.iinc 4 1, 3) := by decide +kernel
theorem dX7_countOf_70 : decode cX7_countOf 70 = .ok (.goto (-61), 3) := by decide +kernel
theorem dX7_countOf_73 : decode cX7_countOf 73 = .ok (.iload_n 3, 1) := by decide +kernel
theorem dX7_countOf_74 : decode cX7_countOf 74 = .ok (.ireturn, 1) := by decide +kernel
theorem dX7_member_0 : decode cX7_member 0 = .ok (.aload_n 0, 1) := by decide +kernel
theorem dX7_member_1 : decode cX7_member 1 = .ok (.iconst 0, 1) := by decide +kernel
theorem dX7_member_2 : decode cX7_member 2 = .ok (.putfield 71, 3) := by decide +kernel
theorem dX7_member_5 : decode cX7_member 5 = .ok (.aload_n 0, 1) := by decide +kernel
theorem dX7_member_6 : decode cX7_member 6 = .ok (.iload_n 1, 1) := by decide +kernel
theorem dX7_member_7 : decode cX7_member 7 = .ok (.invokevirtual 127, 3) := by decide +kernel
theorem dX7_member_10 : decode cX7_member 10 = .ok (.ifCond .ne 5, 3) := by decide +kernel
theorem dX7_member_13 : decode cX7_member 13 = .ok (.iconst (-1), 1) := by decide +kernel
theorem dX7_member_14 : decode cX7_member 14 = .ok (.ireturn, 1) := by decide +kernel
theorem dX7_member_15 : decode cX7_member 15 = .ok (.iload_n 2, 1) := by decide +kernel
theorem dX7_member_16 : decode cX7_member 16 = .ok (.tableswitch 118 0 6 #[44, 59, 66, 73, 80, 96, 111], 44) := by decide +kernel
theorem dX7_member_60 : decode cX7_member 60 = .ok (.aload_n 0, 1) := by decide +kernel
theorem dX7_member_61 : decode cX7_member 61 = .ok (.getfield 16, 3) := by decide +kernel
theorem dX7_member_64 : decode cX7_member 64 = .ok (.iload_n 1, 1) := by decide +kernel
theorem dX7_member_65 : decode cX7_member 65 = .ok (.baload, 1) := by decide +kernel
theorem dX7_member_66 : decode cX7_member 66 = .ok (.ifCond .eq 7, 3) := by decide +kernel
theorem dX7_member_69 : decode cX7_member 69 = .ok (.iconst 1, 1) := by decide +kernel
theorem dX7_member_70 : decode cX7_member 70 = .ok (.goto 4, 3) := by decide +kernel
theorem dX7_member_73 : decode cX7_member 73 = .ok (.iconst 0, 1) := by decide +kernel
theorem dX7_member_74 : decode cX7_member 74 = .ok (.ireturn, 1) := by decide +kernel
theorem dX7_member_75 : decode cX7_member 75 = .ok (.aload_n 0, 1) := by decide +kernel
theorem dX7_member_76 : decode cX7_member 76 = .ok (.iload_n 1, 1) := by decide +kernel
theorem dX7_member_77 : decode cX7_member 77 = .ok (.iconst 1, 1) := by decide +kernel
theorem dX7_member_78 : decode cX7_member 78 = .ok (.invokevirtual 130, 3) := by decide +kernel
theorem dX7_member_81 : decode cX7_member 81 = .ok (.ireturn, 1) := by decide +kernel
theorem dX7_member_82 : decode cX7_member 82 = .ok (.aload_n 0, 1) := by decide +kernel
theorem dX7_member_83 : decode cX7_member 83 = .ok (.iload_n 1, 1) := by decide +kernel
theorem dX7_member_84 : decode cX7_member 84 = .ok (.iconst 0, 1) := by decide +kernel
theorem dX7_member_85 : decode cX7_member 85 = .ok (.invokevirtual 130, 3) := by decide +kernel
theorem dX7_member_88 : decode cX7_member 88 = .ok (.ireturn, 1) := by decide +kernel
theorem dX7_member_89 : decode cX7_member 89 = .ok (.aload_n 0, 1) := by decide +kernel
theorem dX7_member_90 : decode cX7_member 90 = .ok (.getfield 29, 3) := by decide +kernel
theorem dX7_member_93 : decode cX7_member 93 = .ok (.iload_n 1, 1) := by decide +kernel
theorem dX7_member_94 : decode cX7_member 94 = .ok (.iaload, 1) := by decide +kernel
theorem dX7_member_95 : decode cX7_member 95 = .ok (.ireturn, 1) := by decide +kernel
theorem dX7_member_96 : decode cX7_member 96 = .ok (.aload_n 0, 1) := by decide +kernel
theorem dX7_member_97 : decode cX7_member 97 = .ok (.getfield 29, 3) := by decide +kernel
theorem dX7_member_100 : decode cX7_member 100 = .ok (.iload_n 1, 1) := by decide +kernel
theorem dX7_member_101 : decode cX7_member 101 = .ok (.iaload, 1) := by decide +kernel
theorem dX7_member_102 : decode cX7_member 102 = .ok (.iconst 3, 1) := by decide +kernel
theorem dX7_member_103 : decode cX7_member 103 = .ok (.if_icmp .lt 7, 3) := by decide +kernel
theorem dX7_member_106 : decode cX7_member 106 = .ok (.iconst 1, 1) := by decide +kernel
theorem dX7_member_107 : decode cX7_member 107 = .ok (.goto 4, 3) := by decide +kernel
theorem dX7_member_110 : decode cX7_member 110 = .ok (.iconst 0, 1) := by decide +kernel
theorem dX7_member_111 : decode cX7_member 111 = .ok (.ireturn, 1) := by decide +kernel
theorem dX7_member_112 : decode cX7_member 112 = .ok (.aload_n 0, 1) := by decide +kernel
theorem dX7_member_113 : decode cX7_member 113 = .ok (.getfield 32, 3) := by decide +kernel
theorem dX7_member_116 : decode cX7_member 116 = .ok (.iload_n 1, 1) := by decide +kernel
theorem dX7_member_117 : decode cX7_member 117 = .ok (.baload, 1) := by decide +kernel
theorem dX7_member_118 : decode cX7_member 118 = .ok (.ifCond .eq 7, 3) := by decide +kernel
theorem dX7_member_121 : decode cX7_member 121 = .ok (.iconst 1, 1) := by decide +kernel
theorem dX7_member_122 : decode cX7_member 122 = .ok (.goto 4, 3) := by decide +kernel
theorem dX7_member_125 : decode cX7_member 125 = .ok (.iconst 0, 1) := by decide +kernel
theorem dX7_member_126 : decode cX7_member 126 = .ok (.ireturn, 1) := by decide +kernel
theorem dX7_member_127 : decode cX7_member 127 = .ok (.aload_n 0, 1) := by decide +kernel
theorem dX7_member_128 : decode cX7_member 128 = .ok (.getfield 13, 3) := by decide +kernel
theorem dX7_member_131 : decode cX7_member 131 = .ok (.iload_n 1, 1) := by decide +kernel
theorem dX7_member_132 : decode cX7_member 132 = .ok (.iaload, 1) := by decide +kernel
theorem dX7_member_133 : decode cX7_member 133 = .ok (.ireturn, 1) := by decide +kernel
theorem dX7_member_134 : decode cX7_member 134 = .ok (.bipush (-2), 2) := by decide +kernel
theorem dX7_member_136 : decode cX7_member 136 = .ok (.ireturn, 1) := by decide +kernel
theorem dX7_head_0 : decode cX7_head 0 = .ok (.aload_n 0, 1) := by decide +kernel
theorem dX7_head_1 : decode cX7_head 1 = .ok (.iconst 0, 1) := by decide +kernel
theorem dX7_head_2 : decode cX7_head 2 = .ok (.putfield 71, 3) := by decide +kernel
theorem dX7_head_5 : decode cX7_head 5 = .ok (.aload_n 0, 1) := by decide +kernel
theorem dX7_head_6 : decode cX7_head 6 = .ok (.iload_n 1, 1) := by decide +kernel
theorem dX7_head_7 : decode cX7_head 7 = .ok (.invokevirtual 127, 3) := by decide +kernel
theorem dX7_head_10 : decode cX7_head 10 = .ok (.ifCond .ne 5, 3) := by decide +kernel
theorem dX7_head_13 : decode cX7_head 13 = .ok (.iconst (-1), 1) := by decide +kernel
theorem dX7_head_14 : decode cX7_head 14 = .ok (.ireturn, 1) := by decide +kernel
theorem dX7_head_15 : decode cX7_head 15 = .ok (.aload_n 0, 1) := by decide +kernel
theorem dX7_head_16 : decode cX7_head 16 = .ok (.getfield 16, 3) := by decide +kernel
theorem dX7_head_19 : decode cX7_head 19 = .ok (.iload_n 1, 1) := by decide +kernel
theorem dX7_head_20 : decode cX7_head 20 = .ok (.baload, 1) := by decide +kernel
theorem dX7_head_21 : decode cX7_head 21 = .ok (.ifCond .ne 10, 3) := by decide +kernel
theorem dX7_head_24 : decode cX7_head 24 = .ok (.aload_n 0, 1) := by decide +kernel
theorem dX7_head_25 : decode cX7_head 25 = .ok (.iconst 1, 1) := by decide +kernel
theorem dX7_head_26 : decode cX7_head 26 = .ok (.putfield 71, 3) := by decide +kernel
theorem dX7_head_29 : decode cX7_head 29 = .ok (.iconst 0, 1) := by decide +kernel
theorem dX7_head_30 : decode cX7_head 30 = .ok (.ireturn, 1) := by decide +kernel
theorem dX7_head_31 : decode cX7_head 31 = .ok (.iload_n 2, 1) := by decide +kernel
theorem dX7_head_32 : decode cX7_head 32 = .ok (.iconst 0, 1) := by decide +kernel
theorem dX7_head_33 : decode cX7_head 33 = .ok (.aload_n 0, 1) := by decide +kernel
theorem dX7_head_34 : decode cX7_head 34 = .ok (.iload_n 1, 1) := by decide +kernel
theorem dX7_head_35 : decode cX7_head 35 = .ok (.iconst 1, 1) := by decide +kernel
theorem dX7_head_36 : decode cX7_head 36 = .ok (.invokevirtual 130, 3) := by decide +kernel
theorem dX7_head_39 : decode cX7_head 39 = .ok (.iconst 1, 1) := by decide +kernel
theorem dX7_head_40 : decode cX7_head 40 = .ok (.isub, 1) := by decide +kernel
theorem dX7_head_41 : decode cX7_head 41 = .ok (.invokestatic 78, 3) := by decide +kernel
theorem dX7_head_44 : decode cX7_head 44 = .ok (.ifCond .ne 10, 3) := by decide +kernel
theorem dX7_head_47 : decode cX7_head 47 = .ok (.aload_n 0, 1) := by decide +kernel
theorem dX7_head_48 : decode cX7_head 48 = .ok (.iconst 2, 1) := by decide +kernel
theorem dX7_head_49 : decode cX7_head 49 = .ok (.putfield 71, 3) := by decide +kernel
theorem dX7_head_52 : decode cX7_head 52 = .ok (.iconst 0, 1) := by decide +kernel
theorem dX7_head_53 : decode cX7_head 53 = .ok (.ireturn, 1) := by decide +kernel
theorem dX7_head_54 : decode cX7_head 54 = .ok (.iload_n 2, 1) := by decide +kernel
theorem dX7_head_55 : decode cX7_head 55 = .ok (.istore_n 3, 1) := by decide +kernel
theorem dX7_head_56 : decode cX7_head 56 = .ok (.iconst 0, 1) := by decide +kernel
theorem dX7_head_57 : decode cX7_head 57 = .ok (.istore 4, 2) := by decide +kernel
theorem dX7_head_59 : decode cX7_head 59 = .ok (.aload_n 0, 1) := by decide +kernel
theorem dX7_head_60 : decode cX7_head 60 = .ok (.getfield 20, 3) := by decide +kernel
theorem dX7_head_63 : decode cX7_head 63 = .ok (.sipush 256, 3) := by decide +kernel
theorem dX7_head_66 : decode cX7_head 66 = .ok (.iload_n 1, 1) := by decide +kernel
theorem dX7_head_67 : decode cX7_head 67 = .ok (.imul, 1) := by decide +kernel
theorem dX7_head_68 : decode cX7_head 68 = .ok (.iload 4, 2) := by decide +kernel
theorem dX7_head_70 : decode cX7_head 70 = .ok (.iadd, 1) := by decide +kernel
theorem dX7_head_71 : decode cX7_head 71 = .ok (.baload, 1) := by decide +kernel
theorem dX7_head_72 : decode cX7_head 72 = .ok (.ifCond .eq 7, 3) := by decide +kernel
theorem dX7_head_75 : decode cX7_head 75 = .ok (.iload_n 3, 1) := by decide +kernel
theorem dX7_head_76 : decode cX7_head 76 = .ok (.ifCond .le 33, 3) := by decide +kernel
theorem dX7_head_79 : decode cX7_head 79 = .ok (.iload_n 3, 1) := by decide +kernel
theorem dX7_head_80 : decode cX7_head 80 = .ok (.aload_n 0, 1) := by decide +kernel
theorem dX7_head_81 : decode cX7_head 81 = .ok (.getfield 20, 3) := by decide +kernel
theorem dX7_head_84 : decode cX7_head 84 = .ok (.sipush 256, 3) := by decide +kernel
theorem dX7_head_87 : decode cX7_head 87 = .ok (.iload_n 1, 1) := by decide +kernel
theorem dX7_head_88 : decode cX7_head 88 = .ok (.imul, 1) := by decide +kernel
theorem dX7_head_89 : decode cX7_head 89 = .ok (.iload 4, 2) := by decide +kernel
theorem dX7_head_91 : decode cX7_head 91 = .ok (.iadd, 1) := by decide +kernel
theorem dX7_head_92 : decode cX7_head 92 = .ok (.baload, 1) := by decide +kernel
theorem dX7_head_93 : decode cX7_head 93 = .ok (.ifCond .eq 7, 3) := by decide +kernel
theorem dX7_head_96 : decode cX7_head 96 = .ok (.iconst 1, 1) := by decide +kernel
theorem dX7_head_97 : decode cX7_head 97 = .ok (.goto 4, 3) := by decide +kernel
theorem dX7_head_100 : decode cX7_head 100 = .ok (.iconst 0, 1) := by decide +kernel
theorem dX7_head_101 : decode cX7_head 101 = .ok (.isub, 1) := by decide +kernel
theorem dX7_head_102 : decode cX7_head 102 = .ok (.istore_n 3, 1) := by decide +kernel
theorem dX7_head_103 : decode cX7_head 103 = .ok (.iinc 4 1, 3) := by decide +kernel
theorem dX7_head_106 : decode cX7_head 106 = .ok (.goto (-47), 3) := by decide +kernel
theorem dX7_head_109 : decode cX7_head 109 = .ok (.iload 4, 2) := by decide +kernel
theorem dX7_head_111 : decode cX7_head 111 = .ok (.ireturn, 1) := by decide +kernel
theorem dX7_makeable_0 : decode cX7_makeable 0 = .ok (.aload_n 0, 1) := by decide +kernel
theorem dX7_makeable_1 : decode cX7_makeable 1 = .ok (.iconst 0, 1) := by decide +kernel
theorem dX7_makeable_2 : decode cX7_makeable 2 = .ok (.putfield 71, 3) := by decide +kernel
theorem dX7_makeable_5 : decode cX7_makeable 5 = .ok (.aload_n 0, 1) := by decide +kernel
theorem dX7_makeable_6 : decode cX7_makeable 6 = .ok (.iload_n 1, 1) := by decide +kernel
theorem dX7_makeable_7 : decode cX7_makeable 7 = .ok (.invokevirtual 127, 3) := by decide +kernel
theorem dX7_makeable_10 : decode cX7_makeable 10 = .ok (.ifCond .ne 7, 3) := by decide +kernel
theorem dX7_makeable_13 : decode cX7_makeable 13 = .ok (.iconst (-1), 1) := by decide +kernel
theorem dX7_makeable_14 : decode cX7_makeable 14 = .ok (.goto 21, 3) := by decide +kernel
theorem dX7_makeable_17 : decode cX7_makeable 17 = .ok (.aload_n 0, 1) := by decide +kernel
theorem dX7_makeable_18 : decode cX7_makeable 18 = .ok (.aload_n 0, 1) := by decide +kernel
theorem dX7_makeable_19 : decode cX7_makeable 19 = .ok (.getfield 13, 3) := by decide +kernel
theorem dX7_makeable_22 : decode cX7_makeable 22 = .ok (.iload_n 1, 1) := by decide +kernel
theorem dX7_makeable_23 : decode cX7_makeable 23 = .ok (.iaload, 1) := by decide +kernel
theorem dX7_makeable_24 : decode cX7_makeable 24 = .ok (.invokevirtual 121, 3) := by decide +kernel
theorem dX7_makeable_27 : decode cX7_makeable 27 = .ok (.ifCond .eq 7, 3) := by decide +kernel
theorem dX7_makeable_30 : decode cX7_makeable 30 = .ok (.iconst 1, 1) := by decide +kernel
theorem dX7_makeable_31 : decode cX7_makeable 31 = .ok (.goto 4, 3) := by decide +kernel
theorem dX7_makeable_34 : decode cX7_makeable 34 = .ok (.iconst 0, 1) := by decide +kernel
theorem dX7_makeable_35 : decode cX7_makeable 35 = .ok (.ireturn, 1) := by decide +kernel
theorem dX7_changes_0 : decode cX7_changes 0 = .ok (.aload_n 0, 1) := by decide +kernel
theorem dX7_changes_1 : decode cX7_changes 1 = .ok (.iload_n 1, 1) := by decide +kernel
theorem dX7_changes_2 : decode cX7_changes 2 = .ok (.iload_n 2, 1) := by decide +kernel
theorem dX7_changes_3 : decode cX7_changes 3 = .ok (.sipush 255, 3) := by decide +kernel
theorem dX7_changes_6 : decode cX7_changes 6 = .ok (.iand, 1) := by decide +kernel
theorem dX7_changes_7 : decode cX7_changes 7 = .ok (.invokevirtual 104, 3) := by decide +kernel
theorem dX7_changes_10 : decode cX7_changes 10 = .ok (.istore_n 3, 1) := by decide +kernel
theorem dX7_changes_11 : decode cX7_changes 11 = .ok (.aload_n 0, 1) := by decide +kernel
theorem dX7_changes_12 : decode cX7_changes 12 = .ok (.dup, 1) := by decide +kernel
theorem dX7_changes_13 : decode cX7_changes 13 = .ok (.getfield 134, 3) := by decide +kernel
theorem dX7_changes_16 : decode cX7_changes 16 = .ok (.iload_n 3, 1) := by decide +kernel
theorem dX7_changes_17 : decode cX7_changes 17 = .ok (.ifCond .lt 7, 3) := by decide +kernel
theorem dX7_changes_20 : decode cX7_changes 20 = .ok (.iconst 1, 1) := by decide +kernel
theorem dX7_changes_21 : decode cX7_changes 21 = .ok (.goto 4, 3) := by decide +kernel
theorem dX7_changes_24 : decode cX7_changes 24 = .ok (.iconst 0, 1) := by decide +kernel
theorem dX7_changes_25 : decode cX7_changes 25 = .ok (.iadd, 1) := by decide +kernel
theorem dX7_changes_26 : decode cX7_changes 26 = .ok (.putfield 134, 3) := by decide +kernel
theorem dX7_changes_29 : decode cX7_changes 29 = .ok (.aload_n 0, 1) := by decide +kernel
theorem dX7_changes_30 : decode cX7_changes 30 = .ok (.dup, 1) := by decide +kernel
theorem dX7_changes_31 : decode cX7_changes 31 = .ok (.getfield 137, 3) := by decide +kernel
theorem dX7_changes_34 : decode cX7_changes 34 = .ok (.iload_n 3, 1) := by decide +kernel
theorem dX7_changes_35 : decode cX7_changes 35 = .ok (.ifCond .le 7, 3) := by decide +kernel
theorem dX7_changes_38 : decode cX7_changes 38 = .ok (.iload_n 3, 1) := by decide +kernel
theorem dX7_changes_39 : decode cX7_changes 39 = .ok (.goto 4, 3) := by decide +kernel
theorem dX7_changes_42 : decode cX7_changes 42 = .ok (.iconst 0, 1) := by decide +kernel
theorem dX7_changes_43 : decode cX7_changes 43 = .ok (.iadd, 1) := by decide +kernel
theorem dX7_changes_44 : decode cX7_changes 44 = .ok (.putfield 137, 3) := by decide +kernel
theorem dX7_changes_47 : decode cX7_changes 47 = .ok (.return_, 1) := by decide +kernel
theorem dX7_works_0 : decode cX7_works 0 = .ok (.aload_n 0, 1) := by decide +kernel
theorem dX7_works_1 : decode cX7_works 1 = .ok (.getfield 140, 3) := by decide +kernel
theorem dX7_works_4 : decode cX7_works 4 = .ok (.istore_n 3, 1) := by decide +kernel
theorem dX7_works_5 : decode cX7_works 5 = .ok (.iload_n 1, 1) := by decide +kernel
theorem dX7_works_6 : decode cX7_works 6 = .ok (.tableswitch 194 1 12 #[62, 71, 85, 101, 114, 194, 194, 126, 194, 139, 159, 178], 62) := by decide +kernel
theorem dX7_works_68 : decode cX7_works 68 = .ok (.aload_n 0, 1) := by decide +kernel
theorem dX7_works_69 : decode cX7_works 69 = .ok (.iload_n 2, 1) := by decide +kernel
theorem dX7_works_70 : decode cX7_works 70 = .ok (.i2b, 1) := by decide +kernel
theorem dX7_works_71 : decode cX7_works 71 = .ok (.putfield 140, 3) := by decide +kernel
theorem dX7_works_74 : decode cX7_works 74 = .ok (.goto 126, 3) := by decide +kernel
theorem dX7_works_77 : decode cX7_works 77 = .ok (.aload_n 0, 1) := by decide +kernel
theorem dX7_works_78 : decode cX7_works 78 = .ok (.dup, 1) := by decide +kernel
theorem dX7_works_79 : decode cX7_works 79 = .ok (.getfield 140, 3) := by decide +kernel
theorem dX7_works_82 : decode cX7_works 82 = .ok (.iload_n 2, 1) := by decide +kernel
theorem dX7_works_83 : decode cX7_works 83 = .ok (.i2b, 1) := by decide +kernel
theorem dX7_works_84 : decode cX7_works 84 = .ok (.iadd, 1) := by decide +kernel
theorem dX7_works_85 : decode cX7_works 85 = .ok (.putfield 140, 3) := by decide +kernel
theorem dX7_works_88 : decode cX7_works 88 = .ok (.goto 112, 3) := by decide +kernel
theorem dX7_works_91 : decode cX7_works 91 = .ok (.aload_n 0, 1) := by decide +kernel
theorem dX7_works_92 : decode cX7_works 92 = .ok (.aload_n 0, 1) := by decide +kernel
theorem dX7_works_93 : decode cX7_works 93 = .ok (.getfield 143, 3) := by decide +kernel
theorem dX7_works_96 : decode cX7_works 96 = .ok (.putfield 140, 3) := by decide +kernel
theorem dX7_works_99 : decode cX7_works 99 = .ok (.aload_n 0, 1) := by decide +kernel
theorem dX7_works_100 : decode cX7_works 100 = .ok (.iload_n 3, 1) := by decide +kernel
theorem dX7_works_101 : decode cX7_works 101 = .ok (.putfield 143, 3) := by decide +kernel
theorem dX7_works_104 : decode cX7_works 104 = .ok (.goto 96, 3) := by decide +kernel
theorem dX7_works_107 : decode cX7_works 107 = .ok (.aload_n 0, 1) := by decide +kernel
theorem dX7_works_108 : decode cX7_works 108 = .ok (.aload_n 0, 1) := by decide +kernel
theorem dX7_works_109 : decode cX7_works 109 = .ok (.getfield 7, 3) := by decide +kernel
theorem dX7_works_112 : decode cX7_works 112 = .ok (.iload_n 2, 1) := by decide +kernel
theorem dX7_works_113 : decode cX7_works 113 = .ok (.iaload, 1) := by decide +kernel
theorem dX7_works_114 : decode cX7_works 114 = .ok (.putfield 140, 3) := by decide +kernel
theorem dX7_works_117 : decode cX7_works 117 = .ok (.goto 83, 3) := by decide +kernel
theorem dX7_works_120 : decode cX7_works 120 = .ok (.aload_n 0, 1) := by decide +kernel
theorem dX7_works_121 : decode cX7_works 121 = .ok (.iload_n 2, 1) := by decide +kernel
theorem dX7_works_122 : decode cX7_works 122 = .ok (.aload_n 0, 1) := by decide +kernel
theorem dX7_works_123 : decode cX7_works 123 = .ok (.getfield 140, 3) := by decide +kernel
theorem dX7_works_126 : decode cX7_works 126 = .ok (.invokevirtual 146, 3) := by decide +kernel
theorem dX7_works_129 : decode cX7_works 129 = .ok (.goto 71, 3) := by decide +kernel
theorem dX7_works_132 : decode cX7_works 132 = .ok (.aload_n 0, 1) := by decide +kernel
theorem dX7_works_133 : decode cX7_works 133 = .ok (.dup, 1) := by decide +kernel
theorem dX7_works_134 : decode cX7_works 134 = .ok (.getfield 143, 3) := by decide +kernel
theorem dX7_works_137 : decode cX7_works 137 = .ok (.iconst 1, 1) := by decide +kernel
theorem dX7_works_138 : decode cX7_works 138 = .ok (.isub, 1) := by decide +kernel
theorem dX7_works_139 : decode cX7_works 139 = .ok (.putfield 143, 3) := by decide +kernel
theorem dX7_works_142 : decode cX7_works 142 = .ok (.goto 58, 3) := by decide +kernel
theorem dX7_works_145 : decode cX7_works 145 = .ok (.aload_n 0, 1) := by decide +kernel
theorem dX7_works_146 : decode cX7_works 146 = .ok (.aload_n 0, 1) := by decide +kernel
theorem dX7_works_147 : decode cX7_works 147 = .ok (.getfield 7, 3) := by decide +kernel
theorem dX7_works_150 : decode cX7_works 150 = .ok (.aload_n 0, 1) := by decide +kernel
theorem dX7_works_151 : decode cX7_works 151 = .ok (.getfield 143, 3) := by decide +kernel
theorem dX7_works_154 : decode cX7_works 154 = .ok (.sipush 255, 3) := by decide +kernel
theorem dX7_works_157 : decode cX7_works 157 = .ok (.iand, 1) := by decide +kernel
theorem dX7_works_158 : decode cX7_works 158 = .ok (.iaload, 1) := by decide +kernel
theorem dX7_works_159 : decode cX7_works 159 = .ok (.putfield 140, 3) := by decide +kernel
theorem dX7_works_162 : decode cX7_works 162 = .ok (.goto 38, 3) := by decide +kernel
theorem dX7_works_165 : decode cX7_works 165 = .ok (.aload_n 0, 1) := by decide +kernel
theorem dX7_works_166 : decode cX7_works 166 = .ok (.aload_n 0, 1) := by decide +kernel
theorem dX7_works_167 : decode cX7_works 167 = .ok (.getfield 143, 3) := by decide +kernel
theorem dX7_works_170 : decode cX7_works 170 = .ok (.sipush 255, 3) := by decide +kernel
theorem dX7_works_173 : decode cX7_works 173 = .ok (.iand, 1) := by decide +kernel
theorem dX7_works_174 : decode cX7_works 174 = .ok (.aload_n 0, 1) := by decide +kernel
theorem dX7_works_175 : decode cX7_works 175 = .ok (.getfield 140, 3) := by decide +kernel
theorem dX7_works_178 : decode cX7_works 178 = .ok (.invokevirtual 146, 3) := by decide +kernel
theorem dX7_works_181 : decode cX7_works 181 = .ok (.goto 19, 3) := by decide +kernel
theorem dX7_works_184 : decode cX7_works 184 = .ok (.aload_n 0, 1) := by decide +kernel
theorem dX7_works_185 : decode cX7_works 185 = .ok (.aload_n 0, 1) := by decide +kernel
theorem dX7_works_186 : decode cX7_works 186 = .ok (.getfield 140, 3) := by decide +kernel
theorem dX7_works_189 : decode cX7_works 189 = .ok (.aload_n 0, 1) := by decide +kernel
theorem dX7_works_190 : decode cX7_works 190 = .ok (.getfield 143, 3) := by decide +kernel
theorem dX7_works_193 : decode cX7_works 193 = .ok (.imul, 1) := by decide +kernel
theorem dX7_works_194 : decode cX7_works 194 = .ok (.putfield 140, 3) := by decide +kernel
theorem dX7_works_197 : decode cX7_works 197 = .ok (.goto 3, 3) := by decide +kernel
theorem dX7_works_200 : decode cX7_works 200 = .ok (.return_, 1) := by decide +kernel
theorem dX7_calls_0 : decode cX7_calls 0 = .ok (.aload_n 0, 1) := by decide +kernel
theorem dX7_calls_1 : decode cX7_calls 1 = .ok (.getfield 150, 3) := by decide +kernel
theorem dX7_calls_4 : decode cX7_calls 4 = .ok (.bipush 6, 2) := by decide +kernel
theorem dX7_calls_6 : decode cX7_calls 6 = .ok (.if_icmp .eq 11, 3) := by decide +kernel
theorem dX7_calls_9 : decode cX7_calls 9 = .ok (.iload_n 1, 1) := by decide +kernel
theorem dX7_calls_10 : decode cX7_calls 10 = .ok (.aload_n 0, 1) := by decide +kernel
theorem dX7_calls_11 : decode cX7_calls 11 = .ok (.getfield 75, 3) := by decide +kernel
theorem dX7_calls_14 : decode cX7_calls 14 = .ok (.if_icmp .lt 18, 3) := by decide +kernel
theorem dX7_calls_17 : decode cX7_calls 17 = .ok (.aload_n 0, 1) := by decide +kernel
theorem dX7_calls_18 : decode cX7_calls 18 = .ok (.getfield 150, 3) := by decide +kernel
theorem dX7_calls_21 : decode cX7_calls 21 = .ok (.bipush 6, 2) := by decide +kernel
theorem dX7_calls_23 : decode cX7_calls 23 = .ok (.if_icmp .ne 7, 3) := by decide +kernel
theorem dX7_calls_26 : decode cX7_calls 26 = .ok (.iconst 3, 1) := by decide +kernel
theorem dX7_calls_27 : decode cX7_calls 27 = .ok (.goto 4, 3) := by decide +kernel
theorem dX7_calls_30 : decode cX7_calls 30 = .ok (.iconst 2, 1) := by decide +kernel
theorem dX7_calls_31 : decode cX7_calls 31 = .ok (.ireturn, 1) := by decide +kernel
theorem dX7_calls_32 : decode cX7_calls 32 = .ok (.aload_n 0, 1) := by decide +kernel
theorem dX7_calls_33 : decode cX7_calls 33 = .ok (.getfield 68, 3) := by decide +kernel
theorem dX7_calls_36 : decode cX7_calls 36 = .ok (.aload_n 0, 1) := by decide +kernel
theorem dX7_calls_37 : decode cX7_calls 37 = .ok (.getfield 150, 3) := by decide +kernel
theorem dX7_calls_40 : decode cX7_calls 40 = .ok (.iload_n 2, 1) := by decide +kernel
theorem dX7_calls_41 : decode cX7_calls 41 = .ok (.iastore, 1) := by decide +kernel
theorem dX7_calls_42 : decode cX7_calls 42 = .ok (.aload_n 0, 1) := by decide +kernel
theorem dX7_calls_43 : decode cX7_calls 43 = .ok (.getfield 65, 3) := by decide +kernel
theorem dX7_calls_46 : decode cX7_calls 46 = .ok (.aload_n 0, 1) := by decide +kernel
theorem dX7_calls_47 : decode cX7_calls 47 = .ok (.getfield 150, 3) := by decide +kernel
theorem dX7_calls_50 : decode cX7_calls 50 = .ok (.aload_n 0, 1) := by decide +kernel
theorem dX7_calls_51 : decode cX7_calls 51 = .ok (.getfield 153, 3) := by decide +kernel
theorem dX7_calls_54 : decode cX7_calls 54 = .ok (.iastore, 1) := by decide +kernel
theorem dX7_calls_55 : decode cX7_calls 55 = .ok (.aload_n 0, 1) := by decide +kernel
theorem dX7_calls_56 : decode cX7_calls 56 = .ok (.dup, 1) := by decide +kernel
theorem dX7_calls_57 : decode cX7_calls 57 = .ok (.getfield 150, 3) := by decide +kernel
theorem dX7_calls_60 : decode cX7_calls 60 = .ok (.iconst 1, 1) := by decide +kernel
theorem dX7_calls_61 : decode cX7_calls 61 = .ok (.iadd, 1) := by decide +kernel
theorem dX7_calls_62 : decode cX7_calls 62 = .ok (.putfield 150, 3) := by decide +kernel
theorem dX7_calls_65 : decode cX7_calls 65 = .ok (.aload_n 0, 1) := by decide +kernel
theorem dX7_calls_66 : decode cX7_calls 66 = .ok (.aload_n 0, 1) := by decide +kernel
theorem dX7_calls_67 : decode cX7_calls 67 = .ok (.getfield 150, 3) := by decide +kernel
theorem dX7_calls_70 : decode cX7_calls 70 = .ok (.aload_n 0, 1) := by decide +kernel
theorem dX7_calls_71 : decode cX7_calls 71 = .ok (.getfield 156, 3) := by decide +kernel
theorem dX7_calls_74 : decode cX7_calls 74 = .ok (.if_icmp .le 10, 3) := by decide +kernel
theorem dX7_calls_77 : decode cX7_calls 77 = .ok (.aload_n 0, 1) := by decide +kernel
theorem dX7_calls_78 : decode cX7_calls 78 = .ok (.getfield 150, 3) := by decide +kernel
theorem dX7_calls_81 : decode cX7_calls 81 = .ok (.goto 7, 3) := by decide +kernel
theorem dX7_calls_84 : decode cX7_calls 84 = .ok (.aload_n 0, 1) := by decide +kernel
theorem dX7_calls_85 : decode cX7_calls 85 = .ok (.getfield 156, 3) := by decide +kernel
theorem dX7_calls_88 : decode cX7_calls 88 = .ok (.putfield 156, 3) := by decide +kernel
theorem dX7_calls_91 : decode cX7_calls 91 = .ok (.aload_n 0, 1) := by decide +kernel
theorem dX7_calls_92 : decode cX7_calls 92 = .ok (.iload_n 1, 1) := by decide +kernel
theorem dX7_calls_93 : decode cX7_calls 93 = .ok (.putfield 153, 3) := by decide +kernel
theorem dX7_calls_96 : decode cX7_calls 96 = .ok (.aload_n 0, 1) := by decide +kernel
theorem dX7_calls_97 : decode cX7_calls 97 = .ok (.aload_n 0, 1) := by decide +kernel
theorem dX7_calls_98 : decode cX7_calls 98 = .ok (.getfield 13, 3) := by decide +kernel
theorem dX7_calls_101 : decode cX7_calls 101 = .ok (.iload_n 1, 1) := by decide +kernel
theorem dX7_calls_102 : decode cX7_calls 102 = .ok (.iaload, 1) := by decide +kernel
theorem dX7_calls_103 : decode cX7_calls 103 = .ok (.putfield 159, 3) := by decide +kernel
theorem dX7_calls_106 : decode cX7_calls 106 = .ok (.iconst 0, 1) := by decide +kernel
theorem dX7_calls_107 : decode cX7_calls 107 = .ok (.ireturn, 1) := by decide +kernel
theorem dX7_act_0 : decode cX7_act 0 = .ok (.aload_n 0, 1) := by decide +kernel
theorem dX7_act_1 : decode cX7_act 1 = .ok (.getfield 162, 3) := by decide +kernel
theorem dX7_act_4 : decode cX7_act 4 = .ok (.iload_n 1, 1) := by decide +kernel
theorem dX7_act_5 : decode cX7_act 5 = .ok (.if_icmp .ne 5, 3) := by decide +kernel
theorem dX7_act_8 : decode cX7_act 8 = .ok (.iconst 4, 1) := by decide +kernel
theorem dX7_act_9 : decode cX7_act 9 = .ok (.ireturn, 1) := by decide +kernel
theorem dX7_act_10 : decode cX7_act 10 = .ok (.aload_n 0, 1) := by decide +kernel
theorem dX7_act_11 : decode cX7_act 11 = .ok (.getfield 7, 3) := by decide +kernel
theorem dX7_act_14 : decode cX7_act 14 = .ok (.aload_n 0, 1) := by decide +kernel
theorem dX7_act_15 : decode cX7_act 15 = .ok (.getfield 159, 3) := by decide +kernel
theorem dX7_act_18 : decode cX7_act 18 = .ok (.iaload, 1) := by decide +kernel
theorem dX7_act_19 : decode cX7_act 19 = .ok (.istore_n 2, 1) := by decide +kernel
theorem dX7_act_20 : decode cX7_act 20 = .ok (.iload_n 2, 1) := by decide +kernel
theorem dX7_act_21 : decode cX7_act 21 = .ok (.bipush 12, 2) := by decide +kernel
theorem dX7_act_23 : decode cX7_act 23 = .ok (.if_icmp .le 5, 3) := by decide +kernel
theorem dX7_act_26 : decode cX7_act 26 = .ok (.iconst 1, 1) := by decide +kernel
theorem dX7_act_27 : decode cX7_act 27 = .ok (.ireturn, 1) := by decide +kernel
theorem dX7_act_28 : decode cX7_act 28 = .ok (.aload_n 0, 1) := by decide +kernel
theorem dX7_act_29 : decode cX7_act 29 = .ok (.dup, 1) := by decide +kernel
theorem dX7_act_30 : decode cX7_act 30 = .ok (.getfield 162, 3) := by decide +kernel
theorem dX7_act_33 : decode cX7_act 33 = .ok (.iconst 1, 1) := by decide +kernel
theorem dX7_act_34 : decode cX7_act 34 = .ok (.iadd, 1) := by decide +kernel
theorem dX7_act_35 : decode cX7_act 35 = .ok (.putfield 162, 3) := by decide +kernel
theorem dX7_act_38 : decode cX7_act 38 = .ok (.aload_n 0, 1) := by decide +kernel
theorem dX7_act_39 : decode cX7_act 39 = .ok (.dup, 1) := by decide +kernel
theorem dX7_act_40 : decode cX7_act 40 = .ok (.getfield 165, 3) := by decide +kernel
theorem dX7_act_43 : decode cX7_act 43 = .ok (.aload_n 0, 1) := by decide +kernel
theorem dX7_act_44 : decode cX7_act 44 = .ok (.getfield 16, 3) := by decide +kernel
theorem dX7_act_47 : decode cX7_act 47 = .ok (.aload_n 0, 1) := by decide +kernel
theorem dX7_act_48 : decode cX7_act 48 = .ok (.getfield 153, 3) := by decide +kernel
theorem dX7_act_51 : decode cX7_act 51 = .ok (.baload, 1) := by decide +kernel
theorem dX7_act_52 : decode cX7_act 52 = .ok (.ifCond .eq 28, 3) := by decide +kernel
theorem dX7_act_55 : decode cX7_act 55 = .ok (.aload_n 0, 1) := by decide +kernel
theorem dX7_act_56 : decode cX7_act 56 = .ok (.getfield 20, 3) := by decide +kernel
theorem dX7_act_59 : decode cX7_act 59 = .ok (.sipush 256, 3) := by decide +kernel
theorem dX7_act_62 : decode cX7_act 62 = .ok (.aload_n 0, 1) := by decide +kernel
theorem dX7_act_63 : decode cX7_act 63 = .ok (.getfield 153, 3) := by decide +kernel
theorem dX7_act_66 : decode cX7_act 66 = .ok (.imul, 1) := by decide +kernel
theorem dX7_act_67 : decode cX7_act 67 = .ok (.aload_n 0, 1) := by decide +kernel
theorem dX7_act_68 : decode cX7_act 68 = .ok (.getfield 159, 3) := by decide +kernel
theorem dX7_act_71 : decode cX7_act 71 = .ok (.iadd, 1) := by decide +kernel
theorem dX7_act_72 : decode cX7_act 72 = .ok (.baload, 1) := by decide +kernel
theorem dX7_act_73 : decode cX7_act 73 = .ok (.ifCond .eq 7, 3) := by decide +kernel
theorem dX7_act_76 : decode cX7_act 76 = .ok (.iconst 1, 1) := by decide +kernel
theorem dX7_act_77 : decode cX7_act 77 = .ok (.goto 4, 3) := by decide +kernel
theorem dX7_act_80 : decode cX7_act 80 = .ok (.iconst 0, 1) := by decide +kernel
theorem dX7_act_81 : decode cX7_act 81 = .ok (.iadd, 1) := by decide +kernel
theorem dX7_act_82 : decode cX7_act 82 = .ok (.putfield 165, 3) := by decide +kernel
theorem dX7_act_85 : decode cX7_act 85 = .ok (.aload_n 0, 1) := by decide +kernel
theorem dX7_act_86 : decode cX7_act 86 = .ok (.getfield 7, 3) := by decide +kernel
theorem dX7_act_89 : decode cX7_act 89 = .ok (.aload_n 0, 1) := by decide +kernel
theorem dX7_act_90 : decode cX7_act 90 = .ok (.getfield 159, 3) := by decide +kernel
theorem dX7_act_93 : decode cX7_act 93 = .ok (.iconst 1, 1) := by decide +kernel
theorem dX7_act_94 : decode cX7_act 94 = .ok (.iadd, 1) := by decide +kernel
theorem dX7_act_95 : decode cX7_act 95 = .ok (.sipush 255, 3) := by decide +kernel
theorem dX7_act_98 : decode cX7_act 98 = .ok (.iand, 1) := by decide +kernel
theorem dX7_act_99 : decode cX7_act 99 = .ok (.iaload, 1) := by decide +kernel
theorem dX7_act_100 : decode cX7_act 100 = .ok (.istore_n 3, 1) := by decide +kernel
theorem dX7_act_101 : decode cX7_act 101 = .ok (.aload_n 0, 1) := by decide +kernel
theorem dX7_act_102 : decode cX7_act 102 = .ok (.aload_n 0, 1) := by decide +kernel
theorem dX7_act_103 : decode cX7_act 103 = .ok (.getfield 159, 3) := by decide +kernel
theorem dX7_act_106 : decode cX7_act 106 = .ok (.invokevirtual 114, 3) := by decide +kernel
theorem dX7_act_109 : decode cX7_act 109 = .ok (.istore 4, 2) := by decide +kernel
theorem dX7_act_111 : decode cX7_act 111 = .ok (.aload_n 0, 1) := by decide +kernel
theorem dX7_act_112 : decode cX7_act 112 = .ok (.aload_n 0, 1) := by decide +kernel
theorem dX7_act_113 : decode cX7_act 113 = .ok (.getfield 159, 3) := by decide +kernel
theorem dX7_act_116 : decode cX7_act 116 = .ok (.invokevirtual 118, 3) := by decide +kernel
theorem dX7_act_119 : decode cX7_act 119 = .ok (.istore 5, 2) := by decide +kernel
theorem dX7_act_121 : decode cX7_act 121 = .ok (.iload_n 2, 1) := by decide +kernel
theorem dX7_act_122 : decode cX7_act 122 = .ok (.bipush 9, 2) := by decide +kernel
theorem dX7_act_124 : decode cX7_act 124 = .ok (.if_icmp .ne 11, 3) := by decide +kernel
theorem dX7_act_127 : decode cX7_act 127 = .ok (.aload_n 0, 1) := by decide +kernel
theorem dX7_act_128 : decode cX7_act 128 = .ok (.iload_n 3, 1) := by decide +kernel
theorem dX7_act_129 : decode cX7_act 129 = .ok (.iload 4, 2) := by decide +kernel
theorem dX7_act_131 : decode cX7_act 131 = .ok (.invokevirtual 168, 3) := by decide +kernel
theorem dX7_act_134 : decode cX7_act 134 = .ok (.ireturn, 1) := by decide +kernel
theorem dX7_act_135 : decode cX7_act 135 = .ok (.iload_n 2, 1) := by decide +kernel
theorem dX7_act_136 : decode cX7_act 136 = .ok (.ifCond .ne 51, 3) := by decide +kernel
theorem dX7_act_139 : decode cX7_act 139 = .ok (.aload_n 0, 1) := by decide +kernel
theorem dX7_act_140 : decode cX7_act 140 = .ok (.getfield 150, 3) := by decide +kernel
theorem dX7_act_143 : decode cX7_act 143 = .ok (.iconst 1, 1) := by decide +kernel
theorem dX7_act_144 : decode cX7_act 144 = .ok (.if_icmp .ne 5, 3) := by decide +kernel
theorem dX7_act_147 : decode cX7_act 147 = .ok (.iconst 5, 1) := by decide +kernel
theorem dX7_act_148 : decode cX7_act 148 = .ok (.ireturn, 1) := by decide +kernel
theorem dX7_act_149 : decode cX7_act 149 = .ok (.aload_n 0, 1) := by decide +kernel
theorem dX7_act_150 : decode cX7_act 150 = .ok (.dup, 1) := by decide +kernel
theorem dX7_act_151 : decode cX7_act 151 = .ok (.getfield 150, 3) := by decide +kernel
theorem dX7_act_154 : decode cX7_act 154 = .ok (.iconst 1, 1) := by decide +kernel
theorem dX7_act_155 : decode cX7_act 155 = .ok (.isub, 1) := by decide +kernel
theorem dX7_act_156 : decode cX7_act 156 = .ok (.putfield 150, 3) := by decide +kernel
theorem dX7_act_159 : decode cX7_act 159 = .ok (.aload_n 0, 1) := by decide +kernel
theorem dX7_act_160 : decode cX7_act 160 = .ok (.aload_n 0, 1) := by decide +kernel
theorem dX7_act_161 : decode cX7_act 161 = .ok (.getfield 68, 3) := by decide +kernel
theorem dX7_act_164 : decode cX7_act 164 = .ok (.aload_n 0, 1) := by decide +kernel
theorem dX7_act_165 : decode cX7_act 165 = .ok (.getfield 150, 3) := by decide +kernel
theorem dX7_act_168 : decode cX7_act 168 = .ok (.iaload, 1) := by decide +kernel
theorem dX7_act_169 : decode cX7_act 169 = .ok (.putfield 159, 3) := by decide +kernel
theorem dX7_act_172 : decode cX7_act 172 = .ok (.aload_n 0, 1) := by decide +kernel
theorem dX7_act_173 : decode cX7_act 173 = .ok (.aload_n 0, 1) := by decide +kernel
theorem dX7_act_174 : decode cX7_act 174 = .ok (.getfield 65, 3) := by decide +kernel
theorem dX7_act_177 : decode cX7_act 177 = .ok (.aload_n 0, 1) := by decide +kernel
theorem dX7_act_178 : decode cX7_act 178 = .ok (.getfield 150, 3) := by decide +kernel
theorem dX7_act_181 : decode cX7_act 181 = .ok (.iaload, 1) := by decide +kernel
theorem dX7_act_182 : decode cX7_act 182 = .ok (.putfield 153, 3) := by decide +kernel
theorem dX7_act_185 : decode cX7_act 185 = .ok (.iconst 0, 1) := by decide +kernel
theorem dX7_act_186 : decode cX7_act 186 = .ok (.ireturn, 1) := by decide +kernel
theorem dX7_act_187 : decode cX7_act 187 = .ok (.aload_n 0, 1) := by decide +kernel
theorem dX7_act_188 : decode cX7_act 188 = .ok (.iload_n 2, 1) := by decide +kernel
theorem dX7_act_189 : decode cX7_act 189 = .ok (.iload_n 3, 1) := by decide +kernel
theorem dX7_act_190 : decode cX7_act 190 = .ok (.invokevirtual 171, 3) := by decide +kernel
theorem dX7_act_193 : decode cX7_act 193 = .ok (.aload_n 0, 1) := by decide +kernel
theorem dX7_act_194 : decode cX7_act 194 = .ok (.iload_n 2, 1) := by decide +kernel
theorem dX7_act_195 : decode cX7_act 195 = .ok (.bipush 6, 2) := by decide +kernel
theorem dX7_act_197 : decode cX7_act 197 = .ok (.if_icmp .eq 29, 3) := by decide +kernel
theorem dX7_act_200 : decode cX7_act 200 = .ok (.iload_n 2, 1) := by decide +kernel
theorem dX7_act_201 : decode cX7_act 201 = .ok (.bipush 7, 2) := by decide +kernel
theorem dX7_act_203 : decode cX7_act 203 = .ok (.if_icmp .ne 10, 3) := by decide +kernel
theorem dX7_act_206 : decode cX7_act 206 = .ok (.aload_n 0, 1) := by decide +kernel
theorem dX7_act_207 : decode cX7_act 207 = .ok (.getfield 140, 3) := by decide +kernel
theorem dX7_act_210 : decode cX7_act 210 = .ok (.ifCond .eq 16, 3) := by decide +kernel
theorem dX7_act_213 : decode cX7_act 213 = .ok (.iload_n 2, 1) := by decide +kernel
theorem dX7_act_214 : decode cX7_act 214 = .ok (.bipush 8, 2) := by decide +kernel
theorem dX7_act_216 : decode cX7_act 216 = .ok (.if_icmp .ne 15, 3) := by decide +kernel
theorem dX7_act_219 : decode cX7_act 219 = .ok (.aload_n 0, 1) := by decide +kernel
theorem dX7_act_220 : decode cX7_act 220 = .ok (.getfield 143, 3) := by decide +kernel
theorem dX7_act_223 : decode cX7_act 223 = .ok (.ifCond .eq 8, 3) := by decide +kernel
theorem dX7_act_226 : decode cX7_act 226 = .ok (.iload 5, 2) := by decide +kernel
theorem dX7_act_228 : decode cX7_act 228 = .ok (.goto 5, 3) := by decide +kernel
theorem dX7_act_231 : decode cX7_act 231 = .ok (.iload 4, 2) := by decide +kernel
theorem dX7_act_233 : decode cX7_act 233 = .ok (.putfield 159, 3) := by decide +kernel
theorem dX7_act_236 : decode cX7_act 236 = .ok (.iconst 0, 1) := by decide +kernel
theorem dX7_act_237 : decode cX7_act 237 = .ok (.ireturn, 1) := by decide +kernel
theorem dX7_run_0 : decode cX7_run 0 = .ok (.aload_n 0, 1) := by decide +kernel
theorem dX7_run_1 : decode cX7_run 1 = .ok (.iconst 0, 1) := by decide +kernel
theorem dX7_run_2 : decode cX7_run 2 = .ok (.putfield 71, 3) := by decide +kernel
theorem dX7_run_5 : decode cX7_run 5 = .ok (.aload_n 0, 1) := by decide +kernel
theorem dX7_run_6 : decode cX7_run 6 = .ok (.iload_n 1, 1) := by decide +kernel
theorem dX7_run_7 : decode cX7_run 7 = .ok (.invokevirtual 127, 3) := by decide +kernel
theorem dX7_run_10 : decode cX7_run 10 = .ok (.ifCond .ne 5, 3) := by decide +kernel
theorem dX7_run_13 : decode cX7_run 13 = .ok (.iconst (-1), 1) := by decide +kernel
theorem dX7_run_14 : decode cX7_run 14 = .ok (.ireturn, 1) := by decide +kernel
theorem dX7_run_15 : decode cX7_run 15 = .ok (.iload 4, 2) := by decide +kernel
theorem dX7_run_17 : decode cX7_run 17 = .ok (.iconst 1, 1) := by decide +kernel
theorem dX7_run_18 : decode cX7_run 18 = .ok (.sipush 400, 3) := by decide +kernel
theorem dX7_run_21 : decode cX7_run 21 = .ok (.invokestatic 78, 3) := by decide +kernel
theorem dX7_run_24 : decode cX7_run 24 = .ok (.ifCond .ne 6, 3) := by decide +kernel
theorem dX7_run_27 : decode cX7_run 27 = .ok (.bipush (-2), 2) := by decide +kernel
theorem dX7_run_29 : decode cX7_run 29 = .ok (.ireturn, 1) := by decide +kernel
theorem dX7_run_30 : decode cX7_run 30 = .ok (.aload_n 0, 1) := by decide +kernel
theorem dX7_run_31 : decode cX7_run 31 = .ok (.invokevirtual 99, 3) := by decide +kernel
theorem dX7_run_34 : decode cX7_run 34 = .ok (.aload_n 0, 1) := by decide +kernel
theorem dX7_run_35 : decode cX7_run 35 = .ok (.iload_n 2, 1) := by decide +kernel
theorem dX7_run_36 : decode cX7_run 36 = .ok (.putfield 140, 3) := by decide +kernel
theorem dX7_run_39 : decode cX7_run 39 = .ok (.aload_n 0, 1) := by decide +kernel
theorem dX7_run_40 : decode cX7_run 40 = .ok (.iload_n 3, 1) := by decide +kernel
theorem dX7_run_41 : decode cX7_run 41 = .ok (.putfield 143, 3) := by decide +kernel
theorem dX7_run_44 : decode cX7_run 44 = .ok (.aload_n 0, 1) := by decide +kernel
theorem dX7_run_45 : decode cX7_run 45 = .ok (.aload_n 0, 1) := by decide +kernel
theorem dX7_run_46 : decode cX7_run 46 = .ok (.getfield 13, 3) := by decide +kernel
theorem dX7_run_49 : decode cX7_run 49 = .ok (.iload_n 1, 1) := by decide +kernel
theorem dX7_run_50 : decode cX7_run 50 = .ok (.iaload, 1) := by decide +kernel
theorem dX7_run_51 : decode cX7_run 51 = .ok (.putfield 159, 3) := by decide +kernel
theorem dX7_run_54 : decode cX7_run 54 = .ok (.aload_n 0, 1) := by decide +kernel
theorem dX7_run_55 : decode cX7_run 55 = .ok (.iload_n 1, 1) := by decide +kernel
theorem dX7_run_56 : decode cX7_run 56 = .ok (.putfield 153, 3) := by decide +kernel
theorem dX7_run_59 : decode cX7_run 59 = .ok (.aload_n 0, 1) := by decide +kernel
theorem dX7_run_60 : decode cX7_run 60 = .ok (.iconst 1, 1) := by decide +kernel
theorem dX7_run_61 : decode cX7_run 61 = .ok (.putfield 150, 3) := by decide +kernel
theorem dX7_run_64 : decode cX7_run 64 = .ok (.aload_n 0, 1) := by decide +kernel
theorem dX7_run_65 : decode cX7_run 65 = .ok (.iconst 1, 1) := by decide +kernel
theorem dX7_run_66 : decode cX7_run 66 = .ok (.putfield 156, 3) := by decide +kernel
theorem dX7_run_69 : decode cX7_run 69 = .ok (.aload_n 0, 1) := by decide +kernel
theorem dX7_run_70 : decode cX7_run 70 = .ok (.iconst 0, 1) := by decide +kernel
theorem dX7_run_71 : decode cX7_run 71 = .ok (.putfield 162, 3) := by decide +kernel
theorem dX7_run_74 : decode cX7_run 74 = .ok (.aload_n 0, 1) := by decide +kernel
theorem dX7_run_75 : decode cX7_run 75 = .ok (.iconst 0, 1) := by decide +kernel
theorem dX7_run_76 : decode cX7_run 76 = .ok (.putfield 165, 3) := by decide +kernel
theorem dX7_run_79 : decode cX7_run 79 = .ok (.aload_n 0, 1) := by decide +kernel
theorem dX7_run_80 : decode cX7_run 80 = .ok (.iconst 0, 1) := by decide +kernel
theorem dX7_run_81 : decode cX7_run 81 = .ok (.putfield 137, 3) := by decide +kernel
theorem dX7_run_84 : decode cX7_run 84 = .ok (.aload_n 0, 1) := by decide +kernel
theorem dX7_run_85 : decode cX7_run 85 = .ok (.iconst 0, 1) := by decide +kernel
theorem dX7_run_86 : decode cX7_run 86 = .ok (.putfield 134, 3) := by decide +kernel
theorem dX7_run_89 : decode cX7_run 89 = .ok (.iconst 0, 1) := by decide +kernel
theorem dX7_run_90 : decode cX7_run 90 = .ok (.istore 5, 2) := by decide +kernel
theorem dX7_run_92 : decode cX7_run 92 = .ok (.iload 5, 2) := by decide +kernel
theorem dX7_run_94 : decode cX7_run 94 = .ok (.ifCond .ne 14, 3) := by decide +kernel
theorem dX7_run_97 : decode cX7_run 97 = .ok (.aload_n 0, 1) := by decide +kernel
theorem dX7_run_98 : decode cX7_run 98 = .ok (.iload 4, 2) := by decide +kernel
theorem dX7_run_100 : decode cX7_run 100 = .ok (.invokevirtual 174, 3) := by decide +kernel
theorem dX7_run_103 : decode cX7_run 103 = .ok (.istore 5, 2) := by decide +kernel
theorem dX7_run_105 : decode cX7_run 105 = .ok (.goto (-13), 3) := by decide +kernel
theorem dX7_run_108 : decode cX7_run 108 = .ok (.aload_n 0, 1) := by decide +kernel
theorem dX7_run_109 : decode cX7_run 109 = .ok (.getfield 134, 3) := by decide +kernel
theorem dX7_run_112 : decode cX7_run 112 = .ok (.ifCond .le 7, 3) := by decide +kernel
theorem dX7_run_115 : decode cX7_run 115 = .ok (.aload_n 0, 1) := by decide +kernel
theorem dX7_run_116 : decode cX7_run 116 = .ok (.invokevirtual 108, 3) := by decide +kernel
theorem dX7_run_119 : decode cX7_run 119 = .ok (.aload_n 0, 1) := by decide +kernel
theorem dX7_run_120 : decode cX7_run 120 = .ok (.dup, 1) := by decide +kernel
theorem dX7_run_121 : decode cX7_run 121 = .ok (.getfield 177, 3) := by decide +kernel
theorem dX7_run_124 : decode cX7_run 124 = .ok (.aload_n 0, 1) := by decide +kernel
theorem dX7_run_125 : decode cX7_run 125 = .ok (.getfield 165, 3) := by decide +kernel
theorem dX7_run_128 : decode cX7_run 128 = .ok (.i2l, 1) := by decide +kernel
theorem dX7_run_129 : decode cX7_run 129 = .ok (.ladd, 1) := by decide +kernel
theorem dX7_run_130 : decode cX7_run 130 = .ok (.putfield 177, 3) := by decide +kernel
theorem dX7_run_133 : decode cX7_run 133 = .ok (.aload_n 0, 1) := by decide +kernel
theorem dX7_run_134 : decode cX7_run 134 = .ok (.dup, 1) := by decide +kernel
theorem dX7_run_135 : decode cX7_run 135 = .ok (.getfield 181, 3) := by decide +kernel
theorem dX7_run_138 : decode cX7_run 138 = .ok (.aload_n 0, 1) := by decide +kernel
theorem dX7_run_139 : decode cX7_run 139 = .ok (.getfield 162, 3) := by decide +kernel
theorem dX7_run_142 : decode cX7_run 142 = .ok (.aload_n 0, 1) := by decide +kernel
theorem dX7_run_143 : decode cX7_run 143 = .ok (.getfield 165, 3) := by decide +kernel
theorem dX7_run_146 : decode cX7_run 146 = .ok (.isub, 1) := by decide +kernel
theorem dX7_run_147 : decode cX7_run 147 = .ok (.i2l, 1) := by decide +kernel
theorem dX7_run_148 : decode cX7_run 148 = .ok (.ladd, 1) := by decide +kernel
theorem dX7_run_149 : decode cX7_run 149 = .ok (.putfield 181, 3) := by decide +kernel
theorem dX7_run_152 : decode cX7_run 152 = .ok (.aload_n 0, 1) := by decide +kernel
theorem dX7_run_153 : decode cX7_run 153 = .ok (.getfield 53, 3) := by decide +kernel
theorem dX7_run_156 : decode cX7_run 156 = .ok (.iconst 0, 1) := by decide +kernel
theorem dX7_run_157 : decode cX7_run 157 = .ok (.aload_n 0, 1) := by decide +kernel
theorem dX7_run_158 : decode cX7_run 158 = .ok (.getfield 140, 3) := by decide +kernel
theorem dX7_run_161 : decode cX7_run 161 = .ok (.iastore, 1) := by decide +kernel
theorem dX7_run_162 : decode cX7_run 162 = .ok (.aload_n 0, 1) := by decide +kernel
theorem dX7_run_163 : decode cX7_run 163 = .ok (.getfield 53, 3) := by decide +kernel
theorem dX7_run_166 : decode cX7_run 166 = .ok (.iconst 1, 1) := by decide +kernel
theorem dX7_run_167 : decode cX7_run 167 = .ok (.aload_n 0, 1) := by decide +kernel
theorem dX7_run_168 : decode cX7_run 168 = .ok (.getfield 143, 3) := by decide +kernel
theorem dX7_run_171 : decode cX7_run 171 = .ok (.iastore, 1) := by decide +kernel
theorem dX7_run_172 : decode cX7_run 172 = .ok (.aload_n 0, 1) := by decide +kernel
theorem dX7_run_173 : decode cX7_run 173 = .ok (.getfield 53, 3) := by decide +kernel
theorem dX7_run_176 : decode cX7_run 176 = .ok (.iconst 2, 1) := by decide +kernel
theorem dX7_run_177 : decode cX7_run 177 = .ok (.aload_n 0, 1) := by decide +kernel
theorem dX7_run_178 : decode cX7_run 178 = .ok (.getfield 162, 3) := by decide +kernel
theorem dX7_run_181 : decode cX7_run 181 = .ok (.iastore, 1) := by decide +kernel
theorem dX7_run_182 : decode cX7_run 182 = .ok (.aload_n 0, 1) := by decide +kernel
theorem dX7_run_183 : decode cX7_run 183 = .ok (.getfield 53, 3) := by decide +kernel
theorem dX7_run_186 : decode cX7_run 186 = .ok (.iconst 3, 1) := by decide +kernel
theorem dX7_run_187 : decode cX7_run 187 = .ok (.aload_n 0, 1) := by decide +kernel
theorem dX7_run_188 : decode cX7_run 188 = .ok (.getfield 165, 3) := by decide +kernel
theorem dX7_run_191 : decode cX7_run 191 = .ok (.iastore, 1) := by decide +kernel
theorem dX7_run_192 : decode cX7_run 192 = .ok (.aload_n 0, 1) := by decide +kernel
theorem dX7_run_193 : decode cX7_run 193 = .ok (.getfield 53, 3) := by decide +kernel
theorem dX7_run_196 : decode cX7_run 196 = .ok (.iconst 4, 1) := by decide +kernel
theorem dX7_run_197 : decode cX7_run 197 = .ok (.aload_n 0, 1) := by decide +kernel
theorem dX7_run_198 : decode cX7_run 198 = .ok (.getfield 162, 3) := by decide +kernel
theorem dX7_run_201 : decode cX7_run 201 = .ok (.aload_n 0, 1) := by decide +kernel
theorem dX7_run_202 : decode cX7_run 202 = .ok (.getfield 165, 3) := by decide +kernel
theorem dX7_run_205 : decode cX7_run 205 = .ok (.isub, 1) := by decide +kernel
theorem dX7_run_206 : decode cX7_run 206 = .ok (.iastore, 1) := by decide +kernel
theorem dX7_run_207 : decode cX7_run 207 = .ok (.aload_n 0, 1) := by decide +kernel
theorem dX7_run_208 : decode cX7_run 208 = .ok (.getfield 53, 3) := by decide +kernel
theorem dX7_run_211 : decode cX7_run 211 = .ok (.iconst 5, 1) := by decide +kernel
theorem dX7_run_212 : decode cX7_run 212 = .ok (.aload_n 0, 1) := by decide +kernel
theorem dX7_run_213 : decode cX7_run 213 = .ok (.getfield 137, 3) := by decide +kernel
theorem dX7_run_216 : decode cX7_run 216 = .ok (.iastore, 1) := by decide +kernel
theorem dX7_run_217 : decode cX7_run 217 = .ok (.aload_n 0, 1) := by decide +kernel
theorem dX7_run_218 : decode cX7_run 218 = .ok (.getfield 53, 3) := by decide +kernel
theorem dX7_run_221 : decode cX7_run 221 = .ok (.bipush 6, 2) := by decide +kernel
theorem dX7_run_223 : decode cX7_run 223 = .ok (.aload_n 0, 1) := by decide +kernel
theorem dX7_run_224 : decode cX7_run 224 = .ok (.getfield 159, 3) := by decide +kernel
theorem dX7_run_227 : decode cX7_run 227 = .ok (.iastore, 1) := by decide +kernel
theorem dX7_run_228 : decode cX7_run 228 = .ok (.aload_n 0, 1) := by decide +kernel
theorem dX7_run_229 : decode cX7_run 229 = .ok (.getfield 53, 3) := by decide +kernel
theorem dX7_run_232 : decode cX7_run 232 = .ok (.bipush 7, 2) := by decide +kernel
theorem dX7_run_234 : decode cX7_run 234 = .ok (.aload_n 0, 1) := by decide +kernel
theorem dX7_run_235 : decode cX7_run 235 = .ok (.getfield 156, 3) := by decide +kernel
theorem dX7_run_238 : decode cX7_run 238 = .ok (.iastore, 1) := by decide +kernel
theorem dX7_run_239 : decode cX7_run 239 = .ok (.aload_n 0, 1) := by decide +kernel
theorem dX7_run_240 : decode cX7_run 240 = .ok (.getfield 53, 3) := by decide +kernel
theorem dX7_run_243 : decode cX7_run 243 = .ok (.bipush 8, 2) := by decide +kernel
theorem dX7_run_245 : decode cX7_run 245 = .ok (.aload_n 0, 1) := by decide +kernel
theorem dX7_run_246 : decode cX7_run 246 = .ok (.getfield 134, 3) := by decide +kernel
theorem dX7_run_249 : decode cX7_run 249 = .ok (.iastore, 1) := by decide +kernel
theorem dX7_run_250 : decode cX7_run 250 = .ok (.iload 5, 2) := by decide +kernel
theorem dX7_run_252 : decode cX7_run 252 = .ok (.iconst 5, 1) := by decide +kernel
theorem dX7_run_253 : decode cX7_run 253 = .ok (.if_icmp .ne 7, 3) := by decide +kernel
theorem dX7_run_256 : decode cX7_run 256 = .ok (.iconst 1, 1) := by decide +kernel
theorem dX7_run_257 : decode cX7_run 257 = .ok (.goto 6, 3) := by decide +kernel
theorem dX7_run_260 : decode cX7_run 260 = .ok (.iload 5, 2) := by decide +kernel
theorem dX7_run_262 : decode cX7_run 262 = .ok (.ineg, 1) := by decide +kernel
theorem dX7_run_263 : decode cX7_run 263 = .ok (.ireturn, 1) := by decide +kernel
theorem dX7_ran_0 : decode cX7_ran 0 = .ok (.aload_n 0, 1) := by decide +kernel
theorem dX7_ran_1 : decode cX7_ran 1 = .ok (.iconst 0, 1) := by decide +kernel
theorem dX7_ran_2 : decode cX7_ran 2 = .ok (.putfield 71, 3) := by decide +kernel
theorem dX7_ran_5 : decode cX7_ran 5 = .ok (.iload_n 1, 1) := by decide +kernel
theorem dX7_ran_6 : decode cX7_ran 6 = .ok (.iconst 0, 1) := by decide +kernel
theorem dX7_ran_7 : decode cX7_ran 7 = .ok (.bipush 8, 2) := by decide +kernel
theorem dX7_ran_9 : decode cX7_ran 9 = .ok (.invokestatic 78, 3) := by decide +kernel
theorem dX7_ran_12 : decode cX7_ran 12 = .ok (.ifCond .eq 12, 3) := by decide +kernel
theorem dX7_ran_15 : decode cX7_ran 15 = .ok (.aload_n 0, 1) := by decide +kernel
theorem dX7_ran_16 : decode cX7_ran 16 = .ok (.getfield 53, 3) := by decide +kernel
theorem dX7_ran_19 : decode cX7_ran 19 = .ok (.iload_n 1, 1) := by decide +kernel
theorem dX7_ran_20 : decode cX7_ran 20 = .ok (.iaload, 1) := by decide +kernel
theorem dX7_ran_21 : decode cX7_ran 21 = .ok (.goto 5, 3) := by decide +kernel
theorem dX7_ran_24 : decode cX7_ran 24 = .ok (.ldc 184, 2) := by decide +kernel
theorem dX7_ran_26 : decode cX7_ran 26 = .ok (.ireturn, 1) := by decide +kernel
theorem dX7_alike_0 : decode cX7_alike 0 = .ok (.aload_n 0, 1) := by decide +kernel
theorem dX7_alike_1 : decode cX7_alike 1 = .ok (.iconst 0, 1) := by decide +kernel
theorem dX7_alike_2 : decode cX7_alike 2 = .ok (.putfield 71, 3) := by decide +kernel
theorem dX7_alike_5 : decode cX7_alike 5 = .ok (.aload_n 0, 1) := by decide +kernel
theorem dX7_alike_6 : decode cX7_alike 6 = .ok (.iload_n 1, 1) := by decide +kernel
theorem dX7_alike_7 : decode cX7_alike 7 = .ok (.invokevirtual 127, 3) := by decide +kernel
theorem dX7_alike_10 : decode cX7_alike 10 = .ok (.ifCond .ne 7, 3) := by decide +kernel
theorem dX7_alike_13 : decode cX7_alike 13 = .ok (.iconst (-1), 1) := by decide +kernel
theorem dX7_alike_14 : decode cX7_alike 14 = .ok (.goto 21, 3) := by decide +kernel
theorem dX7_alike_17 : decode cX7_alike 17 = .ok (.iload 4, 2) := by decide +kernel
theorem dX7_alike_19 : decode cX7_alike 19 = .ok (.iconst 1, 1) := by decide +kernel
theorem dX7_alike_20 : decode cX7_alike 20 = .ok (.sipush 400, 3) := by decide +kernel
theorem dX7_alike_23 : decode cX7_alike 23 = .ok (.invokestatic 78, 3) := by decide +kernel
theorem dX7_alike_26 : decode cX7_alike 26 = .ok (.ifCond .eq 7, 3) := by decide +kernel
theorem dX7_alike_29 : decode cX7_alike 29 = .ok (.iconst 1, 1) := by decide +kernel
theorem dX7_alike_30 : decode cX7_alike 30 = .ok (.goto 5, 3) := by decide +kernel
theorem dX7_alike_33 : decode cX7_alike 33 = .ok (.bipush (-2), 2) := by decide +kernel
theorem dX7_alike_35 : decode cX7_alike 35 = .ok (.ireturn, 1) := by decide +kernel
theorem dX7_page_0 : decode cX7_page 0 = .ok (.aload_n 0, 1) := by decide +kernel
theorem dX7_page_1 : decode cX7_page 1 = .ok (.iconst 0, 1) := by decide +kernel
theorem dX7_page_2 : decode cX7_page 2 = .ok (.putfield 71, 3) := by decide +kernel
theorem dX7_page_5 : decode cX7_page 5 = .ok (.iload_n 1, 1) := by decide +kernel
theorem dX7_page_6 : decode cX7_page 6 = .ok (.iconst 0, 1) := by decide +kernel
theorem dX7_page_7 : decode cX7_page 7 = .ok (.bipush 15, 2) := by decide +kernel
theorem dX7_page_9 : decode cX7_page 9 = .ok (.invokestatic 78, 3) := by decide +kernel
theorem dX7_page_12 : decode cX7_page 12 = .ok (.ifCond .ne 6, 3) := by decide +kernel
theorem dX7_page_15 : decode cX7_page 15 = .ok (.bipush (-2), 2) := by decide +kernel
theorem dX7_page_17 : decode cX7_page 17 = .ok (.ireturn, 1) := by decide +kernel
theorem dX7_page_18 : decode cX7_page 18 = .ok (.iconst 0, 1) := by decide +kernel
theorem dX7_page_19 : decode cX7_page 19 = .ok (.istore_n 2, 1) := by decide +kernel
theorem dX7_page_20 : decode cX7_page 20 = .ok (.iconst 0, 1) := by decide +kernel
theorem dX7_page_21 : decode cX7_page 21 = .ok (.istore_n 3, 1) := by decide +kernel
theorem dX7_page_22 : decode cX7_page 22 = .ok (.iload_n 3, 1) := by decide +kernel
theorem dX7_page_23 : decode cX7_page 23 = .ok (.aload_n 0, 1) := by decide +kernel
theorem dX7_page_24 : decode cX7_page 24 = .ok (.getfield 75, 3) := by decide +kernel
theorem dX7_page_27 : decode cX7_page 27 = .ok (.if_icmp .ge 83, 3) := by decide +kernel
theorem dX7_page_30 : decode cX7_page 30 = .ok (.iconst 0, 1) := by decide +kernel
theorem dX7_page_31 : decode cX7_page 31 = .ok (.istore 4, 2) := by decide +kernel
theorem dX7_page_33 : decode cX7_page 33 = .ok (.iconst 0, 1) := by decide +kernel
theorem dX7_page_34 : decode cX7_page 34 = .ok (.istore 5, 2) := by decide +kernel
theorem dX7_page_36 : decode cX7_page 36 = .ok (.iload 5, 2) := by decide +kernel
theorem dX7_page_38 : decode cX7_page 38 = .ok (.bipush 16, 2) := by decide +kernel
theorem dX7_page_40 : decode cX7_page 40 = .ok (.if_icmp .ge 51, 3) := by decide +kernel
theorem dX7_page_43 : decode cX7_page 43 = .ok (.aload_n 0, 1) := by decide +kernel
theorem dX7_page_44 : decode cX7_page 44 = .ok (.getfield 16, 3) := by decide +kernel
theorem dX7_page_47 : decode cX7_page 47 = .ok (.iload_n 3, 1) := by decide +kernel
theorem dX7_page_48 : decode cX7_page 48 = .ok (.baload, 1) := by decide +kernel
theorem dX7_page_49 : decode cX7_page 49 = .ok (.ifCond .eq 42, 3) := by decide +kernel
theorem dX7_page_52 : decode cX7_page 52 = .ok (.iload 4, 2) := by decide +kernel
theorem dX7_page_54 : decode cX7_page 54 = .ok (.ifCond .ne 24, 3) := by decide +kernel
theorem dX7_page_57 : decode cX7_page 57 = .ok (.aload_n 0, 1) := by decide +kernel
theorem dX7_page_58 : decode cX7_page 58 = .ok (.getfield 23, 3) := by decide +kernel
theorem dX7_page_61 : decode cX7_page 61 = .ok (.sipush 256, 3) := by decide +kernel
theorem dX7_page_64 : decode cX7_page 64 = .ok (.iload_n 3, 1) := by decide +kernel
theorem dX7_page_65 : decode cX7_page 65 = .ok (.imul, 1) := by decide +kernel
theorem dX7_page_66 : decode cX7_page 66 = .ok (.bipush 16, 2) := by decide +kernel
theorem dX7_page_68 : decode cX7_page 68 = .ok (.iload_n 1, 1) := by decide +kernel
theorem dX7_page_69 : decode cX7_page 69 = .ok (.imul, 1) := by decide +kernel
theorem dX7_page_70 : decode cX7_page 70 = .ok (.iadd, 1) := by decide +kernel
theorem dX7_page_71 : decode cX7_page 71 = .ok (.iload 5, 2) := by decide +kernel
theorem dX7_page_73 : decode cX7_page 73 = .ok (.iadd, 1) := by decide +kernel
theorem dX7_page_74 : decode cX7_page 74 = .ok (.baload, 1) := by decide +kernel
theorem dX7_page_75 : decode cX7_page 75 = .ok (.ifCond .eq 7, 3) := by decide +kernel
theorem dX7_page_78 : decode cX7_page 78 = .ok (.iconst 1, 1) := by decide +kernel
theorem dX7_page_79 : decode cX7_page 79 = .ok (.goto 4, 3) := by decide +kernel
theorem dX7_page_82 : decode cX7_page 82 = .ok (.iconst 0, 1) := by decide +kernel
theorem dX7_page_83 : decode cX7_page 83 = .ok (.istore 4, 2) := by decide +kernel
theorem dX7_page_85 : decode cX7_page 85 = .ok (.iinc 5 1, 3) := by decide +kernel
theorem dX7_page_88 : decode cX7_page 88 = .ok (.goto (-52), 3) := by decide +kernel
theorem dX7_page_91 : decode cX7_page 91 = .ok (.iload_n 2, 1) := by decide +kernel
theorem dX7_page_92 : decode cX7_page 92 = .ok (.iload 4, 2) := by decide +kernel
theorem dX7_page_94 : decode cX7_page 94 = .ok (.ifCond .eq 7, 3) := by decide +kernel
theorem dX7_page_97 : decode cX7_page 97 = .ok (.iconst 1, 1) := by decide +kernel
theorem dX7_page_98 : decode cX7_page 98 = .ok (.goto 4, 3) := by decide +kernel
theorem dX7_page_101 : decode cX7_page 101 = .ok (.iconst 0, 1) := by decide +kernel
theorem dX7_page_102 : decode cX7_page 102 = .ok (.iadd, 1) := by decide +kernel
theorem dX7_page_103 : decode cX7_page 103 = .ok (.istore_n 2, 1) := by decide +kernel
theorem dX7_page_104 : decode cX7_page 104 = .ok (.iinc 3 1, 3) := by decide +kernel
theorem dX7_page_107 : decode cX7_page 107 = .ok (.goto (-85), 3) := by decide +kernel
theorem dX7_page_110 : decode cX7_page 110 = .ok (.iload_n 2, 1) := by decide +kernel
theorem dX7_page_111 : decode cX7_page 111 = .ok (.ireturn, 1) := by decide +kernel
theorem dX7_snapshot_0 : decode cX7_snapshot 0 = .ok (.aload_n 0, 1) := by decide +kernel
theorem dX7_snapshot_1 : decode cX7_snapshot 1 = .ok (.iconst 0, 1) := by decide +kernel
theorem dX7_snapshot_2 : decode cX7_snapshot 2 = .ok (.putfield 71, 3) := by decide +kernel
theorem dX7_snapshot_5 : decode cX7_snapshot 5 = .ok (.aload_n 0, 1) := by decide +kernel
theorem dX7_snapshot_6 : decode cX7_snapshot 6 = .ok (.getfield 185, 3) := by decide +kernel
theorem dX7_snapshot_9 : decode cX7_snapshot 9 = .ok (.iconst 4, 1) := by decide +kernel
theorem dX7_snapshot_10 : decode cX7_snapshot 10 = .ok (.if_icmp .ne 6, 3) := by decide +kernel
theorem dX7_snapshot_13 : decode cX7_snapshot 13 = .ok (.bipush (-4), 2) := by decide +kernel
theorem dX7_snapshot_15 : decode cX7_snapshot 15 = .ok (.ireturn, 1) := by decide +kernel
theorem dX7_snapshot_16 : decode cX7_snapshot 16 = .ok (.iconst 0, 1) := by decide +kernel
theorem dX7_snapshot_17 : decode cX7_snapshot 17 = .ok (.istore_n 1, 1) := by decide +kernel
theorem dX7_snapshot_18 : decode cX7_snapshot 18 = .ok (.iload_n 1, 1) := by decide +kernel
theorem dX7_snapshot_19 : decode cX7_snapshot 19 = .ok (.sipush 256, 3) := by decide +kernel
theorem dX7_snapshot_22 : decode cX7_snapshot 22 = .ok (.if_icmp .ge 30, 3) := by decide +kernel
theorem dX7_snapshot_25 : decode cX7_snapshot 25 = .ok (.aload_n 0, 1) := by decide +kernel
theorem dX7_snapshot_26 : decode cX7_snapshot 26 = .ok (.getfield 44, 3) := by decide +kernel
theorem dX7_snapshot_29 : decode cX7_snapshot 29 = .ok (.sipush 256, 3) := by decide +kernel
theorem dX7_snapshot_32 : decode cX7_snapshot 32 = .ok (.aload_n 0, 1) := by decide +kernel
theorem dX7_snapshot_33 : decode cX7_snapshot 33 = .ok (.getfield 185, 3) := by decide +kernel
theorem dX7_snapshot_36 : decode cX7_snapshot 36 = .ok (.imul, 1) := by decide +kernel
theorem dX7_snapshot_37 : decode cX7_snapshot 37 = .ok (.iload_n 1, 1) := by decide +kernel
theorem dX7_snapshot_38 : decode cX7_snapshot 38 = .ok (.iadd, 1) := by decide +kernel
theorem dX7_snapshot_39 : decode cX7_snapshot 39 = .ok (.aload_n 0, 1) := by decide +kernel
theorem dX7_snapshot_40 : decode cX7_snapshot 40 = .ok (.getfield 7, 3) := by decide +kernel
theorem dX7_snapshot_43 : decode cX7_snapshot 43 = .ok (.iload_n 1, 1) := by decide +kernel
theorem dX7_snapshot_44 : decode cX7_snapshot 44 = .ok (.iaload, 1) := by decide +kernel
theorem dX7_snapshot_45 : decode cX7_snapshot 45 = .ok (.iastore, 1) := by decide +kernel
theorem dX7_snapshot_46 : decode cX7_snapshot 46 = .ok (.iinc 1 1, 3) := by decide +kernel
theorem dX7_snapshot_49 : decode cX7_snapshot 49 = .ok (.goto (-31), 3) := by decide +kernel
theorem dX7_snapshot_52 : decode cX7_snapshot 52 = .ok (.aload_n 0, 1) := by decide +kernel
theorem dX7_snapshot_53 : decode cX7_snapshot 53 = .ok (.dup, 1) := by decide +kernel
theorem dX7_snapshot_54 : decode cX7_snapshot 54 = .ok (.getfield 185, 3) := by decide +kernel
theorem dX7_snapshot_57 : decode cX7_snapshot 57 = .ok (.iconst 1, 1) := by decide +kernel
theorem dX7_snapshot_58 : decode cX7_snapshot 58 = .ok (.iadd, 1) := by decide +kernel
theorem dX7_snapshot_59 : decode cX7_snapshot 59 = .ok (.putfield 185, 3) := by decide +kernel
theorem dX7_snapshot_62 : decode cX7_snapshot 62 = .ok (.aload_n 0, 1) := by decide +kernel
theorem dX7_snapshot_63 : decode cX7_snapshot 63 = .ok (.getfield 185, 3) := by decide +kernel
theorem dX7_snapshot_66 : decode cX7_snapshot 66 = .ok (.iconst 1, 1) := by decide +kernel
theorem dX7_snapshot_67 : decode cX7_snapshot 67 = .ok (.isub, 1) := by decide +kernel
theorem dX7_snapshot_68 : decode cX7_snapshot 68 = .ok (.ireturn, 1) := by decide +kernel
theorem dX7_isAsMade_0 : decode cX7_isAsMade 0 = .ok (.iconst 1, 1) := by decide +kernel
theorem dX7_isAsMade_1 : decode cX7_isAsMade 1 = .ok (.istore_n 2, 1) := by decide +kernel
theorem dX7_isAsMade_2 : decode cX7_isAsMade 2 = .ok (.iconst 0, 1) := by decide +kernel
theorem dX7_isAsMade_3 : decode cX7_isAsMade 3 = .ok (.istore_n 3, 1) := by decide +kernel
theorem dX7_isAsMade_4 : decode cX7_isAsMade 4 = .ok (.iload_n 3, 1) := by decide +kernel
theorem dX7_isAsMade_5 : decode cX7_isAsMade 5 = .ok (.sipush 256, 3) := by decide +kernel
theorem dX7_isAsMade_8 : decode cX7_isAsMade 8 = .ok (.if_icmp .ge 55, 3) := by decide +kernel
theorem dX7_isAsMade_11 : decode cX7_isAsMade 11 = .ok (.iload_n 2, 1) := by decide +kernel
theorem dX7_isAsMade_12 : decode cX7_isAsMade 12 = .ok (.ifCond .eq 43, 3) := by decide +kernel
theorem dX7_isAsMade_15 : decode cX7_isAsMade 15 = .ok (.aload_n 0, 1) := by decide +kernel
theorem dX7_isAsMade_16 : decode cX7_isAsMade 16 = .ok (.getfield 38, 3) := by decide +kernel
theorem dX7_isAsMade_19 : decode cX7_isAsMade 19 = .ok (.sipush 256, 3) := by decide +kernel
theorem dX7_isAsMade_22 : decode cX7_isAsMade 22 = .ok (.iload_n 1, 1) := by decide +kernel
theorem dX7_isAsMade_23 : decode cX7_isAsMade 23 = .ok (.imul, 1) := by decide +kernel
theorem dX7_isAsMade_24 : decode cX7_isAsMade 24 = .ok (.iload_n 3, 1) := by decide +kernel
theorem dX7_isAsMade_25 : decode cX7_isAsMade 25 = .ok (.iadd, 1) := by decide +kernel
theorem dX7_isAsMade_26 : decode cX7_isAsMade 26 = .ok (.baload, 1) := by decide +kernel
theorem dX7_isAsMade_27 : decode cX7_isAsMade 27 = .ok (.ifCond .eq 24, 3) := by decide +kernel
theorem dX7_isAsMade_30 : decode cX7_isAsMade 30 = .ok (.aload_n 0, 1) := by decide +kernel
theorem dX7_isAsMade_31 : decode cX7_isAsMade 31 = .ok (.getfield 41, 3) := by decide +kernel
theorem dX7_isAsMade_34 : decode cX7_isAsMade 34 = .ok (.sipush 256, 3) := by decide +kernel
theorem dX7_isAsMade_37 : decode cX7_isAsMade 37 = .ok (.iload_n 1, 1) := by decide +kernel
theorem dX7_isAsMade_38 : decode cX7_isAsMade 38 = .ok (.imul, 1) := by decide +kernel
theorem dX7_isAsMade_39 : decode cX7_isAsMade 39 = .ok (.iload_n 3, 1) := by decide +kernel
theorem dX7_isAsMade_40 : decode cX7_isAsMade 40 = .ok (.iadd, 1) := by decide +kernel
theorem dX7_isAsMade_41 : decode cX7_isAsMade 41 = .ok (.iaload, 1) := by decide +kernel
theorem dX7_isAsMade_42 : decode cX7_isAsMade 42 = .ok (.aload_n 0, 1) := by decide +kernel
theorem dX7_isAsMade_43 : decode cX7_isAsMade 43 = .ok (.getfield 7, 3) := by decide +kernel
theorem dX7_isAsMade_46 : decode cX7_isAsMade 46 = .ok (.iload_n 3, 1) := by decide +kernel
theorem dX7_isAsMade_47 : decode cX7_isAsMade 47 = .ok (.iaload, 1) := by decide +kernel
theorem dX7_isAsMade_48 : decode cX7_isAsMade 48 = .ok (.if_icmp .ne 7, 3) := by decide +kernel
theorem dX7_isAsMade_51 : decode cX7_isAsMade 51 = .ok (.iconst 1, 1) := by decide +kernel
theorem dX7_isAsMade_52 : decode cX7_isAsMade 52 = .ok (.goto 4, 3) := by decide +kernel
theorem dX7_isAsMade_55 : decode cX7_isAsMade 55 = .ok (.iconst 0, 1) := by decide +kernel
theorem dX7_isAsMade_56 : decode cX7_isAsMade 56 = .ok (.istore_n 2, 1) := by decide +kernel
theorem dX7_isAsMade_57 : decode cX7_isAsMade 57 = .ok (.iinc 3 1, 3) := by decide +kernel
theorem dX7_isAsMade_60 : decode cX7_isAsMade 60 = .ok (.goto (-56), 3) := by decide +kernel
theorem dX7_isAsMade_63 : decode cX7_isAsMade 63 = .ok (.iload_n 2, 1) := by decide +kernel
theorem dX7_isAsMade_64 : decode cX7_isAsMade 64 = .ok (.ireturn, 1) := by decide +kernel
theorem dX7_returned_0 : decode cX7_returned 0 = .ok (.iconst 0, 1) := by decide +kernel
theorem dX7_returned_1 : decode cX7_returned 1 = .ok (.istore_n 1, 1) := by decide +kernel
theorem dX7_returned_2 : decode cX7_returned 2 = .ok (.iconst 0, 1) := by decide +kernel
theorem dX7_returned_3 : decode cX7_returned 3 = .ok (.istore_n 2, 1) := by decide +kernel
theorem dX7_returned_4 : decode cX7_returned 4 = .ok (.iload_n 2, 1) := by decide +kernel
theorem dX7_returned_5 : decode cX7_returned 5 = .ok (.sipush 256, 3) := by decide +kernel
theorem dX7_returned_8 : decode cX7_returned 8 = .ok (.if_icmp .ge 33, 3) := by decide +kernel
theorem dX7_returned_11 : decode cX7_returned 11 = .ok (.aload_n 0, 1) := by decide +kernel
theorem dX7_returned_12 : decode cX7_returned 12 = .ok (.iload_n 2, 1) := by decide +kernel
theorem dX7_returned_13 : decode cX7_returned 13 = .ok (.aload_n 0, 1) := by decide +kernel
theorem dX7_returned_14 : decode cX7_returned 14 = .ok (.getfield 50, 3) := by decide +kernel
theorem dX7_returned_17 : decode cX7_returned 17 = .ok (.iload_n 2, 1) := by decide +kernel
theorem dX7_returned_18 : decode cX7_returned 18 = .ok (.iaload, 1) := by decide +kernel
theorem dX7_returned_19 : decode cX7_returned 19 = .ok (.invokevirtual 104, 3) := by decide +kernel
theorem dX7_returned_22 : decode cX7_returned 22 = .ok (.istore_n 3, 1) := by decide +kernel
theorem dX7_returned_23 : decode cX7_returned 23 = .ok (.iload_n 1, 1) := by decide +kernel
theorem dX7_returned_24 : decode cX7_returned 24 = .ok (.iload_n 3, 1) := by decide +kernel
theorem dX7_returned_25 : decode cX7_returned 25 = .ok (.ifCond .le 7, 3) := by decide +kernel
theorem dX7_returned_28 : decode cX7_returned 28 = .ok (.iload_n 3, 1) := by decide +kernel
theorem dX7_returned_29 : decode cX7_returned 29 = .ok (.goto 4, 3) := by decide +kernel
theorem dX7_returned_32 : decode cX7_returned 32 = .ok (.iconst 0, 1) := by decide +kernel
theorem dX7_returned_33 : decode cX7_returned 33 = .ok (.iadd, 1) := by decide +kernel
theorem dX7_returned_34 : decode cX7_returned 34 = .ok (.istore_n 1, 1) := by decide +kernel
theorem dX7_returned_35 : decode cX7_returned 35 = .ok (.iinc 2 1, 3) := by decide +kernel
theorem dX7_returned_38 : decode cX7_returned 38 = .ok (.goto (-34), 3) := by decide +kernel
theorem dX7_returned_41 : decode cX7_returned 41 = .ok (.iconst 0, 1) := by decide +kernel
theorem dX7_returned_42 : decode cX7_returned 42 = .ok (.istore_n 2, 1) := by decide +kernel
theorem dX7_returned_43 : decode cX7_returned 43 = .ok (.iconst 0, 1) := by decide +kernel
theorem dX7_returned_44 : decode cX7_returned 44 = .ok (.istore_n 3, 1) := by decide +kernel
theorem dX7_returned_45 : decode cX7_returned 45 = .ok (.iload_n 3, 1) := by decide +kernel
theorem dX7_returned_46 : decode cX7_returned 46 = .ok (.aload_n 0, 1) := by decide +kernel
theorem dX7_returned_47 : decode cX7_returned 47 = .ok (.getfield 75, 3) := by decide +kernel
theorem dX7_returned_50 : decode cX7_returned 50 = .ok (.if_icmp .ge 131, 3) := by decide +kernel
theorem dX7_returned_53 : decode cX7_returned 53 = .ok (.aload_n 0, 1) := by decide +kernel
theorem dX7_returned_54 : decode cX7_returned 54 = .ok (.getfield 32, 3) := by decide +kernel
theorem dX7_returned_57 : decode cX7_returned 57 = .ok (.iload_n 3, 1) := by decide +kernel
theorem dX7_returned_58 : decode cX7_returned 58 = .ok (.baload, 1) := by decide +kernel
theorem dX7_returned_59 : decode cX7_returned 59 = .ok (.ifCond .eq 116, 3) := by decide +kernel
theorem dX7_returned_62 : decode cX7_returned 62 = .ok (.aload_n 0, 1) := by decide +kernel
theorem dX7_returned_63 : decode cX7_returned 63 = .ok (.getfield 16, 3) := by decide +kernel
theorem dX7_returned_66 : decode cX7_returned 66 = .ok (.iload_n 3, 1) := by decide +kernel
theorem dX7_returned_67 : decode cX7_returned 67 = .ok (.baload, 1) := by decide +kernel
theorem dX7_returned_68 : decode cX7_returned 68 = .ok (.ifCond .ne 107, 3) := by decide +kernel
theorem dX7_returned_71 : decode cX7_returned 71 = .ok (.aload_n 0, 1) := by decide +kernel
theorem dX7_returned_72 : decode cX7_returned 72 = .ok (.getfield 29, 3) := by decide +kernel
theorem dX7_returned_75 : decode cX7_returned 75 = .ok (.iload_n 3, 1) := by decide +kernel
theorem dX7_returned_76 : decode cX7_returned 76 = .ok (.iaload, 1) := by decide +kernel
theorem dX7_returned_77 : decode cX7_returned 77 = .ok (.iconst 3, 1) := by decide +kernel
theorem dX7_returned_78 : decode cX7_returned 78 = .ok (.if_icmp .ge 97, 3) := by decide +kernel
theorem dX7_returned_81 : decode cX7_returned 81 = .ok (.aload_n 0, 1) := by decide +kernel
theorem dX7_returned_82 : decode cX7_returned 82 = .ok (.iload_n 3, 1) := by decide +kernel
theorem dX7_returned_83 : decode cX7_returned 83 = .ok (.invokevirtual 188, 3) := by decide +kernel
theorem dX7_returned_86 : decode cX7_returned 86 = .ok (.ifCond .eq 89, 3) := by decide +kernel
theorem dX7_returned_89 : decode cX7_returned 89 = .ok (.sipush 256, 3) := by decide +kernel
theorem dX7_returned_92 : decode cX7_returned 92 = .ok (.iload_n 3, 1) := by decide +kernel
theorem dX7_returned_93 : decode cX7_returned 93 = .ok (.imul, 1) := by decide +kernel
theorem dX7_returned_94 : decode cX7_returned 94 = .ok (.istore 4, 2) := by decide +kernel
theorem dX7_returned_96 : decode cX7_returned 96 = .ok (.iload 4, 2) := by decide +kernel
theorem dX7_returned_98 : decode cX7_returned 98 = .ok (.sipush 256, 3) := by decide +kernel
theorem dX7_returned_101 : decode cX7_returned 101 = .ok (.iload_n 3, 1) := by decide +kernel
theorem dX7_returned_102 : decode cX7_returned 102 = .ok (.imul, 1) := by decide +kernel
theorem dX7_returned_103 : decode cX7_returned 103 = .ok (.sipush 256, 3) := by decide +kernel
theorem dX7_returned_106 : decode cX7_returned 106 = .ok (.iadd, 1) := by decide +kernel
theorem dX7_returned_107 : decode cX7_returned 107 = .ok (.if_icmp .ge 51, 3) := by decide +kernel
theorem dX7_returned_110 : decode cX7_returned 110 = .ok (.aload_n 0, 1) := by decide +kernel
theorem dX7_returned_111 : decode cX7_returned 111 = .ok (.getfield 20, 3) := by decide +kernel
theorem dX7_returned_114 : decode cX7_returned 114 = .ok (.iload 4, 2) := by decide +kernel
theorem dX7_returned_116 : decode cX7_returned 116 = .ok (.aload_n 0, 1) := by decide +kernel
theorem dX7_returned_117 : decode cX7_returned 117 = .ok (.getfield 35, 3) := by decide +kernel
theorem dX7_returned_120 : decode cX7_returned 120 = .ok (.iload 4, 2) := by decide +kernel
theorem dX7_returned_122 : decode cX7_returned 122 = .ok (.baload, 1) := by decide +kernel
theorem dX7_returned_123 : decode cX7_returned 123 = .ok (.bastore, 1) := by decide +kernel
theorem dX7_returned_124 : decode cX7_returned 124 = .ok (.aload_n 0, 1) := by decide +kernel
theorem dX7_returned_125 : decode cX7_returned 125 = .ok (.getfield 23, 3) := by decide +kernel
theorem dX7_returned_128 : decode cX7_returned 128 = .ok (.iload 4, 2) := by decide +kernel
theorem dX7_returned_130 : decode cX7_returned 130 = .ok (.aload_n 0, 1) := by decide +kernel
theorem dX7_returned_131 : decode cX7_returned 131 = .ok (.getfield 38, 3) := by decide +kernel
theorem dX7_returned_134 : decode cX7_returned 134 = .ok (.iload 4, 2) := by decide +kernel
theorem dX7_returned_136 : decode cX7_returned 136 = .ok (.baload, 1) := by decide +kernel
theorem dX7_returned_137 : decode cX7_returned 137 = .ok (.bastore, 1) := by decide +kernel
theorem dX7_returned_138 : decode cX7_returned 138 = .ok (.aload_n 0, 1) := by decide +kernel
theorem dX7_returned_139 : decode cX7_returned 139 = .ok (.getfield 26, 3) := by decide +kernel
theorem dX7_returned_142 : decode cX7_returned 142 = .ok (.iload 4, 2) := by decide +kernel
theorem dX7_returned_144 : decode cX7_returned 144 = .ok (.aload_n 0, 1) := by decide +kernel
theorem dX7_returned_145 : decode cX7_returned 145 = .ok (.getfield 41, 3) := by decide +kernel
theorem dX7_returned_148 : decode cX7_returned 148 = .ok (.iload 4, 2) := by decide +kernel
theorem dX7_returned_150 : decode cX7_returned 150 = .ok (.iaload, 1) := by decide +kernel
theorem dX7_returned_151 : decode cX7_returned 151 = .ok (.iastore, 1) := by decide +kernel
theorem dX7_returned_152 : decode cX7_returned 152 = .ok (.iinc 4 1, 3) := by decide +kernel
theorem dX7_returned_155 : decode cX7_returned 155 = .ok (.goto (-59), 3) := by decide +kernel
theorem dX7_returned_158 : decode cX7_returned 158 = .ok (.aload_n 0, 1) := by decide +kernel
theorem dX7_returned_159 : decode cX7_returned 159 = .ok (.getfield 16, 3) := by decide +kernel
theorem dX7_returned_162 : decode cX7_returned 162 = .ok (.iload_n 3, 1) := by decide +kernel
theorem dX7_returned_163 : decode cX7_returned 163 = .ok (.iconst 1, 1) := by decide +kernel
theorem dX7_returned_164 : decode cX7_returned 164 = .ok (.bastore, 1) := by decide +kernel
theorem dX7_returned_165 : decode cX7_returned 165 = .ok (.aload_n 0, 1) := by decide +kernel
theorem dX7_returned_166 : decode cX7_returned 166 = .ok (.getfield 32, 3) := by decide +kernel
theorem dX7_returned_169 : decode cX7_returned 169 = .ok (.iload_n 3, 1) := by decide +kernel
theorem dX7_returned_170 : decode cX7_returned 170 = .ok (.iconst 0, 1) := by decide +kernel
theorem dX7_returned_171 : decode cX7_returned 171 = .ok (.bastore, 1) := by decide +kernel
theorem dX7_returned_172 : decode cX7_returned 172 = .ok (.iinc 2 1, 3) := by decide +kernel
theorem dX7_returned_175 : decode cX7_returned 175 = .ok (.iinc 3 1, 3) := by decide +kernel
theorem dX7_returned_178 : decode cX7_returned 178 = .ok (.goto (-133), 3) := by decide +kernel
theorem dX7_returned_181 : decode cX7_returned 181 = .ok (.aload_n 0, 1) := by decide +kernel
theorem dX7_returned_182 : decode cX7_returned 182 = .ok (.dup, 1) := by decide +kernel
theorem dX7_returned_183 : decode cX7_returned 183 = .ok (.getfield 191, 3) := by decide +kernel
theorem dX7_returned_186 : decode cX7_returned 186 = .ok (.iload_n 2, 1) := by decide +kernel
theorem dX7_returned_187 : decode cX7_returned 187 = .ok (.iadd, 1) := by decide +kernel
theorem dX7_returned_188 : decode cX7_returned 188 = .ok (.putfield 191, 3) := by decide +kernel
theorem dX7_returned_191 : decode cX7_returned 191 = .ok (.iload_n 1, 1) := by decide +kernel
theorem dX7_returned_192 : decode cX7_returned 192 = .ok (.bipush 100, 2) := by decide +kernel
theorem dX7_returned_194 : decode cX7_returned 194 = .ok (.iload_n 2, 1) := by decide +kernel
theorem dX7_returned_195 : decode cX7_returned 195 = .ok (.imul, 1) := by decide +kernel
theorem dX7_returned_196 : decode cX7_returned 196 = .ok (.iadd, 1) := by decide +kernel
theorem dX7_returned_197 : decode cX7_returned 197 = .ok (.ireturn, 1) := by decide +kernel
theorem dX7_restore_0 : decode cX7_restore 0 = .ok (.aload_n 0, 1) := by decide +kernel
theorem dX7_restore_1 : decode cX7_restore 1 = .ok (.iconst 0, 1) := by decide +kernel
theorem dX7_restore_2 : decode cX7_restore 2 = .ok (.putfield 71, 3) := by decide +kernel
theorem dX7_restore_5 : decode cX7_restore 5 = .ok (.iload_n 1, 1) := by decide +kernel
theorem dX7_restore_6 : decode cX7_restore 6 = .ok (.iconst 0, 1) := by decide +kernel
theorem dX7_restore_7 : decode cX7_restore 7 = .ok (.aload_n 0, 1) := by decide +kernel
theorem dX7_restore_8 : decode cX7_restore 8 = .ok (.getfield 185, 3) := by decide +kernel
theorem dX7_restore_11 : decode cX7_restore 11 = .ok (.iconst 1, 1) := by decide +kernel
theorem dX7_restore_12 : decode cX7_restore 12 = .ok (.isub, 1) := by decide +kernel
theorem dX7_restore_13 : decode cX7_restore 13 = .ok (.invokestatic 78, 3) := by decide +kernel
theorem dX7_restore_16 : decode cX7_restore 16 = .ok (.ifCond .ne 5, 3) := by decide +kernel
theorem dX7_restore_19 : decode cX7_restore 19 = .ok (.iconst (-1), 1) := by decide +kernel
theorem dX7_restore_20 : decode cX7_restore 20 = .ok (.ireturn, 1) := by decide +kernel
theorem dX7_restore_21 : decode cX7_restore 21 = .ok (.iconst 0, 1) := by decide +kernel
theorem dX7_restore_22 : decode cX7_restore 22 = .ok (.istore_n 2, 1) := by decide +kernel
theorem dX7_restore_23 : decode cX7_restore 23 = .ok (.iload_n 2, 1) := by decide +kernel
theorem dX7_restore_24 : decode cX7_restore 24 = .ok (.sipush 256, 3) := by decide +kernel
theorem dX7_restore_27 : decode cX7_restore 27 = .ok (.if_icmp .ge 27, 3) := by decide +kernel
theorem dX7_restore_30 : decode cX7_restore 30 = .ok (.aload_n 0, 1) := by decide +kernel
theorem dX7_restore_31 : decode cX7_restore 31 = .ok (.getfield 50, 3) := by decide +kernel
theorem dX7_restore_34 : decode cX7_restore 34 = .ok (.iload_n 2, 1) := by decide +kernel
theorem dX7_restore_35 : decode cX7_restore 35 = .ok (.aload_n 0, 1) := by decide +kernel
theorem dX7_restore_36 : decode cX7_restore 36 = .ok (.getfield 44, 3) := by decide +kernel
theorem dX7_restore_39 : decode cX7_restore 39 = .ok (.sipush 256, 3) := by decide +kernel
theorem dX7_restore_42 : decode cX7_restore 42 = .ok (.iload_n 1, 1) := by decide +kernel
theorem dX7_restore_43 : decode cX7_restore 43 = .ok (.imul, 1) := by decide +kernel
theorem dX7_restore_44 : decode cX7_restore 44 = .ok (.iload_n 2, 1) := by decide +kernel
theorem dX7_restore_45 : decode cX7_restore 45 = .ok (.iadd, 1) := by decide +kernel
theorem dX7_restore_46 : decode cX7_restore 46 = .ok (.iaload, 1) := by decide +kernel
theorem dX7_restore_47 : decode cX7_restore 47 = .ok (.iastore, 1) := by decide +kernel
theorem dX7_restore_48 : decode cX7_restore 48 = .ok (.iinc 2 1, 3) := by decide +kernel
theorem dX7_restore_51 : decode cX7_restore 51 = .ok (.goto (-28), 3) := by decide +kernel
theorem dX7_restore_54 : decode cX7_restore 54 = .ok (.aload_n 0, 1) := by decide +kernel
theorem dX7_restore_55 : decode cX7_restore 55 = .ok (.invokevirtual 194, 3) := by decide +kernel
theorem dX7_restore_58 : decode cX7_restore 58 = .ok (.ireturn, 1) := by decide +kernel
theorem dX7_undo_0 : decode cX7_undo 0 = .ok (.aload_n 0, 1) := by decide +kernel
theorem dX7_undo_1 : decode cX7_undo 1 = .ok (.iconst 0, 1) := by decide +kernel
theorem dX7_undo_2 : decode cX7_undo 2 = .ok (.putfield 71, 3) := by decide +kernel
theorem dX7_undo_5 : decode cX7_undo 5 = .ok (.aload_n 0, 1) := by decide +kernel
theorem dX7_undo_6 : decode cX7_undo 6 = .ok (.getfield 96, 3) := by decide +kernel
theorem dX7_undo_9 : decode cX7_undo 9 = .ok (.ifCond .ne 6, 3) := by decide +kernel
theorem dX7_undo_12 : decode cX7_undo 12 = .ok (.bipush (-3), 2) := by decide +kernel
theorem dX7_undo_14 : decode cX7_undo 14 = .ok (.ireturn, 1) := by decide +kernel
theorem dX7_undo_15 : decode cX7_undo 15 = .ok (.aload_n 0, 1) := by decide +kernel
theorem dX7_undo_16 : decode cX7_undo 16 = .ok (.dup, 1) := by decide +kernel
theorem dX7_undo_17 : decode cX7_undo 17 = .ok (.getfield 96, 3) := by decide +kernel
theorem dX7_undo_20 : decode cX7_undo 20 = .ok (.iconst 1, 1) := by decide +kernel
theorem dX7_undo_21 : decode cX7_undo 21 = .ok (.isub, 1) := by decide +kernel
theorem dX7_undo_22 : decode cX7_undo 22 = .ok (.putfield 96, 3) := by decide +kernel
theorem dX7_undo_25 : decode cX7_undo 25 = .ok (.iconst 0, 1) := by decide +kernel
theorem dX7_undo_26 : decode cX7_undo 26 = .ok (.istore_n 1, 1) := by decide +kernel
theorem dX7_undo_27 : decode cX7_undo 27 = .ok (.iload_n 1, 1) := by decide +kernel
theorem dX7_undo_28 : decode cX7_undo 28 = .ok (.sipush 256, 3) := by decide +kernel
theorem dX7_undo_31 : decode cX7_undo 31 = .ok (.if_icmp .ge 30, 3) := by decide +kernel
theorem dX7_undo_34 : decode cX7_undo 34 = .ok (.aload_n 0, 1) := by decide +kernel
theorem dX7_undo_35 : decode cX7_undo 35 = .ok (.getfield 50, 3) := by decide +kernel
theorem dX7_undo_38 : decode cX7_undo 38 = .ok (.iload_n 1, 1) := by decide +kernel
theorem dX7_undo_39 : decode cX7_undo 39 = .ok (.aload_n 0, 1) := by decide +kernel
theorem dX7_undo_40 : decode cX7_undo 40 = .ok (.getfield 47, 3) := by decide +kernel
theorem dX7_undo_43 : decode cX7_undo 43 = .ok (.sipush 256, 3) := by decide +kernel
theorem dX7_undo_46 : decode cX7_undo 46 = .ok (.aload_n 0, 1) := by decide +kernel
theorem dX7_undo_47 : decode cX7_undo 47 = .ok (.getfield 96, 3) := by decide +kernel
theorem dX7_undo_50 : decode cX7_undo 50 = .ok (.imul, 1) := by decide +kernel
theorem dX7_undo_51 : decode cX7_undo 51 = .ok (.iload_n 1, 1) := by decide +kernel
theorem dX7_undo_52 : decode cX7_undo 52 = .ok (.iadd, 1) := by decide +kernel
theorem dX7_undo_53 : decode cX7_undo 53 = .ok (.iaload, 1) := by decide +kernel
theorem dX7_undo_54 : decode cX7_undo 54 = .ok (.iastore, 1) := by decide +kernel
theorem dX7_undo_55 : decode cX7_undo 55 = .ok (.iinc 1 1, 3) := by decide +kernel
theorem dX7_undo_58 : decode cX7_undo 58 = .ok (.goto (-31), 3) := by decide +kernel
theorem dX7_undo_61 : decode cX7_undo 61 = .ok (.aload_n 0, 1) := by decide +kernel
theorem dX7_undo_62 : decode cX7_undo 62 = .ok (.invokevirtual 194, 3) := by decide +kernel
theorem dX7_undo_65 : decode cX7_undo 65 = .ok (.ireturn, 1) := by decide +kernel
theorem dX7_share_0 : decode cX7_share 0 = .ok (.aload_n 0, 1) := by decide +kernel
theorem dX7_share_1 : decode cX7_share 1 = .ok (.aload_n 0, 1) := by decide +kernel
theorem dX7_share_2 : decode cX7_share 2 = .ok (.getfield 181, 3) := by decide +kernel
theorem dX7_share_5 : decode cX7_share 5 = .ok (.lconst 0, 1) := by decide +kernel
theorem dX7_share_6 : decode cX7_share 6 = .ok (.lcmp, 1) := by decide +kernel
theorem dX7_share_7 : decode cX7_share 7 = .ok (.ifCond .ne 7, 3) := by decide +kernel
theorem dX7_share_10 : decode cX7_share 10 = .ok (.iconst 1, 1) := by decide +kernel
theorem dX7_share_11 : decode cX7_share 11 = .ok (.goto 4, 3) := by decide +kernel
theorem dX7_share_14 : decode cX7_share 14 = .ok (.iconst 0, 1) := by decide +kernel
theorem dX7_share_15 : decode cX7_share 15 = .ok (.putfield 71, 3) := by decide +kernel
theorem dX7_share_18 : decode cX7_share 18 = .ok (.aload_n 0, 1) := by decide +kernel
theorem dX7_share_19 : decode cX7_share 19 = .ok (.getfield 71, 3) := by decide +kernel
theorem dX7_share_22 : decode cX7_share 22 = .ok (.ifCond .ne 16, 3) := by decide +kernel
theorem dX7_share_25 : decode cX7_share 25 = .ok (.aload_n 0, 1) := by decide +kernel
theorem dX7_share_26 : decode cX7_share 26 = .ok (.getfield 177, 3) := by decide +kernel
theorem dX7_share_29 : decode cX7_share 29 = .ok (.aload_n 0, 1) := by decide +kernel
theorem dX7_share_30 : decode cX7_share 30 = .ok (.getfield 181, 3) := by decide +kernel
theorem dX7_share_33 : decode cX7_share 33 = .ok (.ldiv, 1) := by decide +kernel
theorem dX7_share_34 : decode cX7_share 34 = .ok (.l2i, 1) := by decide +kernel
theorem dX7_share_35 : decode cX7_share 35 = .ok (.goto 4, 3) := by decide +kernel
theorem dX7_share_38 : decode cX7_share 38 = .ok (.iconst 0, 1) := by decide +kernel
theorem dX7_share_39 : decode cX7_share 39 = .ok (.ireturn, 1) := by decide +kernel
theorem dX7_count_0 : decode cX7_count 0 = .ok (.aload_n 0, 1) := by decide +kernel
theorem dX7_count_1 : decode cX7_count 1 = .ok (.iconst 0, 1) := by decide +kernel
theorem dX7_count_2 : decode cX7_count 2 = .ok (.putfield 71, 3) := by decide +kernel
theorem dX7_count_5 : decode cX7_count 5 = .ok (.iconst 0, 1) := by decide +kernel
theorem dX7_count_6 : decode cX7_count 6 = .ok (.istore_n 2, 1) := by decide +kernel
theorem dX7_count_7 : decode cX7_count 7 = .ok (.iconst 0, 1) := by decide +kernel
theorem dX7_count_8 : decode cX7_count 8 = .ok (.istore_n 3, 1) := by decide +kernel
theorem dX7_count_9 : decode cX7_count 9 = .ok (.iconst 0, 1) := by decide +kernel
theorem dX7_count_10 : decode cX7_count 10 = .ok (.istore 4, 2) := by decide +kernel
theorem dX7_count_12 : decode cX7_count 12 = .ok (.iload 4, 2) := by decide +kernel
theorem dX7_count_14 : decode cX7_count 14 = .ok (.aload_n 0, 1) := by decide +kernel
theorem dX7_count_15 : decode cX7_count 15 = .ok (.getfield 75, 3) := by decide +kernel
theorem dX7_count_18 : decode cX7_count 18 = .ok (.if_icmp .ge 46, 3) := by decide +kernel
theorem dX7_count_21 : decode cX7_count 21 = .ok (.iload_n 2, 1) := by decide +kernel
theorem dX7_count_22 : decode cX7_count 22 = .ok (.aload_n 0, 1) := by decide +kernel
theorem dX7_count_23 : decode cX7_count 23 = .ok (.getfield 16, 3) := by decide +kernel
theorem dX7_count_26 : decode cX7_count 26 = .ok (.iload 4, 2) := by decide +kernel
theorem dX7_count_28 : decode cX7_count 28 = .ok (.baload, 1) := by decide +kernel
theorem dX7_count_29 : decode cX7_count 29 = .ok (.ifCond .eq 7, 3) := by decide +kernel
theorem dX7_count_32 : decode cX7_count 32 = .ok (.iconst 1, 1) := by decide +kernel
theorem dX7_count_33 : decode cX7_count 33 = .ok (.goto 4, 3) := by decide +kernel
theorem dX7_count_36 : decode cX7_count 36 = .ok (.iconst 0, 1) := by decide +kernel
theorem dX7_count_37 : decode cX7_count 37 = .ok (.iadd, 1) := by decide +kernel
theorem dX7_count_38 : decode cX7_count 38 = .ok (.istore_n 2, 1) := by decide +kernel
theorem dX7_count_39 : decode cX7_count 39 = .ok (.iload_n 3, 1) := by decide +kernel
theorem dX7_count_40 : decode cX7_count 40 = .ok (.aload_n 0, 1) := by decide +kernel
theorem dX7_count_41 : decode cX7_count 41 = .ok (.getfield 29, 3) := by decide +kernel
theorem dX7_count_44 : decode cX7_count 44 = .ok (.iload 4, 2) := by decide +kernel
theorem dX7_count_46 : decode cX7_count 46 = .ok (.iaload, 1) := by decide +kernel
theorem dX7_count_47 : decode cX7_count 47 = .ok (.iconst 3, 1) := by decide +kernel
theorem dX7_count_48 : decode cX7_count 48 = .ok (.if_icmp .lt 7, 3) := by decide +kernel
theorem dX7_count_51 : decode cX7_count 51 = .ok (.iconst 1, 1) := by decide +kernel
theorem dX7_count_52 : decode cX7_count 52 = .ok (.goto 4, 3) := by decide +kernel
theorem dX7_count_55 : decode cX7_count 55 = .ok (.iconst 0, 1) := by decide +kernel
theorem dX7_count_56 : decode cX7_count 56 = .ok (.iadd, 1) := by decide +kernel
theorem dX7_count_57 : decode cX7_count 57 = .ok (.istore_n 3, 1) := by decide +kernel
theorem dX7_count_58 : decode cX7_count 58 = .ok (.iinc 4 1, 3) := by decide +kernel
theorem dX7_count_61 : decode cX7_count 61 = .ok (.goto (-49), 3) := by decide +kernel
theorem dX7_count_64 : decode cX7_count 64 = .ok (.iload_n 1, 1) := by decide +kernel
theorem dX7_count_65 : decode cX7_count 65 = .ok (.tableswitch 90 0 8 #[51, 56, 58, 63, 68, 73, 78, 83, 88], 51) := by decide +kernel
theorem dX7_count_116 : decode cX7_count 116 = .ok (.aload_n 0, 1) := by decide +kernel
theorem dX7_count_117 : decode cX7_count 117 = .ok (.getfield 75, 3) := by decide +kernel
theorem dX7_count_120 : decode cX7_count 120 = .ok (.ireturn, 1) := by decide +kernel
theorem dX7_count_121 : decode cX7_count 121 = .ok (.iload_n 2, 1) := by decide +kernel
theorem dX7_count_122 : decode cX7_count 122 = .ok (.ireturn, 1) := by decide +kernel
theorem dX7_count_123 : decode cX7_count 123 = .ok (.aload_n 0, 1) := by decide +kernel
theorem dX7_count_124 : decode cX7_count 124 = .ok (.getfield 185, 3) := by decide +kernel
theorem dX7_count_127 : decode cX7_count 127 = .ok (.ireturn, 1) := by decide +kernel
theorem dX7_count_128 : decode cX7_count 128 = .ok (.aload_n 0, 1) := by decide +kernel
theorem dX7_count_129 : decode cX7_count 129 = .ok (.getfield 96, 3) := by decide +kernel
theorem dX7_count_132 : decode cX7_count 132 = .ok (.ireturn, 1) := by decide +kernel
theorem dX7_count_133 : decode cX7_count 133 = .ok (.aload_n 0, 1) := by decide +kernel
theorem dX7_count_134 : decode cX7_count 134 = .ok (.getfield 85, 3) := by decide +kernel
theorem dX7_count_137 : decode cX7_count 137 = .ok (.ireturn, 1) := by decide +kernel
theorem dX7_count_138 : decode cX7_count 138 = .ok (.aload_n 0, 1) := by decide +kernel
theorem dX7_count_139 : decode cX7_count 139 = .ok (.getfield 124, 3) := by decide +kernel
theorem dX7_count_142 : decode cX7_count 142 = .ok (.ireturn, 1) := by decide +kernel
theorem dX7_count_143 : decode cX7_count 143 = .ok (.aload_n 0, 1) := by decide +kernel
theorem dX7_count_144 : decode cX7_count 144 = .ok (.getfield 82, 3) := by decide +kernel
theorem dX7_count_147 : decode cX7_count 147 = .ok (.ireturn, 1) := by decide +kernel
theorem dX7_count_148 : decode cX7_count 148 = .ok (.aload_n 0, 1) := by decide +kernel
theorem dX7_count_149 : decode cX7_count 149 = .ok (.getfield 191, 3) := by decide +kernel
theorem dX7_count_152 : decode cX7_count 152 = .ok (.ireturn, 1) := by decide +kernel
theorem dX7_count_153 : decode cX7_count 153 = .ok (.iload_n 3, 1) := by decide +kernel
theorem dX7_count_154 : decode cX7_count 154 = .ok (.ireturn, 1) := by decide +kernel
theorem dX7_count_155 : decode cX7_count 155 = .ok (.bipush (-2), 2) := by decide +kernel
theorem dX7_count_157 : decode cX7_count 157 = .ok (.ireturn, 1) := by decide +kernel
theorem dX7_clear_0 : decode cX7_clear 0 = .ok (.aload_n 0, 1) := by decide +kernel
theorem dX7_clear_1 : decode cX7_clear 1 = .ok (.iconst 0, 1) := by decide +kernel
theorem dX7_clear_2 : decode cX7_clear 2 = .ok (.putfield 71, 3) := by decide +kernel
theorem dX7_clear_5 : decode cX7_clear 5 = .ok (.aload_n 0, 1) := by decide +kernel
theorem dX7_clear_6 : decode cX7_clear 6 = .ok (.getfield 75, 3) := by decide +kernel
theorem dX7_clear_9 : decode cX7_clear 9 = .ok (.istore_n 1, 1) := by decide +kernel
theorem dX7_clear_10 : decode cX7_clear 10 = .ok (.aload_n 0, 1) := by decide +kernel
theorem dX7_clear_11 : decode cX7_clear 11 = .ok (.iconst 0, 1) := by decide +kernel
theorem dX7_clear_12 : decode cX7_clear 12 = .ok (.putfield 75, 3) := by decide +kernel
theorem dX7_clear_15 : decode cX7_clear 15 = .ok (.aload_n 0, 1) := by decide +kernel
theorem dX7_clear_16 : decode cX7_clear 16 = .ok (.iconst 0, 1) := by decide +kernel
theorem dX7_clear_17 : decode cX7_clear 17 = .ok (.putfield 185, 3) := by decide +kernel
theorem dX7_clear_20 : decode cX7_clear 20 = .ok (.aload_n 0, 1) := by decide +kernel
theorem dX7_clear_21 : decode cX7_clear 21 = .ok (.iconst 0, 1) := by decide +kernel
theorem dX7_clear_22 : decode cX7_clear 22 = .ok (.putfield 96, 3) := by decide +kernel
theorem dX7_clear_25 : decode cX7_clear 25 = .ok (.aload_n 0, 1) := by decide +kernel
theorem dX7_clear_26 : decode cX7_clear 26 = .ok (.iconst 0, 1) := by decide +kernel
theorem dX7_clear_27 : decode cX7_clear 27 = .ok (.putfield 85, 3) := by decide +kernel
theorem dX7_clear_30 : decode cX7_clear 30 = .ok (.aload_n 0, 1) := by decide +kernel
theorem dX7_clear_31 : decode cX7_clear 31 = .ok (.iconst 0, 1) := by decide +kernel
theorem dX7_clear_32 : decode cX7_clear 32 = .ok (.putfield 124, 3) := by decide +kernel
theorem dX7_clear_35 : decode cX7_clear 35 = .ok (.aload_n 0, 1) := by decide +kernel
theorem dX7_clear_36 : decode cX7_clear 36 = .ok (.iconst 0, 1) := by decide +kernel
theorem dX7_clear_37 : decode cX7_clear 37 = .ok (.putfield 82, 3) := by decide +kernel
theorem dX7_clear_40 : decode cX7_clear 40 = .ok (.aload_n 0, 1) := by decide +kernel
theorem dX7_clear_41 : decode cX7_clear 41 = .ok (.iconst 0, 1) := by decide +kernel
theorem dX7_clear_42 : decode cX7_clear 42 = .ok (.putfield 191, 3) := by decide +kernel
theorem dX7_clear_45 : decode cX7_clear 45 = .ok (.aload_n 0, 1) := by decide +kernel
theorem dX7_clear_46 : decode cX7_clear 46 = .ok (.lconst 0, 1) := by decide +kernel
theorem dX7_clear_47 : decode cX7_clear 47 = .ok (.putfield 177, 3) := by decide +kernel
theorem dX7_clear_50 : decode cX7_clear 50 = .ok (.aload_n 0, 1) := by decide +kernel
theorem dX7_clear_51 : decode cX7_clear 51 = .ok (.lconst 0, 1) := by decide +kernel
theorem dX7_clear_52 : decode cX7_clear 52 = .ok (.putfield 181, 3) := by decide +kernel
theorem dX7_clear_55 : decode cX7_clear 55 = .ok (.iconst 0, 1) := by decide +kernel
theorem dX7_clear_56 : decode cX7_clear 56 = .ok (.istore_n 2, 1) := by decide +kernel
theorem dX7_clear_57 : decode cX7_clear 57 = .ok (.iload_n 2, 1) := by decide +kernel
theorem dX7_clear_58 : decode cX7_clear 58 = .ok (.sipush 256, 3) := by decide +kernel
theorem dX7_clear_61 : decode cX7_clear 61 = .ok (.if_icmp .ge 16, 3) := by decide +kernel
theorem dX7_clear_64 : decode cX7_clear 64 = .ok (.aload_n 0, 1) := by decide +kernel
theorem dX7_clear_65 : decode cX7_clear 65 = .ok (.getfield 7, 3) := by decide +kernel
theorem dX7_clear_68 : decode cX7_clear 68 = .ok (.iload_n 2, 1) := by decide +kernel
theorem dX7_clear_69 : decode cX7_clear 69 = .ok (.iconst 0, 1) := by decide +kernel
theorem dX7_clear_70 : decode cX7_clear 70 = .ok (.iastore, 1) := by decide +kernel
theorem dX7_clear_71 : decode cX7_clear 71 = .ok (.iinc 2 1, 3) := by decide +kernel
theorem dX7_clear_74 : decode cX7_clear 74 = .ok (.goto (-17), 3) := by decide +kernel
theorem dX7_clear_77 : decode cX7_clear 77 = .ok (.iconst 0, 1) := by decide +kernel
theorem dX7_clear_78 : decode cX7_clear 78 = .ok (.istore_n 2, 1) := by decide +kernel
theorem dX7_clear_79 : decode cX7_clear 79 = .ok (.iload_n 2, 1) := by decide +kernel
theorem dX7_clear_80 : decode cX7_clear 80 = .ok (.bipush 9, 2) := by decide +kernel
theorem dX7_clear_82 : decode cX7_clear 82 = .ok (.if_icmp .ge 16, 3) := by decide +kernel
theorem dX7_clear_85 : decode cX7_clear 85 = .ok (.aload_n 0, 1) := by decide +kernel
theorem dX7_clear_86 : decode cX7_clear 86 = .ok (.getfield 53, 3) := by decide +kernel
theorem dX7_clear_89 : decode cX7_clear 89 = .ok (.iload_n 2, 1) := by decide +kernel
theorem dX7_clear_90 : decode cX7_clear 90 = .ok (.iconst 0, 1) := by decide +kernel
theorem dX7_clear_91 : decode cX7_clear 91 = .ok (.iastore, 1) := by decide +kernel
theorem dX7_clear_92 : decode cX7_clear 92 = .ok (.iinc 2 1, 3) := by decide +kernel
theorem dX7_clear_95 : decode cX7_clear 95 = .ok (.goto (-16), 3) := by decide +kernel
theorem dX7_clear_98 : decode cX7_clear 98 = .ok (.iload_n 1, 1) := by decide +kernel
theorem dX7_clear_99 : decode cX7_clear 99 = .ok (.ireturn, 1) := by decide +kernel
