theorem dX6_init_0 : decode cX6_init 0 = .ok (.aload_n 0, 1) := by decide +kernel
theorem dX6_init_1 : decode cX6_init 1 = .ok (.invokespecial 1, 3) := by decide +kernel
theorem dX6_init_4 : decode cX6_init 4 = .ok (.aload_n 0, 1) := by decide +kernel
theorem dX6_init_5 : decode cX6_init 5 = .ok (.new 7, 3) := by decide +kernel
theorem dX6_init_8 : decode cX6_init 8 = .ok (.dup, 1) := by decide +kernel
theorem dX6_init_9 : decode cX6_init 9 = .ok (.invokespecial 9, 3) := by decide +kernel
theorem dX6_init_12 : decode cX6_init 12 = .ok (.putfield 10, 3) := by decide +kernel
theorem dX6_init_15 : decode cX6_init 15 = .ok (.aload_n 0, 1) := by decide +kernel
theorem dX6_init_16 : decode cX6_init 16 = .ok (.new 16, 3) := by decide +kernel
theorem dX6_init_19 : decode cX6_init 19 = .ok (.dup, 1) := by decide +kernel
theorem dX6_init_20 : decode cX6_init 20 = .ok (.aload_n 0, 1) := by decide +kernel
theorem dX6_init_21 : decode cX6_init 21 = .ok (.getfield 10, 3) := by decide +kernel
theorem dX6_init_24 : decode cX6_init 24 = .ok (.invokespecial 18, 3) := by decide +kernel
theorem dX6_init_27 : decode cX6_init 27 = .ok (.putfield 21, 3) := by decide +kernel
theorem dX6_init_30 : decode cX6_init 30 = .ok (.aload_n 0, 1) := by decide +kernel
theorem dX6_init_31 : decode cX6_init 31 = .ok (.bipush 10, 2) := by decide +kernel
theorem dX6_init_33 : decode cX6_init 33 = .ok (.anewarray 25, 3) := by decide +kernel
theorem dX6_init_36 : decode cX6_init 36 = .ok (.putfield 27, 3) := by decide +kernel
theorem dX6_init_39 : decode cX6_init 39 = .ok (.aload_n 0, 1) := by decide +kernel
theorem dX6_init_40 : decode cX6_init 40 = .ok (.new 31, 3) := by decide +kernel
theorem dX6_init_43 : decode cX6_init 43 = .ok (.dup, 1) := by decide +kernel
theorem dX6_init_44 : decode cX6_init 44 = .ok (.invokespecial 33, 3) := by decide +kernel
theorem dX6_init_47 : decode cX6_init 47 = .ok (.putfield 34, 3) := by decide +kernel
theorem dX6_init_50 : decode cX6_init 50 = .ok (.aload_n 0, 1) := by decide +kernel
theorem dX6_init_51 : decode cX6_init 51 = .ok (.iconst 4, 1) := by decide +kernel
theorem dX6_init_52 : decode cX6_init 52 = .ok (.sipush 256, 3) := by decide +kernel
theorem dX6_init_55 : decode cX6_init 55 = .ok (.multianewarray 38 2, 4) := by decide +kernel
theorem dX6_init_59 : decode cX6_init 59 = .ok (.putfield 40, 3) := by decide +kernel
theorem dX6_init_62 : decode cX6_init 62 = .ok (.aload_n 0, 1) := by decide +kernel
theorem dX6_init_63 : decode cX6_init 63 = .ok (.new 43, 3) := by decide +kernel
theorem dX6_init_66 : decode cX6_init 66 = .ok (.dup, 1) := by decide +kernel
theorem dX6_init_67 : decode cX6_init 67 = .ok (.invokespecial 45, 3) := by decide +kernel
theorem dX6_init_70 : decode cX6_init 70 = .ok (.putfield 46, 3) := by decide +kernel
theorem dX6_init_73 : decode cX6_init 73 = .ok (.iconst 0, 1) := by decide +kernel
theorem dX6_init_74 : decode cX6_init 74 = .ok (.istore_n 1, 1) := by decide +kernel
theorem dX6_init_75 : decode cX6_init 75 = .ok (.iload_n 1, 1) := by decide +kernel
theorem dX6_init_76 : decode cX6_init 76 = .ok (.bipush 10, 2) := by decide +kernel
theorem dX6_init_78 : decode cX6_init 78 = .ok (.if_icmp .ge 22, 3) := by decide +kernel
theorem dX6_init_81 : decode cX6_init 81 = .ok (.aload_n 0, 1) := by decide +kernel
theorem dX6_init_82 : decode cX6_init 82 = .ok (.getfield 27, 3) := by decide +kernel
theorem dX6_init_85 : decode cX6_init 85 = .ok (.iload_n 1, 1) := by decide +kernel
theorem dX6_init_86 : decode cX6_init 86 = .ok (.new 25, 3) := by decide +kernel
theorem dX6_init_89 : decode cX6_init 89 = .ok (.dup, 1) := by decide +kernel
theorem dX6_init_90 : decode cX6_init 90 = .ok (.invokespecial 50, 3) := by decide +kernel
theorem dX6_init_93 : decode cX6_init 93 = .ok (.aastore, 1) := by decide +kernel
theorem dX6_init_94 : decode cX6_init 94 = .ok (.iinc 1 1, 3) := by decide +kernel
theorem dX6_init_97 : decode cX6_init 97 = .ok (.goto (-22), 3) := by decide +kernel
theorem dX6_init_100 : decode cX6_init 100 = .ok (.aload_n 0, 1) := by decide +kernel
theorem dX6_init_101 : decode cX6_init 101 = .ok (.new 51, 3) := by decide +kernel
theorem dX6_init_104 : decode cX6_init 104 = .ok (.dup, 1) := by decide +kernel
theorem dX6_init_105 : decode cX6_init 105 = .ok (.aload_n 0, 1) := by decide +kernel
theorem dX6_init_106 : decode cX6_init 106 = .ok (.getfield 21, 3) := by decide +kernel
theorem dX6_init_109 : decode cX6_init 109 = .ok (.aload_n 0, 1) := by decide +kernel
theorem dX6_init_110 : decode cX6_init 110 = .ok (.getfield 27, 3) := by decide +kernel
theorem dX6_init_113 : decode cX6_init 113 = .ok (.invokespecial 53, 3) := by decide +kernel
theorem dX6_init_116 : decode cX6_init 116 = .ok (.putfield 56, 3) := by decide +kernel
theorem dX6_init_119 : decode cX6_init 119 = .ok (.aload_n 0, 1) := by decide +kernel
theorem dX6_init_120 : decode cX6_init 120 = .ok (.new 51, 3) := by decide +kernel
theorem dX6_init_123 : decode cX6_init 123 = .ok (.dup, 1) := by decide +kernel
theorem dX6_init_124 : decode cX6_init 124 = .ok (.new 16, 3) := by decide +kernel
theorem dX6_init_127 : decode cX6_init 127 = .ok (.dup, 1) := by decide +kernel
theorem dX6_init_128 : decode cX6_init 128 = .ok (.aload_n 0, 1) := by decide +kernel
theorem dX6_init_129 : decode cX6_init 129 = .ok (.getfield 10, 3) := by decide +kernel
theorem dX6_init_132 : decode cX6_init 132 = .ok (.invokespecial 18, 3) := by decide +kernel
theorem dX6_init_135 : decode cX6_init 135 = .ok (.aload_n 0, 1) := by decide +kernel
theorem dX6_init_136 : decode cX6_init 136 = .ok (.getfield 27, 3) := by decide +kernel
theorem dX6_init_139 : decode cX6_init 139 = .ok (.invokespecial 53, 3) := by decide +kernel
theorem dX6_init_142 : decode cX6_init 142 = .ok (.putfield 60, 3) := by decide +kernel
theorem dX6_init_145 : decode cX6_init 145 = .ok (.aload_n 0, 1) := by decide +kernel
theorem dX6_init_146 : decode cX6_init 146 = .ok (.new 51, 3) := by decide +kernel
theorem dX6_init_149 : decode cX6_init 149 = .ok (.dup, 1) := by decide +kernel
theorem dX6_init_150 : decode cX6_init 150 = .ok (.new 16, 3) := by decide +kernel
theorem dX6_init_153 : decode cX6_init 153 = .ok (.dup, 1) := by decide +kernel
theorem dX6_init_154 : decode cX6_init 154 = .ok (.aload_n 0, 1) := by decide +kernel
theorem dX6_init_155 : decode cX6_init 155 = .ok (.getfield 10, 3) := by decide +kernel
theorem dX6_init_158 : decode cX6_init 158 = .ok (.invokespecial 18, 3) := by decide +kernel
theorem dX6_init_161 : decode cX6_init 161 = .ok (.aload_n 0, 1) := by decide +kernel
theorem dX6_init_162 : decode cX6_init 162 = .ok (.getfield 27, 3) := by decide +kernel
theorem dX6_init_165 : decode cX6_init 165 = .ok (.invokespecial 53, 3) := by decide +kernel
theorem dX6_init_168 : decode cX6_init 168 = .ok (.putfield 63, 3) := by decide +kernel
theorem dX6_init_171 : decode cX6_init 171 = .ok (.return_, 1) := by decide +kernel
theorem dX6_put_0 : decode cX6_put 0 = .ok (.iload_n 1, 1) := by decide +kernel
theorem dX6_put_1 : decode cX6_put 1 = .ok (.invokestatic 66, 3) := by decide +kernel
theorem dX6_put_4 : decode cX6_put 4 = .ok (.ifCond .ne 16, 3) := by decide +kernel
theorem dX6_put_7 : decode cX6_put 7 = .ok (.iload 4, 2) := by decide +kernel
theorem dX6_put_9 : decode cX6_put 9 = .ok (.iconst 1, 1) := by decide +kernel
theorem dX6_put_10 : decode cX6_put 10 = .ok (.if_icmp .lt 10, 3) := by decide +kernel
theorem dX6_put_13 : decode cX6_put 13 = .ok (.iload 4, 2) := by decide +kernel
theorem dX6_put_15 : decode cX6_put 15 = .ok (.bipush 8, 2) := by decide +kernel
theorem dX6_put_17 : decode cX6_put 17 = .ok (.if_icmp .le 6, 3) := by decide +kernel
theorem dX6_put_20 : decode cX6_put 20 = .ok (.bipush (-2), 2) := by decide +kernel
theorem dX6_put_22 : decode cX6_put 22 = .ok (.ireturn, 1) := by decide +kernel
theorem dX6_put_23 : decode cX6_put 23 = .ok (.aload_n 0, 1) := by decide +kernel
theorem dX6_put_24 : decode cX6_put 24 = .ok (.invokevirtual 70, 3) := by decide +kernel
theorem dX6_put_27 : decode cX6_put 27 = .ok (.iconst 0, 1) := by decide +kernel
theorem dX6_put_28 : decode cX6_put 28 = .ok (.istore 5, 2) := by decide +kernel
theorem dX6_put_30 : decode cX6_put 30 = .ok (.iload 5, 2) := by decide +kernel
theorem dX6_put_32 : decode cX6_put 32 = .ok (.iload 4, 2) := by decide +kernel
theorem dX6_put_34 : decode cX6_put 34 = .ok (.if_icmp .ge 37, 3) := by decide +kernel
theorem dX6_put_37 : decode cX6_put 37 = .ok (.aload_n 0, 1) := by decide +kernel
theorem dX6_put_38 : decode cX6_put 38 = .ok (.getfield 21, 3) := by decide +kernel
theorem dX6_put_41 : decode cX6_put 41 = .ok (.iload_n 1, 1) := by decide +kernel
theorem dX6_put_42 : decode cX6_put 42 = .ok (.iload 5, 2) := by decide +kernel
theorem dX6_put_44 : decode cX6_put 44 = .ok (.iadd, 1) := by decide +kernel
theorem dX6_put_45 : decode cX6_put 45 = .ok (.lload_n 2, 1) := by decide +kernel
theorem dX6_put_46 : decode cX6_put 46 = .ok (.bipush 8, 2) := by decide +kernel
theorem dX6_put_48 : decode cX6_put 48 = .ok (.iload 4, 2) := by decide +kernel
theorem dX6_put_50 : decode cX6_put 50 = .ok (.iconst 1, 1) := by decide +kernel
theorem dX6_put_51 : decode cX6_put 51 = .ok (.isub, 1) := by decide +kernel
theorem dX6_put_52 : decode cX6_put 52 = .ok (.iload 5, 2) := by decide +kernel
theorem dX6_put_54 : decode cX6_put 54 = .ok (.isub, 1) := by decide +kernel
theorem dX6_put_55 : decode cX6_put 55 = .ok (.imul, 1) := by decide +kernel
theorem dX6_put_56 : decode cX6_put 56 = .ok (.lushr, 1) := by decide +kernel
theorem dX6_put_57 : decode cX6_put 57 = .ok (.l2i, 1) := by decide +kernel
theorem dX6_put_58 : decode cX6_put 58 = .ok (.sipush 255, 3) := by decide +kernel
theorem dX6_put_61 : decode cX6_put 61 = .ok (.iand, 1) := by decide +kernel
theorem dX6_put_62 : decode cX6_put 62 = .ok (.invokevirtual 73, 3) := by decide +kernel
theorem dX6_put_65 : decode cX6_put 65 = .ok (.iinc 5 1, 3) := by decide +kernel
theorem dX6_put_68 : decode cX6_put 68 = .ok (.goto (-38), 3) := by decide +kernel
theorem dX6_put_71 : decode cX6_put 71 = .ok (.aload_n 0, 1) := by decide +kernel
theorem dX6_put_72 : decode cX6_put 72 = .ok (.invokevirtual 77, 3) := by decide +kernel
theorem dX6_put_75 : decode cX6_put 75 = .ok (.ireturn, 1) := by decide +kernel
theorem dX6_write_0 : decode cX6_write 0 = .ok (.iload_n 1, 1) := by decide +kernel
theorem dX6_write_1 : decode cX6_write 1 = .ok (.invokestatic 66, 3) := by decide +kernel
theorem dX6_write_4 : decode cX6_write 4 = .ok (.ifCond .ne 14, 3) := by decide +kernel
theorem dX6_write_7 : decode cX6_write 7 = .ok (.iload_n 2, 1) := by decide +kernel
theorem dX6_write_8 : decode cX6_write 8 = .ok (.ifCond .lt 10, 3) := by decide +kernel
theorem dX6_write_11 : decode cX6_write 11 = .ok (.iload_n 2, 1) := by decide +kernel
theorem dX6_write_12 : decode cX6_write 12 = .ok (.sipush 255, 3) := by decide +kernel
theorem dX6_write_15 : decode cX6_write 15 = .ok (.if_icmp .le 6, 3) := by decide +kernel
theorem dX6_write_18 : decode cX6_write 18 = .ok (.bipush (-2), 2) := by decide +kernel
theorem dX6_write_20 : decode cX6_write 20 = .ok (.ireturn, 1) := by decide +kernel
theorem dX6_write_21 : decode cX6_write 21 = .ok (.aload_n 0, 1) := by decide +kernel
theorem dX6_write_22 : decode cX6_write 22 = .ok (.invokevirtual 70, 3) := by decide +kernel
theorem dX6_write_25 : decode cX6_write 25 = .ok (.aload_n 0, 1) := by decide +kernel
theorem dX6_write_26 : decode cX6_write 26 = .ok (.getfield 21, 3) := by decide +kernel
theorem dX6_write_29 : decode cX6_write 29 = .ok (.iload_n 1, 1) := by decide +kernel
theorem dX6_write_30 : decode cX6_write 30 = .ok (.iload_n 2, 1) := by decide +kernel
theorem dX6_write_31 : decode cX6_write 31 = .ok (.invokevirtual 73, 3) := by decide +kernel
theorem dX6_write_34 : decode cX6_write 34 = .ok (.aload_n 0, 1) := by decide +kernel
theorem dX6_write_35 : decode cX6_write 35 = .ok (.invokevirtual 77, 3) := by decide +kernel
theorem dX6_write_38 : decode cX6_write 38 = .ok (.ireturn, 1) := by decide +kernel
theorem dX6_read_0 : decode cX6_read 0 = .ok (.iload_n 1, 1) := by decide +kernel
theorem dX6_read_1 : decode cX6_read 1 = .ok (.invokestatic 66, 3) := by decide +kernel
theorem dX6_read_4 : decode cX6_read 4 = .ok (.ifCond .eq 13, 3) := by decide +kernel
theorem dX6_read_7 : decode cX6_read 7 = .ok (.new 81, 3) := by decide +kernel
theorem dX6_read_10 : decode cX6_read 10 = .ok (.dup, 1) := by decide +kernel
theorem dX6_read_11 : decode cX6_read 11 = .ok (.ldc 83, 2) := by decide +kernel
theorem dX6_read_13 : decode cX6_read 13 = .ok (.invokespecial 85, 3) := by decide +kernel
theorem dX6_read_16 : decode cX6_read 16 = .ok (.athrow, 1) := by decide +kernel
theorem dX6_read_17 : decode cX6_read 17 = .ok (.aload_n 0, 1) := by decide +kernel
theorem dX6_read_18 : decode cX6_read 18 = .ok (.getfield 21, 3) := by decide +kernel
theorem dX6_read_21 : decode cX6_read 21 = .ok (.getfield 88, 3) := by decide +kernel
theorem dX6_read_24 : decode cX6_read 24 = .ok (.iload_n 1, 1) := by decide +kernel
theorem dX6_read_25 : decode cX6_read 25 = .ok (.iaload, 1) := by decide +kernel
theorem dX6_read_26 : decode cX6_read 26 = .ok (.ireturn, 1) := by decide +kernel
theorem dX6_routine_0 : decode cX6_routine 0 = .ok (.iload_n 1, 1) := by decide +kernel
theorem dX6_routine_1 : decode cX6_routine 1 = .ok (.invokestatic 66, 3) := by decide +kernel
theorem dX6_routine_4 : decode cX6_routine 4 = .ok (.ifCond .eq 6, 3) := by decide +kernel
theorem dX6_routine_7 : decode cX6_routine 7 = .ok (.bipush (-2), 2) := by decide +kernel
theorem dX6_routine_9 : decode cX6_routine 9 = .ok (.ireturn, 1) := by decide +kernel
theorem dX6_routine_10 : decode cX6_routine 10 = .ok (.aload_n 0, 1) := by decide +kernel
theorem dX6_routine_11 : decode cX6_routine 11 = .ok (.getfield 92, 3) := by decide +kernel
theorem dX6_routine_14 : decode cX6_routine 14 = .ok (.bipush 10, 2) := by decide +kernel
theorem dX6_routine_16 : decode cX6_routine 16 = .ok (.if_icmp .lt 6, 3) := by decide +kernel
theorem dX6_routine_19 : decode cX6_routine 19 = .ok (.bipush (-4), 2) := by decide +kernel
theorem dX6_routine_21 : decode cX6_routine 21 = .ok (.ireturn, 1) := by decide +kernel
theorem dX6_routine_22 : decode cX6_routine 22 = .ok (.aload_n 0, 1) := by decide +kernel
theorem dX6_routine_23 : decode cX6_routine 23 = .ok (.getfield 27, 3) := by decide +kernel
theorem dX6_routine_26 : decode cX6_routine 26 = .ok (.aload_n 0, 1) := by decide +kernel
theorem dX6_routine_27 : decode cX6_routine 27 = .ok (.getfield 92, 3) := by decide +kernel
theorem dX6_routine_30 : decode cX6_routine 30 = .ok (.aaload, 1) := by decide +kernel
theorem dX6_routine_31 : decode cX6_routine 31 = .ok (.iload_n 1, 1) := by decide +kernel
theorem dX6_routine_32 : decode cX6_routine 32 = .ok (.invokevirtual 96, 3) := by decide +kernel
theorem dX6_routine_35 : decode cX6_routine 35 = .ok (.aload_n 0, 1) := by decide +kernel
theorem dX6_routine_36 : decode cX6_routine 36 = .ok (.dup, 1) := by decide +kernel
theorem dX6_routine_37 : decode cX6_routine 37 = .ok (.getfield 92, 3) := by decide +kernel
theorem dX6_routine_40 : decode cX6_routine 40 = .ok (.iconst 1, 1) := by decide +kernel
theorem dX6_routine_41 : decode cX6_routine 41 = .ok (.iadd, 1) := by decide +kernel
theorem dX6_routine_42 : decode cX6_routine 42 = .ok (.putfield 92, 3) := by decide +kernel
theorem dX6_routine_45 : decode cX6_routine 45 = .ok (.aload_n 0, 1) := by decide +kernel
theorem dX6_routine_46 : decode cX6_routine 46 = .ok (.getfield 92, 3) := by decide +kernel
theorem dX6_routine_49 : decode cX6_routine 49 = .ok (.iconst 1, 1) := by decide +kernel
theorem dX6_routine_50 : decode cX6_routine 50 = .ok (.isub, 1) := by decide +kernel
theorem dX6_routine_51 : decode cX6_routine 51 = .ok (.ireturn, 1) := by decide +kernel
theorem dX6_make_0 : decode cX6_make 0 = .ok (.iconst 0, 1) := by decide +kernel
theorem dX6_make_1 : decode cX6_make 1 = .ok (.istore_n 1, 1) := by decide +kernel
theorem dX6_make_2 : decode cX6_make 2 = .ok (.iconst 0, 1) := by decide +kernel
theorem dX6_make_3 : decode cX6_make 3 = .ok (.istore_n 2, 1) := by decide +kernel
theorem dX6_make_4 : decode cX6_make 4 = .ok (.iload_n 2, 1) := by decide +kernel
theorem dX6_make_5 : decode cX6_make 5 = .ok (.aload_n 0, 1) := by decide +kernel
theorem dX6_make_6 : decode cX6_make 6 = .ok (.getfield 92, 3) := by decide +kernel
theorem dX6_make_9 : decode cX6_make 9 = .ok (.if_icmp .ge 63, 3) := by decide +kernel
theorem dX6_make_12 : decode cX6_make 12 = .ok (.aload_n 0, 1) := by decide +kernel
theorem dX6_make_13 : decode cX6_make 13 = .ok (.getfield 27, 3) := by decide +kernel
theorem dX6_make_16 : decode cX6_make 16 = .ok (.iload_n 2, 1) := by decide +kernel
theorem dX6_make_17 : decode cX6_make 17 = .ok (.aaload, 1) := by decide +kernel
theorem dX6_make_18 : decode cX6_make 18 = .ok (.astore_n 3, 1) := by decide +kernel
theorem dX6_make_19 : decode cX6_make 19 = .ok (.aload_n 0, 1) := by decide +kernel
theorem dX6_make_20 : decode cX6_make 20 = .ok (.getfield 21, 3) := by decide +kernel
theorem dX6_make_23 : decode cX6_make 23 = .ok (.iload_n 2, 1) := by decide +kernel
theorem dX6_make_24 : decode cX6_make 24 = .ok (.invokevirtual 100, 3) := by decide +kernel
theorem dX6_make_27 : decode cX6_make 27 = .ok (.ifCond .ne 39, 3) := by decide +kernel
theorem dX6_make_30 : decode cX6_make 30 = .ok (.aload_n 3, 1) := by decide +kernel
theorem dX6_make_31 : decode cX6_make 31 = .ok (.invokevirtual 103, 3) := by decide +kernel
theorem dX6_make_34 : decode cX6_make 34 = .ok (.ifCond .ne 32, 3) := by decide +kernel
theorem dX6_make_37 : decode cX6_make 37 = .ok (.aload_n 3, 1) := by decide +kernel
theorem dX6_make_38 : decode cX6_make 38 = .ok (.getfield 107, 3) := by decide +kernel
theorem dX6_make_41 : decode cX6_make 41 = .ok (.aload_n 0, 1) := by decide +kernel
theorem dX6_make_42 : decode cX6_make 42 = .ok (.getfield 21, 3) := by decide +kernel
theorem dX6_make_45 : decode cX6_make 45 = .ok (.getfield 88, 3) := by decide +kernel
theorem dX6_make_48 : decode cX6_make 48 = .ok (.aload_n 3, 1) := by decide +kernel
theorem dX6_make_49 : decode cX6_make 49 = .ok (.getfield 110, 3) := by decide +kernel
theorem dX6_make_52 : decode cX6_make 52 = .ok (.invokevirtual 113, 3) := by decide +kernel
theorem dX6_make_55 : decode cX6_make 55 = .ok (.ifCond .eq 11, 3) := by decide +kernel
theorem dX6_make_58 : decode cX6_make 58 = .ok (.aload_n 0, 1) := by decide +kernel
theorem dX6_make_59 : decode cX6_make 59 = .ok (.iload_n 2, 1) := by decide +kernel
theorem dX6_make_60 : decode cX6_make 60 = .ok (.invokevirtual 117, 3) := by decide +kernel
theorem dX6_make_63 : decode cX6_make 63 = .ok (.iinc 1 1, 3) := by decide +kernel
theorem dX6_make_66 : decode cX6_make 66 = .ok (.iinc 2 1, 3) := by decide +kernel
theorem dX6_make_69 : decode cX6_make 69 = .ok (.goto (-65), 3) := by decide +kernel
theorem dX6_make_72 : decode cX6_make 72 = .ok (.aload_n 0, 1) := by decide +kernel
theorem dX6_make_73 : decode cX6_make 73 = .ok (.dup, 1) := by decide +kernel
theorem dX6_make_74 : decode cX6_make 74 = .ok (.getfield 120, 3) := by decide +kernel
theorem dX6_make_77 : decode cX6_make 77 = .ok (.iload_n 1, 1) := by decide +kernel
theorem dX6_make_78 : decode cX6_make 78 = .ok (.iadd, 1) := by decide +kernel
theorem dX6_make_79 : decode cX6_make 79 = .ok (.putfield 120, 3) := by decide +kernel
theorem dX6_make_82 : decode cX6_make 82 = .ok (.iload_n 1, 1) := by decide +kernel
theorem dX6_make_83 : decode cX6_make 83 = .ok (.ireturn, 1) := by decide +kernel
theorem dX6_member_0 : decode cX6_member 0 = .ok (.aload_n 0, 1) := by decide +kernel
theorem dX6_member_1 : decode cX6_member 1 = .ok (.iload_n 1, 1) := by decide +kernel
theorem dX6_member_2 : decode cX6_member 2 = .ok (.invokevirtual 123, 3) := by decide +kernel
theorem dX6_member_5 : decode cX6_member 5 = .ok (.ifCond .eq 5, 3) := by decide +kernel
theorem dX6_member_8 : decode cX6_member 8 = .ok (.iconst (-1), 1) := by decide +kernel
theorem dX6_member_9 : decode cX6_member 9 = .ok (.ireturn, 1) := by decide +kernel
theorem dX6_member_10 : decode cX6_member 10 = .ok (.aload_n 0, 1) := by decide +kernel
theorem dX6_member_11 : decode cX6_member 11 = .ok (.getfield 27, 3) := by decide +kernel
theorem dX6_member_14 : decode cX6_member 14 = .ok (.iload_n 1, 1) := by decide +kernel
theorem dX6_member_15 : decode cX6_member 15 = .ok (.aaload, 1) := by decide +kernel
theorem dX6_member_16 : decode cX6_member 16 = .ok (.astore_n 3, 1) := by decide +kernel
theorem dX6_member_17 : decode cX6_member 17 = .ok (.aload_n 0, 1) := by decide +kernel
theorem dX6_member_18 : decode cX6_member 18 = .ok (.getfield 21, 3) := by decide +kernel
theorem dX6_member_21 : decode cX6_member 21 = .ok (.iload_n 1, 1) := by decide +kernel
theorem dX6_member_22 : decode cX6_member 22 = .ok (.invokevirtual 100, 3) := by decide +kernel
theorem dX6_member_25 : decode cX6_member 25 = .ok (.istore 4, 2) := by decide +kernel
theorem dX6_member_27 : decode cX6_member 27 = .ok (.iload_n 2, 1) := by decide +kernel
theorem dX6_member_28 : decode cX6_member 28 = .ok (.tableswitch 125 0 6 #[44, 55, 72, 89, 94, 107, 120], 44) := by decide +kernel
theorem dX6_member_72 : decode cX6_member 72 = .ok (.iload 4, 2) := by decide +kernel
theorem dX6_member_74 : decode cX6_member 74 = .ok (.ifCond .eq 7, 3) := by decide +kernel
theorem dX6_member_77 : decode cX6_member 77 = .ok (.iconst 1, 1) := by decide +kernel
theorem dX6_member_78 : decode cX6_member 78 = .ok (.goto 4, 3) := by decide +kernel
theorem dX6_member_81 : decode cX6_member 81 = .ok (.iconst 0, 1) := by decide +kernel
theorem dX6_member_82 : decode cX6_member 82 = .ok (.ireturn, 1) := by decide +kernel
theorem dX6_member_83 : decode cX6_member 83 = .ok (.iload 4, 2) := by decide +kernel
theorem dX6_member_85 : decode cX6_member 85 = .ok (.ifCond .eq 13, 3) := by decide +kernel
theorem dX6_member_88 : decode cX6_member 88 = .ok (.aload_n 3, 1) := by decide +kernel
theorem dX6_member_89 : decode cX6_member 89 = .ok (.getfield 107, 3) := by decide +kernel
theorem dX6_member_92 : decode cX6_member 92 = .ok (.getfield 126, 3) := by decide +kernel
theorem dX6_member_95 : decode cX6_member 95 = .ok (.goto 4, 3) := by decide +kernel
theorem dX6_member_98 : decode cX6_member 98 = .ok (.iconst 0, 1) := by decide +kernel
theorem dX6_member_99 : decode cX6_member 99 = .ok (.ireturn, 1) := by decide +kernel
theorem dX6_member_100 : decode cX6_member 100 = .ok (.iload 4, 2) := by decide +kernel
theorem dX6_member_102 : decode cX6_member 102 = .ok (.ifCond .eq 13, 3) := by decide +kernel
theorem dX6_member_105 : decode cX6_member 105 = .ok (.aload_n 3, 1) := by decide +kernel
theorem dX6_member_106 : decode cX6_member 106 = .ok (.getfield 107, 3) := by decide +kernel
theorem dX6_member_109 : decode cX6_member 109 = .ok (.invokevirtual 129, 3) := by decide +kernel
theorem dX6_member_112 : decode cX6_member 112 = .ok (.goto 4, 3) := by decide +kernel
theorem dX6_member_115 : decode cX6_member 115 = .ok (.iconst 0, 1) := by decide +kernel
theorem dX6_member_116 : decode cX6_member 116 = .ok (.ireturn, 1) := by decide +kernel
theorem dX6_member_117 : decode cX6_member 117 = .ok (.aload_n 3, 1) := by decide +kernel
theorem dX6_member_118 : decode cX6_member 118 = .ok (.getfield 132, 3) := by decide +kernel
theorem dX6_member_121 : decode cX6_member 121 = .ok (.ireturn, 1) := by decide +kernel
theorem dX6_member_122 : decode cX6_member 122 = .ok (.aload_n 3, 1) := by decide +kernel
theorem dX6_member_123 : decode cX6_member 123 = .ok (.invokevirtual 103, 3) := by decide +kernel
theorem dX6_member_126 : decode cX6_member 126 = .ok (.ifCond .eq 7, 3) := by decide +kernel
theorem dX6_member_129 : decode cX6_member 129 = .ok (.iconst 1, 1) := by decide +kernel
theorem dX6_member_130 : decode cX6_member 130 = .ok (.goto 4, 3) := by decide +kernel
theorem dX6_member_133 : decode cX6_member 133 = .ok (.iconst 0, 1) := by decide +kernel
theorem dX6_member_134 : decode cX6_member 134 = .ok (.ireturn, 1) := by decide +kernel
theorem dX6_member_135 : decode cX6_member 135 = .ok (.aload_n 3, 1) := by decide +kernel
theorem dX6_member_136 : decode cX6_member 136 = .ok (.getfield 135, 3) := by decide +kernel
theorem dX6_member_139 : decode cX6_member 139 = .ok (.ifCond .eq 7, 3) := by decide +kernel
theorem dX6_member_142 : decode cX6_member 142 = .ok (.iconst 1, 1) := by decide +kernel
theorem dX6_member_143 : decode cX6_member 143 = .ok (.goto 4, 3) := by decide +kernel
theorem dX6_member_146 : decode cX6_member 146 = .ok (.iconst 0, 1) := by decide +kernel
theorem dX6_member_147 : decode cX6_member 147 = .ok (.ireturn, 1) := by decide +kernel
theorem dX6_member_148 : decode cX6_member 148 = .ok (.aload_n 3, 1) := by decide +kernel
theorem dX6_member_149 : decode cX6_member 149 = .ok (.getfield 110, 3) := by decide +kernel
theorem dX6_member_152 : decode cX6_member 152 = .ok (.ireturn, 1) := by decide +kernel
theorem dX6_member_153 : decode cX6_member 153 = .ok (.bipush (-2), 2) := by decide +kernel
theorem dX6_member_155 : decode cX6_member 155 = .ok (.ireturn, 1) := by decide +kernel
theorem dX6_head_0 : decode cX6_head 0 = .ok (.aload_n 0, 1) := by decide +kernel
theorem dX6_head_1 : decode cX6_head 1 = .ok (.iload_n 1, 1) := by decide +kernel
theorem dX6_head_2 : decode cX6_head 2 = .ok (.invokevirtual 123, 3) := by decide +kernel
theorem dX6_head_5 : decode cX6_head 5 = .ok (.ifCond .eq 5, 3) := by decide +kernel
theorem dX6_head_8 : decode cX6_head 8 = .ok (.iconst (-1), 1) := by decide +kernel
theorem dX6_head_9 : decode cX6_head 9 = .ok (.ireturn, 1) := by decide +kernel
theorem dX6_head_10 : decode cX6_head 10 = .ok (.aload_n 0, 1) := by decide +kernel
theorem dX6_head_11 : decode cX6_head 11 = .ok (.getfield 21, 3) := by decide +kernel
theorem dX6_head_14 : decode cX6_head 14 = .ok (.iload_n 1, 1) := by decide +kernel
theorem dX6_head_15 : decode cX6_head 15 = .ok (.invokevirtual 100, 3) := by decide +kernel
theorem dX6_head_18 : decode cX6_head 18 = .ok (.ifCond .ne 13, 3) := by decide +kernel
theorem dX6_head_21 : decode cX6_head 21 = .ok (.new 139, 3) := by decide +kernel
theorem dX6_head_24 : decode cX6_head 24 = .ok (.dup, 1) := by decide +kernel
theorem dX6_head_25 : decode cX6_head 25 = .ok (.ldc 141, 2) := by decide +kernel
theorem dX6_head_27 : decode cX6_head 27 = .ok (.invokespecial 143, 3) := by decide +kernel
theorem dX6_head_30 : decode cX6_head 30 = .ok (.athrow, 1) := by decide +kernel
theorem dX6_head_31 : decode cX6_head 31 = .ok (.aload_n 0, 1) := by decide +kernel
theorem dX6_head_32 : decode cX6_head 32 = .ok (.getfield 27, 3) := by decide +kernel
theorem dX6_head_35 : decode cX6_head 35 = .ok (.iload_n 1, 1) := by decide +kernel
theorem dX6_head_36 : decode cX6_head 36 = .ok (.aaload, 1) := by decide +kernel
theorem dX6_head_37 : decode cX6_head 37 = .ok (.getfield 107, 3) := by decide +kernel
theorem dX6_head_40 : decode cX6_head 40 = .ok (.astore_n 3, 1) := by decide +kernel
theorem dX6_head_41 : decode cX6_head 41 = .ok (.iload_n 2, 1) := by decide +kernel
theorem dX6_head_42 : decode cX6_head 42 = .ok (.ifCond .lt 11, 3) := by decide +kernel
theorem dX6_head_45 : decode cX6_head 45 = .ok (.iload_n 2, 1) := by decide +kernel
theorem dX6_head_46 : decode cX6_head 46 = .ok (.aload_n 3, 1) := by decide +kernel
theorem dX6_head_47 : decode cX6_head 47 = .ok (.getfield 126, 3) := by decide +kernel
theorem dX6_head_50 : decode cX6_head 50 = .ok (.if_icmp .lt 13, 3) := by decide +kernel
theorem dX6_head_53 : decode cX6_head 53 = .ok (.new 81, 3) := by decide +kernel
theorem dX6_head_56 : decode cX6_head 56 = .ok (.dup, 1) := by decide +kernel
theorem dX6_head_57 : decode cX6_head 57 = .ok (.ldc 144, 2) := by decide +kernel
theorem dX6_head_59 : decode cX6_head 59 = .ok (.invokespecial 85, 3) := by decide +kernel
theorem dX6_head_62 : decode cX6_head 62 = .ok (.athrow, 1) := by decide +kernel
theorem dX6_head_63 : decode cX6_head 63 = .ok (.aload_n 3, 1) := by decide +kernel
theorem dX6_head_64 : decode cX6_head 64 = .ok (.getfield 146, 3) := by decide +kernel
theorem dX6_head_67 : decode cX6_head 67 = .ok (.iload_n 2, 1) := by decide +kernel
theorem dX6_head_68 : decode cX6_head 68 = .ok (.iaload, 1) := by decide +kernel
theorem dX6_head_69 : decode cX6_head 69 = .ok (.ireturn, 1) := by decide +kernel
theorem dX6_makeable_0 : decode cX6_makeable 0 = .ok (.aload_n 0, 1) := by decide +kernel
theorem dX6_makeable_1 : decode cX6_makeable 1 = .ok (.iload_n 1, 1) := by decide +kernel
theorem dX6_makeable_2 : decode cX6_makeable 2 = .ok (.invokevirtual 123, 3) := by decide +kernel
theorem dX6_makeable_5 : decode cX6_makeable 5 = .ok (.ifCond .eq 5, 3) := by decide +kernel
theorem dX6_makeable_8 : decode cX6_makeable 8 = .ok (.iconst (-1), 1) := by decide +kernel
theorem dX6_makeable_9 : decode cX6_makeable 9 = .ok (.ireturn, 1) := by decide +kernel
theorem dX6_makeable_10 : decode cX6_makeable 10 = .ok (.aload_n 0, 1) := by decide +kernel
theorem dX6_makeable_11 : decode cX6_makeable 11 = .ok (.getfield 46, 3) := by decide +kernel
theorem dX6_makeable_14 : decode cX6_makeable 14 = .ok (.aload_n 0, 1) := by decide +kernel
theorem dX6_makeable_15 : decode cX6_makeable 15 = .ok (.getfield 21, 3) := by decide +kernel
theorem dX6_makeable_18 : decode cX6_makeable 18 = .ok (.getfield 88, 3) := by decide +kernel
theorem dX6_makeable_21 : decode cX6_makeable 21 = .ok (.aload_n 0, 1) := by decide +kernel
theorem dX6_makeable_22 : decode cX6_makeable 22 = .ok (.getfield 27, 3) := by decide +kernel
theorem dX6_makeable_25 : decode cX6_makeable 25 = .ok (.iload_n 1, 1) := by decide +kernel
theorem dX6_makeable_26 : decode cX6_makeable 26 = .ok (.aaload, 1) := by decide +kernel
theorem dX6_makeable_27 : decode cX6_makeable 27 = .ok (.getfield 110, 3) := by decide +kernel
theorem dX6_makeable_30 : decode cX6_makeable 30 = .ok (.invokevirtual 113, 3) := by decide +kernel
theorem dX6_makeable_33 : decode cX6_makeable 33 = .ok (.ifCond .eq 7, 3) := by decide +kernel
theorem dX6_makeable_36 : decode cX6_makeable 36 = .ok (.iconst 1, 1) := by decide +kernel
theorem dX6_makeable_37 : decode cX6_makeable 37 = .ok (.goto 4, 3) := by decide +kernel
theorem dX6_makeable_40 : decode cX6_makeable 40 = .ok (.iconst 0, 1) := by decide +kernel
theorem dX6_makeable_41 : decode cX6_makeable 41 = .ok (.ireturn, 1) := by decide +kernel
theorem dX6_run_0 : decode cX6_run 0 = .ok (.aload_n 0, 1) := by decide +kernel
theorem dX6_run_1 : decode cX6_run 1 = .ok (.iload_n 1, 1) := by decide +kernel
theorem dX6_run_2 : decode cX6_run 2 = .ok (.iload 4, 2) := by decide +kernel
theorem dX6_run_4 : decode cX6_run 4 = .ok (.invokevirtual 149, 3) := by decide +kernel
theorem dX6_run_7 : decode cX6_run 7 = .ok (.istore 5, 2) := by decide +kernel
theorem dX6_run_9 : decode cX6_run 9 = .ok (.iload 5, 2) := by decide +kernel
theorem dX6_run_11 : decode cX6_run 11 = .ok (.ifCond .eq 6, 3) := by decide +kernel
theorem dX6_run_14 : decode cX6_run 14 = .ok (.iload 5, 2) := by decide +kernel
theorem dX6_run_16 : decode cX6_run 16 = .ok (.ireturn, 1) := by decide +kernel
theorem dX6_run_17 : decode cX6_run 17 = .ok (.aload_n 0, 1) := by decide +kernel
theorem dX6_run_18 : decode cX6_run 18 = .ok (.invokevirtual 70, 3) := by decide +kernel
theorem dX6_run_21 : decode cX6_run 21 = .ok (.aload_n 0, 1) := by decide +kernel
theorem dX6_run_22 : decode cX6_run 22 = .ok (.getfield 56, 3) := by decide +kernel
theorem dX6_run_25 : decode cX6_run 25 = .ok (.iload_n 1, 1) := by decide +kernel
theorem dX6_run_26 : decode cX6_run 26 = .ok (.iload_n 2, 1) := by decide +kernel
theorem dX6_run_27 : decode cX6_run 27 = .ok (.iload_n 3, 1) := by decide +kernel
theorem dX6_run_28 : decode cX6_run 28 = .ok (.invokevirtual 153, 3) := by decide +kernel
theorem dX6_run_31 : decode cX6_run 31 = .ok (.aload_n 0, 1) := by decide +kernel
theorem dX6_run_32 : decode cX6_run 32 = .ok (.getfield 56, 3) := by decide +kernel
theorem dX6_run_35 : decode cX6_run 35 = .ok (.iload 4, 2) := by decide +kernel
theorem dX6_run_37 : decode cX6_run 37 = .ok (.aload_n 0, 1) := by decide +kernel
theorem dX6_run_38 : decode cX6_run 38 = .ok (.getfield 92, 3) := by decide +kernel
theorem dX6_run_41 : decode cX6_run 41 = .ok (.invokevirtual 156, 3) := by decide +kernel
theorem dX6_run_44 : decode cX6_run 44 = .ok (.aload_n 0, 1) := by decide +kernel
theorem dX6_run_45 : decode cX6_run 45 = .ok (.invokevirtual 77, 3) := by decide +kernel
theorem dX6_run_48 : decode cX6_run 48 = .ok (.pop, 1) := by decide +kernel
theorem dX6_run_49 : decode cX6_run 49 = .ok (.aload_n 0, 1) := by decide +kernel
theorem dX6_run_50 : decode cX6_run 50 = .ok (.dup, 1) := by decide +kernel
theorem dX6_run_51 : decode cX6_run 51 = .ok (.getfield 159, 3) := by decide +kernel
theorem dX6_run_54 : decode cX6_run 54 = .ok (.aload_n 0, 1) := by decide +kernel
theorem dX6_run_55 : decode cX6_run 55 = .ok (.getfield 56, 3) := by decide +kernel
theorem dX6_run_58 : decode cX6_run 58 = .ok (.getfield 162, 3) := by decide +kernel
theorem dX6_run_61 : decode cX6_run 61 = .ok (.iadd, 1) := by decide +kernel
theorem dX6_run_62 : decode cX6_run 62 = .ok (.putfield 159, 3) := by decide +kernel
theorem dX6_run_65 : decode cX6_run 65 = .ok (.aload_n 0, 1) := by decide +kernel
theorem dX6_run_66 : decode cX6_run 66 = .ok (.dup, 1) := by decide +kernel
theorem dX6_run_67 : decode cX6_run 67 = .ok (.getfield 165, 3) := by decide +kernel
theorem dX6_run_70 : decode cX6_run 70 = .ok (.aload_n 0, 1) := by decide +kernel
theorem dX6_run_71 : decode cX6_run 71 = .ok (.getfield 56, 3) := by decide +kernel
theorem dX6_run_74 : decode cX6_run 74 = .ok (.getfield 168, 3) := by decide +kernel
theorem dX6_run_77 : decode cX6_run 77 = .ok (.iadd, 1) := by decide +kernel
theorem dX6_run_78 : decode cX6_run 78 = .ok (.putfield 165, 3) := by decide +kernel
theorem dX6_run_81 : decode cX6_run 81 = .ok (.aload_n 0, 1) := by decide +kernel
theorem dX6_run_82 : decode cX6_run 82 = .ok (.getfield 56, 3) := by decide +kernel
theorem dX6_run_85 : decode cX6_run 85 = .ok (.getfield 171, 3) := by decide +kernel
theorem dX6_run_88 : decode cX6_run 88 = .ok (.ireturn, 1) := by decide +kernel
theorem dX6_ran_0 : decode cX6_ran 0 = .ok (.iload_n 1, 1) := by decide +kernel
theorem dX6_ran_1 : decode cX6_ran 1 = .ok (.tableswitch 123 0 8 #[51, 59, 67, 75, 83, 91, 99, 107, 115], 51) := by decide +kernel
theorem dX6_ran_52 : decode cX6_ran 52 = .ok (.aload_n 0, 1) := by decide +kernel
theorem dX6_ran_53 : decode cX6_ran 53 = .ok (.getfield 56, 3) := by decide +kernel
theorem dX6_ran_56 : decode cX6_ran 56 = .ok (.getfield 174, 3) := by decide +kernel
theorem dX6_ran_59 : decode cX6_ran 59 = .ok (.ireturn, 1) := by decide +kernel
theorem dX6_ran_60 : decode cX6_ran 60 = .ok (.aload_n 0, 1) := by decide +kernel
theorem dX6_ran_61 : decode cX6_ran 61 = .ok (.getfield 56, 3) := by decide +kernel
theorem dX6_ran_64 : decode cX6_ran 64 = .ok (.getfield 177, 3) := by decide +kernel
theorem dX6_ran_67 : decode cX6_ran 67 = .ok (.ireturn, 1) := by decide +kernel
theorem dX6_ran_68 : decode cX6_ran 68 = .ok (.aload_n 0, 1) := by decide +kernel
theorem dX6_ran_69 : decode cX6_ran 69 = .ok (.getfield 56, 3) := by decide +kernel
theorem dX6_ran_72 : decode cX6_ran 72 = .ok (.invokevirtual 180, 3) := by decide +kernel
theorem dX6_ran_75 : decode cX6_ran 75 = .ok (.ireturn, 1) := by decide +kernel
theorem dX6_ran_76 : decode cX6_ran 76 = .ok (.aload_n 0, 1) := by decide +kernel
theorem dX6_ran_77 : decode cX6_ran 77 = .ok (.getfield 56, 3) := by decide +kernel
theorem dX6_ran_80 : decode cX6_ran 80 = .ok (.getfield 162, 3) := by decide +kernel
theorem dX6_ran_83 : decode cX6_ran 83 = .ok (.ireturn, 1) := by decide +kernel
theorem dX6_ran_84 : decode cX6_ran 84 = .ok (.aload_n 0, 1) := by decide +kernel
theorem dX6_ran_85 : decode cX6_ran 85 = .ok (.getfield 56, 3) := by decide +kernel
theorem dX6_ran_88 : decode cX6_ran 88 = .ok (.getfield 168, 3) := by decide +kernel
theorem dX6_ran_91 : decode cX6_ran 91 = .ok (.ireturn, 1) := by decide +kernel
theorem dX6_ran_92 : decode cX6_ran 92 = .ok (.aload_n 0, 1) := by decide +kernel
theorem dX6_ran_93 : decode cX6_ran 93 = .ok (.getfield 56, 3) := by decide +kernel
theorem dX6_ran_96 : decode cX6_ran 96 = .ok (.getfield 183, 3) := by decide +kernel
theorem dX6_ran_99 : decode cX6_ran 99 = .ok (.ireturn, 1) := by decide +kernel
theorem dX6_ran_100 : decode cX6_ran 100 = .ok (.aload_n 0, 1) := by decide +kernel
theorem dX6_ran_101 : decode cX6_ran 101 = .ok (.getfield 56, 3) := by decide +kernel
theorem dX6_ran_104 : decode cX6_ran 104 = .ok (.getfield 186, 3) := by decide +kernel
theorem dX6_ran_107 : decode cX6_ran 107 = .ok (.ireturn, 1) := by decide +kernel
theorem dX6_ran_108 : decode cX6_ran 108 = .ok (.aload_n 0, 1) := by decide +kernel
theorem dX6_ran_109 : decode cX6_ran 109 = .ok (.getfield 56, 3) := by decide +kernel
theorem dX6_ran_112 : decode cX6_ran 112 = .ok (.getfield 187, 3) := by decide +kernel
theorem dX6_ran_115 : decode cX6_ran 115 = .ok (.ireturn, 1) := by decide +kernel
theorem dX6_ran_116 : decode cX6_ran 116 = .ok (.aload_n 0, 1) := by decide +kernel
theorem dX6_ran_117 : decode cX6_ran 117 = .ok (.getfield 56, 3) := by decide +kernel
theorem dX6_ran_120 : decode cX6_ran 120 = .ok (.getfield 190, 3) := by decide +kernel
theorem dX6_ran_123 : decode cX6_ran 123 = .ok (.ireturn, 1) := by decide +kernel
theorem dX6_ran_124 : decode cX6_ran 124 = .ok (.ldc 193, 2) := by decide +kernel
theorem dX6_ran_126 : decode cX6_ran 126 = .ok (.ireturn, 1) := by decide +kernel
theorem dX6_alike_0 : decode cX6_alike 0 = .ok (.aload_n 0, 1) := by decide +kernel
theorem dX6_alike_1 : decode cX6_alike 1 = .ok (.iload_n 1, 1) := by decide +kernel
theorem dX6_alike_2 : decode cX6_alike 2 = .ok (.iload 4, 2) := by decide +kernel
theorem dX6_alike_4 : decode cX6_alike 4 = .ok (.invokevirtual 149, 3) := by decide +kernel
theorem dX6_alike_7 : decode cX6_alike 7 = .ok (.istore 5, 2) := by decide +kernel
theorem dX6_alike_9 : decode cX6_alike 9 = .ok (.iload 5, 2) := by decide +kernel
theorem dX6_alike_11 : decode cX6_alike 11 = .ok (.ifCond .eq 6, 3) := by decide +kernel
theorem dX6_alike_14 : decode cX6_alike 14 = .ok (.iload 5, 2) := by decide +kernel
theorem dX6_alike_16 : decode cX6_alike 16 = .ok (.ireturn, 1) := by decide +kernel
theorem dX6_alike_17 : decode cX6_alike 17 = .ok (.aload_n 0, 1) := by decide +kernel
theorem dX6_alike_18 : decode cX6_alike 18 = .ok (.getfield 60, 3) := by decide +kernel
theorem dX6_alike_21 : decode cX6_alike 21 = .ok (.getfield 194, 3) := by decide +kernel
theorem dX6_alike_24 : decode cX6_alike 24 = .ok (.aload_n 0, 1) := by decide +kernel
theorem dX6_alike_25 : decode cX6_alike 25 = .ok (.getfield 21, 3) := by decide +kernel
theorem dX6_alike_28 : decode cX6_alike 28 = .ok (.aload_n 0, 1) := by decide +kernel
theorem dX6_alike_29 : decode cX6_alike 29 = .ok (.getfield 21, 3) := by decide +kernel
theorem dX6_alike_32 : decode cX6_alike 32 = .ok (.getfield 195, 3) := by decide +kernel
theorem dX6_alike_35 : decode cX6_alike 35 = .ok (.invokevirtual 198, 3) := by decide +kernel
theorem dX6_alike_38 : decode cX6_alike 38 = .ok (.aload_n 0, 1) := by decide +kernel
theorem dX6_alike_39 : decode cX6_alike 39 = .ok (.getfield 60, 3) := by decide +kernel
theorem dX6_alike_42 : decode cX6_alike 42 = .ok (.iload_n 1, 1) := by decide +kernel
theorem dX6_alike_43 : decode cX6_alike 43 = .ok (.iload_n 2, 1) := by decide +kernel
theorem dX6_alike_44 : decode cX6_alike 44 = .ok (.iload_n 3, 1) := by decide +kernel
theorem dX6_alike_45 : decode cX6_alike 45 = .ok (.invokevirtual 153, 3) := by decide +kernel
theorem dX6_alike_48 : decode cX6_alike 48 = .ok (.aload_n 0, 1) := by decide +kernel
theorem dX6_alike_49 : decode cX6_alike 49 = .ok (.getfield 60, 3) := by decide +kernel
theorem dX6_alike_52 : decode cX6_alike 52 = .ok (.iload 4, 2) := by decide +kernel
theorem dX6_alike_54 : decode cX6_alike 54 = .ok (.aload_n 0, 1) := by decide +kernel
theorem dX6_alike_55 : decode cX6_alike 55 = .ok (.getfield 92, 3) := by decide +kernel
theorem dX6_alike_58 : decode cX6_alike 58 = .ok (.invokevirtual 156, 3) := by decide +kernel
theorem dX6_alike_61 : decode cX6_alike 61 = .ok (.aload_n 0, 1) := by decide +kernel
theorem dX6_alike_62 : decode cX6_alike 62 = .ok (.getfield 63, 3) := by decide +kernel
theorem dX6_alike_65 : decode cX6_alike 65 = .ok (.getfield 194, 3) := by decide +kernel
theorem dX6_alike_68 : decode cX6_alike 68 = .ok (.aload_n 0, 1) := by decide +kernel
theorem dX6_alike_69 : decode cX6_alike 69 = .ok (.getfield 21, 3) := by decide +kernel
theorem dX6_alike_72 : decode cX6_alike 72 = .ok (.iconst 0, 1) := by decide +kernel
theorem dX6_alike_73 : decode cX6_alike 73 = .ok (.invokevirtual 198, 3) := by decide +kernel
theorem dX6_alike_76 : decode cX6_alike 76 = .ok (.aload_n 0, 1) := by decide +kernel
theorem dX6_alike_77 : decode cX6_alike 77 = .ok (.getfield 63, 3) := by decide +kernel
theorem dX6_alike_80 : decode cX6_alike 80 = .ok (.iload_n 1, 1) := by decide +kernel
theorem dX6_alike_81 : decode cX6_alike 81 = .ok (.iload_n 2, 1) := by decide +kernel
theorem dX6_alike_82 : decode cX6_alike 82 = .ok (.iload_n 3, 1) := by decide +kernel
theorem dX6_alike_83 : decode cX6_alike 83 = .ok (.invokevirtual 153, 3) := by decide +kernel
theorem dX6_alike_86 : decode cX6_alike 86 = .ok (.aload_n 0, 1) := by decide +kernel
theorem dX6_alike_87 : decode cX6_alike 87 = .ok (.getfield 63, 3) := by decide +kernel
theorem dX6_alike_90 : decode cX6_alike 90 = .ok (.iload 4, 2) := by decide +kernel
theorem dX6_alike_92 : decode cX6_alike 92 = .ok (.aload_n 0, 1) := by decide +kernel
theorem dX6_alike_93 : decode cX6_alike 93 = .ok (.getfield 92, 3) := by decide +kernel
theorem dX6_alike_96 : decode cX6_alike 96 = .ok (.invokevirtual 156, 3) := by decide +kernel
theorem dX6_alike_99 : decode cX6_alike 99 = .ok (.aload_n 0, 1) := by decide +kernel
theorem dX6_alike_100 : decode cX6_alike 100 = .ok (.getfield 60, 3) := by decide +kernel
theorem dX6_alike_103 : decode cX6_alike 103 = .ok (.aload_n 0, 1) := by decide +kernel
theorem dX6_alike_104 : decode cX6_alike 104 = .ok (.getfield 63, 3) := by decide +kernel
theorem dX6_alike_107 : decode cX6_alike 107 = .ok (.invokevirtual 202, 3) := by decide +kernel
theorem dX6_alike_110 : decode cX6_alike 110 = .ok (.ifCond .eq 7, 3) := by decide +kernel
theorem dX6_alike_113 : decode cX6_alike 113 = .ok (.iconst 1, 1) := by decide +kernel
theorem dX6_alike_114 : decode cX6_alike 114 = .ok (.goto 4, 3) := by decide +kernel
theorem dX6_alike_117 : decode cX6_alike 117 = .ok (.iconst 0, 1) := by decide +kernel
theorem dX6_alike_118 : decode cX6_alike 118 = .ok (.ireturn, 1) := by decide +kernel
theorem dX6_page_0 : decode cX6_page 0 = .ok (.iload_n 1, 1) := by decide +kernel
theorem dX6_page_1 : decode cX6_page 1 = .ok (.ifCond .lt 9, 3) := by decide +kernel
theorem dX6_page_4 : decode cX6_page 4 = .ok (.iload_n 1, 1) := by decide +kernel
theorem dX6_page_5 : decode cX6_page 5 = .ok (.bipush 16, 2) := by decide +kernel
theorem dX6_page_7 : decode cX6_page 7 = .ok (.if_icmp .lt 6, 3) := by decide +kernel
theorem dX6_page_10 : decode cX6_page 10 = .ok (.bipush (-2), 2) := by decide +kernel
theorem dX6_page_12 : decode cX6_page 12 = .ok (.ireturn, 1) := by decide +kernel
theorem dX6_page_13 : decode cX6_page 13 = .ok (.aload_n 0, 1) := by decide +kernel
theorem dX6_page_14 : decode cX6_page 14 = .ok (.getfield 10, 3) := by decide +kernel
theorem dX6_page_17 : decode cX6_page 17 = .ok (.getfield 206, 3) := by decide +kernel
theorem dX6_page_20 : decode cX6_page 20 = .ok (.iload_n 1, 1) := by decide +kernel
theorem dX6_page_21 : decode cX6_page 21 = .ok (.iaload, 1) := by decide +kernel
theorem dX6_page_22 : decode cX6_page 22 = .ok (.invokestatic 209, 3) := by decide +kernel
theorem dX6_page_25 : decode cX6_page 25 = .ok (.ireturn, 1) := by decide +kernel
theorem dX6_snapshot_0 : decode cX6_snapshot 0 = .ok (.aload_n 0, 1) := by decide +kernel
theorem dX6_snapshot_1 : decode cX6_snapshot 1 = .ok (.getfield 215, 3) := by decide +kernel
theorem dX6_snapshot_4 : decode cX6_snapshot 4 = .ok (.iconst 4, 1) := by decide +kernel
theorem dX6_snapshot_5 : decode cX6_snapshot 5 = .ok (.if_icmp .lt 6, 3) := by decide +kernel
theorem dX6_snapshot_8 : decode cX6_snapshot 8 = .ok (.bipush (-4), 2) := by decide +kernel
theorem dX6_snapshot_10 : decode cX6_snapshot 10 = .ok (.ireturn, 1) := by decide +kernel
theorem dX6_snapshot_11 : decode cX6_snapshot 11 = .ok (.aload_n 0, 1) := by decide +kernel
theorem dX6_snapshot_12 : decode cX6_snapshot 12 = .ok (.getfield 21, 3) := by decide +kernel
theorem dX6_snapshot_15 : decode cX6_snapshot 15 = .ok (.getfield 88, 3) := by decide +kernel
theorem dX6_snapshot_18 : decode cX6_snapshot 18 = .ok (.iconst 0, 1) := by decide +kernel
theorem dX6_snapshot_19 : decode cX6_snapshot 19 = .ok (.aload_n 0, 1) := by decide +kernel
theorem dX6_snapshot_20 : decode cX6_snapshot 20 = .ok (.getfield 40, 3) := by decide +kernel
theorem dX6_snapshot_23 : decode cX6_snapshot 23 = .ok (.aload_n 0, 1) := by decide +kernel
theorem dX6_snapshot_24 : decode cX6_snapshot 24 = .ok (.getfield 215, 3) := by decide +kernel
theorem dX6_snapshot_27 : decode cX6_snapshot 27 = .ok (.aaload, 1) := by decide +kernel
theorem dX6_snapshot_28 : decode cX6_snapshot 28 = .ok (.iconst 0, 1) := by decide +kernel
theorem dX6_snapshot_29 : decode cX6_snapshot 29 = .ok (.sipush 256, 3) := by decide +kernel
theorem dX6_snapshot_32 : decode cX6_snapshot 32 = .ok (.invokestatic 218, 3) := by decide +kernel
theorem dX6_snapshot_35 : decode cX6_snapshot 35 = .ok (.aload_n 0, 1) := by decide +kernel
theorem dX6_snapshot_36 : decode cX6_snapshot 36 = .ok (.dup, 1) := by decide +kernel
theorem dX6_snapshot_37 : decode cX6_snapshot 37 = .ok (.getfield 215, 3) := by decide +kernel
theorem dX6_snapshot_40 : decode cX6_snapshot 40 = .ok (.iconst 1, 1) := by decide +kernel
theorem dX6_snapshot_41 : decode cX6_snapshot 41 = .ok (.iadd, 1) := by decide +kernel
theorem dX6_snapshot_42 : decode cX6_snapshot 42 = .ok (.putfield 215, 3) := by decide +kernel
theorem dX6_snapshot_45 : decode cX6_snapshot 45 = .ok (.aload_n 0, 1) := by decide +kernel
theorem dX6_snapshot_46 : decode cX6_snapshot 46 = .ok (.getfield 215, 3) := by decide +kernel
theorem dX6_snapshot_49 : decode cX6_snapshot 49 = .ok (.iconst 1, 1) := by decide +kernel
theorem dX6_snapshot_50 : decode cX6_snapshot 50 = .ok (.isub, 1) := by decide +kernel
theorem dX6_snapshot_51 : decode cX6_snapshot 51 = .ok (.ireturn, 1) := by decide +kernel
theorem dX6_restore_0 : decode cX6_restore 0 = .ok (.iload_n 1, 1) := by decide +kernel
theorem dX6_restore_1 : decode cX6_restore 1 = .ok (.ifCond .lt 11, 3) := by decide +kernel
theorem dX6_restore_4 : decode cX6_restore 4 = .ok (.iload_n 1, 1) := by decide +kernel
theorem dX6_restore_5 : decode cX6_restore 5 = .ok (.aload_n 0, 1) := by decide +kernel
theorem dX6_restore_6 : decode cX6_restore 6 = .ok (.getfield 215, 3) := by decide +kernel
theorem dX6_restore_9 : decode cX6_restore 9 = .ok (.if_icmp .lt 5, 3) := by decide +kernel
theorem dX6_restore_12 : decode cX6_restore 12 = .ok (.iconst (-1), 1) := by decide +kernel
theorem dX6_restore_13 : decode cX6_restore 13 = .ok (.ireturn, 1) := by decide +kernel
theorem dX6_restore_14 : decode cX6_restore 14 = .ok (.aload_n 0, 1) := by decide +kernel
theorem dX6_restore_15 : decode cX6_restore 15 = .ok (.aload_n 0, 1) := by decide +kernel
theorem dX6_restore_16 : decode cX6_restore 16 = .ok (.getfield 40, 3) := by decide +kernel
theorem dX6_restore_19 : decode cX6_restore 19 = .ok (.iload_n 1, 1) := by decide +kernel
theorem dX6_restore_20 : decode cX6_restore 20 = .ok (.aaload, 1) := by decide +kernel
theorem dX6_restore_21 : decode cX6_restore 21 = .ok (.invokevirtual 224, 3) := by decide +kernel
theorem dX6_restore_24 : decode cX6_restore 24 = .ok (.ireturn, 1) := by decide +kernel
theorem dX6_undo_0 : decode cX6_undo 0 = .ok (.aload_n 0, 1) := by decide +kernel
theorem dX6_undo_1 : decode cX6_undo 1 = .ok (.getfield 34, 3) := by decide +kernel
theorem dX6_undo_4 : decode cX6_undo 4 = .ok (.getfield 228, 3) := by decide +kernel
theorem dX6_undo_7 : decode cX6_undo 7 = .ok (.ifCond .ne 6, 3) := by decide +kernel
theorem dX6_undo_10 : decode cX6_undo 10 = .ok (.bipush (-3), 2) := by decide +kernel
theorem dX6_undo_12 : decode cX6_undo 12 = .ok (.ireturn, 1) := by decide +kernel
theorem dX6_undo_13 : decode cX6_undo 13 = .ok (.aload_n 0, 1) := by decide +kernel
theorem dX6_undo_14 : decode cX6_undo 14 = .ok (.aload_n 0, 1) := by decide +kernel
theorem dX6_undo_15 : decode cX6_undo 15 = .ok (.getfield 34, 3) := by decide +kernel
theorem dX6_undo_18 : decode cX6_undo 18 = .ok (.invokevirtual 231, 3) := by decide +kernel
theorem dX6_undo_21 : decode cX6_undo 21 = .ok (.invokevirtual 224, 3) := by decide +kernel
theorem dX6_undo_24 : decode cX6_undo 24 = .ok (.ireturn, 1) := by decide +kernel
theorem dX6_share_0 : decode cX6_share 0 = .ok (.aload_n 0, 1) := by decide +kernel
theorem dX6_share_1 : decode cX6_share 1 = .ok (.getfield 165, 3) := by decide +kernel
theorem dX6_share_4 : decode cX6_share 4 = .ok (.ifCond .ne 13, 3) := by decide +kernel
theorem dX6_share_7 : decode cX6_share 7 = .ok (.new 235, 3) := by decide +kernel
theorem dX6_share_10 : decode cX6_share 10 = .ok (.dup, 1) := by decide +kernel
theorem dX6_share_11 : decode cX6_share 11 = .ok (.ldc 237, 2) := by decide +kernel
theorem dX6_share_13 : decode cX6_share 13 = .ok (.invokespecial 239, 3) := by decide +kernel
theorem dX6_share_16 : decode cX6_share 16 = .ok (.athrow, 1) := by decide +kernel
theorem dX6_share_17 : decode cX6_share 17 = .ok (.aload_n 0, 1) := by decide +kernel
theorem dX6_share_18 : decode cX6_share 18 = .ok (.getfield 159, 3) := by decide +kernel
theorem dX6_share_21 : decode cX6_share 21 = .ok (.aload_n 0, 1) := by decide +kernel
theorem dX6_share_22 : decode cX6_share 22 = .ok (.getfield 165, 3) := by decide +kernel
theorem dX6_share_25 : decode cX6_share 25 = .ok (.idiv, 1) := by decide +kernel
theorem dX6_share_26 : decode cX6_share 26 = .ok (.ireturn, 1) := by decide +kernel
theorem dX6_count_0 : decode cX6_count 0 = .ok (.iload_n 1, 1) := by decide +kernel
theorem dX6_count_1 : decode cX6_count 1 = .ok (.tableswitch 108 0 8 #[51, 56, 67, 72, 80, 88, 93, 98, 103], 51) := by decide +kernel
theorem dX6_count_52 : decode cX6_count 52 = .ok (.aload_n 0, 1) := by decide +kernel
theorem dX6_count_53 : decode cX6_count 53 = .ok (.getfield 92, 3) := by decide +kernel
theorem dX6_count_56 : decode cX6_count 56 = .ok (.ireturn, 1) := by decide +kernel
theorem dX6_count_57 : decode cX6_count 57 = .ok (.aload_n 0, 1) := by decide +kernel
theorem dX6_count_58 : decode cX6_count 58 = .ok (.getfield 21, 3) := by decide +kernel
theorem dX6_count_61 : decode cX6_count 61 = .ok (.getfield 195, 3) := by decide +kernel
theorem dX6_count_64 : decode cX6_count 64 = .ok (.invokestatic 209, 3) := by decide +kernel
theorem dX6_count_67 : decode cX6_count 67 = .ok (.ireturn, 1) := by decide +kernel
theorem dX6_count_68 : decode cX6_count 68 = .ok (.aload_n 0, 1) := by decide +kernel
theorem dX6_count_69 : decode cX6_count 69 = .ok (.getfield 215, 3) := by decide +kernel
theorem dX6_count_72 : decode cX6_count 72 = .ok (.ireturn, 1) := by decide +kernel
theorem dX6_count_73 : decode cX6_count 73 = .ok (.aload_n 0, 1) := by decide +kernel
theorem dX6_count_74 : decode cX6_count 74 = .ok (.getfield 34, 3) := by decide +kernel
theorem dX6_count_77 : decode cX6_count 77 = .ok (.getfield 228, 3) := by decide +kernel
theorem dX6_count_80 : decode cX6_count 80 = .ok (.ireturn, 1) := by decide +kernel
theorem dX6_count_81 : decode cX6_count 81 = .ok (.aload_n 0, 1) := by decide +kernel
theorem dX6_count_82 : decode cX6_count 82 = .ok (.getfield 21, 3) := by decide +kernel
theorem dX6_count_85 : decode cX6_count 85 = .ok (.getfield 240, 3) := by decide +kernel
theorem dX6_count_88 : decode cX6_count 88 = .ok (.ireturn, 1) := by decide +kernel
theorem dX6_count_89 : decode cX6_count 89 = .ok (.aload_n 0, 1) := by decide +kernel
theorem dX6_count_90 : decode cX6_count 90 = .ok (.getfield 120, 3) := by decide +kernel
theorem dX6_count_93 : decode cX6_count 93 = .ok (.ireturn, 1) := by decide +kernel
theorem dX6_count_94 : decode cX6_count 94 = .ok (.aload_n 0, 1) := by decide +kernel
theorem dX6_count_95 : decode cX6_count 95 = .ok (.getfield 243, 3) := by decide +kernel
theorem dX6_count_98 : decode cX6_count 98 = .ok (.ireturn, 1) := by decide +kernel
theorem dX6_count_99 : decode cX6_count 99 = .ok (.aload_n 0, 1) := by decide +kernel
theorem dX6_count_100 : decode cX6_count 100 = .ok (.getfield 246, 3) := by decide +kernel
theorem dX6_count_103 : decode cX6_count 103 = .ok (.ireturn, 1) := by decide +kernel
theorem dX6_count_104 : decode cX6_count 104 = .ok (.aload_n 0, 1) := by decide +kernel
theorem dX6_count_105 : decode cX6_count 105 = .ok (.invokevirtual 249, 3) := by decide +kernel
theorem dX6_count_108 : decode cX6_count 108 = .ok (.ireturn, 1) := by decide +kernel
theorem dX6_count_109 : decode cX6_count 109 = .ok (.bipush (-2), 2) := by decide +kernel
theorem dX6_count_111 : decode cX6_count 111 = .ok (.ireturn, 1) := by decide +kernel
theorem dX6_clear_0 : decode cX6_clear 0 = .ok (.aload_n 0, 1) := by decide +kernel
theorem dX6_clear_1 : decode cX6_clear 1 = .ok (.getfield 92, 3) := by decide +kernel
theorem dX6_clear_4 : decode cX6_clear 4 = .ok (.istore_n 1, 1) := by decide +kernel
theorem dX6_clear_5 : decode cX6_clear 5 = .ok (.aload_n 0, 1) := by decide +kernel
theorem dX6_clear_6 : decode cX6_clear 6 = .ok (.getfield 21, 3) := by decide +kernel
theorem dX6_clear_9 : decode cX6_clear 9 = .ok (.invokevirtual 252, 3) := by decide +kernel
theorem dX6_clear_12 : decode cX6_clear 12 = .ok (.aload_n 0, 1) := by decide +kernel
theorem dX6_clear_13 : decode cX6_clear 13 = .ok (.getfield 10, 3) := by decide +kernel
theorem dX6_clear_16 : decode cX6_clear 16 = .ok (.invokevirtual 255, 3) := by decide +kernel
theorem dX6_clear_19 : decode cX6_clear 19 = .ok (.aload_n 0, 1) := by decide +kernel
theorem dX6_clear_20 : decode cX6_clear 20 = .ok (.getfield 34, 3) := by decide +kernel
theorem dX6_clear_23 : decode cX6_clear 23 = .ok (.invokevirtual 256, 3) := by decide +kernel
theorem dX6_clear_26 : decode cX6_clear 26 = .ok (.aload_n 0, 1) := by decide +kernel
theorem dX6_clear_27 : decode cX6_clear 27 = .ok (.getfield 56, 3) := by decide +kernel
theorem dX6_clear_30 : decode cX6_clear 30 = .ok (.invokevirtual 257, 3) := by decide +kernel
theorem dX6_clear_33 : decode cX6_clear 33 = .ok (.aload_n 0, 1) := by decide +kernel
theorem dX6_clear_34 : decode cX6_clear 34 = .ok (.iconst 0, 1) := by decide +kernel
theorem dX6_clear_35 : decode cX6_clear 35 = .ok (.putfield 92, 3) := by decide +kernel
theorem dX6_clear_38 : decode cX6_clear 38 = .ok (.aload_n 0, 1) := by decide +kernel
theorem dX6_clear_39 : decode cX6_clear 39 = .ok (.iconst 0, 1) := by decide +kernel
theorem dX6_clear_40 : decode cX6_clear 40 = .ok (.putfield 215, 3) := by decide +kernel
theorem dX6_clear_43 : decode cX6_clear 43 = .ok (.aload_n 0, 1) := by decide +kernel
theorem dX6_clear_44 : decode cX6_clear 44 = .ok (.iconst 0, 1) := by decide +kernel
theorem dX6_clear_45 : decode cX6_clear 45 = .ok (.putfield 120, 3) := by decide +kernel
theorem dX6_clear_48 : decode cX6_clear 48 = .ok (.aload_n 0, 1) := by decide +kernel
theorem dX6_clear_49 : decode cX6_clear 49 = .ok (.iconst 0, 1) := by decide +kernel
theorem dX6_clear_50 : decode cX6_clear 50 = .ok (.putfield 243, 3) := by decide +kernel
theorem dX6_clear_53 : decode cX6_clear 53 = .ok (.aload_n 0, 1) := by decide +kernel
theorem dX6_clear_54 : decode cX6_clear 54 = .ok (.iconst 0, 1) := by decide +kernel
theorem dX6_clear_55 : decode cX6_clear 55 = .ok (.putfield 246, 3) := by decide +kernel
theorem dX6_clear_58 : decode cX6_clear 58 = .ok (.aload_n 0, 1) := by decide +kernel
theorem dX6_clear_59 : decode cX6_clear 59 = .ok (.iconst 0, 1) := by decide +kernel
theorem dX6_clear_60 : decode cX6_clear 60 = .ok (.putfield 159, 3) := by decide +kernel
theorem dX6_clear_63 : decode cX6_clear 63 = .ok (.aload_n 0, 1) := by decide +kernel
theorem dX6_clear_64 : decode cX6_clear 64 = .ok (.iconst 0, 1) := by decide +kernel
theorem dX6_clear_65 : decode cX6_clear 65 = .ok (.putfield 165, 3) := by decide +kernel
theorem dX6_clear_68 : decode cX6_clear 68 = .ok (.iload_n 1, 1) := by decide +kernel
theorem dX6_clear_69 : decode cX6_clear 69 = .ok (.ireturn, 1) := by decide +kernel
theorem dX6_isNoPlace_0 : decode cX6_isNoPlace 0 = .ok (.iload_n 0, 1) := by decide +kernel
theorem dX6_isNoPlace_1 : decode cX6_isNoPlace 1 = .ok (.ifCond .lt 10, 3) := by decide +kernel
theorem dX6_isNoPlace_4 : decode cX6_isNoPlace 4 = .ok (.iload_n 0, 1) := by decide +kernel
theorem dX6_isNoPlace_5 : decode cX6_isNoPlace 5 = .ok (.sipush 255, 3) := by decide +kernel
theorem dX6_isNoPlace_8 : decode cX6_isNoPlace 8 = .ok (.if_icmp .le 7, 3) := by decide +kernel
theorem dX6_isNoPlace_11 : decode cX6_isNoPlace 11 = .ok (.iconst 1, 1) := by decide +kernel
theorem dX6_isNoPlace_12 : decode cX6_isNoPlace 12 = .ok (.goto 4, 3) := by decide +kernel
theorem dX6_isNoPlace_15 : decode cX6_isNoPlace 15 = .ok (.iconst 0, 1) := by decide +kernel
theorem dX6_isNoPlace_16 : decode cX6_isNoPlace 16 = .ok (.ireturn, 1) := by decide +kernel
theorem dX6_isNoRoutine_0 : decode cX6_isNoRoutine 0 = .ok (.iload_n 1, 1) := by decide +kernel
theorem dX6_isNoRoutine_1 : decode cX6_isNoRoutine 1 = .ok (.ifCond .lt 11, 3) := by decide +kernel
theorem dX6_isNoRoutine_4 : decode cX6_isNoRoutine 4 = .ok (.iload_n 1, 1) := by decide +kernel
theorem dX6_isNoRoutine_5 : decode cX6_isNoRoutine 5 = .ok (.aload_n 0, 1) := by decide +kernel
theorem dX6_isNoRoutine_6 : decode cX6_isNoRoutine 6 = .ok (.getfield 92, 3) := by decide +kernel
theorem dX6_isNoRoutine_9 : decode cX6_isNoRoutine 9 = .ok (.if_icmp .lt 7, 3) := by decide +kernel
theorem dX6_isNoRoutine_12 : decode cX6_isNoRoutine 12 = .ok (.iconst 1, 1) := by decide +kernel
theorem dX6_isNoRoutine_13 : decode cX6_isNoRoutine 13 = .ok (.goto 4, 3) := by decide +kernel
theorem dX6_isNoRoutine_16 : decode cX6_isNoRoutine 16 = .ok (.iconst 0, 1) := by decide +kernel
theorem dX6_isNoRoutine_17 : decode cX6_isNoRoutine 17 = .ok (.ireturn, 1) := by decide +kernel
theorem dX6_refusalOfRun_0 : decode cX6_refusalOfRun 0 = .ok (.aload_n 0, 1) := by decide +kernel
theorem dX6_refusalOfRun_1 : decode cX6_refusalOfRun 1 = .ok (.iload_n 1, 1) := by decide +kernel
theorem dX6_refusalOfRun_2 : decode cX6_refusalOfRun 2 = .ok (.invokevirtual 123, 3) := by decide +kernel
theorem dX6_refusalOfRun_5 : decode cX6_refusalOfRun 5 = .ok (.ifCond .eq 5, 3) := by decide +kernel
theorem dX6_refusalOfRun_8 : decode cX6_refusalOfRun 8 = .ok (.iconst (-1), 1) := by decide +kernel
theorem dX6_refusalOfRun_9 : decode cX6_refusalOfRun 9 = .ok (.ireturn, 1) := by decide +kernel
theorem dX6_refusalOfRun_10 : decode cX6_refusalOfRun 10 = .ok (.iload_n 2, 1) := by decide +kernel
theorem dX6_refusalOfRun_11 : decode cX6_refusalOfRun 11 = .ok (.iconst 1, 1) := by decide +kernel
theorem dX6_refusalOfRun_12 : decode cX6_refusalOfRun 12 = .ok (.if_icmp .lt 10, 3) := by decide +kernel
theorem dX6_refusalOfRun_15 : decode cX6_refusalOfRun 15 = .ok (.iload_n 2, 1) := by decide +kernel
theorem dX6_refusalOfRun_16 : decode cX6_refusalOfRun 16 = .ok (.sipush 400, 3) := by decide +kernel
theorem dX6_refusalOfRun_19 : decode cX6_refusalOfRun 19 = .ok (.if_icmp .le 8, 3) := by decide +kernel
theorem dX6_refusalOfRun_22 : decode cX6_refusalOfRun 22 = .ok (.bipush (-2), 2) := by decide +kernel
theorem dX6_refusalOfRun_24 : decode cX6_refusalOfRun 24 = .ok (.goto 4, 3) := by decide +kernel
theorem dX6_refusalOfRun_27 : decode cX6_refusalOfRun 27 = .ok (.iconst 0, 1) := by decide +kernel
theorem dX6_refusalOfRun_28 : decode cX6_refusalOfRun 28 = .ok (.ireturn, 1) := by decide +kernel
theorem dX6_beginKeeping_0 : decode cX6_beginKeeping 0 = .ok (.aload_n 0, 1) := by decide +kernel
theorem dX6_beginKeeping_1 : decode cX6_beginKeeping 1 = .ok (.getfield 34, 3) := by decide +kernel
theorem dX6_beginKeeping_4 : decode cX6_beginKeeping 4 = .ok (.aload_n 0, 1) := by decide +kernel
theorem dX6_beginKeeping_5 : decode cX6_beginKeeping 5 = .ok (.getfield 21, 3) := by decide +kernel
theorem dX6_beginKeeping_8 : decode cX6_beginKeeping 8 = .ok (.getfield 88, 3) := by decide +kernel
theorem dX6_beginKeeping_11 : decode cX6_beginKeeping 11 = .ok (.invokevirtual 258, 3) := by decide +kernel
theorem dX6_beginKeeping_14 : decode cX6_beginKeeping 14 = .ok (.aload_n 0, 1) := by decide +kernel
theorem dX6_beginKeeping_15 : decode cX6_beginKeeping 15 = .ok (.getfield 21, 3) := by decide +kernel
theorem dX6_beginKeeping_18 : decode cX6_beginKeeping 18 = .ok (.invokevirtual 262, 3) := by decide +kernel
theorem dX6_beginKeeping_21 : decode cX6_beginKeeping 21 = .ok (.return_, 1) := by decide +kernel
theorem dX6_endKeeping_0 : decode cX6_endKeeping 0 = .ok (.aload_n 0, 1) := by decide +kernel
theorem dX6_endKeeping_1 : decode cX6_endKeeping 1 = .ok (.getfield 21, 3) := by decide +kernel
theorem dX6_endKeeping_4 : decode cX6_endKeeping 4 = .ok (.getfield 265, 3) := by decide +kernel
theorem dX6_endKeeping_7 : decode cX6_endKeeping 7 = .ok (.ifCond .le 10, 3) := by decide +kernel
theorem dX6_endKeeping_10 : decode cX6_endKeeping 10 = .ok (.aload_n 0, 1) := by decide +kernel
theorem dX6_endKeeping_11 : decode cX6_endKeeping 11 = .ok (.getfield 34, 3) := by decide +kernel
theorem dX6_endKeeping_14 : decode cX6_endKeeping 14 = .ok (.invokevirtual 266, 3) := by decide +kernel
theorem dX6_endKeeping_17 : decode cX6_endKeeping 17 = .ok (.aload_n 0, 1) := by decide +kernel
theorem dX6_endKeeping_18 : decode cX6_endKeeping 18 = .ok (.invokevirtual 269, 3) := by decide +kernel
theorem dX6_endKeeping_21 : decode cX6_endKeeping 21 = .ok (.ireturn, 1) := by decide +kernel
theorem dX6_returnTo_0 : decode cX6_returnTo 0 = .ok (.aload_n 0, 1) := by decide +kernel
theorem dX6_returnTo_1 : decode cX6_returnTo 1 = .ok (.getfield 21, 3) := by decide +kernel
theorem dX6_returnTo_4 : decode cX6_returnTo 4 = .ok (.invokevirtual 262, 3) := by decide +kernel
theorem dX6_returnTo_7 : decode cX6_returnTo 7 = .ok (.iconst 0, 1) := by decide +kernel
theorem dX6_returnTo_8 : decode cX6_returnTo 8 = .ok (.istore_n 2, 1) := by decide +kernel
theorem dX6_returnTo_9 : decode cX6_returnTo 9 = .ok (.iload_n 2, 1) := by decide +kernel
theorem dX6_returnTo_10 : decode cX6_returnTo 10 = .ok (.sipush 256, 3) := by decide +kernel
theorem dX6_returnTo_13 : decode cX6_returnTo 13 = .ok (.if_icmp .ge 20, 3) := by decide +kernel
theorem dX6_returnTo_16 : decode cX6_returnTo 16 = .ok (.aload_n 0, 1) := by decide +kernel
theorem dX6_returnTo_17 : decode cX6_returnTo 17 = .ok (.getfield 21, 3) := by decide +kernel
theorem dX6_returnTo_20 : decode cX6_returnTo 20 = .ok (.iload_n 2, 1) := by decide +kernel
theorem dX6_returnTo_21 : decode cX6_returnTo 21 = .ok (.aload_n 1, 1) := by decide +kernel
theorem dX6_returnTo_22 : decode cX6_returnTo 22 = .ok (.iload_n 2, 1) := by decide +kernel
theorem dX6_returnTo_23 : decode cX6_returnTo 23 = .ok (.iaload, 1) := by decide +kernel
theorem dX6_returnTo_24 : decode cX6_returnTo 24 = .ok (.invokevirtual 73, 3) := by decide +kernel
theorem dX6_returnTo_27 : decode cX6_returnTo 27 = .ok (.iinc 2 1, 3) := by decide +kernel
theorem dX6_returnTo_30 : decode cX6_returnTo 30 = .ok (.goto (-21), 3) := by decide +kernel
theorem dX6_returnTo_33 : decode cX6_returnTo 33 = .ok (.aload_n 0, 1) := by decide +kernel
theorem dX6_returnTo_34 : decode cX6_returnTo 34 = .ok (.invokevirtual 269, 3) := by decide +kernel
theorem dX6_returnTo_37 : decode cX6_returnTo 37 = .ok (.istore_n 2, 1) := by decide +kernel
theorem dX6_returnTo_38 : decode cX6_returnTo 38 = .ok (.iload_n 2, 1) := by decide +kernel
theorem dX6_returnTo_39 : decode cX6_returnTo 39 = .ok (.bipush 100, 2) := by decide +kernel
theorem dX6_returnTo_41 : decode cX6_returnTo 41 = .ok (.aload_n 0, 1) := by decide +kernel
theorem dX6_returnTo_42 : decode cX6_returnTo 42 = .ok (.invokevirtual 272, 3) := by decide +kernel
theorem dX6_returnTo_45 : decode cX6_returnTo 45 = .ok (.imul, 1) := by decide +kernel
theorem dX6_returnTo_46 : decode cX6_returnTo 46 = .ok (.iadd, 1) := by decide +kernel
theorem dX6_returnTo_47 : decode cX6_returnTo 47 = .ok (.ireturn, 1) := by decide +kernel
theorem dX6_layDroppedAside_0 : decode cX6_layDroppedAside 0 = .ok (.iconst 0, 1) := by decide +kernel
theorem dX6_layDroppedAside_1 : decode cX6_layDroppedAside 1 = .ok (.istore_n 1, 1) := by decide +kernel
theorem dX6_layDroppedAside_2 : decode cX6_layDroppedAside 2 = .ok (.iconst 0, 1) := by decide +kernel
theorem dX6_layDroppedAside_3 : decode cX6_layDroppedAside 3 = .ok (.istore_n 2, 1) := by decide +kernel
theorem dX6_layDroppedAside_4 : decode cX6_layDroppedAside 4 = .ok (.iload_n 2, 1) := by decide +kernel
theorem dX6_layDroppedAside_5 : decode cX6_layDroppedAside 5 = .ok (.aload_n 0, 1) := by decide +kernel
theorem dX6_layDroppedAside_6 : decode cX6_layDroppedAside 6 = .ok (.getfield 92, 3) := by decide +kernel
theorem dX6_layDroppedAside_9 : decode cX6_layDroppedAside 9 = .ok (.if_icmp .ge 50, 3) := by decide +kernel
theorem dX6_layDroppedAside_12 : decode cX6_layDroppedAside 12 = .ok (.aload_n 0, 1) := by decide +kernel
theorem dX6_layDroppedAside_13 : decode cX6_layDroppedAside 13 = .ok (.getfield 21, 3) := by decide +kernel
theorem dX6_layDroppedAside_16 : decode cX6_layDroppedAside 16 = .ok (.iload_n 2, 1) := by decide +kernel
theorem dX6_layDroppedAside_17 : decode cX6_layDroppedAside 17 = .ok (.invokevirtual 275, 3) := by decide +kernel
theorem dX6_layDroppedAside_20 : decode cX6_layDroppedAside 20 = .ok (.ifCond .eq 33, 3) := by decide +kernel
theorem dX6_layDroppedAside_23 : decode cX6_layDroppedAside 23 = .ok (.aload_n 0, 1) := by decide +kernel
theorem dX6_layDroppedAside_24 : decode cX6_layDroppedAside 24 = .ok (.getfield 10, 3) := by decide +kernel
theorem dX6_layDroppedAside_27 : decode cX6_layDroppedAside 27 = .ok (.iload_n 2, 1) := by decide +kernel
theorem dX6_layDroppedAside_28 : decode cX6_layDroppedAside 28 = .ok (.aload_n 0, 1) := by decide +kernel
theorem dX6_layDroppedAside_29 : decode cX6_layDroppedAside 29 = .ok (.getfield 27, 3) := by decide +kernel
theorem dX6_layDroppedAside_32 : decode cX6_layDroppedAside 32 = .ok (.iload_n 2, 1) := by decide +kernel
theorem dX6_layDroppedAside_33 : decode cX6_layDroppedAside 33 = .ok (.aaload, 1) := by decide +kernel
theorem dX6_layDroppedAside_34 : decode cX6_layDroppedAside 34 = .ok (.getfield 107, 3) := by decide +kernel
theorem dX6_layDroppedAside_37 : decode cX6_layDroppedAside 37 = .ok (.iconst 0, 1) := by decide +kernel
theorem dX6_layDroppedAside_38 : decode cX6_layDroppedAside 38 = .ok (.invokevirtual 278, 3) := by decide +kernel
theorem dX6_layDroppedAside_41 : decode cX6_layDroppedAside 41 = .ok (.aload_n 0, 1) := by decide +kernel
theorem dX6_layDroppedAside_42 : decode cX6_layDroppedAside 42 = .ok (.getfield 27, 3) := by decide +kernel
theorem dX6_layDroppedAside_45 : decode cX6_layDroppedAside 45 = .ok (.iload_n 2, 1) := by decide +kernel
theorem dX6_layDroppedAside_46 : decode cX6_layDroppedAside 46 = .ok (.aaload, 1) := by decide +kernel
theorem dX6_layDroppedAside_47 : decode cX6_layDroppedAside 47 = .ok (.invokevirtual 282, 3) := by decide +kernel
theorem dX6_layDroppedAside_50 : decode cX6_layDroppedAside 50 = .ok (.iinc 1 1, 3) := by decide +kernel
theorem dX6_layDroppedAside_53 : decode cX6_layDroppedAside 53 = .ok (.iinc 2 1, 3) := by decide +kernel
theorem dX6_layDroppedAside_56 : decode cX6_layDroppedAside 56 = .ok (.goto (-52), 3) := by decide +kernel
theorem dX6_layDroppedAside_59 : decode cX6_layDroppedAside 59 = .ok (.aload_n 0, 1) := by decide +kernel
theorem dX6_layDroppedAside_60 : decode cX6_layDroppedAside 60 = .ok (.dup, 1) := by decide +kernel
theorem dX6_layDroppedAside_61 : decode cX6_layDroppedAside 61 = .ok (.getfield 243, 3) := by decide +kernel
theorem dX6_layDroppedAside_64 : decode cX6_layDroppedAside 64 = .ok (.iload_n 1, 1) := by decide +kernel
theorem dX6_layDroppedAside_65 : decode cX6_layDroppedAside 65 = .ok (.iadd, 1) := by decide +kernel
theorem dX6_layDroppedAside_66 : decode cX6_layDroppedAside 66 = .ok (.putfield 243, 3) := by decide +kernel
theorem dX6_layDroppedAside_69 : decode cX6_layDroppedAside 69 = .ok (.iload_n 1, 1) := by decide +kernel
theorem dX6_layDroppedAside_70 : decode cX6_layDroppedAside 70 = .ok (.ireturn, 1) := by decide +kernel
theorem dX6_bringBack_0 : decode cX6_bringBack 0 = .ok (.iconst 0, 1) := by decide +kernel
theorem dX6_bringBack_1 : decode cX6_bringBack 1 = .ok (.istore_n 1, 1) := by decide +kernel
theorem dX6_bringBack_2 : decode cX6_bringBack 2 = .ok (.iconst 0, 1) := by decide +kernel
theorem dX6_bringBack_3 : decode cX6_bringBack 3 = .ok (.istore_n 2, 1) := by decide +kernel
theorem dX6_bringBack_4 : decode cX6_bringBack 4 = .ok (.iload_n 2, 1) := by decide +kernel
theorem dX6_bringBack_5 : decode cX6_bringBack 5 = .ok (.aload_n 0, 1) := by decide +kernel
theorem dX6_bringBack_6 : decode cX6_bringBack 6 = .ok (.getfield 92, 3) := by decide +kernel
theorem dX6_bringBack_9 : decode cX6_bringBack 9 = .ok (.if_icmp .ge 56, 3) := by decide +kernel
theorem dX6_bringBack_12 : decode cX6_bringBack 12 = .ok (.aload_n 0, 1) := by decide +kernel
theorem dX6_bringBack_13 : decode cX6_bringBack 13 = .ok (.getfield 21, 3) := by decide +kernel
theorem dX6_bringBack_16 : decode cX6_bringBack 16 = .ok (.iload_n 2, 1) := by decide +kernel
theorem dX6_bringBack_17 : decode cX6_bringBack 17 = .ok (.invokevirtual 100, 3) := by decide +kernel
theorem dX6_bringBack_20 : decode cX6_bringBack 20 = .ok (.ifCond .ne 39, 3) := by decide +kernel
theorem dX6_bringBack_23 : decode cX6_bringBack 23 = .ok (.aload_n 0, 1) := by decide +kernel
theorem dX6_bringBack_24 : decode cX6_bringBack 24 = .ok (.getfield 27, 3) := by decide +kernel
theorem dX6_bringBack_27 : decode cX6_bringBack 27 = .ok (.iload_n 2, 1) := by decide +kernel
theorem dX6_bringBack_28 : decode cX6_bringBack 28 = .ok (.aaload, 1) := by decide +kernel
theorem dX6_bringBack_29 : decode cX6_bringBack 29 = .ok (.aload_n 0, 1) := by decide +kernel
theorem dX6_bringBack_30 : decode cX6_bringBack 30 = .ok (.getfield 21, 3) := by decide +kernel
theorem dX6_bringBack_33 : decode cX6_bringBack 33 = .ok (.getfield 88, 3) := by decide +kernel
theorem dX6_bringBack_36 : decode cX6_bringBack 36 = .ok (.invokevirtual 285, 3) := by decide +kernel
theorem dX6_bringBack_39 : decode cX6_bringBack 39 = .ok (.ifCond .eq 20, 3) := by decide +kernel
theorem dX6_bringBack_42 : decode cX6_bringBack 42 = .ok (.aload_n 0, 1) := by decide +kernel
theorem dX6_bringBack_43 : decode cX6_bringBack 43 = .ok (.getfield 27, 3) := by decide +kernel
theorem dX6_bringBack_46 : decode cX6_bringBack 46 = .ok (.iload_n 2, 1) := by decide +kernel
theorem dX6_bringBack_47 : decode cX6_bringBack 47 = .ok (.aaload, 1) := by decide +kernel
theorem dX6_bringBack_48 : decode cX6_bringBack 48 = .ok (.invokevirtual 289, 3) := by decide +kernel
theorem dX6_bringBack_51 : decode cX6_bringBack 51 = .ok (.aload_n 0, 1) := by decide +kernel
theorem dX6_bringBack_52 : decode cX6_bringBack 52 = .ok (.iload_n 2, 1) := by decide +kernel
theorem dX6_bringBack_53 : decode cX6_bringBack 53 = .ok (.invokevirtual 117, 3) := by decide +kernel
theorem dX6_bringBack_56 : decode cX6_bringBack 56 = .ok (.iinc 1 1, 3) := by decide +kernel
theorem dX6_bringBack_59 : decode cX6_bringBack 59 = .ok (.iinc 2 1, 3) := by decide +kernel
theorem dX6_bringBack_62 : decode cX6_bringBack 62 = .ok (.goto (-58), 3) := by decide +kernel
theorem dX6_bringBack_65 : decode cX6_bringBack 65 = .ok (.aload_n 0, 1) := by decide +kernel
theorem dX6_bringBack_66 : decode cX6_bringBack 66 = .ok (.dup, 1) := by decide +kernel
theorem dX6_bringBack_67 : decode cX6_bringBack 67 = .ok (.getfield 246, 3) := by decide +kernel
theorem dX6_bringBack_70 : decode cX6_bringBack 70 = .ok (.iload_n 1, 1) := by decide +kernel
theorem dX6_bringBack_71 : decode cX6_bringBack 71 = .ok (.iadd, 1) := by decide +kernel
theorem dX6_bringBack_72 : decode cX6_bringBack 72 = .ok (.putfield 246, 3) := by decide +kernel
theorem dX6_bringBack_75 : decode cX6_bringBack 75 = .ok (.iload_n 1, 1) := by decide +kernel
theorem dX6_bringBack_76 : decode cX6_bringBack 76 = .ok (.ireturn, 1) := by decide +kernel
theorem dX6_giveMember_0 : decode cX6_giveMember 0 = .ok (.aload_n 0, 1) := by decide +kernel
theorem dX6_giveMember_1 : decode cX6_giveMember 1 = .ok (.getfield 10, 3) := by decide +kernel
theorem dX6_giveMember_4 : decode cX6_giveMember 4 = .ok (.iload_n 1, 1) := by decide +kernel
theorem dX6_giveMember_5 : decode cX6_giveMember 5 = .ok (.aload_n 0, 1) := by decide +kernel
theorem dX6_giveMember_6 : decode cX6_giveMember 6 = .ok (.getfield 27, 3) := by decide +kernel
theorem dX6_giveMember_9 : decode cX6_giveMember 9 = .ok (.iload_n 1, 1) := by decide +kernel
theorem dX6_giveMember_10 : decode cX6_giveMember 10 = .ok (.aaload, 1) := by decide +kernel
theorem dX6_giveMember_11 : decode cX6_giveMember 11 = .ok (.getfield 107, 3) := by decide +kernel
theorem dX6_giveMember_14 : decode cX6_giveMember 14 = .ok (.iconst 1, 1) := by decide +kernel
theorem dX6_giveMember_15 : decode cX6_giveMember 15 = .ok (.invokevirtual 278, 3) := by decide +kernel
theorem dX6_giveMember_18 : decode cX6_giveMember 18 = .ok (.aload_n 0, 1) := by decide +kernel
theorem dX6_giveMember_19 : decode cX6_giveMember 19 = .ok (.getfield 21, 3) := by decide +kernel
theorem dX6_giveMember_22 : decode cX6_giveMember 22 = .ok (.dup, 1) := by decide +kernel
theorem dX6_giveMember_23 : decode cX6_giveMember 23 = .ok (.getfield 195, 3) := by decide +kernel
theorem dX6_giveMember_26 : decode cX6_giveMember 26 = .ok (.iconst 1, 1) := by decide +kernel
theorem dX6_giveMember_27 : decode cX6_giveMember 27 = .ok (.iload_n 1, 1) := by decide +kernel
theorem dX6_giveMember_28 : decode cX6_giveMember 28 = .ok (.ishl, 1) := by decide +kernel
theorem dX6_giveMember_29 : decode cX6_giveMember 29 = .ok (.ior, 1) := by decide +kernel
theorem dX6_giveMember_30 : decode cX6_giveMember 30 = .ok (.putfield 195, 3) := by decide +kernel
theorem dX6_giveMember_33 : decode cX6_giveMember 33 = .ok (.return_, 1) := by decide +kernel
theorem dX6_countWalkedForGood_0 : decode cX6_countWalkedForGood 0 = .ok (.iconst 0, 1) := by decide +kernel
theorem dX6_countWalkedForGood_1 : decode cX6_countWalkedForGood 1 = .ok (.istore_n 1, 1) := by decide +kernel
theorem dX6_countWalkedForGood_2 : decode cX6_countWalkedForGood 2 = .ok (.iconst 0, 1) := by decide +kernel
theorem dX6_countWalkedForGood_3 : decode cX6_countWalkedForGood 3 = .ok (.istore_n 2, 1) := by decide +kernel
theorem dX6_countWalkedForGood_4 : decode cX6_countWalkedForGood 4 = .ok (.iload_n 2, 1) := by decide +kernel
theorem dX6_countWalkedForGood_5 : decode cX6_countWalkedForGood 5 = .ok (.aload_n 0, 1) := by decide +kernel
theorem dX6_countWalkedForGood_6 : decode cX6_countWalkedForGood 6 = .ok (.getfield 92, 3) := by decide +kernel
theorem dX6_countWalkedForGood_9 : decode cX6_countWalkedForGood 9 = .ok (.if_icmp .ge 24, 3) := by decide +kernel
theorem dX6_countWalkedForGood_12 : decode cX6_countWalkedForGood 12 = .ok (.aload_n 0, 1) := by decide +kernel
theorem dX6_countWalkedForGood_13 : decode cX6_countWalkedForGood 13 = .ok (.getfield 27, 3) := by decide +kernel
theorem dX6_countWalkedForGood_16 : decode cX6_countWalkedForGood 16 = .ok (.iload_n 2, 1) := by decide +kernel
theorem dX6_countWalkedForGood_17 : decode cX6_countWalkedForGood 17 = .ok (.aaload, 1) := by decide +kernel
theorem dX6_countWalkedForGood_18 : decode cX6_countWalkedForGood 18 = .ok (.invokevirtual 103, 3) := by decide +kernel
theorem dX6_countWalkedForGood_21 : decode cX6_countWalkedForGood 21 = .ok (.ifCond .eq 6, 3) := by decide +kernel
theorem dX6_countWalkedForGood_24 : decode cX6_countWalkedForGood 24 = .ok (.iinc 1 1, 3) := by decide +kernel
theorem dX6_countWalkedForGood_27 : decode cX6_countWalkedForGood 27 = .ok (.iinc 2 1, 3) := by decide +kernel
theorem dX6_countWalkedForGood_30 : decode cX6_countWalkedForGood 30 = .ok (.goto (-26), 3) := by decide +kernel
theorem dX6_countWalkedForGood_33 : decode cX6_countWalkedForGood 33 = .ok (.iload_n 1, 1) := by decide +kernel
theorem dX6_countWalkedForGood_34 : decode cX6_countWalkedForGood 34 = .ok (.ireturn, 1) := by decide +kernel
theorem dX6_isKind_0 : decode cX6_isKind 0 = .ok (.iload_n 0, 1) := by decide +kernel
theorem dX6_isKind_1 : decode cX6_isKind 1 = .ok (.ifCond .lt 13, 3) := by decide +kernel
theorem dX6_isKind_4 : decode cX6_isKind 4 = .ok (.iload_n 0, 1) := by decide +kernel
theorem dX6_isKind_5 : decode cX6_isKind 5 = .ok (.bipush 12, 2) := by decide +kernel
theorem dX6_isKind_7 : decode cX6_isKind 7 = .ok (.if_icmp .gt 7, 3) := by decide +kernel
theorem dX6_isKind_10 : decode cX6_isKind 10 = .ok (.iconst 1, 1) := by decide +kernel
theorem dX6_isKind_11 : decode cX6_isKind 11 = .ok (.goto 4, 3) := by decide +kernel
theorem dX6_isKind_14 : decode cX6_isKind 14 = .ok (.iconst 0, 1) := by decide +kernel
theorem dX6_isKind_15 : decode cX6_isKind 15 = .ok (.ireturn, 1) := by decide +kernel
theorem dX6_hasOperand_0 : decode cX6_hasOperand 0 = .ok (.iload_n 0, 1) := by decide +kernel
theorem dX6_hasOperand_1 : decode cX6_hasOperand 1 = .ok (.iconst 1, 1) := by decide +kernel
theorem dX6_hasOperand_2 : decode cX6_hasOperand 2 = .ok (.if_icmp .eq 19, 3) := by decide +kernel
theorem dX6_hasOperand_5 : decode cX6_hasOperand 5 = .ok (.iload_n 0, 1) := by decide +kernel
theorem dX6_hasOperand_6 : decode cX6_hasOperand 6 = .ok (.iconst 2, 1) := by decide +kernel
theorem dX6_hasOperand_7 : decode cX6_hasOperand 7 = .ok (.if_icmp .eq 14, 3) := by decide +kernel
theorem dX6_hasOperand_10 : decode cX6_hasOperand 10 = .ok (.iload_n 0, 1) := by decide +kernel
theorem dX6_hasOperand_11 : decode cX6_hasOperand 11 = .ok (.iconst 4, 1) := by decide +kernel
theorem dX6_hasOperand_12 : decode cX6_hasOperand 12 = .ok (.if_icmp .lt 13, 3) := by decide +kernel
theorem dX6_hasOperand_15 : decode cX6_hasOperand 15 = .ok (.iload_n 0, 1) := by decide +kernel
theorem dX6_hasOperand_16 : decode cX6_hasOperand 16 = .ok (.bipush 9, 2) := by decide +kernel
theorem dX6_hasOperand_18 : decode cX6_hasOperand 18 = .ok (.if_icmp .gt 7, 3) := by decide +kernel
theorem dX6_hasOperand_21 : decode cX6_hasOperand 21 = .ok (.iconst 1, 1) := by decide +kernel
theorem dX6_hasOperand_22 : decode cX6_hasOperand 22 = .ok (.goto 4, 3) := by decide +kernel
theorem dX6_hasOperand_25 : decode cX6_hasOperand 25 = .ok (.iconst 0, 1) := by decide +kernel
theorem dX6_hasOperand_26 : decode cX6_hasOperand 26 = .ok (.ireturn, 1) := by decide +kernel
theorem dX6_lengthOf_0 : decode cX6_lengthOf 0 = .ok (.iload_n 0, 1) := by decide +kernel
theorem dX6_lengthOf_1 : decode cX6_lengthOf 1 = .ok (.invokestatic 292, 3) := by decide +kernel
theorem dX6_lengthOf_4 : decode cX6_lengthOf 4 = .ok (.ifCond .eq 7, 3) := by decide +kernel
theorem dX6_lengthOf_7 : decode cX6_lengthOf 7 = .ok (.iconst 2, 1) := by decide +kernel
theorem dX6_lengthOf_8 : decode cX6_lengthOf 8 = .ok (.goto 4, 3) := by decide +kernel
theorem dX6_lengthOf_11 : decode cX6_lengthOf 11 = .ok (.iconst 1, 1) := by decide +kernel
theorem dX6_lengthOf_12 : decode cX6_lengthOf 12 = .ok (.ireturn, 1) := by decide +kernel
theorem dX6_canGoElsewhere_0 : decode cX6_canGoElsewhere 0 = .ok (.iload_n 0, 1) := by decide +kernel
theorem dX6_canGoElsewhere_1 : decode cX6_canGoElsewhere 1 = .ok (.bipush 6, 2) := by decide +kernel
theorem dX6_canGoElsewhere_3 : decode cX6_canGoElsewhere 3 = .ok (.if_icmp .eq 15, 3) := by decide +kernel
theorem dX6_canGoElsewhere_6 : decode cX6_canGoElsewhere 6 = .ok (.iload_n 0, 1) := by decide +kernel
theorem dX6_canGoElsewhere_7 : decode cX6_canGoElsewhere 7 = .ok (.bipush 7, 2) := by decide +kernel
theorem dX6_canGoElsewhere_9 : decode cX6_canGoElsewhere 9 = .ok (.if_icmp .eq 9, 3) := by decide +kernel
theorem dX6_canGoElsewhere_12 : decode cX6_canGoElsewhere 12 = .ok (.iload_n 0, 1) := by decide +kernel
theorem dX6_canGoElsewhere_13 : decode cX6_canGoElsewhere 13 = .ok (.bipush 8, 2) := by decide +kernel
theorem dX6_canGoElsewhere_15 : decode cX6_canGoElsewhere 15 = .ok (.if_icmp .ne 7, 3) := by decide +kernel
theorem dX6_canGoElsewhere_18 : decode cX6_canGoElsewhere 18 = .ok (.iconst 1, 1) := by decide +kernel
theorem dX6_canGoElsewhere_19 : decode cX6_canGoElsewhere 19 = .ok (.goto 4, 3) := by decide +kernel
theorem dX6_canGoElsewhere_22 : decode cX6_canGoElsewhere 22 = .ok (.iconst 0, 1) := by decide +kernel
theorem dX6_canGoElsewhere_23 : decode cX6_canGoElsewhere 23 = .ok (.ireturn, 1) := by decide +kernel
