theorem dX0_init_0 : decode cX0_init 0 = .ok (.aload_n 0, 1) := by decide +kernel
theorem dX0_init_1 : decode cX0_init 1 = .ok (.invokespecial 3, 3) := by decide +kernel
theorem dX0_init_4 : decode cX0_init 4 = .ok (.aload_n 0, 1) := by decide +kernel
theorem dX0_init_5 : decode cX0_init 5 = .ok (.bipush 6, 2) := by decide +kernel
theorem dX0_init_7 : decode cX0_init 7 = .ok (.newarray .int, 2) := by decide +kernel
theorem dX0_init_9 : decode cX0_init 9 = .ok (.putfield 9, 3) := by decide +kernel
theorem dX0_init_12 : decode cX0_init 12 = .ok (.aload_n 0, 1) := by decide +kernel
theorem dX0_init_13 : decode cX0_init 13 = .ok (.bipush 6, 2) := by decide +kernel
theorem dX0_init_15 : decode cX0_init 15 = .ok (.newarray .int, 2) := by decide +kernel
theorem dX0_init_17 : decode cX0_init 17 = .ok (.putfield 15, 3) := by decide +kernel
theorem dX0_init_20 : decode cX0_init 20 = .ok (.aload_n 0, 1) := by decide +kernel
theorem dX0_init_21 : decode cX0_init 21 = .ok (.aload_n 1, 1) := by decide +kernel
theorem dX0_init_22 : decode cX0_init 22 = .ok (.putfield 18, 3) := by decide +kernel
theorem dX0_init_25 : decode cX0_init 25 = .ok (.aload_n 0, 1) := by decide +kernel
theorem dX0_init_26 : decode cX0_init 26 = .ok (.aload_n 2, 1) := by decide +kernel
theorem dX0_init_27 : decode cX0_init 27 = .ok (.putfield 22, 3) := by decide +kernel
theorem dX0_init_30 : decode cX0_init 30 = .ok (.return_, 1) := by decide +kernel
theorem dX0_empty_0 : decode cX0_empty 0 = .ok (.aload_n 0, 1) := by decide +kernel
theorem dX0_empty_1 : decode cX0_empty 1 = .ok (.iconst 0, 1) := by decide +kernel
theorem dX0_empty_2 : decode cX0_empty 2 = .ok (.putfield 26, 3) := by decide +kernel
theorem dX0_empty_5 : decode cX0_empty 5 = .ok (.aload_n 0, 1) := by decide +kernel
theorem dX0_empty_6 : decode cX0_empty 6 = .ok (.iconst 0, 1) := by decide +kernel
theorem dX0_empty_7 : decode cX0_empty 7 = .ok (.putfield 30, 3) := by decide +kernel
theorem dX0_empty_10 : decode cX0_empty 10 = .ok (.aload_n 0, 1) := by decide +kernel
theorem dX0_empty_11 : decode cX0_empty 11 = .ok (.iconst 0, 1) := by decide +kernel
theorem dX0_empty_12 : decode cX0_empty 12 = .ok (.putfield 33, 3) := by decide +kernel
theorem dX0_empty_15 : decode cX0_empty 15 = .ok (.aload_n 0, 1) := by decide +kernel
theorem dX0_empty_16 : decode cX0_empty 16 = .ok (.iconst 0, 1) := by decide +kernel
theorem dX0_empty_17 : decode cX0_empty 17 = .ok (.putfield 36, 3) := by decide +kernel
theorem dX0_empty_20 : decode cX0_empty 20 = .ok (.aload_n 0, 1) := by decide +kernel
theorem dX0_empty_21 : decode cX0_empty 21 = .ok (.iconst 0, 1) := by decide +kernel
theorem dX0_empty_22 : decode cX0_empty 22 = .ok (.putfield 39, 3) := by decide +kernel
theorem dX0_empty_25 : decode cX0_empty 25 = .ok (.aload_n 0, 1) := by decide +kernel
theorem dX0_empty_26 : decode cX0_empty 26 = .ok (.iconst 0, 1) := by decide +kernel
theorem dX0_empty_27 : decode cX0_empty 27 = .ok (.putfield 42, 3) := by decide +kernel
theorem dX0_empty_30 : decode cX0_empty 30 = .ok (.aload_n 0, 1) := by decide +kernel
theorem dX0_empty_31 : decode cX0_empty 31 = .ok (.iconst 0, 1) := by decide +kernel
theorem dX0_empty_32 : decode cX0_empty 32 = .ok (.putfield 45, 3) := by decide +kernel
theorem dX0_empty_35 : decode cX0_empty 35 = .ok (.aload_n 0, 1) := by decide +kernel
theorem dX0_empty_36 : decode cX0_empty 36 = .ok (.iconst 0, 1) := by decide +kernel
theorem dX0_empty_37 : decode cX0_empty 37 = .ok (.putfield 48, 3) := by decide +kernel
theorem dX0_empty_40 : decode cX0_empty 40 = .ok (.aload_n 0, 1) := by decide +kernel
theorem dX0_empty_41 : decode cX0_empty 41 = .ok (.iconst 0, 1) := by decide +kernel
theorem dX0_empty_42 : decode cX0_empty 42 = .ok (.putfield 51, 3) := by decide +kernel
theorem dX0_empty_45 : decode cX0_empty 45 = .ok (.aload_n 0, 1) := by decide +kernel
theorem dX0_empty_46 : decode cX0_empty 46 = .ok (.iconst 0, 1) := by decide +kernel
theorem dX0_empty_47 : decode cX0_empty 47 = .ok (.putfield 54, 3) := by decide +kernel
theorem dX0_empty_50 : decode cX0_empty 50 = .ok (.return_, 1) := by decide +kernel
theorem dX0_begin_0 : decode cX0_begin 0 = .ok (.aload_n 0, 1) := by decide +kernel
theorem dX0_begin_1 : decode cX0_begin 1 = .ok (.invokevirtual 57, 3) := by decide +kernel
theorem dX0_begin_4 : decode cX0_begin 4 = .ok (.aload_n 0, 1) := by decide +kernel
theorem dX0_begin_5 : decode cX0_begin 5 = .ok (.iload_n 2, 1) := by decide +kernel
theorem dX0_begin_6 : decode cX0_begin 6 = .ok (.putfield 33, 3) := by decide +kernel
theorem dX0_begin_9 : decode cX0_begin 9 = .ok (.aload_n 0, 1) := by decide +kernel
theorem dX0_begin_10 : decode cX0_begin 10 = .ok (.iload_n 3, 1) := by decide +kernel
theorem dX0_begin_11 : decode cX0_begin 11 = .ok (.putfield 36, 3) := by decide +kernel
theorem dX0_begin_14 : decode cX0_begin 14 = .ok (.aload_n 0, 1) := by decide +kernel
theorem dX0_begin_15 : decode cX0_begin 15 = .ok (.iload_n 1, 1) := by decide +kernel
theorem dX0_begin_16 : decode cX0_begin 16 = .ok (.iconst 0, 1) := by decide +kernel
theorem dX0_begin_17 : decode cX0_begin 17 = .ok (.invokevirtual 60, 3) := by decide +kernel
theorem dX0_begin_20 : decode cX0_begin 20 = .ok (.return_, 1) := by decide +kernel
theorem dX0_steps_0 : decode cX0_steps 0 = .ok (.aload_n 0, 1) := by decide +kernel
theorem dX0_steps_1 : decode cX0_steps 1 = .ok (.getfield 42, 3) := by decide +kernel
theorem dX0_steps_4 : decode cX0_steps 4 = .ok (.aload_n 0, 1) := by decide +kernel
theorem dX0_steps_5 : decode cX0_steps 5 = .ok (.getfield 45, 3) := by decide +kernel
theorem dX0_steps_8 : decode cX0_steps 8 = .ok (.iadd, 1) := by decide +kernel
theorem dX0_steps_9 : decode cX0_steps 9 = .ok (.ireturn, 1) := by decide +kernel
theorem dX0_follow_0 : decode cX0_follow 0 = .ok (.iconst 0, 1) := by decide +kernel
theorem dX0_follow_1 : decode cX0_follow 1 = .ok (.istore_n 3, 1) := by decide +kernel
theorem dX0_follow_2 : decode cX0_follow 2 = .ok (.iload_n 3, 1) := by decide +kernel
theorem dX0_follow_3 : decode cX0_follow 3 = .ok (.iload_n 1, 1) := by decide +kernel
theorem dX0_follow_4 : decode cX0_follow 4 = .ok (.if_icmp .ge 21, 3) := by decide +kernel
theorem dX0_follow_7 : decode cX0_follow 7 = .ok (.aload_n 0, 1) := by decide +kernel
theorem dX0_follow_8 : decode cX0_follow 8 = .ok (.getfield 54, 3) := by decide +kernel
theorem dX0_follow_11 : decode cX0_follow 11 = .ok (.ifCond .ne 14, 3) := by decide +kernel
theorem dX0_follow_14 : decode cX0_follow 14 = .ok (.aload_n 0, 1) := by decide +kernel
theorem dX0_follow_15 : decode cX0_follow 15 = .ok (.iload_n 2, 1) := by decide +kernel
theorem dX0_follow_16 : decode cX0_follow 16 = .ok (.invokevirtual 64, 3) := by decide +kernel
theorem dX0_follow_19 : decode cX0_follow 19 = .ok (.iinc 3 1, 3) := by decide +kernel
theorem dX0_follow_22 : decode cX0_follow 22 = .ok (.goto (-20), 3) := by decide +kernel
theorem dX0_follow_25 : decode cX0_follow 25 = .ok (.aload_n 0, 1) := by decide +kernel
theorem dX0_follow_26 : decode cX0_follow 26 = .ok (.getfield 54, 3) := by decide +kernel
theorem dX0_follow_29 : decode cX0_follow 29 = .ok (.ifCond .ne 9, 3) := by decide +kernel
theorem dX0_follow_32 : decode cX0_follow 32 = .ok (.aload_n 0, 1) := by decide +kernel
theorem dX0_follow_33 : decode cX0_follow 33 = .ok (.bipush (-4), 2) := by decide +kernel
theorem dX0_follow_35 : decode cX0_follow 35 = .ok (.putfield 54, 3) := by decide +kernel
theorem dX0_follow_38 : decode cX0_follow 38 = .ok (.aload_n 0, 1) := by decide +kernel
theorem dX0_follow_39 : decode cX0_follow 39 = .ok (.aload_n 0, 1) := by decide +kernel
theorem dX0_follow_40 : decode cX0_follow 40 = .ok (.getfield 18, 3) := by decide +kernel
theorem dX0_follow_43 : decode cX0_follow 43 = .ok (.getfield 68, 3) := by decide +kernel
theorem dX0_follow_46 : decode cX0_follow 46 = .ok (.aload_n 0, 1) := by decide +kernel
theorem dX0_follow_47 : decode cX0_follow 47 = .ok (.getfield 18, 3) := by decide +kernel
theorem dX0_follow_50 : decode cX0_follow 50 = .ok (.getfield 73, 3) := by decide +kernel
theorem dX0_follow_53 : decode cX0_follow 53 = .ok (.iconst (-1), 1) := by decide +kernel
theorem dX0_follow_54 : decode cX0_follow 54 = .ok (.ixor, 1) := by decide +kernel
theorem dX0_follow_55 : decode cX0_follow 55 = .ok (.iand, 1) := by decide +kernel
theorem dX0_follow_56 : decode cX0_follow 56 = .ok (.invokestatic 76, 3) := by decide +kernel
theorem dX0_follow_59 : decode cX0_follow 59 = .ok (.putfield 48, 3) := by decide +kernel
theorem dX0_follow_62 : decode cX0_follow 62 = .ok (.aload_n 0, 1) := by decide +kernel
theorem dX0_follow_63 : decode cX0_follow 63 = .ok (.aload_n 0, 1) := by decide +kernel
theorem dX0_follow_64 : decode cX0_follow 64 = .ok (.getfield 18, 3) := by decide +kernel
theorem dX0_follow_67 : decode cX0_follow 67 = .ok (.getfield 82, 3) := by decide +kernel
theorem dX0_follow_70 : decode cX0_follow 70 = .ok (.putfield 51, 3) := by decide +kernel
theorem dX0_follow_73 : decode cX0_follow 73 = .ok (.return_, 1) := by decide +kernel
theorem dX0_cameToTheSameAs_0 : decode cX0_cameToTheSameAs 0 = .ok (.aload_n 0, 1) := by decide +kernel
theorem dX0_cameToTheSameAs_1 : decode cX0_cameToTheSameAs 1 = .ok (.getfield 54, 3) := by decide +kernel
theorem dX0_cameToTheSameAs_4 : decode cX0_cameToTheSameAs 4 = .ok (.aload_n 1, 1) := by decide +kernel
theorem dX0_cameToTheSameAs_5 : decode cX0_cameToTheSameAs 5 = .ok (.getfield 54, 3) := by decide +kernel
theorem dX0_cameToTheSameAs_8 : decode cX0_cameToTheSameAs 8 = .ok (.if_icmp .ne 65, 3) := by decide +kernel
theorem dX0_cameToTheSameAs_11 : decode cX0_cameToTheSameAs 11 = .ok (.aload_n 0, 1) := by decide +kernel
theorem dX0_cameToTheSameAs_12 : decode cX0_cameToTheSameAs 12 = .ok (.getfield 33, 3) := by decide +kernel
theorem dX0_cameToTheSameAs_15 : decode cX0_cameToTheSameAs 15 = .ok (.aload_n 1, 1) := by decide +kernel
theorem dX0_cameToTheSameAs_16 : decode cX0_cameToTheSameAs 16 = .ok (.getfield 33, 3) := by decide +kernel
theorem dX0_cameToTheSameAs_19 : decode cX0_cameToTheSameAs 19 = .ok (.if_icmp .ne 54, 3) := by decide +kernel
theorem dX0_cameToTheSameAs_22 : decode cX0_cameToTheSameAs 22 = .ok (.aload_n 0, 1) := by decide +kernel
theorem dX0_cameToTheSameAs_23 : decode cX0_cameToTheSameAs 23 = .ok (.getfield 36, 3) := by decide +kernel
theorem dX0_cameToTheSameAs_26 : decode cX0_cameToTheSameAs 26 = .ok (.aload_n 1, 1) := by decide +kernel
theorem dX0_cameToTheSameAs_27 : decode cX0_cameToTheSameAs 27 = .ok (.getfield 36, 3) := by decide +kernel
theorem dX0_cameToTheSameAs_30 : decode cX0_cameToTheSameAs 30 = .ok (.if_icmp .ne 43, 3) := by decide +kernel
theorem dX0_cameToTheSameAs_33 : decode cX0_cameToTheSameAs 33 = .ok (.aload_n 0, 1) := by decide +kernel
theorem dX0_cameToTheSameAs_34 : decode cX0_cameToTheSameAs 34 = .ok (.invokevirtual 83, 3) := by decide +kernel
theorem dX0_cameToTheSameAs_37 : decode cX0_cameToTheSameAs 37 = .ok (.aload_n 1, 1) := by decide +kernel
theorem dX0_cameToTheSameAs_38 : decode cX0_cameToTheSameAs 38 = .ok (.invokevirtual 83, 3) := by decide +kernel
theorem dX0_cameToTheSameAs_41 : decode cX0_cameToTheSameAs 41 = .ok (.if_icmp .ne 32, 3) := by decide +kernel
theorem dX0_cameToTheSameAs_44 : decode cX0_cameToTheSameAs 44 = .ok (.aload_n 0, 1) := by decide +kernel
theorem dX0_cameToTheSameAs_45 : decode cX0_cameToTheSameAs 45 = .ok (.getfield 39, 3) := by decide +kernel
theorem dX0_cameToTheSameAs_48 : decode cX0_cameToTheSameAs 48 = .ok (.aload_n 1, 1) := by decide +kernel
theorem dX0_cameToTheSameAs_49 : decode cX0_cameToTheSameAs 49 = .ok (.getfield 39, 3) := by decide +kernel
theorem dX0_cameToTheSameAs_52 : decode cX0_cameToTheSameAs 52 = .ok (.if_icmp .ne 21, 3) := by decide +kernel
theorem dX0_cameToTheSameAs_55 : decode cX0_cameToTheSameAs 55 = .ok (.aload_n 0, 1) := by decide +kernel
theorem dX0_cameToTheSameAs_56 : decode cX0_cameToTheSameAs 56 = .ok (.getfield 18, 3) := by decide +kernel
theorem dX0_cameToTheSameAs_59 : decode cX0_cameToTheSameAs 59 = .ok (.aload_n 1, 1) := by decide +kernel
theorem dX0_cameToTheSameAs_60 : decode cX0_cameToTheSameAs 60 = .ok (.getfield 18, 3) := by decide +kernel
theorem dX0_cameToTheSameAs_63 : decode cX0_cameToTheSameAs 63 = .ok (.invokevirtual 87, 3) := by decide +kernel
theorem dX0_cameToTheSameAs_66 : decode cX0_cameToTheSameAs 66 = .ok (.ifCond .eq 7, 3) := by decide +kernel
theorem dX0_cameToTheSameAs_69 : decode cX0_cameToTheSameAs 69 = .ok (.iconst 1, 1) := by decide +kernel
theorem dX0_cameToTheSameAs_70 : decode cX0_cameToTheSameAs 70 = .ok (.goto 4, 3) := by decide +kernel
theorem dX0_cameToTheSameAs_73 : decode cX0_cameToTheSameAs 73 = .ok (.iconst 0, 1) := by decide +kernel
theorem dX0_cameToTheSameAs_74 : decode cX0_cameToTheSameAs 74 = .ok (.ireturn, 1) := by decide +kernel
theorem dX0_enter_0 : decode cX0_enter 0 = .ok (.aload_n 0, 1) := by decide +kernel
theorem dX0_enter_1 : decode cX0_enter 1 = .ok (.getfield 26, 3) := by decide +kernel
theorem dX0_enter_4 : decode cX0_enter 4 = .ok (.bipush 6, 2) := by decide +kernel
theorem dX0_enter_6 : decode cX0_enter 6 = .ok (.if_icmp .ge 61, 3) := by decide +kernel
theorem dX0_enter_9 : decode cX0_enter 9 = .ok (.aload_n 0, 1) := by decide +kernel
theorem dX0_enter_10 : decode cX0_enter 10 = .ok (.getfield 9, 3) := by decide +kernel
theorem dX0_enter_13 : decode cX0_enter 13 = .ok (.aload_n 0, 1) := by decide +kernel
theorem dX0_enter_14 : decode cX0_enter 14 = .ok (.getfield 26, 3) := by decide +kernel
theorem dX0_enter_17 : decode cX0_enter 17 = .ok (.iload_n 1, 1) := by decide +kernel
theorem dX0_enter_18 : decode cX0_enter 18 = .ok (.iastore, 1) := by decide +kernel
theorem dX0_enter_19 : decode cX0_enter 19 = .ok (.aload_n 0, 1) := by decide +kernel
theorem dX0_enter_20 : decode cX0_enter 20 = .ok (.getfield 15, 3) := by decide +kernel
theorem dX0_enter_23 : decode cX0_enter 23 = .ok (.aload_n 0, 1) := by decide +kernel
theorem dX0_enter_24 : decode cX0_enter 24 = .ok (.getfield 26, 3) := by decide +kernel
theorem dX0_enter_27 : decode cX0_enter 27 = .ok (.iload_n 2, 1) := by decide +kernel
theorem dX0_enter_28 : decode cX0_enter 28 = .ok (.iastore, 1) := by decide +kernel
theorem dX0_enter_29 : decode cX0_enter 29 = .ok (.aload_n 0, 1) := by decide +kernel
theorem dX0_enter_30 : decode cX0_enter 30 = .ok (.dup, 1) := by decide +kernel
theorem dX0_enter_31 : decode cX0_enter 31 = .ok (.getfield 26, 3) := by decide +kernel
theorem dX0_enter_34 : decode cX0_enter 34 = .ok (.iconst 1, 1) := by decide +kernel
theorem dX0_enter_35 : decode cX0_enter 35 = .ok (.iadd, 1) := by decide +kernel
theorem dX0_enter_36 : decode cX0_enter 36 = .ok (.putfield 26, 3) := by decide +kernel
theorem dX0_enter_39 : decode cX0_enter 39 = .ok (.aload_n 0, 1) := by decide +kernel
theorem dX0_enter_40 : decode cX0_enter 40 = .ok (.aload_n 0, 1) := by decide +kernel
theorem dX0_enter_41 : decode cX0_enter 41 = .ok (.getfield 30, 3) := by decide +kernel
theorem dX0_enter_44 : decode cX0_enter 44 = .ok (.aload_n 0, 1) := by decide +kernel
theorem dX0_enter_45 : decode cX0_enter 45 = .ok (.getfield 26, 3) := by decide +kernel
theorem dX0_enter_48 : decode cX0_enter 48 = .ok (.invokestatic 91, 3) := by decide +kernel
theorem dX0_enter_51 : decode cX0_enter 51 = .ok (.putfield 30, 3) := by decide +kernel
theorem dX0_enter_54 : decode cX0_enter 54 = .ok (.aload_n 0, 1) := by decide +kernel
theorem dX0_enter_55 : decode cX0_enter 55 = .ok (.aload_n 0, 1) := by decide +kernel
theorem dX0_enter_56 : decode cX0_enter 56 = .ok (.getfield 22, 3) := by decide +kernel
theorem dX0_enter_59 : decode cX0_enter 59 = .ok (.iload_n 1, 1) := by decide +kernel
theorem dX0_enter_60 : decode cX0_enter 60 = .ok (.aaload, 1) := by decide +kernel
theorem dX0_enter_61 : decode cX0_enter 61 = .ok (.getfield 97, 3) := by decide +kernel
theorem dX0_enter_64 : decode cX0_enter 64 = .ok (.putfield 39, 3) := by decide +kernel
theorem dX0_enter_67 : decode cX0_enter 67 = .ok (.return_, 1) := by decide +kernel
theorem dX0_step_0 : decode cX0_step 0 = .ok (.aload_n 0, 1) := by decide +kernel
theorem dX0_step_1 : decode cX0_step 1 = .ok (.invokevirtual 100, 3) := by decide +kernel
theorem dX0_step_4 : decode cX0_step 4 = .ok (.istore_n 2, 1) := by decide +kernel
theorem dX0_step_5 : decode cX0_step 5 = .ok (.iload_n 2, 1) := by decide +kernel
theorem dX0_step_6 : decode cX0_step 6 = .ok (.ifCond .ne 41, 3) := by decide +kernel
theorem dX0_step_9 : decode cX0_step 9 = .ok (.aload_n 0, 1) := by decide +kernel
theorem dX0_step_10 : decode cX0_step 10 = .ok (.aload_n 0, 1) := by decide +kernel
theorem dX0_step_11 : decode cX0_step 11 = .ok (.getfield 18, 3) := by decide +kernel
theorem dX0_step_14 : decode cX0_step 14 = .ok (.getfield 104, 3) := by decide +kernel
theorem dX0_step_17 : decode cX0_step 17 = .ok (.aload_n 0, 1) := by decide +kernel
theorem dX0_step_18 : decode cX0_step 18 = .ok (.getfield 39, 3) := by decide +kernel
theorem dX0_step_21 : decode cX0_step 21 = .ok (.iaload, 1) := by decide +kernel
theorem dX0_step_22 : decode cX0_step 22 = .ok (.putfield 107, 3) := by decide +kernel
theorem dX0_step_25 : decode cX0_step 25 = .ok (.aload_n 0, 1) := by decide +kernel
theorem dX0_step_26 : decode cX0_step 26 = .ok (.aload_n 0, 1) := by decide +kernel
theorem dX0_step_27 : decode cX0_step 27 = .ok (.getfield 18, 3) := by decide +kernel
theorem dX0_step_30 : decode cX0_step 30 = .ok (.getfield 104, 3) := by decide +kernel
theorem dX0_step_33 : decode cX0_step 33 = .ok (.aload_n 0, 1) := by decide +kernel
theorem dX0_step_34 : decode cX0_step 34 = .ok (.getfield 39, 3) := by decide +kernel
theorem dX0_step_37 : decode cX0_step 37 = .ok (.iconst 1, 1) := by decide +kernel
theorem dX0_step_38 : decode cX0_step 38 = .ok (.iadd, 1) := by decide +kernel
theorem dX0_step_39 : decode cX0_step 39 = .ok (.sipush 255, 3) := by decide +kernel
theorem dX0_step_42 : decode cX0_step 42 = .ok (.iand, 1) := by decide +kernel
theorem dX0_step_43 : decode cX0_step 43 = .ok (.iaload, 1) := by decide +kernel
theorem dX0_step_44 : decode cX0_step 44 = .ok (.putfield 110, 3) := by decide +kernel
theorem dX0_step_47 : decode cX0_step 47 = .ok (.aload_n 0, 1) := by decide +kernel
theorem dX0_step_48 : decode cX0_step 48 = .ok (.getfield 107, 3) := by decide +kernel
theorem dX0_step_51 : decode cX0_step 51 = .ok (.invokestatic 113, 3) := by decide +kernel
theorem dX0_step_54 : decode cX0_step 54 = .ok (.ifCond .ne 9, 3) := by decide +kernel
theorem dX0_step_57 : decode cX0_step 57 = .ok (.aload_n 0, 1) := by decide +kernel
theorem dX0_step_58 : decode cX0_step 58 = .ok (.iconst (-1), 1) := by decide +kernel
theorem dX0_step_59 : decode cX0_step 59 = .ok (.putfield 54, 3) := by decide +kernel
theorem dX0_step_62 : decode cX0_step 62 = .ok (.return_, 1) := by decide +kernel
theorem dX0_step_63 : decode cX0_step 63 = .ok (.iload_n 2, 1) := by decide +kernel
theorem dX0_step_64 : decode cX0_step 64 = .ok (.ifCond .eq 16, 3) := by decide +kernel
theorem dX0_step_67 : decode cX0_step 67 = .ok (.aload_n 0, 1) := by decide +kernel
theorem dX0_step_68 : decode cX0_step 68 = .ok (.dup, 1) := by decide +kernel
theorem dX0_step_69 : decode cX0_step 69 = .ok (.getfield 42, 3) := by decide +kernel
theorem dX0_step_72 : decode cX0_step 72 = .ok (.iconst 1, 1) := by decide +kernel
theorem dX0_step_73 : decode cX0_step 73 = .ok (.iadd, 1) := by decide +kernel
theorem dX0_step_74 : decode cX0_step 74 = .ok (.putfield 42, 3) := by decide +kernel
theorem dX0_step_77 : decode cX0_step 77 = .ok (.goto 13, 3) := by decide +kernel
theorem dX0_step_80 : decode cX0_step 80 = .ok (.aload_n 0, 1) := by decide +kernel
theorem dX0_step_81 : decode cX0_step 81 = .ok (.dup, 1) := by decide +kernel
theorem dX0_step_82 : decode cX0_step 82 = .ok (.getfield 45, 3) := by decide +kernel
theorem dX0_step_85 : decode cX0_step 85 = .ok (.iconst 1, 1) := by decide +kernel
theorem dX0_step_86 : decode cX0_step 86 = .ok (.iadd, 1) := by decide +kernel
theorem dX0_step_87 : decode cX0_step 87 = .ok (.putfield 45, 3) := by decide +kernel
theorem dX0_step_90 : decode cX0_step 90 = .ok (.aload_n 0, 1) := by decide +kernel
theorem dX0_step_91 : decode cX0_step 91 = .ok (.getfield 39, 3) := by decide +kernel
theorem dX0_step_94 : decode cX0_step 94 = .ok (.aload_n 0, 1) := by decide +kernel
theorem dX0_step_95 : decode cX0_step 95 = .ok (.getfield 107, 3) := by decide +kernel
theorem dX0_step_98 : decode cX0_step 98 = .ok (.invokestatic 117, 3) := by decide +kernel
theorem dX0_step_101 : decode cX0_step 101 = .ok (.iadd, 1) := by decide +kernel
theorem dX0_step_102 : decode cX0_step 102 = .ok (.sipush 255, 3) := by decide +kernel
theorem dX0_step_105 : decode cX0_step 105 = .ok (.iand, 1) := by decide +kernel
theorem dX0_step_106 : decode cX0_step 106 = .ok (.istore_n 3, 1) := by decide +kernel
theorem dX0_step_107 : decode cX0_step 107 = .ok (.aload_n 0, 1) := by decide +kernel
theorem dX0_step_108 : decode cX0_step 108 = .ok (.getfield 107, 3) := by decide +kernel
theorem dX0_step_111 : decode cX0_step 111 = .ok (.ifCond .ne 10, 3) := by decide +kernel
theorem dX0_step_114 : decode cX0_step 114 = .ok (.aload_n 0, 1) := by decide +kernel
theorem dX0_step_115 : decode cX0_step 115 = .ok (.invokevirtual 120, 3) := by decide +kernel
theorem dX0_step_118 : decode cX0_step 118 = .ok (.goto 69, 3) := by decide +kernel
theorem dX0_step_121 : decode cX0_step 121 = .ok (.aload_n 0, 1) := by decide +kernel
theorem dX0_step_122 : decode cX0_step 122 = .ok (.getfield 107, 3) := by decide +kernel
theorem dX0_step_125 : decode cX0_step 125 = .ok (.bipush 9, 2) := by decide +kernel
theorem dX0_step_127 : decode cX0_step 127 = .ok (.if_icmp .ne 12, 3) := by decide +kernel
theorem dX0_step_130 : decode cX0_step 130 = .ok (.aload_n 0, 1) := by decide +kernel
theorem dX0_step_131 : decode cX0_step 131 = .ok (.iload_n 3, 1) := by decide +kernel
theorem dX0_step_132 : decode cX0_step 132 = .ok (.iload_n 1, 1) := by decide +kernel
theorem dX0_step_133 : decode cX0_step 133 = .ok (.invokevirtual 123, 3) := by decide +kernel
theorem dX0_step_136 : decode cX0_step 136 = .ok (.goto 51, 3) := by decide +kernel
theorem dX0_step_139 : decode cX0_step 139 = .ok (.aload_n 0, 1) := by decide +kernel
theorem dX0_step_140 : decode cX0_step 140 = .ok (.getfield 107, 3) := by decide +kernel
theorem dX0_step_143 : decode cX0_step 143 = .ok (.invokestatic 126, 3) := by decide +kernel
theorem dX0_step_146 : decode cX0_step 146 = .ok (.ifCond .eq 32, 3) := by decide +kernel
theorem dX0_step_149 : decode cX0_step 149 = .ok (.aload_n 0, 1) := by decide +kernel
theorem dX0_step_150 : decode cX0_step 150 = .ok (.aload_n 0, 1) := by decide +kernel
theorem dX0_step_151 : decode cX0_step 151 = .ok (.invokevirtual 129, 3) := by decide +kernel
theorem dX0_step_154 : decode cX0_step 154 = .ok (.ifCond .eq 17, 3) := by decide +kernel
theorem dX0_step_157 : decode cX0_step 157 = .ok (.iload_n 3, 1) := by decide +kernel
theorem dX0_step_158 : decode cX0_step 158 = .ok (.aload_n 0, 1) := by decide +kernel
theorem dX0_step_159 : decode cX0_step 159 = .ok (.getfield 110, 3) := by decide +kernel
theorem dX0_step_162 : decode cX0_step 162 = .ok (.i2b, 1) := by decide +kernel
theorem dX0_step_163 : decode cX0_step 163 = .ok (.iadd, 1) := by decide +kernel
theorem dX0_step_164 : decode cX0_step 164 = .ok (.sipush 255, 3) := by decide +kernel
theorem dX0_step_167 : decode cX0_step 167 = .ok (.iand, 1) := by decide +kernel
theorem dX0_step_168 : decode cX0_step 168 = .ok (.goto 4, 3) := by decide +kernel
theorem dX0_step_171 : decode cX0_step 171 = .ok (.iload_n 3, 1) := by decide +kernel
theorem dX0_step_172 : decode cX0_step 172 = .ok (.putfield 39, 3) := by decide +kernel
theorem dX0_step_175 : decode cX0_step 175 = .ok (.goto 12, 3) := by decide +kernel
theorem dX0_step_178 : decode cX0_step 178 = .ok (.aload_n 0, 1) := by decide +kernel
theorem dX0_step_179 : decode cX0_step 179 = .ok (.invokevirtual 132, 3) := by decide +kernel
theorem dX0_step_182 : decode cX0_step 182 = .ok (.aload_n 0, 1) := by decide +kernel
theorem dX0_step_183 : decode cX0_step 183 = .ok (.iload_n 3, 1) := by decide +kernel
theorem dX0_step_184 : decode cX0_step 184 = .ok (.putfield 39, 3) := by decide +kernel
theorem dX0_step_187 : decode cX0_step 187 = .ok (.return_, 1) := by decide +kernel
theorem dX0_fetchFromMember_0 : decode cX0_fetchFromMember 0 = .ok (.aload_n 0, 1) := by decide +kernel
theorem dX0_fetchFromMember_1 : decode cX0_fetchFromMember 1 = .ok (.getfield 26, 3) := by decide +kernel
theorem dX0_fetchFromMember_4 : decode cX0_fetchFromMember 4 = .ok (.iconst 1, 1) := by decide +kernel
theorem dX0_fetchFromMember_5 : decode cX0_fetchFromMember 5 = .ok (.if_icmp .lt 24, 3) := by decide +kernel
theorem dX0_fetchFromMember_8 : decode cX0_fetchFromMember 8 = .ok (.aload_n 0, 1) := by decide +kernel
theorem dX0_fetchFromMember_9 : decode cX0_fetchFromMember 9 = .ok (.getfield 18, 3) := by decide +kernel
theorem dX0_fetchFromMember_12 : decode cX0_fetchFromMember 12 = .ok (.aload_n 0, 1) := by decide +kernel
theorem dX0_fetchFromMember_13 : decode cX0_fetchFromMember 13 = .ok (.getfield 9, 3) := by decide +kernel
theorem dX0_fetchFromMember_16 : decode cX0_fetchFromMember 16 = .ok (.aload_n 0, 1) := by decide +kernel
theorem dX0_fetchFromMember_17 : decode cX0_fetchFromMember 17 = .ok (.getfield 26, 3) := by decide +kernel
theorem dX0_fetchFromMember_20 : decode cX0_fetchFromMember 20 = .ok (.iconst 1, 1) := by decide +kernel
theorem dX0_fetchFromMember_21 : decode cX0_fetchFromMember 21 = .ok (.isub, 1) := by decide +kernel
theorem dX0_fetchFromMember_22 : decode cX0_fetchFromMember 22 = .ok (.iaload, 1) := by decide +kernel
theorem dX0_fetchFromMember_23 : decode cX0_fetchFromMember 23 = .ok (.invokevirtual 135, 3) := by decide +kernel
theorem dX0_fetchFromMember_26 : decode cX0_fetchFromMember 26 = .ok (.ifCond .ne 5, 3) := by decide +kernel
theorem dX0_fetchFromMember_29 : decode cX0_fetchFromMember 29 = .ok (.iconst 0, 1) := by decide +kernel
theorem dX0_fetchFromMember_30 : decode cX0_fetchFromMember 30 = .ok (.ireturn, 1) := by decide +kernel
theorem dX0_fetchFromMember_31 : decode cX0_fetchFromMember 31 = .ok (.aload_n 0, 1) := by decide +kernel
theorem dX0_fetchFromMember_32 : decode cX0_fetchFromMember 32 = .ok (.getfield 22, 3) := by decide +kernel
theorem dX0_fetchFromMember_35 : decode cX0_fetchFromMember 35 = .ok (.aload_n 0, 1) := by decide +kernel
theorem dX0_fetchFromMember_36 : decode cX0_fetchFromMember 36 = .ok (.getfield 9, 3) := by decide +kernel
theorem dX0_fetchFromMember_39 : decode cX0_fetchFromMember 39 = .ok (.aload_n 0, 1) := by decide +kernel
theorem dX0_fetchFromMember_40 : decode cX0_fetchFromMember 40 = .ok (.getfield 26, 3) := by decide +kernel
theorem dX0_fetchFromMember_43 : decode cX0_fetchFromMember 43 = .ok (.iconst 1, 1) := by decide +kernel
theorem dX0_fetchFromMember_44 : decode cX0_fetchFromMember 44 = .ok (.isub, 1) := by decide +kernel
theorem dX0_fetchFromMember_45 : decode cX0_fetchFromMember 45 = .ok (.iaload, 1) := by decide +kernel
theorem dX0_fetchFromMember_46 : decode cX0_fetchFromMember 46 = .ok (.aaload, 1) := by decide +kernel
theorem dX0_fetchFromMember_47 : decode cX0_fetchFromMember 47 = .ok (.getfield 138, 3) := by decide +kernel
theorem dX0_fetchFromMember_50 : decode cX0_fetchFromMember 50 = .ok (.astore_n 1, 1) := by decide +kernel
theorem dX0_fetchFromMember_51 : decode cX0_fetchFromMember 51 = .ok (.aload_n 1, 1) := by decide +kernel
theorem dX0_fetchFromMember_52 : decode cX0_fetchFromMember 52 = .ok (.aload_n 0, 1) := by decide +kernel
theorem dX0_fetchFromMember_53 : decode cX0_fetchFromMember 53 = .ok (.getfield 39, 3) := by decide +kernel
theorem dX0_fetchFromMember_56 : decode cX0_fetchFromMember 56 = .ok (.invokevirtual 142, 3) := by decide +kernel
theorem dX0_fetchFromMember_59 : decode cX0_fetchFromMember 59 = .ok (.istore_n 2, 1) := by decide +kernel
theorem dX0_fetchFromMember_60 : decode cX0_fetchFromMember 60 = .ok (.iload_n 2, 1) := by decide +kernel
theorem dX0_fetchFromMember_61 : decode cX0_fetchFromMember 61 = .ok (.ifCond .ge 5, 3) := by decide +kernel
theorem dX0_fetchFromMember_64 : decode cX0_fetchFromMember 64 = .ok (.iconst 0, 1) := by decide +kernel
theorem dX0_fetchFromMember_65 : decode cX0_fetchFromMember 65 = .ok (.ireturn, 1) := by decide +kernel
theorem dX0_fetchFromMember_66 : decode cX0_fetchFromMember 66 = .ok (.aload_n 0, 1) := by decide +kernel
theorem dX0_fetchFromMember_67 : decode cX0_fetchFromMember 67 = .ok (.aload_n 1, 1) := by decide +kernel
theorem dX0_fetchFromMember_68 : decode cX0_fetchFromMember 68 = .ok (.getfield 147, 3) := by decide +kernel
theorem dX0_fetchFromMember_71 : decode cX0_fetchFromMember 71 = .ok (.iload_n 2, 1) := by decide +kernel
theorem dX0_fetchFromMember_72 : decode cX0_fetchFromMember 72 = .ok (.iaload, 1) := by decide +kernel
theorem dX0_fetchFromMember_73 : decode cX0_fetchFromMember 73 = .ok (.putfield 107, 3) := by decide +kernel
theorem dX0_fetchFromMember_76 : decode cX0_fetchFromMember 76 = .ok (.aload_n 0, 1) := by decide +kernel
theorem dX0_fetchFromMember_77 : decode cX0_fetchFromMember 77 = .ok (.aload_n 1, 1) := by decide +kernel
theorem dX0_fetchFromMember_78 : decode cX0_fetchFromMember 78 = .ok (.getfield 150, 3) := by decide +kernel
theorem dX0_fetchFromMember_81 : decode cX0_fetchFromMember 81 = .ok (.iload_n 2, 1) := by decide +kernel
theorem dX0_fetchFromMember_82 : decode cX0_fetchFromMember 82 = .ok (.iaload, 1) := by decide +kernel
theorem dX0_fetchFromMember_83 : decode cX0_fetchFromMember 83 = .ok (.putfield 110, 3) := by decide +kernel
theorem dX0_fetchFromMember_86 : decode cX0_fetchFromMember 86 = .ok (.iconst 1, 1) := by decide +kernel
theorem dX0_fetchFromMember_87 : decode cX0_fetchFromMember 87 = .ok (.ireturn, 1) := by decide +kernel
theorem dX0_leave_0 : decode cX0_leave 0 = .ok (.aload_n 0, 1) := by decide +kernel
theorem dX0_leave_1 : decode cX0_leave 1 = .ok (.getfield 26, 3) := by decide +kernel
theorem dX0_leave_4 : decode cX0_leave 4 = .ok (.iconst 1, 1) := by decide +kernel
theorem dX0_leave_5 : decode cX0_leave 5 = .ok (.if_icmp .gt 9, 3) := by decide +kernel
theorem dX0_leave_8 : decode cX0_leave 8 = .ok (.aload_n 0, 1) := by decide +kernel
theorem dX0_leave_9 : decode cX0_leave 9 = .ok (.iconst 1, 1) := by decide +kernel
theorem dX0_leave_10 : decode cX0_leave 10 = .ok (.putfield 54, 3) := by decide +kernel
theorem dX0_leave_13 : decode cX0_leave 13 = .ok (.return_, 1) := by decide +kernel
theorem dX0_leave_14 : decode cX0_leave 14 = .ok (.aload_n 0, 1) := by decide +kernel
theorem dX0_leave_15 : decode cX0_leave 15 = .ok (.dup, 1) := by decide +kernel
theorem dX0_leave_16 : decode cX0_leave 16 = .ok (.getfield 26, 3) := by decide +kernel
theorem dX0_leave_19 : decode cX0_leave 19 = .ok (.iconst 1, 1) := by decide +kernel
theorem dX0_leave_20 : decode cX0_leave 20 = .ok (.isub, 1) := by decide +kernel
theorem dX0_leave_21 : decode cX0_leave 21 = .ok (.putfield 26, 3) := by decide +kernel
theorem dX0_leave_24 : decode cX0_leave 24 = .ok (.aload_n 0, 1) := by decide +kernel
theorem dX0_leave_25 : decode cX0_leave 25 = .ok (.aload_n 0, 1) := by decide +kernel
theorem dX0_leave_26 : decode cX0_leave 26 = .ok (.getfield 15, 3) := by decide +kernel
theorem dX0_leave_29 : decode cX0_leave 29 = .ok (.aload_n 0, 1) := by decide +kernel
theorem dX0_leave_30 : decode cX0_leave 30 = .ok (.getfield 26, 3) := by decide +kernel
theorem dX0_leave_33 : decode cX0_leave 33 = .ok (.iaload, 1) := by decide +kernel
theorem dX0_leave_34 : decode cX0_leave 34 = .ok (.putfield 39, 3) := by decide +kernel
theorem dX0_leave_37 : decode cX0_leave 37 = .ok (.return_, 1) := by decide +kernel
theorem dX0_enterCalled_0 : decode cX0_enterCalled 0 = .ok (.aload_n 0, 1) := by decide +kernel
theorem dX0_enterCalled_1 : decode cX0_enterCalled 1 = .ok (.getfield 26, 3) := by decide +kernel
theorem dX0_enterCalled_4 : decode cX0_enterCalled 4 = .ok (.bipush 6, 2) := by decide +kernel
theorem dX0_enterCalled_6 : decode cX0_enterCalled 6 = .ok (.if_icmp .lt 12, 3) := by decide +kernel
theorem dX0_enterCalled_9 : decode cX0_enterCalled 9 = .ok (.aload_n 0, 1) := by decide +kernel
theorem dX0_enterCalled_10 : decode cX0_enterCalled 10 = .ok (.bipush (-3), 2) := by decide +kernel
theorem dX0_enterCalled_12 : decode cX0_enterCalled 12 = .ok (.putfield 54, 3) := by decide +kernel
theorem dX0_enterCalled_15 : decode cX0_enterCalled 15 = .ok (.goto 29, 3) := by decide +kernel
theorem dX0_enterCalled_18 : decode cX0_enterCalled 18 = .ok (.aload_n 0, 1) := by decide +kernel
theorem dX0_enterCalled_19 : decode cX0_enterCalled 19 = .ok (.getfield 110, 3) := by decide +kernel
theorem dX0_enterCalled_22 : decode cX0_enterCalled 22 = .ok (.iload_n 2, 1) := by decide +kernel
theorem dX0_enterCalled_23 : decode cX0_enterCalled 23 = .ok (.if_icmp .lt 12, 3) := by decide +kernel
theorem dX0_enterCalled_26 : decode cX0_enterCalled 26 = .ok (.aload_n 0, 1) := by decide +kernel
theorem dX0_enterCalled_27 : decode cX0_enterCalled 27 = .ok (.bipush (-2), 2) := by decide +kernel
theorem dX0_enterCalled_29 : decode cX0_enterCalled 29 = .ok (.putfield 54, 3) := by decide +kernel
theorem dX0_enterCalled_32 : decode cX0_enterCalled 32 = .ok (.goto 12, 3) := by decide +kernel
theorem dX0_enterCalled_35 : decode cX0_enterCalled 35 = .ok (.aload_n 0, 1) := by decide +kernel
theorem dX0_enterCalled_36 : decode cX0_enterCalled 36 = .ok (.aload_n 0, 1) := by decide +kernel
theorem dX0_enterCalled_37 : decode cX0_enterCalled 37 = .ok (.getfield 110, 3) := by decide +kernel
theorem dX0_enterCalled_40 : decode cX0_enterCalled 40 = .ok (.iload_n 1, 1) := by decide +kernel
theorem dX0_enterCalled_41 : decode cX0_enterCalled 41 = .ok (.invokevirtual 60, 3) := by decide +kernel
theorem dX0_enterCalled_44 : decode cX0_enterCalled 44 = .ok (.return_, 1) := by decide +kernel
theorem dX0_goesElsewhere_0 : decode cX0_goesElsewhere 0 = .ok (.aload_n 0, 1) := by decide +kernel
theorem dX0_goesElsewhere_1 : decode cX0_goesElsewhere 1 = .ok (.getfield 107, 3) := by decide +kernel
theorem dX0_goesElsewhere_4 : decode cX0_goesElsewhere 4 = .ok (.bipush 7, 2) := by decide +kernel
theorem dX0_goesElsewhere_6 : decode cX0_goesElsewhere 6 = .ok (.if_icmp .ne 16, 3) := by decide +kernel
theorem dX0_goesElsewhere_9 : decode cX0_goesElsewhere 9 = .ok (.aload_n 0, 1) := by decide +kernel
theorem dX0_goesElsewhere_10 : decode cX0_goesElsewhere 10 = .ok (.getfield 33, 3) := by decide +kernel
theorem dX0_goesElsewhere_13 : decode cX0_goesElsewhere 13 = .ok (.ifCond .ne 7, 3) := by decide +kernel
theorem dX0_goesElsewhere_16 : decode cX0_goesElsewhere 16 = .ok (.iconst 1, 1) := by decide +kernel
theorem dX0_goesElsewhere_17 : decode cX0_goesElsewhere 17 = .ok (.goto 4, 3) := by decide +kernel
theorem dX0_goesElsewhere_20 : decode cX0_goesElsewhere 20 = .ok (.iconst 0, 1) := by decide +kernel
theorem dX0_goesElsewhere_21 : decode cX0_goesElsewhere 21 = .ok (.ireturn, 1) := by decide +kernel
theorem dX0_goesElsewhere_22 : decode cX0_goesElsewhere 22 = .ok (.aload_n 0, 1) := by decide +kernel
theorem dX0_goesElsewhere_23 : decode cX0_goesElsewhere 23 = .ok (.getfield 107, 3) := by decide +kernel
theorem dX0_goesElsewhere_26 : decode cX0_goesElsewhere 26 = .ok (.bipush 8, 2) := by decide +kernel
theorem dX0_goesElsewhere_28 : decode cX0_goesElsewhere 28 = .ok (.if_icmp .ne 26, 3) := by decide +kernel
theorem dX0_goesElsewhere_31 : decode cX0_goesElsewhere 31 = .ok (.aload_n 0, 1) := by decide +kernel
theorem dX0_goesElsewhere_32 : decode cX0_goesElsewhere 32 = .ok (.dup, 1) := by decide +kernel
theorem dX0_goesElsewhere_33 : decode cX0_goesElsewhere 33 = .ok (.getfield 36, 3) := by decide +kernel
theorem dX0_goesElsewhere_36 : decode cX0_goesElsewhere 36 = .ok (.iconst 1, 1) := by decide +kernel
theorem dX0_goesElsewhere_37 : decode cX0_goesElsewhere 37 = .ok (.isub, 1) := by decide +kernel
theorem dX0_goesElsewhere_38 : decode cX0_goesElsewhere 38 = .ok (.putfield 36, 3) := by decide +kernel
theorem dX0_goesElsewhere_41 : decode cX0_goesElsewhere 41 = .ok (.aload_n 0, 1) := by decide +kernel
theorem dX0_goesElsewhere_42 : decode cX0_goesElsewhere 42 = .ok (.getfield 36, 3) := by decide +kernel
theorem dX0_goesElsewhere_45 : decode cX0_goesElsewhere 45 = .ok (.ifCond .eq 7, 3) := by decide +kernel
theorem dX0_goesElsewhere_48 : decode cX0_goesElsewhere 48 = .ok (.iconst 1, 1) := by decide +kernel
theorem dX0_goesElsewhere_49 : decode cX0_goesElsewhere 49 = .ok (.goto 4, 3) := by decide +kernel
theorem dX0_goesElsewhere_52 : decode cX0_goesElsewhere 52 = .ok (.iconst 0, 1) := by decide +kernel
theorem dX0_goesElsewhere_53 : decode cX0_goesElsewhere 53 = .ok (.ireturn, 1) := by decide +kernel
theorem dX0_goesElsewhere_54 : decode cX0_goesElsewhere 54 = .ok (.iconst 1, 1) := by decide +kernel
theorem dX0_goesElsewhere_55 : decode cX0_goesElsewhere 55 = .ok (.ireturn, 1) := by decide +kernel
theorem dX0_swap_0 : decode cX0_swap 0 = .ok (.aload_n 0, 1) := by decide +kernel
theorem dX0_swap_1 : decode cX0_swap 1 = .ok (.getfield 33, 3) := by decide +kernel
theorem dX0_swap_4 : decode cX0_swap 4 = .ok (.istore_n 1, 1) := by decide +kernel
theorem dX0_swap_5 : decode cX0_swap 5 = .ok (.aload_n 0, 1) := by decide +kernel
theorem dX0_swap_6 : decode cX0_swap 6 = .ok (.aload_n 0, 1) := by decide +kernel
theorem dX0_swap_7 : decode cX0_swap 7 = .ok (.getfield 36, 3) := by decide +kernel
theorem dX0_swap_10 : decode cX0_swap 10 = .ok (.putfield 33, 3) := by decide +kernel
theorem dX0_swap_13 : decode cX0_swap 13 = .ok (.aload_n 0, 1) := by decide +kernel
theorem dX0_swap_14 : decode cX0_swap 14 = .ok (.iload_n 1, 1) := by decide +kernel
theorem dX0_swap_15 : decode cX0_swap 15 = .ok (.putfield 36, 3) := by decide +kernel
theorem dX0_swap_18 : decode cX0_swap 18 = .ok (.return_, 1) := by decide +kernel
theorem dX0_doPlainAct_0 : decode cX0_doPlainAct 0 = .ok (.aload_n 0, 1) := by decide +kernel
theorem dX0_doPlainAct_1 : decode cX0_doPlainAct 1 = .ok (.getfield 107, 3) := by decide +kernel
theorem dX0_doPlainAct_4 : decode cX0_doPlainAct 4 = .ok (.tableswitch 202 1 12 #[64, 76, 93, 100, 119, 202, 202, 202, 202, 141, 164, 186], 64) := by decide +kernel
theorem dX0_doPlainAct_68 : decode cX0_doPlainAct 68 = .ok (.aload_n 0, 1) := by decide +kernel
theorem dX0_doPlainAct_69 : decode cX0_doPlainAct 69 = .ok (.aload_n 0, 1) := by decide +kernel
theorem dX0_doPlainAct_70 : decode cX0_doPlainAct 70 = .ok (.getfield 110, 3) := by decide +kernel
theorem dX0_doPlainAct_73 : decode cX0_doPlainAct 73 = .ok (.i2b, 1) := by decide +kernel
theorem dX0_doPlainAct_74 : decode cX0_doPlainAct 74 = .ok (.putfield 33, 3) := by decide +kernel
theorem dX0_doPlainAct_77 : decode cX0_doPlainAct 77 = .ok (.goto 129, 3) := by decide +kernel
theorem dX0_doPlainAct_80 : decode cX0_doPlainAct 80 = .ok (.aload_n 0, 1) := by decide +kernel
theorem dX0_doPlainAct_81 : decode cX0_doPlainAct 81 = .ok (.dup, 1) := by decide +kernel
theorem dX0_doPlainAct_82 : decode cX0_doPlainAct 82 = .ok (.getfield 33, 3) := by decide +kernel
theorem dX0_doPlainAct_85 : decode cX0_doPlainAct 85 = .ok (.aload_n 0, 1) := by decide +kernel
theorem dX0_doPlainAct_86 : decode cX0_doPlainAct 86 = .ok (.getfield 110, 3) := by decide +kernel
theorem dX0_doPlainAct_89 : decode cX0_doPlainAct 89 = .ok (.i2b, 1) := by decide +kernel
theorem dX0_doPlainAct_90 : decode cX0_doPlainAct 90 = .ok (.iadd, 1) := by decide +kernel
theorem dX0_doPlainAct_91 : decode cX0_doPlainAct 91 = .ok (.putfield 33, 3) := by decide +kernel
theorem dX0_doPlainAct_94 : decode cX0_doPlainAct 94 = .ok (.goto 112, 3) := by decide +kernel
theorem dX0_doPlainAct_97 : decode cX0_doPlainAct 97 = .ok (.aload_n 0, 1) := by decide +kernel
theorem dX0_doPlainAct_98 : decode cX0_doPlainAct 98 = .ok (.invokevirtual 153, 3) := by decide +kernel
theorem dX0_doPlainAct_101 : decode cX0_doPlainAct 101 = .ok (.goto 105, 3) := by decide +kernel
theorem dX0_doPlainAct_104 : decode cX0_doPlainAct 104 = .ok (.aload_n 0, 1) := by decide +kernel
theorem dX0_doPlainAct_105 : decode cX0_doPlainAct 105 = .ok (.aload_n 0, 1) := by decide +kernel
theorem dX0_doPlainAct_106 : decode cX0_doPlainAct 106 = .ok (.getfield 18, 3) := by decide +kernel
theorem dX0_doPlainAct_109 : decode cX0_doPlainAct 109 = .ok (.getfield 104, 3) := by decide +kernel
theorem dX0_doPlainAct_112 : decode cX0_doPlainAct 112 = .ok (.aload_n 0, 1) := by decide +kernel
theorem dX0_doPlainAct_113 : decode cX0_doPlainAct 113 = .ok (.getfield 110, 3) := by decide +kernel
theorem dX0_doPlainAct_116 : decode cX0_doPlainAct 116 = .ok (.iaload, 1) := by decide +kernel
theorem dX0_doPlainAct_117 : decode cX0_doPlainAct 117 = .ok (.putfield 33, 3) := by decide +kernel
theorem dX0_doPlainAct_120 : decode cX0_doPlainAct 120 = .ok (.goto 86, 3) := by decide +kernel
theorem dX0_doPlainAct_123 : decode cX0_doPlainAct 123 = .ok (.aload_n 0, 1) := by decide +kernel
theorem dX0_doPlainAct_124 : decode cX0_doPlainAct 124 = .ok (.getfield 18, 3) := by decide +kernel
theorem dX0_doPlainAct_127 : decode cX0_doPlainAct 127 = .ok (.aload_n 0, 1) := by decide +kernel
theorem dX0_doPlainAct_128 : decode cX0_doPlainAct 128 = .ok (.getfield 110, 3) := by decide +kernel
theorem dX0_doPlainAct_131 : decode cX0_doPlainAct 131 = .ok (.aload_n 0, 1) := by decide +kernel
theorem dX0_doPlainAct_132 : decode cX0_doPlainAct 132 = .ok (.getfield 33, 3) := by decide +kernel
theorem dX0_doPlainAct_135 : decode cX0_doPlainAct 135 = .ok (.sipush 255, 3) := by decide +kernel
theorem dX0_doPlainAct_138 : decode cX0_doPlainAct 138 = .ok (.iand, 1) := by decide +kernel
theorem dX0_doPlainAct_139 : decode cX0_doPlainAct 139 = .ok (.invokevirtual 156, 3) := by decide +kernel
theorem dX0_doPlainAct_142 : decode cX0_doPlainAct 142 = .ok (.goto 64, 3) := by decide +kernel
theorem dX0_doPlainAct_145 : decode cX0_doPlainAct 145 = .ok (.aload_n 0, 1) := by decide +kernel
theorem dX0_doPlainAct_146 : decode cX0_doPlainAct 146 = .ok (.aload_n 0, 1) := by decide +kernel
theorem dX0_doPlainAct_147 : decode cX0_doPlainAct 147 = .ok (.getfield 18, 3) := by decide +kernel
theorem dX0_doPlainAct_150 : decode cX0_doPlainAct 150 = .ok (.getfield 104, 3) := by decide +kernel
theorem dX0_doPlainAct_153 : decode cX0_doPlainAct 153 = .ok (.aload_n 0, 1) := by decide +kernel
theorem dX0_doPlainAct_154 : decode cX0_doPlainAct 154 = .ok (.getfield 36, 3) := by decide +kernel
theorem dX0_doPlainAct_157 : decode cX0_doPlainAct 157 = .ok (.sipush 255, 3) := by decide +kernel
theorem dX0_doPlainAct_160 : decode cX0_doPlainAct 160 = .ok (.iand, 1) := by decide +kernel
theorem dX0_doPlainAct_161 : decode cX0_doPlainAct 161 = .ok (.iaload, 1) := by decide +kernel
theorem dX0_doPlainAct_162 : decode cX0_doPlainAct 162 = .ok (.putfield 33, 3) := by decide +kernel
theorem dX0_doPlainAct_165 : decode cX0_doPlainAct 165 = .ok (.goto 41, 3) := by decide +kernel
theorem dX0_doPlainAct_168 : decode cX0_doPlainAct 168 = .ok (.aload_n 0, 1) := by decide +kernel
theorem dX0_doPlainAct_169 : decode cX0_doPlainAct 169 = .ok (.getfield 18, 3) := by decide +kernel
theorem dX0_doPlainAct_172 : decode cX0_doPlainAct 172 = .ok (.aload_n 0, 1) := by decide +kernel
theorem dX0_doPlainAct_173 : decode cX0_doPlainAct 173 = .ok (.getfield 36, 3) := by decide +kernel
theorem dX0_doPlainAct_176 : decode cX0_doPlainAct 176 = .ok (.aload_n 0, 1) := by decide +kernel
theorem dX0_doPlainAct_177 : decode cX0_doPlainAct 177 = .ok (.getfield 33, 3) := by decide +kernel
theorem dX0_doPlainAct_180 : decode cX0_doPlainAct 180 = .ok (.sipush 255, 3) := by decide +kernel
theorem dX0_doPlainAct_183 : decode cX0_doPlainAct 183 = .ok (.iand, 1) := by decide +kernel
theorem dX0_doPlainAct_184 : decode cX0_doPlainAct 184 = .ok (.invokevirtual 156, 3) := by decide +kernel
theorem dX0_doPlainAct_187 : decode cX0_doPlainAct 187 = .ok (.goto 19, 3) := by decide +kernel
theorem dX0_doPlainAct_190 : decode cX0_doPlainAct 190 = .ok (.aload_n 0, 1) := by decide +kernel
theorem dX0_doPlainAct_191 : decode cX0_doPlainAct 191 = .ok (.dup, 1) := by decide +kernel
theorem dX0_doPlainAct_192 : decode cX0_doPlainAct 192 = .ok (.getfield 33, 3) := by decide +kernel
theorem dX0_doPlainAct_195 : decode cX0_doPlainAct 195 = .ok (.aload_n 0, 1) := by decide +kernel
theorem dX0_doPlainAct_196 : decode cX0_doPlainAct 196 = .ok (.getfield 36, 3) := by decide +kernel
theorem dX0_doPlainAct_199 : decode cX0_doPlainAct 199 = .ok (.imul, 1) := by decide +kernel
theorem dX0_doPlainAct_200 : decode cX0_doPlainAct 200 = .ok (.putfield 33, 3) := by decide +kernel
theorem dX0_doPlainAct_203 : decode cX0_doPlainAct 203 = .ok (.goto 3, 3) := by decide +kernel
theorem dX0_doPlainAct_206 : decode cX0_doPlainAct 206 = .ok (.return_, 1) := by decide +kernel
theorem dX1_init_0 : decode cX1_init 0 = .ok (.aload_n 0, 1) := by decide +kernel
theorem dX1_init_1 : decode cX1_init 1 = .ok (.invokespecial 3, 3) := by decide +kernel
theorem dX1_init_4 : decode cX1_init 4 = .ok (.aload_n 0, 1) := by decide +kernel
theorem dX1_init_5 : decode cX1_init 5 = .ok (.sipush 256, 3) := by decide +kernel
theorem dX1_init_8 : decode cX1_init 8 = .ok (.newarray .int, 2) := by decide +kernel
theorem dX1_init_10 : decode cX1_init 10 = .ok (.putfield 9, 3) := by decide +kernel
theorem dX1_init_13 : decode cX1_init 13 = .ok (.aload_n 0, 1) := by decide +kernel
theorem dX1_init_14 : decode cX1_init 14 = .ok (.bipush 16, 2) := by decide +kernel
theorem dX1_init_16 : decode cX1_init 16 = .ok (.newarray .int, 2) := by decide +kernel
theorem dX1_init_18 : decode cX1_init 18 = .ok (.putfield 15, 3) := by decide +kernel
theorem dX1_init_21 : decode cX1_init 21 = .ok (.return_, 1) := by decide +kernel
theorem dX1_mark_0 : decode cX1_mark 0 = .ok (.iconst 1, 1) := by decide +kernel
theorem dX1_mark_1 : decode cX1_mark 1 = .ok (.iload_n 1, 1) := by decide +kernel
theorem dX1_mark_2 : decode cX1_mark 2 = .ok (.ishl, 1) := by decide +kernel
theorem dX1_mark_3 : decode cX1_mark 3 = .ok (.iconst (-1), 1) := by decide +kernel
theorem dX1_mark_4 : decode cX1_mark 4 = .ok (.ixor, 1) := by decide +kernel
theorem dX1_mark_5 : decode cX1_mark 5 = .ok (.istore 4, 2) := by decide +kernel
theorem dX1_mark_7 : decode cX1_mark 7 = .ok (.iload_n 3, 1) := by decide +kernel
theorem dX1_mark_8 : decode cX1_mark 8 = .ok (.ifCond .eq 9, 3) := by decide +kernel
theorem dX1_mark_11 : decode cX1_mark 11 = .ok (.iconst 1, 1) := by decide +kernel
theorem dX1_mark_12 : decode cX1_mark 12 = .ok (.iload_n 1, 1) := by decide +kernel
theorem dX1_mark_13 : decode cX1_mark 13 = .ok (.ishl, 1) := by decide +kernel
theorem dX1_mark_14 : decode cX1_mark 14 = .ok (.goto 4, 3) := by decide +kernel
theorem dX1_mark_17 : decode cX1_mark 17 = .ok (.iconst 0, 1) := by decide +kernel
theorem dX1_mark_18 : decode cX1_mark 18 = .ok (.istore 5, 2) := by decide +kernel
theorem dX1_mark_20 : decode cX1_mark 20 = .ok (.iconst 0, 1) := by decide +kernel
theorem dX1_mark_21 : decode cX1_mark 21 = .ok (.istore 6, 2) := by decide +kernel
theorem dX1_mark_23 : decode cX1_mark 23 = .ok (.iload 6, 2) := by decide +kernel
theorem dX1_mark_25 : decode cX1_mark 25 = .ok (.aload_n 2, 1) := by decide +kernel
theorem dX1_mark_26 : decode cX1_mark 26 = .ok (.getfield 18, 3) := by decide +kernel
theorem dX1_mark_29 : decode cX1_mark 29 = .ok (.if_icmp .ge 95, 3) := by decide +kernel
theorem dX1_mark_32 : decode cX1_mark 32 = .ok (.iconst 0, 1) := by decide +kernel
theorem dX1_mark_33 : decode cX1_mark 33 = .ok (.istore 7, 2) := by decide +kernel
theorem dX1_mark_35 : decode cX1_mark 35 = .ok (.iload 7, 2) := by decide +kernel
theorem dX1_mark_37 : decode cX1_mark 37 = .ok (.aload_n 2, 1) := by decide +kernel
theorem dX1_mark_38 : decode cX1_mark 38 = .ok (.getfield 24, 3) := by decide +kernel
theorem dX1_mark_41 : decode cX1_mark 41 = .ok (.iload 6, 2) := by decide +kernel
theorem dX1_mark_43 : decode cX1_mark 43 = .ok (.iaload, 1) := by decide +kernel
theorem dX1_mark_44 : decode cX1_mark 44 = .ok (.invokestatic 27, 3) := by decide +kernel
theorem dX1_mark_47 : decode cX1_mark 47 = .ok (.if_icmp .ge 71, 3) := by decide +kernel
theorem dX1_mark_50 : decode cX1_mark 50 = .ok (.aload_n 2, 1) := by decide +kernel
theorem dX1_mark_51 : decode cX1_mark 51 = .ok (.getfield 31, 3) := by decide +kernel
theorem dX1_mark_54 : decode cX1_mark 54 = .ok (.iload 6, 2) := by decide +kernel
theorem dX1_mark_56 : decode cX1_mark 56 = .ok (.iaload, 1) := by decide +kernel
theorem dX1_mark_57 : decode cX1_mark 57 = .ok (.iload 7, 2) := by decide +kernel
theorem dX1_mark_59 : decode cX1_mark 59 = .ok (.iadd, 1) := by decide +kernel
theorem dX1_mark_60 : decode cX1_mark 60 = .ok (.sipush 255, 3) := by decide +kernel
theorem dX1_mark_63 : decode cX1_mark 63 = .ok (.iand, 1) := by decide +kernel
theorem dX1_mark_64 : decode cX1_mark 64 = .ok (.istore 8, 2) := by decide +kernel
theorem dX1_mark_66 : decode cX1_mark 66 = .ok (.iload 8, 2) := by decide +kernel
theorem dX1_mark_68 : decode cX1_mark 68 = .ok (.iconst 4, 1) := by decide +kernel
theorem dX1_mark_69 : decode cX1_mark 69 = .ok (.ishr, 1) := by decide +kernel
theorem dX1_mark_70 : decode cX1_mark 70 = .ok (.istore 9, 2) := by decide +kernel
theorem dX1_mark_72 : decode cX1_mark 72 = .ok (.aload_n 0, 1) := by decide +kernel
theorem dX1_mark_73 : decode cX1_mark 73 = .ok (.getfield 9, 3) := by decide +kernel
theorem dX1_mark_76 : decode cX1_mark 76 = .ok (.iload 8, 2) := by decide +kernel
theorem dX1_mark_78 : decode cX1_mark 78 = .ok (.aload_n 0, 1) := by decide +kernel
theorem dX1_mark_79 : decode cX1_mark 79 = .ok (.getfield 9, 3) := by decide +kernel
theorem dX1_mark_82 : decode cX1_mark 82 = .ok (.iload 8, 2) := by decide +kernel
theorem dX1_mark_84 : decode cX1_mark 84 = .ok (.iaload, 1) := by decide +kernel
theorem dX1_mark_85 : decode cX1_mark 85 = .ok (.iload 4, 2) := by decide +kernel
theorem dX1_mark_87 : decode cX1_mark 87 = .ok (.iand, 1) := by decide +kernel
theorem dX1_mark_88 : decode cX1_mark 88 = .ok (.iload 5, 2) := by decide +kernel
theorem dX1_mark_90 : decode cX1_mark 90 = .ok (.ior, 1) := by decide +kernel
theorem dX1_mark_91 : decode cX1_mark 91 = .ok (.iastore, 1) := by decide +kernel
theorem dX1_mark_92 : decode cX1_mark 92 = .ok (.aload_n 0, 1) := by decide +kernel
theorem dX1_mark_93 : decode cX1_mark 93 = .ok (.getfield 15, 3) := by decide +kernel
theorem dX1_mark_96 : decode cX1_mark 96 = .ok (.iload 9, 2) := by decide +kernel
theorem dX1_mark_98 : decode cX1_mark 98 = .ok (.aload_n 0, 1) := by decide +kernel
theorem dX1_mark_99 : decode cX1_mark 99 = .ok (.getfield 15, 3) := by decide +kernel
theorem dX1_mark_102 : decode cX1_mark 102 = .ok (.iload 9, 2) := by decide +kernel
theorem dX1_mark_104 : decode cX1_mark 104 = .ok (.iaload, 1) := by decide +kernel
theorem dX1_mark_105 : decode cX1_mark 105 = .ok (.iload 4, 2) := by decide +kernel
theorem dX1_mark_107 : decode cX1_mark 107 = .ok (.iand, 1) := by decide +kernel
theorem dX1_mark_108 : decode cX1_mark 108 = .ok (.iload 5, 2) := by decide +kernel
theorem dX1_mark_110 : decode cX1_mark 110 = .ok (.ior, 1) := by decide +kernel
theorem dX1_mark_111 : decode cX1_mark 111 = .ok (.iastore, 1) := by decide +kernel
theorem dX1_mark_112 : decode cX1_mark 112 = .ok (.iinc 7 1, 3) := by decide +kernel
theorem dX1_mark_115 : decode cX1_mark 115 = .ok (.goto (-80), 3) := by decide +kernel
theorem dX1_mark_118 : decode cX1_mark 118 = .ok (.iinc 6 1, 3) := by decide +kernel
theorem dX1_mark_121 : decode cX1_mark 121 = .ok (.goto (-98), 3) := by decide +kernel
theorem dX1_mark_124 : decode cX1_mark 124 = .ok (.return_, 1) := by decide +kernel
theorem dX1_empty_0 : decode cX1_empty 0 = .ok (.aload_n 0, 1) := by decide +kernel
theorem dX1_empty_1 : decode cX1_empty 1 = .ok (.getfield 9, 3) := by decide +kernel
theorem dX1_empty_4 : decode cX1_empty 4 = .ok (.iconst 0, 1) := by decide +kernel
theorem dX1_empty_5 : decode cX1_empty 5 = .ok (.invokestatic 34, 3) := by decide +kernel
theorem dX1_empty_8 : decode cX1_empty 8 = .ok (.aload_n 0, 1) := by decide +kernel
theorem dX1_empty_9 : decode cX1_empty 9 = .ok (.getfield 15, 3) := by decide +kernel
theorem dX1_empty_12 : decode cX1_empty 12 = .ok (.iconst 0, 1) := by decide +kernel
theorem dX1_empty_13 : decode cX1_empty 13 = .ok (.invokestatic 34, 3) := by decide +kernel
theorem dX1_empty_16 : decode cX1_empty 16 = .ok (.return_, 1) := by decide +kernel
theorem dX2_init_0 : decode cX2_init 0 = .ok (.aload_n 0, 1) := by decide +kernel
theorem dX2_init_1 : decode cX2_init 1 = .ok (.invokespecial 3, 3) := by decide +kernel
theorem dX2_init_4 : decode cX2_init 4 = .ok (.aload_n 0, 1) := by decide +kernel
theorem dX2_init_5 : decode cX2_init 5 = .ok (.bipush 9, 2) := by decide +kernel
theorem dX2_init_7 : decode cX2_init 7 = .ok (.sipush 256, 3) := by decide +kernel
theorem dX2_init_10 : decode cX2_init 10 = .ok (.multianewarray 11 2, 4) := by decide +kernel
theorem dX2_init_14 : decode cX2_init 14 = .ok (.putfield 13, 3) := by decide +kernel
theorem dX2_init_17 : decode cX2_init 17 = .ok (.return_, 1) := by decide +kernel
theorem dX2_note_0 : decode cX2_note 0 = .ok (.aload_n 1, 1) := by decide +kernel
theorem dX2_note_1 : decode cX2_note 1 = .ok (.iconst 0, 1) := by decide +kernel
theorem dX2_note_2 : decode cX2_note 2 = .ok (.aload_n 0, 1) := by decide +kernel
theorem dX2_note_3 : decode cX2_note 3 = .ok (.getfield 13, 3) := by decide +kernel
theorem dX2_note_6 : decode cX2_note 6 = .ok (.aload_n 0, 1) := by decide +kernel
theorem dX2_note_7 : decode cX2_note 7 = .ok (.getfield 16, 3) := by decide +kernel
theorem dX2_note_10 : decode cX2_note 10 = .ok (.aload_n 0, 1) := by decide +kernel
theorem dX2_note_11 : decode cX2_note 11 = .ok (.getfield 20, 3) := by decide +kernel
theorem dX2_note_14 : decode cX2_note 14 = .ok (.iadd, 1) := by decide +kernel
theorem dX2_note_15 : decode cX2_note 15 = .ok (.bipush 9, 2) := by decide +kernel
theorem dX2_note_17 : decode cX2_note 17 = .ok (.irem, 1) := by decide +kernel
theorem dX2_note_18 : decode cX2_note 18 = .ok (.aaload, 1) := by decide +kernel
theorem dX2_note_19 : decode cX2_note 19 = .ok (.iconst 0, 1) := by decide +kernel
theorem dX2_note_20 : decode cX2_note 20 = .ok (.sipush 256, 3) := by decide +kernel
theorem dX2_note_23 : decode cX2_note 23 = .ok (.invokestatic 23, 3) := by decide +kernel
theorem dX2_note_26 : decode cX2_note 26 = .ok (.return_, 1) := by decide +kernel
theorem dX2_keepNoted_0 : decode cX2_keepNoted 0 = .ok (.aload_n 0, 1) := by decide +kernel
theorem dX2_keepNoted_1 : decode cX2_keepNoted 1 = .ok (.getfield 20, 3) := by decide +kernel
theorem dX2_keepNoted_4 : decode cX2_keepNoted 4 = .ok (.bipush 8, 2) := by decide +kernel
theorem dX2_keepNoted_6 : decode cX2_keepNoted 6 = .ok (.if_icmp .ge 16, 3) := by decide +kernel
theorem dX2_keepNoted_9 : decode cX2_keepNoted 9 = .ok (.aload_n 0, 1) := by decide +kernel
theorem dX2_keepNoted_10 : decode cX2_keepNoted 10 = .ok (.dup, 1) := by decide +kernel
theorem dX2_keepNoted_11 : decode cX2_keepNoted 11 = .ok (.getfield 20, 3) := by decide +kernel
theorem dX2_keepNoted_14 : decode cX2_keepNoted 14 = .ok (.iconst 1, 1) := by decide +kernel
theorem dX2_keepNoted_15 : decode cX2_keepNoted 15 = .ok (.iadd, 1) := by decide +kernel
theorem dX2_keepNoted_16 : decode cX2_keepNoted 16 = .ok (.putfield 20, 3) := by decide +kernel
theorem dX2_keepNoted_19 : decode cX2_keepNoted 19 = .ok (.goto 16, 3) := by decide +kernel
theorem dX2_keepNoted_22 : decode cX2_keepNoted 22 = .ok (.aload_n 0, 1) := by decide +kernel
theorem dX2_keepNoted_23 : decode cX2_keepNoted 23 = .ok (.aload_n 0, 1) := by decide +kernel
theorem dX2_keepNoted_24 : decode cX2_keepNoted 24 = .ok (.getfield 16, 3) := by decide +kernel
theorem dX2_keepNoted_27 : decode cX2_keepNoted 27 = .ok (.iconst 1, 1) := by decide +kernel
theorem dX2_keepNoted_28 : decode cX2_keepNoted 28 = .ok (.iadd, 1) := by decide +kernel
theorem dX2_keepNoted_29 : decode cX2_keepNoted 29 = .ok (.bipush 9, 2) := by decide +kernel
theorem dX2_keepNoted_31 : decode cX2_keepNoted 31 = .ok (.irem, 1) := by decide +kernel
theorem dX2_keepNoted_32 : decode cX2_keepNoted 32 = .ok (.putfield 16, 3) := by decide +kernel
theorem dX2_keepNoted_35 : decode cX2_keepNoted 35 = .ok (.return_, 1) := by decide +kernel
theorem dX2_takeLatest_0 : decode cX2_takeLatest 0 = .ok (.aload_n 0, 1) := by decide +kernel
theorem dX2_takeLatest_1 : decode cX2_takeLatest 1 = .ok (.getfield 20, 3) := by decide +kernel
theorem dX2_takeLatest_4 : decode cX2_takeLatest 4 = .ok (.ifCond .le 13, 3) := by decide +kernel
theorem dX2_takeLatest_7 : decode cX2_takeLatest 7 = .ok (.aload_n 0, 1) := by decide +kernel
theorem dX2_takeLatest_8 : decode cX2_takeLatest 8 = .ok (.dup, 1) := by decide +kernel
theorem dX2_takeLatest_9 : decode cX2_takeLatest 9 = .ok (.getfield 20, 3) := by decide +kernel
theorem dX2_takeLatest_12 : decode cX2_takeLatest 12 = .ok (.iconst 1, 1) := by decide +kernel
theorem dX2_takeLatest_13 : decode cX2_takeLatest 13 = .ok (.isub, 1) := by decide +kernel
theorem dX2_takeLatest_14 : decode cX2_takeLatest 14 = .ok (.putfield 20, 3) := by decide +kernel
theorem dX2_takeLatest_17 : decode cX2_takeLatest 17 = .ok (.aload_n 0, 1) := by decide +kernel
theorem dX2_takeLatest_18 : decode cX2_takeLatest 18 = .ok (.getfield 13, 3) := by decide +kernel
theorem dX2_takeLatest_21 : decode cX2_takeLatest 21 = .ok (.aload_n 0, 1) := by decide +kernel
theorem dX2_takeLatest_22 : decode cX2_takeLatest 22 = .ok (.getfield 16, 3) := by decide +kernel
theorem dX2_takeLatest_25 : decode cX2_takeLatest 25 = .ok (.aload_n 0, 1) := by decide +kernel
theorem dX2_takeLatest_26 : decode cX2_takeLatest 26 = .ok (.getfield 20, 3) := by decide +kernel
theorem dX2_takeLatest_29 : decode cX2_takeLatest 29 = .ok (.iadd, 1) := by decide +kernel
theorem dX2_takeLatest_30 : decode cX2_takeLatest 30 = .ok (.bipush 9, 2) := by decide +kernel
theorem dX2_takeLatest_32 : decode cX2_takeLatest 32 = .ok (.irem, 1) := by decide +kernel
theorem dX2_takeLatest_33 : decode cX2_takeLatest 33 = .ok (.aaload, 1) := by decide +kernel
theorem dX2_takeLatest_34 : decode cX2_takeLatest 34 = .ok (.areturn, 1) := by decide +kernel
theorem dX2_empty_0 : decode cX2_empty 0 = .ok (.aload_n 0, 1) := by decide +kernel
theorem dX2_empty_1 : decode cX2_empty 1 = .ok (.iconst 0, 1) := by decide +kernel
theorem dX2_empty_2 : decode cX2_empty 2 = .ok (.putfield 16, 3) := by decide +kernel
theorem dX2_empty_5 : decode cX2_empty 5 = .ok (.aload_n 0, 1) := by decide +kernel
theorem dX2_empty_6 : decode cX2_empty 6 = .ok (.iconst 0, 1) := by decide +kernel
theorem dX2_empty_7 : decode cX2_empty 7 = .ok (.putfield 20, 3) := by decide +kernel
theorem dX2_empty_10 : decode cX2_empty 10 = .ok (.return_, 1) := by decide +kernel
theorem dX3_init_0 : decode cX3_init 0 = .ok (.aload_n 0, 1) := by decide +kernel
theorem dX3_init_1 : decode cX3_init 1 = .ok (.invokespecial 3, 3) := by decide +kernel
theorem dX3_init_4 : decode cX3_init 4 = .ok (.aload_n 0, 1) := by decide +kernel
theorem dX3_init_5 : decode cX3_init 5 = .ok (.bipush 24, 2) := by decide +kernel
theorem dX3_init_7 : decode cX3_init 7 = .ok (.newarray .int, 2) := by decide +kernel
theorem dX3_init_9 : decode cX3_init 9 = .ok (.putfield 9, 3) := by decide +kernel
theorem dX3_init_12 : decode cX3_init 12 = .ok (.aload_n 0, 1) := by decide +kernel
theorem dX3_init_13 : decode cX3_init 13 = .ok (.bipush 24, 2) := by decide +kernel
theorem dX3_init_15 : decode cX3_init 15 = .ok (.newarray .int, 2) := by decide +kernel
theorem dX3_init_17 : decode cX3_init 17 = .ok (.putfield 15, 3) := by decide +kernel
theorem dX3_init_20 : decode cX3_init 20 = .ok (.aload_n 0, 1) := by decide +kernel
theorem dX3_init_21 : decode cX3_init 21 = .ok (.bipush 24, 2) := by decide +kernel
theorem dX3_init_23 : decode cX3_init 23 = .ok (.newarray .int, 2) := by decide +kernel
theorem dX3_init_25 : decode cX3_init 25 = .ok (.putfield 18, 3) := by decide +kernel
theorem dX3_init_28 : decode cX3_init 28 = .ok (.return_, 1) := by decide +kernel
theorem dX3_fill_0 : decode cX3_fill 0 = .ok (.aload_n 0, 1) := by decide +kernel
theorem dX3_fill_1 : decode cX3_fill 1 = .ok (.iconst 0, 1) := by decide +kernel
theorem dX3_fill_2 : decode cX3_fill 2 = .ok (.putfield 21, 3) := by decide +kernel
theorem dX3_fill_5 : decode cX3_fill 5 = .ok (.aload_n 0, 1) := by decide +kernel
theorem dX3_fill_6 : decode cX3_fill 6 = .ok (.iload_n 2, 1) := by decide +kernel
theorem dX3_fill_7 : decode cX3_fill 7 = .ok (.invokevirtual 25, 3) := by decide +kernel
theorem dX3_fill_10 : decode cX3_fill 10 = .ok (.istore_n 3, 1) := by decide +kernel
theorem dX3_fill_11 : decode cX3_fill 11 = .ok (.iconst 0, 1) := by decide +kernel
theorem dX3_fill_12 : decode cX3_fill 12 = .ok (.istore 4, 2) := by decide +kernel
theorem dX3_fill_14 : decode cX3_fill 14 = .ok (.iload 4, 2) := by decide +kernel
theorem dX3_fill_16 : decode cX3_fill 16 = .ok (.bipush 24, 2) := by decide +kernel
theorem dX3_fill_18 : decode cX3_fill 18 = .ok (.if_icmp .ge 35, 3) := by decide +kernel
theorem dX3_fill_21 : decode cX3_fill 21 = .ok (.iload 4, 2) := by decide +kernel
theorem dX3_fill_23 : decode cX3_fill 23 = .ok (.aload_n 0, 1) := by decide +kernel
theorem dX3_fill_24 : decode cX3_fill 24 = .ok (.getfield 21, 3) := by decide +kernel
theorem dX3_fill_27 : decode cX3_fill 27 = .ok (.if_icmp .ge 26, 3) := by decide +kernel
theorem dX3_fill_30 : decode cX3_fill 30 = .ok (.iload_n 3, 1) := by decide +kernel
theorem dX3_fill_31 : decode cX3_fill 31 = .ok (.ifCond .eq 22, 3) := by decide +kernel
theorem dX3_fill_34 : decode cX3_fill 34 = .ok (.aload_n 0, 1) := by decide +kernel
theorem dX3_fill_35 : decode cX3_fill 35 = .ok (.aload_n 1, 1) := by decide +kernel
theorem dX3_fill_36 : decode cX3_fill 36 = .ok (.aload_n 0, 1) := by decide +kernel
theorem dX3_fill_37 : decode cX3_fill 37 = .ok (.getfield 9, 3) := by decide +kernel
theorem dX3_fill_40 : decode cX3_fill 40 = .ok (.iload 4, 2) := by decide +kernel
theorem dX3_fill_42 : decode cX3_fill 42 = .ok (.iaload, 1) := by decide +kernel
theorem dX3_fill_43 : decode cX3_fill 43 = .ok (.invokevirtual 29, 3) := by decide +kernel
theorem dX3_fill_46 : decode cX3_fill 46 = .ok (.istore_n 3, 1) := by decide +kernel
theorem dX3_fill_47 : decode cX3_fill 47 = .ok (.iinc 4 1, 3) := by decide +kernel
theorem dX3_fill_50 : decode cX3_fill 50 = .ok (.goto (-36), 3) := by decide +kernel
theorem dX3_fill_53 : decode cX3_fill 53 = .ok (.iload_n 3, 1) := by decide +kernel
theorem dX3_fill_54 : decode cX3_fill 54 = .ok (.ifCond .ne 5, 3) := by decide +kernel
theorem dX3_fill_57 : decode cX3_fill 57 = .ok (.iconst 0, 1) := by decide +kernel
theorem dX3_fill_58 : decode cX3_fill 58 = .ok (.ireturn, 1) := by decide +kernel
theorem dX3_fill_59 : decode cX3_fill 59 = .ok (.aload_n 0, 1) := by decide +kernel
theorem dX3_fill_60 : decode cX3_fill 60 = .ok (.invokevirtual 33, 3) := by decide +kernel
theorem dX3_fill_63 : decode cX3_fill 63 = .ok (.aload_n 0, 1) := by decide +kernel
theorem dX3_fill_64 : decode cX3_fill 64 = .ok (.aload_n 1, 1) := by decide +kernel
theorem dX3_fill_65 : decode cX3_fill 65 = .ok (.invokevirtual 36, 3) := by decide +kernel
theorem dX3_fill_68 : decode cX3_fill 68 = .ok (.aload_n 0, 1) := by decide +kernel
theorem dX3_fill_69 : decode cX3_fill 69 = .ok (.invokevirtual 40, 3) := by decide +kernel
theorem dX3_fill_72 : decode cX3_fill 72 = .ok (.ifCond .ne 7, 3) := by decide +kernel
theorem dX3_fill_75 : decode cX3_fill 75 = .ok (.iconst 1, 1) := by decide +kernel
theorem dX3_fill_76 : decode cX3_fill 76 = .ok (.goto 4, 3) := by decide +kernel
theorem dX3_fill_79 : decode cX3_fill 79 = .ok (.iconst 0, 1) := by decide +kernel
theorem dX3_fill_80 : decode cX3_fill 80 = .ok (.ireturn, 1) := by decide +kernel
theorem dX3_addHeadsBehind_0 : decode cX3_addHeadsBehind 0 = .ok (.aload_n 1, 1) := by decide +kernel
theorem dX3_addHeadsBehind_1 : decode cX3_addHeadsBehind 1 = .ok (.iload_n 2, 1) := by decide +kernel
theorem dX3_addHeadsBehind_2 : decode cX3_addHeadsBehind 2 = .ok (.iaload, 1) := by decide +kernel
theorem dX3_addHeadsBehind_3 : decode cX3_addHeadsBehind 3 = .ok (.istore_n 3, 1) := by decide +kernel
theorem dX3_addHeadsBehind_4 : decode cX3_addHeadsBehind 4 = .ok (.iload_n 3, 1) := by decide +kernel
theorem dX3_addHeadsBehind_5 : decode cX3_addHeadsBehind 5 = .ok (.invokestatic 44, 3) := by decide +kernel
theorem dX3_addHeadsBehind_8 : decode cX3_addHeadsBehind 8 = .ok (.ifCond .ne 5, 3) := by decide +kernel
theorem dX3_addHeadsBehind_11 : decode cX3_addHeadsBehind 11 = .ok (.iconst 0, 1) := by decide +kernel
theorem dX3_addHeadsBehind_12 : decode cX3_addHeadsBehind 12 = .ok (.ireturn, 1) := by decide +kernel
theorem dX3_addHeadsBehind_13 : decode cX3_addHeadsBehind 13 = .ok (.iload_n 2, 1) := by decide +kernel
theorem dX3_addHeadsBehind_14 : decode cX3_addHeadsBehind 14 = .ok (.iload_n 3, 1) := by decide +kernel
theorem dX3_addHeadsBehind_15 : decode cX3_addHeadsBehind 15 = .ok (.invokestatic 47, 3) := by decide +kernel
theorem dX3_addHeadsBehind_18 : decode cX3_addHeadsBehind 18 = .ok (.iadd, 1) := by decide +kernel
theorem dX3_addHeadsBehind_19 : decode cX3_addHeadsBehind 19 = .ok (.istore 4, 2) := by decide +kernel
theorem dX3_addHeadsBehind_21 : decode cX3_addHeadsBehind 21 = .ok (.iload_n 3, 1) := by decide +kernel
theorem dX3_addHeadsBehind_22 : decode cX3_addHeadsBehind 22 = .ok (.ifCond .eq 20, 3) := by decide +kernel
theorem dX3_addHeadsBehind_25 : decode cX3_addHeadsBehind 25 = .ok (.iload_n 3, 1) := by decide +kernel
theorem dX3_addHeadsBehind_26 : decode cX3_addHeadsBehind 26 = .ok (.bipush 6, 2) := by decide +kernel
theorem dX3_addHeadsBehind_28 : decode cX3_addHeadsBehind 28 = .ok (.if_icmp .eq 14, 3) := by decide +kernel
theorem dX3_addHeadsBehind_31 : decode cX3_addHeadsBehind 31 = .ok (.aload_n 0, 1) := by decide +kernel
theorem dX3_addHeadsBehind_32 : decode cX3_addHeadsBehind 32 = .ok (.iload 4, 2) := by decide +kernel
theorem dX3_addHeadsBehind_34 : decode cX3_addHeadsBehind 34 = .ok (.invokevirtual 25, 3) := by decide +kernel
theorem dX3_addHeadsBehind_37 : decode cX3_addHeadsBehind 37 = .ok (.ifCond .ne 5, 3) := by decide +kernel
theorem dX3_addHeadsBehind_40 : decode cX3_addHeadsBehind 40 = .ok (.iconst 0, 1) := by decide +kernel
theorem dX3_addHeadsBehind_41 : decode cX3_addHeadsBehind 41 = .ok (.ireturn, 1) := by decide +kernel
theorem dX3_addHeadsBehind_42 : decode cX3_addHeadsBehind 42 = .ok (.iload_n 3, 1) := by decide +kernel
theorem dX3_addHeadsBehind_43 : decode cX3_addHeadsBehind 43 = .ok (.invokestatic 51, 3) := by decide +kernel
theorem dX3_addHeadsBehind_46 : decode cX3_addHeadsBehind 46 = .ok (.ifCond .eq 23, 3) := by decide +kernel
theorem dX3_addHeadsBehind_49 : decode cX3_addHeadsBehind 49 = .ok (.aload_n 0, 1) := by decide +kernel
theorem dX3_addHeadsBehind_50 : decode cX3_addHeadsBehind 50 = .ok (.iload 4, 2) := by decide +kernel
theorem dX3_addHeadsBehind_52 : decode cX3_addHeadsBehind 52 = .ok (.aload_n 1, 1) := by decide +kernel
theorem dX3_addHeadsBehind_53 : decode cX3_addHeadsBehind 53 = .ok (.iload_n 2, 1) := by decide +kernel
theorem dX3_addHeadsBehind_54 : decode cX3_addHeadsBehind 54 = .ok (.iconst 1, 1) := by decide +kernel
theorem dX3_addHeadsBehind_55 : decode cX3_addHeadsBehind 55 = .ok (.iadd, 1) := by decide +kernel
theorem dX3_addHeadsBehind_56 : decode cX3_addHeadsBehind 56 = .ok (.sipush 255, 3) := by decide +kernel
theorem dX3_addHeadsBehind_59 : decode cX3_addHeadsBehind 59 = .ok (.iand, 1) := by decide +kernel
theorem dX3_addHeadsBehind_60 : decode cX3_addHeadsBehind 60 = .ok (.iaload, 1) := by decide +kernel
theorem dX3_addHeadsBehind_61 : decode cX3_addHeadsBehind 61 = .ok (.i2b, 1) := by decide +kernel
theorem dX3_addHeadsBehind_62 : decode cX3_addHeadsBehind 62 = .ok (.iadd, 1) := by decide +kernel
theorem dX3_addHeadsBehind_63 : decode cX3_addHeadsBehind 63 = .ok (.invokevirtual 25, 3) := by decide +kernel
theorem dX3_addHeadsBehind_66 : decode cX3_addHeadsBehind 66 = .ok (.ifCond .eq 7, 3) := by decide +kernel
theorem dX3_addHeadsBehind_69 : decode cX3_addHeadsBehind 69 = .ok (.iconst 1, 1) := by decide +kernel
theorem dX3_addHeadsBehind_70 : decode cX3_addHeadsBehind 70 = .ok (.goto 4, 3) := by decide +kernel
theorem dX3_addHeadsBehind_73 : decode cX3_addHeadsBehind 73 = .ok (.iconst 0, 1) := by decide +kernel
theorem dX3_addHeadsBehind_74 : decode cX3_addHeadsBehind 74 = .ok (.ireturn, 1) := by decide +kernel
theorem dX3_addHead_0 : decode cX3_addHead 0 = .ok (.iload_n 1, 1) := by decide +kernel
theorem dX3_addHead_1 : decode cX3_addHead 1 = .ok (.sipush 255, 3) := by decide +kernel
theorem dX3_addHead_4 : decode cX3_addHead 4 = .ok (.iand, 1) := by decide +kernel
theorem dX3_addHead_5 : decode cX3_addHead 5 = .ok (.istore_n 2, 1) := by decide +kernel
theorem dX3_addHead_6 : decode cX3_addHead 6 = .ok (.aload_n 0, 1) := by decide +kernel
theorem dX3_addHead_7 : decode cX3_addHead 7 = .ok (.iload_n 2, 1) := by decide +kernel
theorem dX3_addHead_8 : decode cX3_addHead 8 = .ok (.invokevirtual 54, 3) := by decide +kernel
theorem dX3_addHead_11 : decode cX3_addHead 11 = .ok (.ifCond .lt 5, 3) := by decide +kernel
theorem dX3_addHead_14 : decode cX3_addHead 14 = .ok (.iconst 1, 1) := by decide +kernel
theorem dX3_addHead_15 : decode cX3_addHead 15 = .ok (.ireturn, 1) := by decide +kernel
theorem dX3_addHead_16 : decode cX3_addHead 16 = .ok (.aload_n 0, 1) := by decide +kernel
theorem dX3_addHead_17 : decode cX3_addHead 17 = .ok (.getfield 21, 3) := by decide +kernel
theorem dX3_addHead_20 : decode cX3_addHead 20 = .ok (.bipush 24, 2) := by decide +kernel
theorem dX3_addHead_22 : decode cX3_addHead 22 = .ok (.if_icmp .lt 5, 3) := by decide +kernel
theorem dX3_addHead_25 : decode cX3_addHead 25 = .ok (.iconst 0, 1) := by decide +kernel
theorem dX3_addHead_26 : decode cX3_addHead 26 = .ok (.ireturn, 1) := by decide +kernel
theorem dX3_addHead_27 : decode cX3_addHead 27 = .ok (.aload_n 0, 1) := by decide +kernel
theorem dX3_addHead_28 : decode cX3_addHead 28 = .ok (.getfield 9, 3) := by decide +kernel
theorem dX3_addHead_31 : decode cX3_addHead 31 = .ok (.aload_n 0, 1) := by decide +kernel
theorem dX3_addHead_32 : decode cX3_addHead 32 = .ok (.getfield 21, 3) := by decide +kernel
theorem dX3_addHead_35 : decode cX3_addHead 35 = .ok (.iload_n 2, 1) := by decide +kernel
theorem dX3_addHead_36 : decode cX3_addHead 36 = .ok (.iastore, 1) := by decide +kernel
theorem dX3_addHead_37 : decode cX3_addHead 37 = .ok (.aload_n 0, 1) := by decide +kernel
theorem dX3_addHead_38 : decode cX3_addHead 38 = .ok (.dup, 1) := by decide +kernel
theorem dX3_addHead_39 : decode cX3_addHead 39 = .ok (.getfield 21, 3) := by decide +kernel
theorem dX3_addHead_42 : decode cX3_addHead 42 = .ok (.iconst 1, 1) := by decide +kernel
theorem dX3_addHead_43 : decode cX3_addHead 43 = .ok (.iadd, 1) := by decide +kernel
theorem dX3_addHead_44 : decode cX3_addHead 44 = .ok (.putfield 21, 3) := by decide +kernel
theorem dX3_addHead_47 : decode cX3_addHead 47 = .ok (.iconst 1, 1) := by decide +kernel
theorem dX3_addHead_48 : decode cX3_addHead 48 = .ok (.ireturn, 1) := by decide +kernel
theorem dX3_sortHeads_0 : decode cX3_sortHeads 0 = .ok (.iconst 1, 1) := by decide +kernel
theorem dX3_sortHeads_1 : decode cX3_sortHeads 1 = .ok (.istore_n 1, 1) := by decide +kernel
theorem dX3_sortHeads_2 : decode cX3_sortHeads 2 = .ok (.iload_n 1, 1) := by decide +kernel
theorem dX3_sortHeads_3 : decode cX3_sortHeads 3 = .ok (.aload_n 0, 1) := by decide +kernel
theorem dX3_sortHeads_4 : decode cX3_sortHeads 4 = .ok (.getfield 21, 3) := by decide +kernel
theorem dX3_sortHeads_7 : decode cX3_sortHeads 7 = .ok (.if_icmp .ge 61, 3) := by decide +kernel
theorem dX3_sortHeads_10 : decode cX3_sortHeads 10 = .ok (.aload_n 0, 1) := by decide +kernel
theorem dX3_sortHeads_11 : decode cX3_sortHeads 11 = .ok (.getfield 9, 3) := by decide +kernel
theorem dX3_sortHeads_14 : decode cX3_sortHeads 14 = .ok (.iload_n 1, 1) := by decide +kernel
theorem dX3_sortHeads_15 : decode cX3_sortHeads 15 = .ok (.iaload, 1) := by decide +kernel
theorem dX3_sortHeads_16 : decode cX3_sortHeads 16 = .ok (.istore_n 2, 1) := by decide +kernel
theorem dX3_sortHeads_17 : decode cX3_sortHeads 17 = .ok (.iload_n 1, 1) := by decide +kernel
theorem dX3_sortHeads_18 : decode cX3_sortHeads 18 = .ok (.istore_n 3, 1) := by decide +kernel
theorem dX3_sortHeads_19 : decode cX3_sortHeads 19 = .ok (.iload_n 3, 1) := by decide +kernel
theorem dX3_sortHeads_20 : decode cX3_sortHeads 20 = .ok (.ifCond .le 35, 3) := by decide +kernel
theorem dX3_sortHeads_23 : decode cX3_sortHeads 23 = .ok (.aload_n 0, 1) := by decide +kernel
theorem dX3_sortHeads_24 : decode cX3_sortHeads 24 = .ok (.getfield 9, 3) := by decide +kernel
theorem dX3_sortHeads_27 : decode cX3_sortHeads 27 = .ok (.iload_n 3, 1) := by decide +kernel
theorem dX3_sortHeads_28 : decode cX3_sortHeads 28 = .ok (.iconst 1, 1) := by decide +kernel
theorem dX3_sortHeads_29 : decode cX3_sortHeads 29 = .ok (.isub, 1) := by decide +kernel
theorem dX3_sortHeads_30 : decode cX3_sortHeads 30 = .ok (.iaload, 1) := by decide +kernel
theorem dX3_sortHeads_31 : decode cX3_sortHeads 31 = .ok (.iload_n 2, 1) := by decide +kernel
theorem dX3_sortHeads_32 : decode cX3_sortHeads 32 = .ok (.if_icmp .le 23, 3) := by decide +kernel
theorem dX3_sortHeads_35 : decode cX3_sortHeads 35 = .ok (.aload_n 0, 1) := by decide +kernel
theorem dX3_sortHeads_36 : decode cX3_sortHeads 36 = .ok (.getfield 9, 3) := by decide +kernel
theorem dX3_sortHeads_39 : decode cX3_sortHeads 39 = .ok (.iload_n 3, 1) := by decide +kernel
theorem dX3_sortHeads_40 : decode cX3_sortHeads 40 = .ok (.aload_n 0, 1) := by decide +kernel
theorem dX3_sortHeads_41 : decode cX3_sortHeads 41 = .ok (.getfield 9, 3) := by decide +kernel
theorem dX3_sortHeads_44 : decode cX3_sortHeads 44 = .ok (.iload_n 3, 1) := by decide +kernel
theorem dX3_sortHeads_45 : decode cX3_sortHeads 45 = .ok (.iconst 1, 1) := by decide +kernel
theorem dX3_sortHeads_46 : decode cX3_sortHeads 46 = .ok (.isub, 1) := by decide +kernel
theorem dX3_sortHeads_47 : decode cX3_sortHeads 47 = .ok (.iaload, 1) := by decide +kernel
theorem dX3_sortHeads_48 : decode cX3_sortHeads 48 = .ok (.iastore, 1) := by decide +kernel
theorem dX3_sortHeads_49 : decode cX3_sortHeads 49 = .ok (.iinc 3 (-1), 3) := by decide +kernel
theorem dX3_sortHeads_52 : decode cX3_sortHeads 52 = .ok (.goto (-33), 3) := by decide +kernel
theorem dX3_sortHeads_55 : decode cX3_sortHeads 55 = .ok (.aload_n 0, 1) := by decide +kernel
theorem dX3_sortHeads_56 : decode cX3_sortHeads 56 = .ok (.getfield 9, 3) := by decide +kernel
theorem dX3_sortHeads_59 : decode cX3_sortHeads 59 = .ok (.iload_n 3, 1) := by decide +kernel
theorem dX3_sortHeads_60 : decode cX3_sortHeads 60 = .ok (.iload_n 2, 1) := by decide +kernel
theorem dX3_sortHeads_61 : decode cX3_sortHeads 61 = .ok (.iastore, 1) := by decide +kernel
theorem dX3_sortHeads_62 : decode cX3_sortHeads 62 = .ok (.iinc 1 1, 3) := by decide +kernel
theorem dX3_sortHeads_65 : decode cX3_sortHeads 65 = .ok (.goto (-63), 3) := by decide +kernel
theorem dX3_sortHeads_68 : decode cX3_sortHeads 68 = .ok (.return_, 1) := by decide +kernel
theorem dX3_decode_0 : decode cX3_decode 0 = .ok (.iconst 0, 1) := by decide +kernel
theorem dX3_decode_1 : decode cX3_decode 1 = .ok (.istore_n 2, 1) := by decide +kernel
theorem dX3_decode_2 : decode cX3_decode 2 = .ok (.iload_n 2, 1) := by decide +kernel
theorem dX3_decode_3 : decode cX3_decode 3 = .ok (.aload_n 0, 1) := by decide +kernel
theorem dX3_decode_4 : decode cX3_decode 4 = .ok (.getfield 21, 3) := by decide +kernel
theorem dX3_decode_7 : decode cX3_decode 7 = .ok (.if_icmp .ge 43, 3) := by decide +kernel
theorem dX3_decode_10 : decode cX3_decode 10 = .ok (.aload_n 0, 1) := by decide +kernel
theorem dX3_decode_11 : decode cX3_decode 11 = .ok (.getfield 15, 3) := by decide +kernel
theorem dX3_decode_14 : decode cX3_decode 14 = .ok (.iload_n 2, 1) := by decide +kernel
theorem dX3_decode_15 : decode cX3_decode 15 = .ok (.aload_n 1, 1) := by decide +kernel
theorem dX3_decode_16 : decode cX3_decode 16 = .ok (.aload_n 0, 1) := by decide +kernel
theorem dX3_decode_17 : decode cX3_decode 17 = .ok (.getfield 9, 3) := by decide +kernel
theorem dX3_decode_20 : decode cX3_decode 20 = .ok (.iload_n 2, 1) := by decide +kernel
theorem dX3_decode_21 : decode cX3_decode 21 = .ok (.iaload, 1) := by decide +kernel
theorem dX3_decode_22 : decode cX3_decode 22 = .ok (.iaload, 1) := by decide +kernel
theorem dX3_decode_23 : decode cX3_decode 23 = .ok (.iastore, 1) := by decide +kernel
theorem dX3_decode_24 : decode cX3_decode 24 = .ok (.aload_n 0, 1) := by decide +kernel
theorem dX3_decode_25 : decode cX3_decode 25 = .ok (.getfield 18, 3) := by decide +kernel
theorem dX3_decode_28 : decode cX3_decode 28 = .ok (.iload_n 2, 1) := by decide +kernel
theorem dX3_decode_29 : decode cX3_decode 29 = .ok (.aload_n 1, 1) := by decide +kernel
theorem dX3_decode_30 : decode cX3_decode 30 = .ok (.aload_n 0, 1) := by decide +kernel
theorem dX3_decode_31 : decode cX3_decode 31 = .ok (.getfield 9, 3) := by decide +kernel
theorem dX3_decode_34 : decode cX3_decode 34 = .ok (.iload_n 2, 1) := by decide +kernel
theorem dX3_decode_35 : decode cX3_decode 35 = .ok (.iaload, 1) := by decide +kernel
theorem dX3_decode_36 : decode cX3_decode 36 = .ok (.iconst 1, 1) := by decide +kernel
theorem dX3_decode_37 : decode cX3_decode 37 = .ok (.iadd, 1) := by decide +kernel
theorem dX3_decode_38 : decode cX3_decode 38 = .ok (.sipush 255, 3) := by decide +kernel
theorem dX3_decode_41 : decode cX3_decode 41 = .ok (.iand, 1) := by decide +kernel
theorem dX3_decode_42 : decode cX3_decode 42 = .ok (.iaload, 1) := by decide +kernel
theorem dX3_decode_43 : decode cX3_decode 43 = .ok (.iastore, 1) := by decide +kernel
theorem dX3_decode_44 : decode cX3_decode 44 = .ok (.iinc 2 1, 3) := by decide +kernel
theorem dX3_decode_47 : decode cX3_decode 47 = .ok (.goto (-45), 3) := by decide +kernel
theorem dX3_decode_50 : decode cX3_decode 50 = .ok (.return_, 1) := by decide +kernel
theorem dX3_hasActsThatMeet_0 : decode cX3_hasActsThatMeet 0 = .ok (.iconst 0, 1) := by decide +kernel
theorem dX3_hasActsThatMeet_1 : decode cX3_hasActsThatMeet 1 = .ok (.istore_n 1, 1) := by decide +kernel
theorem dX3_hasActsThatMeet_2 : decode cX3_hasActsThatMeet 2 = .ok (.iload_n 1, 1) := by decide +kernel
theorem dX3_hasActsThatMeet_3 : decode cX3_hasActsThatMeet 3 = .ok (.aload_n 0, 1) := by decide +kernel
theorem dX3_hasActsThatMeet_4 : decode cX3_hasActsThatMeet 4 = .ok (.getfield 21, 3) := by decide +kernel
theorem dX3_hasActsThatMeet_7 : decode cX3_hasActsThatMeet 7 = .ok (.if_icmp .ge 42, 3) := by decide +kernel
theorem dX3_hasActsThatMeet_10 : decode cX3_hasActsThatMeet 10 = .ok (.aload_n 0, 1) := by decide +kernel
theorem dX3_hasActsThatMeet_11 : decode cX3_hasActsThatMeet 11 = .ok (.getfield 15, 3) := by decide +kernel
theorem dX3_hasActsThatMeet_14 : decode cX3_hasActsThatMeet 14 = .ok (.iload_n 1, 1) := by decide +kernel
theorem dX3_hasActsThatMeet_15 : decode cX3_hasActsThatMeet 15 = .ok (.iaload, 1) := by decide +kernel
theorem dX3_hasActsThatMeet_16 : decode cX3_hasActsThatMeet 16 = .ok (.invokestatic 57, 3) := by decide +kernel
theorem dX3_hasActsThatMeet_19 : decode cX3_hasActsThatMeet 19 = .ok (.ifCond .eq 24, 3) := by decide +kernel
theorem dX3_hasActsThatMeet_22 : decode cX3_hasActsThatMeet 22 = .ok (.aload_n 0, 1) := by decide +kernel
theorem dX3_hasActsThatMeet_23 : decode cX3_hasActsThatMeet 23 = .ok (.aload_n 0, 1) := by decide +kernel
theorem dX3_hasActsThatMeet_24 : decode cX3_hasActsThatMeet 24 = .ok (.getfield 9, 3) := by decide +kernel
theorem dX3_hasActsThatMeet_27 : decode cX3_hasActsThatMeet 27 = .ok (.iload_n 1, 1) := by decide +kernel
theorem dX3_hasActsThatMeet_28 : decode cX3_hasActsThatMeet 28 = .ok (.iaload, 1) := by decide +kernel
theorem dX3_hasActsThatMeet_29 : decode cX3_hasActsThatMeet 29 = .ok (.iconst 1, 1) := by decide +kernel
theorem dX3_hasActsThatMeet_30 : decode cX3_hasActsThatMeet 30 = .ok (.iadd, 1) := by decide +kernel
theorem dX3_hasActsThatMeet_31 : decode cX3_hasActsThatMeet 31 = .ok (.sipush 255, 3) := by decide +kernel
theorem dX3_hasActsThatMeet_34 : decode cX3_hasActsThatMeet 34 = .ok (.iand, 1) := by decide +kernel
theorem dX3_hasActsThatMeet_35 : decode cX3_hasActsThatMeet 35 = .ok (.invokevirtual 54, 3) := by decide +kernel
theorem dX3_hasActsThatMeet_38 : decode cX3_hasActsThatMeet 38 = .ok (.ifCond .lt 5, 3) := by decide +kernel
theorem dX3_hasActsThatMeet_41 : decode cX3_hasActsThatMeet 41 = .ok (.iconst 1, 1) := by decide +kernel
theorem dX3_hasActsThatMeet_42 : decode cX3_hasActsThatMeet 42 = .ok (.ireturn, 1) := by decide +kernel
theorem dX3_hasActsThatMeet_43 : decode cX3_hasActsThatMeet 43 = .ok (.iinc 1 1, 3) := by decide +kernel
theorem dX3_hasActsThatMeet_46 : decode cX3_hasActsThatMeet 46 = .ok (.goto (-44), 3) := by decide +kernel
theorem dX3_hasActsThatMeet_49 : decode cX3_hasActsThatMeet 49 = .ok (.iconst 0, 1) := by decide +kernel
theorem dX3_hasActsThatMeet_50 : decode cX3_hasActsThatMeet 50 = .ok (.ireturn, 1) := by decide +kernel
theorem dX3_indexOf_0 : decode cX3_indexOf 0 = .ok (.iconst 0, 1) := by decide +kernel
theorem dX3_indexOf_1 : decode cX3_indexOf 1 = .ok (.istore_n 2, 1) := by decide +kernel
theorem dX3_indexOf_2 : decode cX3_indexOf 2 = .ok (.iload_n 2, 1) := by decide +kernel
theorem dX3_indexOf_3 : decode cX3_indexOf 3 = .ok (.aload_n 0, 1) := by decide +kernel
theorem dX3_indexOf_4 : decode cX3_indexOf 4 = .ok (.getfield 21, 3) := by decide +kernel
theorem dX3_indexOf_7 : decode cX3_indexOf 7 = .ok (.if_icmp .ge 21, 3) := by decide +kernel
theorem dX3_indexOf_10 : decode cX3_indexOf 10 = .ok (.aload_n 0, 1) := by decide +kernel
theorem dX3_indexOf_11 : decode cX3_indexOf 11 = .ok (.getfield 9, 3) := by decide +kernel
theorem dX3_indexOf_14 : decode cX3_indexOf 14 = .ok (.iload_n 2, 1) := by decide +kernel
theorem dX3_indexOf_15 : decode cX3_indexOf 15 = .ok (.iaload, 1) := by decide +kernel
theorem dX3_indexOf_16 : decode cX3_indexOf 16 = .ok (.iload_n 1, 1) := by decide +kernel
theorem dX3_indexOf_17 : decode cX3_indexOf 17 = .ok (.if_icmp .ne 5, 3) := by decide +kernel
theorem dX3_indexOf_20 : decode cX3_indexOf 20 = .ok (.iload_n 2, 1) := by decide +kernel
theorem dX3_indexOf_21 : decode cX3_indexOf 21 = .ok (.ireturn, 1) := by decide +kernel
theorem dX3_indexOf_22 : decode cX3_indexOf 22 = .ok (.iinc 2 1, 3) := by decide +kernel
theorem dX3_indexOf_25 : decode cX3_indexOf 25 = .ok (.goto (-23), 3) := by decide +kernel
theorem dX3_indexOf_28 : decode cX3_indexOf 28 = .ok (.iconst (-1), 1) := by decide +kernel
theorem dX3_indexOf_29 : decode cX3_indexOf 29 = .ok (.ireturn, 1) := by decide +kernel
theorem dX3_placeCount_0 : decode cX3_placeCount 0 = .ok (.iconst 0, 1) := by decide +kernel
theorem dX3_placeCount_1 : decode cX3_placeCount 1 = .ok (.istore_n 1, 1) := by decide +kernel
theorem dX3_placeCount_2 : decode cX3_placeCount 2 = .ok (.iconst 0, 1) := by decide +kernel
theorem dX3_placeCount_3 : decode cX3_placeCount 3 = .ok (.istore_n 2, 1) := by decide +kernel
theorem dX3_placeCount_4 : decode cX3_placeCount 4 = .ok (.iload_n 2, 1) := by decide +kernel
theorem dX3_placeCount_5 : decode cX3_placeCount 5 = .ok (.aload_n 0, 1) := by decide +kernel
theorem dX3_placeCount_6 : decode cX3_placeCount 6 = .ok (.getfield 21, 3) := by decide +kernel
theorem dX3_placeCount_9 : decode cX3_placeCount 9 = .ok (.if_icmp .ge 21, 3) := by decide +kernel
theorem dX3_placeCount_12 : decode cX3_placeCount 12 = .ok (.iload_n 1, 1) := by decide +kernel
theorem dX3_placeCount_13 : decode cX3_placeCount 13 = .ok (.aload_n 0, 1) := by decide +kernel
theorem dX3_placeCount_14 : decode cX3_placeCount 14 = .ok (.getfield 15, 3) := by decide +kernel
theorem dX3_placeCount_17 : decode cX3_placeCount 17 = .ok (.iload_n 2, 1) := by decide +kernel
theorem dX3_placeCount_18 : decode cX3_placeCount 18 = .ok (.iaload, 1) := by decide +kernel
theorem dX3_placeCount_19 : decode cX3_placeCount 19 = .ok (.invokestatic 47, 3) := by decide +kernel
theorem dX3_placeCount_22 : decode cX3_placeCount 22 = .ok (.iadd, 1) := by decide +kernel
theorem dX3_placeCount_23 : decode cX3_placeCount 23 = .ok (.istore_n 1, 1) := by decide +kernel
theorem dX3_placeCount_24 : decode cX3_placeCount 24 = .ok (.iinc 2 1, 3) := by decide +kernel
theorem dX3_placeCount_27 : decode cX3_placeCount 27 = .ok (.goto (-23), 3) := by decide +kernel
theorem dX3_placeCount_30 : decode cX3_placeCount 30 = .ok (.iload_n 1, 1) := by decide +kernel
theorem dX3_placeCount_31 : decode cX3_placeCount 31 = .ok (.ireturn, 1) := by decide +kernel
theorem dX3_isAsIn_0 : decode cX3_isAsIn 0 = .ok (.iconst 0, 1) := by decide +kernel
theorem dX3_isAsIn_1 : decode cX3_isAsIn 1 = .ok (.istore_n 2, 1) := by decide +kernel
theorem dX3_isAsIn_2 : decode cX3_isAsIn 2 = .ok (.iload_n 2, 1) := by decide +kernel
theorem dX3_isAsIn_3 : decode cX3_isAsIn 3 = .ok (.aload_n 0, 1) := by decide +kernel
theorem dX3_isAsIn_4 : decode cX3_isAsIn 4 = .ok (.getfield 21, 3) := by decide +kernel
theorem dX3_isAsIn_7 : decode cX3_isAsIn 7 = .ok (.if_icmp .ge 65, 3) := by decide +kernel
theorem dX3_isAsIn_10 : decode cX3_isAsIn 10 = .ok (.aload_n 1, 1) := by decide +kernel
theorem dX3_isAsIn_11 : decode cX3_isAsIn 11 = .ok (.aload_n 0, 1) := by decide +kernel
theorem dX3_isAsIn_12 : decode cX3_isAsIn 12 = .ok (.getfield 9, 3) := by decide +kernel
theorem dX3_isAsIn_15 : decode cX3_isAsIn 15 = .ok (.iload_n 2, 1) := by decide +kernel
theorem dX3_isAsIn_16 : decode cX3_isAsIn 16 = .ok (.iaload, 1) := by decide +kernel
theorem dX3_isAsIn_17 : decode cX3_isAsIn 17 = .ok (.iaload, 1) := by decide +kernel
theorem dX3_isAsIn_18 : decode cX3_isAsIn 18 = .ok (.aload_n 0, 1) := by decide +kernel
theorem dX3_isAsIn_19 : decode cX3_isAsIn 19 = .ok (.getfield 15, 3) := by decide +kernel
theorem dX3_isAsIn_22 : decode cX3_isAsIn 22 = .ok (.iload_n 2, 1) := by decide +kernel
theorem dX3_isAsIn_23 : decode cX3_isAsIn 23 = .ok (.iaload, 1) := by decide +kernel
theorem dX3_isAsIn_24 : decode cX3_isAsIn 24 = .ok (.if_icmp .eq 5, 3) := by decide +kernel
theorem dX3_isAsIn_27 : decode cX3_isAsIn 27 = .ok (.iconst 0, 1) := by decide +kernel
theorem dX3_isAsIn_28 : decode cX3_isAsIn 28 = .ok (.ireturn, 1) := by decide +kernel
theorem dX3_isAsIn_29 : decode cX3_isAsIn 29 = .ok (.aload_n 0, 1) := by decide +kernel
theorem dX3_isAsIn_30 : decode cX3_isAsIn 30 = .ok (.getfield 15, 3) := by decide +kernel
theorem dX3_isAsIn_33 : decode cX3_isAsIn 33 = .ok (.iload_n 2, 1) := by decide +kernel
theorem dX3_isAsIn_34 : decode cX3_isAsIn 34 = .ok (.iaload, 1) := by decide +kernel
theorem dX3_isAsIn_35 : decode cX3_isAsIn 35 = .ok (.invokestatic 57, 3) := by decide +kernel
theorem dX3_isAsIn_38 : decode cX3_isAsIn 38 = .ok (.ifCond .eq 28, 3) := by decide +kernel
theorem dX3_isAsIn_41 : decode cX3_isAsIn 41 = .ok (.aload_n 1, 1) := by decide +kernel
theorem dX3_isAsIn_42 : decode cX3_isAsIn 42 = .ok (.aload_n 0, 1) := by decide +kernel
theorem dX3_isAsIn_43 : decode cX3_isAsIn 43 = .ok (.getfield 9, 3) := by decide +kernel
theorem dX3_isAsIn_46 : decode cX3_isAsIn 46 = .ok (.iload_n 2, 1) := by decide +kernel
theorem dX3_isAsIn_47 : decode cX3_isAsIn 47 = .ok (.iaload, 1) := by decide +kernel
theorem dX3_isAsIn_48 : decode cX3_isAsIn 48 = .ok (.iconst 1, 1) := by decide +kernel
theorem dX3_isAsIn_49 : decode cX3_isAsIn 49 = .ok (.iadd, 1) := by decide +kernel
theorem dX3_isAsIn_50 : decode cX3_isAsIn 50 = .ok (.sipush 255, 3) := by decide +kernel
theorem dX3_isAsIn_53 : decode cX3_isAsIn 53 = .ok (.iand, 1) := by decide +kernel
theorem dX3_isAsIn_54 : decode cX3_isAsIn 54 = .ok (.iaload, 1) := by decide +kernel
theorem dX3_isAsIn_55 : decode cX3_isAsIn 55 = .ok (.aload_n 0, 1) := by decide +kernel
theorem dX3_isAsIn_56 : decode cX3_isAsIn 56 = .ok (.getfield 18, 3) := by decide +kernel
theorem dX3_isAsIn_59 : decode cX3_isAsIn 59 = .ok (.iload_n 2, 1) := by decide +kernel
theorem dX3_isAsIn_60 : decode cX3_isAsIn 60 = .ok (.iaload, 1) := by decide +kernel
theorem dX3_isAsIn_61 : decode cX3_isAsIn 61 = .ok (.if_icmp .eq 5, 3) := by decide +kernel
theorem dX3_isAsIn_64 : decode cX3_isAsIn 64 = .ok (.iconst 0, 1) := by decide +kernel
theorem dX3_isAsIn_65 : decode cX3_isAsIn 65 = .ok (.ireturn, 1) := by decide +kernel
theorem dX3_isAsIn_66 : decode cX3_isAsIn 66 = .ok (.iinc 2 1, 3) := by decide +kernel
theorem dX3_isAsIn_69 : decode cX3_isAsIn 69 = .ok (.goto (-67), 3) := by decide +kernel
theorem dX3_isAsIn_72 : decode cX3_isAsIn 72 = .ok (.iconst 1, 1) := by decide +kernel
theorem dX3_isAsIn_73 : decode cX3_isAsIn 73 = .ok (.ireturn, 1) := by decide +kernel
theorem dX4_init_0 : decode cX4_init 0 = .ok (.aload_n 0, 1) := by decide +kernel
theorem dX4_init_1 : decode cX4_init 1 = .ok (.invokespecial 3, 3) := by decide +kernel
theorem dX4_init_4 : decode cX4_init 4 = .ok (.aload_n 0, 1) := by decide +kernel
theorem dX4_init_5 : decode cX4_init 5 = .ok (.sipush 256, 3) := by decide +kernel
theorem dX4_init_8 : decode cX4_init 8 = .ok (.newarray .int, 2) := by decide +kernel
theorem dX4_init_10 : decode cX4_init 10 = .ok (.putfield 9, 3) := by decide +kernel
theorem dX4_init_13 : decode cX4_init 13 = .ok (.aload_n 0, 1) := by decide +kernel
theorem dX4_init_14 : decode cX4_init 14 = .ok (.aload_n 1, 1) := by decide +kernel
theorem dX4_init_15 : decode cX4_init 15 = .ok (.putfield 15, 3) := by decide +kernel
theorem dX4_init_18 : decode cX4_init 18 = .ok (.return_, 1) := by decide +kernel
theorem dX4_beginChanges_0 : decode cX4_beginChanges 0 = .ok (.aload_n 0, 1) := by decide +kernel
theorem dX4_beginChanges_1 : decode cX4_beginChanges 1 = .ok (.iconst 0, 1) := by decide +kernel
theorem dX4_beginChanges_2 : decode cX4_beginChanges 2 = .ok (.putfield 19, 3) := by decide +kernel
theorem dX4_beginChanges_5 : decode cX4_beginChanges 5 = .ok (.aload_n 0, 1) := by decide +kernel
theorem dX4_beginChanges_6 : decode cX4_beginChanges 6 = .ok (.aload_n 0, 1) := by decide +kernel
theorem dX4_beginChanges_7 : decode cX4_beginChanges 7 = .ok (.getfield 23, 3) := by decide +kernel
theorem dX4_beginChanges_10 : decode cX4_beginChanges 10 = .ok (.putfield 26, 3) := by decide +kernel
theorem dX4_beginChanges_13 : decode cX4_beginChanges 13 = .ok (.return_, 1) := by decide +kernel
theorem dX4_become_0 : decode cX4_become 0 = .ok (.iload_n 1, 1) := by decide +kernel
theorem dX4_become_1 : decode cX4_become 1 = .ok (.sipush 255, 3) := by decide +kernel
theorem dX4_become_4 : decode cX4_become 4 = .ok (.iand, 1) := by decide +kernel
theorem dX4_become_5 : decode cX4_become 5 = .ok (.istore_n 3, 1) := by decide +kernel
theorem dX4_become_6 : decode cX4_become 6 = .ok (.aload_n 0, 1) := by decide +kernel
theorem dX4_become_7 : decode cX4_become 7 = .ok (.getfield 9, 3) := by decide +kernel
theorem dX4_become_10 : decode cX4_become 10 = .ok (.iload_n 3, 1) := by decide +kernel
theorem dX4_become_11 : decode cX4_become 11 = .ok (.iaload, 1) := by decide +kernel
theorem dX4_become_12 : decode cX4_become 12 = .ok (.iload_n 2, 1) := by decide +kernel
theorem dX4_become_13 : decode cX4_become 13 = .ok (.if_icmp .ne 4, 3) := by decide +kernel
theorem dX4_become_16 : decode cX4_become 16 = .ok (.return_, 1) := by decide +kernel
theorem dX4_become_17 : decode cX4_become 17 = .ok (.aload_n 0, 1) := by decide +kernel
theorem dX4_become_18 : decode cX4_become 18 = .ok (.getfield 15, 3) := by decide +kernel
theorem dX4_become_21 : decode cX4_become 21 = .ok (.getfield 29, 3) := by decide +kernel
theorem dX4_become_24 : decode cX4_become 24 = .ok (.iload_n 3, 1) := by decide +kernel
theorem dX4_become_25 : decode cX4_become 25 = .ok (.iconst 4, 1) := by decide +kernel
theorem dX4_become_26 : decode cX4_become 26 = .ok (.ishr, 1) := by decide +kernel
theorem dX4_become_27 : decode cX4_become 27 = .ok (.iaload, 1) := by decide +kernel
theorem dX4_become_28 : decode cX4_become 28 = .ok (.aload_n 0, 1) := by decide +kernel
theorem dX4_become_29 : decode cX4_become 29 = .ok (.getfield 23, 3) := by decide +kernel
theorem dX4_become_32 : decode cX4_become 32 = .ok (.iand, 1) := by decide +kernel
theorem dX4_become_33 : decode cX4_become 33 = .ok (.ifCond .eq 13, 3) := by decide +kernel
theorem dX4_become_36 : decode cX4_become 36 = .ok (.aload_n 0, 1) := by decide +kernel
theorem dX4_become_37 : decode cX4_become 37 = .ok (.dup, 1) := by decide +kernel
theorem dX4_become_38 : decode cX4_become 38 = .ok (.getfield 34, 3) := by decide +kernel
theorem dX4_become_41 : decode cX4_become 41 = .ok (.iconst 1, 1) := by decide +kernel
theorem dX4_become_42 : decode cX4_become 42 = .ok (.iadd, 1) := by decide +kernel
theorem dX4_become_43 : decode cX4_become 43 = .ok (.putfield 34, 3) := by decide +kernel
theorem dX4_become_46 : decode cX4_become 46 = .ok (.aload_n 0, 1) := by decide +kernel
theorem dX4_become_47 : decode cX4_become 47 = .ok (.getfield 9, 3) := by decide +kernel
theorem dX4_become_50 : decode cX4_become 50 = .ok (.iload_n 3, 1) := by decide +kernel
theorem dX4_become_51 : decode cX4_become 51 = .ok (.iload_n 2, 1) := by decide +kernel
theorem dX4_become_52 : decode cX4_become 52 = .ok (.iastore, 1) := by decide +kernel
theorem dX4_become_53 : decode cX4_become 53 = .ok (.aload_n 0, 1) := by decide +kernel
theorem dX4_become_54 : decode cX4_become 54 = .ok (.dup, 1) := by decide +kernel
theorem dX4_become_55 : decode cX4_become 55 = .ok (.getfield 19, 3) := by decide +kernel
theorem dX4_become_58 : decode cX4_become 58 = .ok (.iconst 1, 1) := by decide +kernel
theorem dX4_become_59 : decode cX4_become 59 = .ok (.iadd, 1) := by decide +kernel
theorem dX4_become_60 : decode cX4_become 60 = .ok (.putfield 19, 3) := by decide +kernel
theorem dX4_become_63 : decode cX4_become 63 = .ok (.aload_n 0, 1) := by decide +kernel
theorem dX4_become_64 : decode cX4_become 64 = .ok (.dup, 1) := by decide +kernel
theorem dX4_become_65 : decode cX4_become 65 = .ok (.getfield 23, 3) := by decide +kernel
theorem dX4_become_68 : decode cX4_become 68 = .ok (.aload_n 0, 1) := by decide +kernel
theorem dX4_become_69 : decode cX4_become 69 = .ok (.getfield 15, 3) := by decide +kernel
theorem dX4_become_72 : decode cX4_become 72 = .ok (.getfield 37, 3) := by decide +kernel
theorem dX4_become_75 : decode cX4_become 75 = .ok (.iload_n 3, 1) := by decide +kernel
theorem dX4_become_76 : decode cX4_become 76 = .ok (.iaload, 1) := by decide +kernel
theorem dX4_become_77 : decode cX4_become 77 = .ok (.iconst (-1), 1) := by decide +kernel
theorem dX4_become_78 : decode cX4_become 78 = .ok (.ixor, 1) := by decide +kernel
theorem dX4_become_79 : decode cX4_become 79 = .ok (.iand, 1) := by decide +kernel
theorem dX4_become_80 : decode cX4_become 80 = .ok (.putfield 23, 3) := by decide +kernel
theorem dX4_become_83 : decode cX4_become 83 = .ok (.return_, 1) := by decide +kernel
theorem dX4_hasLive_0 : decode cX4_hasLive 0 = .ok (.aload_n 0, 1) := by decide +kernel
theorem dX4_hasLive_1 : decode cX4_hasLive 1 = .ok (.getfield 23, 3) := by decide +kernel
theorem dX4_hasLive_4 : decode cX4_hasLive 4 = .ok (.iload_n 1, 1) := by decide +kernel
theorem dX4_hasLive_5 : decode cX4_hasLive 5 = .ok (.ishr, 1) := by decide +kernel
theorem dX4_hasLive_6 : decode cX4_hasLive 6 = .ok (.iconst 1, 1) := by decide +kernel
theorem dX4_hasLive_7 : decode cX4_hasLive 7 = .ok (.iand, 1) := by decide +kernel
theorem dX4_hasLive_8 : decode cX4_hasLive 8 = .ok (.ifCond .eq 7, 3) := by decide +kernel
theorem dX4_hasLive_11 : decode cX4_hasLive 11 = .ok (.iconst 1, 1) := by decide +kernel
theorem dX4_hasLive_12 : decode cX4_hasLive 12 = .ok (.goto 4, 3) := by decide +kernel
theorem dX4_hasLive_15 : decode cX4_hasLive 15 = .ok (.iconst 0, 1) := by decide +kernel
theorem dX4_hasLive_16 : decode cX4_hasLive 16 = .ok (.ireturn, 1) := by decide +kernel
theorem dX4_wasDropped_0 : decode cX4_wasDropped 0 = .ok (.aload_n 0, 1) := by decide +kernel
theorem dX4_wasDropped_1 : decode cX4_wasDropped 1 = .ok (.getfield 26, 3) := by decide +kernel
theorem dX4_wasDropped_4 : decode cX4_wasDropped 4 = .ok (.aload_n 0, 1) := by decide +kernel
theorem dX4_wasDropped_5 : decode cX4_wasDropped 5 = .ok (.getfield 23, 3) := by decide +kernel
theorem dX4_wasDropped_8 : decode cX4_wasDropped 8 = .ok (.iconst (-1), 1) := by decide +kernel
theorem dX4_wasDropped_9 : decode cX4_wasDropped 9 = .ok (.ixor, 1) := by decide +kernel
theorem dX4_wasDropped_10 : decode cX4_wasDropped 10 = .ok (.iand, 1) := by decide +kernel
theorem dX4_wasDropped_11 : decode cX4_wasDropped 11 = .ok (.iload_n 1, 1) := by decide +kernel
theorem dX4_wasDropped_12 : decode cX4_wasDropped 12 = .ok (.ishr, 1) := by decide +kernel
theorem dX4_wasDropped_13 : decode cX4_wasDropped 13 = .ok (.iconst 1, 1) := by decide +kernel
theorem dX4_wasDropped_14 : decode cX4_wasDropped 14 = .ok (.iand, 1) := by decide +kernel
theorem dX4_wasDropped_15 : decode cX4_wasDropped 15 = .ok (.ifCond .eq 7, 3) := by decide +kernel
theorem dX4_wasDropped_18 : decode cX4_wasDropped 18 = .ok (.iconst 1, 1) := by decide +kernel
theorem dX4_wasDropped_19 : decode cX4_wasDropped 19 = .ok (.goto 4, 3) := by decide +kernel
theorem dX4_wasDropped_22 : decode cX4_wasDropped 22 = .ok (.iconst 0, 1) := by decide +kernel
theorem dX4_wasDropped_23 : decode cX4_wasDropped 23 = .ok (.ireturn, 1) := by decide +kernel
theorem dX4_copyFrom_0 : decode cX4_copyFrom 0 = .ok (.aload_n 1, 1) := by decide +kernel
theorem dX4_copyFrom_1 : decode cX4_copyFrom 1 = .ok (.getfield 9, 3) := by decide +kernel
theorem dX4_copyFrom_4 : decode cX4_copyFrom 4 = .ok (.iconst 0, 1) := by decide +kernel
theorem dX4_copyFrom_5 : decode cX4_copyFrom 5 = .ok (.aload_n 0, 1) := by decide +kernel
theorem dX4_copyFrom_6 : decode cX4_copyFrom 6 = .ok (.getfield 9, 3) := by decide +kernel
theorem dX4_copyFrom_9 : decode cX4_copyFrom 9 = .ok (.iconst 0, 1) := by decide +kernel
theorem dX4_copyFrom_10 : decode cX4_copyFrom 10 = .ok (.sipush 256, 3) := by decide +kernel
theorem dX4_copyFrom_13 : decode cX4_copyFrom 13 = .ok (.invokestatic 40, 3) := by decide +kernel
theorem dX4_copyFrom_16 : decode cX4_copyFrom 16 = .ok (.aload_n 0, 1) := by decide +kernel
theorem dX4_copyFrom_17 : decode cX4_copyFrom 17 = .ok (.iload_n 2, 1) := by decide +kernel
theorem dX4_copyFrom_18 : decode cX4_copyFrom 18 = .ok (.putfield 23, 3) := by decide +kernel
theorem dX4_copyFrom_21 : decode cX4_copyFrom 21 = .ok (.aload_n 0, 1) := by decide +kernel
theorem dX4_copyFrom_22 : decode cX4_copyFrom 22 = .ok (.invokevirtual 46, 3) := by decide +kernel
theorem dX4_copyFrom_25 : decode cX4_copyFrom 25 = .ok (.return_, 1) := by decide +kernel
theorem dX4_hasSameBytesAs_0 : decode cX4_hasSameBytesAs 0 = .ok (.iconst 0, 1) := by decide +kernel
theorem dX4_hasSameBytesAs_1 : decode cX4_hasSameBytesAs 1 = .ok (.istore_n 2, 1) := by decide +kernel
theorem dX4_hasSameBytesAs_2 : decode cX4_hasSameBytesAs 2 = .ok (.iload_n 2, 1) := by decide +kernel
theorem dX4_hasSameBytesAs_3 : decode cX4_hasSameBytesAs 3 = .ok (.sipush 256, 3) := by decide +kernel
theorem dX4_hasSameBytesAs_6 : decode cX4_hasSameBytesAs 6 = .ok (.if_icmp .ge 26, 3) := by decide +kernel
theorem dX4_hasSameBytesAs_9 : decode cX4_hasSameBytesAs 9 = .ok (.aload_n 0, 1) := by decide +kernel
theorem dX4_hasSameBytesAs_10 : decode cX4_hasSameBytesAs 10 = .ok (.getfield 9, 3) := by decide +kernel
theorem dX4_hasSameBytesAs_13 : decode cX4_hasSameBytesAs 13 = .ok (.iload_n 2, 1) := by decide +kernel
theorem dX4_hasSameBytesAs_14 : decode cX4_hasSameBytesAs 14 = .ok (.iaload, 1) := by decide +kernel
theorem dX4_hasSameBytesAs_15 : decode cX4_hasSameBytesAs 15 = .ok (.aload_n 1, 1) := by decide +kernel
theorem dX4_hasSameBytesAs_16 : decode cX4_hasSameBytesAs 16 = .ok (.getfield 9, 3) := by decide +kernel
theorem dX4_hasSameBytesAs_19 : decode cX4_hasSameBytesAs 19 = .ok (.iload_n 2, 1) := by decide +kernel
theorem dX4_hasSameBytesAs_20 : decode cX4_hasSameBytesAs 20 = .ok (.iaload, 1) := by decide +kernel
theorem dX4_hasSameBytesAs_21 : decode cX4_hasSameBytesAs 21 = .ok (.if_icmp .eq 5, 3) := by decide +kernel
theorem dX4_hasSameBytesAs_24 : decode cX4_hasSameBytesAs 24 = .ok (.iconst 0, 1) := by decide +kernel
theorem dX4_hasSameBytesAs_25 : decode cX4_hasSameBytesAs 25 = .ok (.ireturn, 1) := by decide +kernel
theorem dX4_hasSameBytesAs_26 : decode cX4_hasSameBytesAs 26 = .ok (.iinc 2 1, 3) := by decide +kernel
theorem dX4_hasSameBytesAs_29 : decode cX4_hasSameBytesAs 29 = .ok (.goto (-27), 3) := by decide +kernel
theorem dX4_hasSameBytesAs_32 : decode cX4_hasSameBytesAs 32 = .ok (.iconst 1, 1) := by decide +kernel
theorem dX4_hasSameBytesAs_33 : decode cX4_hasSameBytesAs 33 = .ok (.ireturn, 1) := by decide +kernel
theorem dX4_empty_0 : decode cX4_empty 0 = .ok (.aload_n 0, 1) := by decide +kernel
theorem dX4_empty_1 : decode cX4_empty 1 = .ok (.getfield 9, 3) := by decide +kernel
theorem dX4_empty_4 : decode cX4_empty 4 = .ok (.iconst 0, 1) := by decide +kernel
theorem dX4_empty_5 : decode cX4_empty 5 = .ok (.invokestatic 49, 3) := by decide +kernel
theorem dX4_empty_8 : decode cX4_empty 8 = .ok (.aload_n 0, 1) := by decide +kernel
theorem dX4_empty_9 : decode cX4_empty 9 = .ok (.iconst 0, 1) := by decide +kernel
theorem dX4_empty_10 : decode cX4_empty 10 = .ok (.putfield 23, 3) := by decide +kernel
theorem dX4_empty_13 : decode cX4_empty 13 = .ok (.aload_n 0, 1) := by decide +kernel
theorem dX4_empty_14 : decode cX4_empty 14 = .ok (.iconst 0, 1) := by decide +kernel
theorem dX4_empty_15 : decode cX4_empty 15 = .ok (.putfield 34, 3) := by decide +kernel
theorem dX4_empty_18 : decode cX4_empty 18 = .ok (.aload_n 0, 1) := by decide +kernel
theorem dX4_empty_19 : decode cX4_empty 19 = .ok (.invokevirtual 46, 3) := by decide +kernel
theorem dX4_empty_22 : decode cX4_empty 22 = .ok (.return_, 1) := by decide +kernel
theorem dX5_init_0 : decode cX5_init 0 = .ok (.aload_n 0, 1) := by decide +kernel
theorem dX5_init_1 : decode cX5_init 1 = .ok (.invokespecial 3, 3) := by decide +kernel
theorem dX5_init_4 : decode cX5_init 4 = .ok (.aload_n 0, 1) := by decide +kernel
theorem dX5_init_5 : decode cX5_init 5 = .ok (.new 9, 3) := by decide +kernel
theorem dX5_init_8 : decode cX5_init 8 = .ok (.dup, 1) := by decide +kernel
theorem dX5_init_9 : decode cX5_init 9 = .ok (.invokespecial 11, 3) := by decide +kernel
theorem dX5_init_12 : decode cX5_init 12 = .ok (.putfield 12, 3) := by decide +kernel
theorem dX5_init_15 : decode cX5_init 15 = .ok (.aload_n 0, 1) := by decide +kernel
theorem dX5_init_16 : decode cX5_init 16 = .ok (.new 9, 3) := by decide +kernel
theorem dX5_init_19 : decode cX5_init 19 = .ok (.dup, 1) := by decide +kernel
theorem dX5_init_20 : decode cX5_init 20 = .ok (.invokespecial 11, 3) := by decide +kernel
theorem dX5_init_23 : decode cX5_init 23 = .ok (.putfield 18, 3) := by decide +kernel
theorem dX5_init_26 : decode cX5_init 26 = .ok (.return_, 1) := by decide +kernel
theorem dX5_begin_0 : decode cX5_begin 0 = .ok (.aload_n 0, 1) := by decide +kernel
theorem dX5_begin_1 : decode cX5_begin 1 = .ok (.iload_n 1, 1) := by decide +kernel
theorem dX5_begin_2 : decode cX5_begin 2 = .ok (.putfield 21, 3) := by decide +kernel
theorem dX5_begin_5 : decode cX5_begin 5 = .ok (.aload_n 0, 1) := by decide +kernel
theorem dX5_begin_6 : decode cX5_begin 6 = .ok (.iconst 0, 1) := by decide +kernel
theorem dX5_begin_7 : decode cX5_begin 7 = .ok (.putfield 25, 3) := by decide +kernel
theorem dX5_begin_10 : decode cX5_begin 10 = .ok (.aload_n 0, 1) := by decide +kernel
theorem dX5_begin_11 : decode cX5_begin 11 = .ok (.iconst 0, 1) := by decide +kernel
theorem dX5_begin_12 : decode cX5_begin 12 = .ok (.putfield 28, 3) := by decide +kernel
theorem dX5_begin_15 : decode cX5_begin 15 = .ok (.return_, 1) := by decide +kernel
theorem dX5_isWalkedForGood_0 : decode cX5_isWalkedForGood 0 = .ok (.aload_n 0, 1) := by decide +kernel
theorem dX5_isWalkedForGood_1 : decode cX5_isWalkedForGood 1 = .ok (.getfield 25, 3) := by decide +kernel
theorem dX5_isWalkedForGood_4 : decode cX5_isWalkedForGood 4 = .ok (.iconst 3, 1) := by decide +kernel
theorem dX5_isWalkedForGood_5 : decode cX5_isWalkedForGood 5 = .ok (.if_icmp .lt 7, 3) := by decide +kernel
theorem dX5_isWalkedForGood_8 : decode cX5_isWalkedForGood 8 = .ok (.iconst 1, 1) := by decide +kernel
theorem dX5_isWalkedForGood_9 : decode cX5_isWalkedForGood 9 = .ok (.goto 4, 3) := by decide +kernel
theorem dX5_isWalkedForGood_12 : decode cX5_isWalkedForGood 12 = .ok (.iconst 0, 1) := by decide +kernel
theorem dX5_isWalkedForGood_13 : decode cX5_isWalkedForGood 13 = .ok (.ireturn, 1) := by decide +kernel
theorem dX5_layAside_0 : decode cX5_layAside 0 = .ok (.aload_n 0, 1) := by decide +kernel
theorem dX5_layAside_1 : decode cX5_layAside 1 = .ok (.invokevirtual 32, 3) := by decide +kernel
theorem dX5_layAside_4 : decode cX5_layAside 4 = .ok (.aload_n 0, 1) := by decide +kernel
theorem dX5_layAside_5 : decode cX5_layAside 5 = .ok (.iconst 1, 1) := by decide +kernel
theorem dX5_layAside_6 : decode cX5_layAside 6 = .ok (.putfield 28, 3) := by decide +kernel
theorem dX5_layAside_9 : decode cX5_layAside 9 = .ok (.aload_n 0, 1) := by decide +kernel
theorem dX5_layAside_10 : decode cX5_layAside 10 = .ok (.dup, 1) := by decide +kernel
theorem dX5_layAside_11 : decode cX5_layAside 11 = .ok (.getfield 25, 3) := by decide +kernel
theorem dX5_layAside_14 : decode cX5_layAside 14 = .ok (.iconst 1, 1) := by decide +kernel
theorem dX5_layAside_15 : decode cX5_layAside 15 = .ok (.iadd, 1) := by decide +kernel
theorem dX5_layAside_16 : decode cX5_layAside 16 = .ok (.putfield 25, 3) := by decide +kernel
theorem dX5_layAside_19 : decode cX5_layAside 19 = .ok (.return_, 1) := by decide +kernel
theorem dX5_canComeBack_0 : decode cX5_canComeBack 0 = .ok (.aload_n 0, 1) := by decide +kernel
theorem dX5_canComeBack_1 : decode cX5_canComeBack 1 = .ok (.getfield 28, 3) := by decide +kernel
theorem dX5_canComeBack_4 : decode cX5_canComeBack 4 = .ok (.ifCond .eq 25, 3) := by decide +kernel
theorem dX5_canComeBack_7 : decode cX5_canComeBack 7 = .ok (.aload_n 0, 1) := by decide +kernel
theorem dX5_canComeBack_8 : decode cX5_canComeBack 8 = .ok (.invokevirtual 35, 3) := by decide +kernel
theorem dX5_canComeBack_11 : decode cX5_canComeBack 11 = .ok (.ifCond .ne 18, 3) := by decide +kernel
theorem dX5_canComeBack_14 : decode cX5_canComeBack 14 = .ok (.aload_n 0, 1) := by decide +kernel
theorem dX5_canComeBack_15 : decode cX5_canComeBack 15 = .ok (.getfield 18, 3) := by decide +kernel
theorem dX5_canComeBack_18 : decode cX5_canComeBack 18 = .ok (.aload_n 1, 1) := by decide +kernel
theorem dX5_canComeBack_19 : decode cX5_canComeBack 19 = .ok (.invokevirtual 39, 3) := by decide +kernel
theorem dX5_canComeBack_22 : decode cX5_canComeBack 22 = .ok (.ifCond .eq 7, 3) := by decide +kernel
theorem dX5_canComeBack_25 : decode cX5_canComeBack 25 = .ok (.iconst 1, 1) := by decide +kernel
theorem dX5_canComeBack_26 : decode cX5_canComeBack 26 = .ok (.goto 4, 3) := by decide +kernel
theorem dX5_canComeBack_29 : decode cX5_canComeBack 29 = .ok (.iconst 0, 1) := by decide +kernel
theorem dX5_canComeBack_30 : decode cX5_canComeBack 30 = .ok (.ireturn, 1) := by decide +kernel
theorem dX5_takeBack_0 : decode cX5_takeBack 0 = .ok (.aload_n 0, 1) := by decide +kernel
theorem dX5_takeBack_1 : decode cX5_takeBack 1 = .ok (.invokevirtual 32, 3) := by decide +kernel
theorem dX5_takeBack_4 : decode cX5_takeBack 4 = .ok (.aload_n 0, 1) := by decide +kernel
theorem dX5_takeBack_5 : decode cX5_takeBack 5 = .ok (.iconst 0, 1) := by decide +kernel
theorem dX5_takeBack_6 : decode cX5_takeBack 6 = .ok (.putfield 28, 3) := by decide +kernel
theorem dX5_takeBack_9 : decode cX5_takeBack 9 = .ok (.return_, 1) := by decide +kernel
theorem dX5_exchange_0 : decode cX5_exchange 0 = .ok (.aload_n 0, 1) := by decide +kernel
theorem dX5_exchange_1 : decode cX5_exchange 1 = .ok (.getfield 12, 3) := by decide +kernel
theorem dX5_exchange_4 : decode cX5_exchange 4 = .ok (.astore_n 1, 1) := by decide +kernel
theorem dX5_exchange_5 : decode cX5_exchange 5 = .ok (.aload_n 0, 1) := by decide +kernel
theorem dX5_exchange_6 : decode cX5_exchange 6 = .ok (.aload_n 0, 1) := by decide +kernel
theorem dX5_exchange_7 : decode cX5_exchange 7 = .ok (.getfield 18, 3) := by decide +kernel
theorem dX5_exchange_10 : decode cX5_exchange 10 = .ok (.putfield 12, 3) := by decide +kernel
theorem dX5_exchange_13 : decode cX5_exchange 13 = .ok (.aload_n 0, 1) := by decide +kernel
theorem dX5_exchange_14 : decode cX5_exchange 14 = .ok (.aload_n 1, 1) := by decide +kernel
theorem dX5_exchange_15 : decode cX5_exchange 15 = .ok (.putfield 18, 3) := by decide +kernel
theorem dX5_exchange_18 : decode cX5_exchange 18 = .ok (.return_, 1) := by decide +kernel
theorem dJ6_bitCount_0f7a4_0 : decode cJ6_bitCount_0f7a4 0 = .ok (.iload_n 0, 1) := by decide +kernel
theorem dJ6_bitCount_0f7a4_1 : decode cJ6_bitCount_0f7a4 1 = .ok (.iload_n 0, 1) := by decide +kernel
theorem dJ6_bitCount_0f7a4_2 : decode cJ6_bitCount_0f7a4 2 = .ok (.iconst 1, 1) := by decide +kernel
theorem dJ6_bitCount_0f7a4_3 : decode cJ6_bitCount_0f7a4 3 = .ok (.iushr, 1) := by decide +kernel
theorem dJ6_bitCount_0f7a4_4 : decode cJ6_bitCount_0f7a4 4 = .ok (.ldc_w 265, 3) := by decide +kernel
theorem dJ6_bitCount_0f7a4_7 : decode cJ6_bitCount_0f7a4 7 = .ok (.iand, 1) := by decide +kernel
theorem dJ6_bitCount_0f7a4_8 : decode cJ6_bitCount_0f7a4 8 = .ok (.isub, 1) := by decide +kernel
theorem dJ6_bitCount_0f7a4_9 : decode cJ6_bitCount_0f7a4 9 = .ok (.istore_n 0, 1) := by decide +kernel
theorem dJ6_bitCount_0f7a4_10 : decode cJ6_bitCount_0f7a4 10 = .ok (.iload_n 0, 1) := by decide +kernel
theorem dJ6_bitCount_0f7a4_11 : decode cJ6_bitCount_0f7a4 11 = .ok (.ldc_w 266, 3) := by decide +kernel
theorem dJ6_bitCount_0f7a4_14 : decode cJ6_bitCount_0f7a4 14 = .ok (.iand, 1) := by decide +kernel
theorem dJ6_bitCount_0f7a4_15 : decode cJ6_bitCount_0f7a4 15 = .ok (.iload_n 0, 1) := by decide +kernel
theorem dJ6_bitCount_0f7a4_16 : decode cJ6_bitCount_0f7a4 16 = .ok (.iconst 2, 1) := by decide +kernel
theorem dJ6_bitCount_0f7a4_17 : decode cJ6_bitCount_0f7a4 17 = .ok (.iushr, 1) := by decide +kernel
theorem dJ6_bitCount_0f7a4_18 : decode cJ6_bitCount_0f7a4 18 = .ok (.ldc_w 266, 3) := by decide +kernel
theorem dJ6_bitCount_0f7a4_21 : decode cJ6_bitCount_0f7a4 21 = .ok (.iand, 1) := by decide +kernel
theorem dJ6_bitCount_0f7a4_22 : decode cJ6_bitCount_0f7a4 22 = .ok (.iadd, 1) := by decide +kernel
theorem dJ6_bitCount_0f7a4_23 : decode cJ6_bitCount_0f7a4 23 = .ok (.istore_n 0, 1) := by decide +kernel
theorem dJ6_bitCount_0f7a4_24 : decode cJ6_bitCount_0f7a4 24 = .ok (.iload_n 0, 1) := by decide +kernel
theorem dJ6_bitCount_0f7a4_25 : decode cJ6_bitCount_0f7a4 25 = .ok (.iload_n 0, 1) := by decide +kernel
theorem dJ6_bitCount_0f7a4_26 : decode cJ6_bitCount_0f7a4 26 = .ok (.iconst 4, 1) := by decide +kernel
theorem dJ6_bitCount_0f7a4_27 : decode cJ6_bitCount_0f7a4 27 = .ok (.iushr, 1) := by decide +kernel
theorem dJ6_bitCount_0f7a4_28 : decode cJ6_bitCount_0f7a4 28 = .ok (.iadd, 1) := by decide +kernel
theorem dJ6_bitCount_0f7a4_29 : decode cJ6_bitCount_0f7a4 29 = .ok (.ldc_w 267, 3) := by decide +kernel
theorem dJ6_bitCount_0f7a4_32 : decode cJ6_bitCount_0f7a4 32 = .ok (.iand, 1) := by decide +kernel
theorem dJ6_bitCount_0f7a4_33 : decode cJ6_bitCount_0f7a4 33 = .ok (.istore_n 0, 1) := by decide +kernel
theorem dJ6_bitCount_0f7a4_34 : decode cJ6_bitCount_0f7a4 34 = .ok (.iload_n 0, 1) := by decide +kernel
theorem dJ6_bitCount_0f7a4_35 : decode cJ6_bitCount_0f7a4 35 = .ok (.iload_n 0, 1) := by decide +kernel
theorem dJ6_bitCount_0f7a4_36 : decode cJ6_bitCount_0f7a4 36 = .ok (.bipush 8, 2) := by decide +kernel
theorem dJ6_bitCount_0f7a4_38 : decode cJ6_bitCount_0f7a4 38 = .ok (.iushr, 1) := by decide +kernel
theorem dJ6_bitCount_0f7a4_39 : decode cJ6_bitCount_0f7a4 39 = .ok (.iadd, 1) := by decide +kernel
theorem dJ6_bitCount_0f7a4_40 : decode cJ6_bitCount_0f7a4 40 = .ok (.istore_n 0, 1) := by decide +kernel
theorem dJ6_bitCount_0f7a4_41 : decode cJ6_bitCount_0f7a4 41 = .ok (.iload_n 0, 1) := by decide +kernel
theorem dJ6_bitCount_0f7a4_42 : decode cJ6_bitCount_0f7a4 42 = .ok (.iload_n 0, 1) := by decide +kernel
theorem dJ6_bitCount_0f7a4_43 : decode cJ6_bitCount_0f7a4 43 = .ok (.bipush 16, 2) := by decide +kernel
theorem dJ6_bitCount_0f7a4_45 : decode cJ6_bitCount_0f7a4 45 = .ok (.iushr, 1) := by decide +kernel
theorem dJ6_bitCount_0f7a4_46 : decode cJ6_bitCount_0f7a4 46 = .ok (.iadd, 1) := by decide +kernel
theorem dJ6_bitCount_0f7a4_47 : decode cJ6_bitCount_0f7a4 47 = .ok (.istore_n 0, 1) := by decide +kernel
theorem dJ6_bitCount_0f7a4_48 : decode cJ6_bitCount_0f7a4 48 = .ok (.iload_n 0, 1) := by decide +kernel
theorem dJ6_bitCount_0f7a4_49 : decode cJ6_bitCount_0f7a4 49 = .ok (.bipush 63, 2) := by decide +kernel
theorem dJ6_bitCount_0f7a4_51 : decode cJ6_bitCount_0f7a4 51 = .ok (.iand, 1) := by decide +kernel
theorem dJ6_bitCount_0f7a4_52 : decode cJ6_bitCount_0f7a4 52 = .ok (.ireturn, 1) := by decide +kernel
theorem dJ7_fill_53178_0 : decode cJ7_fill_53178 0 = .ok (.iconst 0, 1) := by decide +kernel
theorem dJ7_fill_53178_1 : decode cJ7_fill_53178 1 = .ok (.istore_n 2, 1) := by decide +kernel
theorem dJ7_fill_53178_2 : decode cJ7_fill_53178 2 = .ok (.aload_n 0, 1) := by decide +kernel
theorem dJ7_fill_53178_3 : decode cJ7_fill_53178 3 = .ok (.arraylength, 1) := by decide +kernel
theorem dJ7_fill_53178_4 : decode cJ7_fill_53178 4 = .ok (.istore_n 3, 1) := by decide +kernel
theorem dJ7_fill_53178_5 : decode cJ7_fill_53178 5 = .ok (.iload_n 2, 1) := by decide +kernel
theorem dJ7_fill_53178_6 : decode cJ7_fill_53178 6 = .ok (.iload_n 3, 1) := by decide +kernel
theorem dJ7_fill_53178_7 : decode cJ7_fill_53178 7 = .ok (.if_icmp .ge 13, 3) := by decide +kernel
theorem dJ7_fill_53178_10 : decode cJ7_fill_53178 10 = .ok (.aload_n 0, 1) := by decide +kernel
theorem dJ7_fill_53178_11 : decode cJ7_fill_53178 11 = .ok (.iload_n 2, 1) := by decide +kernel
theorem dJ7_fill_53178_12 : decode cJ7_fill_53178 12 = .ok (.iload_n 1, 1) := by decide +kernel
theorem dJ7_fill_53178_13 : decode cJ7_fill_53178 13 = .ok (.iastore, 1) := by decide +kernel
theorem dJ7_fill_53178_14 : decode cJ7_fill_53178 14 = .ok (.iinc 2 1, 3) := by decide +kernel
theorem dJ7_fill_53178_17 : decode cJ7_fill_53178 17 = .ok (.goto (-12), 3) := by decide +kernel
theorem dJ7_fill_53178_20 : decode cJ7_fill_53178 20 = .ok (.return_, 1) := by decide +kernel
theorem dJ9_max_7cf53_0 : decode cJ9_max_7cf53 0 = .ok (.iload_n 0, 1) := by decide +kernel
theorem dJ9_max_7cf53_1 : decode cJ9_max_7cf53 1 = .ok (.iload_n 1, 1) := by decide +kernel
theorem dJ9_max_7cf53_2 : decode cJ9_max_7cf53 2 = .ok (.if_icmp .lt 7, 3) := by decide +kernel
theorem dJ9_max_7cf53_5 : decode cJ9_max_7cf53 5 = .ok (.iload_n 0, 1) := by decide +kernel
theorem dJ9_max_7cf53_6 : decode cJ9_max_7cf53 6 = .ok (.goto 4, 3) := by decide +kernel
theorem dJ9_max_7cf53_9 : decode cJ9_max_7cf53 9 = .ok (.iload_n 1, 1) := by decide +kernel
theorem dJ9_max_7cf53_10 : decode cJ9_max_7cf53 10 = .ok (.ireturn, 1) := by decide +kernel
