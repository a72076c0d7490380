theorem d_WP_init_0 : decode b_WP_init 0 = .ok (.aload_n 0, 1) := by decide +kernel
theorem d_WP_init_1 : decode b_WP_init 1 = .ok (.invokespecial 3, 3) := by decide +kernel
theorem d_WP_init_4 : decode b_WP_init 4 = .ok (.aload_n 0, 1) := by decide +kernel
theorem d_WP_init_5 : decode b_WP_init 5 = .ok (.new 9, 3) := by decide +kernel
theorem d_WP_init_8 : decode b_WP_init 8 = .ok (.dup, 1) := by decide +kernel
theorem d_WP_init_9 : decode b_WP_init 9 = .ok (.invokespecial 11, 3) := by decide +kernel
theorem d_WP_init_12 : decode b_WP_init 12 = .ok (.putfield 12, 3) := by decide +kernel
theorem d_WP_init_15 : decode b_WP_init 15 = .ok (.aload_n 0, 1) := by decide +kernel
theorem d_WP_init_16 : decode b_WP_init 16 = .ok (.new 16, 3) := by decide +kernel
theorem d_WP_init_19 : decode b_WP_init 19 = .ok (.dup, 1) := by decide +kernel
theorem d_WP_init_20 : decode b_WP_init 20 = .ok (.invokespecial 18, 3) := by decide +kernel
theorem d_WP_init_23 : decode b_WP_init 23 = .ok (.putfield 19, 3) := by decide +kernel
theorem d_WP_init_26 : decode b_WP_init 26 = .ok (.aload_n 0, 1) := by decide +kernel
theorem d_WP_init_27 : decode b_WP_init 27 = .ok (.new 23, 3) := by decide +kernel
theorem d_WP_init_30 : decode b_WP_init 30 = .ok (.dup, 1) := by decide +kernel
theorem d_WP_init_31 : decode b_WP_init 31 = .ok (.invokespecial 25, 3) := by decide +kernel
theorem d_WP_init_34 : decode b_WP_init 34 = .ok (.putfield 26, 3) := by decide +kernel
theorem d_WP_init_37 : decode b_WP_init 37 = .ok (.aload_n 0, 1) := by decide +kernel
theorem d_WP_init_38 : decode b_WP_init 38 = .ok (.new 30, 3) := by decide +kernel
theorem d_WP_init_41 : decode b_WP_init 41 = .ok (.dup, 1) := by decide +kernel
theorem d_WP_init_42 : decode b_WP_init 42 = .ok (.invokespecial 32, 3) := by decide +kernel
theorem d_WP_init_45 : decode b_WP_init 45 = .ok (.putfield 33, 3) := by decide +kernel
theorem d_WP_init_48 : decode b_WP_init 48 = .ok (.aload_n 0, 1) := by decide +kernel
theorem d_WP_init_49 : decode b_WP_init 49 = .ok (.new 37, 3) := by decide +kernel
theorem d_WP_init_52 : decode b_WP_init 52 = .ok (.dup, 1) := by decide +kernel
theorem d_WP_init_53 : decode b_WP_init 53 = .ok (.invokespecial 39, 3) := by decide +kernel
theorem d_WP_init_56 : decode b_WP_init 56 = .ok (.putfield 40, 3) := by decide +kernel
theorem d_WP_init_59 : decode b_WP_init 59 = .ok (.aload_n 0, 1) := by decide +kernel
theorem d_WP_init_60 : decode b_WP_init 60 = .ok (.new 44, 3) := by decide +kernel
theorem d_WP_init_63 : decode b_WP_init 63 = .ok (.dup, 1) := by decide +kernel
theorem d_WP_init_64 : decode b_WP_init 64 = .ok (.invokespecial 46, 3) := by decide +kernel
theorem d_WP_init_67 : decode b_WP_init 67 = .ok (.putfield 47, 3) := by decide +kernel
theorem d_WP_init_70 : decode b_WP_init 70 = .ok (.aload_n 0, 1) := by decide +kernel
theorem d_WP_init_71 : decode b_WP_init 71 = .ok (.new 51, 3) := by decide +kernel
theorem d_WP_init_74 : decode b_WP_init 74 = .ok (.dup, 1) := by decide +kernel
theorem d_WP_init_75 : decode b_WP_init 75 = .ok (.invokespecial 53, 3) := by decide +kernel
theorem d_WP_init_78 : decode b_WP_init 78 = .ok (.putfield 54, 3) := by decide +kernel
theorem d_WP_init_81 : decode b_WP_init 81 = .ok (.aload_n 0, 1) := by decide +kernel
theorem d_WP_init_82 : decode b_WP_init 82 = .ok (.new 58, 3) := by decide +kernel
theorem d_WP_init_85 : decode b_WP_init 85 = .ok (.dup, 1) := by decide +kernel
theorem d_WP_init_86 : decode b_WP_init 86 = .ok (.invokespecial 60, 3) := by decide +kernel
theorem d_WP_init_89 : decode b_WP_init 89 = .ok (.putfield 61, 3) := by decide +kernel
theorem d_WP_init_92 : decode b_WP_init 92 = .ok (.aload_n 0, 1) := by decide +kernel
theorem d_WP_init_93 : decode b_WP_init 93 = .ok (.iconst 0, 1) := by decide +kernel
theorem d_WP_init_94 : decode b_WP_init 94 = .ok (.putfield 65, 3) := by decide +kernel
theorem d_WP_init_97 : decode b_WP_init 97 = .ok (.aload_n 0, 1) := by decide +kernel
theorem d_WP_init_98 : decode b_WP_init 98 = .ok (.iconst 0, 1) := by decide +kernel
theorem d_WP_init_99 : decode b_WP_init 99 = .ok (.putfield 69, 3) := by decide +kernel
theorem d_WP_init_102 : decode b_WP_init 102 = .ok (.aload_n 0, 1) := by decide +kernel
theorem d_WP_init_103 : decode b_WP_init 103 = .ok (.lconst 0, 1) := by decide +kernel
theorem d_WP_init_104 : decode b_WP_init 104 = .ok (.putfield 72, 3) := by decide +kernel
theorem d_WP_init_107 : decode b_WP_init 107 = .ok (.return_, 1) := by decide +kernel
theorem d_WP_clear_0 : decode b_WP_clear 0 = .ok (.aload_n 0, 1) := by decide +kernel
theorem d_WP_clear_1 : decode b_WP_clear 1 = .ok (.getfield 12, 3) := by decide +kernel
theorem d_WP_clear_4 : decode b_WP_clear 4 = .ok (.getfield 76, 3) := by decide +kernel
theorem d_WP_clear_7 : decode b_WP_clear 7 = .ok (.istore_n 1, 1) := by decide +kernel
theorem d_WP_clear_8 : decode b_WP_clear 8 = .ok (.aload_n 0, 1) := by decide +kernel
theorem d_WP_clear_9 : decode b_WP_clear 9 = .ok (.getfield 12, 3) := by decide +kernel
theorem d_WP_clear_12 : decode b_WP_clear 12 = .ok (.invokevirtual 79, 3) := by decide +kernel
theorem d_WP_clear_15 : decode b_WP_clear 15 = .ok (.aload_n 0, 1) := by decide +kernel
theorem d_WP_clear_16 : decode b_WP_clear 16 = .ok (.getfield 19, 3) := by decide +kernel
theorem d_WP_clear_19 : decode b_WP_clear 19 = .ok (.iconst 0, 1) := by decide +kernel
theorem d_WP_clear_20 : decode b_WP_clear 20 = .ok (.putfield 82, 3) := by decide +kernel
theorem d_WP_clear_23 : decode b_WP_clear 23 = .ok (.aload_n 0, 1) := by decide +kernel
theorem d_WP_clear_24 : decode b_WP_clear 24 = .ok (.getfield 26, 3) := by decide +kernel
theorem d_WP_clear_27 : decode b_WP_clear 27 = .ok (.iconst 0, 1) := by decide +kernel
theorem d_WP_clear_28 : decode b_WP_clear 28 = .ok (.putfield 85, 3) := by decide +kernel
theorem d_WP_clear_31 : decode b_WP_clear 31 = .ok (.aload_n 0, 1) := by decide +kernel
theorem d_WP_clear_32 : decode b_WP_clear 32 = .ok (.iconst 0, 1) := by decide +kernel
theorem d_WP_clear_33 : decode b_WP_clear 33 = .ok (.putfield 65, 3) := by decide +kernel
theorem d_WP_clear_36 : decode b_WP_clear 36 = .ok (.aload_n 0, 1) := by decide +kernel
theorem d_WP_clear_37 : decode b_WP_clear 37 = .ok (.getfield 33, 3) := by decide +kernel
theorem d_WP_clear_40 : decode b_WP_clear 40 = .ok (.invokevirtual 86, 3) := by decide +kernel
theorem d_WP_clear_43 : decode b_WP_clear 43 = .ok (.iload_n 1, 1) := by decide +kernel
theorem d_WP_clear_44 : decode b_WP_clear 44 = .ok (.ireturn, 1) := by decide +kernel
theorem d_WP_thing_0 : decode b_WP_thing 0 = .ok (.iload_n 1, 1) := by decide +kernel
theorem d_WP_thing_1 : decode b_WP_thing 1 = .ok (.iconst 2, 1) := by decide +kernel
theorem d_WP_thing_2 : decode b_WP_thing 2 = .ok (.if_icmp .lt 8, 3) := by decide +kernel
theorem d_WP_thing_5 : decode b_WP_thing 5 = .ok (.iload_n 1, 1) := by decide +kernel
theorem d_WP_thing_6 : decode b_WP_thing 6 = .ok (.iconst 4, 1) := by decide +kernel
theorem d_WP_thing_7 : decode b_WP_thing 7 = .ok (.if_icmp .le 6, 3) := by decide +kernel
theorem d_WP_thing_10 : decode b_WP_thing 10 = .ok (.bipush (-2), 2) := by decide +kernel
theorem d_WP_thing_12 : decode b_WP_thing 12 = .ok (.ireturn, 1) := by decide +kernel
theorem d_WP_thing_13 : decode b_WP_thing 13 = .ok (.aload_n 0, 1) := by decide +kernel
theorem d_WP_thing_14 : decode b_WP_thing 14 = .ok (.getfield 12, 3) := by decide +kernel
theorem d_WP_thing_17 : decode b_WP_thing 17 = .ok (.getfield 89, 3) := by decide +kernel
theorem d_WP_thing_20 : decode b_WP_thing 20 = .ok (.ifCond .gt 23, 3) := by decide +kernel
theorem d_WP_thing_23 : decode b_WP_thing 23 = .ok (.aload_n 0, 1) := by decide +kernel
theorem d_WP_thing_24 : decode b_WP_thing 24 = .ok (.getfield 19, 3) := by decide +kernel
theorem d_WP_thing_27 : decode b_WP_thing 27 = .ok (.getfield 82, 3) := by decide +kernel
theorem d_WP_thing_30 : decode b_WP_thing 30 = .ok (.ifCond .gt 13, 3) := by decide +kernel
theorem d_WP_thing_33 : decode b_WP_thing 33 = .ok (.aload_n 0, 1) := by decide +kernel
theorem d_WP_thing_34 : decode b_WP_thing 34 = .ok (.getfield 26, 3) := by decide +kernel
theorem d_WP_thing_37 : decode b_WP_thing 37 = .ok (.getfield 85, 3) := by decide +kernel
theorem d_WP_thing_40 : decode b_WP_thing 40 = .ok (.ifCond .le 6, 3) := by decide +kernel
theorem d_WP_thing_43 : decode b_WP_thing 43 = .ok (.bipush (-2), 2) := by decide +kernel
theorem d_WP_thing_45 : decode b_WP_thing 45 = .ok (.ireturn, 1) := by decide +kernel
theorem d_WP_thing_46 : decode b_WP_thing 46 = .ok (.aload_n 0, 1) := by decide +kernel
theorem d_WP_thing_47 : decode b_WP_thing 47 = .ok (.getfield 12, 3) := by decide +kernel
theorem d_WP_thing_50 : decode b_WP_thing 50 = .ok (.iload_n 1, 1) := by decide +kernel
theorem d_WP_thing_51 : decode b_WP_thing 51 = .ok (.invokevirtual 92, 3) := by decide +kernel
theorem d_WP_thing_54 : decode b_WP_thing 54 = .ok (.istore_n 2, 1) := by decide +kernel
theorem d_WP_thing_55 : decode b_WP_thing 55 = .ok (.iload_n 2, 1) := by decide +kernel
theorem d_WP_thing_56 : decode b_WP_thing 56 = .ok (.bipush (-3), 2) := by decide +kernel
theorem d_WP_thing_58 : decode b_WP_thing 58 = .ok (.if_icmp .eq 10, 3) := by decide +kernel
theorem d_WP_thing_61 : decode b_WP_thing 61 = .ok (.aload_n 0, 1) := by decide +kernel
theorem d_WP_thing_62 : decode b_WP_thing 62 = .ok (.getfield 33, 3) := by decide +kernel
theorem d_WP_thing_65 : decode b_WP_thing 65 = .ok (.invokevirtual 86, 3) := by decide +kernel
theorem d_WP_thing_68 : decode b_WP_thing 68 = .ok (.iload_n 2, 1) := by decide +kernel
theorem d_WP_thing_69 : decode b_WP_thing 69 = .ok (.ireturn, 1) := by decide +kernel
theorem d_WP_start_0 : decode b_WP_start 0 = .ok (.aload_n 0, 1) := by decide +kernel
theorem d_WP_start_1 : decode b_WP_start 1 = .ok (.getfield 12, 3) := by decide +kernel
theorem d_WP_start_4 : decode b_WP_start 4 = .ok (.iload_n 1, 1) := by decide +kernel
theorem d_WP_start_5 : decode b_WP_start 5 = .ok (.invokevirtual 96, 3) := by decide +kernel
theorem d_WP_start_8 : decode b_WP_start 8 = .ok (.ifCond .ne 6, 3) := by decide +kernel
theorem d_WP_start_11 : decode b_WP_start 11 = .ok (.bipush (-2), 2) := by decide +kernel
theorem d_WP_start_13 : decode b_WP_start 13 = .ok (.ireturn, 1) := by decide +kernel
theorem d_WP_start_14 : decode b_WP_start 14 = .ok (.aload_n 0, 1) := by decide +kernel
theorem d_WP_start_15 : decode b_WP_start 15 = .ok (.getfield 65, 3) := by decide +kernel
theorem d_WP_start_18 : decode b_WP_start 18 = .ok (.istore_n 2, 1) := by decide +kernel
theorem d_WP_start_19 : decode b_WP_start 19 = .ok (.iload_n 1, 1) := by decide +kernel
theorem d_WP_start_20 : decode b_WP_start 20 = .ok (.iload_n 2, 1) := by decide +kernel
theorem d_WP_start_21 : decode b_WP_start 21 = .ok (.if_icmp .eq 15, 3) := by decide +kernel
theorem d_WP_start_24 : decode b_WP_start 24 = .ok (.aload_n 0, 1) := by decide +kernel
theorem d_WP_start_25 : decode b_WP_start 25 = .ok (.iload_n 1, 1) := by decide +kernel
theorem d_WP_start_26 : decode b_WP_start 26 = .ok (.putfield 65, 3) := by decide +kernel
theorem d_WP_start_29 : decode b_WP_start 29 = .ok (.aload_n 0, 1) := by decide +kernel
theorem d_WP_start_30 : decode b_WP_start 30 = .ok (.getfield 33, 3) := by decide +kernel
theorem d_WP_start_33 : decode b_WP_start 33 = .ok (.invokevirtual 100, 3) := by decide +kernel
theorem d_WP_start_36 : decode b_WP_start 36 = .ok (.iload_n 2, 1) := by decide +kernel
theorem d_WP_start_37 : decode b_WP_start 37 = .ok (.ireturn, 1) := by decide +kernel
theorem d_WP_act_0 : decode b_WP_act 0 = .ok (.aload_n 0, 1) := by decide +kernel
theorem d_WP_act_1 : decode b_WP_act 1 = .ok (.getfield 12, 3) := by decide +kernel
theorem d_WP_act_4 : decode b_WP_act 4 = .ok (.invokevirtual 103, 3) := by decide +kernel
theorem d_WP_act_7 : decode b_WP_act 7 = .ok (.istore_n 1, 1) := by decide +kernel
theorem d_WP_act_8 : decode b_WP_act 8 = .ok (.iload_n 1, 1) := by decide +kernel
theorem d_WP_act_9 : decode b_WP_act 9 = .ok (.bipush (-3), 2) := by decide +kernel
theorem d_WP_act_11 : decode b_WP_act 11 = .ok (.if_icmp .eq 10, 3) := by decide +kernel
theorem d_WP_act_14 : decode b_WP_act 14 = .ok (.aload_n 0, 1) := by decide +kernel
theorem d_WP_act_15 : decode b_WP_act 15 = .ok (.getfield 33, 3) := by decide +kernel
theorem d_WP_act_18 : decode b_WP_act 18 = .ok (.invokevirtual 86, 3) := by decide +kernel
theorem d_WP_act_21 : decode b_WP_act 21 = .ok (.iload_n 1, 1) := by decide +kernel
theorem d_WP_act_22 : decode b_WP_act 22 = .ok (.ireturn, 1) := by decide +kernel
theorem d_WP_outcome_0 : decode b_WP_outcome 0 = .ok (.aload_n 0, 1) := by decide +kernel
theorem d_WP_outcome_1 : decode b_WP_outcome 1 = .ok (.getfield 12, 3) := by decide +kernel
theorem d_WP_outcome_4 : decode b_WP_outcome 4 = .ok (.iload_n 1, 1) := by decide +kernel
theorem d_WP_outcome_5 : decode b_WP_outcome 5 = .ok (.invokevirtual 107, 3) := by decide +kernel
theorem d_WP_outcome_8 : decode b_WP_outcome 8 = .ok (.ifCond .ne 6, 3) := by decide +kernel
theorem d_WP_outcome_11 : decode b_WP_outcome 11 = .ok (.bipush (-2), 2) := by decide +kernel
theorem d_WP_outcome_13 : decode b_WP_outcome 13 = .ok (.ireturn, 1) := by decide +kernel
theorem d_WP_outcome_14 : decode b_WP_outcome 14 = .ok (.aload_n 0, 1) := by decide +kernel
theorem d_WP_outcome_15 : decode b_WP_outcome 15 = .ok (.getfield 12, 3) := by decide +kernel
theorem d_WP_outcome_18 : decode b_WP_outcome 18 = .ok (.getfield 110, 3) := by decide +kernel
theorem d_WP_outcome_21 : decode b_WP_outcome 21 = .ok (.iload_n 1, 1) := by decide +kernel
theorem d_WP_outcome_22 : decode b_WP_outcome 22 = .ok (.aaload, 1) := by decide +kernel
theorem d_WP_outcome_23 : decode b_WP_outcome 23 = .ok (.invokevirtual 114, 3) := by decide +kernel
theorem d_WP_outcome_26 : decode b_WP_outcome 26 = .ok (.istore_n 2, 1) := by decide +kernel
theorem d_WP_outcome_27 : decode b_WP_outcome 27 = .ok (.aload_n 0, 1) := by decide +kernel
theorem d_WP_outcome_28 : decode b_WP_outcome 28 = .ok (.iload_n 1, 1) := by decide +kernel
theorem d_WP_outcome_29 : decode b_WP_outcome 29 = .ok (.iload_n 2, 1) := by decide +kernel
theorem d_WP_outcome_30 : decode b_WP_outcome 30 = .ok (.invokevirtual 119, 3) := by decide +kernel
theorem d_WP_outcome_33 : decode b_WP_outcome 33 = .ok (.iload_n 2, 1) := by decide +kernel
theorem d_WP_outcome_34 : decode b_WP_outcome 34 = .ok (.ireturn, 1) := by decide +kernel
theorem d_WP_noteActChange_0 : decode b_WP_noteActChange 0 = .ok (.iload_n 2, 1) := by decide +kernel
theorem d_WP_noteActChange_1 : decode b_WP_noteActChange 1 = .ok (.bipush (-3), 2) := by decide +kernel
theorem d_WP_noteActChange_3 : decode b_WP_noteActChange 3 = .ok (.if_icmp .eq 31, 3) := by decide +kernel
theorem d_WP_noteActChange_6 : decode b_WP_noteActChange 6 = .ok (.aload_n 0, 1) := by decide +kernel
theorem d_WP_noteActChange_7 : decode b_WP_noteActChange 7 = .ok (.getfield 12, 3) := by decide +kernel
theorem d_WP_noteActChange_10 : decode b_WP_noteActChange 10 = .ok (.getfield 110, 3) := by decide +kernel
theorem d_WP_noteActChange_13 : decode b_WP_noteActChange 13 = .ok (.iload_n 1, 1) := by decide +kernel
theorem d_WP_noteActChange_14 : decode b_WP_noteActChange 14 = .ok (.aaload, 1) := by decide +kernel
theorem d_WP_noteActChange_15 : decode b_WP_noteActChange 15 = .ok (.iconst 0, 1) := by decide +kernel
theorem d_WP_noteActChange_16 : decode b_WP_noteActChange 16 = .ok (.putfield 283, 3) := by decide +kernel
theorem d_WP_noteActChange_19 : decode b_WP_noteActChange 19 = .ok (.aload_n 0, 1) := by decide +kernel
theorem d_WP_noteActChange_20 : decode b_WP_noteActChange 20 = .ok (.getfield 12, 3) := by decide +kernel
theorem d_WP_noteActChange_23 : decode b_WP_noteActChange 23 = .ok (.iconst 0, 1) := by decide +kernel
theorem d_WP_noteActChange_24 : decode b_WP_noteActChange 24 = .ok (.putfield 287, 3) := by decide +kernel
theorem d_WP_noteActChange_27 : decode b_WP_noteActChange 27 = .ok (.aload_n 0, 1) := by decide +kernel
theorem d_WP_noteActChange_28 : decode b_WP_noteActChange 28 = .ok (.getfield 33, 3) := by decide +kernel
theorem d_WP_noteActChange_31 : decode b_WP_noteActChange 31 = .ok (.invokevirtual 86, 3) := by decide +kernel
theorem d_WP_noteActChange_34 : decode b_WP_noteActChange 34 = .ok (.return_, 1) := by decide +kernel
theorem d_WP_when_0 : decode b_WP_when 0 = .ok (.aload_n 0, 1) := by decide +kernel
theorem d_WP_when_1 : decode b_WP_when 1 = .ok (.getfield 12, 3) := by decide +kernel
theorem d_WP_when_4 : decode b_WP_when 4 = .ok (.iload_n 1, 1) := by decide +kernel
theorem d_WP_when_5 : decode b_WP_when 5 = .ok (.invokevirtual 107, 3) := by decide +kernel
theorem d_WP_when_8 : decode b_WP_when 8 = .ok (.ifCond .eq 17, 3) := by decide +kernel
theorem d_WP_when_11 : decode b_WP_when 11 = .ok (.aload_n 0, 1) := by decide +kernel
theorem d_WP_when_12 : decode b_WP_when 12 = .ok (.getfield 12, 3) := by decide +kernel
theorem d_WP_when_15 : decode b_WP_when 15 = .ok (.iload_n 2, 1) := by decide +kernel
theorem d_WP_when_16 : decode b_WP_when 16 = .ok (.iload_n 3, 1) := by decide +kernel
theorem d_WP_when_17 : decode b_WP_when 17 = .ok (.iload 4, 2) := by decide +kernel
theorem d_WP_when_19 : decode b_WP_when 19 = .ok (.invokevirtual 123, 3) := by decide +kernel
theorem d_WP_when_22 : decode b_WP_when 22 = .ok (.ifCond .ne 6, 3) := by decide +kernel
theorem d_WP_when_25 : decode b_WP_when 25 = .ok (.bipush (-2), 2) := by decide +kernel
theorem d_WP_when_27 : decode b_WP_when 27 = .ok (.ireturn, 1) := by decide +kernel
theorem d_WP_when_28 : decode b_WP_when 28 = .ok (.aload_n 0, 1) := by decide +kernel
theorem d_WP_when_29 : decode b_WP_when 29 = .ok (.getfield 12, 3) := by decide +kernel
theorem d_WP_when_32 : decode b_WP_when 32 = .ok (.getfield 110, 3) := by decide +kernel
theorem d_WP_when_35 : decode b_WP_when 35 = .ok (.iload_n 1, 1) := by decide +kernel
theorem d_WP_when_36 : decode b_WP_when 36 = .ok (.aaload, 1) := by decide +kernel
theorem d_WP_when_37 : decode b_WP_when 37 = .ok (.getfield 127, 3) := by decide +kernel
theorem d_WP_when_40 : decode b_WP_when 40 = .ok (.iload_n 2, 1) := by decide +kernel
theorem d_WP_when_41 : decode b_WP_when 41 = .ok (.iload_n 3, 1) := by decide +kernel
theorem d_WP_when_42 : decode b_WP_when 42 = .ok (.iload 4, 2) := by decide +kernel
theorem d_WP_when_44 : decode b_WP_when 44 = .ok (.invokevirtual 130, 3) := by decide +kernel
theorem d_WP_when_47 : decode b_WP_when 47 = .ok (.istore 5, 2) := by decide +kernel
theorem d_WP_when_49 : decode b_WP_when 49 = .ok (.aload_n 0, 1) := by decide +kernel
theorem d_WP_when_50 : decode b_WP_when 50 = .ok (.iload_n 1, 1) := by decide +kernel
theorem d_WP_when_51 : decode b_WP_when 51 = .ok (.iload 5, 2) := by decide +kernel
theorem d_WP_when_53 : decode b_WP_when 53 = .ok (.invokevirtual 119, 3) := by decide +kernel
theorem d_WP_when_56 : decode b_WP_when 56 = .ok (.iload 5, 2) := by decide +kernel
theorem d_WP_when_58 : decode b_WP_when 58 = .ok (.ireturn, 1) := by decide +kernel
theorem d_WP_effect_0 : decode b_WP_effect 0 = .ok (.aload_n 0, 1) := by decide +kernel
theorem d_WP_effect_1 : decode b_WP_effect 1 = .ok (.getfield 12, 3) := by decide +kernel
theorem d_WP_effect_4 : decode b_WP_effect 4 = .ok (.iload_n 1, 1) := by decide +kernel
theorem d_WP_effect_5 : decode b_WP_effect 5 = .ok (.iload_n 2, 1) := by decide +kernel
theorem d_WP_effect_6 : decode b_WP_effect 6 = .ok (.invokevirtual 134, 3) := by decide +kernel
theorem d_WP_effect_9 : decode b_WP_effect 9 = .ok (.ifCond .eq 18, 3) := by decide +kernel
theorem d_WP_effect_12 : decode b_WP_effect 12 = .ok (.aload_n 0, 1) := by decide +kernel
theorem d_WP_effect_13 : decode b_WP_effect 13 = .ok (.getfield 12, 3) := by decide +kernel
theorem d_WP_effect_16 : decode b_WP_effect 16 = .ok (.iload_n 3, 1) := by decide +kernel
theorem d_WP_effect_17 : decode b_WP_effect 17 = .ok (.iload 4, 2) := by decide +kernel
theorem d_WP_effect_19 : decode b_WP_effect 19 = .ok (.iload 5, 2) := by decide +kernel
theorem d_WP_effect_21 : decode b_WP_effect 21 = .ok (.invokevirtual 138, 3) := by decide +kernel
theorem d_WP_effect_24 : decode b_WP_effect 24 = .ok (.ifCond .ne 6, 3) := by decide +kernel
theorem d_WP_effect_27 : decode b_WP_effect 27 = .ok (.bipush (-2), 2) := by decide +kernel
theorem d_WP_effect_29 : decode b_WP_effect 29 = .ok (.ireturn, 1) := by decide +kernel
theorem d_WP_effect_30 : decode b_WP_effect 30 = .ok (.aload_n 0, 1) := by decide +kernel
theorem d_WP_effect_31 : decode b_WP_effect 31 = .ok (.getfield 12, 3) := by decide +kernel
theorem d_WP_effect_34 : decode b_WP_effect 34 = .ok (.getfield 110, 3) := by decide +kernel
theorem d_WP_effect_37 : decode b_WP_effect 37 = .ok (.iload_n 1, 1) := by decide +kernel
theorem d_WP_effect_38 : decode b_WP_effect 38 = .ok (.aaload, 1) := by decide +kernel
theorem d_WP_effect_39 : decode b_WP_effect 39 = .ok (.getfield 141, 3) := by decide +kernel
theorem d_WP_effect_42 : decode b_WP_effect 42 = .ok (.iload_n 2, 1) := by decide +kernel
theorem d_WP_effect_43 : decode b_WP_effect 43 = .ok (.aaload, 1) := by decide +kernel
theorem d_WP_effect_44 : decode b_WP_effect 44 = .ok (.getfield 145, 3) := by decide +kernel
theorem d_WP_effect_47 : decode b_WP_effect 47 = .ok (.iload_n 3, 1) := by decide +kernel
theorem d_WP_effect_48 : decode b_WP_effect 48 = .ok (.iload 4, 2) := by decide +kernel
theorem d_WP_effect_50 : decode b_WP_effect 50 = .ok (.iload 5, 2) := by decide +kernel
theorem d_WP_effect_52 : decode b_WP_effect 52 = .ok (.invokevirtual 130, 3) := by decide +kernel
theorem d_WP_effect_55 : decode b_WP_effect 55 = .ok (.istore 6, 2) := by decide +kernel
theorem d_WP_effect_57 : decode b_WP_effect 57 = .ok (.aload_n 0, 1) := by decide +kernel
theorem d_WP_effect_58 : decode b_WP_effect 58 = .ok (.iload_n 1, 1) := by decide +kernel
theorem d_WP_effect_59 : decode b_WP_effect 59 = .ok (.iload 6, 2) := by decide +kernel
theorem d_WP_effect_61 : decode b_WP_effect 61 = .ok (.invokevirtual 119, 3) := by decide +kernel
theorem d_WP_effect_64 : decode b_WP_effect 64 = .ok (.iload 6, 2) := by decide +kernel
theorem d_WP_effect_66 : decode b_WP_effect 66 = .ok (.ireturn, 1) := by decide +kernel
theorem d_WP_aim_0 : decode b_WP_aim 0 = .ok (.aload_n 0, 1) := by decide +kernel
theorem d_WP_aim_1 : decode b_WP_aim 1 = .ok (.getfield 12, 3) := by decide +kernel
theorem d_WP_aim_4 : decode b_WP_aim 4 = .ok (.iload_n 1, 1) := by decide +kernel
theorem d_WP_aim_5 : decode b_WP_aim 5 = .ok (.iload_n 2, 1) := by decide +kernel
theorem d_WP_aim_6 : decode b_WP_aim 6 = .ok (.iload_n 3, 1) := by decide +kernel
theorem d_WP_aim_7 : decode b_WP_aim 7 = .ok (.invokevirtual 123, 3) := by decide +kernel
theorem d_WP_aim_10 : decode b_WP_aim 10 = .ok (.ifCond .ne 6, 3) := by decide +kernel
theorem d_WP_aim_13 : decode b_WP_aim 13 = .ok (.bipush (-2), 2) := by decide +kernel
theorem d_WP_aim_15 : decode b_WP_aim 15 = .ok (.ireturn, 1) := by decide +kernel
theorem d_WP_aim_16 : decode b_WP_aim 16 = .ok (.aload_n 0, 1) := by decide +kernel
theorem d_WP_aim_17 : decode b_WP_aim 17 = .ok (.getfield 19, 3) := by decide +kernel
theorem d_WP_aim_20 : decode b_WP_aim 20 = .ok (.iload_n 1, 1) := by decide +kernel
theorem d_WP_aim_21 : decode b_WP_aim 21 = .ok (.iload_n 2, 1) := by decide +kernel
theorem d_WP_aim_22 : decode b_WP_aim 22 = .ok (.iload_n 3, 1) := by decide +kernel
theorem d_WP_aim_23 : decode b_WP_aim 23 = .ok (.invokevirtual 130, 3) := by decide +kernel
theorem d_WP_aim_26 : decode b_WP_aim 26 = .ok (.istore 4, 2) := by decide +kernel
theorem d_WP_aim_28 : decode b_WP_aim 28 = .ok (.iload 4, 2) := by decide +kernel
theorem d_WP_aim_30 : decode b_WP_aim 30 = .ok (.bipush (-3), 2) := by decide +kernel
theorem d_WP_aim_32 : decode b_WP_aim 32 = .ok (.if_icmp .eq 10, 3) := by decide +kernel
theorem d_WP_aim_35 : decode b_WP_aim 35 = .ok (.aload_n 0, 1) := by decide +kernel
theorem d_WP_aim_36 : decode b_WP_aim 36 = .ok (.getfield 33, 3) := by decide +kernel
theorem d_WP_aim_39 : decode b_WP_aim 39 = .ok (.invokevirtual 150, 3) := by decide +kernel
theorem d_WP_aim_42 : decode b_WP_aim 42 = .ok (.iload 4, 2) := by decide +kernel
theorem d_WP_aim_44 : decode b_WP_aim 44 = .ok (.ireturn, 1) := by decide +kernel
theorem d_WP_aimless_0 : decode b_WP_aimless 0 = .ok (.aload_n 0, 1) := by decide +kernel
theorem d_WP_aimless_1 : decode b_WP_aimless 1 = .ok (.getfield 19, 3) := by decide +kernel
theorem d_WP_aimless_4 : decode b_WP_aimless 4 = .ok (.getfield 82, 3) := by decide +kernel
theorem d_WP_aimless_7 : decode b_WP_aimless 7 = .ok (.istore_n 1, 1) := by decide +kernel
theorem d_WP_aimless_8 : decode b_WP_aimless 8 = .ok (.aload_n 0, 1) := by decide +kernel
theorem d_WP_aimless_9 : decode b_WP_aimless 9 = .ok (.getfield 19, 3) := by decide +kernel
theorem d_WP_aimless_12 : decode b_WP_aimless 12 = .ok (.iconst 0, 1) := by decide +kernel
theorem d_WP_aimless_13 : decode b_WP_aimless 13 = .ok (.putfield 82, 3) := by decide +kernel
theorem d_WP_aimless_16 : decode b_WP_aimless 16 = .ok (.iload_n 1, 1) := by decide +kernel
theorem d_WP_aimless_17 : decode b_WP_aimless 17 = .ok (.ifCond .le 10, 3) := by decide +kernel
theorem d_WP_aimless_20 : decode b_WP_aimless 20 = .ok (.aload_n 0, 1) := by decide +kernel
theorem d_WP_aimless_21 : decode b_WP_aimless 21 = .ok (.getfield 33, 3) := by decide +kernel
theorem d_WP_aimless_24 : decode b_WP_aimless 24 = .ok (.invokevirtual 150, 3) := by decide +kernel
theorem d_WP_aimless_27 : decode b_WP_aimless 27 = .ok (.iload_n 1, 1) := by decide +kernel
theorem d_WP_aimless_28 : decode b_WP_aimless 28 = .ok (.ireturn, 1) := by decide +kernel
theorem d_WP_unact_0 : decode b_WP_unact 0 = .ok (.aload_n 0, 1) := by decide +kernel
theorem d_WP_unact_1 : decode b_WP_unact 1 = .ok (.getfield 12, 3) := by decide +kernel
theorem d_WP_unact_4 : decode b_WP_unact 4 = .ok (.getfield 89, 3) := by decide +kernel
theorem d_WP_unact_7 : decode b_WP_unact 7 = .ok (.ifCond .ne 5, 3) := by decide +kernel
theorem d_WP_unact_10 : decode b_WP_unact 10 = .ok (.iconst (-1), 1) := by decide +kernel
theorem d_WP_unact_11 : decode b_WP_unact 11 = .ok (.ireturn, 1) := by decide +kernel
theorem d_WP_unact_12 : decode b_WP_unact 12 = .ok (.aload_n 0, 1) := by decide +kernel
theorem d_WP_unact_13 : decode b_WP_unact 13 = .ok (.getfield 12, 3) := by decide +kernel
theorem d_WP_unact_16 : decode b_WP_unact 16 = .ok (.invokevirtual 153, 3) := by decide +kernel
theorem d_WP_unact_19 : decode b_WP_unact 19 = .ok (.aload_n 0, 1) := by decide +kernel
theorem d_WP_unact_20 : decode b_WP_unact 20 = .ok (.getfield 33, 3) := by decide +kernel
theorem d_WP_unact_23 : decode b_WP_unact 23 = .ok (.invokevirtual 86, 3) := by decide +kernel
theorem d_WP_unact_26 : decode b_WP_unact 26 = .ok (.aload_n 0, 1) := by decide +kernel
theorem d_WP_unact_27 : decode b_WP_unact 27 = .ok (.getfield 12, 3) := by decide +kernel
theorem d_WP_unact_30 : decode b_WP_unact 30 = .ok (.getfield 89, 3) := by decide +kernel
theorem d_WP_unact_33 : decode b_WP_unact 33 = .ok (.ireturn, 1) := by decide +kernel
theorem d_WP_leads_0 : decode b_WP_leads 0 = .ok (.aload_n 0, 1) := by decide +kernel
theorem d_WP_leads_1 : decode b_WP_leads 1 = .ok (.getfield 12, 3) := by decide +kernel
theorem d_WP_leads_4 : decode b_WP_leads 4 = .ok (.iload_n 1, 1) := by decide +kernel
theorem d_WP_leads_5 : decode b_WP_leads 5 = .ok (.invokevirtual 96, 3) := by decide +kernel
theorem d_WP_leads_8 : decode b_WP_leads 8 = .ok (.ifCond .eq 15, 3) := by decide +kernel
theorem d_WP_leads_11 : decode b_WP_leads 11 = .ok (.aload_n 0, 1) := by decide +kernel
theorem d_WP_leads_12 : decode b_WP_leads 12 = .ok (.getfield 12, 3) := by decide +kernel
theorem d_WP_leads_15 : decode b_WP_leads 15 = .ok (.iload_n 2, 1) := by decide +kernel
theorem d_WP_leads_16 : decode b_WP_leads 16 = .ok (.iload_n 3, 1) := by decide +kernel
theorem d_WP_leads_17 : decode b_WP_leads 17 = .ok (.invokevirtual 134, 3) := by decide +kernel
theorem d_WP_leads_20 : decode b_WP_leads 20 = .ok (.ifCond .ne 6, 3) := by decide +kernel
theorem d_WP_leads_23 : decode b_WP_leads 23 = .ok (.bipush (-2), 2) := by decide +kernel
theorem d_WP_leads_25 : decode b_WP_leads 25 = .ok (.ireturn, 1) := by decide +kernel
theorem d_WP_leads_26 : decode b_WP_leads 26 = .ok (.aload_n 0, 1) := by decide +kernel
theorem d_WP_leads_27 : decode b_WP_leads 27 = .ok (.getfield 12, 3) := by decide +kernel
theorem d_WP_leads_30 : decode b_WP_leads 30 = .ok (.getfield 110, 3) := by decide +kernel
theorem d_WP_leads_33 : decode b_WP_leads 33 = .ok (.iload_n 2, 1) := by decide +kernel
theorem d_WP_leads_34 : decode b_WP_leads 34 = .ok (.aaload, 1) := by decide +kernel
theorem d_WP_leads_35 : decode b_WP_leads 35 = .ok (.astore 4, 2) := by decide +kernel
theorem d_WP_leads_37 : decode b_WP_leads 37 = .ok (.aload_n 0, 1) := by decide +kernel
theorem d_WP_leads_38 : decode b_WP_leads 38 = .ok (.getfield 12, 3) := by decide +kernel
theorem d_WP_leads_41 : decode b_WP_leads 41 = .ok (.iload_n 1, 1) := by decide +kernel
theorem d_WP_leads_42 : decode b_WP_leads 42 = .ok (.invokevirtual 156, 3) := by decide +kernel
theorem d_WP_leads_45 : decode b_WP_leads 45 = .ok (.istore 5, 2) := by decide +kernel
theorem d_WP_leads_47 : decode b_WP_leads 47 = .ok (.aload 4, 2) := by decide +kernel
theorem d_WP_leads_49 : decode b_WP_leads 49 = .ok (.getfield 127, 3) := by decide +kernel
theorem d_WP_leads_52 : decode b_WP_leads 52 = .ok (.iload 5, 2) := by decide +kernel
theorem d_WP_leads_54 : decode b_WP_leads 54 = .ok (.invokevirtual 159, 3) := by decide +kernel
theorem d_WP_leads_57 : decode b_WP_leads 57 = .ok (.ifCond .eq 26, 3) := by decide +kernel
theorem d_WP_leads_60 : decode b_WP_leads 60 = .ok (.aload_n 0, 1) := by decide +kernel
theorem d_WP_leads_61 : decode b_WP_leads 61 = .ok (.getfield 12, 3) := by decide +kernel
theorem d_WP_leads_64 : decode b_WP_leads 64 = .ok (.aload 4, 2) := by decide +kernel
theorem d_WP_leads_66 : decode b_WP_leads 66 = .ok (.getfield 141, 3) := by decide +kernel
theorem d_WP_leads_69 : decode b_WP_leads 69 = .ok (.iload_n 3, 1) := by decide +kernel
theorem d_WP_leads_70 : decode b_WP_leads 70 = .ok (.aaload, 1) := by decide +kernel
theorem d_WP_leads_71 : decode b_WP_leads 71 = .ok (.getfield 145, 3) := by decide +kernel
theorem d_WP_leads_74 : decode b_WP_leads 74 = .ok (.iload_n 1, 1) := by decide +kernel
theorem d_WP_leads_75 : decode b_WP_leads 75 = .ok (.iload 5, 2) := by decide +kernel
theorem d_WP_leads_77 : decode b_WP_leads 77 = .ok (.invokevirtual 162, 3) := by decide +kernel
theorem d_WP_leads_80 : decode b_WP_leads 80 = .ok (.goto 4, 3) := by decide +kernel
theorem d_WP_leads_83 : decode b_WP_leads 83 = .ok (.iconst (-1), 1) := by decide +kernel
theorem d_WP_leads_84 : decode b_WP_leads 84 = .ok (.ireturn, 1) := by decide +kernel
theorem d_WP_count_0 : decode b_WP_count 0 = .ok (.iload_n 1, 1) := by decide +kernel
theorem d_WP_count_1 : decode b_WP_count 1 = .ok (.iconst 3, 1) := by decide +kernel
theorem d_WP_count_2 : decode b_WP_count 2 = .ok (.if_icmp .lt 16, 3) := by decide +kernel
theorem d_WP_count_5 : decode b_WP_count 5 = .ok (.iload_n 1, 1) := by decide +kernel
theorem d_WP_count_6 : decode b_WP_count 6 = .ok (.bipush 9, 2) := by decide +kernel
theorem d_WP_count_8 : decode b_WP_count 8 = .ok (.if_icmp .gt 10, 3) := by decide +kernel
theorem d_WP_count_11 : decode b_WP_count 11 = .ok (.aload_n 0, 1) := by decide +kernel
theorem d_WP_count_12 : decode b_WP_count 12 = .ok (.getfield 12, 3) := by decide +kernel
theorem d_WP_count_15 : decode b_WP_count 15 = .ok (.invokevirtual 166, 3) := by decide +kernel
theorem d_WP_count_18 : decode b_WP_count 18 = .ok (.iload_n 1, 1) := by decide +kernel
theorem d_WP_count_19 : decode b_WP_count 19 = .ok (.tableswitch 160 0 10 #[57, 65, 73, 81, 93, 105, 115, 125, 135, 140, 152], 57) := by decide +kernel
theorem d_WP_count_76 : decode b_WP_count 76 = .ok (.aload_n 0, 1) := by decide +kernel
theorem d_WP_count_77 : decode b_WP_count 77 = .ok (.getfield 12, 3) := by decide +kernel
theorem d_WP_count_80 : decode b_WP_count 80 = .ok (.getfield 169, 3) := by decide +kernel
theorem d_WP_count_83 : decode b_WP_count 83 = .ok (.ireturn, 1) := by decide +kernel
theorem d_WP_count_84 : decode b_WP_count 84 = .ok (.aload_n 0, 1) := by decide +kernel
theorem d_WP_count_85 : decode b_WP_count 85 = .ok (.getfield 12, 3) := by decide +kernel
theorem d_WP_count_88 : decode b_WP_count 88 = .ok (.getfield 76, 3) := by decide +kernel
theorem d_WP_count_91 : decode b_WP_count 91 = .ok (.ireturn, 1) := by decide +kernel
theorem d_WP_count_92 : decode b_WP_count 92 = .ok (.aload_n 0, 1) := by decide +kernel
theorem d_WP_count_93 : decode b_WP_count 93 = .ok (.getfield 12, 3) := by decide +kernel
theorem d_WP_count_96 : decode b_WP_count 96 = .ok (.getfield 89, 3) := by decide +kernel
theorem d_WP_count_99 : decode b_WP_count 99 = .ok (.ireturn, 1) := by decide +kernel
theorem d_WP_count_100 : decode b_WP_count 100 = .ok (.aload_n 0, 1) := by decide +kernel
theorem d_WP_count_101 : decode b_WP_count 101 = .ok (.invokevirtual 172, 3) := by decide +kernel
theorem d_WP_count_104 : decode b_WP_count 104 = .ok (.aload_n 0, 1) := by decide +kernel
theorem d_WP_count_105 : decode b_WP_count 105 = .ok (.getfield 40, 3) := by decide +kernel
theorem d_WP_count_108 : decode b_WP_count 108 = .ok (.getfield 175, 3) := by decide +kernel
theorem d_WP_count_111 : decode b_WP_count 111 = .ok (.ireturn, 1) := by decide +kernel
theorem d_WP_count_112 : decode b_WP_count 112 = .ok (.aload_n 0, 1) := by decide +kernel
theorem d_WP_count_113 : decode b_WP_count 113 = .ok (.invokevirtual 178, 3) := by decide +kernel
theorem d_WP_count_116 : decode b_WP_count 116 = .ok (.aload_n 0, 1) := by decide +kernel
theorem d_WP_count_117 : decode b_WP_count 117 = .ok (.getfield 47, 3) := by decide +kernel
theorem d_WP_count_120 : decode b_WP_count 120 = .ok (.getfield 181, 3) := by decide +kernel
theorem d_WP_count_123 : decode b_WP_count 123 = .ok (.ireturn, 1) := by decide +kernel
theorem d_WP_count_124 : decode b_WP_count 124 = .ok (.aload_n 0, 1) := by decide +kernel
theorem d_WP_count_125 : decode b_WP_count 125 = .ok (.aload_n 0, 1) := by decide +kernel
theorem d_WP_count_126 : decode b_WP_count 126 = .ok (.iconst 1, 1) := by decide +kernel
theorem d_WP_count_127 : decode b_WP_count 127 = .ok (.invokevirtual 184, 3) := by decide +kernel
theorem d_WP_count_130 : decode b_WP_count 130 = .ok (.invokevirtual 188, 3) := by decide +kernel
theorem d_WP_count_133 : decode b_WP_count 133 = .ok (.ireturn, 1) := by decide +kernel
theorem d_WP_count_134 : decode b_WP_count 134 = .ok (.aload_n 0, 1) := by decide +kernel
theorem d_WP_count_135 : decode b_WP_count 135 = .ok (.aload_n 0, 1) := by decide +kernel
theorem d_WP_count_136 : decode b_WP_count 136 = .ok (.iconst 2, 1) := by decide +kernel
theorem d_WP_count_137 : decode b_WP_count 137 = .ok (.invokevirtual 184, 3) := by decide +kernel
theorem d_WP_count_140 : decode b_WP_count 140 = .ok (.invokevirtual 188, 3) := by decide +kernel
theorem d_WP_count_143 : decode b_WP_count 143 = .ok (.ireturn, 1) := by decide +kernel
theorem d_WP_count_144 : decode b_WP_count 144 = .ok (.aload_n 0, 1) := by decide +kernel
theorem d_WP_count_145 : decode b_WP_count 145 = .ok (.aload_n 0, 1) := by decide +kernel
theorem d_WP_count_146 : decode b_WP_count 146 = .ok (.iconst 3, 1) := by decide +kernel
theorem d_WP_count_147 : decode b_WP_count 147 = .ok (.invokevirtual 184, 3) := by decide +kernel
theorem d_WP_count_150 : decode b_WP_count 150 = .ok (.invokevirtual 188, 3) := by decide +kernel
theorem d_WP_count_153 : decode b_WP_count 153 = .ok (.ireturn, 1) := by decide +kernel
theorem d_WP_count_154 : decode b_WP_count 154 = .ok (.aload_n 0, 1) := by decide +kernel
theorem d_WP_count_155 : decode b_WP_count 155 = .ok (.invokevirtual 192, 3) := by decide +kernel
theorem d_WP_count_158 : decode b_WP_count 158 = .ok (.ireturn, 1) := by decide +kernel
theorem d_WP_count_159 : decode b_WP_count 159 = .ok (.aload_n 0, 1) := by decide +kernel
theorem d_WP_count_160 : decode b_WP_count 160 = .ok (.invokevirtual 195, 3) := by decide +kernel
theorem d_WP_count_163 : decode b_WP_count 163 = .ok (.aload_n 0, 1) := by decide +kernel
theorem d_WP_count_164 : decode b_WP_count 164 = .ok (.getfield 54, 3) := by decide +kernel
theorem d_WP_count_167 : decode b_WP_count 167 = .ok (.getfield 198, 3) := by decide +kernel
theorem d_WP_count_170 : decode b_WP_count 170 = .ok (.ireturn, 1) := by decide +kernel
theorem d_WP_count_171 : decode b_WP_count 171 = .ok (.aload_n 0, 1) := by decide +kernel
theorem d_WP_count_172 : decode b_WP_count 172 = .ok (.getfield 26, 3) := by decide +kernel
theorem d_WP_count_175 : decode b_WP_count 175 = .ok (.getfield 85, 3) := by decide +kernel
theorem d_WP_count_178 : decode b_WP_count 178 = .ok (.ireturn, 1) := by decide +kernel
theorem d_WP_count_179 : decode b_WP_count 179 = .ok (.bipush (-2), 2) := by decide +kernel
theorem d_WP_count_181 : decode b_WP_count 181 = .ok (.ireturn, 1) := by decide +kernel
theorem d_WP_findReached_0 : decode b_WP_findReached 0 = .ok (.aload_n 0, 1) := by decide +kernel
theorem d_WP_findReached_1 : decode b_WP_findReached 1 = .ok (.getfield 40, 3) := by decide +kernel
theorem d_WP_findReached_4 : decode b_WP_findReached 4 = .ok (.getfield 290, 3) := by decide +kernel
theorem d_WP_findReached_7 : decode b_WP_findReached 7 = .ok (.aload_n 0, 1) := by decide +kernel
theorem d_WP_findReached_8 : decode b_WP_findReached 8 = .ok (.getfield 33, 3) := by decide +kernel
theorem d_WP_findReached_11 : decode b_WP_findReached 11 = .ok (.getfield 291, 3) := by decide +kernel
theorem d_WP_findReached_14 : decode b_WP_findReached 14 = .ok (.aload_n 0, 1) := by decide +kernel
theorem d_WP_findReached_15 : decode b_WP_findReached 15 = .ok (.getfield 33, 3) := by decide +kernel
theorem d_WP_findReached_18 : decode b_WP_findReached 18 = .ok (.getfield 293, 3) := by decide +kernel
theorem d_WP_findReached_21 : decode b_WP_findReached 21 = .ok (.invokestatic 296, 3) := by decide +kernel
theorem d_WP_findReached_24 : decode b_WP_findReached 24 = .ok (.lcmp, 1) := by decide +kernel
theorem d_WP_findReached_25 : decode b_WP_findReached 25 = .ok (.ifCond .ge 32, 3) := by decide +kernel
theorem d_WP_findReached_28 : decode b_WP_findReached 28 = .ok (.aload_n 0, 1) := by decide +kernel
theorem d_WP_findReached_29 : decode b_WP_findReached 29 = .ok (.getfield 40, 3) := by decide +kernel
theorem d_WP_findReached_32 : decode b_WP_findReached 32 = .ok (.aload_n 0, 1) := by decide +kernel
theorem d_WP_findReached_33 : decode b_WP_findReached 33 = .ok (.getfield 12, 3) := by decide +kernel
theorem d_WP_findReached_36 : decode b_WP_findReached 36 = .ok (.aload_n 0, 1) := by decide +kernel
theorem d_WP_findReached_37 : decode b_WP_findReached 37 = .ok (.getfield 65, 3) := by decide +kernel
theorem d_WP_findReached_40 : decode b_WP_findReached 40 = .ok (.invokevirtual 302, 3) := by decide +kernel
theorem d_WP_findReached_43 : decode b_WP_findReached 43 = .ok (.aload_n 0, 1) := by decide +kernel
theorem d_WP_findReached_44 : decode b_WP_findReached 44 = .ok (.getfield 40, 3) := by decide +kernel
theorem d_WP_findReached_47 : decode b_WP_findReached 47 = .ok (.aload_n 0, 1) := by decide +kernel
theorem d_WP_findReached_48 : decode b_WP_findReached 48 = .ok (.getfield 33, 3) := by decide +kernel
theorem d_WP_findReached_51 : decode b_WP_findReached 51 = .ok (.getfield 235, 3) := by decide +kernel
theorem d_WP_findReached_54 : decode b_WP_findReached 54 = .ok (.putfield 290, 3) := by decide +kernel
theorem d_WP_findReached_57 : decode b_WP_findReached 57 = .ok (.return_, 1) := by decide +kernel
theorem d_WP_findAim_0 : decode b_WP_findAim 0 = .ok (.aload_n 0, 1) := by decide +kernel
theorem d_WP_findAim_1 : decode b_WP_findAim 1 = .ok (.getfield 47, 3) := by decide +kernel
theorem d_WP_findAim_4 : decode b_WP_findAim 4 = .ok (.getfield 306, 3) := by decide +kernel
theorem d_WP_findAim_7 : decode b_WP_findAim 7 = .ok (.aload_n 0, 1) := by decide +kernel
theorem d_WP_findAim_8 : decode b_WP_findAim 8 = .ok (.getfield 33, 3) := by decide +kernel
theorem d_WP_findAim_11 : decode b_WP_findAim 11 = .ok (.getfield 291, 3) := by decide +kernel
theorem d_WP_findAim_14 : decode b_WP_findAim 14 = .ok (.aload_n 0, 1) := by decide +kernel
theorem d_WP_findAim_15 : decode b_WP_findAim 15 = .ok (.getfield 33, 3) := by decide +kernel
theorem d_WP_findAim_18 : decode b_WP_findAim 18 = .ok (.getfield 309, 3) := by decide +kernel
theorem d_WP_findAim_21 : decode b_WP_findAim 21 = .ok (.invokestatic 296, 3) := by decide +kernel
theorem d_WP_findAim_24 : decode b_WP_findAim 24 = .ok (.lcmp, 1) := by decide +kernel
theorem d_WP_findAim_25 : decode b_WP_findAim 25 = .ok (.ifCond .ge 32, 3) := by decide +kernel
theorem d_WP_findAim_28 : decode b_WP_findAim 28 = .ok (.aload_n 0, 1) := by decide +kernel
theorem d_WP_findAim_29 : decode b_WP_findAim 29 = .ok (.getfield 47, 3) := by decide +kernel
theorem d_WP_findAim_32 : decode b_WP_findAim 32 = .ok (.aload_n 0, 1) := by decide +kernel
theorem d_WP_findAim_33 : decode b_WP_findAim 33 = .ok (.getfield 12, 3) := by decide +kernel
theorem d_WP_findAim_36 : decode b_WP_findAim 36 = .ok (.aload_n 0, 1) := by decide +kernel
theorem d_WP_findAim_37 : decode b_WP_findAim 37 = .ok (.getfield 19, 3) := by decide +kernel
theorem d_WP_findAim_40 : decode b_WP_findAim 40 = .ok (.invokevirtual 312, 3) := by decide +kernel
theorem d_WP_findAim_43 : decode b_WP_findAim 43 = .ok (.aload_n 0, 1) := by decide +kernel
theorem d_WP_findAim_44 : decode b_WP_findAim 44 = .ok (.getfield 47, 3) := by decide +kernel
theorem d_WP_findAim_47 : decode b_WP_findAim 47 = .ok (.aload_n 0, 1) := by decide +kernel
theorem d_WP_findAim_48 : decode b_WP_findAim 48 = .ok (.getfield 33, 3) := by decide +kernel
theorem d_WP_findAim_51 : decode b_WP_findAim 51 = .ok (.getfield 235, 3) := by decide +kernel
theorem d_WP_findAim_54 : decode b_WP_findAim 54 = .ok (.putfield 306, 3) := by decide +kernel
theorem d_WP_findAim_57 : decode b_WP_findAim 57 = .ok (.return_, 1) := by decide +kernel
theorem d_WP_findNumbers_0 : decode b_WP_findNumbers 0 = .ok (.aload_n 0, 1) := by decide +kernel
theorem d_WP_findNumbers_1 : decode b_WP_findNumbers 1 = .ok (.invokevirtual 178, 3) := by decide +kernel
theorem d_WP_findNumbers_4 : decode b_WP_findNumbers 4 = .ok (.aload_n 0, 1) := by decide +kernel
theorem d_WP_findNumbers_5 : decode b_WP_findNumbers 5 = .ok (.getfield 47, 3) := by decide +kernel
theorem d_WP_findNumbers_8 : decode b_WP_findNumbers 8 = .ok (.getfield 315, 3) := by decide +kernel
theorem d_WP_findNumbers_11 : decode b_WP_findNumbers 11 = .ok (.iload_n 1, 1) := by decide +kernel
theorem d_WP_findNumbers_12 : decode b_WP_findNumbers 12 = .ok (.laload, 1) := by decide +kernel
theorem d_WP_findNumbers_13 : decode b_WP_findNumbers 13 = .ok (.aload_n 0, 1) := by decide +kernel
theorem d_WP_findNumbers_14 : decode b_WP_findNumbers 14 = .ok (.getfield 33, 3) := by decide +kernel
theorem d_WP_findNumbers_17 : decode b_WP_findNumbers 17 = .ok (.getfield 291, 3) := by decide +kernel
theorem d_WP_findNumbers_20 : decode b_WP_findNumbers 20 = .ok (.aload_n 0, 1) := by decide +kernel
theorem d_WP_findNumbers_21 : decode b_WP_findNumbers 21 = .ok (.getfield 33, 3) := by decide +kernel
theorem d_WP_findNumbers_24 : decode b_WP_findNumbers 24 = .ok (.getfield 309, 3) := by decide +kernel
theorem d_WP_findNumbers_27 : decode b_WP_findNumbers 27 = .ok (.invokestatic 296, 3) := by decide +kernel
theorem d_WP_findNumbers_30 : decode b_WP_findNumbers 30 = .ok (.lcmp, 1) := by decide +kernel
theorem d_WP_findNumbers_31 : decode b_WP_findNumbers 31 = .ok (.ifCond .ge 31, 3) := by decide +kernel
theorem d_WP_findNumbers_34 : decode b_WP_findNumbers 34 = .ok (.aload_n 0, 1) := by decide +kernel
theorem d_WP_findNumbers_35 : decode b_WP_findNumbers 35 = .ok (.getfield 47, 3) := by decide +kernel
theorem d_WP_findNumbers_38 : decode b_WP_findNumbers 38 = .ok (.aload_n 0, 1) := by decide +kernel
theorem d_WP_findNumbers_39 : decode b_WP_findNumbers 39 = .ok (.getfield 12, 3) := by decide +kernel
theorem d_WP_findNumbers_42 : decode b_WP_findNumbers 42 = .ok (.iload_n 1, 1) := by decide +kernel
theorem d_WP_findNumbers_43 : decode b_WP_findNumbers 43 = .ok (.invokevirtual 317, 3) := by decide +kernel
theorem d_WP_findNumbers_46 : decode b_WP_findNumbers 46 = .ok (.aload_n 0, 1) := by decide +kernel
theorem d_WP_findNumbers_47 : decode b_WP_findNumbers 47 = .ok (.getfield 47, 3) := by decide +kernel
theorem d_WP_findNumbers_50 : decode b_WP_findNumbers 50 = .ok (.getfield 315, 3) := by decide +kernel
theorem d_WP_findNumbers_53 : decode b_WP_findNumbers 53 = .ok (.iload_n 1, 1) := by decide +kernel
theorem d_WP_findNumbers_54 : decode b_WP_findNumbers 54 = .ok (.aload_n 0, 1) := by decide +kernel
theorem d_WP_findNumbers_55 : decode b_WP_findNumbers 55 = .ok (.getfield 33, 3) := by decide +kernel
theorem d_WP_findNumbers_58 : decode b_WP_findNumbers 58 = .ok (.getfield 235, 3) := by decide +kernel
theorem d_WP_findNumbers_61 : decode b_WP_findNumbers 61 = .ok (.lastore, 1) := by decide +kernel
theorem d_WP_findNumbers_62 : decode b_WP_findNumbers 62 = .ok (.aload_n 0, 1) := by decide +kernel
theorem d_WP_findNumbers_63 : decode b_WP_findNumbers 63 = .ok (.getfield 47, 3) := by decide +kernel
theorem d_WP_findNumbers_66 : decode b_WP_findNumbers 66 = .ok (.iload_n 1, 1) := by decide +kernel
theorem d_WP_findNumbers_67 : decode b_WP_findNumbers 67 = .ok (.invokevirtual 319, 3) := by decide +kernel
theorem d_WP_findNumbers_70 : decode b_WP_findNumbers 70 = .ok (.areturn, 1) := by decide +kernel
theorem d_WP_countNumbered_0 : decode b_WP_countNumbered 0 = .ok (.iconst 0, 1) := by decide +kernel
theorem d_WP_countNumbered_1 : decode b_WP_countNumbered 1 = .ok (.istore_n 2, 1) := by decide +kernel
theorem d_WP_countNumbered_2 : decode b_WP_countNumbered 2 = .ok (.iconst 0, 1) := by decide +kernel
theorem d_WP_countNumbered_3 : decode b_WP_countNumbered 3 = .ok (.istore_n 3, 1) := by decide +kernel
theorem d_WP_countNumbered_4 : decode b_WP_countNumbered 4 = .ok (.iload_n 3, 1) := by decide +kernel
theorem d_WP_countNumbered_5 : decode b_WP_countNumbered 5 = .ok (.aload_n 0, 1) := by decide +kernel
theorem d_WP_countNumbered_6 : decode b_WP_countNumbered 6 = .ok (.getfield 12, 3) := by decide +kernel
theorem d_WP_countNumbered_9 : decode b_WP_countNumbered 9 = .ok (.getfield 169, 3) := by decide +kernel
theorem d_WP_countNumbered_12 : decode b_WP_countNumbered 12 = .ok (.if_icmp .ge 19, 3) := by decide +kernel
theorem d_WP_countNumbered_15 : decode b_WP_countNumbered 15 = .ok (.aload_n 1, 1) := by decide +kernel
theorem d_WP_countNumbered_16 : decode b_WP_countNumbered 16 = .ok (.iload_n 3, 1) := by decide +kernel
theorem d_WP_countNumbered_17 : decode b_WP_countNumbered 17 = .ok (.iaload, 1) := by decide +kernel
theorem d_WP_countNumbered_18 : decode b_WP_countNumbered 18 = .ok (.iconst (-1), 1) := by decide +kernel
theorem d_WP_countNumbered_19 : decode b_WP_countNumbered 19 = .ok (.if_icmp .eq 6, 3) := by decide +kernel
theorem d_WP_countNumbered_22 : decode b_WP_countNumbered 22 = .ok (.iinc 2 1, 3) := by decide +kernel
theorem d_WP_countNumbered_25 : decode b_WP_countNumbered 25 = .ok (.iinc 3 1, 3) := by decide +kernel
theorem d_WP_countNumbered_28 : decode b_WP_countNumbered 28 = .ok (.goto (-24), 3) := by decide +kernel
theorem d_WP_countNumbered_31 : decode b_WP_countNumbered 31 = .ok (.iload_n 2, 1) := by decide +kernel
theorem d_WP_countNumbered_32 : decode b_WP_countNumbered 32 = .ok (.ireturn, 1) := by decide +kernel
theorem d_WP_countDead_0 : decode b_WP_countDead 0 = .ok (.aload_n 0, 1) := by decide +kernel
theorem d_WP_countDead_1 : decode b_WP_countDead 1 = .ok (.invokevirtual 172, 3) := by decide +kernel
theorem d_WP_countDead_4 : decode b_WP_countDead 4 = .ok (.aload_n 0, 1) := by decide +kernel
theorem d_WP_countDead_5 : decode b_WP_countDead 5 = .ok (.iconst 1, 1) := by decide +kernel
theorem d_WP_countDead_6 : decode b_WP_countDead 6 = .ok (.invokevirtual 184, 3) := by decide +kernel
theorem d_WP_countDead_9 : decode b_WP_countDead 9 = .ok (.astore_n 1, 1) := by decide +kernel
theorem d_WP_countDead_10 : decode b_WP_countDead 10 = .ok (.iconst 0, 1) := by decide +kernel
theorem d_WP_countDead_11 : decode b_WP_countDead 11 = .ok (.istore_n 2, 1) := by decide +kernel
theorem d_WP_countDead_12 : decode b_WP_countDead 12 = .ok (.iconst 0, 1) := by decide +kernel
theorem d_WP_countDead_13 : decode b_WP_countDead 13 = .ok (.istore_n 3, 1) := by decide +kernel
theorem d_WP_countDead_14 : decode b_WP_countDead 14 = .ok (.iload_n 3, 1) := by decide +kernel
theorem d_WP_countDead_15 : decode b_WP_countDead 15 = .ok (.aload_n 0, 1) := by decide +kernel
theorem d_WP_countDead_16 : decode b_WP_countDead 16 = .ok (.getfield 12, 3) := by decide +kernel
theorem d_WP_countDead_19 : decode b_WP_countDead 19 = .ok (.getfield 169, 3) := by decide +kernel
theorem d_WP_countDead_22 : decode b_WP_countDead 22 = .ok (.if_icmp .ge 32, 3) := by decide +kernel
theorem d_WP_countDead_25 : decode b_WP_countDead 25 = .ok (.aload_n 0, 1) := by decide +kernel
theorem d_WP_countDead_26 : decode b_WP_countDead 26 = .ok (.getfield 40, 3) := by decide +kernel
theorem d_WP_countDead_29 : decode b_WP_countDead 29 = .ok (.getfield 201, 3) := by decide +kernel
theorem d_WP_countDead_32 : decode b_WP_countDead 32 = .ok (.iload_n 3, 1) := by decide +kernel
theorem d_WP_countDead_33 : decode b_WP_countDead 33 = .ok (.iaload, 1) := by decide +kernel
theorem d_WP_countDead_34 : decode b_WP_countDead 34 = .ok (.iconst (-1), 1) := by decide +kernel
theorem d_WP_countDead_35 : decode b_WP_countDead 35 = .ok (.if_icmp .eq 13, 3) := by decide +kernel
theorem d_WP_countDead_38 : decode b_WP_countDead 38 = .ok (.aload_n 1, 1) := by decide +kernel
theorem d_WP_countDead_39 : decode b_WP_countDead 39 = .ok (.iload_n 3, 1) := by decide +kernel
theorem d_WP_countDead_40 : decode b_WP_countDead 40 = .ok (.iaload, 1) := by decide +kernel
theorem d_WP_countDead_41 : decode b_WP_countDead 41 = .ok (.iconst (-1), 1) := by decide +kernel
theorem d_WP_countDead_42 : decode b_WP_countDead 42 = .ok (.if_icmp .ne 6, 3) := by decide +kernel
theorem d_WP_countDead_45 : decode b_WP_countDead 45 = .ok (.iinc 2 1, 3) := by decide +kernel
theorem d_WP_countDead_48 : decode b_WP_countDead 48 = .ok (.iinc 3 1, 3) := by decide +kernel
theorem d_WP_countDead_51 : decode b_WP_countDead 51 = .ok (.goto (-37), 3) := by decide +kernel
theorem d_WP_countDead_54 : decode b_WP_countDead 54 = .ok (.iload_n 2, 1) := by decide +kernel
theorem d_WP_countDead_55 : decode b_WP_countDead 55 = .ok (.ireturn, 1) := by decide +kernel
theorem d_WP_findKinds_0 : decode b_WP_findKinds 0 = .ok (.aload_n 0, 1) := by decide +kernel
theorem d_WP_findKinds_1 : decode b_WP_findKinds 1 = .ok (.invokevirtual 178, 3) := by decide +kernel
theorem d_WP_findKinds_4 : decode b_WP_findKinds 4 = .ok (.aload_n 0, 1) := by decide +kernel
theorem d_WP_findKinds_5 : decode b_WP_findKinds 5 = .ok (.getfield 54, 3) := by decide +kernel
theorem d_WP_findKinds_8 : decode b_WP_findKinds 8 = .ok (.getfield 322, 3) := by decide +kernel
theorem d_WP_findKinds_11 : decode b_WP_findKinds 11 = .ok (.aload_n 0, 1) := by decide +kernel
theorem d_WP_findKinds_12 : decode b_WP_findKinds 12 = .ok (.getfield 33, 3) := by decide +kernel
theorem d_WP_findKinds_15 : decode b_WP_findKinds 15 = .ok (.getfield 291, 3) := by decide +kernel
theorem d_WP_findKinds_18 : decode b_WP_findKinds 18 = .ok (.aload_n 0, 1) := by decide +kernel
theorem d_WP_findKinds_19 : decode b_WP_findKinds 19 = .ok (.getfield 33, 3) := by decide +kernel
theorem d_WP_findKinds_22 : decode b_WP_findKinds 22 = .ok (.getfield 309, 3) := by decide +kernel
theorem d_WP_findKinds_25 : decode b_WP_findKinds 25 = .ok (.invokestatic 296, 3) := by decide +kernel
theorem d_WP_findKinds_28 : decode b_WP_findKinds 28 = .ok (.lcmp, 1) := by decide +kernel
theorem d_WP_findKinds_29 : decode b_WP_findKinds 29 = .ok (.ifCond .ge 35, 3) := by decide +kernel
theorem d_WP_findKinds_32 : decode b_WP_findKinds 32 = .ok (.aload_n 0, 1) := by decide +kernel
theorem d_WP_findKinds_33 : decode b_WP_findKinds 33 = .ok (.getfield 54, 3) := by decide +kernel
theorem d_WP_findKinds_36 : decode b_WP_findKinds 36 = .ok (.aload_n 0, 1) := by decide +kernel
theorem d_WP_findKinds_37 : decode b_WP_findKinds 37 = .ok (.getfield 12, 3) := by decide +kernel
theorem d_WP_findKinds_40 : decode b_WP_findKinds 40 = .ok (.aload_n 0, 1) := by decide +kernel
theorem d_WP_findKinds_41 : decode b_WP_findKinds 41 = .ok (.getfield 47, 3) := by decide +kernel
theorem d_WP_findKinds_44 : decode b_WP_findKinds 44 = .ok (.getfield 228, 3) := by decide +kernel
theorem d_WP_findKinds_47 : decode b_WP_findKinds 47 = .ok (.invokevirtual 323, 3) := by decide +kernel
theorem d_WP_findKinds_50 : decode b_WP_findKinds 50 = .ok (.aload_n 0, 1) := by decide +kernel
theorem d_WP_findKinds_51 : decode b_WP_findKinds 51 = .ok (.getfield 54, 3) := by decide +kernel
theorem d_WP_findKinds_54 : decode b_WP_findKinds 54 = .ok (.aload_n 0, 1) := by decide +kernel
theorem d_WP_findKinds_55 : decode b_WP_findKinds 55 = .ok (.getfield 33, 3) := by decide +kernel
theorem d_WP_findKinds_58 : decode b_WP_findKinds 58 = .ok (.getfield 235, 3) := by decide +kernel
theorem d_WP_findKinds_61 : decode b_WP_findKinds 61 = .ok (.putfield 322, 3) := by decide +kernel
theorem d_WP_findKinds_64 : decode b_WP_findKinds 64 = .ok (.return_, 1) := by decide +kernel
theorem d_WP_of_0 : decode b_WP_of 0 = .ok (.aload_n 0, 1) := by decide +kernel
theorem d_WP_of_1 : decode b_WP_of 1 = .ok (.getfield 12, 3) := by decide +kernel
theorem d_WP_of_4 : decode b_WP_of 4 = .ok (.iload_n 1, 1) := by decide +kernel
theorem d_WP_of_5 : decode b_WP_of 5 = .ok (.invokevirtual 96, 3) := by decide +kernel
theorem d_WP_of_8 : decode b_WP_of 8 = .ok (.ifCond .eq 12, 3) := by decide +kernel
theorem d_WP_of_11 : decode b_WP_of 11 = .ok (.iload_n 2, 1) := by decide +kernel
theorem d_WP_of_12 : decode b_WP_of 12 = .ok (.ifCond .lt 8, 3) := by decide +kernel
theorem d_WP_of_15 : decode b_WP_of 15 = .ok (.iload_n 2, 1) := by decide +kernel
theorem d_WP_of_16 : decode b_WP_of 16 = .ok (.iconst 4, 1) := by decide +kernel
theorem d_WP_of_17 : decode b_WP_of 17 = .ok (.if_icmp .le 6, 3) := by decide +kernel
theorem d_WP_of_20 : decode b_WP_of 20 = .ok (.bipush (-2), 2) := by decide +kernel
theorem d_WP_of_22 : decode b_WP_of 22 = .ok (.ireturn, 1) := by decide +kernel
theorem d_WP_of_23 : decode b_WP_of 23 = .ok (.aload_n 0, 1) := by decide +kernel
theorem d_WP_of_24 : decode b_WP_of 24 = .ok (.getfield 12, 3) := by decide +kernel
theorem d_WP_of_27 : decode b_WP_of 27 = .ok (.invokevirtual 166, 3) := by decide +kernel
theorem d_WP_of_30 : decode b_WP_of 30 = .ok (.iload_n 2, 1) := by decide +kernel
theorem d_WP_of_31 : decode b_WP_of 31 = .ok (.ifCond .ne 17, 3) := by decide +kernel
theorem d_WP_of_34 : decode b_WP_of 34 = .ok (.aload_n 0, 1) := by decide +kernel
theorem d_WP_of_35 : decode b_WP_of 35 = .ok (.invokevirtual 172, 3) := by decide +kernel
theorem d_WP_of_38 : decode b_WP_of 38 = .ok (.aload_n 0, 1) := by decide +kernel
theorem d_WP_of_39 : decode b_WP_of 39 = .ok (.getfield 40, 3) := by decide +kernel
theorem d_WP_of_42 : decode b_WP_of 42 = .ok (.getfield 201, 3) := by decide +kernel
theorem d_WP_of_45 : decode b_WP_of 45 = .ok (.iload_n 1, 1) := by decide +kernel
theorem d_WP_of_46 : decode b_WP_of 46 = .ok (.iaload, 1) := by decide +kernel
theorem d_WP_of_47 : decode b_WP_of 47 = .ok (.ireturn, 1) := by decide +kernel
theorem d_WP_of_48 : decode b_WP_of 48 = .ok (.iload_n 2, 1) := by decide +kernel
theorem d_WP_of_49 : decode b_WP_of 49 = .ok (.iconst 4, 1) := by decide +kernel
theorem d_WP_of_50 : decode b_WP_of 50 = .ok (.if_icmp .ne 25, 3) := by decide +kernel
theorem d_WP_of_53 : decode b_WP_of 53 = .ok (.aload_n 0, 1) := by decide +kernel
theorem d_WP_of_54 : decode b_WP_of 54 = .ok (.invokevirtual 195, 3) := by decide +kernel
theorem d_WP_of_57 : decode b_WP_of 57 = .ok (.aload_n 0, 1) := by decide +kernel
theorem d_WP_of_58 : decode b_WP_of 58 = .ok (.getfield 54, 3) := by decide +kernel
theorem d_WP_of_61 : decode b_WP_of 61 = .ok (.getfield 205, 3) := by decide +kernel
theorem d_WP_of_64 : decode b_WP_of 64 = .ok (.aload_n 0, 1) := by decide +kernel
theorem d_WP_of_65 : decode b_WP_of 65 = .ok (.getfield 54, 3) := by decide +kernel
theorem d_WP_of_68 : decode b_WP_of 68 = .ok (.getfield 208, 3) := by decide +kernel
theorem d_WP_of_71 : decode b_WP_of 71 = .ok (.iload_n 1, 1) := by decide +kernel
theorem d_WP_of_72 : decode b_WP_of 72 = .ok (.iaload, 1) := by decide +kernel
theorem d_WP_of_73 : decode b_WP_of 73 = .ok (.iaload, 1) := by decide +kernel
theorem d_WP_of_74 : decode b_WP_of 74 = .ok (.ireturn, 1) := by decide +kernel
theorem d_WP_of_75 : decode b_WP_of 75 = .ok (.aload_n 0, 1) := by decide +kernel
theorem d_WP_of_76 : decode b_WP_of 76 = .ok (.iload_n 2, 1) := by decide +kernel
theorem d_WP_of_77 : decode b_WP_of 77 = .ok (.invokevirtual 184, 3) := by decide +kernel
theorem d_WP_of_80 : decode b_WP_of 80 = .ok (.iload_n 1, 1) := by decide +kernel
theorem d_WP_of_81 : decode b_WP_of 81 = .ok (.iaload, 1) := by decide +kernel
theorem d_WP_of_82 : decode b_WP_of 82 = .ok (.ireturn, 1) := by decide +kernel
theorem d_WP_best_0 : decode b_WP_best 0 = .ok (.aload_n 0, 1) := by decide +kernel
theorem d_WP_best_1 : decode b_WP_best 1 = .ok (.getfield 12, 3) := by decide +kernel
theorem d_WP_best_4 : decode b_WP_best 4 = .ok (.iload_n 1, 1) := by decide +kernel
theorem d_WP_best_5 : decode b_WP_best 5 = .ok (.invokevirtual 96, 3) := by decide +kernel
theorem d_WP_best_8 : decode b_WP_best 8 = .ok (.ifCond .eq 13, 3) := by decide +kernel
theorem d_WP_best_11 : decode b_WP_best 11 = .ok (.iload_n 2, 1) := by decide +kernel
theorem d_WP_best_12 : decode b_WP_best 12 = .ok (.iconst 1, 1) := by decide +kernel
theorem d_WP_best_13 : decode b_WP_best 13 = .ok (.if_icmp .lt 8, 3) := by decide +kernel
theorem d_WP_best_16 : decode b_WP_best 16 = .ok (.iload_n 2, 1) := by decide +kernel
theorem d_WP_best_17 : decode b_WP_best 17 = .ok (.iconst 3, 1) := by decide +kernel
theorem d_WP_best_18 : decode b_WP_best 18 = .ok (.if_icmp .le 6, 3) := by decide +kernel
theorem d_WP_best_21 : decode b_WP_best 21 = .ok (.bipush (-2), 2) := by decide +kernel
theorem d_WP_best_23 : decode b_WP_best 23 = .ok (.ireturn, 1) := by decide +kernel
theorem d_WP_best_24 : decode b_WP_best 24 = .ok (.aload_n 0, 1) := by decide +kernel
theorem d_WP_best_25 : decode b_WP_best 25 = .ok (.getfield 12, 3) := by decide +kernel
theorem d_WP_best_28 : decode b_WP_best 28 = .ok (.invokevirtual 166, 3) := by decide +kernel
theorem d_WP_best_31 : decode b_WP_best 31 = .ok (.aload_n 0, 1) := by decide +kernel
theorem d_WP_best_32 : decode b_WP_best 32 = .ok (.getfield 47, 3) := by decide +kernel
theorem d_WP_best_35 : decode b_WP_best 35 = .ok (.aload_n 0, 1) := by decide +kernel
theorem d_WP_best_36 : decode b_WP_best 36 = .ok (.getfield 12, 3) := by decide +kernel
theorem d_WP_best_39 : decode b_WP_best 39 = .ok (.aload_n 0, 1) := by decide +kernel
theorem d_WP_best_40 : decode b_WP_best 40 = .ok (.iload_n 2, 1) := by decide +kernel
theorem d_WP_best_41 : decode b_WP_best 41 = .ok (.invokevirtual 184, 3) := by decide +kernel
theorem d_WP_best_44 : decode b_WP_best 44 = .ok (.iload_n 1, 1) := by decide +kernel
theorem d_WP_best_45 : decode b_WP_best 45 = .ok (.iload_n 2, 1) := by decide +kernel
theorem d_WP_best_46 : decode b_WP_best 46 = .ok (.invokevirtual 211, 3) := by decide +kernel
theorem d_WP_best_49 : decode b_WP_best 49 = .ok (.ireturn, 1) := by decide +kernel
theorem d_WP_play_0 : decode b_WP_play 0 = .ok (.iload_n 2, 1) := by decide +kernel
theorem d_WP_play_1 : decode b_WP_play 1 = .ok (.ifCond .lt 8, 3) := by decide +kernel
theorem d_WP_play_4 : decode b_WP_play 4 = .ok (.iload_n 2, 1) := by decide +kernel
theorem d_WP_play_5 : decode b_WP_play 5 = .ok (.iconst 2, 1) := by decide +kernel
theorem d_WP_play_6 : decode b_WP_play 6 = .ok (.if_icmp .le 6, 3) := by decide +kernel
theorem d_WP_play_9 : decode b_WP_play 9 = .ok (.bipush (-2), 2) := by decide +kernel
theorem d_WP_play_11 : decode b_WP_play 11 = .ok (.ireturn, 1) := by decide +kernel
theorem d_WP_play_12 : decode b_WP_play 12 = .ok (.aload_n 0, 1) := by decide +kernel
theorem d_WP_play_13 : decode b_WP_play 13 = .ok (.getfield 12, 3) := by decide +kernel
theorem d_WP_play_16 : decode b_WP_play 16 = .ok (.invokevirtual 166, 3) := by decide +kernel
theorem d_WP_play_19 : decode b_WP_play 19 = .ok (.aload_n 0, 1) := by decide +kernel
theorem d_WP_play_20 : decode b_WP_play 20 = .ok (.iconst 1, 1) := by decide +kernel
theorem d_WP_play_21 : decode b_WP_play 21 = .ok (.invokevirtual 184, 3) := by decide +kernel
theorem d_WP_play_24 : decode b_WP_play 24 = .ok (.astore_n 3, 1) := by decide +kernel
theorem d_WP_play_25 : decode b_WP_play 25 = .ok (.iload_n 1, 1) := by decide +kernel
theorem d_WP_play_26 : decode b_WP_play 26 = .ok (.ifCond .lt 13, 3) := by decide +kernel
theorem d_WP_play_29 : decode b_WP_play 29 = .ok (.iload_n 1, 1) := by decide +kernel
theorem d_WP_play_30 : decode b_WP_play 30 = .ok (.aload_n 3, 1) := by decide +kernel
theorem d_WP_play_31 : decode b_WP_play 31 = .ok (.aload_n 0, 1) := by decide +kernel
theorem d_WP_play_32 : decode b_WP_play 32 = .ok (.getfield 65, 3) := by decide +kernel
theorem d_WP_play_35 : decode b_WP_play 35 = .ok (.iaload, 1) := by decide +kernel
theorem d_WP_play_36 : decode b_WP_play 36 = .ok (.if_icmp .lt 5, 3) := by decide +kernel
theorem d_WP_play_39 : decode b_WP_play 39 = .ok (.iconst (-1), 1) := by decide +kernel
theorem d_WP_play_40 : decode b_WP_play 40 = .ok (.ireturn, 1) := by decide +kernel
theorem d_WP_play_41 : decode b_WP_play 41 = .ok (.aload_n 0, 1) := by decide +kernel
theorem d_WP_play_42 : decode b_WP_play 42 = .ok (.getfield 65, 3) := by decide +kernel
theorem d_WP_play_45 : decode b_WP_play 45 = .ok (.istore 4, 2) := by decide +kernel
theorem d_WP_play_47 : decode b_WP_play 47 = .ok (.iconst (-1), 1) := by decide +kernel
theorem d_WP_play_48 : decode b_WP_play 48 = .ok (.istore 5, 2) := by decide +kernel
theorem d_WP_play_50 : decode b_WP_play 50 = .ok (.iconst 0, 1) := by decide +kernel
theorem d_WP_play_51 : decode b_WP_play 51 = .ok (.istore 6, 2) := by decide +kernel
theorem d_WP_play_53 : decode b_WP_play 53 = .ok (.iload 6, 2) := by decide +kernel
theorem d_WP_play_55 : decode b_WP_play 55 = .ok (.iload_n 1, 1) := by decide +kernel
theorem d_WP_play_56 : decode b_WP_play 56 = .ok (.if_icmp .gt 43, 3) := by decide +kernel
theorem d_WP_play_59 : decode b_WP_play 59 = .ok (.aload_n 0, 1) := by decide +kernel
theorem d_WP_play_60 : decode b_WP_play 60 = .ok (.getfield 47, 3) := by decide +kernel
theorem d_WP_play_63 : decode b_WP_play 63 = .ok (.aload_n 0, 1) := by decide +kernel
theorem d_WP_play_64 : decode b_WP_play 64 = .ok (.getfield 12, 3) := by decide +kernel
theorem d_WP_play_67 : decode b_WP_play 67 = .ok (.iload 4, 2) := by decide +kernel
theorem d_WP_play_69 : decode b_WP_play 69 = .ok (.invokevirtual 215, 3) := by decide +kernel
theorem d_WP_play_72 : decode b_WP_play 72 = .ok (.istore 5, 2) := by decide +kernel
theorem d_WP_play_74 : decode b_WP_play 74 = .ok (.iload 5, 2) := by decide +kernel
theorem d_WP_play_76 : decode b_WP_play 76 = .ok (.iconst (-1), 1) := by decide +kernel
theorem d_WP_play_77 : decode b_WP_play 77 = .ok (.if_icmp .ne 5, 3) := by decide +kernel
theorem d_WP_play_80 : decode b_WP_play 80 = .ok (.iconst (-1), 1) := by decide +kernel
theorem d_WP_play_81 : decode b_WP_play 81 = .ok (.ireturn, 1) := by decide +kernel
theorem d_WP_play_82 : decode b_WP_play 82 = .ok (.aload_n 0, 1) := by decide +kernel
theorem d_WP_play_83 : decode b_WP_play 83 = .ok (.getfield 12, 3) := by decide +kernel
theorem d_WP_play_86 : decode b_WP_play 86 = .ok (.iload 5, 2) := by decide +kernel
theorem d_WP_play_88 : decode b_WP_play 88 = .ok (.invokevirtual 219, 3) := by decide +kernel
theorem d_WP_play_91 : decode b_WP_play 91 = .ok (.istore 4, 2) := by decide +kernel
theorem d_WP_play_93 : decode b_WP_play 93 = .ok (.iinc 6 1, 3) := by decide +kernel
theorem d_WP_play_96 : decode b_WP_play 96 = .ok (.goto (-43), 3) := by decide +kernel
theorem d_WP_play_99 : decode b_WP_play 99 = .ok (.iload_n 2, 1) := by decide +kernel
theorem d_WP_play_100 : decode b_WP_play 100 = .ok (.ifCond .ne 9, 3) := by decide +kernel
theorem d_WP_play_103 : decode b_WP_play 103 = .ok (.iload 5, 2) := by decide +kernel
theorem d_WP_play_105 : decode b_WP_play 105 = .ok (.invokestatic 222, 3) := by decide +kernel
theorem d_WP_play_108 : decode b_WP_play 108 = .ok (.ireturn, 1) := by decide +kernel
theorem d_WP_play_109 : decode b_WP_play 109 = .ok (.iload_n 2, 1) := by decide +kernel
theorem d_WP_play_110 : decode b_WP_play 110 = .ok (.iconst 1, 1) := by decide +kernel
theorem d_WP_play_111 : decode b_WP_play 111 = .ok (.if_icmp .ne 11, 3) := by decide +kernel
theorem d_WP_play_114 : decode b_WP_play 114 = .ok (.iload 5, 2) := by decide +kernel
theorem d_WP_play_116 : decode b_WP_play 116 = .ok (.invokestatic 225, 3) := by decide +kernel
theorem d_WP_play_119 : decode b_WP_play 119 = .ok (.goto 5, 3) := by decide +kernel
theorem d_WP_play_122 : decode b_WP_play 122 = .ok (.iload 4, 2) := by decide +kernel
theorem d_WP_play_124 : decode b_WP_play 124 = .ok (.ireturn, 1) := by decide +kernel
theorem d_WP_plays_0 : decode b_WP_plays 0 = .ok (.aload_n 0, 1) := by decide +kernel
theorem d_WP_plays_1 : decode b_WP_plays 1 = .ok (.getfield 12, 3) := by decide +kernel
theorem d_WP_plays_4 : decode b_WP_plays 4 = .ok (.invokevirtual 166, 3) := by decide +kernel
theorem d_WP_plays_7 : decode b_WP_plays 7 = .ok (.aload_n 0, 1) := by decide +kernel
theorem d_WP_plays_8 : decode b_WP_plays 8 = .ok (.invokevirtual 172, 3) := by decide +kernel
theorem d_WP_plays_11 : decode b_WP_plays 11 = .ok (.aload_n 0, 1) := by decide +kernel
theorem d_WP_plays_12 : decode b_WP_plays 12 = .ok (.invokevirtual 178, 3) := by decide +kernel
theorem d_WP_plays_15 : decode b_WP_plays 15 = .ok (.sipush 4096, 3) := by decide +kernel
theorem d_WP_plays_18 : decode b_WP_plays 18 = .ok (.istore_n 1, 1) := by decide +kernel
theorem d_WP_plays_19 : decode b_WP_plays 19 = .ok (.lconst 0, 1) := by decide +kernel
theorem d_WP_plays_20 : decode b_WP_plays 20 = .ok (.lstore_n 2, 1) := by decide +kernel
theorem d_WP_plays_21 : decode b_WP_plays 21 = .ok (.iconst 0, 1) := by decide +kernel
theorem d_WP_plays_22 : decode b_WP_plays 22 = .ok (.istore 4, 2) := by decide +kernel
theorem d_WP_plays_24 : decode b_WP_plays 24 = .ok (.iload 4, 2) := by decide +kernel
theorem d_WP_plays_26 : decode b_WP_plays 26 = .ok (.aload_n 0, 1) := by decide +kernel
theorem d_WP_plays_27 : decode b_WP_plays 27 = .ok (.getfield 12, 3) := by decide +kernel
theorem d_WP_plays_30 : decode b_WP_plays 30 = .ok (.getfield 169, 3) := by decide +kernel
theorem d_WP_plays_33 : decode b_WP_plays 33 = .ok (.if_icmp .ge 84, 3) := by decide +kernel
theorem d_WP_plays_36 : decode b_WP_plays 36 = .ok (.aload_n 0, 1) := by decide +kernel
theorem d_WP_plays_37 : decode b_WP_plays 37 = .ok (.getfield 40, 3) := by decide +kernel
theorem d_WP_plays_40 : decode b_WP_plays 40 = .ok (.getfield 201, 3) := by decide +kernel
theorem d_WP_plays_43 : decode b_WP_plays 43 = .ok (.iload 4, 2) := by decide +kernel
theorem d_WP_plays_45 : decode b_WP_plays 45 = .ok (.iaload, 1) := by decide +kernel
theorem d_WP_plays_46 : decode b_WP_plays 46 = .ok (.istore 5, 2) := by decide +kernel
theorem d_WP_plays_48 : decode b_WP_plays 48 = .ok (.aload_n 0, 1) := by decide +kernel
theorem d_WP_plays_49 : decode b_WP_plays 49 = .ok (.getfield 47, 3) := by decide +kernel
theorem d_WP_plays_52 : decode b_WP_plays 52 = .ok (.getfield 228, 3) := by decide +kernel
theorem d_WP_plays_55 : decode b_WP_plays 55 = .ok (.iload 4, 2) := by decide +kernel
theorem d_WP_plays_57 : decode b_WP_plays 57 = .ok (.baload, 1) := by decide +kernel
theorem d_WP_plays_58 : decode b_WP_plays 58 = .ok (.ifCond .eq 53, 3) := by decide +kernel
theorem d_WP_plays_61 : decode b_WP_plays 61 = .ok (.iload 5, 2) := by decide +kernel
theorem d_WP_plays_63 : decode b_WP_plays 63 = .ok (.iconst (-1), 1) := by decide +kernel
theorem d_WP_plays_64 : decode b_WP_plays 64 = .ok (.if_icmp .eq 47, 3) := by decide +kernel
theorem d_WP_plays_67 : decode b_WP_plays 67 = .ok (.iload 5, 2) := by decide +kernel
theorem d_WP_plays_69 : decode b_WP_plays 69 = .ok (.iload_n 1, 1) := by decide +kernel
theorem d_WP_plays_70 : decode b_WP_plays 70 = .ok (.if_icmp .le 6, 3) := by decide +kernel
theorem d_WP_plays_73 : decode b_WP_plays 73 = .ok (.goto 38, 3) := by decide +kernel
theorem d_WP_plays_76 : decode b_WP_plays 76 = .ok (.iload 5, 2) := by decide +kernel
theorem d_WP_plays_78 : decode b_WP_plays 78 = .ok (.iload_n 1, 1) := by decide +kernel
theorem d_WP_plays_79 : decode b_WP_plays 79 = .ok (.if_icmp .ge 16, 3) := by decide +kernel
theorem d_WP_plays_82 : decode b_WP_plays 82 = .ok (.aload_n 0, 1) := by decide +kernel
theorem d_WP_plays_83 : decode b_WP_plays 83 = .ok (.getfield 40, 3) := by decide +kernel
theorem d_WP_plays_86 : decode b_WP_plays 86 = .ok (.getfield 231, 3) := by decide +kernel
theorem d_WP_plays_89 : decode b_WP_plays 89 = .ok (.iload 4, 2) := by decide +kernel
theorem d_WP_plays_91 : decode b_WP_plays 91 = .ok (.laload, 1) := by decide +kernel
theorem d_WP_plays_92 : decode b_WP_plays 92 = .ok (.goto 15, 3) := by decide +kernel
theorem d_WP_plays_95 : decode b_WP_plays 95 = .ok (.lload_n 2, 1) := by decide +kernel
theorem d_WP_plays_96 : decode b_WP_plays 96 = .ok (.aload_n 0, 1) := by decide +kernel
theorem d_WP_plays_97 : decode b_WP_plays 97 = .ok (.getfield 40, 3) := by decide +kernel
theorem d_WP_plays_100 : decode b_WP_plays 100 = .ok (.getfield 231, 3) := by decide +kernel
theorem d_WP_plays_103 : decode b_WP_plays 103 = .ok (.iload 4, 2) := by decide +kernel
theorem d_WP_plays_105 : decode b_WP_plays 105 = .ok (.laload, 1) := by decide +kernel
theorem d_WP_plays_106 : decode b_WP_plays 106 = .ok (.ladd, 1) := by decide +kernel
theorem d_WP_plays_107 : decode b_WP_plays 107 = .ok (.lstore_n 2, 1) := by decide +kernel
theorem d_WP_plays_108 : decode b_WP_plays 108 = .ok (.iload 5, 2) := by decide +kernel
theorem d_WP_plays_110 : decode b_WP_plays 110 = .ok (.istore_n 1, 1) := by decide +kernel
theorem d_WP_plays_111 : decode b_WP_plays 111 = .ok (.iinc 4 1, 3) := by decide +kernel
theorem d_WP_plays_114 : decode b_WP_plays 114 = .ok (.goto (-90), 3) := by decide +kernel
theorem d_WP_plays_117 : decode b_WP_plays 117 = .ok (.lload_n 2, 1) := by decide +kernel
theorem d_WP_plays_118 : decode b_WP_plays 118 = .ok (.lreturn, 1) := by decide +kernel
theorem d_WP_needed_0 : decode b_WP_needed 0 = .ok (.aload_n 0, 1) := by decide +kernel
theorem d_WP_needed_1 : decode b_WP_needed 1 = .ok (.getfield 12, 3) := by decide +kernel
theorem d_WP_needed_4 : decode b_WP_needed 4 = .ok (.invokevirtual 166, 3) := by decide +kernel
theorem d_WP_needed_7 : decode b_WP_needed 7 = .ok (.aload_n 0, 1) := by decide +kernel
theorem d_WP_needed_8 : decode b_WP_needed 8 = .ok (.invokevirtual 178, 3) := by decide +kernel
theorem d_WP_needed_11 : decode b_WP_needed 11 = .ok (.aload_n 0, 1) := by decide +kernel
theorem d_WP_needed_12 : decode b_WP_needed 12 = .ok (.getfield 72, 3) := by decide +kernel
theorem d_WP_needed_15 : decode b_WP_needed 15 = .ok (.aload_n 0, 1) := by decide +kernel
theorem d_WP_needed_16 : decode b_WP_needed 16 = .ok (.getfield 33, 3) := by decide +kernel
theorem d_WP_needed_19 : decode b_WP_needed 19 = .ok (.getfield 235, 3) := by decide +kernel
theorem d_WP_needed_22 : decode b_WP_needed 22 = .ok (.lcmp, 1) := by decide +kernel
theorem d_WP_needed_23 : decode b_WP_needed 23 = .ok (.ifCond .ge 78, 3) := by decide +kernel
theorem d_WP_needed_26 : decode b_WP_needed 26 = .ok (.aload_n 0, 1) := by decide +kernel
theorem d_WP_needed_27 : decode b_WP_needed 27 = .ok (.iconst 0, 1) := by decide +kernel
theorem d_WP_needed_28 : decode b_WP_needed 28 = .ok (.putfield 69, 3) := by decide +kernel
theorem d_WP_needed_31 : decode b_WP_needed 31 = .ok (.iconst 0, 1) := by decide +kernel
theorem d_WP_needed_32 : decode b_WP_needed 32 = .ok (.istore_n 1, 1) := by decide +kernel
theorem d_WP_needed_33 : decode b_WP_needed 33 = .ok (.iload_n 1, 1) := by decide +kernel
theorem d_WP_needed_34 : decode b_WP_needed 34 = .ok (.aload_n 0, 1) := by decide +kernel
theorem d_WP_needed_35 : decode b_WP_needed 35 = .ok (.getfield 12, 3) := by decide +kernel
theorem d_WP_needed_38 : decode b_WP_needed 38 = .ok (.getfield 89, 3) := by decide +kernel
theorem d_WP_needed_41 : decode b_WP_needed 41 = .ok (.if_icmp .ge 49, 3) := by decide +kernel
theorem d_WP_needed_44 : decode b_WP_needed 44 = .ok (.aload_n 0, 1) := by decide +kernel
theorem d_WP_needed_45 : decode b_WP_needed 45 = .ok (.getfield 61, 3) := by decide +kernel
theorem d_WP_needed_48 : decode b_WP_needed 48 = .ok (.aload_n 0, 1) := by decide +kernel
theorem d_WP_needed_49 : decode b_WP_needed 49 = .ok (.getfield 12, 3) := by decide +kernel
theorem d_WP_needed_52 : decode b_WP_needed 52 = .ok (.aload_n 0, 1) := by decide +kernel
theorem d_WP_needed_53 : decode b_WP_needed 53 = .ok (.getfield 47, 3) := by decide +kernel
theorem d_WP_needed_56 : decode b_WP_needed 56 = .ok (.getfield 228, 3) := by decide +kernel
theorem d_WP_needed_59 : decode b_WP_needed 59 = .ok (.aload_n 0, 1) := by decide +kernel
theorem d_WP_needed_60 : decode b_WP_needed 60 = .ok (.getfield 65, 3) := by decide +kernel
theorem d_WP_needed_63 : decode b_WP_needed 63 = .ok (.iload_n 1, 1) := by decide +kernel
theorem d_WP_needed_64 : decode b_WP_needed 64 = .ok (.iconst (-1), 1) := by decide +kernel
theorem d_WP_needed_65 : decode b_WP_needed 65 = .ok (.iconst (-1), 1) := by decide +kernel
theorem d_WP_needed_66 : decode b_WP_needed 66 = .ok (.invokevirtual 238, 3) := by decide +kernel
theorem d_WP_needed_69 : decode b_WP_needed 69 = .ok (.ifCond .ne 15, 3) := by decide +kernel
theorem d_WP_needed_72 : decode b_WP_needed 72 = .ok (.aload_n 0, 1) := by decide +kernel
theorem d_WP_needed_73 : decode b_WP_needed 73 = .ok (.dup, 1) := by decide +kernel
theorem d_WP_needed_74 : decode b_WP_needed 74 = .ok (.getfield 69, 3) := by decide +kernel
theorem d_WP_needed_77 : decode b_WP_needed 77 = .ok (.iconst 1, 1) := by decide +kernel
theorem d_WP_needed_78 : decode b_WP_needed 78 = .ok (.iload_n 1, 1) := by decide +kernel
theorem d_WP_needed_79 : decode b_WP_needed 79 = .ok (.ishl, 1) := by decide +kernel
theorem d_WP_needed_80 : decode b_WP_needed 80 = .ok (.ior, 1) := by decide +kernel
theorem d_WP_needed_81 : decode b_WP_needed 81 = .ok (.putfield 69, 3) := by decide +kernel
theorem d_WP_needed_84 : decode b_WP_needed 84 = .ok (.iinc 1 1, 3) := by decide +kernel
theorem d_WP_needed_87 : decode b_WP_needed 87 = .ok (.goto (-54), 3) := by decide +kernel
theorem d_WP_needed_90 : decode b_WP_needed 90 = .ok (.aload_n 0, 1) := by decide +kernel
theorem d_WP_needed_91 : decode b_WP_needed 91 = .ok (.aload_n 0, 1) := by decide +kernel
theorem d_WP_needed_92 : decode b_WP_needed 92 = .ok (.getfield 33, 3) := by decide +kernel
theorem d_WP_needed_95 : decode b_WP_needed 95 = .ok (.getfield 235, 3) := by decide +kernel
theorem d_WP_needed_98 : decode b_WP_needed 98 = .ok (.putfield 72, 3) := by decide +kernel
theorem d_WP_needed_101 : decode b_WP_needed 101 = .ok (.aload_n 0, 1) := by decide +kernel
theorem d_WP_needed_102 : decode b_WP_needed 102 = .ok (.getfield 69, 3) := by decide +kernel
theorem d_WP_needed_105 : decode b_WP_needed 105 = .ok (.ireturn, 1) := by decide +kernel
theorem d_WP_fact_0 : decode b_WP_fact 0 = .ok (.aload_n 0, 1) := by decide +kernel
theorem d_WP_fact_1 : decode b_WP_fact 1 = .ok (.getfield 12, 3) := by decide +kernel
theorem d_WP_fact_4 : decode b_WP_fact 4 = .ok (.iload_n 1, 1) := by decide +kernel
theorem d_WP_fact_5 : decode b_WP_fact 5 = .ok (.invokevirtual 241, 3) := by decide +kernel
theorem d_WP_fact_8 : decode b_WP_fact 8 = .ok (.ifCond .eq 20, 3) := by decide +kernel
theorem d_WP_fact_11 : decode b_WP_fact 11 = .ok (.iload_n 2, 1) := by decide +kernel
theorem d_WP_fact_12 : decode b_WP_fact 12 = .ok (.ifCond .lt 16, 3) := by decide +kernel
theorem d_WP_fact_15 : decode b_WP_fact 15 = .ok (.iload_n 2, 1) := by decide +kernel
theorem d_WP_fact_16 : decode b_WP_fact 16 = .ok (.aload_n 0, 1) := by decide +kernel
theorem d_WP_fact_17 : decode b_WP_fact 17 = .ok (.getfield 12, 3) := by decide +kernel
theorem d_WP_fact_20 : decode b_WP_fact 20 = .ok (.getfield 244, 3) := by decide +kernel
theorem d_WP_fact_23 : decode b_WP_fact 23 = .ok (.iload_n 1, 1) := by decide +kernel
theorem d_WP_fact_24 : decode b_WP_fact 24 = .ok (.iaload, 1) := by decide +kernel
theorem d_WP_fact_25 : decode b_WP_fact 25 = .ok (.if_icmp .lt 6, 3) := by decide +kernel
theorem d_WP_fact_28 : decode b_WP_fact 28 = .ok (.bipush (-2), 2) := by decide +kernel
theorem d_WP_fact_30 : decode b_WP_fact 30 = .ok (.ireturn, 1) := by decide +kernel
theorem d_WP_fact_31 : decode b_WP_fact 31 = .ok (.aload_n 0, 1) := by decide +kernel
theorem d_WP_fact_32 : decode b_WP_fact 32 = .ok (.getfield 12, 3) := by decide +kernel
theorem d_WP_fact_35 : decode b_WP_fact 35 = .ok (.invokevirtual 166, 3) := by decide +kernel
theorem d_WP_fact_38 : decode b_WP_fact 38 = .ok (.aload_n 0, 1) := by decide +kernel
theorem d_WP_fact_39 : decode b_WP_fact 39 = .ok (.invokevirtual 178, 3) := by decide +kernel
theorem d_WP_fact_42 : decode b_WP_fact 42 = .ok (.aload_n 0, 1) := by decide +kernel
theorem d_WP_fact_43 : decode b_WP_fact 43 = .ok (.getfield 61, 3) := by decide +kernel
theorem d_WP_fact_46 : decode b_WP_fact 46 = .ok (.aload_n 0, 1) := by decide +kernel
theorem d_WP_fact_47 : decode b_WP_fact 47 = .ok (.getfield 12, 3) := by decide +kernel
theorem d_WP_fact_50 : decode b_WP_fact 50 = .ok (.aload_n 0, 1) := by decide +kernel
theorem d_WP_fact_51 : decode b_WP_fact 51 = .ok (.getfield 47, 3) := by decide +kernel
theorem d_WP_fact_54 : decode b_WP_fact 54 = .ok (.getfield 228, 3) := by decide +kernel
theorem d_WP_fact_57 : decode b_WP_fact 57 = .ok (.aload_n 0, 1) := by decide +kernel
theorem d_WP_fact_58 : decode b_WP_fact 58 = .ok (.getfield 65, 3) := by decide +kernel
theorem d_WP_fact_61 : decode b_WP_fact 61 = .ok (.iconst (-1), 1) := by decide +kernel
theorem d_WP_fact_62 : decode b_WP_fact 62 = .ok (.iload_n 1, 1) := by decide +kernel
theorem d_WP_fact_63 : decode b_WP_fact 63 = .ok (.iload_n 2, 1) := by decide +kernel
theorem d_WP_fact_64 : decode b_WP_fact 64 = .ok (.invokevirtual 238, 3) := by decide +kernel
theorem d_WP_fact_67 : decode b_WP_fact 67 = .ok (.ifCond .eq 7, 3) := by decide +kernel
theorem d_WP_fact_70 : decode b_WP_fact 70 = .ok (.iconst 0, 1) := by decide +kernel
theorem d_WP_fact_71 : decode b_WP_fact 71 = .ok (.goto 4, 3) := by decide +kernel
theorem d_WP_fact_74 : decode b_WP_fact 74 = .ok (.iconst 1, 1) := by decide +kernel
theorem d_WP_fact_75 : decode b_WP_fact 75 = .ok (.ireturn, 1) := by decide +kernel
theorem d_WP_values_0 : decode b_WP_values 0 = .ok (.aload_n 0, 1) := by decide +kernel
theorem d_WP_values_1 : decode b_WP_values 1 = .ok (.getfield 12, 3) := by decide +kernel
theorem d_WP_values_4 : decode b_WP_values 4 = .ok (.iload_n 1, 1) := by decide +kernel
theorem d_WP_values_5 : decode b_WP_values 5 = .ok (.invokevirtual 241, 3) := by decide +kernel
theorem d_WP_values_8 : decode b_WP_values 8 = .ok (.ifCond .ne 6, 3) := by decide +kernel
theorem d_WP_values_11 : decode b_WP_values 11 = .ok (.bipush (-2), 2) := by decide +kernel
theorem d_WP_values_13 : decode b_WP_values 13 = .ok (.ireturn, 1) := by decide +kernel
theorem d_WP_values_14 : decode b_WP_values 14 = .ok (.aload_n 0, 1) := by decide +kernel
theorem d_WP_values_15 : decode b_WP_values 15 = .ok (.getfield 12, 3) := by decide +kernel
theorem d_WP_values_18 : decode b_WP_values 18 = .ok (.invokevirtual 166, 3) := by decide +kernel
theorem d_WP_values_21 : decode b_WP_values 21 = .ok (.aload_n 0, 1) := by decide +kernel
theorem d_WP_values_22 : decode b_WP_values 22 = .ok (.invokevirtual 172, 3) := by decide +kernel
theorem d_WP_values_25 : decode b_WP_values 25 = .ok (.iconst 0, 1) := by decide +kernel
theorem d_WP_values_26 : decode b_WP_values 26 = .ok (.istore_n 2, 1) := by decide +kernel
theorem d_WP_values_27 : decode b_WP_values 27 = .ok (.iconst 0, 1) := by decide +kernel
theorem d_WP_values_28 : decode b_WP_values 28 = .ok (.istore_n 3, 1) := by decide +kernel
theorem d_WP_values_29 : decode b_WP_values 29 = .ok (.iload_n 3, 1) := by decide +kernel
theorem d_WP_values_30 : decode b_WP_values 30 = .ok (.aload_n 0, 1) := by decide +kernel
theorem d_WP_values_31 : decode b_WP_values 31 = .ok (.getfield 12, 3) := by decide +kernel
theorem d_WP_values_34 : decode b_WP_values 34 = .ok (.getfield 169, 3) := by decide +kernel
theorem d_WP_values_37 : decode b_WP_values 37 = .ok (.if_icmp .ge 40, 3) := by decide +kernel
theorem d_WP_values_40 : decode b_WP_values 40 = .ok (.aload_n 0, 1) := by decide +kernel
theorem d_WP_values_41 : decode b_WP_values 41 = .ok (.getfield 40, 3) := by decide +kernel
theorem d_WP_values_44 : decode b_WP_values 44 = .ok (.getfield 201, 3) := by decide +kernel
theorem d_WP_values_47 : decode b_WP_values 47 = .ok (.iload_n 3, 1) := by decide +kernel
theorem d_WP_values_48 : decode b_WP_values 48 = .ok (.iaload, 1) := by decide +kernel
theorem d_WP_values_49 : decode b_WP_values 49 = .ok (.iconst (-1), 1) := by decide +kernel
theorem d_WP_values_50 : decode b_WP_values 50 = .ok (.if_icmp .eq 21, 3) := by decide +kernel
theorem d_WP_values_53 : decode b_WP_values 53 = .ok (.iload_n 2, 1) := by decide +kernel
theorem d_WP_values_54 : decode b_WP_values 54 = .ok (.iconst 1, 1) := by decide +kernel
theorem d_WP_values_55 : decode b_WP_values 55 = .ok (.aload_n 0, 1) := by decide +kernel
theorem d_WP_values_56 : decode b_WP_values 56 = .ok (.getfield 12, 3) := by decide +kernel
theorem d_WP_values_59 : decode b_WP_values 59 = .ok (.getfield 247, 3) := by decide +kernel
theorem d_WP_values_62 : decode b_WP_values 62 = .ok (.iload_n 3, 1) := by decide +kernel
theorem d_WP_values_63 : decode b_WP_values 63 = .ok (.iaload, 1) := by decide +kernel
theorem d_WP_values_64 : decode b_WP_values 64 = .ok (.iload_n 1, 1) := by decide +kernel
theorem d_WP_values_65 : decode b_WP_values 65 = .ok (.invokestatic 250, 3) := by decide +kernel
theorem d_WP_values_68 : decode b_WP_values 68 = .ok (.ishl, 1) := by decide +kernel
theorem d_WP_values_69 : decode b_WP_values 69 = .ok (.ior, 1) := by decide +kernel
theorem d_WP_values_70 : decode b_WP_values 70 = .ok (.istore_n 2, 1) := by decide +kernel
theorem d_WP_values_71 : decode b_WP_values 71 = .ok (.iinc 3 1, 3) := by decide +kernel
theorem d_WP_values_74 : decode b_WP_values 74 = .ok (.goto (-45), 3) := by decide +kernel
theorem d_WP_values_77 : decode b_WP_values 77 = .ok (.iload_n 2, 1) := by decide +kernel
theorem d_WP_values_78 : decode b_WP_values 78 = .ok (.ireturn, 1) := by decide +kernel
theorem d_WP_cover_0 : decode b_WP_cover 0 = .ok (.aload_n 0, 1) := by decide +kernel
theorem d_WP_cover_1 : decode b_WP_cover 1 = .ok (.getfield 26, 3) := by decide +kernel
theorem d_WP_cover_4 : decode b_WP_cover 4 = .ok (.invokevirtual 254, 3) := by decide +kernel
theorem d_WP_cover_7 : decode b_WP_cover 7 = .ok (.istore_n 1, 1) := by decide +kernel
theorem d_WP_cover_8 : decode b_WP_cover 8 = .ok (.iload_n 1, 1) := by decide +kernel
theorem d_WP_cover_9 : decode b_WP_cover 9 = .ok (.bipush (-3), 2) := by decide +kernel
theorem d_WP_cover_11 : decode b_WP_cover 11 = .ok (.if_icmp .eq 10, 3) := by decide +kernel
theorem d_WP_cover_14 : decode b_WP_cover 14 = .ok (.aload_n 0, 1) := by decide +kernel
theorem d_WP_cover_15 : decode b_WP_cover 15 = .ok (.getfield 33, 3) := by decide +kernel
theorem d_WP_cover_18 : decode b_WP_cover 18 = .ok (.invokevirtual 257, 3) := by decide +kernel
theorem d_WP_cover_21 : decode b_WP_cover 21 = .ok (.iload_n 1, 1) := by decide +kernel
theorem d_WP_cover_22 : decode b_WP_cover 22 = .ok (.ireturn, 1) := by decide +kernel
theorem d_WP_part_0 : decode b_WP_part 0 = .ok (.iload_n 1, 1) := by decide +kernel
theorem d_WP_part_1 : decode b_WP_part 1 = .ok (.ifCond .lt 28, 3) := by decide +kernel
theorem d_WP_part_4 : decode b_WP_part 4 = .ok (.iload_n 1, 1) := by decide +kernel
theorem d_WP_part_5 : decode b_WP_part 5 = .ok (.aload_n 0, 1) := by decide +kernel
theorem d_WP_part_6 : decode b_WP_part 6 = .ok (.getfield 26, 3) := by decide +kernel
theorem d_WP_part_9 : decode b_WP_part 9 = .ok (.getfield 85, 3) := by decide +kernel
theorem d_WP_part_12 : decode b_WP_part 12 = .ok (.if_icmp .ge 17, 3) := by decide +kernel
theorem d_WP_part_15 : decode b_WP_part 15 = .ok (.aload_n 0, 1) := by decide +kernel
theorem d_WP_part_16 : decode b_WP_part 16 = .ok (.getfield 12, 3) := by decide +kernel
theorem d_WP_part_19 : decode b_WP_part 19 = .ok (.iload_n 2, 1) := by decide +kernel
theorem d_WP_part_20 : decode b_WP_part 20 = .ok (.iload_n 3, 1) := by decide +kernel
theorem d_WP_part_21 : decode b_WP_part 21 = .ok (.iload 4, 2) := by decide +kernel
theorem d_WP_part_23 : decode b_WP_part 23 = .ok (.invokevirtual 123, 3) := by decide +kernel
theorem d_WP_part_26 : decode b_WP_part 26 = .ok (.ifCond .ne 6, 3) := by decide +kernel
theorem d_WP_part_29 : decode b_WP_part 29 = .ok (.bipush (-2), 2) := by decide +kernel
theorem d_WP_part_31 : decode b_WP_part 31 = .ok (.ireturn, 1) := by decide +kernel
theorem d_WP_part_32 : decode b_WP_part 32 = .ok (.aload_n 0, 1) := by decide +kernel
theorem d_WP_part_33 : decode b_WP_part 33 = .ok (.getfield 26, 3) := by decide +kernel
theorem d_WP_part_36 : decode b_WP_part 36 = .ok (.getfield 260, 3) := by decide +kernel
theorem d_WP_part_39 : decode b_WP_part 39 = .ok (.iload_n 1, 1) := by decide +kernel
theorem d_WP_part_40 : decode b_WP_part 40 = .ok (.aaload, 1) := by decide +kernel
theorem d_WP_part_41 : decode b_WP_part 41 = .ok (.iload_n 2, 1) := by decide +kernel
theorem d_WP_part_42 : decode b_WP_part 42 = .ok (.iload_n 3, 1) := by decide +kernel
theorem d_WP_part_43 : decode b_WP_part 43 = .ok (.iload 4, 2) := by decide +kernel
theorem d_WP_part_45 : decode b_WP_part 45 = .ok (.invokevirtual 130, 3) := by decide +kernel
theorem d_WP_part_48 : decode b_WP_part 48 = .ok (.istore 5, 2) := by decide +kernel
theorem d_WP_part_50 : decode b_WP_part 50 = .ok (.iload 5, 2) := by decide +kernel
theorem d_WP_part_52 : decode b_WP_part 52 = .ok (.bipush (-3), 2) := by decide +kernel
theorem d_WP_part_54 : decode b_WP_part 54 = .ok (.if_icmp .eq 10, 3) := by decide +kernel
theorem d_WP_part_57 : decode b_WP_part 57 = .ok (.aload_n 0, 1) := by decide +kernel
theorem d_WP_part_58 : decode b_WP_part 58 = .ok (.getfield 33, 3) := by decide +kernel
theorem d_WP_part_61 : decode b_WP_part 61 = .ok (.invokevirtual 257, 3) := by decide +kernel
theorem d_WP_part_64 : decode b_WP_part 64 = .ok (.iload 5, 2) := by decide +kernel
theorem d_WP_part_66 : decode b_WP_part 66 = .ok (.ireturn, 1) := by decide +kernel
theorem d_WP_bare_0 : decode b_WP_bare 0 = .ok (.aload_n 0, 1) := by decide +kernel
theorem d_WP_bare_1 : decode b_WP_bare 1 = .ok (.getfield 26, 3) := by decide +kernel
theorem d_WP_bare_4 : decode b_WP_bare 4 = .ok (.getfield 85, 3) := by decide +kernel
theorem d_WP_bare_7 : decode b_WP_bare 7 = .ok (.istore_n 1, 1) := by decide +kernel
theorem d_WP_bare_8 : decode b_WP_bare 8 = .ok (.aload_n 0, 1) := by decide +kernel
theorem d_WP_bare_9 : decode b_WP_bare 9 = .ok (.getfield 26, 3) := by decide +kernel
theorem d_WP_bare_12 : decode b_WP_bare 12 = .ok (.iconst 0, 1) := by decide +kernel
theorem d_WP_bare_13 : decode b_WP_bare 13 = .ok (.putfield 85, 3) := by decide +kernel
theorem d_WP_bare_16 : decode b_WP_bare 16 = .ok (.iload_n 1, 1) := by decide +kernel
theorem d_WP_bare_17 : decode b_WP_bare 17 = .ok (.ifCond .le 10, 3) := by decide +kernel
theorem d_WP_bare_20 : decode b_WP_bare 20 = .ok (.aload_n 0, 1) := by decide +kernel
theorem d_WP_bare_21 : decode b_WP_bare 21 = .ok (.getfield 33, 3) := by decide +kernel
theorem d_WP_bare_24 : decode b_WP_bare 24 = .ok (.invokevirtual 257, 3) := by decide +kernel
theorem d_WP_bare_27 : decode b_WP_bare 27 = .ok (.iload_n 1, 1) := by decide +kernel
theorem d_WP_bare_28 : decode b_WP_bare 28 = .ok (.ireturn, 1) := by decide +kernel
theorem d_WP_flaw_0 : decode b_WP_flaw 0 = .ok (.iload_n 1, 1) := by decide +kernel
theorem d_WP_flaw_1 : decode b_WP_flaw 1 = .ok (.ifCond .lt 8, 3) := by decide +kernel
theorem d_WP_flaw_4 : decode b_WP_flaw 4 = .ok (.iload_n 1, 1) := by decide +kernel
theorem d_WP_flaw_5 : decode b_WP_flaw 5 = .ok (.iconst 3, 1) := by decide +kernel
theorem d_WP_flaw_6 : decode b_WP_flaw 6 = .ok (.if_icmp .le 6, 3) := by decide +kernel
theorem d_WP_flaw_9 : decode b_WP_flaw 9 = .ok (.bipush (-2), 2) := by decide +kernel
theorem d_WP_flaw_11 : decode b_WP_flaw 11 = .ok (.ireturn, 1) := by decide +kernel
theorem d_WP_flaw_12 : decode b_WP_flaw 12 = .ok (.aload_n 0, 1) := by decide +kernel
theorem d_WP_flaw_13 : decode b_WP_flaw 13 = .ok (.getfield 12, 3) := by decide +kernel
theorem d_WP_flaw_16 : decode b_WP_flaw 16 = .ok (.invokevirtual 166, 3) := by decide +kernel
theorem d_WP_flaw_19 : decode b_WP_flaw 19 = .ok (.aload_n 0, 1) := by decide +kernel
theorem d_WP_flaw_20 : decode b_WP_flaw 20 = .ok (.invokevirtual 178, 3) := by decide +kernel
theorem d_WP_flaw_23 : decode b_WP_flaw 23 = .ok (.aload_n 0, 1) := by decide +kernel
theorem d_WP_flaw_24 : decode b_WP_flaw 24 = .ok (.getfield 26, 3) := by decide +kernel
theorem d_WP_flaw_27 : decode b_WP_flaw 27 = .ok (.getfield 264, 3) := by decide +kernel
theorem d_WP_flaw_30 : decode b_WP_flaw 30 = .ok (.aload_n 0, 1) := by decide +kernel
theorem d_WP_flaw_31 : decode b_WP_flaw 31 = .ok (.getfield 33, 3) := by decide +kernel
theorem d_WP_flaw_34 : decode b_WP_flaw 34 = .ok (.getfield 235, 3) := by decide +kernel
theorem d_WP_flaw_37 : decode b_WP_flaw 37 = .ok (.lcmp, 1) := by decide +kernel
theorem d_WP_flaw_38 : decode b_WP_flaw 38 = .ok (.ifCond .ge 39, 3) := by decide +kernel
theorem d_WP_flaw_41 : decode b_WP_flaw 41 = .ok (.aload_n 0, 1) := by decide +kernel
theorem d_WP_flaw_42 : decode b_WP_flaw 42 = .ok (.getfield 26, 3) := by decide +kernel
theorem d_WP_flaw_45 : decode b_WP_flaw 45 = .ok (.aload_n 0, 1) := by decide +kernel
theorem d_WP_flaw_46 : decode b_WP_flaw 46 = .ok (.getfield 12, 3) := by decide +kernel
theorem d_WP_flaw_49 : decode b_WP_flaw 49 = .ok (.aload_n 0, 1) := by decide +kernel
theorem d_WP_flaw_50 : decode b_WP_flaw 50 = .ok (.getfield 47, 3) := by decide +kernel
theorem d_WP_flaw_53 : decode b_WP_flaw 53 = .ok (.getfield 228, 3) := by decide +kernel
theorem d_WP_flaw_56 : decode b_WP_flaw 56 = .ok (.aload_n 0, 1) := by decide +kernel
theorem d_WP_flaw_57 : decode b_WP_flaw 57 = .ok (.getfield 65, 3) := by decide +kernel
theorem d_WP_flaw_60 : decode b_WP_flaw 60 = .ok (.invokevirtual 267, 3) := by decide +kernel
theorem d_WP_flaw_63 : decode b_WP_flaw 63 = .ok (.aload_n 0, 1) := by decide +kernel
theorem d_WP_flaw_64 : decode b_WP_flaw 64 = .ok (.getfield 26, 3) := by decide +kernel
theorem d_WP_flaw_67 : decode b_WP_flaw 67 = .ok (.aload_n 0, 1) := by decide +kernel
theorem d_WP_flaw_68 : decode b_WP_flaw 68 = .ok (.getfield 33, 3) := by decide +kernel
theorem d_WP_flaw_71 : decode b_WP_flaw 71 = .ok (.getfield 235, 3) := by decide +kernel
theorem d_WP_flaw_74 : decode b_WP_flaw 74 = .ok (.putfield 264, 3) := by decide +kernel
theorem d_WP_flaw_77 : decode b_WP_flaw 77 = .ok (.iload_n 1, 1) := by decide +kernel
theorem d_WP_flaw_78 : decode b_WP_flaw 78 = .ok (.tableswitch 50 0 2 #[26, 34, 42], 26) := by decide +kernel
theorem d_WP_flaw_104 : decode b_WP_flaw 104 = .ok (.aload_n 0, 1) := by decide +kernel
theorem d_WP_flaw_105 : decode b_WP_flaw 105 = .ok (.getfield 26, 3) := by decide +kernel
theorem d_WP_flaw_108 : decode b_WP_flaw 108 = .ok (.getfield 271, 3) := by decide +kernel
theorem d_WP_flaw_111 : decode b_WP_flaw 111 = .ok (.ireturn, 1) := by decide +kernel
theorem d_WP_flaw_112 : decode b_WP_flaw 112 = .ok (.aload_n 0, 1) := by decide +kernel
theorem d_WP_flaw_113 : decode b_WP_flaw 113 = .ok (.getfield 26, 3) := by decide +kernel
theorem d_WP_flaw_116 : decode b_WP_flaw 116 = .ok (.getfield 274, 3) := by decide +kernel
theorem d_WP_flaw_119 : decode b_WP_flaw 119 = .ok (.ireturn, 1) := by decide +kernel
theorem d_WP_flaw_120 : decode b_WP_flaw 120 = .ok (.aload_n 0, 1) := by decide +kernel
theorem d_WP_flaw_121 : decode b_WP_flaw 121 = .ok (.getfield 26, 3) := by decide +kernel
theorem d_WP_flaw_124 : decode b_WP_flaw 124 = .ok (.getfield 277, 3) := by decide +kernel
theorem d_WP_flaw_127 : decode b_WP_flaw 127 = .ok (.ireturn, 1) := by decide +kernel
theorem d_WP_flaw_128 : decode b_WP_flaw 128 = .ok (.aload_n 0, 1) := by decide +kernel
theorem d_WP_flaw_129 : decode b_WP_flaw 129 = .ok (.getfield 26, 3) := by decide +kernel
theorem d_WP_flaw_132 : decode b_WP_flaw 132 = .ok (.getfield 280, 3) := by decide +kernel
theorem d_WP_flaw_135 : decode b_WP_flaw 135 = .ok (.ireturn, 1) := by decide +kernel
set_option maxRecDepth 100000 in
set_option maxHeartbeats 4000000 in
theorem S_WP_init_0 {G : Gc} {M : Mc} {Q : State → Prop} {K : Option Value → Hp → Prop} (hG : gok G) (hM : mok G M r_WP_init Q K) (v0 : Nat) (h : Hp) (F : kX h + 1 ≤ gB G + capC ∧ kS h + 10 ≤ capS ∧ (∀ h1 : Hp, h1 = wA h 2 0 10 → (sem G r_Wo_init [.ref (kX h)] h1 (fun u3 h2 => u3 = none ∧ (kT h2 v0 = 1 ∧ (∀ h4 : Hp, h4 = wR h2 v0 0 (some (kX h)) → (kX h4 + 1 ≤ gB G + capC ∧ kS h4 + 4 ≤ capS ∧ (∀ h5 : Hp, h5 = wA h4 5 0 4 → (sem G r_Cl_init [.ref (kX h4)] h5 (fun u7 h6 => u7 = none ∧ (kT h6 v0 = 1 ∧ (∀ h8 : Hp, h8 = wR h6 v0 1 (some (kX h4)) → (kX h8 + 1 ≤ gB G + capC ∧ kS h8 + 8 ≤ capS ∧ (∀ h9 : Hp, h9 = wA h8 6 0 8 → (sem G r_Co_init [.ref (kX h8)] h9 (fun u11 h10 => u11 = none ∧ (kT h10 v0 = 1 ∧ (∀ h12 : Hp, h12 = wR h10 v0 2 (some (kX h8)) → (kX h12 + 1 ≤ gB G + capC ∧ kS h12 + 4 ≤ capS ∧ (∀ h13 : Hp, h13 = wA h12 7 0 4 → (sem G r_Ch_init [.ref (kX h12)] h13 (fun u15 h14 => u15 = none ∧ (kT h14 v0 = 1 ∧ (∀ h16 : Hp, h16 = wR h14 v0 3 (some (kX h12)) → (kX h16 + 1 ≤ gB G + capC ∧ kS h16 + 5 ≤ capS ∧ (∀ h17 : Hp, h17 = wA h16 8 0 5 → (sem G r_Re_init [.ref (kX h16)] h17 (fun u19 h18 => u19 = none ∧ (kT h18 v0 = 1 ∧ (∀ h20 : Hp, h20 = wR h18 v0 4 (some (kX h16)) → (kX h20 + 1 ≤ gB G + capC ∧ kS h20 + 9 ≤ capS ∧ (∀ h21 : Hp, h21 = wA h20 9 0 9 → (sem G r_Wi_init [.ref (kX h20)] h21 (fun u23 h22 => u23 = none ∧ (kT h22 v0 = 1 ∧ (∀ h24 : Hp, h24 = wR h22 v0 5 (some (kX h20)) → (kX h24 + 1 ≤ gB G + capC ∧ kS h24 + 18 ≤ capS ∧ (∀ h25 : Hp, h25 = wA h24 10 0 18 → (sem G r_Ki_init [.ref (kX h24)] h25 (fun u27 h26 => u27 = none ∧ (kT h26 v0 = 1 ∧ (∀ h28 : Hp, h28 = wR h26 v0 6 (some (kX h24)) → (kX h28 + 1 ≤ gB G + capC ∧ kS h28 + 5 ≤ capS ∧ (∀ h29 : Hp, h29 = wA h28 11 0 5 → (sem G r_Se_init [.ref (kX h28)] h29 (fun u31 h30 => u31 = none ∧ (kT h30 v0 = 1 ∧ (∀ h32 : Hp, h32 = wR h30 v0 7 (some (kX h28)) → (kT h32 v0 = 1 ∧ (∀ h33 : Hp, h33 = wI h32 v0 8 0 → (kT h33 v0 = 1 ∧ (∀ h34 : Hp, h34 = wI h33 v0 9 0 → (kT h34 v0 = 1 ∧ (∀ h35 : Hp, h35 = wL h34 v0 10 0 → K none h35)))))))))))))))))))))))))))))))))))))))))))))))))))))) : X G M Q 0 [(0, .ref v0)] [] h := by
  refine x_aload_n hM d_WP_init_0 rfl 0 rfl ?_
  refine x_objInit hG hM rfl w_21 w_22 w_objcode d_WP_init_1 (Nat.le_of_ble_eq_true rfl) (Nat.le_of_ble_eq_true rfl) (Nat.le_of_ble_eq_true rfl) ?_
  refine x_aload_n hM d_WP_init_4 rfl 0 rfl ?_
  obtain ⟨c61, F⟩ := F
  obtain ⟨c62, F⟩ := F
  replace F := F _ rfl
  refine x_new hG hM ck_Wo rfl w_24 w_25 w_2 dv_Wo d_WP_init_5 c61 c62 ?_
  refine x_dup hM d_WP_init_8 rfl ?_
  refine x_callI hG hM (r' := r_Wo_init) [] rfl yk_Wo_init rfl rfl ⟨Nat.le_of_ble_eq_true rfl, Nat.le_of_ble_eq_true rfl⟩ w_26 w_27 rfl rfl (Nat.le_of_ble_eq_true rfl) d_WP_init_9 (sem_mono F ?_)
  intro u3 h2 F
  obtain ⟨rfl, F⟩ := F
  obtain ⟨c60, F⟩ := F
  replace F := F _ rfl
  refine x_putr hG hM ck_WP 0 (Nat.le_of_ble_eq_true rfl) (Or.inl ⟨_, rfl⟩) rfl w_402 rfl d_WP_init_12 (Or.inr ⟨rfl, rfl, rfl⟩) c60 ?_
  refine x_aload_n hM d_WP_init_15 rfl 0 rfl ?_
  obtain ⟨c58, F⟩ := F
  obtain ⟨c59, F⟩ := F
  replace F := F _ rfl
  refine x_new hG hM ck_Cl rfl w_183 w_38 w_4 dv_Cl d_WP_init_16 c58 c59 ?_
  refine x_dup hM d_WP_init_19 rfl ?_
  refine x_callIN hG hM (r' := r_Cl_init) [] rfl yk_Cl_init rfl rfl ⟨Nat.le_of_ble_eq_true rfl, Nat.le_of_ble_eq_true rfl⟩ w_184 w_40 rfl rfl (Nat.le_of_ble_eq_true rfl) d_WP_init_20 (sem_mono F ?_)
  intro u7 h6 F
  obtain ⟨rfl, F⟩ := F
  obtain ⟨c57, F⟩ := F
  replace F := F _ rfl
  refine x_putr hG hM ck_WP 1 (Nat.le_of_ble_eq_true rfl) (Or.inl ⟨_, rfl⟩) rfl w_403 rfl d_WP_init_23 (Or.inr ⟨rfl, rfl, rfl⟩) c57 ?_
  refine x_aload_n hM d_WP_init_26 rfl 0 rfl ?_
  obtain ⟨c55, F⟩ := F
  obtain ⟨c56, F⟩ := F
  replace F := F _ rfl
  refine x_new hG hM ck_Co rfl w_185 w_186 w_6 dv_Co d_WP_init_27 c55 c56 ?_
  refine x_dup hM d_WP_init_30 rfl ?_
  refine x_callI hG hM (r' := r_Co_init) [] rfl yk_Co_init rfl rfl ⟨Nat.le_of_ble_eq_true rfl, Nat.le_of_ble_eq_true rfl⟩ w_187 w_188 rfl rfl (Nat.le_of_ble_eq_true rfl) d_WP_init_31 (sem_mono F ?_)
  intro u11 h10 F
  obtain ⟨rfl, F⟩ := F
  obtain ⟨c54, F⟩ := F
  replace F := F _ rfl
  refine x_putr hG hM ck_WP 2 (Nat.le_of_ble_eq_true rfl) (Or.inl ⟨_, rfl⟩) rfl w_404 rfl d_WP_init_34 (Or.inr ⟨rfl, rfl, rfl⟩) c54 ?_
  refine x_aload_n hM d_WP_init_37 rfl 0 rfl ?_
  obtain ⟨c52, F⟩ := F
  obtain ⟨c53, F⟩ := F
  replace F := F _ rfl
  refine x_new hG hM ck_Ch rfl w_227 w_228 w_7 dv_Ch d_WP_init_38 c52 c53 ?_
  refine x_dup hM d_WP_init_41 rfl ?_
  refine x_callIN hG hM (r' := r_Ch_init) [] rfl yk_Ch_init rfl rfl ⟨Nat.le_of_ble_eq_true rfl, Nat.le_of_ble_eq_true rfl⟩ w_229 w_230 rfl rfl (Nat.le_of_ble_eq_true rfl) d_WP_init_42 (sem_mono F ?_)
  intro u15 h14 F
  obtain ⟨rfl, F⟩ := F
  obtain ⟨c51, F⟩ := F
  replace F := F _ rfl
  refine x_putr hG hM ck_WP 3 (Nat.le_of_ble_eq_true rfl) (Or.inl ⟨_, rfl⟩) rfl w_405 rfl d_WP_init_45 (Or.inr ⟨rfl, rfl, rfl⟩) c51 ?_
  refine x_aload_n hM d_WP_init_48 rfl 0 rfl ?_
  obtain ⟨c49, F⟩ := F
  obtain ⟨c50, F⟩ := F
  replace F := F _ rfl
  refine x_new hG hM ck_Re rfl w_250 w_251 w_8 dv_Re d_WP_init_49 c49 c50 ?_
  refine x_dup hM d_WP_init_52 rfl ?_
  refine x_callIN hG hM (r' := r_Re_init) [] rfl yk_Re_init rfl rfl ⟨Nat.le_of_ble_eq_true rfl, Nat.le_of_ble_eq_true rfl⟩ w_252 w_253 rfl rfl (Nat.le_of_ble_eq_true rfl) d_WP_init_53 (sem_mono F ?_)
  intro u19 h18 F
  obtain ⟨rfl, F⟩ := F
  obtain ⟨c48, F⟩ := F
  replace F := F _ rfl
  refine x_putr hG hM ck_WP 4 (Nat.le_of_ble_eq_true rfl) (Or.inl ⟨_, rfl⟩) rfl w_406 rfl d_WP_init_56 (Or.inr ⟨rfl, rfl, rfl⟩) c48 ?_
  refine x_aload_n hM d_WP_init_59 rfl 0 rfl ?_
  obtain ⟨c46, F⟩ := F
  obtain ⟨c47, F⟩ := F
  replace F := F _ rfl
  refine x_new hG hM ck_Wi rfl w_277 w_278 w_9 dv_Wi d_WP_init_60 c46 c47 ?_
  refine x_dup hM d_WP_init_63 rfl ?_
  refine x_callIN hG hM (r' := r_Wi_init) [] rfl yk_Wi_init rfl rfl ⟨Nat.le_of_ble_eq_true rfl, Nat.le_of_ble_eq_true rfl⟩ w_279 w_280 rfl rfl (Nat.le_of_ble_eq_true rfl) d_WP_init_64 (sem_mono F ?_)
  intro u23 h22 F
  obtain ⟨rfl, F⟩ := F
  obtain ⟨c45, F⟩ := F
  replace F := F _ rfl
  refine x_putr hG hM ck_WP 5 (Nat.le_of_ble_eq_true rfl) (Or.inl ⟨_, rfl⟩) rfl w_407 rfl d_WP_init_67 (Or.inr ⟨rfl, rfl, rfl⟩) c45 ?_
  refine x_aload_n hM d_WP_init_70 rfl 0 rfl ?_
  obtain ⟨c43, F⟩ := F
  obtain ⟨c44, F⟩ := F
  replace F := F _ rfl
  refine x_new hG hM ck_Ki rfl w_315 w_316 w_10 dv_Ki d_WP_init_71 c43 c44 ?_
  refine x_dup hM d_WP_init_74 rfl ?_
  refine x_callIN hG hM (r' := r_Ki_init) [] rfl yk_Ki_init rfl rfl ⟨Nat.le_of_ble_eq_true rfl, Nat.le_of_ble_eq_true rfl⟩ w_317 w_318 rfl rfl (Nat.le_of_ble_eq_true rfl) d_WP_init_75 (sem_mono F ?_)
  intro u27 h26 F
  obtain ⟨rfl, F⟩ := F
  obtain ⟨c42, F⟩ := F
  replace F := F _ rfl
  refine x_putr hG hM ck_WP 6 (Nat.le_of_ble_eq_true rfl) (Or.inl ⟨_, rfl⟩) rfl w_408 rfl d_WP_init_78 (Or.inr ⟨rfl, rfl, rfl⟩) c42 ?_
  refine x_aload_n hM d_WP_init_81 rfl 0 rfl ?_
  obtain ⟨c40, F⟩ := F
  obtain ⟨c41, F⟩ := F
  replace F := F _ rfl
  refine x_new hG hM ck_Se rfl w_380 w_381 w_11 dv_Se d_WP_init_82 c40 c41 ?_
  refine x_dup hM d_WP_init_85 rfl ?_
  refine x_callIN hG hM (r' := r_Se_init) [] rfl yk_Se_init rfl rfl ⟨Nat.le_of_ble_eq_true rfl, Nat.le_of_ble_eq_true rfl⟩ w_382 w_383 rfl rfl (Nat.le_of_ble_eq_true rfl) d_WP_init_86 (sem_mono F ?_)
  intro u31 h30 F
  obtain ⟨rfl, F⟩ := F
  obtain ⟨c39, F⟩ := F
  replace F := F _ rfl
  refine x_putr hG hM ck_WP 7 (Nat.le_of_ble_eq_true rfl) (Or.inl ⟨_, rfl⟩) rfl w_409 rfl d_WP_init_89 (Or.inr ⟨rfl, rfl, rfl⟩) c39 ?_
  refine x_aload_n hM d_WP_init_92 rfl 0 rfl ?_
  refine x_iconst (v := 0) hM d_WP_init_93 (by decide) ?_
  obtain ⟨c38, F⟩ := F
  replace F := F _ rfl
  refine x_puti hG hM ck_WP 8 (Nat.le_of_ble_eq_true rfl) rfl rfl w_410 rfl d_WP_init_94 (Or.inl rfl) c38 ?_
  refine x_aload_n hM d_WP_init_97 rfl 0 rfl ?_
  refine x_iconst (v := 0) hM d_WP_init_98 (by decide) ?_
  obtain ⟨c37, F⟩ := F
  replace F := F _ rfl
  refine x_puti hG hM ck_WP 9 (Nat.le_of_ble_eq_true rfl) rfl rfl w_411 rfl d_WP_init_99 (Or.inl rfl) c37 ?_
  refine x_aload_n hM d_WP_init_102 rfl 0 rfl ?_
  refine x_lconst (v := 0) hM d_WP_init_103 (by decide) ?_
  obtain ⟨c36, F⟩ := F
  replace F := F _ rfl
  refine x_putl hG hM ck_WP 10 (Nat.le_of_ble_eq_true rfl) rfl rfl w_412 rfl d_WP_init_104 (Or.inl rfl) c36 ?_
  exact x_return hM d_WP_init_107 rfl F
set_option maxRecDepth 100000 in
set_option maxHeartbeats 4000000 in
theorem S_WP_clear_0 {G : Gc} {M : Mc} {Q : State → Prop} {K : Option Value → Hp → Prop} (hG : gok G) (hM : mok G M r_WP_clear Q K) (v0 : Nat) (h : Hp) (F : kT h v0 = 1 ∧ kR h v0 0 = some (rf h v0 0) ∧ (kT h (rf h v0 0) = 2 ∧ (kT h v0 = 1 ∧ kR h v0 0 = some (rf h v0 0) ∧ (kT h (rf h v0 0) = 2 ∧ sem G r_Wo_forget [.ref (rf h v0 0)] h (fun u2 h1 => u2 = none ∧ (kT h1 v0 = 1 ∧ kR h1 v0 1 = some (rf h1 v0 1) ∧ (kT h1 (rf h1 v0 1) = 5 ∧ (∀ h3 : Hp, h3 = wI h1 (rf h1 v0 1) 0 0 → (kT h3 v0 = 1 ∧ kR h3 v0 2 = some (rf h3 v0 2) ∧ (kT h3 (rf h3 v0 2) = 6 ∧ (∀ h4 : Hp, h4 = wI h3 (rf h3 v0 2) 0 0 → (kT h4 v0 = 1 ∧ (∀ h5 : Hp, h5 = wI h4 v0 8 0 → (kT h5 v0 = 1 ∧ kR h5 v0 3 = some (rf h5 v0 3) ∧ (kT h5 (rf h5 v0 3) = 7 ∧ sem G r_Ch_inWorld [.ref (rf h5 v0 3)] h5 (fun u7 h6 => u7 = none ∧ K (some (.int (kI h (rf h v0 0) 0))) h6)))))))))))))))) : X G M Q 0 [(0, .ref v0)] [] h := by
  refine x_aload_n hM d_WP_clear_0 rfl 0 rfl ?_
  obtain ⟨c22, F⟩ := F
  obtain ⟨c23, F⟩ := F
  refine x_getr hG hM ck_WP 0 (Nat.le_of_ble_eq_true rfl) rfl rfl w_402 rfl d_WP_clear_1 c22 c23 ?_
  obtain ⟨c21, F⟩ := F
  refine x_geti hG hM ck_Wo 0 (Nat.le_of_ble_eq_true rfl) rfl rfl w_124 rfl d_WP_clear_4 c21 ?_
  refine x_istore_n (lv2 := [(1, .int (kI h (rf h v0 0) 0)), (0, .ref v0)]) hM d_WP_clear_7 rfl (Nat.le_of_ble_eq_true rfl) rfl ?_
  refine x_aload_n hM d_WP_clear_8 rfl 1 rfl ?_
  obtain ⟨c19, F⟩ := F
  obtain ⟨c20, F⟩ := F
  refine x_getr hG hM ck_WP 0 (Nat.le_of_ble_eq_true rfl) rfl rfl w_402 rfl d_WP_clear_9 c19 c20 ?_
  obtain ⟨c18, F⟩ := F
  refine x_callV hG hM (r' := r_Wo_forget) (ci := 1) [] rfl rfl (Nat.le_of_ble_eq_true rfl) yk_Wo_forget ⟨Nat.le_of_ble_eq_true rfl, Nat.le_of_ble_eq_true rfl⟩ w_440 w_441 w_442 rfl rfl (Nat.le_of_ble_eq_true rfl) d_WP_clear_12 c18 (sem_mono F ?_)
  intro u2 h1 F
  obtain ⟨rfl, F⟩ := F
  refine x_aload_n hM d_WP_clear_15 rfl 1 rfl ?_
  obtain ⟨c16, F⟩ := F
  obtain ⟨c17, F⟩ := F
  refine x_getr hG hM ck_WP 1 (Nat.le_of_ble_eq_true rfl) rfl rfl w_403 rfl d_WP_clear_16 c16 c17 ?_
  refine x_iconst (v := 0) hM d_WP_clear_19 (by decide) ?_
  obtain ⟨c15, F⟩ := F
  replace F := F _ rfl
  refine x_puti hG hM ck_Cl 0 (Nat.le_of_ble_eq_true rfl) rfl rfl w_45 rfl d_WP_clear_20 (Or.inl rfl) c15 ?_
  refine x_aload_n hM d_WP_clear_23 rfl 1 rfl ?_
  obtain ⟨c13, F⟩ := F
  obtain ⟨c14, F⟩ := F
  refine x_getr hG hM ck_WP 2 (Nat.le_of_ble_eq_true rfl) rfl rfl w_404 rfl d_WP_clear_24 c13 c14 ?_
  refine x_iconst (v := 0) hM d_WP_clear_27 (by decide) ?_
  obtain ⟨c12, F⟩ := F
  replace F := F _ rfl
  refine x_puti hG hM ck_Co 0 (Nat.le_of_ble_eq_true rfl) rfl rfl w_195 rfl d_WP_clear_28 (Or.inl rfl) c12 ?_
  refine x_aload_n hM d_WP_clear_31 rfl 1 rfl ?_
  refine x_iconst (v := 0) hM d_WP_clear_32 (by decide) ?_
  obtain ⟨c11, F⟩ := F
  replace F := F _ rfl
  refine x_puti hG hM ck_WP 8 (Nat.le_of_ble_eq_true rfl) rfl rfl w_410 rfl d_WP_clear_33 (Or.inl rfl) c11 ?_
  refine x_aload_n hM d_WP_clear_36 rfl 1 rfl ?_
  obtain ⟨c9, F⟩ := F
  obtain ⟨c10, F⟩ := F
  refine x_getr hG hM ck_WP 3 (Nat.le_of_ble_eq_true rfl) rfl rfl w_405 rfl d_WP_clear_37 c9 c10 ?_
  obtain ⟨c8, F⟩ := F
  refine x_callV hG hM (r' := r_Ch_inWorld) (ci := 6) [] rfl rfl (Nat.le_of_ble_eq_true rfl) yk_Ch_inWorld ⟨Nat.le_of_ble_eq_true rfl, Nat.le_of_ble_eq_true rfl⟩ w_444 w_445 w_446 rfl rfl (Nat.le_of_ble_eq_true rfl) d_WP_clear_40 c8 (sem_mono F ?_)
  intro u7 h6 F
  obtain ⟨rfl, F⟩ := F
  refine x_iload_n hM d_WP_clear_43 rfl 0 rfl ?_
  exact x_ireturn hM d_WP_clear_44 rfl F
set_option maxRecDepth 100000 in
set_option maxHeartbeats 4000000 in
theorem S_WP_thing_0 {G : Gc} {M : Mc} {Q : State → Prop} {K : Option Value → Hp → Prop} (hG : gok G) (hM : mok G M r_WP_thing Q K) (v0 : Nat) (v1 : Int32) (h : Hp) (F : (v1 < 2 → K (some (.int (-2))) h) ∧ (¬ v1 < 2 → ((v1 ≤ 4 → (kT h v0 = 1 ∧ kR h v0 0 = some (rf h v0 0) ∧ (kT h (rf h v0 0) = 2 ∧ ((0 < (kI h (rf h v0 0) 2) → K (some (.int (-2))) h) ∧ (¬ 0 < (kI h (rf h v0 0) 2) → (kT h v0 = 1 ∧ kR h v0 1 = some (rf h v0 1) ∧ (kT h (rf h v0 1) = 5 ∧ ((0 < (kI h (rf h v0 1) 0) → K (some (.int (-2))) h) ∧ (¬ 0 < (kI h (rf h v0 1) 0) → (kT h v0 = 1 ∧ kR h v0 2 = some (rf h v0 2) ∧ (kT h (rf h v0 2) = 6 ∧ (((kI h (rf h v0 2) 0) ≤ 0 → (kT h v0 = 1 ∧ kR h v0 0 = some (rf h v0 0) ∧ (kT h (rf h v0 0) = 2 ∧ sem G r_Wo_addThing [.ref (rf h v0 0), .int v1] h (fun u2 h1 => ∃ x3 : Int32, u2 = some (.int x3) ∧ ((x3 = (-3) → K (some (.int x3)) h1) ∧ (¬ x3 = (-3) → (kT h1 v0 = 1 ∧ kR h1 v0 3 = some (rf h1 v0 3) ∧ (kT h1 (rf h1 v0 3) = 7 ∧ sem G r_Ch_inWorld [.ref (rf h1 v0 3)] h1 (fun u5 h4 => u5 = none ∧ K (some (.int x3)) h4))))))))) ∧ (¬ (kI h (rf h v0 2) 0) ≤ 0 → K (some (.int (-2))) h))))))))))))) ∧ (¬ v1 ≤ 4 → K (some (.int (-2))) h)))) : X G M Q 0 [(0, .ref v0), (1, .int v1)] [] h := by
  refine x_iload_n hM d_WP_thing_0 rfl 1 rfl ?_
  refine x_iconst (v := 2) hM d_WP_thing_1 (by decide) ?_
  refine x_icmp_lt (tgt := 10) hM d_WP_thing_2 (by decide) (fun q26 => ?_) (fun q26 => ?_)
  · replace F := F.1 q26
    refine x_bipush (v := (-2)) hM d_WP_thing_10 (by decide) ?_
    exact x_ireturn hM d_WP_thing_12 rfl F
  · replace F := F.2 q26
    refine x_iload_n hM d_WP_thing_5 rfl 1 rfl ?_
    refine x_iconst (v := 4) hM d_WP_thing_6 (by decide) ?_
    refine x_icmp_le (tgt := 13) hM d_WP_thing_7 (by decide) (fun q25 => ?_) (fun q25 => ?_)
    · replace F := F.1 q25
      refine x_aload_n hM d_WP_thing_13 rfl 0 rfl ?_
      obtain ⟨c23, F⟩ := F
      obtain ⟨c24, F⟩ := F
      refine x_getr hG hM ck_WP 0 (Nat.le_of_ble_eq_true rfl) rfl rfl w_402 rfl d_WP_thing_14 c23 c24 ?_
      obtain ⟨c22, F⟩ := F
      refine x_geti hG hM ck_Wo 2 (Nat.le_of_ble_eq_true rfl) rfl rfl w_136 rfl d_WP_thing_17 c22 ?_
      refine x_if_gt (tgt := 43) hM d_WP_thing_20 (by decide) (fun q21 => ?_) (fun q21 => ?_)
      · replace F := F.1 q21
        refine x_bipush (v := (-2)) hM d_WP_thing_43 (by decide) ?_
        exact x_ireturn hM d_WP_thing_45 rfl F
      · replace F := F.2 q21
        refine x_aload_n hM d_WP_thing_23 rfl 0 rfl ?_
        obtain ⟨c19, F⟩ := F
        obtain ⟨c20, F⟩ := F
        refine x_getr hG hM ck_WP 1 (Nat.le_of_ble_eq_true rfl) rfl rfl w_403 rfl d_WP_thing_24 c19 c20 ?_
        obtain ⟨c18, F⟩ := F
        refine x_geti hG hM ck_Cl 0 (Nat.le_of_ble_eq_true rfl) rfl rfl w_45 rfl d_WP_thing_27 c18 ?_
        refine x_if_gt (tgt := 43) hM d_WP_thing_30 (by decide) (fun q17 => ?_) (fun q17 => ?_)
        · replace F := F.1 q17
          refine x_bipush (v := (-2)) hM d_WP_thing_43 (by decide) ?_
          exact x_ireturn hM d_WP_thing_45 rfl F
        · replace F := F.2 q17
          refine x_aload_n hM d_WP_thing_33 rfl 0 rfl ?_
          obtain ⟨c15, F⟩ := F
          obtain ⟨c16, F⟩ := F
          refine x_getr hG hM ck_WP 2 (Nat.le_of_ble_eq_true rfl) rfl rfl w_404 rfl d_WP_thing_34 c15 c16 ?_
          obtain ⟨c14, F⟩ := F
          refine x_geti hG hM ck_Co 0 (Nat.le_of_ble_eq_true rfl) rfl rfl w_195 rfl d_WP_thing_37 c14 ?_
          refine x_if_le (tgt := 46) hM d_WP_thing_40 (by decide) (fun q13 => ?_) (fun q13 => ?_)
          · replace F := F.1 q13
            refine x_aload_n hM d_WP_thing_46 rfl 0 rfl ?_
            obtain ⟨c11, F⟩ := F
            obtain ⟨c12, F⟩ := F
            refine x_getr hG hM ck_WP 0 (Nat.le_of_ble_eq_true rfl) rfl rfl w_402 rfl d_WP_thing_47 c11 c12 ?_
            refine x_iload_n hM d_WP_thing_50 rfl 1 rfl ?_
            obtain ⟨c10, F⟩ := F
            refine x_callV hG hM (r' := r_Wo_addThing) (ci := 1) [.int v1] rfl rfl (Nat.le_of_ble_eq_true rfl) yk_Wo_addThing ⟨Nat.le_of_ble_eq_true rfl, Nat.le_of_ble_eq_true rfl⟩ w_452 w_453 w_454 rfl rfl (Nat.le_of_ble_eq_true rfl) d_WP_thing_51 c10 (sem_mono F ?_)
            intro u2 h1 F
            obtain ⟨x3, rfl, F⟩ := F
            refine x_istore_n (lv2 := [(2, .int x3), (0, .ref v0), (1, .int v1)]) hM d_WP_thing_54 rfl (Nat.le_of_ble_eq_true rfl) rfl ?_
            refine x_iload_n hM d_WP_thing_55 rfl 0 rfl ?_
            refine x_bipush (v := (-3)) hM d_WP_thing_56 (by decide) ?_
            refine x_icmp_eq (tgt := 68) hM d_WP_thing_58 (by decide) (fun q9 => ?_) (fun q9 => ?_)
            · replace F := F.1 q9
              refine x_iload_n hM d_WP_thing_68 rfl 0 rfl ?_
              exact x_ireturn hM d_WP_thing_69 rfl F
            · replace F := F.2 q9
              refine x_aload_n hM d_WP_thing_61 rfl 1 rfl ?_
              obtain ⟨c7, F⟩ := F
              obtain ⟨c8, F⟩ := F
              refine x_getr hG hM ck_WP 3 (Nat.le_of_ble_eq_true rfl) rfl rfl w_405 rfl d_WP_thing_62 c7 c8 ?_
              obtain ⟨c6, F⟩ := F
              refine x_callV hG hM (r' := r_Ch_inWorld) (ci := 6) [] rfl rfl (Nat.le_of_ble_eq_true rfl) yk_Ch_inWorld ⟨Nat.le_of_ble_eq_true rfl, Nat.le_of_ble_eq_true rfl⟩ w_444 w_445 w_446 rfl rfl (Nat.le_of_ble_eq_true rfl) d_WP_thing_65 c6 (sem_mono F ?_)
              intro u5 h4 F
              obtain ⟨rfl, F⟩ := F
              refine x_iload_n hM d_WP_thing_68 rfl 0 rfl ?_
              exact x_ireturn hM d_WP_thing_69 rfl F
          · replace F := F.2 q13
            refine x_bipush (v := (-2)) hM d_WP_thing_43 (by decide) ?_
            exact x_ireturn hM d_WP_thing_45 rfl F
    · replace F := F.2 q25
      refine x_bipush (v := (-2)) hM d_WP_thing_10 (by decide) ?_
      exact x_ireturn hM d_WP_thing_12 rfl F
set_option maxRecDepth 100000 in
set_option maxHeartbeats 4000000 in
theorem S_WP_start_0 {G : Gc} {M : Mc} {Q : State → Prop} {K : Option Value → Hp → Prop} (hG : gok G) (hM : mok G M r_WP_start Q K) (v0 : Nat) (v1 : Int32) (h : Hp) (F : kT h v0 = 1 ∧ kR h v0 0 = some (rf h v0 0) ∧ (kT h (rf h v0 0) = 2 ∧ sem G r_Wo_isState [.ref (rf h v0 0), .int v1] h (fun u2 h1 => ∃ x3 : Int32, u2 = some (.int x3) ∧ ((x3 = 0 → K (some (.int (-2))) h1) ∧ (¬ x3 = 0 → (kT h1 v0 = 1 ∧ ((v1 = (kI h1 v0 8) → K (some (.int (kI h1 v0 8))) h1) ∧ (¬ v1 = (kI h1 v0 8) → (kT h1 v0 = 1 ∧ (∀ h4 : Hp, h4 = wI h1 v0 8 v1 → (kT h4 v0 = 1 ∧ kR h4 v0 3 = some (rf h4 v0 3) ∧ (kT h4 (rf h4 v0 3) = 7 ∧ sem G r_Ch_inStart [.ref (rf h4 v0 3)] h4 (fun u6 h5 => u6 = none ∧ K (some (.int (kI h1 v0 8))) h5))))))))))))) : X G M Q 0 [(0, .ref v0), (1, .int v1)] [] h := by
  refine x_aload_n hM d_WP_start_0 rfl 0 rfl ?_
  obtain ⟨c15, F⟩ := F
  obtain ⟨c16, F⟩ := F
  refine x_getr hG hM ck_WP 0 (Nat.le_of_ble_eq_true rfl) rfl rfl w_402 rfl d_WP_start_1 c15 c16 ?_
  refine x_iload_n hM d_WP_start_4 rfl 1 rfl ?_
  obtain ⟨c14, F⟩ := F
  refine x_callV hG hM (r' := r_Wo_isState) (ci := 1) [.int v1] rfl rfl (Nat.le_of_ble_eq_true rfl) yk_Wo_isState ⟨Nat.le_of_ble_eq_true rfl, Nat.le_of_ble_eq_true rfl⟩ w_460 w_461 w_462 rfl rfl (Nat.le_of_ble_eq_true rfl) d_WP_start_5 c14 (sem_mono F ?_)
  intro u2 h1 F
  obtain ⟨x3, rfl, F⟩ := F
  refine x_if_ne (tgt := 14) hM d_WP_start_8 (by decide) (fun q13 => ?_) (fun q13 => ?_)
  · replace F := F.2 q13
    refine x_aload_n hM d_WP_start_14 rfl 0 rfl ?_
    obtain ⟨c12, F⟩ := F
    refine x_geti hG hM ck_WP 8 (Nat.le_of_ble_eq_true rfl) rfl rfl w_410 rfl d_WP_start_15 c12 ?_
    refine x_istore_n (lv2 := [(2, .int (kI h1 v0 8)), (0, .ref v0), (1, .int v1)]) hM d_WP_start_18 rfl (Nat.le_of_ble_eq_true rfl) rfl ?_
    refine x_iload_n hM d_WP_start_19 rfl 2 rfl ?_
    refine x_iload_n hM d_WP_start_20 rfl 0 rfl ?_
    refine x_icmp_eq (tgt := 36) hM d_WP_start_21 (by decide) (fun q11 => ?_) (fun q11 => ?_)
    · replace F := F.1 q11
      refine x_iload_n hM d_WP_start_36 rfl 0 rfl ?_
      exact x_ireturn hM d_WP_start_37 rfl F
    · replace F := F.2 q11
      refine x_aload_n hM d_WP_start_24 rfl 1 rfl ?_
      refine x_iload_n hM d_WP_start_25 rfl 2 rfl ?_
      obtain ⟨c10, F⟩ := F
      replace F := F _ rfl
      refine x_puti hG hM ck_WP 8 (Nat.le_of_ble_eq_true rfl) rfl rfl w_410 rfl d_WP_start_26 (Or.inl rfl) c10 ?_
      refine x_aload_n hM d_WP_start_29 rfl 1 rfl ?_
      obtain ⟨c8, F⟩ := F
      obtain ⟨c9, F⟩ := F
      refine x_getr hG hM ck_WP 3 (Nat.le_of_ble_eq_true rfl) rfl rfl w_405 rfl d_WP_start_30 c8 c9 ?_
      obtain ⟨c7, F⟩ := F
      refine x_callV hG hM (r' := r_Ch_inStart) (ci := 6) [] rfl rfl (Nat.le_of_ble_eq_true rfl) yk_Ch_inStart ⟨Nat.le_of_ble_eq_true rfl, Nat.le_of_ble_eq_true rfl⟩ w_464 w_465 w_466 rfl rfl (Nat.le_of_ble_eq_true rfl) d_WP_start_33 c7 (sem_mono F ?_)
      intro u6 h5 F
      obtain ⟨rfl, F⟩ := F
      refine x_iload_n hM d_WP_start_36 rfl 0 rfl ?_
      exact x_ireturn hM d_WP_start_37 rfl F
  · replace F := F.1 q13
    refine x_bipush (v := (-2)) hM d_WP_start_11 (by decide) ?_
    exact x_ireturn hM d_WP_start_13 rfl F
set_option maxRecDepth 100000 in
set_option maxHeartbeats 4000000 in
theorem S_WP_act_0 {G : Gc} {M : Mc} {Q : State → Prop} {K : Option Value → Hp → Prop} (hG : gok G) (hM : mok G M r_WP_act Q K) (v0 : Nat) (h : Hp) (F : kT h v0 = 1 ∧ kR h v0 0 = some (rf h v0 0) ∧ (kT h (rf h v0 0) = 2 ∧ sem G r_Wo_addAct [.ref (rf h v0 0)] h (fun u2 h1 => ∃ x3 : Int32, u2 = some (.int x3) ∧ ((x3 = (-3) → K (some (.int x3)) h1) ∧ (¬ x3 = (-3) → (kT h1 v0 = 1 ∧ kR h1 v0 3 = some (rf h1 v0 3) ∧ (kT h1 (rf h1 v0 3) = 7 ∧ sem G r_Ch_inWorld [.ref (rf h1 v0 3)] h1 (fun u5 h4 => u5 = none ∧ K (some (.int x3)) h4)))))))) : X G M Q 0 [(0, .ref v0)] [] h := by
  refine x_aload_n hM d_WP_act_0 rfl 0 rfl ?_
  obtain ⟨c11, F⟩ := F
  obtain ⟨c12, F⟩ := F
  refine x_getr hG hM ck_WP 0 (Nat.le_of_ble_eq_true rfl) rfl rfl w_402 rfl d_WP_act_1 c11 c12 ?_
  obtain ⟨c10, F⟩ := F
  refine x_callV hG hM (r' := r_Wo_addAct) (ci := 1) [] rfl rfl (Nat.le_of_ble_eq_true rfl) yk_Wo_addAct ⟨Nat.le_of_ble_eq_true rfl, Nat.le_of_ble_eq_true rfl⟩ w_472 w_473 w_474 rfl rfl (Nat.le_of_ble_eq_true rfl) d_WP_act_4 c10 (sem_mono F ?_)
  intro u2 h1 F
  obtain ⟨x3, rfl, F⟩ := F
  refine x_istore_n (lv2 := [(1, .int x3), (0, .ref v0)]) hM d_WP_act_7 rfl (Nat.le_of_ble_eq_true rfl) rfl ?_
  refine x_iload_n hM d_WP_act_8 rfl 0 rfl ?_
  refine x_bipush (v := (-3)) hM d_WP_act_9 (by decide) ?_
  refine x_icmp_eq (tgt := 21) hM d_WP_act_11 (by decide) (fun q9 => ?_) (fun q9 => ?_)
  · replace F := F.1 q9
    refine x_iload_n hM d_WP_act_21 rfl 0 rfl ?_
    exact x_ireturn hM d_WP_act_22 rfl F
  · replace F := F.2 q9
    refine x_aload_n hM d_WP_act_14 rfl 1 rfl ?_
    obtain ⟨c7, F⟩ := F
    obtain ⟨c8, F⟩ := F
    refine x_getr hG hM ck_WP 3 (Nat.le_of_ble_eq_true rfl) rfl rfl w_405 rfl d_WP_act_15 c7 c8 ?_
    obtain ⟨c6, F⟩ := F
    refine x_callV hG hM (r' := r_Ch_inWorld) (ci := 6) [] rfl rfl (Nat.le_of_ble_eq_true rfl) yk_Ch_inWorld ⟨Nat.le_of_ble_eq_true rfl, Nat.le_of_ble_eq_true rfl⟩ w_444 w_445 w_446 rfl rfl (Nat.le_of_ble_eq_true rfl) d_WP_act_18 c6 (sem_mono F ?_)
    intro u5 h4 F
    obtain ⟨rfl, F⟩ := F
    refine x_iload_n hM d_WP_act_21 rfl 0 rfl ?_
    exact x_ireturn hM d_WP_act_22 rfl F
set_option maxRecDepth 100000 in
set_option maxHeartbeats 4000000 in
theorem S_WP_outcome_0 {G : Gc} {M : Mc} {Q : State → Prop} {K : Option Value → Hp → Prop} (hG : gok G) (hM : mok G M r_WP_outcome Q K) (v0 : Nat) (v1 : Int32) (h : Hp) (F : kT h v0 = 1 ∧ kR h v0 0 = some (rf h v0 0) ∧ (kT h (rf h v0 0) = 2 ∧ sem G r_Wo_isAct [.ref (rf h v0 0), .int v1] h (fun u2 h1 => ∃ x3 : Int32, u2 = some (.int x3) ∧ ((x3 = 0 → K (some (.int (-2))) h1) ∧ (¬ x3 = 0 → (kT h1 v0 = 1 ∧ kR h1 v0 0 = some (rf h1 v0 0) ∧ (kT h1 (rf h1 v0 0) = 2 ∧ kR h1 (rf h1 v0 0) 5 = some (rf h1 (rf h1 v0 0) 5) ∧ (kT h1 (rf h1 (rf h1 v0 0) 5) = 53 ∧ vp_in v1 (kN h1 (rf h1 (rf h1 v0 0) 5)) ∧ kR h1 (rf h1 (rf h1 v0 0) 5) (Int32.toNatClampNeg v1) = some (rf h1 (rf h1 (rf h1 v0 0) 5) (Int32.toNatClampNeg v1)) ∧ (kT h1 (rf h1 (rf h1 (rf h1 v0 0) 5) (Int32.toNatClampNeg v1)) = 3 ∧ sem G r_Ac_addOutcome [.ref (rf h1 (rf h1 (rf h1 v0 0) 5) (Int32.toNatClampNeg v1))] h1 (fun u5 h4 => ∃ x6 : Int32, u5 = some (.int x6) ∧ (kT h4 v0 = 1 ∧ sem G r_WP_noteActChange [.ref v0, .int v1, .int x6] h4 (fun u8 h7 => u8 = none ∧ K (some (.int x6)) h7)))))))))))) : X G M Q 0 [(0, .ref v0), (1, .int v1)] [] h := by
  refine x_aload_n hM d_WP_outcome_0 rfl 0 rfl ?_
  obtain ⟨c20, F⟩ := F
  obtain ⟨c21, F⟩ := F
  refine x_getr hG hM ck_WP 0 (Nat.le_of_ble_eq_true rfl) rfl rfl w_402 rfl d_WP_outcome_1 c20 c21 ?_
  refine x_iload_n hM d_WP_outcome_4 rfl 1 rfl ?_
  obtain ⟨c19, F⟩ := F
  refine x_callV hG hM (r' := r_Wo_isAct) (ci := 1) [.int v1] rfl rfl (Nat.le_of_ble_eq_true rfl) yk_Wo_isAct ⟨Nat.le_of_ble_eq_true rfl, Nat.le_of_ble_eq_true rfl⟩ w_484 w_485 w_486 rfl rfl (Nat.le_of_ble_eq_true rfl) d_WP_outcome_5 c19 (sem_mono F ?_)
  intro u2 h1 F
  obtain ⟨x3, rfl, F⟩ := F
  refine x_if_ne (tgt := 14) hM d_WP_outcome_8 (by decide) (fun q18 => ?_) (fun q18 => ?_)
  · replace F := F.2 q18
    refine x_aload_n hM d_WP_outcome_14 rfl 0 rfl ?_
    obtain ⟨c16, F⟩ := F
    obtain ⟨c17, F⟩ := F
    refine x_getr hG hM ck_WP 0 (Nat.le_of_ble_eq_true rfl) rfl rfl w_402 rfl d_WP_outcome_15 c16 c17 ?_
    obtain ⟨c14, F⟩ := F
    obtain ⟨c15, F⟩ := F
    refine x_getr hG hM ck_Wo 5 (Nat.le_of_ble_eq_true rfl) rfl rfl w_146 rfl d_WP_outcome_18 c14 c15 ?_
    refine x_iload_n hM d_WP_outcome_21 rfl 1 rfl ?_
    obtain ⟨c11, F⟩ := F
    obtain ⟨c12, F⟩ := F
    obtain ⟨c13, F⟩ := F
    refine x_aaload hG hM 53 rfl (Nat.le_of_ble_eq_true rfl) d_WP_outcome_22 c11 c12 c13 ?_
    obtain ⟨c10, F⟩ := F
    refine x_callV hG hM (r' := r_Ac_addOutcome) (ci := 2) [] rfl rfl (Nat.le_of_ble_eq_true rfl) yk_Ac_addOutcome ⟨Nat.le_of_ble_eq_true rfl, Nat.le_of_ble_eq_true rfl⟩ w_488 w_489 w_490 rfl rfl (Nat.le_of_ble_eq_true rfl) d_WP_outcome_23 c10 (sem_mono F ?_)
    intro u5 h4 F
    obtain ⟨x6, rfl, F⟩ := F
    refine x_istore_n (lv2 := [(2, .int x6), (0, .ref v0), (1, .int v1)]) hM d_WP_outcome_26 rfl (Nat.le_of_ble_eq_true rfl) rfl ?_
    refine x_aload_n hM d_WP_outcome_27 rfl 1 rfl ?_
    refine x_iload_n hM d_WP_outcome_28 rfl 2 rfl ?_
    refine x_iload_n hM d_WP_outcome_29 rfl 0 rfl ?_
    obtain ⟨c9, F⟩ := F
    refine x_callV hG hM (r' := r_WP_noteActChange) (ci := 0) [.int v1, .int x6] rfl rfl (Nat.le_of_ble_eq_true rfl) yk_WP_noteActChange ⟨Nat.le_of_ble_eq_true rfl, Nat.le_of_ble_eq_true rfl⟩ w_492 w_494 ws_WP_noteActChange rfl rfl (Nat.le_of_ble_eq_true rfl) d_WP_outcome_30 c9 (sem_mono F ?_)
    intro u8 h7 F
    obtain ⟨rfl, F⟩ := F
    refine x_iload_n hM d_WP_outcome_33 rfl 0 rfl ?_
    exact x_ireturn hM d_WP_outcome_34 rfl F
  · replace F := F.1 q18
    refine x_bipush (v := (-2)) hM d_WP_outcome_11 (by decide) ?_
    exact x_ireturn hM d_WP_outcome_13 rfl F
set_option maxRecDepth 100000 in
set_option maxHeartbeats 4000000 in
theorem S_WP_noteActChange_0 {G : Gc} {M : Mc} {Q : State → Prop} {K : Option Value → Hp → Prop} (hG : gok G) (hM : mok G M r_WP_noteActChange Q K) (v0 : Nat) (v1 : Int32) (v2 : Int32) (h : Hp) (F : (v2 = (-3) → K none h) ∧ (¬ v2 = (-3) → (kT h v0 = 1 ∧ kR h v0 0 = some (rf h v0 0) ∧ (kT h (rf h v0 0) = 2 ∧ kR h (rf h v0 0) 5 = some (rf h (rf h v0 0) 5) ∧ (kT h (rf h (rf h v0 0) 5) = 53 ∧ vp_in v1 (kN h (rf h (rf h v0 0) 5)) ∧ kR h (rf h (rf h v0 0) 5) (Int32.toNatClampNeg v1) = some (rf h (rf h (rf h v0 0) 5) (Int32.toNatClampNeg v1)) ∧ (kT h (rf h (rf h (rf h v0 0) 5) (Int32.toNatClampNeg v1)) = 3 ∧ (∀ h1 : Hp, h1 = wI h (rf h (rf h (rf h v0 0) 5) (Int32.toNatClampNeg v1)) 3 0 → (kT h1 v0 = 1 ∧ kR h1 v0 0 = some (rf h1 v0 0) ∧ (kT h1 (rf h1 v0 0) = 2 ∧ (∀ h2 : Hp, h2 = wI h1 (rf h1 v0 0) 9 0 → (kT h2 v0 = 1 ∧ kR h2 v0 3 = some (rf h2 v0 3) ∧ (kT h2 (rf h2 v0 3) = 7 ∧ sem G r_Ch_inWorld [.ref (rf h2 v0 3)] h2 (fun u4 h3 => u4 = none ∧ K none h3))))))))))))) : X G M Q 0 [(0, .ref v0), (1, .int v1), (2, .int v2)] [] h := by
  refine x_iload_n hM d_WP_noteActChange_0 rfl 2 rfl ?_
  refine x_bipush (v := (-3)) hM d_WP_noteActChange_1 (by decide) ?_
  refine x_icmp_eq (tgt := 34) hM d_WP_noteActChange_3 (by decide) (fun q19 => ?_) (fun q19 => ?_)
  · replace F := F.1 q19
    exact x_return hM d_WP_noteActChange_34 rfl F
  · replace F := F.2 q19
    refine x_aload_n hM d_WP_noteActChange_6 rfl 0 rfl ?_
    obtain ⟨c17, F⟩ := F
    obtain ⟨c18, F⟩ := F
    refine x_getr hG hM ck_WP 0 (Nat.le_of_ble_eq_true rfl) rfl rfl w_402 rfl d_WP_noteActChange_7 c17 c18 ?_
    obtain ⟨c15, F⟩ := F
    obtain ⟨c16, F⟩ := F
    refine x_getr hG hM ck_Wo 5 (Nat.le_of_ble_eq_true rfl) rfl rfl w_146 rfl d_WP_noteActChange_10 c15 c16 ?_
    refine x_iload_n hM d_WP_noteActChange_13 rfl 1 rfl ?_
    obtain ⟨c12, F⟩ := F
    obtain ⟨c13, F⟩ := F
    obtain ⟨c14, F⟩ := F
    refine x_aaload hG hM 53 rfl (Nat.le_of_ble_eq_true rfl) d_WP_noteActChange_14 c12 c13 c14 ?_
    refine x_iconst (v := 0) hM d_WP_noteActChange_15 (by decide) ?_
    obtain ⟨c11, F⟩ := F
    replace F := F _ rfl
    refine x_putz hG hM ck_Ac 3 (Nat.le_of_ble_eq_true rfl) rfl rfl w_113 rfl d_WP_noteActChange_16 (Or.inl rfl) c11 (Or.inl rfl) ?_
    refine x_aload_n hM d_WP_noteActChange_19 rfl 0 rfl ?_
    obtain ⟨c9, F⟩ := F
    obtain ⟨c10, F⟩ := F
    refine x_getr hG hM ck_WP 0 (Nat.le_of_ble_eq_true rfl) rfl rfl w_402 rfl d_WP_noteActChange_20 c9 c10 ?_
    refine x_iconst (v := 0) hM d_WP_noteActChange_23 (by decide) ?_
    obtain ⟨c8, F⟩ := F
    replace F := F _ rfl
    refine x_putz hG hM ck_Wo 9 (Nat.le_of_ble_eq_true rfl) rfl rfl w_161 rfl d_WP_noteActChange_24 (Or.inl rfl) c8 (Or.inl rfl) ?_
    refine x_aload_n hM d_WP_noteActChange_27 rfl 0 rfl ?_
    obtain ⟨c6, F⟩ := F
    obtain ⟨c7, F⟩ := F
    refine x_getr hG hM ck_WP 3 (Nat.le_of_ble_eq_true rfl) rfl rfl w_405 rfl d_WP_noteActChange_28 c6 c7 ?_
    obtain ⟨c5, F⟩ := F
    refine x_callV hG hM (r' := r_Ch_inWorld) (ci := 6) [] rfl rfl (Nat.le_of_ble_eq_true rfl) yk_Ch_inWorld ⟨Nat.le_of_ble_eq_true rfl, Nat.le_of_ble_eq_true rfl⟩ w_444 w_445 w_446 rfl rfl (Nat.le_of_ble_eq_true rfl) d_WP_noteActChange_31 c5 (sem_mono F ?_)
    intro u4 h3 F
    obtain ⟨rfl, F⟩ := F
    exact x_return hM d_WP_noteActChange_34 rfl F
set_option maxRecDepth 100000 in
set_option maxHeartbeats 4000000 in
theorem S_WP_when_0 {G : Gc} {M : Mc} {Q : State → Prop} {K : Option Value → Hp → Prop} (hG : gok G) (hM : mok G M r_WP_when Q K) (v0 : Nat) (v1 : Int32) (v2 : Int32) (v3 : Int32) (v4 : Int32) (h : Hp) (F : kT h v0 = 1 ∧ kR h v0 0 = some (rf h v0 0) ∧ (kT h (rf h v0 0) = 2 ∧ sem G r_Wo_isAct [.ref (rf h v0 0), .int v1] h (fun u2 h1 => ∃ x3 : Int32, u2 = some (.int x3) ∧ ((x3 = 0 → K (some (.int (-2))) h1) ∧ (¬ x3 = 0 → (kT h1 v0 = 1 ∧ kR h1 v0 0 = some (rf h1 v0 0) ∧ (kT h1 (rf h1 v0 0) = 2 ∧ sem G r_Wo_isCondition [.ref (rf h1 v0 0), .int v2, .int v3, .int v4] h1 (fun u5 h4 => ∃ x6 : Int32, u5 = some (.int x6) ∧ ((x6 = 0 → K (some (.int (-2))) h4) ∧ (¬ x6 = 0 → (kT h4 v0 = 1 ∧ kR h4 v0 0 = some (rf h4 v0 0) ∧ (kT h4 (rf h4 v0 0) = 2 ∧ kR h4 (rf h4 v0 0) 5 = some (rf h4 (rf h4 v0 0) 5) ∧ (kT h4 (rf h4 (rf h4 v0 0) 5) = 53 ∧ vp_in v1 (kN h4 (rf h4 (rf h4 v0 0) 5)) ∧ kR h4 (rf h4 (rf h4 v0 0) 5) (Int32.toNatClampNeg v1) = some (rf h4 (rf h4 (rf h4 v0 0) 5) (Int32.toNatClampNeg v1)) ∧ (kT h4 (rf h4 (rf h4 (rf h4 v0 0) 5) (Int32.toNatClampNeg v1)) = 3 ∧ kR h4 (rf h4 (rf h4 (rf h4 v0 0) 5) (Int32.toNatClampNeg v1)) 0 = some (rf h4 (rf h4 (rf h4 (rf h4 v0 0) 5) (Int32.toNatClampNeg v1)) 0) ∧ (kT h4 (rf h4 (rf h4 (rf h4 (rf h4 v0 0) 5) (Int32.toNatClampNeg v1)) 0) = 5 ∧ sem G r_Cl_add [.ref (rf h4 (rf h4 (rf h4 (rf h4 v0 0) 5) (Int32.toNatClampNeg v1)) 0), .int v2, .int v3, .int v4] h4 (fun u8 h7 => ∃ x9 : Int32, u8 = some (.int x9) ∧ (kT h7 v0 = 1 ∧ sem G r_WP_noteActChange [.ref v0, .int v1, .int x9] h7 (fun u11 h10 => u11 = none ∧ K (some (.int x9)) h10)))))))))))))))))) : X G M Q 0 [(0, .ref v0), (1, .int v1), (2, .int v2), (3, .int v3), (4, .int v4)] [] h := by
  refine x_aload_n hM d_WP_when_0 rfl 0 rfl ?_
  obtain ⟨c29, F⟩ := F
  obtain ⟨c30, F⟩ := F
  refine x_getr hG hM ck_WP 0 (Nat.le_of_ble_eq_true rfl) rfl rfl w_402 rfl d_WP_when_1 c29 c30 ?_
  refine x_iload_n hM d_WP_when_4 rfl 1 rfl ?_
  obtain ⟨c28, F⟩ := F
  refine x_callV hG hM (r' := r_Wo_isAct) (ci := 1) [.int v1] rfl rfl (Nat.le_of_ble_eq_true rfl) yk_Wo_isAct ⟨Nat.le_of_ble_eq_true rfl, Nat.le_of_ble_eq_true rfl⟩ w_484 w_485 w_486 rfl rfl (Nat.le_of_ble_eq_true rfl) d_WP_when_5 c28 (sem_mono F ?_)
  intro u2 h1 F
  obtain ⟨x3, rfl, F⟩ := F
  refine x_if_eq (tgt := 25) hM d_WP_when_8 (by decide) (fun q27 => ?_) (fun q27 => ?_)
  · replace F := F.1 q27
    refine x_bipush (v := (-2)) hM d_WP_when_25 (by decide) ?_
    exact x_ireturn hM d_WP_when_27 rfl F
  · replace F := F.2 q27
    refine x_aload_n hM d_WP_when_11 rfl 0 rfl ?_
    obtain ⟨c25, F⟩ := F
    obtain ⟨c26, F⟩ := F
    refine x_getr hG hM ck_WP 0 (Nat.le_of_ble_eq_true rfl) rfl rfl w_402 rfl d_WP_when_12 c25 c26 ?_
    refine x_iload_n hM d_WP_when_15 rfl 2 rfl ?_
    refine x_iload_n hM d_WP_when_16 rfl 3 rfl ?_
    refine x_iload hM d_WP_when_17 4 rfl ?_
    obtain ⟨c24, F⟩ := F
    refine x_callV hG hM (r' := r_Wo_isCondition) (ci := 1) [.int v2, .int v3, .int v4] rfl rfl (Nat.le_of_ble_eq_true rfl) yk_Wo_isCondition ⟨Nat.le_of_ble_eq_true rfl, Nat.le_of_ble_eq_true rfl⟩ w_500 w_501 w_502 rfl rfl (Nat.le_of_ble_eq_true rfl) d_WP_when_19 c24 (sem_mono F ?_)
    intro u5 h4 F
    obtain ⟨x6, rfl, F⟩ := F
    refine x_if_ne (tgt := 28) hM d_WP_when_22 (by decide) (fun q23 => ?_) (fun q23 => ?_)
    · replace F := F.2 q23
      refine x_aload_n hM d_WP_when_28 rfl 0 rfl ?_
      obtain ⟨c21, F⟩ := F
      obtain ⟨c22, F⟩ := F
      refine x_getr hG hM ck_WP 0 (Nat.le_of_ble_eq_true rfl) rfl rfl w_402 rfl d_WP_when_29 c21 c22 ?_
      obtain ⟨c19, F⟩ := F
      obtain ⟨c20, F⟩ := F
      refine x_getr hG hM ck_Wo 5 (Nat.le_of_ble_eq_true rfl) rfl rfl w_146 rfl d_WP_when_32 c19 c20 ?_
      refine x_iload_n hM d_WP_when_35 rfl 1 rfl ?_
      obtain ⟨c16, F⟩ := F
      obtain ⟨c17, F⟩ := F
      obtain ⟨c18, F⟩ := F
      refine x_aaload hG hM 53 rfl (Nat.le_of_ble_eq_true rfl) d_WP_when_36 c16 c17 c18 ?_
      obtain ⟨c14, F⟩ := F
      obtain ⟨c15, F⟩ := F
      refine x_getr hG hM ck_Ac 0 (Nat.le_of_ble_eq_true rfl) rfl rfl w_95 rfl d_WP_when_37 c14 c15 ?_
      refine x_iload_n hM d_WP_when_40 rfl 2 rfl ?_
      refine x_iload_n hM d_WP_when_41 rfl 3 rfl ?_
      refine x_iload hM d_WP_when_42 4 rfl ?_
      obtain ⟨c13, F⟩ := F
      refine x_callV hG hM (r' := r_Cl_add) (ci := 4) [.int v2, .int v3, .int v4] rfl rfl (Nat.le_of_ble_eq_true rfl) yk_Cl_add ⟨Nat.le_of_ble_eq_true rfl, Nat.le_of_ble_eq_true rfl⟩ w_508 w_509 w_510 rfl rfl (Nat.le_of_ble_eq_true rfl) d_WP_when_44 c13 (sem_mono F ?_)
      intro u8 h7 F
      obtain ⟨x9, rfl, F⟩ := F
      refine x_istore (lv2 := [(5, .int x9), (0, .ref v0), (1, .int v1), (2, .int v2), (3, .int v3), (4, .int v4)]) hM d_WP_when_47 (Nat.le_of_ble_eq_true rfl) rfl ?_
      refine x_aload_n hM d_WP_when_49 rfl 1 rfl ?_
      refine x_iload_n hM d_WP_when_50 rfl 2 rfl ?_
      refine x_iload hM d_WP_when_51 0 rfl ?_
      obtain ⟨c12, F⟩ := F
      refine x_callV hG hM (r' := r_WP_noteActChange) (ci := 0) [.int v1, .int x9] rfl rfl (Nat.le_of_ble_eq_true rfl) yk_WP_noteActChange ⟨Nat.le_of_ble_eq_true rfl, Nat.le_of_ble_eq_true rfl⟩ w_492 w_494 ws_WP_noteActChange rfl rfl (Nat.le_of_ble_eq_true rfl) d_WP_when_53 c12 (sem_mono F ?_)
      intro u11 h10 F
      obtain ⟨rfl, F⟩ := F
      refine x_iload hM d_WP_when_56 0 rfl ?_
      exact x_ireturn hM d_WP_when_58 rfl F
    · replace F := F.1 q23
      refine x_bipush (v := (-2)) hM d_WP_when_25 (by decide) ?_
      exact x_ireturn hM d_WP_when_27 rfl F
set_option maxRecDepth 100000 in
set_option maxHeartbeats 4000000 in
theorem S_WP_effect_0 {G : Gc} {M : Mc} {Q : State → Prop} {K : Option Value → Hp → Prop} (hG : gok G) (hM : mok G M r_WP_effect Q K) (v0 : Nat) (v1 : Int32) (v2 : Int32) (v3 : Int32) (v4 : Int32) (v5 : Int32) (h : Hp) (F : kT h v0 = 1 ∧ kR h v0 0 = some (rf h v0 0) ∧ (kT h (rf h v0 0) = 2 ∧ sem G r_Wo_isOutcome [.ref (rf h v0 0), .int v1, .int v2] h (fun u2 h1 => ∃ x3 : Int32, u2 = some (.int x3) ∧ ((x3 = 0 → K (some (.int (-2))) h1) ∧ (¬ x3 = 0 → (kT h1 v0 = 1 ∧ kR h1 v0 0 = some (rf h1 v0 0) ∧ (kT h1 (rf h1 v0 0) = 2 ∧ sem G r_Wo_isEffect [.ref (rf h1 v0 0), .int v3, .int v4, .int v5] h1 (fun u5 h4 => ∃ x6 : Int32, u5 = some (.int x6) ∧ ((x6 = 0 → K (some (.int (-2))) h4) ∧ (¬ x6 = 0 → (kT h4 v0 = 1 ∧ kR h4 v0 0 = some (rf h4 v0 0) ∧ (kT h4 (rf h4 v0 0) = 2 ∧ kR h4 (rf h4 v0 0) 5 = some (rf h4 (rf h4 v0 0) 5) ∧ (kT h4 (rf h4 (rf h4 v0 0) 5) = 53 ∧ vp_in v1 (kN h4 (rf h4 (rf h4 v0 0) 5)) ∧ kR h4 (rf h4 (rf h4 v0 0) 5) (Int32.toNatClampNeg v1) = some (rf h4 (rf h4 (rf h4 v0 0) 5) (Int32.toNatClampNeg v1)) ∧ (kT h4 (rf h4 (rf h4 (rf h4 v0 0) 5) (Int32.toNatClampNeg v1)) = 3 ∧ kR h4 (rf h4 (rf h4 (rf h4 v0 0) 5) (Int32.toNatClampNeg v1)) 1 = some (rf h4 (rf h4 (rf h4 (rf h4 v0 0) 5) (Int32.toNatClampNeg v1)) 1) ∧ (kT h4 (rf h4 (rf h4 (rf h4 (rf h4 v0 0) 5) (Int32.toNatClampNeg v1)) 1) = 54 ∧ vp_in v2 (kN h4 (rf h4 (rf h4 (rf h4 (rf h4 v0 0) 5) (Int32.toNatClampNeg v1)) 1)) ∧ kR h4 (rf h4 (rf h4 (rf h4 (rf h4 v0 0) 5) (Int32.toNatClampNeg v1)) 1) (Int32.toNatClampNeg v2) = some (rf h4 (rf h4 (rf h4 (rf h4 (rf h4 v0 0) 5) (Int32.toNatClampNeg v1)) 1) (Int32.toNatClampNeg v2)) ∧ (kT h4 (rf h4 (rf h4 (rf h4 (rf h4 (rf h4 v0 0) 5) (Int32.toNatClampNeg v1)) 1) (Int32.toNatClampNeg v2)) = 4 ∧ kR h4 (rf h4 (rf h4 (rf h4 (rf h4 (rf h4 v0 0) 5) (Int32.toNatClampNeg v1)) 1) (Int32.toNatClampNeg v2)) 0 = some (rf h4 (rf h4 (rf h4 (rf h4 (rf h4 (rf h4 v0 0) 5) (Int32.toNatClampNeg v1)) 1) (Int32.toNatClampNeg v2)) 0) ∧ (kT h4 (rf h4 (rf h4 (rf h4 (rf h4 (rf h4 (rf h4 v0 0) 5) (Int32.toNatClampNeg v1)) 1) (Int32.toNatClampNeg v2)) 0) = 5 ∧ sem G r_Cl_add [.ref (rf h4 (rf h4 (rf h4 (rf h4 (rf h4 (rf h4 v0 0) 5) (Int32.toNatClampNeg v1)) 1) (Int32.toNatClampNeg v2)) 0), .int v3, .int v4, .int v5] h4 (fun u8 h7 => ∃ x9 : Int32, u8 = some (.int x9) ∧ (kT h7 v0 = 1 ∧ sem G r_WP_noteActChange [.ref v0, .int v1, .int x9] h7 (fun u11 h10 => u11 = none ∧ K (some (.int x9)) h10)))))))))))))))))))) : X G M Q 0 [(0, .ref v0), (1, .int v1), (2, .int v2), (3, .int v3), (4, .int v4), (5, .int v5)] [] h := by
  refine x_aload_n hM d_WP_effect_0 rfl 0 rfl ?_
  obtain ⟨c34, F⟩ := F
  obtain ⟨c35, F⟩ := F
  refine x_getr hG hM ck_WP 0 (Nat.le_of_ble_eq_true rfl) rfl rfl w_402 rfl d_WP_effect_1 c34 c35 ?_
  refine x_iload_n hM d_WP_effect_4 rfl 1 rfl ?_
  refine x_iload_n hM d_WP_effect_5 rfl 2 rfl ?_
  obtain ⟨c33, F⟩ := F
  refine x_callV hG hM (r' := r_Wo_isOutcome) (ci := 1) [.int v1, .int v2] rfl rfl (Nat.le_of_ble_eq_true rfl) yk_Wo_isOutcome ⟨Nat.le_of_ble_eq_true rfl, Nat.le_of_ble_eq_true rfl⟩ w_516 w_517 w_518 rfl rfl (Nat.le_of_ble_eq_true rfl) d_WP_effect_6 c33 (sem_mono F ?_)
  intro u2 h1 F
  obtain ⟨x3, rfl, F⟩ := F
  refine x_if_eq (tgt := 27) hM d_WP_effect_9 (by decide) (fun q32 => ?_) (fun q32 => ?_)
  · replace F := F.1 q32
    refine x_bipush (v := (-2)) hM d_WP_effect_27 (by decide) ?_
    exact x_ireturn hM d_WP_effect_29 rfl F
  · replace F := F.2 q32
    refine x_aload_n hM d_WP_effect_12 rfl 0 rfl ?_
    obtain ⟨c30, F⟩ := F
    obtain ⟨c31, F⟩ := F
    refine x_getr hG hM ck_WP 0 (Nat.le_of_ble_eq_true rfl) rfl rfl w_402 rfl d_WP_effect_13 c30 c31 ?_
    refine x_iload_n hM d_WP_effect_16 rfl 3 rfl ?_
    refine x_iload hM d_WP_effect_17 4 rfl ?_
    refine x_iload hM d_WP_effect_19 5 rfl ?_
    obtain ⟨c29, F⟩ := F
    refine x_callV hG hM (r' := r_Wo_isEffect) (ci := 1) [.int v3, .int v4, .int v5] rfl rfl (Nat.le_of_ble_eq_true rfl) yk_Wo_isEffect ⟨Nat.le_of_ble_eq_true rfl, Nat.le_of_ble_eq_true rfl⟩ w_521 w_522 w_523 rfl rfl (Nat.le_of_ble_eq_true rfl) d_WP_effect_21 c29 (sem_mono F ?_)
    intro u5 h4 F
    obtain ⟨x6, rfl, F⟩ := F
    refine x_if_ne (tgt := 30) hM d_WP_effect_24 (by decide) (fun q28 => ?_) (fun q28 => ?_)
    · replace F := F.2 q28
      refine x_aload_n hM d_WP_effect_30 rfl 0 rfl ?_
      obtain ⟨c26, F⟩ := F
      obtain ⟨c27, F⟩ := F
      refine x_getr hG hM ck_WP 0 (Nat.le_of_ble_eq_true rfl) rfl rfl w_402 rfl d_WP_effect_31 c26 c27 ?_
      obtain ⟨c24, F⟩ := F
      obtain ⟨c25, F⟩ := F
      refine x_getr hG hM ck_Wo 5 (Nat.le_of_ble_eq_true rfl) rfl rfl w_146 rfl d_WP_effect_34 c24 c25 ?_
      refine x_iload_n hM d_WP_effect_37 rfl 1 rfl ?_
      obtain ⟨c21, F⟩ := F
      obtain ⟨c22, F⟩ := F
      obtain ⟨c23, F⟩ := F
      refine x_aaload hG hM 53 rfl (Nat.le_of_ble_eq_true rfl) d_WP_effect_38 c21 c22 c23 ?_
      obtain ⟨c19, F⟩ := F
      obtain ⟨c20, F⟩ := F
      refine x_getr hG hM ck_Ac 1 (Nat.le_of_ble_eq_true rfl) rfl rfl w_101 rfl d_WP_effect_39 c19 c20 ?_
      refine x_iload_n hM d_WP_effect_42 rfl 2 rfl ?_
      obtain ⟨c16, F⟩ := F
      obtain ⟨c17, F⟩ := F
      obtain ⟨c18, F⟩ := F
      refine x_aaload hG hM 54 rfl (Nat.le_of_ble_eq_true rfl) d_WP_effect_43 c16 c17 c18 ?_
      obtain ⟨c14, F⟩ := F
      obtain ⟨c15, F⟩ := F
      refine x_getr hG hM ck_Ou 0 (Nat.le_of_ble_eq_true rfl) rfl rfl w_75 rfl d_WP_effect_44 c14 c15 ?_
      refine x_iload_n hM d_WP_effect_47 rfl 3 rfl ?_
      refine x_iload hM d_WP_effect_48 4 rfl ?_
      refine x_iload hM d_WP_effect_50 5 rfl ?_
      obtain ⟨c13, F⟩ := F
      refine x_callV hG hM (r' := r_Cl_add) (ci := 4) [.int v3, .int v4, .int v5] rfl rfl (Nat.le_of_ble_eq_true rfl) yk_Cl_add ⟨Nat.le_of_ble_eq_true rfl, Nat.le_of_ble_eq_true rfl⟩ w_508 w_509 w_510 rfl rfl (Nat.le_of_ble_eq_true rfl) d_WP_effect_52 c13 (sem_mono F ?_)
      intro u8 h7 F
      obtain ⟨x9, rfl, F⟩ := F
      refine x_istore (lv2 := [(6, .int x9), (0, .ref v0), (1, .int v1), (2, .int v2), (3, .int v3), (4, .int v4), (5, .int v5)]) hM d_WP_effect_55 (Nat.le_of_ble_eq_true rfl) rfl ?_
      refine x_aload_n hM d_WP_effect_57 rfl 1 rfl ?_
      refine x_iload_n hM d_WP_effect_58 rfl 2 rfl ?_
      refine x_iload hM d_WP_effect_59 0 rfl ?_
      obtain ⟨c12, F⟩ := F
      refine x_callV hG hM (r' := r_WP_noteActChange) (ci := 0) [.int v1, .int x9] rfl rfl (Nat.le_of_ble_eq_true rfl) yk_WP_noteActChange ⟨Nat.le_of_ble_eq_true rfl, Nat.le_of_ble_eq_true rfl⟩ w_492 w_494 ws_WP_noteActChange rfl rfl (Nat.le_of_ble_eq_true rfl) d_WP_effect_61 c12 (sem_mono F ?_)
      intro u11 h10 F
      obtain ⟨rfl, F⟩ := F
      refine x_iload hM d_WP_effect_64 0 rfl ?_
      exact x_ireturn hM d_WP_effect_66 rfl F
    · replace F := F.1 q28
      refine x_bipush (v := (-2)) hM d_WP_effect_27 (by decide) ?_
      exact x_ireturn hM d_WP_effect_29 rfl F
set_option maxRecDepth 100000 in
set_option maxHeartbeats 4000000 in
theorem S_WP_aim_0 {G : Gc} {M : Mc} {Q : State → Prop} {K : Option Value → Hp → Prop} (hG : gok G) (hM : mok G M r_WP_aim Q K) (v0 : Nat) (v1 : Int32) (v2 : Int32) (v3 : Int32) (h : Hp) (F : kT h v0 = 1 ∧ kR h v0 0 = some (rf h v0 0) ∧ (kT h (rf h v0 0) = 2 ∧ sem G r_Wo_isCondition [.ref (rf h v0 0), .int v1, .int v2, .int v3] h (fun u2 h1 => ∃ x3 : Int32, u2 = some (.int x3) ∧ ((x3 = 0 → K (some (.int (-2))) h1) ∧ (¬ x3 = 0 → (kT h1 v0 = 1 ∧ kR h1 v0 1 = some (rf h1 v0 1) ∧ (kT h1 (rf h1 v0 1) = 5 ∧ sem G r_Cl_add [.ref (rf h1 v0 1), .int v1, .int v2, .int v3] h1 (fun u5 h4 => ∃ x6 : Int32, u5 = some (.int x6) ∧ ((x6 = (-3) → K (some (.int x6)) h4) ∧ (¬ x6 = (-3) → (kT h4 v0 = 1 ∧ kR h4 v0 3 = some (rf h4 v0 3) ∧ (kT h4 (rf h4 v0 3) = 7 ∧ sem G r_Ch_inAim [.ref (rf h4 v0 3)] h4 (fun u8 h7 => u8 = none ∧ K (some (.int x6)) h7))))))))))))) : X G M Q 0 [(0, .ref v0), (1, .int v1), (2, .int v2), (3, .int v3)] [] h := by
  refine x_aload_n hM d_WP_aim_0 rfl 0 rfl ?_
  obtain ⟨c18, F⟩ := F
  obtain ⟨c19, F⟩ := F
  refine x_getr hG hM ck_WP 0 (Nat.le_of_ble_eq_true rfl) rfl rfl w_402 rfl d_WP_aim_1 c18 c19 ?_
  refine x_iload_n hM d_WP_aim_4 rfl 1 rfl ?_
  refine x_iload_n hM d_WP_aim_5 rfl 2 rfl ?_
  refine x_iload_n hM d_WP_aim_6 rfl 3 rfl ?_
  obtain ⟨c17, F⟩ := F
  refine x_callV hG hM (r' := r_Wo_isCondition) (ci := 1) [.int v1, .int v2, .int v3] rfl rfl (Nat.le_of_ble_eq_true rfl) yk_Wo_isCondition ⟨Nat.le_of_ble_eq_true rfl, Nat.le_of_ble_eq_true rfl⟩ w_500 w_501 w_502 rfl rfl (Nat.le_of_ble_eq_true rfl) d_WP_aim_7 c17 (sem_mono F ?_)
  intro u2 h1 F
  obtain ⟨x3, rfl, F⟩ := F
  refine x_if_ne (tgt := 16) hM d_WP_aim_10 (by decide) (fun q16 => ?_) (fun q16 => ?_)
  · replace F := F.2 q16
    refine x_aload_n hM d_WP_aim_16 rfl 0 rfl ?_
    obtain ⟨c14, F⟩ := F
    obtain ⟨c15, F⟩ := F
    refine x_getr hG hM ck_WP 1 (Nat.le_of_ble_eq_true rfl) rfl rfl w_403 rfl d_WP_aim_17 c14 c15 ?_
    refine x_iload_n hM d_WP_aim_20 rfl 1 rfl ?_
    refine x_iload_n hM d_WP_aim_21 rfl 2 rfl ?_
    refine x_iload_n hM d_WP_aim_22 rfl 3 rfl ?_
    obtain ⟨c13, F⟩ := F
    refine x_callV hG hM (r' := r_Cl_add) (ci := 4) [.int v1, .int v2, .int v3] rfl rfl (Nat.le_of_ble_eq_true rfl) yk_Cl_add ⟨Nat.le_of_ble_eq_true rfl, Nat.le_of_ble_eq_true rfl⟩ w_508 w_509 w_510 rfl rfl (Nat.le_of_ble_eq_true rfl) d_WP_aim_23 c13 (sem_mono F ?_)
    intro u5 h4 F
    obtain ⟨x6, rfl, F⟩ := F
    refine x_istore (lv2 := [(4, .int x6), (0, .ref v0), (1, .int v1), (2, .int v2), (3, .int v3)]) hM d_WP_aim_26 (Nat.le_of_ble_eq_true rfl) rfl ?_
    refine x_iload hM d_WP_aim_28 0 rfl ?_
    refine x_bipush (v := (-3)) hM d_WP_aim_30 (by decide) ?_
    refine x_icmp_eq (tgt := 42) hM d_WP_aim_32 (by decide) (fun q12 => ?_) (fun q12 => ?_)
    · replace F := F.1 q12
      refine x_iload hM d_WP_aim_42 0 rfl ?_
      exact x_ireturn hM d_WP_aim_44 rfl F
    · replace F := F.2 q12
      refine x_aload_n hM d_WP_aim_35 rfl 1 rfl ?_
      obtain ⟨c10, F⟩ := F
      obtain ⟨c11, F⟩ := F
      refine x_getr hG hM ck_WP 3 (Nat.le_of_ble_eq_true rfl) rfl rfl w_405 rfl d_WP_aim_36 c10 c11 ?_
      obtain ⟨c9, F⟩ := F
      refine x_callV hG hM (r' := r_Ch_inAim) (ci := 6) [] rfl rfl (Nat.le_of_ble_eq_true rfl) yk_Ch_inAim ⟨Nat.le_of_ble_eq_true rfl, Nat.le_of_ble_eq_true rfl⟩ w_529 w_530 w_531 rfl rfl (Nat.le_of_ble_eq_true rfl) d_WP_aim_39 c9 (sem_mono F ?_)
      intro u8 h7 F
      obtain ⟨rfl, F⟩ := F
      refine x_iload hM d_WP_aim_42 0 rfl ?_
      exact x_ireturn hM d_WP_aim_44 rfl F
  · replace F := F.1 q16
    refine x_bipush (v := (-2)) hM d_WP_aim_13 (by decide) ?_
    exact x_ireturn hM d_WP_aim_15 rfl F
set_option maxRecDepth 100000 in
set_option maxHeartbeats 4000000 in
theorem S_WP_aimless_0 {G : Gc} {M : Mc} {Q : State → Prop} {K : Option Value → Hp → Prop} (hG : gok G) (hM : mok G M r_WP_aimless Q K) (v0 : Nat) (h : Hp) (F : kT h v0 = 1 ∧ kR h v0 1 = some (rf h v0 1) ∧ (kT h (rf h v0 1) = 5 ∧ (kT h v0 = 1 ∧ kR h v0 1 = some (rf h v0 1) ∧ (kT h (rf h v0 1) = 5 ∧ (∀ h1 : Hp, h1 = wI h (rf h v0 1) 0 0 → (((kI h (rf h v0 1) 0) ≤ 0 → K (some (.int (kI h (rf h v0 1) 0))) h1) ∧ (¬ (kI h (rf h v0 1) 0) ≤ 0 → (kT h1 v0 = 1 ∧ kR h1 v0 3 = some (rf h1 v0 3) ∧ (kT h1 (rf h1 v0 3) = 7 ∧ sem G r_Ch_inAim [.ref (rf h1 v0 3)] h1 (fun u3 h2 => u3 = none ∧ K (some (.int (kI h (rf h v0 1) 0))) h2)))))))))) : X G M Q 0 [(0, .ref v0)] [] h := by
  refine x_aload_n hM d_WP_aimless_0 rfl 0 rfl ?_
  obtain ⟨c12, F⟩ := F
  obtain ⟨c13, F⟩ := F
  refine x_getr hG hM ck_WP 1 (Nat.le_of_ble_eq_true rfl) rfl rfl w_403 rfl d_WP_aimless_1 c12 c13 ?_
  obtain ⟨c11, F⟩ := F
  refine x_geti hG hM ck_Cl 0 (Nat.le_of_ble_eq_true rfl) rfl rfl w_45 rfl d_WP_aimless_4 c11 ?_
  refine x_istore_n (lv2 := [(1, .int (kI h (rf h v0 1) 0)), (0, .ref v0)]) hM d_WP_aimless_7 rfl (Nat.le_of_ble_eq_true rfl) rfl ?_
  refine x_aload_n hM d_WP_aimless_8 rfl 1 rfl ?_
  obtain ⟨c9, F⟩ := F
  obtain ⟨c10, F⟩ := F
  refine x_getr hG hM ck_WP 1 (Nat.le_of_ble_eq_true rfl) rfl rfl w_403 rfl d_WP_aimless_9 c9 c10 ?_
  refine x_iconst (v := 0) hM d_WP_aimless_12 (by decide) ?_
  obtain ⟨c8, F⟩ := F
  replace F := F _ rfl
  refine x_puti hG hM ck_Cl 0 (Nat.le_of_ble_eq_true rfl) rfl rfl w_45 rfl d_WP_aimless_13 (Or.inl rfl) c8 ?_
  refine x_iload_n hM d_WP_aimless_16 rfl 0 rfl ?_
  refine x_if_le (tgt := 27) hM d_WP_aimless_17 (by decide) (fun q7 => ?_) (fun q7 => ?_)
  · replace F := F.1 q7
    refine x_iload_n hM d_WP_aimless_27 rfl 0 rfl ?_
    exact x_ireturn hM d_WP_aimless_28 rfl F
  · replace F := F.2 q7
    refine x_aload_n hM d_WP_aimless_20 rfl 1 rfl ?_
    obtain ⟨c5, F⟩ := F
    obtain ⟨c6, F⟩ := F
    refine x_getr hG hM ck_WP 3 (Nat.le_of_ble_eq_true rfl) rfl rfl w_405 rfl d_WP_aimless_21 c5 c6 ?_
    obtain ⟨c4, F⟩ := F
    refine x_callV hG hM (r' := r_Ch_inAim) (ci := 6) [] rfl rfl (Nat.le_of_ble_eq_true rfl) yk_Ch_inAim ⟨Nat.le_of_ble_eq_true rfl, Nat.le_of_ble_eq_true rfl⟩ w_529 w_530 w_531 rfl rfl (Nat.le_of_ble_eq_true rfl) d_WP_aimless_24 c4 (sem_mono F ?_)
    intro u3 h2 F
    obtain ⟨rfl, F⟩ := F
    refine x_iload_n hM d_WP_aimless_27 rfl 0 rfl ?_
    exact x_ireturn hM d_WP_aimless_28 rfl F
set_option maxRecDepth 100000 in
set_option maxHeartbeats 4000000 in
theorem S_WP_unact_0 {G : Gc} {M : Mc} {Q : State → Prop} {K : Option Value → Hp → Prop} (hG : gok G) (hM : mok G M r_WP_unact Q K) (v0 : Nat) (h : Hp) (F : kT h v0 = 1 ∧ kR h v0 0 = some (rf h v0 0) ∧ (kT h (rf h v0 0) = 2 ∧ (((kI h (rf h v0 0) 2) = 0 → K (some (.int (-1))) h) ∧ (¬ (kI h (rf h v0 0) 2) = 0 → (kT h v0 = 1 ∧ kR h v0 0 = some (rf h v0 0) ∧ (kT h (rf h v0 0) = 2 ∧ sem G r_Wo_dropAct [.ref (rf h v0 0)] h (fun u2 h1 => u2 = none ∧ (kT h1 v0 = 1 ∧ kR h1 v0 3 = some (rf h1 v0 3) ∧ (kT h1 (rf h1 v0 3) = 7 ∧ sem G r_Ch_inWorld [.ref (rf h1 v0 3)] h1 (fun u4 h3 => u4 = none ∧ (kT h3 v0 = 1 ∧ kR h3 v0 0 = some (rf h3 v0 0) ∧ (kT h3 (rf h3 v0 0) = 2 ∧ K (some (.int (kI h3 (rf h3 v0 0) 2))) h3)))))))))))) : X G M Q 0 [(0, .ref v0)] [] h := by
  refine x_aload_n hM d_WP_unact_0 rfl 0 rfl ?_
  obtain ⟨c16, F⟩ := F
  obtain ⟨c17, F⟩ := F
  refine x_getr hG hM ck_WP 0 (Nat.le_of_ble_eq_true rfl) rfl rfl w_402 rfl d_WP_unact_1 c16 c17 ?_
  obtain ⟨c15, F⟩ := F
  refine x_geti hG hM ck_Wo 2 (Nat.le_of_ble_eq_true rfl) rfl rfl w_136 rfl d_WP_unact_4 c15 ?_
  refine x_if_ne (tgt := 12) hM d_WP_unact_7 (by decide) (fun q14 => ?_) (fun q14 => ?_)
  · replace F := F.2 q14
    refine x_aload_n hM d_WP_unact_12 rfl 0 rfl ?_
    obtain ⟨c12, F⟩ := F
    obtain ⟨c13, F⟩ := F
    refine x_getr hG hM ck_WP 0 (Nat.le_of_ble_eq_true rfl) rfl rfl w_402 rfl d_WP_unact_13 c12 c13 ?_
    obtain ⟨c11, F⟩ := F
    refine x_callV hG hM (r' := r_Wo_dropAct) (ci := 1) [] rfl rfl (Nat.le_of_ble_eq_true rfl) yk_Wo_dropAct ⟨Nat.le_of_ble_eq_true rfl, Nat.le_of_ble_eq_true rfl⟩ w_541 w_542 w_543 rfl rfl (Nat.le_of_ble_eq_true rfl) d_WP_unact_16 c11 (sem_mono F ?_)
    intro u2 h1 F
    obtain ⟨rfl, F⟩ := F
    refine x_aload_n hM d_WP_unact_19 rfl 0 rfl ?_
    obtain ⟨c9, F⟩ := F
    obtain ⟨c10, F⟩ := F
    refine x_getr hG hM ck_WP 3 (Nat.le_of_ble_eq_true rfl) rfl rfl w_405 rfl d_WP_unact_20 c9 c10 ?_
    obtain ⟨c8, F⟩ := F
    refine x_callV hG hM (r' := r_Ch_inWorld) (ci := 6) [] rfl rfl (Nat.le_of_ble_eq_true rfl) yk_Ch_inWorld ⟨Nat.le_of_ble_eq_true rfl, Nat.le_of_ble_eq_true rfl⟩ w_444 w_445 w_446 rfl rfl (Nat.le_of_ble_eq_true rfl) d_WP_unact_23 c8 (sem_mono F ?_)
    intro u4 h3 F
    obtain ⟨rfl, F⟩ := F
    refine x_aload_n hM d_WP_unact_26 rfl 0 rfl ?_
    obtain ⟨c6, F⟩ := F
    obtain ⟨c7, F⟩ := F
    refine x_getr hG hM ck_WP 0 (Nat.le_of_ble_eq_true rfl) rfl rfl w_402 rfl d_WP_unact_27 c6 c7 ?_
    obtain ⟨c5, F⟩ := F
    refine x_geti hG hM ck_Wo 2 (Nat.le_of_ble_eq_true rfl) rfl rfl w_136 rfl d_WP_unact_30 c5 ?_
    exact x_ireturn hM d_WP_unact_33 rfl F
  · replace F := F.1 q14
    refine x_iconst (v := (-1)) hM d_WP_unact_10 (by decide) ?_
    exact x_ireturn hM d_WP_unact_11 rfl F
set_option maxRecDepth 100000 in
set_option maxHeartbeats 4000000 in
theorem S_WP_leads_0 {G : Gc} {M : Mc} {Q : State → Prop} {K : Option Value → Hp → Prop} (hG : gok G) (hM : mok G M r_WP_leads Q K) (v0 : Nat) (v1 : Int32) (v2 : Int32) (v3 : Int32) (h : Hp) (F : kT h v0 = 1 ∧ kR h v0 0 = some (rf h v0 0) ∧ (kT h (rf h v0 0) = 2 ∧ sem G r_Wo_isState [.ref (rf h v0 0), .int v1] h (fun u2 h1 => ∃ x3 : Int32, u2 = some (.int x3) ∧ ((x3 = 0 → K (some (.int (-2))) h1) ∧ (¬ x3 = 0 → (kT h1 v0 = 1 ∧ kR h1 v0 0 = some (rf h1 v0 0) ∧ (kT h1 (rf h1 v0 0) = 2 ∧ sem G r_Wo_isOutcome [.ref (rf h1 v0 0), .int v2, .int v3] h1 (fun u5 h4 => ∃ x6 : Int32, u5 = some (.int x6) ∧ ((x6 = 0 → K (some (.int (-2))) h4) ∧ (¬ x6 = 0 → (kT h4 v0 = 1 ∧ kR h4 v0 0 = some (rf h4 v0 0) ∧ (kT h4 (rf h4 v0 0) = 2 ∧ kR h4 (rf h4 v0 0) 5 = some (rf h4 (rf h4 v0 0) 5) ∧ (kT h4 (rf h4 (rf h4 v0 0) 5) = 53 ∧ vp_in v2 (kN h4 (rf h4 (rf h4 v0 0) 5)) ∧ kR h4 (rf h4 (rf h4 v0 0) 5) (Int32.toNatClampNeg v2) = some (rf h4 (rf h4 (rf h4 v0 0) 5) (Int32.toNatClampNeg v2)) ∧ (kT h4 v0 = 1 ∧ kR h4 v0 0 = some (rf h4 v0 0) ∧ (kT h4 (rf h4 v0 0) = 2 ∧ sem G r_Wo_pack [.ref (rf h4 v0 0), .int v1] h4 (fun u8 h7 => ∃ x9 : Int32, u8 = some (.int x9) ∧ (kT h7 (rf h4 (rf h4 (rf h4 v0 0) 5) (Int32.toNatClampNeg v2)) = 3 ∧ kR h7 (rf h4 (rf h4 (rf h4 v0 0) 5) (Int32.toNatClampNeg v2)) 0 = some (rf h7 (rf h4 (rf h4 (rf h4 v0 0) 5) (Int32.toNatClampNeg v2)) 0) ∧ (kT h7 (rf h7 (rf h4 (rf h4 (rf h4 v0 0) 5) (Int32.toNatClampNeg v2)) 0) = 5 ∧ sem G r_Cl_hold [.ref (rf h7 (rf h4 (rf h4 (rf h4 v0 0) 5) (Int32.toNatClampNeg v2)) 0), .int x9] h7 (fun u11 h10 => ∃ x12 : Int32, u11 = some (.int x12) ∧ ((x12 = 0 → K (some (.int (-1))) h10) ∧ (¬ x12 = 0 → (kT h10 v0 = 1 ∧ kR h10 v0 0 = some (rf h10 v0 0) ∧ (kT h10 (rf h4 (rf h4 (rf h4 v0 0) 5) (Int32.toNatClampNeg v2)) = 3 ∧ kR h10 (rf h4 (rf h4 (rf h4 v0 0) 5) (Int32.toNatClampNeg v2)) 1 = some (rf h10 (rf h4 (rf h4 (rf h4 v0 0) 5) (Int32.toNatClampNeg v2)) 1) ∧ (kT h10 (rf h10 (rf h4 (rf h4 (rf h4 v0 0) 5) (Int32.toNatClampNeg v2)) 1) = 54 ∧ vp_in v3 (kN h10 (rf h10 (rf h4 (rf h4 (rf h4 v0 0) 5) (Int32.toNatClampNeg v2)) 1)) ∧ kR h10 (rf h10 (rf h4 (rf h4 (rf h4 v0 0) 5) (Int32.toNatClampNeg v2)) 1) (Int32.toNatClampNeg v3) = some (rf h10 (rf h10 (rf h4 (rf h4 (rf h4 v0 0) 5) (Int32.toNatClampNeg v2)) 1) (Int32.toNatClampNeg v3)) ∧ (kT h10 (rf h10 (rf h10 (rf h4 (rf h4 (rf h4 v0 0) 5) (Int32.toNatClampNeg v2)) 1) (Int32.toNatClampNeg v3)) = 4 ∧ kR h10 (rf h10 (rf h10 (rf h4 (rf h4 (rf h4 v0 0) 5) (Int32.toNatClampNeg v2)) 1) (Int32.toNatClampNeg v3)) 0 = some (rf h10 (rf h10 (rf h10 (rf h4 (rf h4 (rf h4 v0 0) 5) (Int32.toNatClampNeg v2)) 1) (Int32.toNatClampNeg v3)) 0) ∧ (kT h10 (rf h10 v0 0) = 2 ∧ sem G r_Wo_after [.ref (rf h10 v0 0), .ref (rf h10 (rf h10 (rf h10 (rf h4 (rf h4 (rf h4 v0 0) 5) (Int32.toNatClampNeg v2)) 1) (Int32.toNatClampNeg v3)) 0), .int v1, .int x9] h10 (fun u14 h13 => ∃ x15 : Int32, u14 = some (.int x15) ∧ K (some (.int x15)) h13))))))))))))))))))))))))))) : X G M Q 0 [(0, .ref v0), (1, .int v1), (2, .int v2), (3, .int v3)] [] h := by
  refine x_aload_n hM d_WP_leads_0 rfl 0 rfl ?_
  obtain ⟨c46, F⟩ := F
  obtain ⟨c47, F⟩ := F
  refine x_getr hG hM ck_WP 0 (Nat.le_of_ble_eq_true rfl) rfl rfl w_402 rfl d_WP_leads_1 c46 c47 ?_
  refine x_iload_n hM d_WP_leads_4 rfl 1 rfl ?_
  obtain ⟨c45, F⟩ := F
  refine x_callV hG hM (r' := r_Wo_isState) (ci := 1) [.int v1] rfl rfl (Nat.le_of_ble_eq_true rfl) yk_Wo_isState ⟨Nat.le_of_ble_eq_true rfl, Nat.le_of_ble_eq_true rfl⟩ w_460 w_461 w_462 rfl rfl (Nat.le_of_ble_eq_true rfl) d_WP_leads_5 c45 (sem_mono F ?_)
  intro u2 h1 F
  obtain ⟨x3, rfl, F⟩ := F
  refine x_if_eq (tgt := 23) hM d_WP_leads_8 (by decide) (fun q44 => ?_) (fun q44 => ?_)
  · replace F := F.1 q44
    refine x_bipush (v := (-2)) hM d_WP_leads_23 (by decide) ?_
    exact x_ireturn hM d_WP_leads_25 rfl F
  · replace F := F.2 q44
    refine x_aload_n hM d_WP_leads_11 rfl 0 rfl ?_
    obtain ⟨c42, F⟩ := F
    obtain ⟨c43, F⟩ := F
    refine x_getr hG hM ck_WP 0 (Nat.le_of_ble_eq_true rfl) rfl rfl w_402 rfl d_WP_leads_12 c42 c43 ?_
    refine x_iload_n hM d_WP_leads_15 rfl 2 rfl ?_
    refine x_iload_n hM d_WP_leads_16 rfl 3 rfl ?_
    obtain ⟨c41, F⟩ := F
    refine x_callV hG hM (r' := r_Wo_isOutcome) (ci := 1) [.int v2, .int v3] rfl rfl (Nat.le_of_ble_eq_true rfl) yk_Wo_isOutcome ⟨Nat.le_of_ble_eq_true rfl, Nat.le_of_ble_eq_true rfl⟩ w_516 w_517 w_518 rfl rfl (Nat.le_of_ble_eq_true rfl) d_WP_leads_17 c41 (sem_mono F ?_)
    intro u5 h4 F
    obtain ⟨x6, rfl, F⟩ := F
    refine x_if_ne (tgt := 26) hM d_WP_leads_20 (by decide) (fun q40 => ?_) (fun q40 => ?_)
    · replace F := F.2 q40
      refine x_aload_n hM d_WP_leads_26 rfl 0 rfl ?_
      obtain ⟨c38, F⟩ := F
      obtain ⟨c39, F⟩ := F
      refine x_getr hG hM ck_WP 0 (Nat.le_of_ble_eq_true rfl) rfl rfl w_402 rfl d_WP_leads_27 c38 c39 ?_
      obtain ⟨c36, F⟩ := F
      obtain ⟨c37, F⟩ := F
      refine x_getr hG hM ck_Wo 5 (Nat.le_of_ble_eq_true rfl) rfl rfl w_146 rfl d_WP_leads_30 c36 c37 ?_
      refine x_iload_n hM d_WP_leads_33 rfl 2 rfl ?_
      obtain ⟨c33, F⟩ := F
      obtain ⟨c34, F⟩ := F
      obtain ⟨c35, F⟩ := F
      refine x_aaload hG hM 53 rfl (Nat.le_of_ble_eq_true rfl) d_WP_leads_34 c33 c34 c35 ?_
      refine x_astore (lv2 := [(4, .ref (rf h4 (rf h4 (rf h4 v0 0) 5) (Int32.toNatClampNeg v2))), (0, .ref v0), (1, .int v1), (2, .int v2), (3, .int v3)]) hM d_WP_leads_35 (Nat.le_of_ble_eq_true rfl) rfl ?_
      refine x_aload_n hM d_WP_leads_37 rfl 1 rfl ?_
      obtain ⟨c31, F⟩ := F
      obtain ⟨c32, F⟩ := F
      refine x_getr hG hM ck_WP 0 (Nat.le_of_ble_eq_true rfl) rfl rfl w_402 rfl d_WP_leads_38 c31 c32 ?_
      refine x_iload_n hM d_WP_leads_41 rfl 2 rfl ?_
      obtain ⟨c30, F⟩ := F
      refine x_callV hG hM (r' := r_Wo_pack) (ci := 1) [.int v1] rfl rfl (Nat.le_of_ble_eq_true rfl) yk_Wo_pack ⟨Nat.le_of_ble_eq_true rfl, Nat.le_of_ble_eq_true rfl⟩ w_549 w_550 w_551 rfl rfl (Nat.le_of_ble_eq_true rfl) d_WP_leads_42 c30 (sem_mono F ?_)
      intro u8 h7 F
      obtain ⟨x9, rfl, F⟩ := F
      refine x_istore (lv2 := [(5, .int x9), (4, .ref (rf h4 (rf h4 (rf h4 v0 0) 5) (Int32.toNatClampNeg v2))), (0, .ref v0), (1, .int v1), (2, .int v2), (3, .int v3)]) hM d_WP_leads_45 (Nat.le_of_ble_eq_true rfl) rfl ?_
      refine x_aload hM d_WP_leads_47 1 rfl ?_
      obtain ⟨c28, F⟩ := F
      obtain ⟨c29, F⟩ := F
      refine x_getr hG hM ck_Ac 0 (Nat.le_of_ble_eq_true rfl) rfl rfl w_95 rfl d_WP_leads_49 c28 c29 ?_
      refine x_iload hM d_WP_leads_52 0 rfl ?_
      obtain ⟨c27, F⟩ := F
      refine x_callV hG hM (r' := r_Cl_hold) (ci := 4) [.int x9] rfl rfl (Nat.le_of_ble_eq_true rfl) yk_Cl_hold ⟨Nat.le_of_ble_eq_true rfl, Nat.le_of_ble_eq_true rfl⟩ w_553 w_554 w_555 rfl rfl (Nat.le_of_ble_eq_true rfl) d_WP_leads_54 c27 (sem_mono F ?_)
      intro u11 h10 F
      obtain ⟨x12, rfl, F⟩ := F
      refine x_if_eq (tgt := 83) hM d_WP_leads_57 (by decide) (fun q26 => ?_) (fun q26 => ?_)
      · replace F := F.1 q26
        refine x_iconst (v := (-1)) hM d_WP_leads_83 (by decide) ?_
        exact x_ireturn hM d_WP_leads_84 rfl F
      · replace F := F.2 q26
        refine x_aload_n hM d_WP_leads_60 rfl 2 rfl ?_
        obtain ⟨c24, F⟩ := F
        obtain ⟨c25, F⟩ := F
        refine x_getr hG hM ck_WP 0 (Nat.le_of_ble_eq_true rfl) rfl rfl w_402 rfl d_WP_leads_61 c24 c25 ?_
        refine x_aload hM d_WP_leads_64 1 rfl ?_
        obtain ⟨c22, F⟩ := F
        obtain ⟨c23, F⟩ := F
        refine x_getr hG hM ck_Ac 1 (Nat.le_of_ble_eq_true rfl) rfl rfl w_101 rfl d_WP_leads_66 c22 c23 ?_
        refine x_iload_n hM d_WP_leads_69 rfl 5 rfl ?_
        obtain ⟨c19, F⟩ := F
        obtain ⟨c20, F⟩ := F
        obtain ⟨c21, F⟩ := F
        refine x_aaload hG hM 54 rfl (Nat.le_of_ble_eq_true rfl) d_WP_leads_70 c19 c20 c21 ?_
        obtain ⟨c17, F⟩ := F
        obtain ⟨c18, F⟩ := F
        refine x_getr hG hM ck_Ou 0 (Nat.le_of_ble_eq_true rfl) rfl rfl w_75 rfl d_WP_leads_71 c17 c18 ?_
        refine x_iload_n hM d_WP_leads_74 rfl 3 rfl ?_
        refine x_iload hM d_WP_leads_75 0 rfl ?_
        obtain ⟨c16, F⟩ := F
        refine x_callV hG hM (r' := r_Wo_after) (ci := 1) [.ref (rf h10 (rf h10 (rf h10 (rf h4 (rf h4 (rf h4 v0 0) 5) (Int32.toNatClampNeg v2)) 1) (Int32.toNatClampNeg v3)) 0), .int v1, .int x9] rfl rfl (Nat.le_of_ble_eq_true rfl) yk_Wo_after ⟨Nat.le_of_ble_eq_true rfl, Nat.le_of_ble_eq_true rfl⟩ w_560 w_561 w_562 rfl rfl (Nat.le_of_ble_eq_true rfl) d_WP_leads_77 c16 (sem_mono F ?_)
        intro u14 h13 F
        obtain ⟨x15, rfl, F⟩ := F
        refine x_goto (tgt := 84) hM d_WP_leads_80 (by decide) ?_
        exact x_ireturn hM d_WP_leads_84 rfl F
    · replace F := F.1 q40
      refine x_bipush (v := (-2)) hM d_WP_leads_23 (by decide) ?_
      exact x_ireturn hM d_WP_leads_25 rfl F
set_option maxRecDepth 100000 in
set_option maxHeartbeats 4000000 in
theorem S_WP_count_0 {G : Gc} {M : Mc} {Q : State → Prop} {K : Option Value → Hp → Prop} (hG : gok G) (hM : mok G M r_WP_count Q K) (v0 : Nat) (v1 : Int32) (h : Hp) (F : (v1 < 3 → X G M Q 18 [(0, .ref v0), (1, .int v1)] [] h) ∧ (¬ v1 < 3 → ((9 < v1 → X G M Q 18 [(0, .ref v0), (1, .int v1)] [] h) ∧ (¬ 9 < v1 → (kT h v0 = 1 ∧ kR h v0 0 = some (rf h v0 0) ∧ (kT h (rf h v0 0) = 2 ∧ sem G r_Wo_prepare [.ref (rf h v0 0)] h (fun u2 h1 => u2 = none ∧ X G M Q 18 [(0, .ref v0), (1, .int v1)] [] h1))))))) : X G M Q 0 [(0, .ref v0), (1, .int v1)] [] h := by
  refine x_iload_n hM d_WP_count_0 rfl 1 rfl ?_
  refine x_iconst (v := 3) hM d_WP_count_1 (by decide) ?_
  refine x_icmp_lt (tgt := 18) hM d_WP_count_2 (by decide) (fun q7 => ?_) (fun q7 => ?_)
  · replace F := F.1 q7
    exact F
  · replace F := F.2 q7
    refine x_iload_n hM d_WP_count_5 rfl 1 rfl ?_
    refine x_bipush (v := 9) hM d_WP_count_6 (by decide) ?_
    refine x_icmp_gt (tgt := 18) hM d_WP_count_8 (by decide) (fun q6 => ?_) (fun q6 => ?_)
    · replace F := F.1 q6
      exact F
    · replace F := F.2 q6
      refine x_aload_n hM d_WP_count_11 rfl 0 rfl ?_
      obtain ⟨c4, F⟩ := F
      obtain ⟨c5, F⟩ := F
      refine x_getr hG hM ck_WP 0 (Nat.le_of_ble_eq_true rfl) rfl rfl w_402 rfl d_WP_count_12 c4 c5 ?_
      obtain ⟨c3, F⟩ := F
      refine x_callV hG hM (r' := r_Wo_prepare) (ci := 1) [] rfl rfl (Nat.le_of_ble_eq_true rfl) yk_Wo_prepare ⟨Nat.le_of_ble_eq_true rfl, Nat.le_of_ble_eq_true rfl⟩ w_577 w_578 w_579 rfl rfl (Nat.le_of_ble_eq_true rfl) d_WP_count_15 c3 (sem_mono F ?_)
      intro u2 h1 F
      obtain ⟨rfl, F⟩ := F
      exact F
set_option maxRecDepth 100000 in
set_option maxHeartbeats 4000000 in
theorem S_WP_count_18 {G : Gc} {M : Mc} {Q : State → Prop} {K : Option Value → Hp → Prop} (hG : gok G) (hM : mok G M r_WP_count Q K) (v0 : Nat) (v1 : Int32) (h : Hp) (F : (v1 = 0 → (kT h v0 = 1 ∧ kR h v0 0 = some (rf h v0 0) ∧ (kT h (rf h v0 0) = 2 ∧ K (some (.int (kI h (rf h v0 0) 1))) h))) ∧ (v1 = 1 → (kT h v0 = 1 ∧ kR h v0 0 = some (rf h v0 0) ∧ (kT h (rf h v0 0) = 2 ∧ K (some (.int (kI h (rf h v0 0) 0))) h))) ∧ (v1 = 2 → (kT h v0 = 1 ∧ kR h v0 0 = some (rf h v0 0) ∧ (kT h (rf h v0 0) = 2 ∧ K (some (.int (kI h (rf h v0 0) 2))) h))) ∧ (v1 = 3 → (kT h v0 = 1 ∧ sem G r_WP_findReached [.ref v0] h (fun u11 h10 => u11 = none ∧ (kT h10 v0 = 1 ∧ kR h10 v0 4 = some (rf h10 v0 4) ∧ (kT h10 (rf h10 v0 4) = 8 ∧ K (some (.int (kI h10 (rf h10 v0 4) 3))) h10))))) ∧ (v1 = 4 → (kT h v0 = 1 ∧ sem G r_WP_findAim [.ref v0] h (fun u17 h16 => u17 = none ∧ (kT h16 v0 = 1 ∧ kR h16 v0 5 = some (rf h16 v0 5) ∧ (kT h16 (rf h16 v0 5) = 9 ∧ K (some (.int (kI h16 (rf h16 v0 5) 1))) h16))))) ∧ (v1 = 5 → (kT h v0 = 1 ∧ sem G r_WP_findNumbers [.ref v0, .int 1] h (fun u23 h22 => ∃ x24 : Nat, u23 = some (.ref x24) ∧ (kT h22 v0 = 1 ∧ sem G r_WP_countNumbered [.ref v0, .ref x24] h22 (fun u26 h25 => ∃ x27 : Int32, u26 = some (.int x27) ∧ K (some (.int x27)) h25))))) ∧ (v1 = 6 → (kT h v0 = 1 ∧ sem G r_WP_findNumbers [.ref v0, .int 2] h (fun u31 h30 => ∃ x32 : Nat, u31 = some (.ref x32) ∧ (kT h30 v0 = 1 ∧ sem G r_WP_countNumbered [.ref v0, .ref x32] h30 (fun u34 h33 => ∃ x35 : Int32, u34 = some (.int x35) ∧ K (some (.int x35)) h33))))) ∧ (v1 = 7 → (kT h v0 = 1 ∧ sem G r_WP_findNumbers [.ref v0, .int 3] h (fun u39 h38 => ∃ x40 : Nat, u39 = some (.ref x40) ∧ (kT h38 v0 = 1 ∧ sem G r_WP_countNumbered [.ref v0, .ref x40] h38 (fun u42 h41 => ∃ x43 : Int32, u42 = some (.int x43) ∧ K (some (.int x43)) h41))))) ∧ (v1 = 8 → (kT h v0 = 1 ∧ sem G r_WP_countDead [.ref v0] h (fun u47 h46 => ∃ x48 : Int32, u47 = some (.int x48) ∧ K (some (.int x48)) h46))) ∧ (v1 = 9 → (kT h v0 = 1 ∧ sem G r_WP_findKinds [.ref v0] h (fun u51 h50 => u51 = none ∧ (kT h50 v0 = 1 ∧ kR h50 v0 6 = some (rf h50 v0 6) ∧ (kT h50 (rf h50 v0 6) = 10 ∧ K (some (.int (kI h50 (rf h50 v0 6) 0))) h50))))) ∧ (v1 = 10 → (kT h v0 = 1 ∧ kR h v0 2 = some (rf h v0 2) ∧ (kT h (rf h v0 2) = 6 ∧ K (some (.int (kI h (rf h v0 2) 0))) h))) ∧ (¬ v1 = 0 → ¬ v1 = 1 → ¬ v1 = 2 → ¬ v1 = 3 → ¬ v1 = 4 → ¬ v1 = 5 → ¬ v1 = 6 → ¬ v1 = 7 → ¬ v1 = 8 → ¬ v1 = 9 → ¬ v1 = 10 → K (some (.int (-2))) h)) : X G M Q 18 [(0, .ref v0), (1, .int v1)] [] h := by
  refine x_iload_n hM d_WP_count_18 rfl 1 rfl ?_
  by_cases q19_0 : v1 = 0
  · replace F := F.1 q19_0
    refine x_tblIn (tgt := 76) hM d_WP_count_19 (by rw [q19_0]; decide) (by rw [q19_0]; decide) (by rw [q19_0]; rfl) (by decide) ?_
    refine x_aload_n hM d_WP_count_76 rfl 0 rfl ?_
    obtain ⟨c2, F⟩ := F
    obtain ⟨c3, F⟩ := F
    refine x_getr hG hM ck_WP 0 (Nat.le_of_ble_eq_true rfl) rfl rfl w_402 rfl d_WP_count_77 c2 c3 ?_
    obtain ⟨c1, F⟩ := F
    refine x_geti hG hM ck_Wo 1 (Nat.le_of_ble_eq_true rfl) rfl rfl w_132 rfl d_WP_count_80 c1 ?_
    exact x_ireturn hM d_WP_count_83 rfl F
  by_cases q19_1 : v1 = 1
  · replace F := F.2.1 q19_1
    refine x_tblIn (tgt := 84) hM d_WP_count_19 (by rw [q19_1]; decide) (by rw [q19_1]; decide) (by rw [q19_1]; rfl) (by decide) ?_
    refine x_aload_n hM d_WP_count_84 rfl 0 rfl ?_
    obtain ⟨c5, F⟩ := F
    obtain ⟨c6, F⟩ := F
    refine x_getr hG hM ck_WP 0 (Nat.le_of_ble_eq_true rfl) rfl rfl w_402 rfl d_WP_count_85 c5 c6 ?_
    obtain ⟨c4, F⟩ := F
    refine x_geti hG hM ck_Wo 0 (Nat.le_of_ble_eq_true rfl) rfl rfl w_124 rfl d_WP_count_88 c4 ?_
    exact x_ireturn hM d_WP_count_91 rfl F
  by_cases q19_2 : v1 = 2
  · replace F := F.2.2.1 q19_2
    refine x_tblIn (tgt := 92) hM d_WP_count_19 (by rw [q19_2]; decide) (by rw [q19_2]; decide) (by rw [q19_2]; rfl) (by decide) ?_
    refine x_aload_n hM d_WP_count_92 rfl 0 rfl ?_
    obtain ⟨c8, F⟩ := F
    obtain ⟨c9, F⟩ := F
    refine x_getr hG hM ck_WP 0 (Nat.le_of_ble_eq_true rfl) rfl rfl w_402 rfl d_WP_count_93 c8 c9 ?_
    obtain ⟨c7, F⟩ := F
    refine x_geti hG hM ck_Wo 2 (Nat.le_of_ble_eq_true rfl) rfl rfl w_136 rfl d_WP_count_96 c7 ?_
    exact x_ireturn hM d_WP_count_99 rfl F
  by_cases q19_3 : v1 = 3
  · replace F := F.2.2.2.1 q19_3
    refine x_tblIn (tgt := 100) hM d_WP_count_19 (by rw [q19_3]; decide) (by rw [q19_3]; decide) (by rw [q19_3]; rfl) (by decide) ?_
    refine x_aload_n hM d_WP_count_100 rfl 0 rfl ?_
    obtain ⟨c15, F⟩ := F
    refine x_callV hG hM (r' := r_WP_findReached) (ci := 0) [] rfl rfl (Nat.le_of_ble_eq_true rfl) yk_WP_findReached ⟨Nat.le_of_ble_eq_true rfl, Nat.le_of_ble_eq_true rfl⟩ w_616 w_618 ws_WP_findReached rfl rfl (Nat.le_of_ble_eq_true rfl) d_WP_count_101 c15 (sem_mono F ?_)
    intro u11 h10 F
    obtain ⟨rfl, F⟩ := F
    refine x_aload_n hM d_WP_count_104 rfl 0 rfl ?_
    obtain ⟨c13, F⟩ := F
    obtain ⟨c14, F⟩ := F
    refine x_getr hG hM ck_WP 4 (Nat.le_of_ble_eq_true rfl) rfl rfl w_406 rfl d_WP_count_105 c13 c14 ?_
    obtain ⟨c12, F⟩ := F
    refine x_geti hG hM ck_Re 3 (Nat.le_of_ble_eq_true rfl) rfl rfl w_262 rfl d_WP_count_108 c12 ?_
    exact x_ireturn hM d_WP_count_111 rfl F
  by_cases q19_4 : v1 = 4
  · replace F := F.2.2.2.2.1 q19_4
    refine x_tblIn (tgt := 112) hM d_WP_count_19 (by rw [q19_4]; decide) (by rw [q19_4]; decide) (by rw [q19_4]; rfl) (by decide) ?_
    refine x_aload_n hM d_WP_count_112 rfl 0 rfl ?_
    obtain ⟨c21, F⟩ := F
    refine x_callV hG hM (r' := r_WP_findAim) (ci := 0) [] rfl rfl (Nat.le_of_ble_eq_true rfl) yk_WP_findAim ⟨Nat.le_of_ble_eq_true rfl, Nat.le_of_ble_eq_true rfl⟩ w_638 w_640 ws_WP_findAim rfl rfl (Nat.le_of_ble_eq_true rfl) d_WP_count_113 c21 (sem_mono F ?_)
    intro u17 h16 F
    obtain ⟨rfl, F⟩ := F
    refine x_aload_n hM d_WP_count_116 rfl 0 rfl ?_
    obtain ⟨c19, F⟩ := F
    obtain ⟨c20, F⟩ := F
    refine x_getr hG hM ck_WP 5 (Nat.le_of_ble_eq_true rfl) rfl rfl w_407 rfl d_WP_count_117 c19 c20 ?_
    obtain ⟨c18, F⟩ := F
    refine x_geti hG hM ck_Wi 1 (Nat.le_of_ble_eq_true rfl) rfl rfl w_286 rfl d_WP_count_120 c18 ?_
    exact x_ireturn hM d_WP_count_123 rfl F
  by_cases q19_5 : v1 = 5
  · replace F := F.2.2.2.2.2.1 q19_5
    refine x_tblIn (tgt := 124) hM d_WP_count_19 (by rw [q19_5]; decide) (by rw [q19_5]; decide) (by rw [q19_5]; rfl) (by decide) ?_
    refine x_aload_n hM d_WP_count_124 rfl 0 rfl ?_
    refine x_aload_n hM d_WP_count_125 rfl 0 rfl ?_
    refine x_iconst (v := 1) hM d_WP_count_126 (by decide) ?_
    obtain ⟨c29, F⟩ := F
    refine x_callV hG hM (r' := r_WP_findNumbers) (ci := 0) [.int 1] rfl rfl (Nat.le_of_ble_eq_true rfl) yk_WP_findNumbers ⟨Nat.le_of_ble_eq_true rfl, Nat.le_of_ble_eq_true rfl⟩ w_650 w_652 ws_WP_findNumbers rfl rfl (Nat.le_of_ble_eq_true rfl) d_WP_count_127 c29 (sem_mono F ?_)
    intro u23 h22 F
    obtain ⟨x24, rfl, F⟩ := F
    obtain ⟨c28, F⟩ := F
    refine x_callV hG hM (r' := r_WP_countNumbered) (ci := 0) [.ref x24] rfl rfl (Nat.le_of_ble_eq_true rfl) yk_WP_countNumbered ⟨Nat.le_of_ble_eq_true rfl, Nat.le_of_ble_eq_true rfl⟩ w_686 w_688 ws_WP_countNumbered rfl rfl (Nat.le_of_ble_eq_true rfl) d_WP_count_130 c28 (sem_mono F ?_)
    intro u26 h25 F
    obtain ⟨x27, rfl, F⟩ := F
    exact x_ireturn hM d_WP_count_133 rfl F
  by_cases q19_6 : v1 = 6
  · replace F := F.2.2.2.2.2.2.1 q19_6
    refine x_tblIn (tgt := 134) hM d_WP_count_19 (by rw [q19_6]; decide) (by rw [q19_6]; decide) (by rw [q19_6]; rfl) (by decide) ?_
    refine x_aload_n hM d_WP_count_134 rfl 0 rfl ?_
    refine x_aload_n hM d_WP_count_135 rfl 0 rfl ?_
    refine x_iconst (v := 2) hM d_WP_count_136 (by decide) ?_
    obtain ⟨c37, F⟩ := F
    refine x_callV hG hM (r' := r_WP_findNumbers) (ci := 0) [.int 2] rfl rfl (Nat.le_of_ble_eq_true rfl) yk_WP_findNumbers ⟨Nat.le_of_ble_eq_true rfl, Nat.le_of_ble_eq_true rfl⟩ w_650 w_652 ws_WP_findNumbers rfl rfl (Nat.le_of_ble_eq_true rfl) d_WP_count_137 c37 (sem_mono F ?_)
    intro u31 h30 F
    obtain ⟨x32, rfl, F⟩ := F
    obtain ⟨c36, F⟩ := F
    refine x_callV hG hM (r' := r_WP_countNumbered) (ci := 0) [.ref x32] rfl rfl (Nat.le_of_ble_eq_true rfl) yk_WP_countNumbered ⟨Nat.le_of_ble_eq_true rfl, Nat.le_of_ble_eq_true rfl⟩ w_686 w_688 ws_WP_countNumbered rfl rfl (Nat.le_of_ble_eq_true rfl) d_WP_count_140 c36 (sem_mono F ?_)
    intro u34 h33 F
    obtain ⟨x35, rfl, F⟩ := F
    exact x_ireturn hM d_WP_count_143 rfl F
  by_cases q19_7 : v1 = 7
  · replace F := F.2.2.2.2.2.2.2.1 q19_7
    refine x_tblIn (tgt := 144) hM d_WP_count_19 (by rw [q19_7]; decide) (by rw [q19_7]; decide) (by rw [q19_7]; rfl) (by decide) ?_
    refine x_aload_n hM d_WP_count_144 rfl 0 rfl ?_
    refine x_aload_n hM d_WP_count_145 rfl 0 rfl ?_
    refine x_iconst (v := 3) hM d_WP_count_146 (by decide) ?_
    obtain ⟨c45, F⟩ := F
    refine x_callV hG hM (r' := r_WP_findNumbers) (ci := 0) [.int 3] rfl rfl (Nat.le_of_ble_eq_true rfl) yk_WP_findNumbers ⟨Nat.le_of_ble_eq_true rfl, Nat.le_of_ble_eq_true rfl⟩ w_650 w_652 ws_WP_findNumbers rfl rfl (Nat.le_of_ble_eq_true rfl) d_WP_count_147 c45 (sem_mono F ?_)
    intro u39 h38 F
    obtain ⟨x40, rfl, F⟩ := F
    obtain ⟨c44, F⟩ := F
    refine x_callV hG hM (r' := r_WP_countNumbered) (ci := 0) [.ref x40] rfl rfl (Nat.le_of_ble_eq_true rfl) yk_WP_countNumbered ⟨Nat.le_of_ble_eq_true rfl, Nat.le_of_ble_eq_true rfl⟩ w_686 w_688 ws_WP_countNumbered rfl rfl (Nat.le_of_ble_eq_true rfl) d_WP_count_150 c44 (sem_mono F ?_)
    intro u42 h41 F
    obtain ⟨x43, rfl, F⟩ := F
    exact x_ireturn hM d_WP_count_153 rfl F
  by_cases q19_8 : v1 = 8
  · replace F := F.2.2.2.2.2.2.2.2.1 q19_8
    refine x_tblIn (tgt := 154) hM d_WP_count_19 (by rw [q19_8]; decide) (by rw [q19_8]; decide) (by rw [q19_8]; rfl) (by decide) ?_
    refine x_aload_n hM d_WP_count_154 rfl 0 rfl ?_
    obtain ⟨c49, F⟩ := F
    refine x_callV hG hM (r' := r_WP_countDead) (ci := 0) [] rfl rfl (Nat.le_of_ble_eq_true rfl) yk_WP_countDead ⟨Nat.le_of_ble_eq_true rfl, Nat.le_of_ble_eq_true rfl⟩ w_690 w_692 ws_WP_countDead rfl rfl (Nat.le_of_ble_eq_true rfl) d_WP_count_155 c49 (sem_mono F ?_)
    intro u47 h46 F
    obtain ⟨x48, rfl, F⟩ := F
    exact x_ireturn hM d_WP_count_158 rfl F
  by_cases q19_9 : v1 = 9
  · replace F := F.2.2.2.2.2.2.2.2.2.1 q19_9
    refine x_tblIn (tgt := 159) hM d_WP_count_19 (by rw [q19_9]; decide) (by rw [q19_9]; decide) (by rw [q19_9]; rfl) (by decide) ?_
    refine x_aload_n hM d_WP_count_159 rfl 0 rfl ?_
    obtain ⟨c55, F⟩ := F
    refine x_callV hG hM (r' := r_WP_findKinds) (ci := 0) [] rfl rfl (Nat.le_of_ble_eq_true rfl) yk_WP_findKinds ⟨Nat.le_of_ble_eq_true rfl, Nat.le_of_ble_eq_true rfl⟩ w_694 w_696 ws_WP_findKinds rfl rfl (Nat.le_of_ble_eq_true rfl) d_WP_count_160 c55 (sem_mono F ?_)
    intro u51 h50 F
    obtain ⟨rfl, F⟩ := F
    refine x_aload_n hM d_WP_count_163 rfl 0 rfl ?_
    obtain ⟨c53, F⟩ := F
    obtain ⟨c54, F⟩ := F
    refine x_getr hG hM ck_WP 6 (Nat.le_of_ble_eq_true rfl) rfl rfl w_408 rfl d_WP_count_164 c53 c54 ?_
    obtain ⟨c52, F⟩ := F
    refine x_geti hG hM ck_Ki 0 (Nat.le_of_ble_eq_true rfl) rfl rfl w_322 rfl d_WP_count_167 c52 ?_
    exact x_ireturn hM d_WP_count_170 rfl F
  by_cases q19_10 : v1 = 10
  · replace F := F.2.2.2.2.2.2.2.2.2.2.1 q19_10
    refine x_tblIn (tgt := 171) hM d_WP_count_19 (by rw [q19_10]; decide) (by rw [q19_10]; decide) (by rw [q19_10]; rfl) (by decide) ?_
    refine x_aload_n hM d_WP_count_171 rfl 0 rfl ?_
    obtain ⟨c57, F⟩ := F
    obtain ⟨c58, F⟩ := F
    refine x_getr hG hM ck_WP 2 (Nat.le_of_ble_eq_true rfl) rfl rfl w_404 rfl d_WP_count_172 c57 c58 ?_
    obtain ⟨c56, F⟩ := F
    refine x_geti hG hM ck_Co 0 (Nat.le_of_ble_eq_true rfl) rfl rfl w_195 rfl d_WP_count_175 c56 ?_
    exact x_ireturn hM d_WP_count_178 rfl F
  replace F := F.2.2.2.2.2.2.2.2.2.2.2 q19_0 q19_1 q19_2 q19_3 q19_4 q19_5 q19_6 q19_7 q19_8 q19_9 q19_10
  refine x_tblOut (tgt := 179) hM d_WP_count_19 (sw_out10 q19_0 q19_1 q19_2 q19_3 q19_4 q19_5 q19_6 q19_7 q19_8 q19_9 q19_10) (by decide) ?_
  refine x_bipush (v := (-2)) hM d_WP_count_179 (by decide) ?_
  exact x_ireturn hM d_WP_count_181 rfl F
set_option maxRecDepth 100000 in
set_option maxHeartbeats 4000000 in
theorem S_WP_findReached_0 {G : Gc} {M : Mc} {Q : State → Prop} {K : Option Value → Hp → Prop} (hG : gok G) (hM : mok G M r_WP_findReached Q K) (v0 : Nat) (h : Hp) (F : kT h v0 = 1 ∧ kR h v0 4 = some (rf h v0 4) ∧ (kT h (rf h v0 4) = 8 ∧ (kT h v0 = 1 ∧ kR h v0 3 = some (rf h v0 3) ∧ (kT h (rf h v0 3) = 7 ∧ (kT h v0 = 1 ∧ kR h v0 3 = some (rf h v0 3) ∧ (kT h (rf h v0 3) = 7 ∧ ((0 ≤ (lg_cmp (kL h (rf h v0 4) 4) (if (kL h (rf h v0 3) 2) < (kL h (rf h v0 3) 1) then (kL h (rf h v0 3) 1) else (kL h (rf h v0 3) 2))) → K none h) ∧ (¬ 0 ≤ (lg_cmp (kL h (rf h v0 4) 4) (if (kL h (rf h v0 3) 2) < (kL h (rf h v0 3) 1) then (kL h (rf h v0 3) 1) else (kL h (rf h v0 3) 2))) → (kT h v0 = 1 ∧ kR h v0 4 = some (rf h v0 4) ∧ (kT h v0 = 1 ∧ kR h v0 0 = some (rf h v0 0) ∧ (kT h v0 = 1 ∧ (kT h (rf h v0 4) = 8 ∧ sem G r_Re_spread [.ref (rf h v0 4), .ref (rf h v0 0), .int (kI h v0 8)] h (fun u2 h1 => u2 = none ∧ (kT h1 v0 = 1 ∧ kR h1 v0 4 = some (rf h1 v0 4) ∧ (kT h1 v0 = 1 ∧ kR h1 v0 3 = some (rf h1 v0 3) ∧ (kT h1 (rf h1 v0 3) = 7 ∧ (kT h1 (rf h1 v0 4) = 8 ∧ (∀ h3 : Hp, h3 = wL h1 (rf h1 v0 4) 4 (kL h1 (rf h1 v0 3) 0) → K none h3)))))))))))))))))) : X G M Q 0 [(0, .ref v0)] [] h := by
  refine x_aload_n hM d_WP_findReached_0 rfl 0 rfl ?_
  obtain ⟨c24, F⟩ := F
  obtain ⟨c25, F⟩ := F
  refine x_getr hG hM ck_WP 4 (Nat.le_of_ble_eq_true rfl) rfl rfl w_406 rfl d_WP_findReached_1 c24 c25 ?_
  obtain ⟨c23, F⟩ := F
  refine x_getl hG hM ck_Re 4 (Nat.le_of_ble_eq_true rfl) rfl rfl w_264 rfl d_WP_findReached_4 c23 ?_
  refine x_aload_n hM d_WP_findReached_7 rfl 0 rfl ?_
  obtain ⟨c21, F⟩ := F
  obtain ⟨c22, F⟩ := F
  refine x_getr hG hM ck_WP 3 (Nat.le_of_ble_eq_true rfl) rfl rfl w_405 rfl d_WP_findReached_8 c21 c22 ?_
  obtain ⟨c20, F⟩ := F
  refine x_getl hG hM ck_Ch 1 (Nat.le_of_ble_eq_true rfl) rfl rfl w_236 rfl d_WP_findReached_11 c20 ?_
  refine x_aload_n hM d_WP_findReached_14 rfl 0 rfl ?_
  obtain ⟨c18, F⟩ := F
  obtain ⟨c19, F⟩ := F
  refine x_getr hG hM ck_WP 3 (Nat.le_of_ble_eq_true rfl) rfl rfl w_405 rfl d_WP_findReached_15 c18 c19 ?_
  obtain ⟨c17, F⟩ := F
  refine x_getl hG hM ck_Ch 2 (Nat.le_of_ble_eq_true rfl) rfl rfl w_238 rfl d_WP_findReached_18 c17 ?_
  refine x_mmaxL hG hM rfl w_620 w_621 w_14 w_mmaxL (Nat.le_of_ble_eq_true rfl) (Nat.le_of_ble_eq_true rfl) d_WP_findReached_21 ?_
  refine x_lcmp hM d_WP_findReached_24 ?_
  refine x_if_ge (tgt := 57) hM d_WP_findReached_25 (by decide) (fun q16 => ?_) (fun q16 => ?_)
  · replace F := F.1 q16
    exact x_return hM d_WP_findReached_57 rfl F
  · replace F := F.2 q16
    refine x_aload_n hM d_WP_findReached_28 rfl 0 rfl ?_
    obtain ⟨c14, F⟩ := F
    obtain ⟨c15, F⟩ := F
    refine x_getr hG hM ck_WP 4 (Nat.le_of_ble_eq_true rfl) rfl rfl w_406 rfl d_WP_findReached_29 c14 c15 ?_
    refine x_aload_n hM d_WP_findReached_32 rfl 0 rfl ?_
    obtain ⟨c12, F⟩ := F
    obtain ⟨c13, F⟩ := F
    refine x_getr hG hM ck_WP 0 (Nat.le_of_ble_eq_true rfl) rfl rfl w_402 rfl d_WP_findReached_33 c12 c13 ?_
    refine x_aload_n hM d_WP_findReached_36 rfl 0 rfl ?_
    obtain ⟨c11, F⟩ := F
    refine x_geti hG hM ck_WP 8 (Nat.le_of_ble_eq_true rfl) rfl rfl w_410 rfl d_WP_findReached_37 c11 ?_
    obtain ⟨c10, F⟩ := F
    refine x_callV hG hM (r' := r_Re_spread) (ci := 7) [.ref (rf h v0 0), .int (kI h v0 8)] rfl rfl (Nat.le_of_ble_eq_true rfl) yk_Re_spread ⟨Nat.le_of_ble_eq_true rfl, Nat.le_of_ble_eq_true rfl⟩ w_623 w_624 w_625 rfl rfl (Nat.le_of_ble_eq_true rfl) d_WP_findReached_40 c10 (sem_mono F ?_)
    intro u2 h1 F
    obtain ⟨rfl, F⟩ := F
    refine x_aload_n hM d_WP_findReached_43 rfl 0 rfl ?_
    obtain ⟨c8, F⟩ := F
    obtain ⟨c9, F⟩ := F
    refine x_getr hG hM ck_WP 4 (Nat.le_of_ble_eq_true rfl) rfl rfl w_406 rfl d_WP_findReached_44 c8 c9 ?_
    refine x_aload_n hM d_WP_findReached_47 rfl 0 rfl ?_
    obtain ⟨c6, F⟩ := F
    obtain ⟨c7, F⟩ := F
    refine x_getr hG hM ck_WP 3 (Nat.le_of_ble_eq_true rfl) rfl rfl w_405 rfl d_WP_findReached_48 c6 c7 ?_
    obtain ⟨c5, F⟩ := F
    refine x_getl hG hM ck_Ch 0 (Nat.le_of_ble_eq_true rfl) rfl rfl w_234 rfl d_WP_findReached_51 c5 ?_
    obtain ⟨c4, F⟩ := F
    replace F := F _ rfl
    refine x_putl hG hM ck_Re 4 (Nat.le_of_ble_eq_true rfl) rfl rfl w_264 rfl d_WP_findReached_54 (Or.inl rfl) c4 ?_
    exact x_return hM d_WP_findReached_57 rfl F
set_option maxRecDepth 100000 in
set_option maxHeartbeats 4000000 in
theorem S_WP_findAim_0 {G : Gc} {M : Mc} {Q : State → Prop} {K : Option Value → Hp → Prop} (hG : gok G) (hM : mok G M r_WP_findAim Q K) (v0 : Nat) (h : Hp) (F : kT h v0 = 1 ∧ kR h v0 5 = some (rf h v0 5) ∧ (kT h (rf h v0 5) = 9 ∧ (kT h v0 = 1 ∧ kR h v0 3 = some (rf h v0 3) ∧ (kT h (rf h v0 3) = 7 ∧ (kT h v0 = 1 ∧ kR h v0 3 = some (rf h v0 3) ∧ (kT h (rf h v0 3) = 7 ∧ ((0 ≤ (lg_cmp (kL h (rf h v0 5) 2) (if (kL h (rf h v0 3) 3) < (kL h (rf h v0 3) 1) then (kL h (rf h v0 3) 1) else (kL h (rf h v0 3) 3))) → K none h) ∧ (¬ 0 ≤ (lg_cmp (kL h (rf h v0 5) 2) (if (kL h (rf h v0 3) 3) < (kL h (rf h v0 3) 1) then (kL h (rf h v0 3) 1) else (kL h (rf h v0 3) 3))) → (kT h v0 = 1 ∧ kR h v0 5 = some (rf h v0 5) ∧ (kT h v0 = 1 ∧ kR h v0 0 = some (rf h v0 0) ∧ (kT h v0 = 1 ∧ kR h v0 1 = some (rf h v0 1) ∧ (kT h (rf h v0 5) = 9 ∧ sem G r_Wi_findAim [.ref (rf h v0 5), .ref (rf h v0 0), .ref (rf h v0 1)] h (fun u2 h1 => u2 = none ∧ (kT h1 v0 = 1 ∧ kR h1 v0 5 = some (rf h1 v0 5) ∧ (kT h1 v0 = 1 ∧ kR h1 v0 3 = some (rf h1 v0 3) ∧ (kT h1 (rf h1 v0 3) = 7 ∧ (kT h1 (rf h1 v0 5) = 9 ∧ (∀ h3 : Hp, h3 = wL h1 (rf h1 v0 5) 2 (kL h1 (rf h1 v0 3) 0) → K none h3)))))))))))))))))) : X G M Q 0 [(0, .ref v0)] [] h := by
  refine x_aload_n hM d_WP_findAim_0 rfl 0 rfl ?_
  obtain ⟨c25, F⟩ := F
  obtain ⟨c26, F⟩ := F
  refine x_getr hG hM ck_WP 5 (Nat.le_of_ble_eq_true rfl) rfl rfl w_407 rfl d_WP_findAim_1 c25 c26 ?_
  obtain ⟨c24, F⟩ := F
  refine x_getl hG hM ck_Wi 2 (Nat.le_of_ble_eq_true rfl) rfl rfl w_288 rfl d_WP_findAim_4 c24 ?_
  refine x_aload_n hM d_WP_findAim_7 rfl 0 rfl ?_
  obtain ⟨c22, F⟩ := F
  obtain ⟨c23, F⟩ := F
  refine x_getr hG hM ck_WP 3 (Nat.le_of_ble_eq_true rfl) rfl rfl w_405 rfl d_WP_findAim_8 c22 c23 ?_
  obtain ⟨c21, F⟩ := F
  refine x_getl hG hM ck_Ch 1 (Nat.le_of_ble_eq_true rfl) rfl rfl w_236 rfl d_WP_findAim_11 c21 ?_
  refine x_aload_n hM d_WP_findAim_14 rfl 0 rfl ?_
  obtain ⟨c19, F⟩ := F
  obtain ⟨c20, F⟩ := F
  refine x_getr hG hM ck_WP 3 (Nat.le_of_ble_eq_true rfl) rfl rfl w_405 rfl d_WP_findAim_15 c19 c20 ?_
  obtain ⟨c18, F⟩ := F
  refine x_getl hG hM ck_Ch 3 (Nat.le_of_ble_eq_true rfl) rfl rfl w_240 rfl d_WP_findAim_18 c18 ?_
  refine x_mmaxL hG hM rfl w_620 w_621 w_14 w_mmaxL (Nat.le_of_ble_eq_true rfl) (Nat.le_of_ble_eq_true rfl) d_WP_findAim_21 ?_
  refine x_lcmp hM d_WP_findAim_24 ?_
  refine x_if_ge (tgt := 57) hM d_WP_findAim_25 (by decide) (fun q17 => ?_) (fun q17 => ?_)
  · replace F := F.1 q17
    exact x_return hM d_WP_findAim_57 rfl F
  · replace F := F.2 q17
    refine x_aload_n hM d_WP_findAim_28 rfl 0 rfl ?_
    obtain ⟨c15, F⟩ := F
    obtain ⟨c16, F⟩ := F
    refine x_getr hG hM ck_WP 5 (Nat.le_of_ble_eq_true rfl) rfl rfl w_407 rfl d_WP_findAim_29 c15 c16 ?_
    refine x_aload_n hM d_WP_findAim_32 rfl 0 rfl ?_
    obtain ⟨c13, F⟩ := F
    obtain ⟨c14, F⟩ := F
    refine x_getr hG hM ck_WP 0 (Nat.le_of_ble_eq_true rfl) rfl rfl w_402 rfl d_WP_findAim_33 c13 c14 ?_
    refine x_aload_n hM d_WP_findAim_36 rfl 0 rfl ?_
    obtain ⟨c11, F⟩ := F
    obtain ⟨c12, F⟩ := F
    refine x_getr hG hM ck_WP 1 (Nat.le_of_ble_eq_true rfl) rfl rfl w_403 rfl d_WP_findAim_37 c11 c12 ?_
    obtain ⟨c10, F⟩ := F
    refine x_callV hG hM (r' := r_Wi_findAim) (ci := 8) [.ref (rf h v0 0), .ref (rf h v0 1)] rfl rfl (Nat.le_of_ble_eq_true rfl) yk_Wi_findAim ⟨Nat.le_of_ble_eq_true rfl, Nat.le_of_ble_eq_true rfl⟩ w_642 w_643 w_644 rfl rfl (Nat.le_of_ble_eq_true rfl) d_WP_findAim_40 c10 (sem_mono F ?_)
    intro u2 h1 F
    obtain ⟨rfl, F⟩ := F
    refine x_aload_n hM d_WP_findAim_43 rfl 0 rfl ?_
    obtain ⟨c8, F⟩ := F
    obtain ⟨c9, F⟩ := F
    refine x_getr hG hM ck_WP 5 (Nat.le_of_ble_eq_true rfl) rfl rfl w_407 rfl d_WP_findAim_44 c8 c9 ?_
    refine x_aload_n hM d_WP_findAim_47 rfl 0 rfl ?_
    obtain ⟨c6, F⟩ := F
    obtain ⟨c7, F⟩ := F
    refine x_getr hG hM ck_WP 3 (Nat.le_of_ble_eq_true rfl) rfl rfl w_405 rfl d_WP_findAim_48 c6 c7 ?_
    obtain ⟨c5, F⟩ := F
    refine x_getl hG hM ck_Ch 0 (Nat.le_of_ble_eq_true rfl) rfl rfl w_234 rfl d_WP_findAim_51 c5 ?_
    obtain ⟨c4, F⟩ := F
    replace F := F _ rfl
    refine x_putl hG hM ck_Wi 2 (Nat.le_of_ble_eq_true rfl) rfl rfl w_288 rfl d_WP_findAim_54 (Or.inl rfl) c4 ?_
    exact x_return hM d_WP_findAim_57 rfl F
set_option maxRecDepth 100000 in
set_option maxHeartbeats 4000000 in
theorem S_WP_findNumbers_0 {G : Gc} {M : Mc} {Q : State → Prop} {K : Option Value → Hp → Prop} (hG : gok G) (hM : mok G M r_WP_findNumbers Q K) (v0 : Nat) (v1 : Int32) (h : Hp) (F : kT h v0 = 1 ∧ sem G r_WP_findAim [.ref v0] h (fun u2 h1 => u2 = none ∧ (kT h1 v0 = 1 ∧ kR h1 v0 5 = some (rf h1 v0 5) ∧ (kT h1 (rf h1 v0 5) = 9 ∧ kR h1 (rf h1 v0 5) 6 = some (rf h1 (rf h1 v0 5) 6) ∧ (kT h1 (rf h1 (rf h1 v0 5) 6) = 52 ∧ vp_in v1 (kN h1 (rf h1 (rf h1 v0 5) 6)) ∧ (kT h1 v0 = 1 ∧ kR h1 v0 3 = some (rf h1 v0 3) ∧ (kT h1 (rf h1 v0 3) = 7 ∧ (kT h1 v0 = 1 ∧ kR h1 v0 3 = some (rf h1 v0 3) ∧ (kT h1 (rf h1 v0 3) = 7 ∧ ((0 ≤ (lg_cmp (kL h1 (rf h1 (rf h1 v0 5) 6) (Int32.toNatClampNeg v1)) (if (kL h1 (rf h1 v0 3) 3) < (kL h1 (rf h1 v0 3) 1) then (kL h1 (rf h1 v0 3) 1) else (kL h1 (rf h1 v0 3) 3))) → (kT h1 v0 = 1 ∧ kR h1 v0 5 = some (rf h1 v0 5) ∧ (kT h1 (rf h1 v0 5) = 9 ∧ sem G r_Wi_numbersOf [.ref (rf h1 v0 5), .int v1] h1 (fun u4 h3 => ∃ x5 : Nat, u4 = some (.ref x5) ∧ K (some (.ref x5)) h3)))) ∧ (¬ 0 ≤ (lg_cmp (kL h1 (rf h1 (rf h1 v0 5) 6) (Int32.toNatClampNeg v1)) (if (kL h1 (rf h1 v0 3) 3) < (kL h1 (rf h1 v0 3) 1) then (kL h1 (rf h1 v0 3) 1) else (kL h1 (rf h1 v0 3) 3))) → (kT h1 v0 = 1 ∧ kR h1 v0 5 = some (rf h1 v0 5) ∧ (kT h1 v0 = 1 ∧ kR h1 v0 0 = some (rf h1 v0 0) ∧ (kT h1 (rf h1 v0 5) = 9 ∧ sem G r_Wi_findNumbers [.ref (rf h1 v0 5), .ref (rf h1 v0 0), .int v1] h1 (fun u10 h9 => u10 = none ∧ (kT h9 v0 = 1 ∧ kR h9 v0 5 = some (rf h9 v0 5) ∧ (kT h9 (rf h9 v0 5) = 9 ∧ kR h9 (rf h9 v0 5) 6 = some (rf h9 (rf h9 v0 5) 6) ∧ (kT h9 v0 = 1 ∧ kR h9 v0 3 = some (rf h9 v0 3) ∧ (kT h9 (rf h9 v0 3) = 7 ∧ (kT h9 (rf h9 (rf h9 v0 5) 6) = 52 ∧ vp_in v1 (kN h9 (rf h9 (rf h9 v0 5) 6)) ∧ (∀ h11 : Hp, h11 = wL h9 (rf h9 (rf h9 v0 5) 6) (Int32.toNatClampNeg v1) (kL h9 (rf h9 v0 3) 0) → (kT h11 v0 = 1 ∧ kR h11 v0 5 = some (rf h11 v0 5) ∧ (kT h11 (rf h11 v0 5) = 9 ∧ sem G r_Wi_numbersOf [.ref (rf h11 v0 5), .int v1] h11 (fun u13 h12 => ∃ x14 : Nat, u13 = some (.ref x14) ∧ K (some (.ref x14)) h12)))))))))))))))))))))))) : X G M Q 0 [(0, .ref v0), (1, .int v1)] [] h := by
  refine x_aload_n hM d_WP_findNumbers_0 rfl 0 rfl ?_
  obtain ⟨c45, F⟩ := F
  refine x_callV hG hM (r' := r_WP_findAim) (ci := 0) [] rfl rfl (Nat.le_of_ble_eq_true rfl) yk_WP_findAim ⟨Nat.le_of_ble_eq_true rfl, Nat.le_of_ble_eq_true rfl⟩ w_638 w_640 ws_WP_findAim rfl rfl (Nat.le_of_ble_eq_true rfl) d_WP_findNumbers_1 c45 (sem_mono F ?_)
  intro u2 h1 F
  obtain ⟨rfl, F⟩ := F
  refine x_aload_n hM d_WP_findNumbers_4 rfl 0 rfl ?_
  obtain ⟨c43, F⟩ := F
  obtain ⟨c44, F⟩ := F
  refine x_getr hG hM ck_WP 5 (Nat.le_of_ble_eq_true rfl) rfl rfl w_407 rfl d_WP_findNumbers_5 c43 c44 ?_
  obtain ⟨c41, F⟩ := F
  obtain ⟨c42, F⟩ := F
  refine x_getr hG hM ck_Wi 6 (Nat.le_of_ble_eq_true rfl) rfl rfl w_293 rfl d_WP_findNumbers_8 c41 c42 ?_
  refine x_iload_n hM d_WP_findNumbers_11 rfl 1 rfl ?_
  obtain ⟨c39, F⟩ := F
  obtain ⟨c40, F⟩ := F
  refine x_laload hG hM d_WP_findNumbers_12 c39 c40 ?_
  refine x_aload_n hM d_WP_findNumbers_13 rfl 0 rfl ?_
  obtain ⟨c37, F⟩ := F
  obtain ⟨c38, F⟩ := F
  refine x_getr hG hM ck_WP 3 (Nat.le_of_ble_eq_true rfl) rfl rfl w_405 rfl d_WP_findNumbers_14 c37 c38 ?_
  obtain ⟨c36, F⟩ := F
  refine x_getl hG hM ck_Ch 1 (Nat.le_of_ble_eq_true rfl) rfl rfl w_236 rfl d_WP_findNumbers_17 c36 ?_
  refine x_aload_n hM d_WP_findNumbers_20 rfl 0 rfl ?_
  obtain ⟨c34, F⟩ := F
  obtain ⟨c35, F⟩ := F
  refine x_getr hG hM ck_WP 3 (Nat.le_of_ble_eq_true rfl) rfl rfl w_405 rfl d_WP_findNumbers_21 c34 c35 ?_
  obtain ⟨c33, F⟩ := F
  refine x_getl hG hM ck_Ch 3 (Nat.le_of_ble_eq_true rfl) rfl rfl w_240 rfl d_WP_findNumbers_24 c33 ?_
  refine x_mmaxL hG hM rfl w_620 w_621 w_14 w_mmaxL (Nat.le_of_ble_eq_true rfl) (Nat.le_of_ble_eq_true rfl) d_WP_findNumbers_27 ?_
  refine x_lcmp hM d_WP_findNumbers_30 ?_
  refine x_if_ge (tgt := 62) hM d_WP_findNumbers_31 (by decide) (fun q32 => ?_) (fun q32 => ?_)
  · replace F := F.1 q32
    refine x_aload_n hM d_WP_findNumbers_62 rfl 0 rfl ?_
    obtain ⟨c7, F⟩ := F
    obtain ⟨c8, F⟩ := F
    refine x_getr hG hM ck_WP 5 (Nat.le_of_ble_eq_true rfl) rfl rfl w_407 rfl d_WP_findNumbers_63 c7 c8 ?_
    refine x_iload_n hM d_WP_findNumbers_66 rfl 1 rfl ?_
    obtain ⟨c6, F⟩ := F
    refine x_callV hG hM (r' := r_Wi_numbersOf) (ci := 8) [.int v1] rfl rfl (Nat.le_of_ble_eq_true rfl) yk_Wi_numbersOf ⟨Nat.le_of_ble_eq_true rfl, Nat.le_of_ble_eq_true rfl⟩ w_682 w_683 w_684 rfl rfl (Nat.le_of_ble_eq_true rfl) d_WP_findNumbers_67 c6 (sem_mono F ?_)
    intro u4 h3 F
    obtain ⟨x5, rfl, F⟩ := F
    exact x_areturn hM d_WP_findNumbers_70 ⟨_, rfl, Or.inr ⟨_, rfl⟩⟩ F
  · replace F := F.2 q32
    refine x_aload_n hM d_WP_findNumbers_34 rfl 0 rfl ?_
    obtain ⟨c30, F⟩ := F
    obtain ⟨c31, F⟩ := F
    refine x_getr hG hM ck_WP 5 (Nat.le_of_ble_eq_true rfl) rfl rfl w_407 rfl d_WP_findNumbers_35 c30 c31 ?_
    refine x_aload_n hM d_WP_findNumbers_38 rfl 0 rfl ?_
    obtain ⟨c28, F⟩ := F
    obtain ⟨c29, F⟩ := F
    refine x_getr hG hM ck_WP 0 (Nat.le_of_ble_eq_true rfl) rfl rfl w_402 rfl d_WP_findNumbers_39 c28 c29 ?_
    refine x_iload_n hM d_WP_findNumbers_42 rfl 1 rfl ?_
    obtain ⟨c27, F⟩ := F
    refine x_callV hG hM (r' := r_Wi_findNumbers) (ci := 8) [.ref (rf h1 v0 0), .int v1] rfl rfl (Nat.le_of_ble_eq_true rfl) yk_Wi_findNumbers ⟨Nat.le_of_ble_eq_true rfl, Nat.le_of_ble_eq_true rfl⟩ w_654 w_655 w_656 rfl rfl (Nat.le_of_ble_eq_true rfl) d_WP_findNumbers_43 c27 (sem_mono F ?_)
    intro u10 h9 F
    obtain ⟨rfl, F⟩ := F
    refine x_aload_n hM d_WP_findNumbers_46 rfl 0 rfl ?_
    obtain ⟨c25, F⟩ := F
    obtain ⟨c26, F⟩ := F
    refine x_getr hG hM ck_WP 5 (Nat.le_of_ble_eq_true rfl) rfl rfl w_407 rfl d_WP_findNumbers_47 c25 c26 ?_
    obtain ⟨c23, F⟩ := F
    obtain ⟨c24, F⟩ := F
    refine x_getr hG hM ck_Wi 6 (Nat.le_of_ble_eq_true rfl) rfl rfl w_293 rfl d_WP_findNumbers_50 c23 c24 ?_
    refine x_iload_n hM d_WP_findNumbers_53 rfl 1 rfl ?_
    refine x_aload_n hM d_WP_findNumbers_54 rfl 0 rfl ?_
    obtain ⟨c21, F⟩ := F
    obtain ⟨c22, F⟩ := F
    refine x_getr hG hM ck_WP 3 (Nat.le_of_ble_eq_true rfl) rfl rfl w_405 rfl d_WP_findNumbers_55 c21 c22 ?_
    obtain ⟨c20, F⟩ := F
    refine x_getl hG hM ck_Ch 0 (Nat.le_of_ble_eq_true rfl) rfl rfl w_234 rfl d_WP_findNumbers_58 c20 ?_
    obtain ⟨c18, F⟩ := F
    obtain ⟨c19, F⟩ := F
    replace F := F _ rfl
    refine x_lastore hG hM d_WP_findNumbers_61 c18 c19 ?_
    refine x_aload_n hM d_WP_findNumbers_62 rfl 0 rfl ?_
    obtain ⟨c16, F⟩ := F
    obtain ⟨c17, F⟩ := F
    refine x_getr hG hM ck_WP 5 (Nat.le_of_ble_eq_true rfl) rfl rfl w_407 rfl d_WP_findNumbers_63 c16 c17 ?_
    refine x_iload_n hM d_WP_findNumbers_66 rfl 1 rfl ?_
    obtain ⟨c15, F⟩ := F
    refine x_callV hG hM (r' := r_Wi_numbersOf) (ci := 8) [.int v1] rfl rfl (Nat.le_of_ble_eq_true rfl) yk_Wi_numbersOf ⟨Nat.le_of_ble_eq_true rfl, Nat.le_of_ble_eq_true rfl⟩ w_682 w_683 w_684 rfl rfl (Nat.le_of_ble_eq_true rfl) d_WP_findNumbers_67 c15 (sem_mono F ?_)
    intro u13 h12 F
    obtain ⟨x14, rfl, F⟩ := F
    exact x_areturn hM d_WP_findNumbers_70 ⟨_, rfl, Or.inr ⟨_, rfl⟩⟩ F
set_option maxRecDepth 100000 in
set_option maxHeartbeats 4000000 in
theorem S_WP_countNumbered_0 {G : Gc} {M : Mc} {Q : State → Prop} {K : Option Value → Hp → Prop} (hG : gok G) (hM : mok G M r_WP_countNumbered Q K) (v0 : Nat) (v1 : Nat) (h : Hp) (F : X G M Q 4 [(0, .ref v0), (1, .ref v1), (2, .int 0), (3, .int 0)] [] h) : X G M Q 0 [(0, .ref v0), (1, .ref v1)] [] h := by
  refine x_iconst (v := 0) hM d_WP_countNumbered_0 (by decide) ?_
  refine x_istore_n (lv2 := [(2, .int 0), (0, .ref v0), (1, .ref v1)]) hM d_WP_countNumbered_1 rfl (Nat.le_of_ble_eq_true rfl) rfl ?_
  refine x_iconst (v := 0) hM d_WP_countNumbered_2 (by decide) ?_
  refine x_istore_n (lv2 := [(3, .int 0), (2, .int 0), (0, .ref v0), (1, .ref v1)]) hM d_WP_countNumbered_3 rfl (Nat.le_of_ble_eq_true rfl) rfl ?_
  refine x_sub [2, 3, 1, 0] rfl ?_
  exact F
set_option maxRecDepth 100000 in
set_option maxHeartbeats 4000000 in
theorem S_WP_countNumbered_4 {G : Gc} {M : Mc} {Q : State → Prop} {K : Option Value → Hp → Prop} (hG : gok G) (hM : mok G M r_WP_countNumbered Q K) (v0 : Nat) (v1 : Nat) (v2 : Int32) (v3 : Int32) (h : Hp) (F : kT h v0 = 1 ∧ kR h v0 0 = some (rf h v0 0) ∧ (kT h (rf h v0 0) = 2 ∧ (((kI h (rf h v0 0) 1) ≤ v3 → K (some (.int v2)) h) ∧ (¬ (kI h (rf h v0 0) 1) ≤ v3 → (kT h v1 = 50 ∧ vp_in v3 (kN h v1) ∧ (∀ z1 : Int32, z1 = (if (kI h v1 (Int32.toNatClampNeg v3)) = (-1) then v2 else (v2 + 1)) → X G M Q 4 [(0, .ref v0), (1, .ref v1), (2, .int z1), (3, .int (v3 + 1))] [] h)))))) : X G M Q 4 [(0, .ref v0), (1, .ref v1), (2, .int v2), (3, .int v3)] [] h := by
  refine x_iload_n hM d_WP_countNumbered_4 rfl 3 rfl ?_
  refine x_aload_n hM d_WP_countNumbered_5 rfl 0 rfl ?_
  obtain ⟨c7, F⟩ := F
  obtain ⟨c8, F⟩ := F
  refine x_getr hG hM ck_WP 0 (Nat.le_of_ble_eq_true rfl) rfl rfl w_402 rfl d_WP_countNumbered_6 c7 c8 ?_
  obtain ⟨c6, F⟩ := F
  refine x_geti hG hM ck_Wo 1 (Nat.le_of_ble_eq_true rfl) rfl rfl w_132 rfl d_WP_countNumbered_9 c6 ?_
  refine x_icmp_ge (tgt := 31) hM d_WP_countNumbered_12 (by decide) (fun q5 => ?_) (fun q5 => ?_)
  · replace F := F.1 q5
    refine x_iload_n hM d_WP_countNumbered_31 rfl 2 rfl ?_
    exact x_ireturn hM d_WP_countNumbered_32 rfl F
  · replace F := F.2 q5
    refine x_aload_n hM d_WP_countNumbered_15 rfl 1 rfl ?_
    refine x_iload_n hM d_WP_countNumbered_16 rfl 3 rfl ?_
    obtain ⟨c3, F⟩ := F
    obtain ⟨c4, F⟩ := F
    refine x_iaload hG hM d_WP_countNumbered_17 c3 c4 ?_
    refine x_iconst (v := (-1)) hM d_WP_countNumbered_18 (by decide) ?_
    have JJ : ∀ (z1 : Int32) (ez1 : z1 = (if (kI h v1 (Int32.toNatClampNeg v3)) = (-1) then v2 else (v2 + 1))), X G M Q 25 [(0, .ref v0), (1, .ref v1), (2, .int z1), (3, .int v3)] [] h := by
      intro z1 ez1
      replace F := F _ ez1
      refine x_iinc (v := (v3 + 1)) (lv2 := [(3, .int (v3 + 1)), (0, .ref v0), (1, .ref v1), (2, .int z1)]) hM d_WP_countNumbered_25 (j := 3) rfl rfl (Nat.le_of_ble_eq_true rfl) rfl ?_
      refine x_goto (tgt := 4) hM d_WP_countNumbered_28 (by decide) ?_
      refine x_sub [1, 2, 3, 0] rfl ?_
      exact F
    refine x_icmp_eq (tgt := 25) hM d_WP_countNumbered_19 (by decide) (fun q2 => ?_) (fun q2 => ?_)
    · exact JJ _ (Eq.symm (if_pos q2))
    · refine x_iinc (v := (v2 + 1)) (lv2 := [(2, .int (v2 + 1)), (0, .ref v0), (1, .ref v1), (3, .int v3)]) hM d_WP_countNumbered_22 (j := 2) rfl rfl (Nat.le_of_ble_eq_true rfl) rfl ?_
      refine x_sub [1, 2, 0, 3] rfl ?_
      exact JJ _ (Eq.symm (if_neg q2))
set_option maxRecDepth 100000 in
set_option maxHeartbeats 4000000 in
theorem S_WP_countDead_0 {G : Gc} {M : Mc} {Q : State → Prop} {K : Option Value → Hp → Prop} (hG : gok G) (hM : mok G M r_WP_countDead Q K) (v0 : Nat) (h : Hp) (F : kT h v0 = 1 ∧ sem G r_WP_findReached [.ref v0] h (fun u2 h1 => u2 = none ∧ (kT h1 v0 = 1 ∧ sem G r_WP_findNumbers [.ref v0, .int 1] h1 (fun u4 h3 => ∃ x5 : Nat, u4 = some (.ref x5) ∧ X G M Q 14 [(0, .ref v0), (1, .ref x5), (2, .int 0), (3, .int 0)] [] h3)))) : X G M Q 0 [(0, .ref v0)] [] h := by
  refine x_aload_n hM d_WP_countDead_0 rfl 0 rfl ?_
  obtain ⟨c7, F⟩ := F
  refine x_callV hG hM (r' := r_WP_findReached) (ci := 0) [] rfl rfl (Nat.le_of_ble_eq_true rfl) yk_WP_findReached ⟨Nat.le_of_ble_eq_true rfl, Nat.le_of_ble_eq_true rfl⟩ w_616 w_618 ws_WP_findReached rfl rfl (Nat.le_of_ble_eq_true rfl) d_WP_countDead_1 c7 (sem_mono F ?_)
  intro u2 h1 F
  obtain ⟨rfl, F⟩ := F
  refine x_aload_n hM d_WP_countDead_4 rfl 0 rfl ?_
  refine x_iconst (v := 1) hM d_WP_countDead_5 (by decide) ?_
  obtain ⟨c6, F⟩ := F
  refine x_callV hG hM (r' := r_WP_findNumbers) (ci := 0) [.int 1] rfl rfl (Nat.le_of_ble_eq_true rfl) yk_WP_findNumbers ⟨Nat.le_of_ble_eq_true rfl, Nat.le_of_ble_eq_true rfl⟩ w_650 w_652 ws_WP_findNumbers rfl rfl (Nat.le_of_ble_eq_true rfl) d_WP_countDead_6 c6 (sem_mono F ?_)
  intro u4 h3 F
  obtain ⟨x5, rfl, F⟩ := F
  refine x_astore_n (lv2 := [(1, .ref x5), (0, .ref v0)]) hM d_WP_countDead_9 rfl (Nat.le_of_ble_eq_true rfl) rfl ?_
  refine x_iconst (v := 0) hM d_WP_countDead_10 (by decide) ?_
  refine x_istore_n (lv2 := [(2, .int 0), (1, .ref x5), (0, .ref v0)]) hM d_WP_countDead_11 rfl (Nat.le_of_ble_eq_true rfl) rfl ?_
  refine x_iconst (v := 0) hM d_WP_countDead_12 (by decide) ?_
  refine x_istore_n (lv2 := [(3, .int 0), (2, .int 0), (1, .ref x5), (0, .ref v0)]) hM d_WP_countDead_13 rfl (Nat.le_of_ble_eq_true rfl) rfl ?_
  refine x_sub [3, 2, 1, 0] rfl ?_
  exact F
set_option maxRecDepth 100000 in
set_option maxHeartbeats 4000000 in
theorem S_WP_countDead_14 {G : Gc} {M : Mc} {Q : State → Prop} {K : Option Value → Hp → Prop} (hG : gok G) (hM : mok G M r_WP_countDead Q K) (v0 : Nat) (v1 : Nat) (v2 : Int32) (v3 : Int32) (h : Hp) (F : kT h v0 = 1 ∧ kR h v0 0 = some (rf h v0 0) ∧ (kT h (rf h v0 0) = 2 ∧ (((kI h (rf h v0 0) 1) ≤ v3 → K (some (.int v2)) h) ∧ (¬ (kI h (rf h v0 0) 1) ≤ v3 → (kT h v0 = 1 ∧ kR h v0 4 = some (rf h v0 4) ∧ (kT h (rf h v0 4) = 8 ∧ kR h (rf h v0 4) 0 = some (rf h (rf h v0 4) 0) ∧ (kT h (rf h (rf h v0 4) 0) = 50 ∧ vp_in v3 (kN h (rf h (rf h v0 4) 0)) ∧ ((¬ (kI h (rf h (rf h v0 4) 0) (Int32.toNatClampNeg v3)) = (-1) → (kT h v1 = 50 ∧ vp_in v3 (kN h v1))) ∧ (∀ z1 : Int32, z1 = (if (kI h (rf h (rf h v0 4) 0) (Int32.toNatClampNeg v3)) = (-1) then v2 else (if (kI h v1 (Int32.toNatClampNeg v3)) = (-1) then (v2 + 1) else v2)) → X G M Q 14 [(0, .ref v0), (1, .ref v1), (2, .int z1), (3, .int (v3 + 1))] [] h))))))))) : X G M Q 14 [(0, .ref v0), (1, .ref v1), (2, .int v2), (3, .int v3)] [] h := by
  refine x_iload_n hM d_WP_countDead_14 rfl 3 rfl ?_
  refine x_aload_n hM d_WP_countDead_15 rfl 0 rfl ?_
  obtain ⟨c14, F⟩ := F
  obtain ⟨c15, F⟩ := F
  refine x_getr hG hM ck_WP 0 (Nat.le_of_ble_eq_true rfl) rfl rfl w_402 rfl d_WP_countDead_16 c14 c15 ?_
  obtain ⟨c13, F⟩ := F
  refine x_geti hG hM ck_Wo 1 (Nat.le_of_ble_eq_true rfl) rfl rfl w_132 rfl d_WP_countDead_19 c13 ?_
  refine x_icmp_ge (tgt := 54) hM d_WP_countDead_22 (by decide) (fun q12 => ?_) (fun q12 => ?_)
  · replace F := F.1 q12
    refine x_iload_n hM d_WP_countDead_54 rfl 2 rfl ?_
    exact x_ireturn hM d_WP_countDead_55 rfl F
  · replace F := F.2 q12
    refine x_aload_n hM d_WP_countDead_25 rfl 0 rfl ?_
    obtain ⟨c10, F⟩ := F
    obtain ⟨c11, F⟩ := F
    refine x_getr hG hM ck_WP 4 (Nat.le_of_ble_eq_true rfl) rfl rfl w_406 rfl d_WP_countDead_26 c10 c11 ?_
    obtain ⟨c8, F⟩ := F
    obtain ⟨c9, F⟩ := F
    refine x_getr hG hM ck_Re 0 (Nat.le_of_ble_eq_true rfl) rfl rfl w_257 rfl d_WP_countDead_29 c8 c9 ?_
    refine x_iload_n hM d_WP_countDead_32 rfl 3 rfl ?_
    obtain ⟨c6, F⟩ := F
    obtain ⟨c7, F⟩ := F
    refine x_iaload hG hM d_WP_countDead_33 c6 c7 ?_
    refine x_iconst (v := (-1)) hM d_WP_countDead_34 (by decide) ?_
    obtain ⟨S, F⟩ := F
    have JJ : ∀ (z1 : Int32) (ez1 : z1 = (if (kI h (rf h (rf h v0 4) 0) (Int32.toNatClampNeg v3)) = (-1) then v2 else (if (kI h v1 (Int32.toNatClampNeg v3)) = (-1) then (v2 + 1) else v2))), X G M Q 48 [(0, .ref v0), (1, .ref v1), (2, .int z1), (3, .int v3)] [] h := by
      intro z1 ez1
      replace F := F _ ez1
      refine x_iinc (v := (v3 + 1)) (lv2 := [(3, .int (v3 + 1)), (0, .ref v0), (1, .ref v1), (2, .int z1)]) hM d_WP_countDead_48 (j := 3) rfl rfl (Nat.le_of_ble_eq_true rfl) rfl ?_
      refine x_goto (tgt := 14) hM d_WP_countDead_51 (by decide) ?_
      refine x_sub [1, 2, 3, 0] rfl ?_
      exact F
    refine x_icmp_eq (tgt := 48) hM d_WP_countDead_35 (by decide) (fun q2 => ?_) (fun q2 => ?_)
    · exact JJ _ (Eq.symm (if_pos q2))
    · replace S := S q2
      refine x_aload_n hM d_WP_countDead_38 rfl 1 rfl ?_
      refine x_iload_n hM d_WP_countDead_39 rfl 3 rfl ?_
      obtain ⟨c3, S⟩ := S
      have c4 := S
      refine x_iaload hG hM d_WP_countDead_40 c3 c4 ?_
      refine x_iconst (v := (-1)) hM d_WP_countDead_41 (by decide) ?_
      refine x_icmp_ne (tgt := 48) hM d_WP_countDead_42 (by decide) (fun q5 => ?_) (fun q5 => ?_)
      · exact JJ _ (Eq.symm (Eq.trans (if_neg q2) (if_neg q5)))
      · refine x_iinc (v := (v2 + 1)) (lv2 := [(2, .int (v2 + 1)), (0, .ref v0), (1, .ref v1), (3, .int v3)]) hM d_WP_countDead_45 (j := 2) rfl rfl (Nat.le_of_ble_eq_true rfl) rfl ?_
        refine x_sub [1, 2, 0, 3] rfl ?_
        exact JJ _ (Eq.symm (Eq.trans (if_neg q2) (if_pos q5)))
set_option maxRecDepth 100000 in
set_option maxHeartbeats 4000000 in
theorem S_WP_findKinds_0 {G : Gc} {M : Mc} {Q : State → Prop} {K : Option Value → Hp → Prop} (hG : gok G) (hM : mok G M r_WP_findKinds Q K) (v0 : Nat) (h : Hp) (F : kT h v0 = 1 ∧ sem G r_WP_findAim [.ref v0] h (fun u2 h1 => u2 = none ∧ (kT h1 v0 = 1 ∧ kR h1 v0 6 = some (rf h1 v0 6) ∧ (kT h1 (rf h1 v0 6) = 10 ∧ (kT h1 v0 = 1 ∧ kR h1 v0 3 = some (rf h1 v0 3) ∧ (kT h1 (rf h1 v0 3) = 7 ∧ (kT h1 v0 = 1 ∧ kR h1 v0 3 = some (rf h1 v0 3) ∧ (kT h1 (rf h1 v0 3) = 7 ∧ ((0 ≤ (lg_cmp (kL h1 (rf h1 v0 6) 1) (if (kL h1 (rf h1 v0 3) 3) < (kL h1 (rf h1 v0 3) 1) then (kL h1 (rf h1 v0 3) 1) else (kL h1 (rf h1 v0 3) 3))) → K none h1) ∧ (¬ 0 ≤ (lg_cmp (kL h1 (rf h1 v0 6) 1) (if (kL h1 (rf h1 v0 3) 3) < (kL h1 (rf h1 v0 3) 1) then (kL h1 (rf h1 v0 3) 1) else (kL h1 (rf h1 v0 3) 3))) → (kT h1 v0 = 1 ∧ kR h1 v0 6 = some (rf h1 v0 6) ∧ (kT h1 v0 = 1 ∧ kR h1 v0 0 = some (rf h1 v0 0) ∧ (kT h1 v0 = 1 ∧ kR h1 v0 5 = some (rf h1 v0 5) ∧ (kT h1 (rf h1 v0 5) = 9 ∧ kR h1 (rf h1 v0 5) 0 = some (rf h1 (rf h1 v0 5) 0) ∧ (kT h1 (rf h1 v0 6) = 10 ∧ sem G r_Ki_split [.ref (rf h1 v0 6), .ref (rf h1 v0 0), .ref (rf h1 (rf h1 v0 5) 0)] h1 (fun u4 h3 => u4 = none ∧ (kT h3 v0 = 1 ∧ kR h3 v0 6 = some (rf h3 v0 6) ∧ (kT h3 v0 = 1 ∧ kR h3 v0 3 = some (rf h3 v0 3) ∧ (kT h3 (rf h3 v0 3) = 7 ∧ (kT h3 (rf h3 v0 6) = 10 ∧ (∀ h5 : Hp, h5 = wL h3 (rf h3 v0 6) 1 (kL h3 (rf h3 v0 3) 0) → K none h5))))))))))))))))))))) : X G M Q 0 [(0, .ref v0)] [] h := by
  refine x_aload_n hM d_WP_findKinds_0 rfl 0 rfl ?_
  obtain ⟨c31, F⟩ := F
  refine x_callV hG hM (r' := r_WP_findAim) (ci := 0) [] rfl rfl (Nat.le_of_ble_eq_true rfl) yk_WP_findAim ⟨Nat.le_of_ble_eq_true rfl, Nat.le_of_ble_eq_true rfl⟩ w_638 w_640 ws_WP_findAim rfl rfl (Nat.le_of_ble_eq_true rfl) d_WP_findKinds_1 c31 (sem_mono F ?_)
  intro u2 h1 F
  obtain ⟨rfl, F⟩ := F
  refine x_aload_n hM d_WP_findKinds_4 rfl 0 rfl ?_
  obtain ⟨c29, F⟩ := F
  obtain ⟨c30, F⟩ := F
  refine x_getr hG hM ck_WP 6 (Nat.le_of_ble_eq_true rfl) rfl rfl w_408 rfl d_WP_findKinds_5 c29 c30 ?_
  obtain ⟨c28, F⟩ := F
  refine x_getl hG hM ck_Ki 1 (Nat.le_of_ble_eq_true rfl) rfl rfl w_324 rfl d_WP_findKinds_8 c28 ?_
  refine x_aload_n hM d_WP_findKinds_11 rfl 0 rfl ?_
  obtain ⟨c26, F⟩ := F
  obtain ⟨c27, F⟩ := F
  refine x_getr hG hM ck_WP 3 (Nat.le_of_ble_eq_true rfl) rfl rfl w_405 rfl d_WP_findKinds_12 c26 c27 ?_
  obtain ⟨c25, F⟩ := F
  refine x_getl hG hM ck_Ch 1 (Nat.le_of_ble_eq_true rfl) rfl rfl w_236 rfl d_WP_findKinds_15 c25 ?_
  refine x_aload_n hM d_WP_findKinds_18 rfl 0 rfl ?_
  obtain ⟨c23, F⟩ := F
  obtain ⟨c24, F⟩ := F
  refine x_getr hG hM ck_WP 3 (Nat.le_of_ble_eq_true rfl) rfl rfl w_405 rfl d_WP_findKinds_19 c23 c24 ?_
  obtain ⟨c22, F⟩ := F
  refine x_getl hG hM ck_Ch 3 (Nat.le_of_ble_eq_true rfl) rfl rfl w_240 rfl d_WP_findKinds_22 c22 ?_
  refine x_mmaxL hG hM rfl w_620 w_621 w_14 w_mmaxL (Nat.le_of_ble_eq_true rfl) (Nat.le_of_ble_eq_true rfl) d_WP_findKinds_25 ?_
  refine x_lcmp hM d_WP_findKinds_28 ?_
  refine x_if_ge (tgt := 64) hM d_WP_findKinds_29 (by decide) (fun q21 => ?_) (fun q21 => ?_)
  · replace F := F.1 q21
    exact x_return hM d_WP_findKinds_64 rfl F
  · replace F := F.2 q21
    refine x_aload_n hM d_WP_findKinds_32 rfl 0 rfl ?_
    obtain ⟨c19, F⟩ := F
    obtain ⟨c20, F⟩ := F
    refine x_getr hG hM ck_WP 6 (Nat.le_of_ble_eq_true rfl) rfl rfl w_408 rfl d_WP_findKinds_33 c19 c20 ?_
    refine x_aload_n hM d_WP_findKinds_36 rfl 0 rfl ?_
    obtain ⟨c17, F⟩ := F
    obtain ⟨c18, F⟩ := F
    refine x_getr hG hM ck_WP 0 (Nat.le_of_ble_eq_true rfl) rfl rfl w_402 rfl d_WP_findKinds_37 c17 c18 ?_
    refine x_aload_n hM d_WP_findKinds_40 rfl 0 rfl ?_
    obtain ⟨c15, F⟩ := F
    obtain ⟨c16, F⟩ := F
    refine x_getr hG hM ck_WP 5 (Nat.le_of_ble_eq_true rfl) rfl rfl w_407 rfl d_WP_findKinds_41 c15 c16 ?_
    obtain ⟨c13, F⟩ := F
    obtain ⟨c14, F⟩ := F
    refine x_getr hG hM ck_Wi 0 (Nat.le_of_ble_eq_true rfl) rfl rfl w_284 rfl d_WP_findKinds_44 c13 c14 ?_
    obtain ⟨c12, F⟩ := F
    refine x_callV hG hM (r' := r_Ki_split) (ci := 9) [.ref (rf h1 v0 0), .ref (rf h1 (rf h1 v0 5) 0)] rfl rfl (Nat.le_of_ble_eq_true rfl) yk_Ki_split ⟨Nat.le_of_ble_eq_true rfl, Nat.le_of_ble_eq_true rfl⟩ w_698 w_699 w_700 rfl rfl (Nat.le_of_ble_eq_true rfl) d_WP_findKinds_47 c12 (sem_mono F ?_)
    intro u4 h3 F
    obtain ⟨rfl, F⟩ := F
    refine x_aload_n hM d_WP_findKinds_50 rfl 0 rfl ?_
    obtain ⟨c10, F⟩ := F
    obtain ⟨c11, F⟩ := F
    refine x_getr hG hM ck_WP 6 (Nat.le_of_ble_eq_true rfl) rfl rfl w_408 rfl d_WP_findKinds_51 c10 c11 ?_
    refine x_aload_n hM d_WP_findKinds_54 rfl 0 rfl ?_
    obtain ⟨c8, F⟩ := F
    obtain ⟨c9, F⟩ := F
    refine x_getr hG hM ck_WP 3 (Nat.le_of_ble_eq_true rfl) rfl rfl w_405 rfl d_WP_findKinds_55 c8 c9 ?_
    obtain ⟨c7, F⟩ := F
    refine x_getl hG hM ck_Ch 0 (Nat.le_of_ble_eq_true rfl) rfl rfl w_234 rfl d_WP_findKinds_58 c7 ?_
    obtain ⟨c6, F⟩ := F
    replace F := F _ rfl
    refine x_putl hG hM ck_Ki 1 (Nat.le_of_ble_eq_true rfl) rfl rfl w_324 rfl d_WP_findKinds_61 (Or.inl rfl) c6 ?_
    exact x_return hM d_WP_findKinds_64 rfl F
set_option maxRecDepth 100000 in
set_option maxHeartbeats 4000000 in
theorem S_WP_of_0 {G : Gc} {M : Mc} {Q : State → Prop} {K : Option Value → Hp → Prop} (hG : gok G) (hM : mok G M r_WP_of Q K) (v0 : Nat) (v1 : Int32) (v2 : Int32) (h : Hp) (F : kT h v0 = 1 ∧ kR h v0 0 = some (rf h v0 0) ∧ (kT h (rf h v0 0) = 2 ∧ sem G r_Wo_isState [.ref (rf h v0 0), .int v1] h (fun u2 h1 => ∃ x3 : Int32, u2 = some (.int x3) ∧ ((x3 = 0 → K (some (.int (-2))) h1) ∧ (¬ x3 = 0 → ((v2 < 0 → K (some (.int (-2))) h1) ∧ (¬ v2 < 0 → ((v2 ≤ 4 → (kT h1 v0 = 1 ∧ kR h1 v0 0 = some (rf h1 v0 0) ∧ (kT h1 (rf h1 v0 0) = 2 ∧ sem G r_Wo_prepare [.ref (rf h1 v0 0)] h1 (fun u5 h4 => u5 = none ∧ ((v2 = 0 → (kT h4 v0 = 1 ∧ sem G r_WP_findReached [.ref v0] h4 (fun u29 h28 => u29 = none ∧ (kT h28 v0 = 1 ∧ kR h28 v0 4 = some (rf h28 v0 4) ∧ (kT h28 (rf h28 v0 4) = 8 ∧ kR h28 (rf h28 v0 4) 0 = some (rf h28 (rf h28 v0 4) 0) ∧ (kT h28 (rf h28 (rf h28 v0 4) 0) = 50 ∧ vp_in v1 (kN h28 (rf h28 (rf h28 v0 4) 0)) ∧ K (some (.int (kI h28 (rf h28 (rf h28 v0 4) 0) (Int32.toNatClampNeg v1)))) h28)))))) ∧ (¬ v2 = 0 → ((v2 = 4 → (kT h4 v0 = 1 ∧ sem G r_WP_findKinds [.ref v0] h4 (fun u13 h12 => u13 = none ∧ (kT h12 v0 = 1 ∧ kR h12 v0 6 = some (rf h12 v0 6) ∧ (kT h12 (rf h12 v0 6) = 10 ∧ kR h12 (rf h12 v0 6) 3 = some (rf h12 (rf h12 v0 6) 3) ∧ (kT h12 v0 = 1 ∧ kR h12 v0 6 = some (rf h12 v0 6) ∧ (kT h12 (rf h12 v0 6) = 10 ∧ kR h12 (rf h12 v0 6) 2 = some (rf h12 (rf h12 v0 6) 2) ∧ (kT h12 (rf h12 (rf h12 v0 6) 2) = 50 ∧ vp_in v1 (kN h12 (rf h12 (rf h12 v0 6) 2)) ∧ (kT h12 (rf h12 (rf h12 v0 6) 3) = 50 ∧ vp_in (kI h12 (rf h12 (rf h12 v0 6) 2) (Int32.toNatClampNeg v1)) (kN h12 (rf h12 (rf h12 v0 6) 3)) ∧ K (some (.int (kI h12 (rf h12 (rf h12 v0 6) 3) (Int32.toNatClampNeg (kI h12 (rf h12 (rf h12 v0 6) 2) (Int32.toNatClampNeg v1)))))) h12))))))))) ∧ (¬ v2 = 4 → (kT h4 v0 = 1 ∧ sem G r_WP_findNumbers [.ref v0, .int v2] h4 (fun u7 h6 => ∃ x8 : Nat, u7 = some (.ref x8) ∧ (kT h6 x8 = 50 ∧ vp_in v1 (kN h6 x8) ∧ K (some (.int (kI h6 x8 (Int32.toNatClampNeg v1)))) h6))))))))))) ∧ (¬ v2 ≤ 4 → K (some (.int (-2))) h1))))))))) : X G M Q 0 [(0, .ref v0), (1, .int v1), (2, .int v2)] [] h := by
  refine x_aload_n hM d_WP_of_0 rfl 0 rfl ?_
  obtain ⟨c45, F⟩ := F
  obtain ⟨c46, F⟩ := F
  refine x_getr hG hM ck_WP 0 (Nat.le_of_ble_eq_true rfl) rfl rfl w_402 rfl d_WP_of_1 c45 c46 ?_
  refine x_iload_n hM d_WP_of_4 rfl 1 rfl ?_
  obtain ⟨c44, F⟩ := F
  refine x_callV hG hM (r' := r_Wo_isState) (ci := 1) [.int v1] rfl rfl (Nat.le_of_ble_eq_true rfl) yk_Wo_isState ⟨Nat.le_of_ble_eq_true rfl, Nat.le_of_ble_eq_true rfl⟩ w_460 w_461 w_462 rfl rfl (Nat.le_of_ble_eq_true rfl) d_WP_of_5 c44 (sem_mono F ?_)
  intro u2 h1 F
  obtain ⟨x3, rfl, F⟩ := F
  refine x_if_eq (tgt := 20) hM d_WP_of_8 (by decide) (fun q43 => ?_) (fun q43 => ?_)
  · replace F := F.1 q43
    refine x_bipush (v := (-2)) hM d_WP_of_20 (by decide) ?_
    exact x_ireturn hM d_WP_of_22 rfl F
  · replace F := F.2 q43
    refine x_iload_n hM d_WP_of_11 rfl 2 rfl ?_
    refine x_if_lt (tgt := 20) hM d_WP_of_12 (by decide) (fun q42 => ?_) (fun q42 => ?_)
    · replace F := F.1 q42
      refine x_bipush (v := (-2)) hM d_WP_of_20 (by decide) ?_
      exact x_ireturn hM d_WP_of_22 rfl F
    · replace F := F.2 q42
      refine x_iload_n hM d_WP_of_15 rfl 2 rfl ?_
      refine x_iconst (v := 4) hM d_WP_of_16 (by decide) ?_
      refine x_icmp_le (tgt := 23) hM d_WP_of_17 (by decide) (fun q41 => ?_) (fun q41 => ?_)
      · replace F := F.1 q41
        refine x_aload_n hM d_WP_of_23 rfl 0 rfl ?_
        obtain ⟨c39, F⟩ := F
        obtain ⟨c40, F⟩ := F
        refine x_getr hG hM ck_WP 0 (Nat.le_of_ble_eq_true rfl) rfl rfl w_402 rfl d_WP_of_24 c39 c40 ?_
        obtain ⟨c38, F⟩ := F
        refine x_callV hG hM (r' := r_Wo_prepare) (ci := 1) [] rfl rfl (Nat.le_of_ble_eq_true rfl) yk_Wo_prepare ⟨Nat.le_of_ble_eq_true rfl, Nat.le_of_ble_eq_true rfl⟩ w_577 w_578 w_579 rfl rfl (Nat.le_of_ble_eq_true rfl) d_WP_of_27 c38 (sem_mono F ?_)
        intro u5 h4 F
        obtain ⟨rfl, F⟩ := F
        refine x_iload_n hM d_WP_of_30 rfl 2 rfl ?_
        refine x_if_ne (tgt := 48) hM d_WP_of_31 (by decide) (fun q37 => ?_) (fun q37 => ?_)
        · replace F := F.2 q37
          refine x_iload_n hM d_WP_of_48 rfl 2 rfl ?_
          refine x_iconst (v := 4) hM d_WP_of_49 (by decide) ?_
          refine x_icmp_ne (tgt := 75) hM d_WP_of_50 (by decide) (fun q27 => ?_) (fun q27 => ?_)
          · replace F := F.2 q27
            refine x_aload_n hM d_WP_of_75 rfl 0 rfl ?_
            refine x_iload_n hM d_WP_of_76 rfl 2 rfl ?_
            obtain ⟨c11, F⟩ := F
            refine x_callV hG hM (r' := r_WP_findNumbers) (ci := 0) [.int v2] rfl rfl (Nat.le_of_ble_eq_true rfl) yk_WP_findNumbers ⟨Nat.le_of_ble_eq_true rfl, Nat.le_of_ble_eq_true rfl⟩ w_650 w_652 ws_WP_findNumbers rfl rfl (Nat.le_of_ble_eq_true rfl) d_WP_of_77 c11 (sem_mono F ?_)
            intro u7 h6 F
            obtain ⟨x8, rfl, F⟩ := F
            refine x_iload_n hM d_WP_of_80 rfl 1 rfl ?_
            obtain ⟨c9, F⟩ := F
            obtain ⟨c10, F⟩ := F
            refine x_iaload hG hM d_WP_of_81 c9 c10 ?_
            exact x_ireturn hM d_WP_of_82 rfl F
          · replace F := F.1 q27
            refine x_aload_n hM d_WP_of_53 rfl 0 rfl ?_
            obtain ⟨c26, F⟩ := F
            refine x_callV hG hM (r' := r_WP_findKinds) (ci := 0) [] rfl rfl (Nat.le_of_ble_eq_true rfl) yk_WP_findKinds ⟨Nat.le_of_ble_eq_true rfl, Nat.le_of_ble_eq_true rfl⟩ w_694 w_696 ws_WP_findKinds rfl rfl (Nat.le_of_ble_eq_true rfl) d_WP_of_54 c26 (sem_mono F ?_)
            intro u13 h12 F
            obtain ⟨rfl, F⟩ := F
            refine x_aload_n hM d_WP_of_57 rfl 0 rfl ?_
            obtain ⟨c24, F⟩ := F
            obtain ⟨c25, F⟩ := F
            refine x_getr hG hM ck_WP 6 (Nat.le_of_ble_eq_true rfl) rfl rfl w_408 rfl d_WP_of_58 c24 c25 ?_
            obtain ⟨c22, F⟩ := F
            obtain ⟨c23, F⟩ := F
            refine x_getr hG hM ck_Ki 3 (Nat.le_of_ble_eq_true rfl) rfl rfl w_328 rfl d_WP_of_61 c22 c23 ?_
            refine x_aload_n hM d_WP_of_64 rfl 0 rfl ?_
            obtain ⟨c20, F⟩ := F
            obtain ⟨c21, F⟩ := F
            refine x_getr hG hM ck_WP 6 (Nat.le_of_ble_eq_true rfl) rfl rfl w_408 rfl d_WP_of_65 c20 c21 ?_
            obtain ⟨c18, F⟩ := F
            obtain ⟨c19, F⟩ := F
            refine x_getr hG hM ck_Ki 2 (Nat.le_of_ble_eq_true rfl) rfl rfl w_326 rfl d_WP_of_68 c18 c19 ?_
            refine x_iload_n hM d_WP_of_71 rfl 1 rfl ?_
            obtain ⟨c16, F⟩ := F
            obtain ⟨c17, F⟩ := F
            refine x_iaload hG hM d_WP_of_72 c16 c17 ?_
            obtain ⟨c14, F⟩ := F
            obtain ⟨c15, F⟩ := F
            refine x_iaload hG hM d_WP_of_73 c14 c15 ?_
            exact x_ireturn hM d_WP_of_74 rfl F
        · replace F := F.1 q37
          refine x_aload_n hM d_WP_of_34 rfl 0 rfl ?_
          obtain ⟨c36, F⟩ := F
          refine x_callV hG hM (r' := r_WP_findReached) (ci := 0) [] rfl rfl (Nat.le_of_ble_eq_true rfl) yk_WP_findReached ⟨Nat.le_of_ble_eq_true rfl, Nat.le_of_ble_eq_true rfl⟩ w_616 w_618 ws_WP_findReached rfl rfl (Nat.le_of_ble_eq_true rfl) d_WP_of_35 c36 (sem_mono F ?_)
          intro u29 h28 F
          obtain ⟨rfl, F⟩ := F
          refine x_aload_n hM d_WP_of_38 rfl 0 rfl ?_
          obtain ⟨c34, F⟩ := F
          obtain ⟨c35, F⟩ := F
          refine x_getr hG hM ck_WP 4 (Nat.le_of_ble_eq_true rfl) rfl rfl w_406 rfl d_WP_of_39 c34 c35 ?_
          obtain ⟨c32, F⟩ := F
          obtain ⟨c33, F⟩ := F
          refine x_getr hG hM ck_Re 0 (Nat.le_of_ble_eq_true rfl) rfl rfl w_257 rfl d_WP_of_42 c32 c33 ?_
          refine x_iload_n hM d_WP_of_45 rfl 1 rfl ?_
          obtain ⟨c30, F⟩ := F
          obtain ⟨c31, F⟩ := F
          refine x_iaload hG hM d_WP_of_46 c30 c31 ?_
          exact x_ireturn hM d_WP_of_47 rfl F
      · replace F := F.2 q41
        refine x_bipush (v := (-2)) hM d_WP_of_20 (by decide) ?_
        exact x_ireturn hM d_WP_of_22 rfl F
set_option maxRecDepth 100000 in
set_option maxHeartbeats 4000000 in
theorem S_WP_best_0 {G : Gc} {M : Mc} {Q : State → Prop} {K : Option Value → Hp → Prop} (hG : gok G) (hM : mok G M r_WP_best Q K) (v0 : Nat) (v1 : Int32) (v2 : Int32) (h : Hp) (F : kT h v0 = 1 ∧ kR h v0 0 = some (rf h v0 0) ∧ (kT h (rf h v0 0) = 2 ∧ sem G r_Wo_isState [.ref (rf h v0 0), .int v1] h (fun u2 h1 => ∃ x3 : Int32, u2 = some (.int x3) ∧ ((x3 = 0 → K (some (.int (-2))) h1) ∧ (¬ x3 = 0 → ((v2 < 1 → K (some (.int (-2))) h1) ∧ (¬ v2 < 1 → ((v2 ≤ 3 → (kT h1 v0 = 1 ∧ kR h1 v0 0 = some (rf h1 v0 0) ∧ (kT h1 (rf h1 v0 0) = 2 ∧ sem G r_Wo_prepare [.ref (rf h1 v0 0)] h1 (fun u5 h4 => u5 = none ∧ (kT h4 v0 = 1 ∧ kR h4 v0 5 = some (rf h4 v0 5) ∧ (kT h4 v0 = 1 ∧ kR h4 v0 0 = some (rf h4 v0 0) ∧ (kT h4 v0 = 1 ∧ sem G r_WP_findNumbers [.ref v0, .int v2] h4 (fun u7 h6 => ∃ x8 : Nat, u7 = some (.ref x8) ∧ (kT h6 (rf h4 v0 5) = 9 ∧ sem G r_Wi_leastAct [.ref (rf h4 v0 5), .ref (rf h4 v0 0), .ref x8, .int v1, .int v2] h6 (fun u10 h9 => ∃ x11 : Int32, u10 = some (.int x11) ∧ K (some (.int x11)) h9)))))))))) ∧ (¬ v2 ≤ 3 → K (some (.int (-2))) h1))))))))) : X G M Q 0 [(0, .ref v0), (1, .int v1), (2, .int v2)] [] h := by
  refine x_aload_n hM d_WP_best_0 rfl 0 rfl ?_
  obtain ⟨c25, F⟩ := F
  obtain ⟨c26, F⟩ := F
  refine x_getr hG hM ck_WP 0 (Nat.le_of_ble_eq_true rfl) rfl rfl w_402 rfl d_WP_best_1 c25 c26 ?_
  refine x_iload_n hM d_WP_best_4 rfl 1 rfl ?_
  obtain ⟨c24, F⟩ := F
  refine x_callV hG hM (r' := r_Wo_isState) (ci := 1) [.int v1] rfl rfl (Nat.le_of_ble_eq_true rfl) yk_Wo_isState ⟨Nat.le_of_ble_eq_true rfl, Nat.le_of_ble_eq_true rfl⟩ w_460 w_461 w_462 rfl rfl (Nat.le_of_ble_eq_true rfl) d_WP_best_5 c24 (sem_mono F ?_)
  intro u2 h1 F
  obtain ⟨x3, rfl, F⟩ := F
  refine x_if_eq (tgt := 21) hM d_WP_best_8 (by decide) (fun q23 => ?_) (fun q23 => ?_)
  · replace F := F.1 q23
    refine x_bipush (v := (-2)) hM d_WP_best_21 (by decide) ?_
    exact x_ireturn hM d_WP_best_23 rfl F
  · replace F := F.2 q23
    refine x_iload_n hM d_WP_best_11 rfl 2 rfl ?_
    refine x_iconst (v := 1) hM d_WP_best_12 (by decide) ?_
    refine x_icmp_lt (tgt := 21) hM d_WP_best_13 (by decide) (fun q22 => ?_) (fun q22 => ?_)
    · replace F := F.1 q22
      refine x_bipush (v := (-2)) hM d_WP_best_21 (by decide) ?_
      exact x_ireturn hM d_WP_best_23 rfl F
    · replace F := F.2 q22
      refine x_iload_n hM d_WP_best_16 rfl 2 rfl ?_
      refine x_iconst (v := 3) hM d_WP_best_17 (by decide) ?_
      refine x_icmp_le (tgt := 24) hM d_WP_best_18 (by decide) (fun q21 => ?_) (fun q21 => ?_)
      · replace F := F.1 q21
        refine x_aload_n hM d_WP_best_24 rfl 0 rfl ?_
        obtain ⟨c19, F⟩ := F
        obtain ⟨c20, F⟩ := F
        refine x_getr hG hM ck_WP 0 (Nat.le_of_ble_eq_true rfl) rfl rfl w_402 rfl d_WP_best_25 c19 c20 ?_
        obtain ⟨c18, F⟩ := F
        refine x_callV hG hM (r' := r_Wo_prepare) (ci := 1) [] rfl rfl (Nat.le_of_ble_eq_true rfl) yk_Wo_prepare ⟨Nat.le_of_ble_eq_true rfl, Nat.le_of_ble_eq_true rfl⟩ w_577 w_578 w_579 rfl rfl (Nat.le_of_ble_eq_true rfl) d_WP_best_28 c18 (sem_mono F ?_)
        intro u5 h4 F
        obtain ⟨rfl, F⟩ := F
        refine x_aload_n hM d_WP_best_31 rfl 0 rfl ?_
        obtain ⟨c16, F⟩ := F
        obtain ⟨c17, F⟩ := F
        refine x_getr hG hM ck_WP 5 (Nat.le_of_ble_eq_true rfl) rfl rfl w_407 rfl d_WP_best_32 c16 c17 ?_
        refine x_aload_n hM d_WP_best_35 rfl 0 rfl ?_
        obtain ⟨c14, F⟩ := F
        obtain ⟨c15, F⟩ := F
        refine x_getr hG hM ck_WP 0 (Nat.le_of_ble_eq_true rfl) rfl rfl w_402 rfl d_WP_best_36 c14 c15 ?_
        refine x_aload_n hM d_WP_best_39 rfl 0 rfl ?_
        refine x_iload_n hM d_WP_best_40 rfl 2 rfl ?_
        obtain ⟨c13, F⟩ := F
        refine x_callV hG hM (r' := r_WP_findNumbers) (ci := 0) [.int v2] rfl rfl (Nat.le_of_ble_eq_true rfl) yk_WP_findNumbers ⟨Nat.le_of_ble_eq_true rfl, Nat.le_of_ble_eq_true rfl⟩ w_650 w_652 ws_WP_findNumbers rfl rfl (Nat.le_of_ble_eq_true rfl) d_WP_best_41 c13 (sem_mono F ?_)
        intro u7 h6 F
        obtain ⟨x8, rfl, F⟩ := F
        refine x_iload_n hM d_WP_best_44 rfl 1 rfl ?_
        refine x_iload_n hM d_WP_best_45 rfl 2 rfl ?_
        obtain ⟨c12, F⟩ := F
        refine x_callV hG hM (r' := r_Wi_leastAct) (ci := 8) [.ref (rf h4 v0 0), .ref x8, .int v1, .int v2] rfl rfl (Nat.le_of_ble_eq_true rfl) yk_Wi_leastAct ⟨Nat.le_of_ble_eq_true rfl, Nat.le_of_ble_eq_true rfl⟩ w_776 w_777 w_778 rfl rfl (Nat.le_of_ble_eq_true rfl) d_WP_best_46 c12 (sem_mono F ?_)
        intro u10 h9 F
        obtain ⟨x11, rfl, F⟩ := F
        exact x_ireturn hM d_WP_best_49 rfl F
      · replace F := F.2 q21
        refine x_bipush (v := (-2)) hM d_WP_best_21 (by decide) ?_
        exact x_ireturn hM d_WP_best_23 rfl F
set_option maxRecDepth 100000 in
set_option maxHeartbeats 4000000 in
theorem S_WP_play_0 {G : Gc} {M : Mc} {Q : State → Prop} {K : Option Value → Hp → Prop} (hG : gok G) (hM : mok G M r_WP_play Q K) (v0 : Nat) (v1 : Int32) (v2 : Int32) (h : Hp) (F : (v2 < 0 → K (some (.int (-2))) h) ∧ (¬ v2 < 0 → ((v2 ≤ 2 → (kT h v0 = 1 ∧ kR h v0 0 = some (rf h v0 0) ∧ (kT h (rf h v0 0) = 2 ∧ sem G r_Wo_prepare [.ref (rf h v0 0)] h (fun u2 h1 => u2 = none ∧ (kT h1 v0 = 1 ∧ sem G r_WP_findNumbers [.ref v0, .int 1] h1 (fun u4 h3 => ∃ x5 : Nat, u4 = some (.ref x5) ∧ ((v1 < 0 → K (some (.int (-1))) h3) ∧ (¬ v1 < 0 → (kT h3 v0 = 1 ∧ (kT h3 x5 = 50 ∧ vp_in (kI h3 v0 8) (kN h3 x5) ∧ ((v1 < (kI h3 x5 (Int32.toNatClampNeg (kI h3 v0 8))) → (kT h3 v0 = 1 ∧ X G M Q 53 [(0, .ref v0), (1, .int v1), (2, .int v2), (4, .int (kI h3 v0 8)), (5, .int (-1)), (6, .int 0)] [] h3)) ∧ (¬ v1 < (kI h3 x5 (Int32.toNatClampNeg (kI h3 v0 8))) → K (some (.int (-1))) h3)))))))))))) ∧ (¬ v2 ≤ 2 → K (some (.int (-2))) h)))) : X G M Q 0 [(0, .ref v0), (1, .int v1), (2, .int v2)] [] h := by
  refine x_iload_n hM d_WP_play_0 rfl 2 rfl ?_
  refine x_if_lt (tgt := 9) hM d_WP_play_1 (by decide) (fun q17 => ?_) (fun q17 => ?_)
  · replace F := F.1 q17
    refine x_bipush (v := (-2)) hM d_WP_play_9 (by decide) ?_
    exact x_ireturn hM d_WP_play_11 rfl F
  · replace F := F.2 q17
    refine x_iload_n hM d_WP_play_4 rfl 2 rfl ?_
    refine x_iconst (v := 2) hM d_WP_play_5 (by decide) ?_
    refine x_icmp_le (tgt := 12) hM d_WP_play_6 (by decide) (fun q16 => ?_) (fun q16 => ?_)
    · replace F := F.1 q16
      refine x_aload_n hM d_WP_play_12 rfl 0 rfl ?_
      obtain ⟨c14, F⟩ := F
      obtain ⟨c15, F⟩ := F
      refine x_getr hG hM ck_WP 0 (Nat.le_of_ble_eq_true rfl) rfl rfl w_402 rfl d_WP_play_13 c14 c15 ?_
      obtain ⟨c13, F⟩ := F
      refine x_callV hG hM (r' := r_Wo_prepare) (ci := 1) [] rfl rfl (Nat.le_of_ble_eq_true rfl) yk_Wo_prepare ⟨Nat.le_of_ble_eq_true rfl, Nat.le_of_ble_eq_true rfl⟩ w_577 w_578 w_579 rfl rfl (Nat.le_of_ble_eq_true rfl) d_WP_play_16 c13 (sem_mono F ?_)
      intro u2 h1 F
      obtain ⟨rfl, F⟩ := F
      refine x_aload_n hM d_WP_play_19 rfl 0 rfl ?_
      refine x_iconst (v := 1) hM d_WP_play_20 (by decide) ?_
      obtain ⟨c12, F⟩ := F
      refine x_callV hG hM (r' := r_WP_findNumbers) (ci := 0) [.int 1] rfl rfl (Nat.le_of_ble_eq_true rfl) yk_WP_findNumbers ⟨Nat.le_of_ble_eq_true rfl, Nat.le_of_ble_eq_true rfl⟩ w_650 w_652 ws_WP_findNumbers rfl rfl (Nat.le_of_ble_eq_true rfl) d_WP_play_21 c12 (sem_mono F ?_)
      intro u4 h3 F
      obtain ⟨x5, rfl, F⟩ := F
      refine x_astore_n (lv2 := [(3, .ref x5), (0, .ref v0), (1, .int v1), (2, .int v2)]) hM d_WP_play_24 rfl (Nat.le_of_ble_eq_true rfl) rfl ?_
      refine x_iload_n hM d_WP_play_25 rfl 2 rfl ?_
      refine x_if_lt (tgt := 39) hM d_WP_play_26 (by decide) (fun q11 => ?_) (fun q11 => ?_)
      · replace F := F.1 q11
        refine x_iconst (v := (-1)) hM d_WP_play_39 (by decide) ?_
        exact x_ireturn hM d_WP_play_40 rfl F
      · replace F := F.2 q11
        refine x_iload_n hM d_WP_play_29 rfl 2 rfl ?_
        refine x_aload_n hM d_WP_play_30 rfl 0 rfl ?_
        refine x_aload_n hM d_WP_play_31 rfl 1 rfl ?_
        obtain ⟨c10, F⟩ := F
        refine x_geti hG hM ck_WP 8 (Nat.le_of_ble_eq_true rfl) rfl rfl w_410 rfl d_WP_play_32 c10 ?_
        obtain ⟨c8, F⟩ := F
        obtain ⟨c9, F⟩ := F
        refine x_iaload hG hM d_WP_play_35 c8 c9 ?_
        refine x_icmp_lt (tgt := 41) hM d_WP_play_36 (by decide) (fun q7 => ?_) (fun q7 => ?_)
        · replace F := F.1 q7
          refine x_aload_n hM d_WP_play_41 rfl 1 rfl ?_
          obtain ⟨c6, F⟩ := F
          refine x_geti hG hM ck_WP 8 (Nat.le_of_ble_eq_true rfl) rfl rfl w_410 rfl d_WP_play_42 c6 ?_
          refine x_istore (lv2 := [(4, .int (kI h3 v0 8)), (3, .ref x5), (0, .ref v0), (1, .int v1), (2, .int v2)]) hM d_WP_play_45 (Nat.le_of_ble_eq_true rfl) rfl ?_
          refine x_iconst (v := (-1)) hM d_WP_play_47 (by decide) ?_
          refine x_istore (lv2 := [(5, .int (-1)), (4, .int (kI h3 v0 8)), (3, .ref x5), (0, .ref v0), (1, .int v1), (2, .int v2)]) hM d_WP_play_48 (Nat.le_of_ble_eq_true rfl) rfl ?_
          refine x_iconst (v := 0) hM d_WP_play_50 (by decide) ?_
          refine x_istore (lv2 := [(6, .int 0), (5, .int (-1)), (4, .int (kI h3 v0 8)), (3, .ref x5), (0, .ref v0), (1, .int v1), (2, .int v2)]) hM d_WP_play_51 (Nat.le_of_ble_eq_true rfl) rfl ?_
          refine x_sub [4, 5, 6, 2, 1, 0] rfl ?_
          exact F
        · replace F := F.2 q7
          refine x_iconst (v := (-1)) hM d_WP_play_39 (by decide) ?_
          exact x_ireturn hM d_WP_play_40 rfl F
    · replace F := F.2 q16
      refine x_bipush (v := (-2)) hM d_WP_play_9 (by decide) ?_
      exact x_ireturn hM d_WP_play_11 rfl F
set_option maxRecDepth 100000 in
set_option maxHeartbeats 4000000 in
theorem S_WP_play_53 {G : Gc} {M : Mc} {Q : State → Prop} {K : Option Value → Hp → Prop} (hG : gok G) (hM : mok G M r_WP_play Q K) (v0 : Nat) (v1 : Int32) (v2 : Int32) (v4 : Int32) (v5 : Int32) (v6 : Int32) (h : Hp) (F : (v1 < v6 → ((v2 = 0 → (sem G r_WP_actOf [.int v5] h (fun u6 h5 => ∃ x7 : Int32, u6 = some (.int x7) ∧ K (some (.int x7)) h5))) ∧ (¬ v2 = 0 → ((v2 = 1 → (sem G r_WP_outcomeOf [.int v5] h (fun u2 h1 => ∃ x3 : Int32, u2 = some (.int x3) ∧ K (some (.int x3)) h1))) ∧ (¬ v2 = 1 → K (some (.int v4)) h))))) ∧ (¬ v1 < v6 → (kT h v0 = 1 ∧ kR h v0 5 = some (rf h v0 5) ∧ (kT h v0 = 1 ∧ kR h v0 0 = some (rf h v0 0) ∧ (kT h (rf h v0 5) = 9 ∧ sem G r_Wi_firstStep [.ref (rf h v0 5), .ref (rf h v0 0), .int v4] h (fun u10 h9 => ∃ x11 : Int32, u10 = some (.int x11) ∧ ((x11 = (-1) → K (some (.int (-1))) h9) ∧ (¬ x11 = (-1) → (kT h9 v0 = 1 ∧ kR h9 v0 0 = some (rf h9 v0 0) ∧ (kT h9 (rf h9 v0 0) = 2 ∧ sem G r_Wo_behind [.ref (rf h9 v0 0), .int x11] h9 (fun u13 h12 => ∃ x14 : Int32, u13 = some (.int x14) ∧ X G M Q 53 [(0, .ref v0), (1, .int v1), (2, .int v2), (4, .int x14), (5, .int x11), (6, .int (v6 + 1))] [] h12))))))))))) : X G M Q 53 [(0, .ref v0), (1, .int v1), (2, .int v2), (4, .int v4), (5, .int v5), (6, .int v6)] [] h := by
  refine x_iload hM d_WP_play_53 5 rfl ?_
  refine x_iload_n hM d_WP_play_55 rfl 1 rfl ?_
  refine x_icmp_gt (tgt := 99) hM d_WP_play_56 (by decide) (fun q24 => ?_) (fun q24 => ?_)
  · replace F := F.1 q24
    refine x_iload_n hM d_WP_play_99 rfl 2 rfl ?_
    refine x_if_ne (tgt := 109) hM d_WP_play_100 (by decide) (fun q8 => ?_) (fun q8 => ?_)
    · replace F := F.2 q8
      refine x_iload_n hM d_WP_play_109 rfl 2 rfl ?_
      refine x_iconst (v := 1) hM d_WP_play_110 (by decide) ?_
      refine x_icmp_ne (tgt := 122) hM d_WP_play_111 (by decide) (fun q4 => ?_) (fun q4 => ?_)
      · replace F := F.2 q4
        refine x_iload hM d_WP_play_122 3 rfl ?_
        exact x_ireturn hM d_WP_play_124 rfl F
      · replace F := F.1 q4
        refine x_iload hM d_WP_play_114 4 rfl ?_
        refine x_callS hG hM (r' := r_WP_outcomeOf) [.int v5] rfl yk_WP_outcomeOf ⟨Nat.le_of_ble_eq_true rfl, Nat.le_of_ble_eq_true rfl⟩ w_804 w_800 rfl rfl (Nat.le_of_ble_eq_true rfl) d_WP_play_116 (sem_mono F ?_)
        intro u2 h1 F
        obtain ⟨x3, rfl, F⟩ := F
        refine x_goto (tgt := 124) hM d_WP_play_119 (by decide) ?_
        exact x_ireturn hM d_WP_play_124 rfl F
    · replace F := F.1 q8
      refine x_iload hM d_WP_play_103 4 rfl ?_
      refine x_callS hG hM (r' := r_WP_actOf) [.int v5] rfl yk_WP_actOf ⟨Nat.le_of_ble_eq_true rfl, Nat.le_of_ble_eq_true rfl⟩ w_803 w_672 rfl rfl (Nat.le_of_ble_eq_true rfl) d_WP_play_105 (sem_mono F ?_)
      intro u6 h5 F
      obtain ⟨x7, rfl, F⟩ := F
      exact x_ireturn hM d_WP_play_108 rfl F
  · replace F := F.2 q24
    refine x_aload_n hM d_WP_play_59 rfl 0 rfl ?_
    obtain ⟨c22, F⟩ := F
    obtain ⟨c23, F⟩ := F
    refine x_getr hG hM ck_WP 5 (Nat.le_of_ble_eq_true rfl) rfl rfl w_407 rfl d_WP_play_60 c22 c23 ?_
    refine x_aload_n hM d_WP_play_63 rfl 0 rfl ?_
    obtain ⟨c20, F⟩ := F
    obtain ⟨c21, F⟩ := F
    refine x_getr hG hM ck_WP 0 (Nat.le_of_ble_eq_true rfl) rfl rfl w_402 rfl d_WP_play_64 c20 c21 ?_
    refine x_iload hM d_WP_play_67 3 rfl ?_
    obtain ⟨c19, F⟩ := F
    refine x_callV hG hM (r' := r_Wi_firstStep) (ci := 8) [.ref (rf h v0 0), .int v4] rfl rfl (Nat.le_of_ble_eq_true rfl) yk_Wi_firstStep ⟨Nat.le_of_ble_eq_true rfl, Nat.le_of_ble_eq_true rfl⟩ w_789 w_790 w_791 rfl rfl (Nat.le_of_ble_eq_true rfl) d_WP_play_69 c19 (sem_mono F ?_)
    intro u10 h9 F
    obtain ⟨x11, rfl, F⟩ := F
    refine x_istore (lv2 := [(5, .int x11), (0, .ref v0), (1, .int v1), (2, .int v2), (4, .int v4), (6, .int v6)]) hM d_WP_play_72 (Nat.le_of_ble_eq_true rfl) rfl ?_
    refine x_iload hM d_WP_play_74 0 rfl ?_
    refine x_iconst (v := (-1)) hM d_WP_play_76 (by decide) ?_
    refine x_icmp_ne (tgt := 82) hM d_WP_play_77 (by decide) (fun q18 => ?_) (fun q18 => ?_)
    · replace F := F.2 q18
      refine x_aload_n hM d_WP_play_82 rfl 1 rfl ?_
      obtain ⟨c16, F⟩ := F
      obtain ⟨c17, F⟩ := F
      refine x_getr hG hM ck_WP 0 (Nat.le_of_ble_eq_true rfl) rfl rfl w_402 rfl d_WP_play_83 c16 c17 ?_
      refine x_iload hM d_WP_play_86 0 rfl ?_
      obtain ⟨c15, F⟩ := F
      refine x_callV hG hM (r' := r_Wo_behind) (ci := 1) [.int x11] rfl rfl (Nat.le_of_ble_eq_true rfl) yk_Wo_behind ⟨Nat.le_of_ble_eq_true rfl, Nat.le_of_ble_eq_true rfl⟩ w_794 w_795 w_796 rfl rfl (Nat.le_of_ble_eq_true rfl) d_WP_play_88 c15 (sem_mono F ?_)
      intro u13 h12 F
      obtain ⟨x14, rfl, F⟩ := F
      refine x_istore (lv2 := [(4, .int x14), (5, .int x11), (0, .ref v0), (1, .int v1), (2, .int v2), (6, .int v6)]) hM d_WP_play_91 (Nat.le_of_ble_eq_true rfl) rfl ?_
      refine x_iinc (v := (v6 + 1)) (lv2 := [(6, .int (v6 + 1)), (4, .int x14), (5, .int x11), (0, .ref v0), (1, .int v1), (2, .int v2)]) hM d_WP_play_93 (j := 5) rfl rfl (Nat.le_of_ble_eq_true rfl) rfl ?_
      refine x_goto (tgt := 53) hM d_WP_play_96 (by decide) ?_
      refine x_sub [3, 4, 5, 1, 2, 0] rfl ?_
      exact F
    · replace F := F.1 q18
      refine x_iconst (v := (-1)) hM d_WP_play_80 (by decide) ?_
      exact x_ireturn hM d_WP_play_81 rfl F
set_option maxRecDepth 100000 in
set_option maxHeartbeats 4000000 in
theorem S_WP_plays_0 {G : Gc} {M : Mc} {Q : State → Prop} {K : Option Value → Hp → Prop} (hG : gok G) (hM : mok G M r_WP_plays Q K) (v0 : Nat) (h : Hp) (F : kT h v0 = 1 ∧ kR h v0 0 = some (rf h v0 0) ∧ (kT h (rf h v0 0) = 2 ∧ sem G r_Wo_prepare [.ref (rf h v0 0)] h (fun u2 h1 => u2 = none ∧ (kT h1 v0 = 1 ∧ sem G r_WP_findReached [.ref v0] h1 (fun u4 h3 => u4 = none ∧ (kT h3 v0 = 1 ∧ sem G r_WP_findAim [.ref v0] h3 (fun u6 h5 => u6 = none ∧ X G M Q 24 [(0, .ref v0), (1, .int 4096), (2, .long 0), (4, .int 0)] [] h5))))))) : X G M Q 0 [(0, .ref v0)] [] h := by
  refine x_aload_n hM d_WP_plays_0 rfl 0 rfl ?_
  obtain ⟨c10, F⟩ := F
  obtain ⟨c11, F⟩ := F
  refine x_getr hG hM ck_WP 0 (Nat.le_of_ble_eq_true rfl) rfl rfl w_402 rfl d_WP_plays_1 c10 c11 ?_
  obtain ⟨c9, F⟩ := F
  refine x_callV hG hM (r' := r_Wo_prepare) (ci := 1) [] rfl rfl (Nat.le_of_ble_eq_true rfl) yk_Wo_prepare ⟨Nat.le_of_ble_eq_true rfl, Nat.le_of_ble_eq_true rfl⟩ w_577 w_578 w_579 rfl rfl (Nat.le_of_ble_eq_true rfl) d_WP_plays_4 c9 (sem_mono F ?_)
  intro u2 h1 F
  obtain ⟨rfl, F⟩ := F
  refine x_aload_n hM d_WP_plays_7 rfl 0 rfl ?_
  obtain ⟨c8, F⟩ := F
  refine x_callV hG hM (r' := r_WP_findReached) (ci := 0) [] rfl rfl (Nat.le_of_ble_eq_true rfl) yk_WP_findReached ⟨Nat.le_of_ble_eq_true rfl, Nat.le_of_ble_eq_true rfl⟩ w_616 w_618 ws_WP_findReached rfl rfl (Nat.le_of_ble_eq_true rfl) d_WP_plays_8 c8 (sem_mono F ?_)
  intro u4 h3 F
  obtain ⟨rfl, F⟩ := F
  refine x_aload_n hM d_WP_plays_11 rfl 0 rfl ?_
  obtain ⟨c7, F⟩ := F
  refine x_callV hG hM (r' := r_WP_findAim) (ci := 0) [] rfl rfl (Nat.le_of_ble_eq_true rfl) yk_WP_findAim ⟨Nat.le_of_ble_eq_true rfl, Nat.le_of_ble_eq_true rfl⟩ w_638 w_640 ws_WP_findAim rfl rfl (Nat.le_of_ble_eq_true rfl) d_WP_plays_12 c7 (sem_mono F ?_)
  intro u6 h5 F
  obtain ⟨rfl, F⟩ := F
  refine x_sipush (v := 4096) hM d_WP_plays_15 (by decide) ?_
  refine x_istore_n (lv2 := [(1, .int 4096), (0, .ref v0)]) hM d_WP_plays_18 rfl (Nat.le_of_ble_eq_true rfl) rfl ?_
  refine x_lconst (v := 0) hM d_WP_plays_19 (by decide) ?_
  refine x_lstore_n (lv2 := [(2, .long 0), (1, .int 4096), (0, .ref v0)]) hM d_WP_plays_20 rfl (Nat.le_of_ble_eq_true rfl) rfl ?_
  refine x_iconst (v := 0) hM d_WP_plays_21 (by decide) ?_
  refine x_istore (lv2 := [(4, .int 0), (2, .long 0), (1, .int 4096), (0, .ref v0)]) hM d_WP_plays_22 (Nat.le_of_ble_eq_true rfl) rfl ?_
  refine x_sub [3, 2, 1, 0] rfl ?_
  exact F
set_option maxRecDepth 100000 in
set_option maxHeartbeats 4000000 in
theorem S_WP_plays_24 {G : Gc} {M : Mc} {Q : State → Prop} {K : Option Value → Hp → Prop} (hG : gok G) (hM : mok G M r_WP_plays Q K) (v0 : Nat) (v1 : Int32) (v2 : Int64) (v4 : Int32) (h : Hp) (F : kT h v0 = 1 ∧ kR h v0 0 = some (rf h v0 0) ∧ (kT h (rf h v0 0) = 2 ∧ (((kI h (rf h v0 0) 1) ≤ v4 → K (some (.long v2)) h) ∧ (¬ (kI h (rf h v0 0) 1) ≤ v4 → (kT h v0 = 1 ∧ kR h v0 4 = some (rf h v0 4) ∧ (kT h (rf h v0 4) = 8 ∧ kR h (rf h v0 4) 0 = some (rf h (rf h v0 4) 0) ∧ (kT h (rf h (rf h v0 4) 0) = 50 ∧ vp_in v4 (kN h (rf h (rf h v0 4) 0)) ∧ (kT h v0 = 1 ∧ kR h v0 5 = some (rf h v0 5) ∧ (kT h (rf h v0 5) = 9 ∧ kR h (rf h v0 5) 0 = some (rf h (rf h v0 5) 0) ∧ (kT h (rf h (rf h v0 5) 0) = 51 ∧ vp_in v4 (kN h (rf h (rf h v0 5) 0)) ∧ ((¬ (kI h (rf h (rf h v0 5) 0) (Int32.toNatClampNeg v4)) = 0 → (¬ (kI h (rf h (rf h v0 4) 0) (Int32.toNatClampNeg v4)) = (-1) → ((kI h (rf h (rf h v0 4) 0) (Int32.toNatClampNeg v4)) ≤ v1 → ((v1 ≤ (kI h (rf h (rf h v0 4) 0) (Int32.toNatClampNeg v4)) → (kT h v0 = 1 ∧ kR h v0 4 = some (rf h v0 4) ∧ kT h (rf h v0 4) = 8 ∧ kR h (rf h v0 4) 1 = some (rf h (rf h v0 4) 1) ∧ kT h (rf h (rf h v0 4) 1) = 52 ∧ vp_in v4 (kN h (rf h (rf h v0 4) 1)))) ∧ (¬ v1 ≤ (kI h (rf h (rf h v0 4) 0) (Int32.toNatClampNeg v4)) → (kT h v0 = 1 ∧ kR h v0 4 = some (rf h v0 4) ∧ kT h (rf h v0 4) = 8 ∧ kR h (rf h v0 4) 1 = some (rf h (rf h v0 4) 1) ∧ kT h (rf h (rf h v0 4) 1) = 52 ∧ vp_in v4 (kN h (rf h (rf h v0 4) 1)))))))) ∧ (∀ z1 : Int32, z1 = (if (kI h (rf h (rf h v0 5) 0) (Int32.toNatClampNeg v4)) = 0 then v1 else (if (kI h (rf h (rf h v0 4) 0) (Int32.toNatClampNeg v4)) = (-1) then v1 else (if (kI h (rf h (rf h v0 4) 0) (Int32.toNatClampNeg v4)) ≤ v1 then (kI h (rf h (rf h v0 4) 0) (Int32.toNatClampNeg v4)) else v1))) → (∀ z2 : Int64, z2 = (if (kI h (rf h (rf h v0 5) 0) (Int32.toNatClampNeg v4)) = 0 then v2 else (if (kI h (rf h (rf h v0 4) 0) (Int32.toNatClampNeg v4)) = (-1) then v2 else (if (kI h (rf h (rf h v0 4) 0) (Int32.toNatClampNeg v4)) ≤ v1 then (if v1 ≤ (kI h (rf h (rf h v0 4) 0) (Int32.toNatClampNeg v4)) then (v2 + (kL h (rf h (rf h v0 4) 1) (Int32.toNatClampNeg v4))) else (kL h (rf h (rf h v0 4) 1) (Int32.toNatClampNeg v4))) else v2))) → X G M Q 24 [(0, .ref v0), (1, .int z1), (2, .long z2), (4, .int (v4 + 1))] [] h))))))))))))) : X G M Q 24 [(0, .ref v0), (1, .int v1), (2, .long v2), (4, .int v4)] [] h := by
  refine x_iload hM d_WP_plays_24 3 rfl ?_
  refine x_aload_n hM d_WP_plays_26 rfl 0 rfl ?_
  obtain ⟨c33, F⟩ := F
  obtain ⟨c34, F⟩ := F
  refine x_getr hG hM ck_WP 0 (Nat.le_of_ble_eq_true rfl) rfl rfl w_402 rfl d_WP_plays_27 c33 c34 ?_
  obtain ⟨c32, F⟩ := F
  refine x_geti hG hM ck_Wo 1 (Nat.le_of_ble_eq_true rfl) rfl rfl w_132 rfl d_WP_plays_30 c32 ?_
  refine x_icmp_ge (tgt := 117) hM d_WP_plays_33 (by decide) (fun q31 => ?_) (fun q31 => ?_)
  · replace F := F.1 q31
    refine x_lload_n hM d_WP_plays_117 rfl 2 rfl ?_
    exact x_lreturn hM d_WP_plays_118 rfl F
  · replace F := F.2 q31
    refine x_aload_n hM d_WP_plays_36 rfl 0 rfl ?_
    obtain ⟨c29, F⟩ := F
    obtain ⟨c30, F⟩ := F
    refine x_getr hG hM ck_WP 4 (Nat.le_of_ble_eq_true rfl) rfl rfl w_406 rfl d_WP_plays_37 c29 c30 ?_
    obtain ⟨c27, F⟩ := F
    obtain ⟨c28, F⟩ := F
    refine x_getr hG hM ck_Re 0 (Nat.le_of_ble_eq_true rfl) rfl rfl w_257 rfl d_WP_plays_40 c27 c28 ?_
    refine x_iload hM d_WP_plays_43 3 rfl ?_
    obtain ⟨c25, F⟩ := F
    obtain ⟨c26, F⟩ := F
    refine x_iaload hG hM d_WP_plays_45 c25 c26 ?_
    refine x_istore (lv2 := [(5, .int (kI h (rf h (rf h v0 4) 0) (Int32.toNatClampNeg v4))), (0, .ref v0), (1, .int v1), (2, .long v2), (4, .int v4)]) hM d_WP_plays_46 (Nat.le_of_ble_eq_true rfl) rfl ?_
    refine x_aload_n hM d_WP_plays_48 rfl 1 rfl ?_
    obtain ⟨c23, F⟩ := F
    obtain ⟨c24, F⟩ := F
    refine x_getr hG hM ck_WP 5 (Nat.le_of_ble_eq_true rfl) rfl rfl w_407 rfl d_WP_plays_49 c23 c24 ?_
    obtain ⟨c21, F⟩ := F
    obtain ⟨c22, F⟩ := F
    refine x_getr hG hM ck_Wi 0 (Nat.le_of_ble_eq_true rfl) rfl rfl w_284 rfl d_WP_plays_52 c21 c22 ?_
    refine x_iload hM d_WP_plays_55 4 rfl ?_
    obtain ⟨c19, F⟩ := F
    obtain ⟨c20, F⟩ := F
    refine x_zaload hG hM d_WP_plays_57 c19 c20 ?_
    obtain ⟨S, F⟩ := F
    have JJ : ∀ (z1 : Int32) (ez1 : z1 = (if (kI h (rf h (rf h v0 5) 0) (Int32.toNatClampNeg v4)) = 0 then v1 else (if (kI h (rf h (rf h v0 4) 0) (Int32.toNatClampNeg v4)) = (-1) then v1 else (if (kI h (rf h (rf h v0 4) 0) (Int32.toNatClampNeg v4)) ≤ v1 then (kI h (rf h (rf h v0 4) 0) (Int32.toNatClampNeg v4)) else v1)))) (z2 : Int64) (ez2 : z2 = (if (kI h (rf h (rf h v0 5) 0) (Int32.toNatClampNeg v4)) = 0 then v2 else (if (kI h (rf h (rf h v0 4) 0) (Int32.toNatClampNeg v4)) = (-1) then v2 else (if (kI h (rf h (rf h v0 4) 0) (Int32.toNatClampNeg v4)) ≤ v1 then (if v1 ≤ (kI h (rf h (rf h v0 4) 0) (Int32.toNatClampNeg v4)) then (v2 + (kL h (rf h (rf h v0 4) 1) (Int32.toNatClampNeg v4))) else (kL h (rf h (rf h v0 4) 1) (Int32.toNatClampNeg v4))) else v2)))), X G M Q 111 [(0, .ref v0), (1, .int z1), (2, .long z2), (4, .int v4)] [] h := by
      intro z1 ez1 z2 ez2
      replace F := F _ ez1 _ ez2
      refine x_iinc (v := (v4 + 1)) (lv2 := [(4, .int (v4 + 1)), (0, .ref v0), (1, .int z1), (2, .long z2)]) hM d_WP_plays_111 (j := 3) rfl rfl (Nat.le_of_ble_eq_true rfl) rfl ?_
      refine x_goto (tgt := 24) hM d_WP_plays_114 (by decide) ?_
      refine x_sub [1, 2, 3, 0] rfl ?_
      exact F
    refine x_if_eq (tgt := 111) hM d_WP_plays_58 (by decide) (fun q3 => ?_) (fun q3 => ?_)
    · refine x_sub [1, 2, 3, 4] rfl ?_
      exact JJ _ (Eq.symm (if_pos q3)) _ (Eq.symm (if_pos q3))
    · replace S := S q3
      refine x_iload hM d_WP_plays_61 0 rfl ?_
      refine x_iconst (v := (-1)) hM d_WP_plays_63 (by decide) ?_
      refine x_icmp_eq (tgt := 111) hM d_WP_plays_64 (by decide) (fun q4 => ?_) (fun q4 => ?_)
      · refine x_sub [1, 2, 3, 4] rfl ?_
        exact JJ _ (Eq.symm (Eq.trans (if_neg q3) (if_pos q4))) _ (Eq.symm (Eq.trans (if_neg q3) (if_pos q4)))
      · replace S := S q4
        refine x_iload hM d_WP_plays_67 0 rfl ?_
        refine x_iload_n hM d_WP_plays_69 rfl 2 rfl ?_
        refine x_icmp_le (tgt := 76) hM d_WP_plays_70 (by decide) (fun q5 => ?_) (fun q5 => ?_)
        · replace S := S q5
          refine x_iload hM d_WP_plays_76 0 rfl ?_
          refine x_iload_n hM d_WP_plays_78 rfl 2 rfl ?_
          refine x_icmp_ge (tgt := 95) hM d_WP_plays_79 (by decide) (fun q6 => ?_) (fun q6 => ?_)
          · replace S := S.1 q6
            refine x_lload_n hM d_WP_plays_95 rfl 3 rfl ?_
            refine x_aload_n hM d_WP_plays_96 rfl 1 rfl ?_
            obtain ⟨c7, S⟩ := S
            obtain ⟨c8, S⟩ := S
            refine x_getr hG hM ck_WP 4 (Nat.le_of_ble_eq_true rfl) rfl rfl w_406 rfl d_WP_plays_97 c7 c8 ?_
            obtain ⟨c9, S⟩ := S
            obtain ⟨c10, S⟩ := S
            refine x_getr hG hM ck_Re 1 (Nat.le_of_ble_eq_true rfl) rfl rfl w_259 rfl d_WP_plays_100 c9 c10 ?_
            refine x_iload hM d_WP_plays_103 4 rfl ?_
            obtain ⟨c11, S⟩ := S
            have c12 := S
            refine x_laload hG hM d_WP_plays_105 c11 c12 ?_
            refine x_ladd hM d_WP_plays_106 ?_
            refine x_lstore_n (lv2 := [(2, .long (v2 + (kL h (rf h (rf h v0 4) 1) (Int32.toNatClampNeg v4)))), (5, .int (kI h (rf h (rf h v0 4) 0) (Int32.toNatClampNeg v4))), (0, .ref v0), (1, .int v1), (4, .int v4)]) hM d_WP_plays_107 rfl (Nat.le_of_ble_eq_true rfl) rfl ?_
            refine x_iload hM d_WP_plays_108 1 rfl ?_
            refine x_istore_n (lv2 := [(1, .int (kI h (rf h (rf h v0 4) 0) (Int32.toNatClampNeg v4))), (2, .long (v2 + (kL h (rf h (rf h v0 4) 1) (Int32.toNatClampNeg v4)))), (5, .int (kI h (rf h (rf h v0 4) 0) (Int32.toNatClampNeg v4))), (0, .ref v0), (4, .int v4)]) hM d_WP_plays_110 rfl (Nat.le_of_ble_eq_true rfl) rfl ?_
            refine x_sub [3, 0, 1, 4] rfl ?_
            exact JJ _ (Eq.symm (Eq.trans (if_neg q3) (Eq.trans (if_neg q4) (if_pos q5)))) _ (Eq.symm (Eq.trans (if_neg q3) (Eq.trans (if_neg q4) (Eq.trans (if_pos q5) (if_pos q6)))))
          · replace S := S.2 q6
            refine x_aload_n hM d_WP_plays_82 rfl 1 rfl ?_
            obtain ⟨c13, S⟩ := S
            obtain ⟨c14, S⟩ := S
            refine x_getr hG hM ck_WP 4 (Nat.le_of_ble_eq_true rfl) rfl rfl w_406 rfl d_WP_plays_83 c13 c14 ?_
            obtain ⟨c15, S⟩ := S
            obtain ⟨c16, S⟩ := S
            refine x_getr hG hM ck_Re 1 (Nat.le_of_ble_eq_true rfl) rfl rfl w_259 rfl d_WP_plays_86 c15 c16 ?_
            refine x_iload hM d_WP_plays_89 4 rfl ?_
            obtain ⟨c17, S⟩ := S
            have c18 := S
            refine x_laload hG hM d_WP_plays_91 c17 c18 ?_
            refine x_goto (tgt := 107) hM d_WP_plays_92 (by decide) ?_
            refine x_lstore_n (lv2 := [(2, .long (kL h (rf h (rf h v0 4) 1) (Int32.toNatClampNeg v4))), (5, .int (kI h (rf h (rf h v0 4) 0) (Int32.toNatClampNeg v4))), (0, .ref v0), (1, .int v1), (4, .int v4)]) hM d_WP_plays_107 rfl (Nat.le_of_ble_eq_true rfl) rfl ?_
            refine x_iload hM d_WP_plays_108 1 rfl ?_
            refine x_istore_n (lv2 := [(1, .int (kI h (rf h (rf h v0 4) 0) (Int32.toNatClampNeg v4))), (2, .long (kL h (rf h (rf h v0 4) 1) (Int32.toNatClampNeg v4))), (5, .int (kI h (rf h (rf h v0 4) 0) (Int32.toNatClampNeg v4))), (0, .ref v0), (4, .int v4)]) hM d_WP_plays_110 rfl (Nat.le_of_ble_eq_true rfl) rfl ?_
            refine x_sub [3, 0, 1, 4] rfl ?_
            exact JJ _ (Eq.symm (Eq.trans (if_neg q3) (Eq.trans (if_neg q4) (if_pos q5)))) _ (Eq.symm (Eq.trans (if_neg q3) (Eq.trans (if_neg q4) (Eq.trans (if_pos q5) (if_neg q6)))))
        · refine x_goto (tgt := 111) hM d_WP_plays_73 (by decide) ?_
          refine x_sub [1, 2, 3, 4] rfl ?_
          exact JJ _ (Eq.symm (Eq.trans (if_neg q3) (Eq.trans (if_neg q4) (if_neg q5)))) _ (Eq.symm (Eq.trans (if_neg q3) (Eq.trans (if_neg q4) (if_neg q5))))
set_option maxRecDepth 100000 in
set_option maxHeartbeats 4000000 in
theorem S_WP_needed_0 {G : Gc} {M : Mc} {Q : State → Prop} {K : Option Value → Hp → Prop} (hG : gok G) (hM : mok G M r_WP_needed Q K) (v0 : Nat) (h : Hp) (F : kT h v0 = 1 ∧ kR h v0 0 = some (rf h v0 0) ∧ (kT h (rf h v0 0) = 2 ∧ sem G r_Wo_prepare [.ref (rf h v0 0)] h (fun u2 h1 => u2 = none ∧ (kT h1 v0 = 1 ∧ sem G r_WP_findAim [.ref v0] h1 (fun u4 h3 => u4 = none ∧ (kT h3 v0 = 1 ∧ (kT h3 v0 = 1 ∧ kR h3 v0 3 = some (rf h3 v0 3) ∧ (kT h3 (rf h3 v0 3) = 7 ∧ ((0 ≤ (lg_cmp (kL h3 v0 10) (kL h3 (rf h3 v0 3) 0)) → (kT h3 v0 = 1 ∧ K (some (.int (kI h3 v0 9))) h3)) ∧ (¬ 0 ≤ (lg_cmp (kL h3 v0 10) (kL h3 (rf h3 v0 3) 0)) → (kT h3 v0 = 1 ∧ (∀ h6 : Hp, h6 = wI h3 v0 9 0 → X G M Q 33 [(0, .ref v0), (1, .int 0)] [] h6)))))))))))) : X G M Q 0 [(0, .ref v0)] [] h := by
  refine x_aload_n hM d_WP_needed_0 rfl 0 rfl ?_
  obtain ⟨c15, F⟩ := F
  obtain ⟨c16, F⟩ := F
  refine x_getr hG hM ck_WP 0 (Nat.le_of_ble_eq_true rfl) rfl rfl w_402 rfl d_WP_needed_1 c15 c16 ?_
  obtain ⟨c14, F⟩ := F
  refine x_callV hG hM (r' := r_Wo_prepare) (ci := 1) [] rfl rfl (Nat.le_of_ble_eq_true rfl) yk_Wo_prepare ⟨Nat.le_of_ble_eq_true rfl, Nat.le_of_ble_eq_true rfl⟩ w_577 w_578 w_579 rfl rfl (Nat.le_of_ble_eq_true rfl) d_WP_needed_4 c14 (sem_mono F ?_)
  intro u2 h1 F
  obtain ⟨rfl, F⟩ := F
  refine x_aload_n hM d_WP_needed_7 rfl 0 rfl ?_
  obtain ⟨c13, F⟩ := F
  refine x_callV hG hM (r' := r_WP_findAim) (ci := 0) [] rfl rfl (Nat.le_of_ble_eq_true rfl) yk_WP_findAim ⟨Nat.le_of_ble_eq_true rfl, Nat.le_of_ble_eq_true rfl⟩ w_638 w_640 ws_WP_findAim rfl rfl (Nat.le_of_ble_eq_true rfl) d_WP_needed_8 c13 (sem_mono F ?_)
  intro u4 h3 F
  obtain ⟨rfl, F⟩ := F
  refine x_aload_n hM d_WP_needed_11 rfl 0 rfl ?_
  obtain ⟨c12, F⟩ := F
  refine x_getl hG hM ck_WP 10 (Nat.le_of_ble_eq_true rfl) rfl rfl w_412 rfl d_WP_needed_12 c12 ?_
  refine x_aload_n hM d_WP_needed_15 rfl 0 rfl ?_
  obtain ⟨c10, F⟩ := F
  obtain ⟨c11, F⟩ := F
  refine x_getr hG hM ck_WP 3 (Nat.le_of_ble_eq_true rfl) rfl rfl w_405 rfl d_WP_needed_16 c10 c11 ?_
  obtain ⟨c9, F⟩ := F
  refine x_getl hG hM ck_Ch 0 (Nat.le_of_ble_eq_true rfl) rfl rfl w_234 rfl d_WP_needed_19 c9 ?_
  refine x_lcmp hM d_WP_needed_22 ?_
  refine x_if_ge (tgt := 101) hM d_WP_needed_23 (by decide) (fun q8 => ?_) (fun q8 => ?_)
  · replace F := F.1 q8
    refine x_aload_n hM d_WP_needed_101 rfl 0 rfl ?_
    obtain ⟨c5, F⟩ := F
    refine x_geti hG hM ck_WP 9 (Nat.le_of_ble_eq_true rfl) rfl rfl w_411 rfl d_WP_needed_102 c5 ?_
    exact x_ireturn hM d_WP_needed_105 rfl F
  · replace F := F.2 q8
    refine x_aload_n hM d_WP_needed_26 rfl 0 rfl ?_
    refine x_iconst (v := 0) hM d_WP_needed_27 (by decide) ?_
    obtain ⟨c7, F⟩ := F
    replace F := F _ rfl
    refine x_puti hG hM ck_WP 9 (Nat.le_of_ble_eq_true rfl) rfl rfl w_411 rfl d_WP_needed_28 (Or.inl rfl) c7 ?_
    refine x_iconst (v := 0) hM d_WP_needed_31 (by decide) ?_
    refine x_istore_n (lv2 := [(1, .int 0), (0, .ref v0)]) hM d_WP_needed_32 rfl (Nat.le_of_ble_eq_true rfl) rfl ?_
    refine x_sub [1, 0] rfl ?_
    exact F
set_option maxRecDepth 100000 in
set_option maxHeartbeats 4000000 in
theorem S_WP_needed_33 {G : Gc} {M : Mc} {Q : State → Prop} {K : Option Value → Hp → Prop} (hG : gok G) (hM : mok G M r_WP_needed Q K) (v0 : Nat) (v1 : Int32) (h : Hp) (F : kT h v0 = 1 ∧ kR h v0 0 = some (rf h v0 0) ∧ (kT h (rf h v0 0) = 2 ∧ (((kI h (rf h v0 0) 2) ≤ v1 → (kT h v0 = 1 ∧ kR h v0 3 = some (rf h v0 3) ∧ (kT h (rf h v0 3) = 7 ∧ (kT h v0 = 1 ∧ (∀ h1 : Hp, h1 = wL h v0 10 (kL h (rf h v0 3) 0) → (kT h1 v0 = 1 ∧ K (some (.int (kI h1 v0 9))) h1)))))) ∧ (¬ (kI h (rf h v0 0) 2) ≤ v1 → (kT h v0 = 1 ∧ kR h v0 7 = some (rf h v0 7) ∧ (kT h v0 = 1 ∧ kR h v0 0 = some (rf h v0 0) ∧ (kT h v0 = 1 ∧ kR h v0 5 = some (rf h v0 5) ∧ (kT h (rf h v0 5) = 9 ∧ kR h (rf h v0 5) 0 = some (rf h (rf h v0 5) 0) ∧ (kT h v0 = 1 ∧ (kT h (rf h v0 7) = 11 ∧ sem G r_Se_wins [.ref (rf h v0 7), .ref (rf h v0 0), .ref (rf h (rf h v0 5) 0), .int (kI h v0 8), .int v1, .int (-1), .int (-1)] h (fun u8 h7 => ∃ x9 : Int32, u8 = some (.int x9) ∧ ((x9 = 0 → (kT h7 v0 = 1 ∧ (kT h7 v0 = 1 ∧ (∀ h10 : Hp, h10 = wI h7 v0 9 ((kI h7 v0 9) ||| (1 <<< (v1 &&& 31))) → X G M Q 33 [(0, .ref v0), (1, .int (v1 + 1))] [] h10)))) ∧ (¬ x9 = 0 → X G M Q 33 [(0, .ref v0), (1, .int (v1 + 1))] [] h7))))))))))))) : X G M Q 33 [(0, .ref v0), (1, .int v1)] [] h := by
  refine x_iload_n hM d_WP_needed_33 rfl 1 rfl ?_
  refine x_aload_n hM d_WP_needed_34 rfl 0 rfl ?_
  obtain ⟨c26, F⟩ := F
  obtain ⟨c27, F⟩ := F
  refine x_getr hG hM ck_WP 0 (Nat.le_of_ble_eq_true rfl) rfl rfl w_402 rfl d_WP_needed_35 c26 c27 ?_
  obtain ⟨c25, F⟩ := F
  refine x_geti hG hM ck_Wo 2 (Nat.le_of_ble_eq_true rfl) rfl rfl w_136 rfl d_WP_needed_38 c25 ?_
  refine x_icmp_ge (tgt := 90) hM d_WP_needed_41 (by decide) (fun q24 => ?_) (fun q24 => ?_)
  · replace F := F.1 q24
    refine x_aload_n hM d_WP_needed_90 rfl 0 rfl ?_
    refine x_aload_n hM d_WP_needed_91 rfl 0 rfl ?_
    obtain ⟨c5, F⟩ := F
    obtain ⟨c6, F⟩ := F
    refine x_getr hG hM ck_WP 3 (Nat.le_of_ble_eq_true rfl) rfl rfl w_405 rfl d_WP_needed_92 c5 c6 ?_
    obtain ⟨c4, F⟩ := F
    refine x_getl hG hM ck_Ch 0 (Nat.le_of_ble_eq_true rfl) rfl rfl w_234 rfl d_WP_needed_95 c4 ?_
    obtain ⟨c3, F⟩ := F
    replace F := F _ rfl
    refine x_putl hG hM ck_WP 10 (Nat.le_of_ble_eq_true rfl) rfl rfl w_412 rfl d_WP_needed_98 (Or.inl rfl) c3 ?_
    refine x_aload_n hM d_WP_needed_101 rfl 0 rfl ?_
    obtain ⟨c2, F⟩ := F
    refine x_geti hG hM ck_WP 9 (Nat.le_of_ble_eq_true rfl) rfl rfl w_411 rfl d_WP_needed_102 c2 ?_
    exact x_ireturn hM d_WP_needed_105 rfl F
  · replace F := F.2 q24
    refine x_aload_n hM d_WP_needed_44 rfl 0 rfl ?_
    obtain ⟨c22, F⟩ := F
    obtain ⟨c23, F⟩ := F
    refine x_getr hG hM ck_WP 7 (Nat.le_of_ble_eq_true rfl) rfl rfl w_409 rfl d_WP_needed_45 c22 c23 ?_
    refine x_aload_n hM d_WP_needed_48 rfl 0 rfl ?_
    obtain ⟨c20, F⟩ := F
    obtain ⟨c21, F⟩ := F
    refine x_getr hG hM ck_WP 0 (Nat.le_of_ble_eq_true rfl) rfl rfl w_402 rfl d_WP_needed_49 c20 c21 ?_
    refine x_aload_n hM d_WP_needed_52 rfl 0 rfl ?_
    obtain ⟨c18, F⟩ := F
    obtain ⟨c19, F⟩ := F
    refine x_getr hG hM ck_WP 5 (Nat.le_of_ble_eq_true rfl) rfl rfl w_407 rfl d_WP_needed_53 c18 c19 ?_
    obtain ⟨c16, F⟩ := F
    obtain ⟨c17, F⟩ := F
    refine x_getr hG hM ck_Wi 0 (Nat.le_of_ble_eq_true rfl) rfl rfl w_284 rfl d_WP_needed_56 c16 c17 ?_
    refine x_aload_n hM d_WP_needed_59 rfl 0 rfl ?_
    obtain ⟨c15, F⟩ := F
    refine x_geti hG hM ck_WP 8 (Nat.le_of_ble_eq_true rfl) rfl rfl w_410 rfl d_WP_needed_60 c15 ?_
    refine x_iload_n hM d_WP_needed_63 rfl 1 rfl ?_
    refine x_iconst (v := (-1)) hM d_WP_needed_64 (by decide) ?_
    refine x_iconst (v := (-1)) hM d_WP_needed_65 (by decide) ?_
    obtain ⟨c14, F⟩ := F
    refine x_callV hG hM (r' := r_Se_wins) (ci := 10) [.ref (rf h v0 0), .ref (rf h (rf h v0 5) 0), .int (kI h v0 8), .int v1, .int (-1), .int (-1)] rfl rfl (Nat.le_of_ble_eq_true rfl) yk_Se_wins ⟨Nat.le_of_ble_eq_true rfl, Nat.le_of_ble_eq_true rfl⟩ w_813 w_814 w_815 rfl rfl (Nat.le_of_ble_eq_true rfl) d_WP_needed_66 c14 (sem_mono F ?_)
    intro u8 h7 F
    obtain ⟨x9, rfl, F⟩ := F
    refine x_if_ne (tgt := 84) hM d_WP_needed_69 (by decide) (fun q13 => ?_) (fun q13 => ?_)
    · replace F := F.2 q13
      refine x_iinc (v := (v1 + 1)) (lv2 := [(1, .int (v1 + 1)), (0, .ref v0)]) hM d_WP_needed_84 (j := 1) rfl rfl (Nat.le_of_ble_eq_true rfl) rfl ?_
      refine x_goto (tgt := 33) hM d_WP_needed_87 (by decide) ?_
      refine x_sub [1, 0] rfl ?_
      exact F
    · replace F := F.1 q13
      refine x_aload_n hM d_WP_needed_72 rfl 0 rfl ?_
      refine x_dup hM d_WP_needed_73 rfl ?_
      obtain ⟨c12, F⟩ := F
      refine x_geti hG hM ck_WP 9 (Nat.le_of_ble_eq_true rfl) rfl rfl w_411 rfl d_WP_needed_74 c12 ?_
      refine x_iconst (v := 1) hM d_WP_needed_77 (by decide) ?_
      refine x_iload_n hM d_WP_needed_78 rfl 1 rfl ?_
      refine x_ishl hM d_WP_needed_79 ?_
      refine x_ior hM d_WP_needed_80 ?_
      obtain ⟨c11, F⟩ := F
      replace F := F _ rfl
      refine x_puti hG hM ck_WP 9 (Nat.le_of_ble_eq_true rfl) rfl rfl w_411 rfl d_WP_needed_81 (Or.inl rfl) c11 ?_
      refine x_iinc (v := (v1 + 1)) (lv2 := [(1, .int (v1 + 1)), (0, .ref v0)]) hM d_WP_needed_84 (j := 1) rfl rfl (Nat.le_of_ble_eq_true rfl) rfl ?_
      refine x_goto (tgt := 33) hM d_WP_needed_87 (by decide) ?_
      refine x_sub [1, 0] rfl ?_
      exact F
set_option maxRecDepth 100000 in
set_option maxHeartbeats 4000000 in
theorem S_WP_fact_0 {G : Gc} {M : Mc} {Q : State → Prop} {K : Option Value → Hp → Prop} (hG : gok G) (hM : mok G M r_WP_fact Q K) (v0 : Nat) (v1 : Int32) (v2 : Int32) (h : Hp) (F : kT h v0 = 1 ∧ kR h v0 0 = some (rf h v0 0) ∧ (kT h (rf h v0 0) = 2 ∧ sem G r_Wo_isThing [.ref (rf h v0 0), .int v1] h (fun u2 h1 => ∃ x3 : Int32, u2 = some (.int x3) ∧ ((x3 = 0 → K (some (.int (-2))) h1) ∧ (¬ x3 = 0 → ((v2 < 0 → K (some (.int (-2))) h1) ∧ (¬ v2 < 0 → (kT h1 v0 = 1 ∧ kR h1 v0 0 = some (rf h1 v0 0) ∧ (kT h1 (rf h1 v0 0) = 2 ∧ kR h1 (rf h1 v0 0) 3 = some (rf h1 (rf h1 v0 0) 3) ∧ (kT h1 (rf h1 (rf h1 v0 0) 3) = 50 ∧ vp_in v1 (kN h1 (rf h1 (rf h1 v0 0) 3)) ∧ ((v2 < (kI h1 (rf h1 (rf h1 v0 0) 3) (Int32.toNatClampNeg v1)) → (kT h1 v0 = 1 ∧ kR h1 v0 0 = some (rf h1 v0 0) ∧ (kT h1 (rf h1 v0 0) = 2 ∧ sem G r_Wo_prepare [.ref (rf h1 v0 0)] h1 (fun u5 h4 => u5 = none ∧ (kT h4 v0 = 1 ∧ sem G r_WP_findAim [.ref v0] h4 (fun u7 h6 => u7 = none ∧ (kT h6 v0 = 1 ∧ kR h6 v0 7 = some (rf h6 v0 7) ∧ (kT h6 v0 = 1 ∧ kR h6 v0 0 = some (rf h6 v0 0) ∧ (kT h6 v0 = 1 ∧ kR h6 v0 5 = some (rf h6 v0 5) ∧ (kT h6 (rf h6 v0 5) = 9 ∧ kR h6 (rf h6 v0 5) 0 = some (rf h6 (rf h6 v0 5) 0) ∧ (kT h6 v0 = 1 ∧ (kT h6 (rf h6 v0 7) = 11 ∧ sem G r_Se_wins [.ref (rf h6 v0 7), .ref (rf h6 v0 0), .ref (rf h6 (rf h6 v0 5) 0), .int (kI h6 v0 8), .int (-1), .int v1, .int v2] h6 (fun u9 h8 => ∃ x10 : Int32, u9 = some (.int x10) ∧ (∀ z11 : Int32, z11 = (if x10 = 0 then 1 else 0) → K (some (.int z11)) h8)))))))))))))) ∧ (¬ v2 < (kI h1 (rf h1 (rf h1 v0 0) 3) (Int32.toNatClampNeg v1)) → K (some (.int (-2))) h1)))))))))))) : X G M Q 0 [(0, .ref v0), (1, .int v1), (2, .int v2)] [] h := by
  refine x_aload_n hM d_WP_fact_0 rfl 0 rfl ?_
  obtain ⟨c37, F⟩ := F
  obtain ⟨c38, F⟩ := F
  refine x_getr hG hM ck_WP 0 (Nat.le_of_ble_eq_true rfl) rfl rfl w_402 rfl d_WP_fact_1 c37 c38 ?_
  refine x_iload_n hM d_WP_fact_4 rfl 1 rfl ?_
  obtain ⟨c36, F⟩ := F
  refine x_callV hG hM (r' := r_Wo_isThing) (ci := 1) [.int v1] rfl rfl (Nat.le_of_ble_eq_true rfl) yk_Wo_isThing ⟨Nat.le_of_ble_eq_true rfl, Nat.le_of_ble_eq_true rfl⟩ w_833 w_505 w_506 rfl rfl (Nat.le_of_ble_eq_true rfl) d_WP_fact_5 c36 (sem_mono F ?_)
  intro u2 h1 F
  obtain ⟨x3, rfl, F⟩ := F
  refine x_if_eq (tgt := 28) hM d_WP_fact_8 (by decide) (fun q35 => ?_) (fun q35 => ?_)
  · replace F := F.1 q35
    refine x_bipush (v := (-2)) hM d_WP_fact_28 (by decide) ?_
    exact x_ireturn hM d_WP_fact_30 rfl F
  · replace F := F.2 q35
    refine x_iload_n hM d_WP_fact_11 rfl 2 rfl ?_
    refine x_if_lt (tgt := 28) hM d_WP_fact_12 (by decide) (fun q34 => ?_) (fun q34 => ?_)
    · replace F := F.1 q34
      refine x_bipush (v := (-2)) hM d_WP_fact_28 (by decide) ?_
      exact x_ireturn hM d_WP_fact_30 rfl F
    · replace F := F.2 q34
      refine x_iload_n hM d_WP_fact_15 rfl 2 rfl ?_
      refine x_aload_n hM d_WP_fact_16 rfl 0 rfl ?_
      obtain ⟨c32, F⟩ := F
      obtain ⟨c33, F⟩ := F
      refine x_getr hG hM ck_WP 0 (Nat.le_of_ble_eq_true rfl) rfl rfl w_402 rfl d_WP_fact_17 c32 c33 ?_
      obtain ⟨c30, F⟩ := F
      obtain ⟨c31, F⟩ := F
      refine x_getr hG hM ck_Wo 3 (Nat.le_of_ble_eq_true rfl) rfl rfl w_141 rfl d_WP_fact_20 c30 c31 ?_
      refine x_iload_n hM d_WP_fact_23 rfl 1 rfl ?_
      obtain ⟨c28, F⟩ := F
      obtain ⟨c29, F⟩ := F
      refine x_iaload hG hM d_WP_fact_24 c28 c29 ?_
      refine x_icmp_lt (tgt := 31) hM d_WP_fact_25 (by decide) (fun q27 => ?_) (fun q27 => ?_)
      · replace F := F.1 q27
        refine x_aload_n hM d_WP_fact_31 rfl 0 rfl ?_
        obtain ⟨c25, F⟩ := F
        obtain ⟨c26, F⟩ := F
        refine x_getr hG hM ck_WP 0 (Nat.le_of_ble_eq_true rfl) rfl rfl w_402 rfl d_WP_fact_32 c25 c26 ?_
        obtain ⟨c24, F⟩ := F
        refine x_callV hG hM (r' := r_Wo_prepare) (ci := 1) [] rfl rfl (Nat.le_of_ble_eq_true rfl) yk_Wo_prepare ⟨Nat.le_of_ble_eq_true rfl, Nat.le_of_ble_eq_true rfl⟩ w_577 w_578 w_579 rfl rfl (Nat.le_of_ble_eq_true rfl) d_WP_fact_35 c24 (sem_mono F ?_)
        intro u5 h4 F
        obtain ⟨rfl, F⟩ := F
        refine x_aload_n hM d_WP_fact_38 rfl 0 rfl ?_
        obtain ⟨c23, F⟩ := F
        refine x_callV hG hM (r' := r_WP_findAim) (ci := 0) [] rfl rfl (Nat.le_of_ble_eq_true rfl) yk_WP_findAim ⟨Nat.le_of_ble_eq_true rfl, Nat.le_of_ble_eq_true rfl⟩ w_638 w_640 ws_WP_findAim rfl rfl (Nat.le_of_ble_eq_true rfl) d_WP_fact_39 c23 (sem_mono F ?_)
        intro u7 h6 F
        obtain ⟨rfl, F⟩ := F
        refine x_aload_n hM d_WP_fact_42 rfl 0 rfl ?_
        obtain ⟨c21, F⟩ := F
        obtain ⟨c22, F⟩ := F
        refine x_getr hG hM ck_WP 7 (Nat.le_of_ble_eq_true rfl) rfl rfl w_409 rfl d_WP_fact_43 c21 c22 ?_
        refine x_aload_n hM d_WP_fact_46 rfl 0 rfl ?_
        obtain ⟨c19, F⟩ := F
        obtain ⟨c20, F⟩ := F
        refine x_getr hG hM ck_WP 0 (Nat.le_of_ble_eq_true rfl) rfl rfl w_402 rfl d_WP_fact_47 c19 c20 ?_
        refine x_aload_n hM d_WP_fact_50 rfl 0 rfl ?_
        obtain ⟨c17, F⟩ := F
        obtain ⟨c18, F⟩ := F
        refine x_getr hG hM ck_WP 5 (Nat.le_of_ble_eq_true rfl) rfl rfl w_407 rfl d_WP_fact_51 c17 c18 ?_
        obtain ⟨c15, F⟩ := F
        obtain ⟨c16, F⟩ := F
        refine x_getr hG hM ck_Wi 0 (Nat.le_of_ble_eq_true rfl) rfl rfl w_284 rfl d_WP_fact_54 c15 c16 ?_
        refine x_aload_n hM d_WP_fact_57 rfl 0 rfl ?_
        obtain ⟨c14, F⟩ := F
        refine x_geti hG hM ck_WP 8 (Nat.le_of_ble_eq_true rfl) rfl rfl w_410 rfl d_WP_fact_58 c14 ?_
        refine x_iconst (v := (-1)) hM d_WP_fact_61 (by decide) ?_
        refine x_iload_n hM d_WP_fact_62 rfl 1 rfl ?_
        refine x_iload_n hM d_WP_fact_63 rfl 2 rfl ?_
        obtain ⟨c13, F⟩ := F
        refine x_callV hG hM (r' := r_Se_wins) (ci := 10) [.ref (rf h6 v0 0), .ref (rf h6 (rf h6 v0 5) 0), .int (kI h6 v0 8), .int (-1), .int v1, .int v2] rfl rfl (Nat.le_of_ble_eq_true rfl) yk_Se_wins ⟨Nat.le_of_ble_eq_true rfl, Nat.le_of_ble_eq_true rfl⟩ w_813 w_814 w_815 rfl rfl (Nat.le_of_ble_eq_true rfl) d_WP_fact_64 c13 (sem_mono F ?_)
        intro u9 h8 F
        obtain ⟨x10, rfl, F⟩ := F
        have JJ : ∀ (z11 : Int32) (ez11 : z11 = (if x10 = 0 then 1 else 0)), X G M Q 75 [] [.int z11] h8 := by
          intro z11 ez11
          replace F := F _ ez11
          exact x_ireturn hM d_WP_fact_75 rfl F
        refine x_if_eq (tgt := 74) hM d_WP_fact_67 (by decide) (fun q12 => ?_) (fun q12 => ?_)
        · refine x_iconst (v := 1) hM d_WP_fact_74 (by decide) ?_
          refine x_sub [] rfl ?_
          exact JJ _ (Eq.symm (if_pos q12))
        · refine x_iconst (v := 0) hM d_WP_fact_70 (by decide) ?_
          refine x_goto (tgt := 75) hM d_WP_fact_71 (by decide) ?_
          refine x_sub [] rfl ?_
          exact JJ _ (Eq.symm (if_neg q12))
      · replace F := F.2 q27
        refine x_bipush (v := (-2)) hM d_WP_fact_28 (by decide) ?_
        exact x_ireturn hM d_WP_fact_30 rfl F
set_option maxRecDepth 100000 in
set_option maxHeartbeats 4000000 in
theorem S_WP_values_0 {G : Gc} {M : Mc} {Q : State → Prop} {K : Option Value → Hp → Prop} (hG : gok G) (hM : mok G M r_WP_values Q K) (v0 : Nat) (v1 : Int32) (h : Hp) (F : kT h v0 = 1 ∧ kR h v0 0 = some (rf h v0 0) ∧ (kT h (rf h v0 0) = 2 ∧ sem G r_Wo_isThing [.ref (rf h v0 0), .int v1] h (fun u2 h1 => ∃ x3 : Int32, u2 = some (.int x3) ∧ ((x3 = 0 → K (some (.int (-2))) h1) ∧ (¬ x3 = 0 → (kT h1 v0 = 1 ∧ kR h1 v0 0 = some (rf h1 v0 0) ∧ (kT h1 (rf h1 v0 0) = 2 ∧ sem G r_Wo_prepare [.ref (rf h1 v0 0)] h1 (fun u5 h4 => u5 = none ∧ (kT h4 v0 = 1 ∧ sem G r_WP_findReached [.ref v0] h4 (fun u7 h6 => u7 = none ∧ X G M Q 29 [(0, .ref v0), (1, .int v1), (2, .int 0), (3, .int 0)] [] h6)))))))))) : X G M Q 0 [(0, .ref v0), (1, .int v1)] [] h := by
  refine x_aload_n hM d_WP_values_0 rfl 0 rfl ?_
  obtain ⟨c14, F⟩ := F
  obtain ⟨c15, F⟩ := F
  refine x_getr hG hM ck_WP 0 (Nat.le_of_ble_eq_true rfl) rfl rfl w_402 rfl d_WP_values_1 c14 c15 ?_
  refine x_iload_n hM d_WP_values_4 rfl 1 rfl ?_
  obtain ⟨c13, F⟩ := F
  refine x_callV hG hM (r' := r_Wo_isThing) (ci := 1) [.int v1] rfl rfl (Nat.le_of_ble_eq_true rfl) yk_Wo_isThing ⟨Nat.le_of_ble_eq_true rfl, Nat.le_of_ble_eq_true rfl⟩ w_833 w_505 w_506 rfl rfl (Nat.le_of_ble_eq_true rfl) d_WP_values_5 c13 (sem_mono F ?_)
  intro u2 h1 F
  obtain ⟨x3, rfl, F⟩ := F
  refine x_if_ne (tgt := 14) hM d_WP_values_8 (by decide) (fun q12 => ?_) (fun q12 => ?_)
  · replace F := F.2 q12
    refine x_aload_n hM d_WP_values_14 rfl 0 rfl ?_
    obtain ⟨c10, F⟩ := F
    obtain ⟨c11, F⟩ := F
    refine x_getr hG hM ck_WP 0 (Nat.le_of_ble_eq_true rfl) rfl rfl w_402 rfl d_WP_values_15 c10 c11 ?_
    obtain ⟨c9, F⟩ := F
    refine x_callV hG hM (r' := r_Wo_prepare) (ci := 1) [] rfl rfl (Nat.le_of_ble_eq_true rfl) yk_Wo_prepare ⟨Nat.le_of_ble_eq_true rfl, Nat.le_of_ble_eq_true rfl⟩ w_577 w_578 w_579 rfl rfl (Nat.le_of_ble_eq_true rfl) d_WP_values_18 c9 (sem_mono F ?_)
    intro u5 h4 F
    obtain ⟨rfl, F⟩ := F
    refine x_aload_n hM d_WP_values_21 rfl 0 rfl ?_
    obtain ⟨c8, F⟩ := F
    refine x_callV hG hM (r' := r_WP_findReached) (ci := 0) [] rfl rfl (Nat.le_of_ble_eq_true rfl) yk_WP_findReached ⟨Nat.le_of_ble_eq_true rfl, Nat.le_of_ble_eq_true rfl⟩ w_616 w_618 ws_WP_findReached rfl rfl (Nat.le_of_ble_eq_true rfl) d_WP_values_22 c8 (sem_mono F ?_)
    intro u7 h6 F
    obtain ⟨rfl, F⟩ := F
    refine x_iconst (v := 0) hM d_WP_values_25 (by decide) ?_
    refine x_istore_n (lv2 := [(2, .int 0), (0, .ref v0), (1, .int v1)]) hM d_WP_values_26 rfl (Nat.le_of_ble_eq_true rfl) rfl ?_
    refine x_iconst (v := 0) hM d_WP_values_27 (by decide) ?_
    refine x_istore_n (lv2 := [(3, .int 0), (2, .int 0), (0, .ref v0), (1, .int v1)]) hM d_WP_values_28 rfl (Nat.le_of_ble_eq_true rfl) rfl ?_
    refine x_sub [2, 3, 1, 0] rfl ?_
    exact F
  · replace F := F.1 q12
    refine x_bipush (v := (-2)) hM d_WP_values_11 (by decide) ?_
    exact x_ireturn hM d_WP_values_13 rfl F
set_option maxRecDepth 100000 in
set_option maxHeartbeats 4000000 in
theorem S_WP_values_29 {G : Gc} {M : Mc} {Q : State → Prop} {K : Option Value → Hp → Prop} (hG : gok G) (hM : mok G M r_WP_values Q K) (v0 : Nat) (v1 : Int32) (v2 : Int32) (v3 : Int32) (h : Hp) (F : kT h v0 = 1 ∧ kR h v0 0 = some (rf h v0 0) ∧ (kT h (rf h v0 0) = 2 ∧ (((kI h (rf h v0 0) 1) ≤ v3 → K (some (.int v2)) h) ∧ (¬ (kI h (rf h v0 0) 1) ≤ v3 → (kT h v0 = 1 ∧ kR h v0 4 = some (rf h v0 4) ∧ (kT h (rf h v0 4) = 8 ∧ kR h (rf h v0 4) 0 = some (rf h (rf h v0 4) 0) ∧ (kT h (rf h (rf h v0 4) 0) = 50 ∧ vp_in v3 (kN h (rf h (rf h v0 4) 0)) ∧ (((kI h (rf h (rf h v0 4) 0) (Int32.toNatClampNeg v3)) = (-1) → X G M Q 29 [(0, .ref v0), (1, .int v1), (2, .int v2), (3, .int (v3 + 1))] [] h) ∧ (¬ (kI h (rf h (rf h v0 4) 0) (Int32.toNatClampNeg v3)) = (-1) → (kT h v0 = 1 ∧ kR h v0 0 = some (rf h v0 0) ∧ (kT h (rf h v0 0) = 2 ∧ kR h (rf h v0 0) 6 = some (rf h (rf h v0 0) 6) ∧ (kT h (rf h (rf h v0 0) 6) = 50 ∧ vp_in v3 (kN h (rf h (rf h v0 0) 6)) ∧ (sem G r_WP_valueIn [.int (kI h (rf h (rf h v0 0) 6) (Int32.toNatClampNeg v3)), .int v1] h (fun u2 h1 => ∃ x3 : Int32, u2 = some (.int x3) ∧ X G M Q 29 [(0, .ref v0), (1, .int v1), (2, .int (v2 ||| (1 <<< (x3 &&& 31)))), (3, .int (v3 + 1))] [] h1)))))))))))))) : X G M Q 29 [(0, .ref v0), (1, .int v1), (2, .int v2), (3, .int v3)] [] h := by
  refine x_iload_n hM d_WP_values_29 rfl 3 rfl ?_
  refine x_aload_n hM d_WP_values_30 rfl 0 rfl ?_
  obtain ⟨c19, F⟩ := F
  obtain ⟨c20, F⟩ := F
  refine x_getr hG hM ck_WP 0 (Nat.le_of_ble_eq_true rfl) rfl rfl w_402 rfl d_WP_values_31 c19 c20 ?_
  obtain ⟨c18, F⟩ := F
  refine x_geti hG hM ck_Wo 1 (Nat.le_of_ble_eq_true rfl) rfl rfl w_132 rfl d_WP_values_34 c18 ?_
  refine x_icmp_ge (tgt := 77) hM d_WP_values_37 (by decide) (fun q17 => ?_) (fun q17 => ?_)
  · replace F := F.1 q17
    refine x_iload_n hM d_WP_values_77 rfl 2 rfl ?_
    exact x_ireturn hM d_WP_values_78 rfl F
  · replace F := F.2 q17
    refine x_aload_n hM d_WP_values_40 rfl 0 rfl ?_
    obtain ⟨c15, F⟩ := F
    obtain ⟨c16, F⟩ := F
    refine x_getr hG hM ck_WP 4 (Nat.le_of_ble_eq_true rfl) rfl rfl w_406 rfl d_WP_values_41 c15 c16 ?_
    obtain ⟨c13, F⟩ := F
    obtain ⟨c14, F⟩ := F
    refine x_getr hG hM ck_Re 0 (Nat.le_of_ble_eq_true rfl) rfl rfl w_257 rfl d_WP_values_44 c13 c14 ?_
    refine x_iload_n hM d_WP_values_47 rfl 3 rfl ?_
    obtain ⟨c11, F⟩ := F
    obtain ⟨c12, F⟩ := F
    refine x_iaload hG hM d_WP_values_48 c11 c12 ?_
    refine x_iconst (v := (-1)) hM d_WP_values_49 (by decide) ?_
    refine x_icmp_eq (tgt := 71) hM d_WP_values_50 (by decide) (fun q10 => ?_) (fun q10 => ?_)
    · replace F := F.1 q10
      refine x_iinc (v := (v3 + 1)) (lv2 := [(3, .int (v3 + 1)), (0, .ref v0), (1, .int v1), (2, .int v2)]) hM d_WP_values_71 (j := 3) rfl rfl (Nat.le_of_ble_eq_true rfl) rfl ?_
      refine x_goto (tgt := 29) hM d_WP_values_74 (by decide) ?_
      refine x_sub [1, 2, 3, 0] rfl ?_
      exact F
    · replace F := F.2 q10
      refine x_iload_n hM d_WP_values_53 rfl 2 rfl ?_
      refine x_iconst (v := 1) hM d_WP_values_54 (by decide) ?_
      refine x_aload_n hM d_WP_values_55 rfl 0 rfl ?_
      obtain ⟨c8, F⟩ := F
      obtain ⟨c9, F⟩ := F
      refine x_getr hG hM ck_WP 0 (Nat.le_of_ble_eq_true rfl) rfl rfl w_402 rfl d_WP_values_56 c8 c9 ?_
      obtain ⟨c6, F⟩ := F
      obtain ⟨c7, F⟩ := F
      refine x_getr hG hM ck_Wo 6 (Nat.le_of_ble_eq_true rfl) rfl rfl w_155 rfl d_WP_values_59 c6 c7 ?_
      refine x_iload_n hM d_WP_values_62 rfl 3 rfl ?_
      obtain ⟨c4, F⟩ := F
      obtain ⟨c5, F⟩ := F
      refine x_iaload hG hM d_WP_values_63 c4 c5 ?_
      refine x_iload_n hM d_WP_values_64 rfl 1 rfl ?_
      refine x_callS hG hM (r' := r_WP_valueIn) [.int (kI h (rf h (rf h v0 0) 6) (Int32.toNatClampNeg v3)), .int v1] rfl yk_WP_valueIn ⟨Nat.le_of_ble_eq_true rfl, Nat.le_of_ble_eq_true rfl⟩ w_838 w_558 rfl rfl (Nat.le_of_ble_eq_true rfl) d_WP_values_65 (sem_mono F ?_)
      intro u2 h1 F
      obtain ⟨x3, rfl, F⟩ := F
      refine x_ishl hM d_WP_values_68 ?_
      refine x_ior hM d_WP_values_69 ?_
      refine x_istore_n (lv2 := [(2, .int (v2 ||| (1 <<< (x3 &&& 31)))), (0, .ref v0), (1, .int v1), (3, .int v3)]) hM d_WP_values_70 rfl (Nat.le_of_ble_eq_true rfl) rfl ?_
      refine x_iinc (v := (v3 + 1)) (lv2 := [(3, .int (v3 + 1)), (2, .int (v2 ||| (1 <<< (x3 &&& 31)))), (0, .ref v0), (1, .int v1)]) hM d_WP_values_71 (j := 3) rfl rfl (Nat.le_of_ble_eq_true rfl) rfl ?_
      refine x_goto (tgt := 29) hM d_WP_values_74 (by decide) ?_
      refine x_sub [2, 3, 1, 0] rfl ?_
      exact F
set_option maxRecDepth 100000 in
set_option maxHeartbeats 4000000 in
theorem S_WP_cover_0 {G : Gc} {M : Mc} {Q : State → Prop} {K : Option Value → Hp → Prop} (hG : gok G) (hM : mok G M r_WP_cover Q K) (v0 : Nat) (h : Hp) (F : kT h v0 = 1 ∧ kR h v0 2 = some (rf h v0 2) ∧ (kT h (rf h v0 2) = 6 ∧ sem G r_Co_addPart [.ref (rf h v0 2)] h (fun u2 h1 => ∃ x3 : Int32, u2 = some (.int x3) ∧ ((x3 = (-3) → K (some (.int x3)) h1) ∧ (¬ x3 = (-3) → (kT h1 v0 = 1 ∧ kR h1 v0 3 = some (rf h1 v0 3) ∧ (kT h1 (rf h1 v0 3) = 7 ∧ sem G r_Ch_inCover [.ref (rf h1 v0 3)] h1 (fun u5 h4 => u5 = none ∧ K (some (.int x3)) h4)))))))) : X G M Q 0 [(0, .ref v0)] [] h := by
  refine x_aload_n hM d_WP_cover_0 rfl 0 rfl ?_
  obtain ⟨c11, F⟩ := F
  obtain ⟨c12, F⟩ := F
  refine x_getr hG hM ck_WP 2 (Nat.le_of_ble_eq_true rfl) rfl rfl w_404 rfl d_WP_cover_1 c11 c12 ?_
  obtain ⟨c10, F⟩ := F
  refine x_callV hG hM (r' := r_Co_addPart) (ci := 5) [] rfl rfl (Nat.le_of_ble_eq_true rfl) yk_Co_addPart ⟨Nat.le_of_ble_eq_true rfl, Nat.le_of_ble_eq_true rfl⟩ w_843 w_844 w_845 rfl rfl (Nat.le_of_ble_eq_true rfl) d_WP_cover_4 c10 (sem_mono F ?_)
  intro u2 h1 F
  obtain ⟨x3, rfl, F⟩ := F
  refine x_istore_n (lv2 := [(1, .int x3), (0, .ref v0)]) hM d_WP_cover_7 rfl (Nat.le_of_ble_eq_true rfl) rfl ?_
  refine x_iload_n hM d_WP_cover_8 rfl 0 rfl ?_
  refine x_bipush (v := (-3)) hM d_WP_cover_9 (by decide) ?_
  refine x_icmp_eq (tgt := 21) hM d_WP_cover_11 (by decide) (fun q9 => ?_) (fun q9 => ?_)
  · replace F := F.1 q9
    refine x_iload_n hM d_WP_cover_21 rfl 0 rfl ?_
    exact x_ireturn hM d_WP_cover_22 rfl F
  · replace F := F.2 q9
    refine x_aload_n hM d_WP_cover_14 rfl 1 rfl ?_
    obtain ⟨c7, F⟩ := F
    obtain ⟨c8, F⟩ := F
    refine x_getr hG hM ck_WP 3 (Nat.le_of_ble_eq_true rfl) rfl rfl w_405 rfl d_WP_cover_15 c7 c8 ?_
    obtain ⟨c6, F⟩ := F
    refine x_callV hG hM (r' := r_Ch_inCover) (ci := 6) [] rfl rfl (Nat.le_of_ble_eq_true rfl) yk_Ch_inCover ⟨Nat.le_of_ble_eq_true rfl, Nat.le_of_ble_eq_true rfl⟩ w_847 w_848 w_849 rfl rfl (Nat.le_of_ble_eq_true rfl) d_WP_cover_18 c6 (sem_mono F ?_)
    intro u5 h4 F
    obtain ⟨rfl, F⟩ := F
    refine x_iload_n hM d_WP_cover_21 rfl 0 rfl ?_
    exact x_ireturn hM d_WP_cover_22 rfl F
set_option maxRecDepth 100000 in
set_option maxHeartbeats 4000000 in
theorem S_WP_part_0 {G : Gc} {M : Mc} {Q : State → Prop} {K : Option Value → Hp → Prop} (hG : gok G) (hM : mok G M r_WP_part Q K) (v0 : Nat) (v1 : Int32) (v2 : Int32) (v3 : Int32) (v4 : Int32) (h : Hp) (F : (v1 < 0 → K (some (.int (-2))) h) ∧ (¬ v1 < 0 → (kT h v0 = 1 ∧ kR h v0 2 = some (rf h v0 2) ∧ (kT h (rf h v0 2) = 6 ∧ (((kI h (rf h v0 2) 0) ≤ v1 → K (some (.int (-2))) h) ∧ (¬ (kI h (rf h v0 2) 0) ≤ v1 → (kT h v0 = 1 ∧ kR h v0 0 = some (rf h v0 0) ∧ (kT h (rf h v0 0) = 2 ∧ sem G r_Wo_isCondition [.ref (rf h v0 0), .int v2, .int v3, .int v4] h (fun u2 h1 => ∃ x3 : Int32, u2 = some (.int x3) ∧ ((x3 = 0 → K (some (.int (-2))) h1) ∧ (¬ x3 = 0 → (kT h1 v0 = 1 ∧ kR h1 v0 2 = some (rf h1 v0 2) ∧ (kT h1 (rf h1 v0 2) = 6 ∧ kR h1 (rf h1 v0 2) 1 = some (rf h1 (rf h1 v0 2) 1) ∧ (kT h1 (rf h1 (rf h1 v0 2) 1) = 55 ∧ vp_in v1 (kN h1 (rf h1 (rf h1 v0 2) 1)) ∧ kR h1 (rf h1 (rf h1 v0 2) 1) (Int32.toNatClampNeg v1) = some (rf h1 (rf h1 (rf h1 v0 2) 1) (Int32.toNatClampNeg v1)) ∧ (kT h1 (rf h1 (rf h1 (rf h1 v0 2) 1) (Int32.toNatClampNeg v1)) = 5 ∧ sem G r_Cl_add [.ref (rf h1 (rf h1 (rf h1 v0 2) 1) (Int32.toNatClampNeg v1)), .int v2, .int v3, .int v4] h1 (fun u5 h4 => ∃ x6 : Int32, u5 = some (.int x6) ∧ ((x6 = (-3) → K (some (.int x6)) h4) ∧ (¬ x6 = (-3) → (kT h4 v0 = 1 ∧ kR h4 v0 3 = some (rf h4 v0 3) ∧ (kT h4 (rf h4 v0 3) = 7 ∧ sem G r_Ch_inCover [.ref (rf h4 v0 3)] h4 (fun u8 h7 => u8 = none ∧ K (some (.int x6)) h7))))))))))))))))))))) : X G M Q 0 [(0, .ref v0), (1, .int v1), (2, .int v2), (3, .int v3), (4, .int v4)] [] h := by
  refine x_iload_n hM d_WP_part_0 rfl 1 rfl ?_
  refine x_if_lt (tgt := 29) hM d_WP_part_1 (by decide) (fun q29 => ?_) (fun q29 => ?_)
  · replace F := F.1 q29
    refine x_bipush (v := (-2)) hM d_WP_part_29 (by decide) ?_
    exact x_ireturn hM d_WP_part_31 rfl F
  · replace F := F.2 q29
    refine x_iload_n hM d_WP_part_4 rfl 1 rfl ?_
    refine x_aload_n hM d_WP_part_5 rfl 0 rfl ?_
    obtain ⟨c27, F⟩ := F
    obtain ⟨c28, F⟩ := F
    refine x_getr hG hM ck_WP 2 (Nat.le_of_ble_eq_true rfl) rfl rfl w_404 rfl d_WP_part_6 c27 c28 ?_
    obtain ⟨c26, F⟩ := F
    refine x_geti hG hM ck_Co 0 (Nat.le_of_ble_eq_true rfl) rfl rfl w_195 rfl d_WP_part_9 c26 ?_
    refine x_icmp_ge (tgt := 29) hM d_WP_part_12 (by decide) (fun q25 => ?_) (fun q25 => ?_)
    · replace F := F.1 q25
      refine x_bipush (v := (-2)) hM d_WP_part_29 (by decide) ?_
      exact x_ireturn hM d_WP_part_31 rfl F
    · replace F := F.2 q25
      refine x_aload_n hM d_WP_part_15 rfl 0 rfl ?_
      obtain ⟨c23, F⟩ := F
      obtain ⟨c24, F⟩ := F
      refine x_getr hG hM ck_WP 0 (Nat.le_of_ble_eq_true rfl) rfl rfl w_402 rfl d_WP_part_16 c23 c24 ?_
      refine x_iload_n hM d_WP_part_19 rfl 2 rfl ?_
      refine x_iload_n hM d_WP_part_20 rfl 3 rfl ?_
      refine x_iload hM d_WP_part_21 4 rfl ?_
      obtain ⟨c22, F⟩ := F
      refine x_callV hG hM (r' := r_Wo_isCondition) (ci := 1) [.int v2, .int v3, .int v4] rfl rfl (Nat.le_of_ble_eq_true rfl) yk_Wo_isCondition ⟨Nat.le_of_ble_eq_true rfl, Nat.le_of_ble_eq_true rfl⟩ w_500 w_501 w_502 rfl rfl (Nat.le_of_ble_eq_true rfl) d_WP_part_23 c22 (sem_mono F ?_)
      intro u2 h1 F
      obtain ⟨x3, rfl, F⟩ := F
      refine x_if_ne (tgt := 32) hM d_WP_part_26 (by decide) (fun q21 => ?_) (fun q21 => ?_)
      · replace F := F.2 q21
        refine x_aload_n hM d_WP_part_32 rfl 0 rfl ?_
        obtain ⟨c19, F⟩ := F
        obtain ⟨c20, F⟩ := F
        refine x_getr hG hM ck_WP 2 (Nat.le_of_ble_eq_true rfl) rfl rfl w_404 rfl d_WP_part_33 c19 c20 ?_
        obtain ⟨c17, F⟩ := F
        obtain ⟨c18, F⟩ := F
        refine x_getr hG hM ck_Co 1 (Nat.le_of_ble_eq_true rfl) rfl rfl w_197 rfl d_WP_part_36 c17 c18 ?_
        refine x_iload_n hM d_WP_part_39 rfl 1 rfl ?_
        obtain ⟨c14, F⟩ := F
        obtain ⟨c15, F⟩ := F
        obtain ⟨c16, F⟩ := F
        refine x_aaload hG hM 55 rfl (Nat.le_of_ble_eq_true rfl) d_WP_part_40 c14 c15 c16 ?_
        refine x_iload_n hM d_WP_part_41 rfl 2 rfl ?_
        refine x_iload_n hM d_WP_part_42 rfl 3 rfl ?_
        refine x_iload hM d_WP_part_43 4 rfl ?_
        obtain ⟨c13, F⟩ := F
        refine x_callV hG hM (r' := r_Cl_add) (ci := 4) [.int v2, .int v3, .int v4] rfl rfl (Nat.le_of_ble_eq_true rfl) yk_Cl_add ⟨Nat.le_of_ble_eq_true rfl, Nat.le_of_ble_eq_true rfl⟩ w_508 w_509 w_510 rfl rfl (Nat.le_of_ble_eq_true rfl) d_WP_part_45 c13 (sem_mono F ?_)
        intro u5 h4 F
        obtain ⟨x6, rfl, F⟩ := F
        refine x_istore (lv2 := [(5, .int x6), (0, .ref v0), (1, .int v1), (2, .int v2), (3, .int v3), (4, .int v4)]) hM d_WP_part_48 (Nat.le_of_ble_eq_true rfl) rfl ?_
        refine x_iload hM d_WP_part_50 0 rfl ?_
        refine x_bipush (v := (-3)) hM d_WP_part_52 (by decide) ?_
        refine x_icmp_eq (tgt := 64) hM d_WP_part_54 (by decide) (fun q12 => ?_) (fun q12 => ?_)
        · replace F := F.1 q12
          refine x_iload hM d_WP_part_64 0 rfl ?_
          exact x_ireturn hM d_WP_part_66 rfl F
        · replace F := F.2 q12
          refine x_aload_n hM d_WP_part_57 rfl 1 rfl ?_
          obtain ⟨c10, F⟩ := F
          obtain ⟨c11, F⟩ := F
          refine x_getr hG hM ck_WP 3 (Nat.le_of_ble_eq_true rfl) rfl rfl w_405 rfl d_WP_part_58 c10 c11 ?_
          obtain ⟨c9, F⟩ := F
          refine x_callV hG hM (r' := r_Ch_inCover) (ci := 6) [] rfl rfl (Nat.le_of_ble_eq_true rfl) yk_Ch_inCover ⟨Nat.le_of_ble_eq_true rfl, Nat.le_of_ble_eq_true rfl⟩ w_847 w_848 w_849 rfl rfl (Nat.le_of_ble_eq_true rfl) d_WP_part_61 c9 (sem_mono F ?_)
          intro u8 h7 F
          obtain ⟨rfl, F⟩ := F
          refine x_iload hM d_WP_part_64 0 rfl ?_
          exact x_ireturn hM d_WP_part_66 rfl F
      · replace F := F.1 q21
        refine x_bipush (v := (-2)) hM d_WP_part_29 (by decide) ?_
        exact x_ireturn hM d_WP_part_31 rfl F
set_option maxRecDepth 100000 in
set_option maxHeartbeats 4000000 in
theorem S_WP_bare_0 {G : Gc} {M : Mc} {Q : State → Prop} {K : Option Value → Hp → Prop} (hG : gok G) (hM : mok G M r_WP_bare Q K) (v0 : Nat) (h : Hp) (F : kT h v0 = 1 ∧ kR h v0 2 = some (rf h v0 2) ∧ (kT h (rf h v0 2) = 6 ∧ (kT h v0 = 1 ∧ kR h v0 2 = some (rf h v0 2) ∧ (kT h (rf h v0 2) = 6 ∧ (∀ h1 : Hp, h1 = wI h (rf h v0 2) 0 0 → (((kI h (rf h v0 2) 0) ≤ 0 → K (some (.int (kI h (rf h v0 2) 0))) h1) ∧ (¬ (kI h (rf h v0 2) 0) ≤ 0 → (kT h1 v0 = 1 ∧ kR h1 v0 3 = some (rf h1 v0 3) ∧ (kT h1 (rf h1 v0 3) = 7 ∧ sem G r_Ch_inCover [.ref (rf h1 v0 3)] h1 (fun u3 h2 => u3 = none ∧ K (some (.int (kI h (rf h v0 2) 0))) h2)))))))))) : X G M Q 0 [(0, .ref v0)] [] h := by
  refine x_aload_n hM d_WP_bare_0 rfl 0 rfl ?_
  obtain ⟨c12, F⟩ := F
  obtain ⟨c13, F⟩ := F
  refine x_getr hG hM ck_WP 2 (Nat.le_of_ble_eq_true rfl) rfl rfl w_404 rfl d_WP_bare_1 c12 c13 ?_
  obtain ⟨c11, F⟩ := F
  refine x_geti hG hM ck_Co 0 (Nat.le_of_ble_eq_true rfl) rfl rfl w_195 rfl d_WP_bare_4 c11 ?_
  refine x_istore_n (lv2 := [(1, .int (kI h (rf h v0 2) 0)), (0, .ref v0)]) hM d_WP_bare_7 rfl (Nat.le_of_ble_eq_true rfl) rfl ?_
  refine x_aload_n hM d_WP_bare_8 rfl 1 rfl ?_
  obtain ⟨c9, F⟩ := F
  obtain ⟨c10, F⟩ := F
  refine x_getr hG hM ck_WP 2 (Nat.le_of_ble_eq_true rfl) rfl rfl w_404 rfl d_WP_bare_9 c9 c10 ?_
  refine x_iconst (v := 0) hM d_WP_bare_12 (by decide) ?_
  obtain ⟨c8, F⟩ := F
  replace F := F _ rfl
  refine x_puti hG hM ck_Co 0 (Nat.le_of_ble_eq_true rfl) rfl rfl w_195 rfl d_WP_bare_13 (Or.inl rfl) c8 ?_
  refine x_iload_n hM d_WP_bare_16 rfl 0 rfl ?_
  refine x_if_le (tgt := 27) hM d_WP_bare_17 (by decide) (fun q7 => ?_) (fun q7 => ?_)
  · replace F := F.1 q7
    refine x_iload_n hM d_WP_bare_27 rfl 0 rfl ?_
    exact x_ireturn hM d_WP_bare_28 rfl F
  · replace F := F.2 q7
    refine x_aload_n hM d_WP_bare_20 rfl 1 rfl ?_
    obtain ⟨c5, F⟩ := F
    obtain ⟨c6, F⟩ := F
    refine x_getr hG hM ck_WP 3 (Nat.le_of_ble_eq_true rfl) rfl rfl w_405 rfl d_WP_bare_21 c5 c6 ?_
    obtain ⟨c4, F⟩ := F
    refine x_callV hG hM (r' := r_Ch_inCover) (ci := 6) [] rfl rfl (Nat.le_of_ble_eq_true rfl) yk_Ch_inCover ⟨Nat.le_of_ble_eq_true rfl, Nat.le_of_ble_eq_true rfl⟩ w_847 w_848 w_849 rfl rfl (Nat.le_of_ble_eq_true rfl) d_WP_bare_24 c4 (sem_mono F ?_)
    intro u3 h2 F
    obtain ⟨rfl, F⟩ := F
    refine x_iload_n hM d_WP_bare_27 rfl 0 rfl ?_
    exact x_ireturn hM d_WP_bare_28 rfl F
set_option maxRecDepth 100000 in
set_option maxHeartbeats 4000000 in
theorem S_WP_flaw_0 {G : Gc} {M : Mc} {Q : State → Prop} {K : Option Value → Hp → Prop} (hG : gok G) (hM : mok G M r_WP_flaw Q K) (v0 : Nat) (v1 : Int32) (h : Hp) (F : (v1 < 0 → K (some (.int (-2))) h) ∧ (¬ v1 < 0 → ((v1 ≤ 3 → (kT h v0 = 1 ∧ kR h v0 0 = some (rf h v0 0) ∧ (kT h (rf h v0 0) = 2 ∧ sem G r_Wo_prepare [.ref (rf h v0 0)] h (fun u2 h1 => u2 = none ∧ (kT h1 v0 = 1 ∧ sem G r_WP_findAim [.ref v0] h1 (fun u4 h3 => u4 = none ∧ (kT h3 v0 = 1 ∧ kR h3 v0 2 = some (rf h3 v0 2) ∧ (kT h3 (rf h3 v0 2) = 6 ∧ (kT h3 v0 = 1 ∧ kR h3 v0 3 = some (rf h3 v0 3) ∧ (kT h3 (rf h3 v0 3) = 7 ∧ ((0 ≤ (lg_cmp (kL h3 (rf h3 v0 2) 6) (kL h3 (rf h3 v0 3) 0)) → X G M Q 77 [(0, .ref v0), (1, .int v1)] [] h3) ∧ (¬ 0 ≤ (lg_cmp (kL h3 (rf h3 v0 2) 6) (kL h3 (rf h3 v0 3) 0)) → (kT h3 v0 = 1 ∧ kR h3 v0 2 = some (rf h3 v0 2) ∧ (kT h3 v0 = 1 ∧ kR h3 v0 0 = some (rf h3 v0 0) ∧ (kT h3 v0 = 1 ∧ kR h3 v0 5 = some (rf h3 v0 5) ∧ (kT h3 (rf h3 v0 5) = 9 ∧ kR h3 (rf h3 v0 5) 0 = some (rf h3 (rf h3 v0 5) 0) ∧ (kT h3 v0 = 1 ∧ (kT h3 (rf h3 v0 2) = 6 ∧ sem G r_Co_judge [.ref (rf h3 v0 2), .ref (rf h3 v0 0), .ref (rf h3 (rf h3 v0 5) 0), .int (kI h3 v0 8)] h3 (fun u6 h5 => u6 = none ∧ (kT h5 v0 = 1 ∧ kR h5 v0 2 = some (rf h5 v0 2) ∧ (kT h5 v0 = 1 ∧ kR h5 v0 3 = some (rf h5 v0 3) ∧ (kT h5 (rf h5 v0 3) = 7 ∧ (kT h5 (rf h5 v0 2) = 6 ∧ (∀ h7 : Hp, h7 = wL h5 (rf h5 v0 2) 6 (kL h5 (rf h5 v0 3) 0) → X G M Q 77 [(0, .ref v0), (1, .int v1)] [] h7)))))))))))))))))))))))) ∧ (¬ v1 ≤ 3 → K (some (.int (-2))) h)))) : X G M Q 0 [(0, .ref v0), (1, .int v1)] [] h := by
  refine x_iload_n hM d_WP_flaw_0 rfl 1 rfl ?_
  refine x_if_lt (tgt := 9) hM d_WP_flaw_1 (by decide) (fun q36 => ?_) (fun q36 => ?_)
  · replace F := F.1 q36
    refine x_bipush (v := (-2)) hM d_WP_flaw_9 (by decide) ?_
    exact x_ireturn hM d_WP_flaw_11 rfl F
  · replace F := F.2 q36
    refine x_iload_n hM d_WP_flaw_4 rfl 1 rfl ?_
    refine x_iconst (v := 3) hM d_WP_flaw_5 (by decide) ?_
    refine x_icmp_le (tgt := 12) hM d_WP_flaw_6 (by decide) (fun q35 => ?_) (fun q35 => ?_)
    · replace F := F.1 q35
      refine x_aload_n hM d_WP_flaw_12 rfl 0 rfl ?_
      obtain ⟨c33, F⟩ := F
      obtain ⟨c34, F⟩ := F
      refine x_getr hG hM ck_WP 0 (Nat.le_of_ble_eq_true rfl) rfl rfl w_402 rfl d_WP_flaw_13 c33 c34 ?_
      obtain ⟨c32, F⟩ := F
      refine x_callV hG hM (r' := r_Wo_prepare) (ci := 1) [] rfl rfl (Nat.le_of_ble_eq_true rfl) yk_Wo_prepare ⟨Nat.le_of_ble_eq_true rfl, Nat.le_of_ble_eq_true rfl⟩ w_577 w_578 w_579 rfl rfl (Nat.le_of_ble_eq_true rfl) d_WP_flaw_16 c32 (sem_mono F ?_)
      intro u2 h1 F
      obtain ⟨rfl, F⟩ := F
      refine x_aload_n hM d_WP_flaw_19 rfl 0 rfl ?_
      obtain ⟨c31, F⟩ := F
      refine x_callV hG hM (r' := r_WP_findAim) (ci := 0) [] rfl rfl (Nat.le_of_ble_eq_true rfl) yk_WP_findAim ⟨Nat.le_of_ble_eq_true rfl, Nat.le_of_ble_eq_true rfl⟩ w_638 w_640 ws_WP_findAim rfl rfl (Nat.le_of_ble_eq_true rfl) d_WP_flaw_20 c31 (sem_mono F ?_)
      intro u4 h3 F
      obtain ⟨rfl, F⟩ := F
      refine x_aload_n hM d_WP_flaw_23 rfl 0 rfl ?_
      obtain ⟨c29, F⟩ := F
      obtain ⟨c30, F⟩ := F
      refine x_getr hG hM ck_WP 2 (Nat.le_of_ble_eq_true rfl) rfl rfl w_404 rfl d_WP_flaw_24 c29 c30 ?_
      obtain ⟨c28, F⟩ := F
      refine x_getl hG hM ck_Co 6 (Nat.le_of_ble_eq_true rfl) rfl rfl w_207 rfl d_WP_flaw_27 c28 ?_
      refine x_aload_n hM d_WP_flaw_30 rfl 0 rfl ?_
      obtain ⟨c26, F⟩ := F
      obtain ⟨c27, F⟩ := F
      refine x_getr hG hM ck_WP 3 (Nat.le_of_ble_eq_true rfl) rfl rfl w_405 rfl d_WP_flaw_31 c26 c27 ?_
      obtain ⟨c25, F⟩ := F
      refine x_getl hG hM ck_Ch 0 (Nat.le_of_ble_eq_true rfl) rfl rfl w_234 rfl d_WP_flaw_34 c25 ?_
      refine x_lcmp hM d_WP_flaw_37 ?_
      refine x_if_ge (tgt := 77) hM d_WP_flaw_38 (by decide) (fun q24 => ?_) (fun q24 => ?_)
      · replace F := F.1 q24
        exact F
      · replace F := F.2 q24
        refine x_aload_n hM d_WP_flaw_41 rfl 0 rfl ?_
        obtain ⟨c22, F⟩ := F
        obtain ⟨c23, F⟩ := F
        refine x_getr hG hM ck_WP 2 (Nat.le_of_ble_eq_true rfl) rfl rfl w_404 rfl d_WP_flaw_42 c22 c23 ?_
        refine x_aload_n hM d_WP_flaw_45 rfl 0 rfl ?_
        obtain ⟨c20, F⟩ := F
        obtain ⟨c21, F⟩ := F
        refine x_getr hG hM ck_WP 0 (Nat.le_of_ble_eq_true rfl) rfl rfl w_402 rfl d_WP_flaw_46 c20 c21 ?_
        refine x_aload_n hM d_WP_flaw_49 rfl 0 rfl ?_
        obtain ⟨c18, F⟩ := F
        obtain ⟨c19, F⟩ := F
        refine x_getr hG hM ck_WP 5 (Nat.le_of_ble_eq_true rfl) rfl rfl w_407 rfl d_WP_flaw_50 c18 c19 ?_
        obtain ⟨c16, F⟩ := F
        obtain ⟨c17, F⟩ := F
        refine x_getr hG hM ck_Wi 0 (Nat.le_of_ble_eq_true rfl) rfl rfl w_284 rfl d_WP_flaw_53 c16 c17 ?_
        refine x_aload_n hM d_WP_flaw_56 rfl 0 rfl ?_
        obtain ⟨c15, F⟩ := F
        refine x_geti hG hM ck_WP 8 (Nat.le_of_ble_eq_true rfl) rfl rfl w_410 rfl d_WP_flaw_57 c15 ?_
        obtain ⟨c14, F⟩ := F
        refine x_callV hG hM (r' := r_Co_judge) (ci := 5) [.ref (rf h3 v0 0), .ref (rf h3 (rf h3 v0 5) 0), .int (kI h3 v0 8)] rfl rfl (Nat.le_of_ble_eq_true rfl) yk_Co_judge ⟨Nat.le_of_ble_eq_true rfl, Nat.le_of_ble_eq_true rfl⟩ w_863 w_864 w_865 rfl rfl (Nat.le_of_ble_eq_true rfl) d_WP_flaw_60 c14 (sem_mono F ?_)
        intro u6 h5 F
        obtain ⟨rfl, F⟩ := F
        refine x_aload_n hM d_WP_flaw_63 rfl 0 rfl ?_
        obtain ⟨c12, F⟩ := F
        obtain ⟨c13, F⟩ := F
        refine x_getr hG hM ck_WP 2 (Nat.le_of_ble_eq_true rfl) rfl rfl w_404 rfl d_WP_flaw_64 c12 c13 ?_
        refine x_aload_n hM d_WP_flaw_67 rfl 0 rfl ?_
        obtain ⟨c10, F⟩ := F
        obtain ⟨c11, F⟩ := F
        refine x_getr hG hM ck_WP 3 (Nat.le_of_ble_eq_true rfl) rfl rfl w_405 rfl d_WP_flaw_68 c10 c11 ?_
        obtain ⟨c9, F⟩ := F
        refine x_getl hG hM ck_Ch 0 (Nat.le_of_ble_eq_true rfl) rfl rfl w_234 rfl d_WP_flaw_71 c9 ?_
        obtain ⟨c8, F⟩ := F
        replace F := F _ rfl
        refine x_putl hG hM ck_Co 6 (Nat.le_of_ble_eq_true rfl) rfl rfl w_207 rfl d_WP_flaw_74 (Or.inl rfl) c8 ?_
        exact F
    · replace F := F.2 q35
      refine x_bipush (v := (-2)) hM d_WP_flaw_9 (by decide) ?_
      exact x_ireturn hM d_WP_flaw_11 rfl F
set_option maxRecDepth 100000 in
set_option maxHeartbeats 4000000 in
theorem S_WP_flaw_77 {G : Gc} {M : Mc} {Q : State → Prop} {K : Option Value → Hp → Prop} (hG : gok G) (hM : mok G M r_WP_flaw Q K) (v0 : Nat) (v1 : Int32) (h : Hp) (F : (v1 = 0 → (kT h v0 = 1 ∧ kR h v0 2 = some (rf h v0 2) ∧ (kT h (rf h v0 2) = 6 ∧ K (some (.int (kI h (rf h v0 2) 2))) h))) ∧ (v1 = 1 → (kT h v0 = 1 ∧ kR h v0 2 = some (rf h v0 2) ∧ (kT h (rf h v0 2) = 6 ∧ K (some (.int (kI h (rf h v0 2) 3))) h))) ∧ (v1 = 2 → (kT h v0 = 1 ∧ kR h v0 2 = some (rf h v0 2) ∧ (kT h (rf h v0 2) = 6 ∧ K (some (.int (kI h (rf h v0 2) 4))) h))) ∧ (¬ v1 = 0 → ¬ v1 = 1 → ¬ v1 = 2 → (kT h v0 = 1 ∧ kR h v0 2 = some (rf h v0 2) ∧ (kT h (rf h v0 2) = 6 ∧ K (some (.int (kI h (rf h v0 2) 5))) h)))) : X G M Q 77 [(0, .ref v0), (1, .int v1)] [] h := by
  refine x_iload_n hM d_WP_flaw_77 rfl 1 rfl ?_
  by_cases q78_0 : v1 = 0
  · replace F := F.1 q78_0
    refine x_tblIn (tgt := 104) hM d_WP_flaw_78 (by rw [q78_0]; decide) (by rw [q78_0]; decide) (by rw [q78_0]; rfl) (by decide) ?_
    refine x_aload_n hM d_WP_flaw_104 rfl 0 rfl ?_
    obtain ⟨c2, F⟩ := F
    obtain ⟨c3, F⟩ := F
    refine x_getr hG hM ck_WP 2 (Nat.le_of_ble_eq_true rfl) rfl rfl w_404 rfl d_WP_flaw_105 c2 c3 ?_
    obtain ⟨c1, F⟩ := F
    refine x_geti hG hM ck_Co 2 (Nat.le_of_ble_eq_true rfl) rfl rfl w_199 rfl d_WP_flaw_108 c1 ?_
    exact x_ireturn hM d_WP_flaw_111 rfl F
  by_cases q78_1 : v1 = 1
  · replace F := F.2.1 q78_1
    refine x_tblIn (tgt := 112) hM d_WP_flaw_78 (by rw [q78_1]; decide) (by rw [q78_1]; decide) (by rw [q78_1]; rfl) (by decide) ?_
    refine x_aload_n hM d_WP_flaw_112 rfl 0 rfl ?_
    obtain ⟨c5, F⟩ := F
    obtain ⟨c6, F⟩ := F
    refine x_getr hG hM ck_WP 2 (Nat.le_of_ble_eq_true rfl) rfl rfl w_404 rfl d_WP_flaw_113 c5 c6 ?_
    obtain ⟨c4, F⟩ := F
    refine x_geti hG hM ck_Co 3 (Nat.le_of_ble_eq_true rfl) rfl rfl w_201 rfl d_WP_flaw_116 c4 ?_
    exact x_ireturn hM d_WP_flaw_119 rfl F
  by_cases q78_2 : v1 = 2
  · replace F := F.2.2.1 q78_2
    refine x_tblIn (tgt := 120) hM d_WP_flaw_78 (by rw [q78_2]; decide) (by rw [q78_2]; decide) (by rw [q78_2]; rfl) (by decide) ?_
    refine x_aload_n hM d_WP_flaw_120 rfl 0 rfl ?_
    obtain ⟨c8, F⟩ := F
    obtain ⟨c9, F⟩ := F
    refine x_getr hG hM ck_WP 2 (Nat.le_of_ble_eq_true rfl) rfl rfl w_404 rfl d_WP_flaw_121 c8 c9 ?_
    obtain ⟨c7, F⟩ := F
    refine x_geti hG hM ck_Co 4 (Nat.le_of_ble_eq_true rfl) rfl rfl w_203 rfl d_WP_flaw_124 c7 ?_
    exact x_ireturn hM d_WP_flaw_127 rfl F
  replace F := F.2.2.2 q78_0 q78_1 q78_2
  refine x_tblOut (tgt := 128) hM d_WP_flaw_78 (sw_out2 q78_0 q78_1 q78_2) (by decide) ?_
  refine x_aload_n hM d_WP_flaw_128 rfl 0 rfl ?_
  obtain ⟨c11, F⟩ := F
  obtain ⟨c12, F⟩ := F
  refine x_getr hG hM ck_WP 2 (Nat.le_of_ble_eq_true rfl) rfl rfl w_404 rfl d_WP_flaw_129 c11 c12 ?_
  obtain ⟨c10, F⟩ := F
  refine x_geti hG hM ck_Co 5 (Nat.le_of_ble_eq_true rfl) rfl rfl w_205 rfl d_WP_flaw_132 c10 ?_
  exact x_ireturn hM d_WP_flaw_135 rfl F
