theorem d_Wo_init_0 : decode b_Wo_init 0 = .ok (.aload_n 0, 1) := by decide +kernel
theorem d_Wo_init_1 : decode b_Wo_init 1 = .ok (.invokespecial 3, 3) := by decide +kernel
theorem d_Wo_init_4 : decode b_Wo_init 4 = .ok (.aload_n 0, 1) := by decide +kernel
theorem d_Wo_init_5 : decode b_Wo_init 5 = .ok (.iconst 0, 1) := by decide +kernel
theorem d_Wo_init_6 : decode b_Wo_init 6 = .ok (.putfield 9, 3) := by decide +kernel
theorem d_Wo_init_9 : decode b_Wo_init 9 = .ok (.aload_n 0, 1) := by decide +kernel
theorem d_Wo_init_10 : decode b_Wo_init 10 = .ok (.iconst 1, 1) := by decide +kernel
theorem d_Wo_init_11 : decode b_Wo_init 11 = .ok (.putfield 15, 3) := by decide +kernel
theorem d_Wo_init_14 : decode b_Wo_init 14 = .ok (.aload_n 0, 1) := by decide +kernel
theorem d_Wo_init_15 : decode b_Wo_init 15 = .ok (.iconst 0, 1) := by decide +kernel
theorem d_Wo_init_16 : decode b_Wo_init 16 = .ok (.putfield 18, 3) := by decide +kernel
theorem d_Wo_init_19 : decode b_Wo_init 19 = .ok (.aload_n 0, 1) := by decide +kernel
theorem d_Wo_init_20 : decode b_Wo_init 20 = .ok (.bipush 8, 2) := by decide +kernel
theorem d_Wo_init_22 : decode b_Wo_init 22 = .ok (.newarray .int, 2) := by decide +kernel
theorem d_Wo_init_24 : decode b_Wo_init 24 = .ok (.putfield 21, 3) := by decide +kernel
theorem d_Wo_init_27 : decode b_Wo_init 27 = .ok (.aload_n 0, 1) := by decide +kernel
theorem d_Wo_init_28 : decode b_Wo_init 28 = .ok (.bipush 8, 2) := by decide +kernel
theorem d_Wo_init_30 : decode b_Wo_init 30 = .ok (.newarray .int, 2) := by decide +kernel
theorem d_Wo_init_32 : decode b_Wo_init 32 = .ok (.putfield 25, 3) := by decide +kernel
theorem d_Wo_init_35 : decode b_Wo_init 35 = .ok (.aload_n 0, 1) := by decide +kernel
theorem d_Wo_init_36 : decode b_Wo_init 36 = .ok (.bipush 12, 2) := by decide +kernel
theorem d_Wo_init_38 : decode b_Wo_init 38 = .ok (.anewarray 28, 3) := by decide +kernel
theorem d_Wo_init_41 : decode b_Wo_init 41 = .ok (.putfield 30, 3) := by decide +kernel
theorem d_Wo_init_44 : decode b_Wo_init 44 = .ok (.aload_n 0, 1) := by decide +kernel
theorem d_Wo_init_45 : decode b_Wo_init 45 = .ok (.iconst 0, 1) := by decide +kernel
theorem d_Wo_init_46 : decode b_Wo_init 46 = .ok (.newarray .int, 2) := by decide +kernel
theorem d_Wo_init_48 : decode b_Wo_init 48 = .ok (.putfield 34, 3) := by decide +kernel
theorem d_Wo_init_51 : decode b_Wo_init 51 = .ok (.aload_n 0, 1) := by decide +kernel
theorem d_Wo_init_52 : decode b_Wo_init 52 = .ok (.iconst 0, 1) := by decide +kernel
theorem d_Wo_init_53 : decode b_Wo_init 53 = .ok (.newarray .int, 2) := by decide +kernel
theorem d_Wo_init_55 : decode b_Wo_init 55 = .ok (.putfield 37, 3) := by decide +kernel
theorem d_Wo_init_58 : decode b_Wo_init 58 = .ok (.aload_n 0, 1) := by decide +kernel
theorem d_Wo_init_59 : decode b_Wo_init 59 = .ok (.iconst 0, 1) := by decide +kernel
theorem d_Wo_init_60 : decode b_Wo_init 60 = .ok (.putfield 40, 3) := by decide +kernel
theorem d_Wo_init_63 : decode b_Wo_init 63 = .ok (.aload_n 0, 1) := by decide +kernel
theorem d_Wo_init_64 : decode b_Wo_init 64 = .ok (.iconst 0, 1) := by decide +kernel
theorem d_Wo_init_65 : decode b_Wo_init 65 = .ok (.putfield 44, 3) := by decide +kernel
theorem d_Wo_init_68 : decode b_Wo_init 68 = .ok (.iconst 0, 1) := by decide +kernel
theorem d_Wo_init_69 : decode b_Wo_init 69 = .ok (.istore_n 1, 1) := by decide +kernel
theorem d_Wo_init_70 : decode b_Wo_init 70 = .ok (.iload_n 1, 1) := by decide +kernel
theorem d_Wo_init_71 : decode b_Wo_init 71 = .ok (.bipush 12, 2) := by decide +kernel
theorem d_Wo_init_73 : decode b_Wo_init 73 = .ok (.if_icmp .ge 22, 3) := by decide +kernel
theorem d_Wo_init_76 : decode b_Wo_init 76 = .ok (.aload_n 0, 1) := by decide +kernel
theorem d_Wo_init_77 : decode b_Wo_init 77 = .ok (.getfield 30, 3) := by decide +kernel
theorem d_Wo_init_80 : decode b_Wo_init 80 = .ok (.iload_n 1, 1) := by decide +kernel
theorem d_Wo_init_81 : decode b_Wo_init 81 = .ok (.new 28, 3) := by decide +kernel
theorem d_Wo_init_84 : decode b_Wo_init 84 = .ok (.dup, 1) := by decide +kernel
theorem d_Wo_init_85 : decode b_Wo_init 85 = .ok (.invokespecial 47, 3) := by decide +kernel
theorem d_Wo_init_88 : decode b_Wo_init 88 = .ok (.aastore, 1) := by decide +kernel
theorem d_Wo_init_89 : decode b_Wo_init 89 = .ok (.iinc 1 1, 3) := by decide +kernel
theorem d_Wo_init_92 : decode b_Wo_init 92 = .ok (.goto (-22), 3) := by decide +kernel
theorem d_Wo_init_95 : decode b_Wo_init 95 = .ok (.return_, 1) := by decide +kernel
theorem d_Wo_forget_0 : decode b_Wo_forget 0 = .ok (.aload_n 0, 1) := by decide +kernel
theorem d_Wo_forget_1 : decode b_Wo_forget 1 = .ok (.iconst 0, 1) := by decide +kernel
theorem d_Wo_forget_2 : decode b_Wo_forget 2 = .ok (.putfield 9, 3) := by decide +kernel
theorem d_Wo_forget_5 : decode b_Wo_forget 5 = .ok (.aload_n 0, 1) := by decide +kernel
theorem d_Wo_forget_6 : decode b_Wo_forget 6 = .ok (.iconst 1, 1) := by decide +kernel
theorem d_Wo_forget_7 : decode b_Wo_forget 7 = .ok (.putfield 15, 3) := by decide +kernel
theorem d_Wo_forget_10 : decode b_Wo_forget 10 = .ok (.aload_n 0, 1) := by decide +kernel
theorem d_Wo_forget_11 : decode b_Wo_forget 11 = .ok (.iconst 0, 1) := by decide +kernel
theorem d_Wo_forget_12 : decode b_Wo_forget 12 = .ok (.putfield 18, 3) := by decide +kernel
theorem d_Wo_forget_15 : decode b_Wo_forget 15 = .ok (.aload_n 0, 1) := by decide +kernel
theorem d_Wo_forget_16 : decode b_Wo_forget 16 = .ok (.iconst 0, 1) := by decide +kernel
theorem d_Wo_forget_17 : decode b_Wo_forget 17 = .ok (.putfield 40, 3) := by decide +kernel
theorem d_Wo_forget_20 : decode b_Wo_forget 20 = .ok (.aload_n 0, 1) := by decide +kernel
theorem d_Wo_forget_21 : decode b_Wo_forget 21 = .ok (.iconst 0, 1) := by decide +kernel
theorem d_Wo_forget_22 : decode b_Wo_forget 22 = .ok (.putfield 44, 3) := by decide +kernel
theorem d_Wo_forget_25 : decode b_Wo_forget 25 = .ok (.return_, 1) := by decide +kernel
theorem d_Wo_addThing_0 : decode b_Wo_addThing 0 = .ok (.aload_n 0, 1) := by decide +kernel
theorem d_Wo_addThing_1 : decode b_Wo_addThing 1 = .ok (.getfield 9, 3) := by decide +kernel
theorem d_Wo_addThing_4 : decode b_Wo_addThing 4 = .ok (.bipush 8, 2) := by decide +kernel
theorem d_Wo_addThing_6 : decode b_Wo_addThing 6 = .ok (.if_icmp .ge 15, 3) := by decide +kernel
theorem d_Wo_addThing_9 : decode b_Wo_addThing 9 = .ok (.aload_n 0, 1) := by decide +kernel
theorem d_Wo_addThing_10 : decode b_Wo_addThing 10 = .ok (.getfield 15, 3) := by decide +kernel
theorem d_Wo_addThing_13 : decode b_Wo_addThing 13 = .ok (.iload_n 1, 1) := by decide +kernel
theorem d_Wo_addThing_14 : decode b_Wo_addThing 14 = .ok (.imul, 1) := by decide +kernel
theorem d_Wo_addThing_15 : decode b_Wo_addThing 15 = .ok (.sipush 4096, 3) := by decide +kernel
theorem d_Wo_addThing_18 : decode b_Wo_addThing 18 = .ok (.if_icmp .le 6, 3) := by decide +kernel
theorem d_Wo_addThing_21 : decode b_Wo_addThing 21 = .ok (.bipush (-3), 2) := by decide +kernel
theorem d_Wo_addThing_23 : decode b_Wo_addThing 23 = .ok (.ireturn, 1) := by decide +kernel
theorem d_Wo_addThing_24 : decode b_Wo_addThing 24 = .ok (.aload_n 0, 1) := by decide +kernel
theorem d_Wo_addThing_25 : decode b_Wo_addThing 25 = .ok (.getfield 21, 3) := by decide +kernel
theorem d_Wo_addThing_28 : decode b_Wo_addThing 28 = .ok (.aload_n 0, 1) := by decide +kernel
theorem d_Wo_addThing_29 : decode b_Wo_addThing 29 = .ok (.getfield 9, 3) := by decide +kernel
theorem d_Wo_addThing_32 : decode b_Wo_addThing 32 = .ok (.iload_n 1, 1) := by decide +kernel
theorem d_Wo_addThing_33 : decode b_Wo_addThing 33 = .ok (.iastore, 1) := by decide +kernel
theorem d_Wo_addThing_34 : decode b_Wo_addThing 34 = .ok (.aload_n 0, 1) := by decide +kernel
theorem d_Wo_addThing_35 : decode b_Wo_addThing 35 = .ok (.getfield 25, 3) := by decide +kernel
theorem d_Wo_addThing_38 : decode b_Wo_addThing 38 = .ok (.aload_n 0, 1) := by decide +kernel
theorem d_Wo_addThing_39 : decode b_Wo_addThing 39 = .ok (.getfield 9, 3) := by decide +kernel
theorem d_Wo_addThing_42 : decode b_Wo_addThing 42 = .ok (.aload_n 0, 1) := by decide +kernel
theorem d_Wo_addThing_43 : decode b_Wo_addThing 43 = .ok (.getfield 15, 3) := by decide +kernel
theorem d_Wo_addThing_46 : decode b_Wo_addThing 46 = .ok (.iastore, 1) := by decide +kernel
theorem d_Wo_addThing_47 : decode b_Wo_addThing 47 = .ok (.aload_n 0, 1) := by decide +kernel
theorem d_Wo_addThing_48 : decode b_Wo_addThing 48 = .ok (.dup, 1) := by decide +kernel
theorem d_Wo_addThing_49 : decode b_Wo_addThing 49 = .ok (.getfield 15, 3) := by decide +kernel
theorem d_Wo_addThing_52 : decode b_Wo_addThing 52 = .ok (.iload_n 1, 1) := by decide +kernel
theorem d_Wo_addThing_53 : decode b_Wo_addThing 53 = .ok (.imul, 1) := by decide +kernel
theorem d_Wo_addThing_54 : decode b_Wo_addThing 54 = .ok (.putfield 15, 3) := by decide +kernel
theorem d_Wo_addThing_57 : decode b_Wo_addThing 57 = .ok (.aload_n 0, 1) := by decide +kernel
theorem d_Wo_addThing_58 : decode b_Wo_addThing 58 = .ok (.dup, 1) := by decide +kernel
theorem d_Wo_addThing_59 : decode b_Wo_addThing 59 = .ok (.getfield 9, 3) := by decide +kernel
theorem d_Wo_addThing_62 : decode b_Wo_addThing 62 = .ok (.iconst 1, 1) := by decide +kernel
theorem d_Wo_addThing_63 : decode b_Wo_addThing 63 = .ok (.iadd, 1) := by decide +kernel
theorem d_Wo_addThing_64 : decode b_Wo_addThing 64 = .ok (.putfield 9, 3) := by decide +kernel
theorem d_Wo_addThing_67 : decode b_Wo_addThing 67 = .ok (.aload_n 0, 1) := by decide +kernel
theorem d_Wo_addThing_68 : decode b_Wo_addThing 68 = .ok (.iconst 0, 1) := by decide +kernel
theorem d_Wo_addThing_69 : decode b_Wo_addThing 69 = .ok (.putfield 40, 3) := by decide +kernel
theorem d_Wo_addThing_72 : decode b_Wo_addThing 72 = .ok (.aload_n 0, 1) := by decide +kernel
theorem d_Wo_addThing_73 : decode b_Wo_addThing 73 = .ok (.iconst 0, 1) := by decide +kernel
theorem d_Wo_addThing_74 : decode b_Wo_addThing 74 = .ok (.putfield 44, 3) := by decide +kernel
theorem d_Wo_addThing_77 : decode b_Wo_addThing 77 = .ok (.aload_n 0, 1) := by decide +kernel
theorem d_Wo_addThing_78 : decode b_Wo_addThing 78 = .ok (.getfield 9, 3) := by decide +kernel
theorem d_Wo_addThing_81 : decode b_Wo_addThing 81 = .ok (.iconst 1, 1) := by decide +kernel
theorem d_Wo_addThing_82 : decode b_Wo_addThing 82 = .ok (.isub, 1) := by decide +kernel
theorem d_Wo_addThing_83 : decode b_Wo_addThing 83 = .ok (.ireturn, 1) := by decide +kernel
theorem d_Wo_isState_0 : decode b_Wo_isState 0 = .ok (.iload_n 1, 1) := by decide +kernel
theorem d_Wo_isState_1 : decode b_Wo_isState 1 = .ok (.ifCond .lt 15, 3) := by decide +kernel
theorem d_Wo_isState_4 : decode b_Wo_isState 4 = .ok (.iload_n 1, 1) := by decide +kernel
theorem d_Wo_isState_5 : decode b_Wo_isState 5 = .ok (.aload_n 0, 1) := by decide +kernel
theorem d_Wo_isState_6 : decode b_Wo_isState 6 = .ok (.getfield 15, 3) := by decide +kernel
theorem d_Wo_isState_9 : decode b_Wo_isState 9 = .ok (.if_icmp .ge 7, 3) := by decide +kernel
theorem d_Wo_isState_12 : decode b_Wo_isState 12 = .ok (.iconst 1, 1) := by decide +kernel
theorem d_Wo_isState_13 : decode b_Wo_isState 13 = .ok (.goto 4, 3) := by decide +kernel
theorem d_Wo_isState_16 : decode b_Wo_isState 16 = .ok (.iconst 0, 1) := by decide +kernel
theorem d_Wo_isState_17 : decode b_Wo_isState 17 = .ok (.ireturn, 1) := by decide +kernel
theorem d_Wo_addAct_0 : decode b_Wo_addAct 0 = .ok (.aload_n 0, 1) := by decide +kernel
theorem d_Wo_addAct_1 : decode b_Wo_addAct 1 = .ok (.getfield 18, 3) := by decide +kernel
theorem d_Wo_addAct_4 : decode b_Wo_addAct 4 = .ok (.bipush 12, 2) := by decide +kernel
theorem d_Wo_addAct_6 : decode b_Wo_addAct 6 = .ok (.if_icmp .lt 6, 3) := by decide +kernel
theorem d_Wo_addAct_9 : decode b_Wo_addAct 9 = .ok (.bipush (-3), 2) := by decide +kernel
theorem d_Wo_addAct_11 : decode b_Wo_addAct 11 = .ok (.ireturn, 1) := by decide +kernel
theorem d_Wo_addAct_12 : decode b_Wo_addAct 12 = .ok (.aload_n 0, 1) := by decide +kernel
theorem d_Wo_addAct_13 : decode b_Wo_addAct 13 = .ok (.getfield 30, 3) := by decide +kernel
theorem d_Wo_addAct_16 : decode b_Wo_addAct 16 = .ok (.aload_n 0, 1) := by decide +kernel
theorem d_Wo_addAct_17 : decode b_Wo_addAct 17 = .ok (.getfield 18, 3) := by decide +kernel
theorem d_Wo_addAct_20 : decode b_Wo_addAct 20 = .ok (.aaload, 1) := by decide +kernel
theorem d_Wo_addAct_21 : decode b_Wo_addAct 21 = .ok (.invokevirtual 48, 3) := by decide +kernel
theorem d_Wo_addAct_24 : decode b_Wo_addAct 24 = .ok (.aload_n 0, 1) := by decide +kernel
theorem d_Wo_addAct_25 : decode b_Wo_addAct 25 = .ok (.dup, 1) := by decide +kernel
theorem d_Wo_addAct_26 : decode b_Wo_addAct 26 = .ok (.getfield 18, 3) := by decide +kernel
theorem d_Wo_addAct_29 : decode b_Wo_addAct 29 = .ok (.iconst 1, 1) := by decide +kernel
theorem d_Wo_addAct_30 : decode b_Wo_addAct 30 = .ok (.iadd, 1) := by decide +kernel
theorem d_Wo_addAct_31 : decode b_Wo_addAct 31 = .ok (.putfield 18, 3) := by decide +kernel
theorem d_Wo_addAct_34 : decode b_Wo_addAct 34 = .ok (.aload_n 0, 1) := by decide +kernel
theorem d_Wo_addAct_35 : decode b_Wo_addAct 35 = .ok (.iconst 0, 1) := by decide +kernel
theorem d_Wo_addAct_36 : decode b_Wo_addAct 36 = .ok (.putfield 44, 3) := by decide +kernel
theorem d_Wo_addAct_39 : decode b_Wo_addAct 39 = .ok (.aload_n 0, 1) := by decide +kernel
theorem d_Wo_addAct_40 : decode b_Wo_addAct 40 = .ok (.getfield 18, 3) := by decide +kernel
theorem d_Wo_addAct_43 : decode b_Wo_addAct 43 = .ok (.iconst 1, 1) := by decide +kernel
theorem d_Wo_addAct_44 : decode b_Wo_addAct 44 = .ok (.isub, 1) := by decide +kernel
theorem d_Wo_addAct_45 : decode b_Wo_addAct 45 = .ok (.ireturn, 1) := by decide +kernel
theorem d_Wo_isAct_0 : decode b_Wo_isAct 0 = .ok (.iload_n 1, 1) := by decide +kernel
theorem d_Wo_isAct_1 : decode b_Wo_isAct 1 = .ok (.ifCond .lt 15, 3) := by decide +kernel
theorem d_Wo_isAct_4 : decode b_Wo_isAct 4 = .ok (.iload_n 1, 1) := by decide +kernel
theorem d_Wo_isAct_5 : decode b_Wo_isAct 5 = .ok (.aload_n 0, 1) := by decide +kernel
theorem d_Wo_isAct_6 : decode b_Wo_isAct 6 = .ok (.getfield 18, 3) := by decide +kernel
theorem d_Wo_isAct_9 : decode b_Wo_isAct 9 = .ok (.if_icmp .ge 7, 3) := by decide +kernel
theorem d_Wo_isAct_12 : decode b_Wo_isAct 12 = .ok (.iconst 1, 1) := by decide +kernel
theorem d_Wo_isAct_13 : decode b_Wo_isAct 13 = .ok (.goto 4, 3) := by decide +kernel
theorem d_Wo_isAct_16 : decode b_Wo_isAct 16 = .ok (.iconst 0, 1) := by decide +kernel
theorem d_Wo_isAct_17 : decode b_Wo_isAct 17 = .ok (.ireturn, 1) := by decide +kernel
theorem d_Wo_isCondition_0 : decode b_Wo_isCondition 0 = .ok (.aload_n 0, 1) := by decide +kernel
theorem d_Wo_isCondition_1 : decode b_Wo_isCondition 1 = .ok (.iload_n 1, 1) := by decide +kernel
theorem d_Wo_isCondition_2 : decode b_Wo_isCondition 2 = .ok (.invokevirtual 58, 3) := by decide +kernel
theorem d_Wo_isCondition_5 : decode b_Wo_isCondition 5 = .ok (.ifCond .eq 12, 3) := by decide +kernel
theorem d_Wo_isCondition_8 : decode b_Wo_isCondition 8 = .ok (.iload_n 2, 1) := by decide +kernel
theorem d_Wo_isCondition_9 : decode b_Wo_isCondition 9 = .ok (.ifCond .lt 8, 3) := by decide +kernel
theorem d_Wo_isCondition_12 : decode b_Wo_isCondition 12 = .ok (.iload_n 2, 1) := by decide +kernel
theorem d_Wo_isCondition_13 : decode b_Wo_isCondition 13 = .ok (.iconst 3, 1) := by decide +kernel
theorem d_Wo_isCondition_14 : decode b_Wo_isCondition 14 = .ok (.if_icmp .le 5, 3) := by decide +kernel
theorem d_Wo_isCondition_17 : decode b_Wo_isCondition 17 = .ok (.iconst 0, 1) := by decide +kernel
theorem d_Wo_isCondition_18 : decode b_Wo_isCondition 18 = .ok (.ireturn, 1) := by decide +kernel
theorem d_Wo_isCondition_19 : decode b_Wo_isCondition 19 = .ok (.iload_n 2, 1) := by decide +kernel
theorem d_Wo_isCondition_20 : decode b_Wo_isCondition 20 = .ok (.iconst 2, 1) := by decide +kernel
theorem d_Wo_isCondition_21 : decode b_Wo_isCondition 21 = .ok (.if_icmp .ne 11, 3) := by decide +kernel
theorem d_Wo_isCondition_24 : decode b_Wo_isCondition 24 = .ok (.aload_n 0, 1) := by decide +kernel
theorem d_Wo_isCondition_25 : decode b_Wo_isCondition 25 = .ok (.iload_n 3, 1) := by decide +kernel
theorem d_Wo_isCondition_26 : decode b_Wo_isCondition 26 = .ok (.invokevirtual 58, 3) := by decide +kernel
theorem d_Wo_isCondition_29 : decode b_Wo_isCondition 29 = .ok (.goto 17, 3) := by decide +kernel
theorem d_Wo_isCondition_32 : decode b_Wo_isCondition 32 = .ok (.iload_n 3, 1) := by decide +kernel
theorem d_Wo_isCondition_33 : decode b_Wo_isCondition 33 = .ok (.ifCond .lt 12, 3) := by decide +kernel
theorem d_Wo_isCondition_36 : decode b_Wo_isCondition 36 = .ok (.iload_n 3, 1) := by decide +kernel
theorem d_Wo_isCondition_37 : decode b_Wo_isCondition 37 = .ok (.iconst 4, 1) := by decide +kernel
theorem d_Wo_isCondition_38 : decode b_Wo_isCondition 38 = .ok (.if_icmp .ge 7, 3) := by decide +kernel
theorem d_Wo_isCondition_41 : decode b_Wo_isCondition 41 = .ok (.iconst 1, 1) := by decide +kernel
theorem d_Wo_isCondition_42 : decode b_Wo_isCondition 42 = .ok (.goto 4, 3) := by decide +kernel
theorem d_Wo_isCondition_45 : decode b_Wo_isCondition 45 = .ok (.iconst 0, 1) := by decide +kernel
theorem d_Wo_isCondition_46 : decode b_Wo_isCondition 46 = .ok (.ireturn, 1) := by decide +kernel
theorem d_Wo_isThing_0 : decode b_Wo_isThing 0 = .ok (.iload_n 1, 1) := by decide +kernel
theorem d_Wo_isThing_1 : decode b_Wo_isThing 1 = .ok (.ifCond .lt 15, 3) := by decide +kernel
theorem d_Wo_isThing_4 : decode b_Wo_isThing 4 = .ok (.iload_n 1, 1) := by decide +kernel
theorem d_Wo_isThing_5 : decode b_Wo_isThing 5 = .ok (.aload_n 0, 1) := by decide +kernel
theorem d_Wo_isThing_6 : decode b_Wo_isThing 6 = .ok (.getfield 9, 3) := by decide +kernel
theorem d_Wo_isThing_9 : decode b_Wo_isThing 9 = .ok (.if_icmp .ge 7, 3) := by decide +kernel
theorem d_Wo_isThing_12 : decode b_Wo_isThing 12 = .ok (.iconst 1, 1) := by decide +kernel
theorem d_Wo_isThing_13 : decode b_Wo_isThing 13 = .ok (.goto 4, 3) := by decide +kernel
theorem d_Wo_isThing_16 : decode b_Wo_isThing 16 = .ok (.iconst 0, 1) := by decide +kernel
theorem d_Wo_isThing_17 : decode b_Wo_isThing 17 = .ok (.ireturn, 1) := by decide +kernel
theorem d_Wo_isOutcome_0 : decode b_Wo_isOutcome 0 = .ok (.aload_n 0, 1) := by decide +kernel
theorem d_Wo_isOutcome_1 : decode b_Wo_isOutcome 1 = .ok (.iload_n 1, 1) := by decide +kernel
theorem d_Wo_isOutcome_2 : decode b_Wo_isOutcome 2 = .ok (.invokevirtual 51, 3) := by decide +kernel
theorem d_Wo_isOutcome_5 : decode b_Wo_isOutcome 5 = .ok (.ifCond .eq 24, 3) := by decide +kernel
theorem d_Wo_isOutcome_8 : decode b_Wo_isOutcome 8 = .ok (.iload_n 2, 1) := by decide +kernel
theorem d_Wo_isOutcome_9 : decode b_Wo_isOutcome 9 = .ok (.ifCond .lt 20, 3) := by decide +kernel
theorem d_Wo_isOutcome_12 : decode b_Wo_isOutcome 12 = .ok (.iload_n 2, 1) := by decide +kernel
theorem d_Wo_isOutcome_13 : decode b_Wo_isOutcome 13 = .ok (.aload_n 0, 1) := by decide +kernel
theorem d_Wo_isOutcome_14 : decode b_Wo_isOutcome 14 = .ok (.getfield 30, 3) := by decide +kernel
theorem d_Wo_isOutcome_17 : decode b_Wo_isOutcome 17 = .ok (.iload_n 1, 1) := by decide +kernel
theorem d_Wo_isOutcome_18 : decode b_Wo_isOutcome 18 = .ok (.aaload, 1) := by decide +kernel
theorem d_Wo_isOutcome_19 : decode b_Wo_isOutcome 19 = .ok (.getfield 55, 3) := by decide +kernel
theorem d_Wo_isOutcome_22 : decode b_Wo_isOutcome 22 = .ok (.if_icmp .ge 7, 3) := by decide +kernel
theorem d_Wo_isOutcome_25 : decode b_Wo_isOutcome 25 = .ok (.iconst 1, 1) := by decide +kernel
theorem d_Wo_isOutcome_26 : decode b_Wo_isOutcome 26 = .ok (.goto 4, 3) := by decide +kernel
theorem d_Wo_isOutcome_29 : decode b_Wo_isOutcome 29 = .ok (.iconst 0, 1) := by decide +kernel
theorem d_Wo_isOutcome_30 : decode b_Wo_isOutcome 30 = .ok (.ireturn, 1) := by decide +kernel
theorem d_Wo_isEffect_0 : decode b_Wo_isEffect 0 = .ok (.aload_n 0, 1) := by decide +kernel
theorem d_Wo_isEffect_1 : decode b_Wo_isEffect 1 = .ok (.iload_n 1, 1) := by decide +kernel
theorem d_Wo_isEffect_2 : decode b_Wo_isEffect 2 = .ok (.invokevirtual 58, 3) := by decide +kernel
theorem d_Wo_isEffect_5 : decode b_Wo_isEffect 5 = .ok (.ifCond .eq 12, 3) := by decide +kernel
theorem d_Wo_isEffect_8 : decode b_Wo_isEffect 8 = .ok (.iload_n 2, 1) := by decide +kernel
theorem d_Wo_isEffect_9 : decode b_Wo_isEffect 9 = .ok (.ifCond .lt 8, 3) := by decide +kernel
theorem d_Wo_isEffect_12 : decode b_Wo_isEffect 12 = .ok (.iload_n 2, 1) := by decide +kernel
theorem d_Wo_isEffect_13 : decode b_Wo_isEffect 13 = .ok (.iconst 2, 1) := by decide +kernel
theorem d_Wo_isEffect_14 : decode b_Wo_isEffect 14 = .ok (.if_icmp .le 5, 3) := by decide +kernel
theorem d_Wo_isEffect_17 : decode b_Wo_isEffect 17 = .ok (.iconst 0, 1) := by decide +kernel
theorem d_Wo_isEffect_18 : decode b_Wo_isEffect 18 = .ok (.ireturn, 1) := by decide +kernel
theorem d_Wo_isEffect_19 : decode b_Wo_isEffect 19 = .ok (.iload_n 2, 1) := by decide +kernel
theorem d_Wo_isEffect_20 : decode b_Wo_isEffect 20 = .ok (.iconst 1, 1) := by decide +kernel
theorem d_Wo_isEffect_21 : decode b_Wo_isEffect 21 = .ok (.if_icmp .ne 9, 3) := by decide +kernel
theorem d_Wo_isEffect_24 : decode b_Wo_isEffect 24 = .ok (.aload_n 0, 1) := by decide +kernel
theorem d_Wo_isEffect_25 : decode b_Wo_isEffect 25 = .ok (.iload_n 3, 1) := by decide +kernel
theorem d_Wo_isEffect_26 : decode b_Wo_isEffect 26 = .ok (.invokevirtual 58, 3) := by decide +kernel
theorem d_Wo_isEffect_29 : decode b_Wo_isEffect 29 = .ok (.ireturn, 1) := by decide +kernel
theorem d_Wo_isEffect_30 : decode b_Wo_isEffect 30 = .ok (.iload_n 3, 1) := by decide +kernel
theorem d_Wo_isEffect_31 : decode b_Wo_isEffect 31 = .ok (.ifCond .lt 25, 3) := by decide +kernel
theorem d_Wo_isEffect_34 : decode b_Wo_isEffect 34 = .ok (.iload_n 3, 1) := by decide +kernel
theorem d_Wo_isEffect_35 : decode b_Wo_isEffect 35 = .ok (.iload_n 2, 1) := by decide +kernel
theorem d_Wo_isEffect_36 : decode b_Wo_isEffect 36 = .ok (.ifCond .ne 12, 3) := by decide +kernel
theorem d_Wo_isEffect_39 : decode b_Wo_isEffect 39 = .ok (.aload_n 0, 1) := by decide +kernel
theorem d_Wo_isEffect_40 : decode b_Wo_isEffect 40 = .ok (.getfield 21, 3) := by decide +kernel
theorem d_Wo_isEffect_43 : decode b_Wo_isEffect 43 = .ok (.iload_n 1, 1) := by decide +kernel
theorem d_Wo_isEffect_44 : decode b_Wo_isEffect 44 = .ok (.iaload, 1) := by decide +kernel
theorem d_Wo_isEffect_45 : decode b_Wo_isEffect 45 = .ok (.goto 4, 3) := by decide +kernel
theorem d_Wo_isEffect_48 : decode b_Wo_isEffect 48 = .ok (.iconst 4, 1) := by decide +kernel
theorem d_Wo_isEffect_49 : decode b_Wo_isEffect 49 = .ok (.if_icmp .ge 7, 3) := by decide +kernel
theorem d_Wo_isEffect_52 : decode b_Wo_isEffect 52 = .ok (.iconst 1, 1) := by decide +kernel
theorem d_Wo_isEffect_53 : decode b_Wo_isEffect 53 = .ok (.goto 4, 3) := by decide +kernel
theorem d_Wo_isEffect_56 : decode b_Wo_isEffect 56 = .ok (.iconst 0, 1) := by decide +kernel
theorem d_Wo_isEffect_57 : decode b_Wo_isEffect 57 = .ok (.ireturn, 1) := by decide +kernel
theorem d_Wo_dropAct_0 : decode b_Wo_dropAct 0 = .ok (.aload_n 0, 1) := by decide +kernel
theorem d_Wo_dropAct_1 : decode b_Wo_dropAct 1 = .ok (.dup, 1) := by decide +kernel
theorem d_Wo_dropAct_2 : decode b_Wo_dropAct 2 = .ok (.getfield 18, 3) := by decide +kernel
theorem d_Wo_dropAct_5 : decode b_Wo_dropAct 5 = .ok (.iconst 1, 1) := by decide +kernel
theorem d_Wo_dropAct_6 : decode b_Wo_dropAct 6 = .ok (.isub, 1) := by decide +kernel
theorem d_Wo_dropAct_7 : decode b_Wo_dropAct 7 = .ok (.putfield 18, 3) := by decide +kernel
theorem d_Wo_dropAct_10 : decode b_Wo_dropAct 10 = .ok (.aload_n 0, 1) := by decide +kernel
theorem d_Wo_dropAct_11 : decode b_Wo_dropAct 11 = .ok (.iconst 0, 1) := by decide +kernel
theorem d_Wo_dropAct_12 : decode b_Wo_dropAct 12 = .ok (.putfield 44, 3) := by decide +kernel
theorem d_Wo_dropAct_15 : decode b_Wo_dropAct 15 = .ok (.return_, 1) := by decide +kernel
theorem d_Wo_pack_0 : decode b_Wo_pack 0 = .ok (.iload_n 1, 1) := by decide +kernel
theorem d_Wo_pack_1 : decode b_Wo_pack 1 = .ok (.istore_n 2, 1) := by decide +kernel
theorem d_Wo_pack_2 : decode b_Wo_pack 2 = .ok (.iconst 0, 1) := by decide +kernel
theorem d_Wo_pack_3 : decode b_Wo_pack 3 = .ok (.istore_n 3, 1) := by decide +kernel
theorem d_Wo_pack_4 : decode b_Wo_pack 4 = .ok (.iconst 0, 1) := by decide +kernel
theorem d_Wo_pack_5 : decode b_Wo_pack 5 = .ok (.istore 4, 2) := by decide +kernel
theorem d_Wo_pack_7 : decode b_Wo_pack 7 = .ok (.iload 4, 2) := by decide +kernel
theorem d_Wo_pack_9 : decode b_Wo_pack 9 = .ok (.aload_n 0, 1) := by decide +kernel
theorem d_Wo_pack_10 : decode b_Wo_pack 10 = .ok (.getfield 9, 3) := by decide +kernel
theorem d_Wo_pack_13 : decode b_Wo_pack 13 = .ok (.if_icmp .ge 40, 3) := by decide +kernel
theorem d_Wo_pack_16 : decode b_Wo_pack 16 = .ok (.aload_n 0, 1) := by decide +kernel
theorem d_Wo_pack_17 : decode b_Wo_pack 17 = .ok (.getfield 21, 3) := by decide +kernel
theorem d_Wo_pack_20 : decode b_Wo_pack 20 = .ok (.iload 4, 2) := by decide +kernel
theorem d_Wo_pack_22 : decode b_Wo_pack 22 = .ok (.iaload, 1) := by decide +kernel
theorem d_Wo_pack_23 : decode b_Wo_pack 23 = .ok (.istore 5, 2) := by decide +kernel
theorem d_Wo_pack_25 : decode b_Wo_pack 25 = .ok (.iload 5, 2) := by decide +kernel
theorem d_Wo_pack_27 : decode b_Wo_pack 27 = .ok (.ifCond .le 20, 3) := by decide +kernel
theorem d_Wo_pack_30 : decode b_Wo_pack 30 = .ok (.iload_n 3, 1) := by decide +kernel
theorem d_Wo_pack_31 : decode b_Wo_pack 31 = .ok (.iload_n 2, 1) := by decide +kernel
theorem d_Wo_pack_32 : decode b_Wo_pack 32 = .ok (.iload 5, 2) := by decide +kernel
theorem d_Wo_pack_34 : decode b_Wo_pack 34 = .ok (.irem, 1) := by decide +kernel
theorem d_Wo_pack_35 : decode b_Wo_pack 35 = .ok (.iconst 2, 1) := by decide +kernel
theorem d_Wo_pack_36 : decode b_Wo_pack 36 = .ok (.iload 4, 2) := by decide +kernel
theorem d_Wo_pack_38 : decode b_Wo_pack 38 = .ok (.imul, 1) := by decide +kernel
theorem d_Wo_pack_39 : decode b_Wo_pack 39 = .ok (.ishl, 1) := by decide +kernel
theorem d_Wo_pack_40 : decode b_Wo_pack 40 = .ok (.ior, 1) := by decide +kernel
theorem d_Wo_pack_41 : decode b_Wo_pack 41 = .ok (.istore_n 3, 1) := by decide +kernel
theorem d_Wo_pack_42 : decode b_Wo_pack 42 = .ok (.iload_n 2, 1) := by decide +kernel
theorem d_Wo_pack_43 : decode b_Wo_pack 43 = .ok (.iload 5, 2) := by decide +kernel
theorem d_Wo_pack_45 : decode b_Wo_pack 45 = .ok (.idiv, 1) := by decide +kernel
theorem d_Wo_pack_46 : decode b_Wo_pack 46 = .ok (.istore_n 2, 1) := by decide +kernel
theorem d_Wo_pack_47 : decode b_Wo_pack 47 = .ok (.iinc 4 1, 3) := by decide +kernel
theorem d_Wo_pack_50 : decode b_Wo_pack 50 = .ok (.goto (-43), 3) := by decide +kernel
theorem d_Wo_pack_53 : decode b_Wo_pack 53 = .ok (.iload_n 3, 1) := by decide +kernel
theorem d_Wo_pack_54 : decode b_Wo_pack 54 = .ok (.ireturn, 1) := by decide +kernel
theorem d_Wo_after_0 : decode b_Wo_after 0 = .ok (.iload_n 2, 1) := by decide +kernel
theorem d_Wo_after_1 : decode b_Wo_after 1 = .ok (.istore 4, 2) := by decide +kernel
theorem d_Wo_after_3 : decode b_Wo_after 3 = .ok (.iconst 0, 1) := by decide +kernel
theorem d_Wo_after_4 : decode b_Wo_after 4 = .ok (.istore 5, 2) := by decide +kernel
theorem d_Wo_after_6 : decode b_Wo_after 6 = .ok (.iload 5, 2) := by decide +kernel
theorem d_Wo_after_8 : decode b_Wo_after 8 = .ok (.aload_n 1, 1) := by decide +kernel
theorem d_Wo_after_9 : decode b_Wo_after 9 = .ok (.getfield 61, 3) := by decide +kernel
theorem d_Wo_after_12 : decode b_Wo_after 12 = .ok (.if_icmp .ge 55, 3) := by decide +kernel
theorem d_Wo_after_15 : decode b_Wo_after 15 = .ok (.aload_n 1, 1) := by decide +kernel
theorem d_Wo_after_16 : decode b_Wo_after 16 = .ok (.iload 5, 2) := by decide +kernel
theorem d_Wo_after_18 : decode b_Wo_after 18 = .ok (.invokevirtual 66, 3) := by decide +kernel
theorem d_Wo_after_21 : decode b_Wo_after 21 = .ok (.ifCond .eq 40, 3) := by decide +kernel
theorem d_Wo_after_24 : decode b_Wo_after 24 = .ok (.aload_n 1, 1) := by decide +kernel
theorem d_Wo_after_25 : decode b_Wo_after 25 = .ok (.getfield 69, 3) := by decide +kernel
theorem d_Wo_after_28 : decode b_Wo_after 28 = .ok (.iload 5, 2) := by decide +kernel
theorem d_Wo_after_30 : decode b_Wo_after 30 = .ok (.iaload, 1) := by decide +kernel
theorem d_Wo_after_31 : decode b_Wo_after 31 = .ok (.istore 6, 2) := by decide +kernel
theorem d_Wo_after_33 : decode b_Wo_after 33 = .ok (.iload 4, 2) := by decide +kernel
theorem d_Wo_after_35 : decode b_Wo_after 35 = .ok (.aload_n 0, 1) := by decide +kernel
theorem d_Wo_after_36 : decode b_Wo_after 36 = .ok (.getfield 25, 3) := by decide +kernel
theorem d_Wo_after_39 : decode b_Wo_after 39 = .ok (.iload 6, 2) := by decide +kernel
theorem d_Wo_after_41 : decode b_Wo_after 41 = .ok (.iaload, 1) := by decide +kernel
theorem d_Wo_after_42 : decode b_Wo_after 42 = .ok (.aload_n 0, 1) := by decide +kernel
theorem d_Wo_after_43 : decode b_Wo_after 43 = .ok (.aload_n 1, 1) := by decide +kernel
theorem d_Wo_after_44 : decode b_Wo_after 44 = .ok (.iload 5, 2) := by decide +kernel
theorem d_Wo_after_46 : decode b_Wo_after 46 = .ok (.iload_n 3, 1) := by decide +kernel
theorem d_Wo_after_47 : decode b_Wo_after 47 = .ok (.invokevirtual 72, 3) := by decide +kernel
theorem d_Wo_after_50 : decode b_Wo_after 50 = .ok (.iload_n 3, 1) := by decide +kernel
theorem d_Wo_after_51 : decode b_Wo_after 51 = .ok (.iload 6, 2) := by decide +kernel
theorem d_Wo_after_53 : decode b_Wo_after 53 = .ok (.invokestatic 76, 3) := by decide +kernel
theorem d_Wo_after_56 : decode b_Wo_after 56 = .ok (.isub, 1) := by decide +kernel
theorem d_Wo_after_57 : decode b_Wo_after 57 = .ok (.imul, 1) := by decide +kernel
theorem d_Wo_after_58 : decode b_Wo_after 58 = .ok (.iadd, 1) := by decide +kernel
theorem d_Wo_after_59 : decode b_Wo_after 59 = .ok (.istore 4, 2) := by decide +kernel
theorem d_Wo_after_61 : decode b_Wo_after 61 = .ok (.iinc 5 1, 3) := by decide +kernel
theorem d_Wo_after_64 : decode b_Wo_after 64 = .ok (.goto (-58), 3) := by decide +kernel
theorem d_Wo_after_67 : decode b_Wo_after 67 = .ok (.iload 4, 2) := by decide +kernel
theorem d_Wo_after_69 : decode b_Wo_after 69 = .ok (.ireturn, 1) := by decide +kernel
theorem d_Wo_newValue_0 : decode b_Wo_newValue 0 = .ok (.aload_n 1, 1) := by decide +kernel
theorem d_Wo_newValue_1 : decode b_Wo_newValue 1 = .ok (.getfield 69, 3) := by decide +kernel
theorem d_Wo_newValue_4 : decode b_Wo_newValue 4 = .ok (.iload_n 2, 1) := by decide +kernel
theorem d_Wo_newValue_5 : decode b_Wo_newValue 5 = .ok (.iaload, 1) := by decide +kernel
theorem d_Wo_newValue_6 : decode b_Wo_newValue 6 = .ok (.istore 4, 2) := by decide +kernel
theorem d_Wo_newValue_8 : decode b_Wo_newValue 8 = .ok (.aload_n 1, 1) := by decide +kernel
theorem d_Wo_newValue_9 : decode b_Wo_newValue 9 = .ok (.getfield 80, 3) := by decide +kernel
theorem d_Wo_newValue_12 : decode b_Wo_newValue 12 = .ok (.iload_n 2, 1) := by decide +kernel
theorem d_Wo_newValue_13 : decode b_Wo_newValue 13 = .ok (.iaload, 1) := by decide +kernel
theorem d_Wo_newValue_14 : decode b_Wo_newValue 14 = .ok (.istore 5, 2) := by decide +kernel
theorem d_Wo_newValue_16 : decode b_Wo_newValue 16 = .ok (.iload 5, 2) := by decide +kernel
theorem d_Wo_newValue_18 : decode b_Wo_newValue 18 = .ok (.istore 6, 2) := by decide +kernel
theorem d_Wo_newValue_20 : decode b_Wo_newValue 20 = .ok (.aload_n 1, 1) := by decide +kernel
theorem d_Wo_newValue_21 : decode b_Wo_newValue 21 = .ok (.getfield 83, 3) := by decide +kernel
theorem d_Wo_newValue_24 : decode b_Wo_newValue 24 = .ok (.iload_n 2, 1) := by decide +kernel
theorem d_Wo_newValue_25 : decode b_Wo_newValue 25 = .ok (.iaload, 1) := by decide +kernel
theorem d_Wo_newValue_26 : decode b_Wo_newValue 26 = .ok (.iconst 1, 1) := by decide +kernel
theorem d_Wo_newValue_27 : decode b_Wo_newValue 27 = .ok (.if_icmp .ne 14, 3) := by decide +kernel
theorem d_Wo_newValue_30 : decode b_Wo_newValue 30 = .ok (.iload_n 3, 1) := by decide +kernel
theorem d_Wo_newValue_31 : decode b_Wo_newValue 31 = .ok (.iload 5, 2) := by decide +kernel
theorem d_Wo_newValue_33 : decode b_Wo_newValue 33 = .ok (.invokestatic 76, 3) := by decide +kernel
theorem d_Wo_newValue_36 : decode b_Wo_newValue 36 = .ok (.istore 6, 2) := by decide +kernel
theorem d_Wo_newValue_38 : decode b_Wo_newValue 38 = .ok (.goto 24, 3) := by decide +kernel
theorem d_Wo_newValue_41 : decode b_Wo_newValue 41 = .ok (.aload_n 1, 1) := by decide +kernel
theorem d_Wo_newValue_42 : decode b_Wo_newValue 42 = .ok (.getfield 83, 3) := by decide +kernel
theorem d_Wo_newValue_45 : decode b_Wo_newValue 45 = .ok (.iload_n 2, 1) := by decide +kernel
theorem d_Wo_newValue_46 : decode b_Wo_newValue 46 = .ok (.iaload, 1) := by decide +kernel
theorem d_Wo_newValue_47 : decode b_Wo_newValue 47 = .ok (.iconst 2, 1) := by decide +kernel
theorem d_Wo_newValue_48 : decode b_Wo_newValue 48 = .ok (.if_icmp .ne 14, 3) := by decide +kernel
theorem d_Wo_newValue_51 : decode b_Wo_newValue 51 = .ok (.iload_n 3, 1) := by decide +kernel
theorem d_Wo_newValue_52 : decode b_Wo_newValue 52 = .ok (.iload 4, 2) := by decide +kernel
theorem d_Wo_newValue_54 : decode b_Wo_newValue 54 = .ok (.invokestatic 76, 3) := by decide +kernel
theorem d_Wo_newValue_57 : decode b_Wo_newValue 57 = .ok (.iload 5, 2) := by decide +kernel
theorem d_Wo_newValue_59 : decode b_Wo_newValue 59 = .ok (.iadd, 1) := by decide +kernel
theorem d_Wo_newValue_60 : decode b_Wo_newValue 60 = .ok (.istore 6, 2) := by decide +kernel
theorem d_Wo_newValue_62 : decode b_Wo_newValue 62 = .ok (.aload_n 0, 1) := by decide +kernel
theorem d_Wo_newValue_63 : decode b_Wo_newValue 63 = .ok (.getfield 21, 3) := by decide +kernel
theorem d_Wo_newValue_66 : decode b_Wo_newValue 66 = .ok (.iload 4, 2) := by decide +kernel
theorem d_Wo_newValue_68 : decode b_Wo_newValue 68 = .ok (.iaload, 1) := by decide +kernel
theorem d_Wo_newValue_69 : decode b_Wo_newValue 69 = .ok (.istore 7, 2) := by decide +kernel
theorem d_Wo_newValue_71 : decode b_Wo_newValue 71 = .ok (.iload 7, 2) := by decide +kernel
theorem d_Wo_newValue_73 : decode b_Wo_newValue 73 = .ok (.ifCond .le 11, 3) := by decide +kernel
theorem d_Wo_newValue_76 : decode b_Wo_newValue 76 = .ok (.iload 6, 2) := by decide +kernel
theorem d_Wo_newValue_78 : decode b_Wo_newValue 78 = .ok (.iload 7, 2) := by decide +kernel
theorem d_Wo_newValue_80 : decode b_Wo_newValue 80 = .ok (.irem, 1) := by decide +kernel
theorem d_Wo_newValue_81 : decode b_Wo_newValue 81 = .ok (.goto 4, 3) := by decide +kernel
theorem d_Wo_newValue_84 : decode b_Wo_newValue 84 = .ok (.iconst 0, 1) := by decide +kernel
theorem d_Wo_newValue_85 : decode b_Wo_newValue 85 = .ok (.ireturn, 1) := by decide +kernel
theorem d_Wo_prepare_0 : decode b_Wo_prepare 0 = .ok (.aload_n 0, 1) := by decide +kernel
theorem d_Wo_prepare_1 : decode b_Wo_prepare 1 = .ok (.getfield 44, 3) := by decide +kernel
theorem d_Wo_prepare_4 : decode b_Wo_prepare 4 = .ok (.ifCond .eq 4, 3) := by decide +kernel
theorem d_Wo_prepare_7 : decode b_Wo_prepare 7 = .ok (.return_, 1) := by decide +kernel
theorem d_Wo_prepare_8 : decode b_Wo_prepare 8 = .ok (.aload_n 0, 1) := by decide +kernel
theorem d_Wo_prepare_9 : decode b_Wo_prepare 9 = .ok (.getfield 40, 3) := by decide +kernel
theorem d_Wo_prepare_12 : decode b_Wo_prepare 12 = .ok (.ifCond .ne 7, 3) := by decide +kernel
theorem d_Wo_prepare_15 : decode b_Wo_prepare 15 = .ok (.aload_n 0, 1) := by decide +kernel
theorem d_Wo_prepare_16 : decode b_Wo_prepare 16 = .ok (.invokevirtual 108, 3) := by decide +kernel
theorem d_Wo_prepare_19 : decode b_Wo_prepare 19 = .ok (.iconst 0, 1) := by decide +kernel
theorem d_Wo_prepare_20 : decode b_Wo_prepare 20 = .ok (.istore_n 1, 1) := by decide +kernel
theorem d_Wo_prepare_21 : decode b_Wo_prepare 21 = .ok (.iload_n 1, 1) := by decide +kernel
theorem d_Wo_prepare_22 : decode b_Wo_prepare 22 = .ok (.aload_n 0, 1) := by decide +kernel
theorem d_Wo_prepare_23 : decode b_Wo_prepare 23 = .ok (.getfield 18, 3) := by decide +kernel
theorem d_Wo_prepare_26 : decode b_Wo_prepare 26 = .ok (.if_icmp .ge 31, 3) := by decide +kernel
theorem d_Wo_prepare_29 : decode b_Wo_prepare 29 = .ok (.aload_n 0, 1) := by decide +kernel
theorem d_Wo_prepare_30 : decode b_Wo_prepare 30 = .ok (.getfield 30, 3) := by decide +kernel
theorem d_Wo_prepare_33 : decode b_Wo_prepare 33 = .ok (.iload_n 1, 1) := by decide +kernel
theorem d_Wo_prepare_34 : decode b_Wo_prepare 34 = .ok (.aaload, 1) := by decide +kernel
theorem d_Wo_prepare_35 : decode b_Wo_prepare 35 = .ok (.getfield 111, 3) := by decide +kernel
theorem d_Wo_prepare_38 : decode b_Wo_prepare 38 = .ok (.ifCond .ne 13, 3) := by decide +kernel
theorem d_Wo_prepare_41 : decode b_Wo_prepare 41 = .ok (.aload_n 0, 1) := by decide +kernel
theorem d_Wo_prepare_42 : decode b_Wo_prepare 42 = .ok (.getfield 30, 3) := by decide +kernel
theorem d_Wo_prepare_45 : decode b_Wo_prepare 45 = .ok (.iload_n 1, 1) := by decide +kernel
theorem d_Wo_prepare_46 : decode b_Wo_prepare 46 = .ok (.aaload, 1) := by decide +kernel
theorem d_Wo_prepare_47 : decode b_Wo_prepare 47 = .ok (.aload_n 0, 1) := by decide +kernel
theorem d_Wo_prepare_48 : decode b_Wo_prepare 48 = .ok (.invokevirtual 114, 3) := by decide +kernel
theorem d_Wo_prepare_51 : decode b_Wo_prepare 51 = .ok (.iinc 1 1, 3) := by decide +kernel
theorem d_Wo_prepare_54 : decode b_Wo_prepare 54 = .ok (.goto (-33), 3) := by decide +kernel
theorem d_Wo_prepare_57 : decode b_Wo_prepare 57 = .ok (.aload_n 0, 1) := by decide +kernel
theorem d_Wo_prepare_58 : decode b_Wo_prepare 58 = .ok (.invokevirtual 118, 3) := by decide +kernel
theorem d_Wo_prepare_61 : decode b_Wo_prepare 61 = .ok (.aload_n 0, 1) := by decide +kernel
theorem d_Wo_prepare_62 : decode b_Wo_prepare 62 = .ok (.iconst 1, 1) := by decide +kernel
theorem d_Wo_prepare_63 : decode b_Wo_prepare 63 = .ok (.putfield 44, 3) := by decide +kernel
theorem d_Wo_prepare_66 : decode b_Wo_prepare 66 = .ok (.return_, 1) := by decide +kernel
theorem d_Wo_fillPacked_0 : decode b_Wo_fillPacked 0 = .ok (.aload_n 0, 1) := by decide +kernel
theorem d_Wo_fillPacked_1 : decode b_Wo_fillPacked 1 = .ok (.aload_n 0, 1) := by decide +kernel
theorem d_Wo_fillPacked_2 : decode b_Wo_fillPacked 2 = .ok (.getfield 34, 3) := by decide +kernel
theorem d_Wo_fillPacked_5 : decode b_Wo_fillPacked 5 = .ok (.aload_n 0, 1) := by decide +kernel
theorem d_Wo_fillPacked_6 : decode b_Wo_fillPacked 6 = .ok (.getfield 15, 3) := by decide +kernel
theorem d_Wo_fillPacked_9 : decode b_Wo_fillPacked 9 = .ok (.invokestatic 121, 3) := by decide +kernel
theorem d_Wo_fillPacked_12 : decode b_Wo_fillPacked 12 = .ok (.putfield 34, 3) := by decide +kernel
theorem d_Wo_fillPacked_15 : decode b_Wo_fillPacked 15 = .ok (.aload_n 0, 1) := by decide +kernel
theorem d_Wo_fillPacked_16 : decode b_Wo_fillPacked 16 = .ok (.aload_n 0, 1) := by decide +kernel
theorem d_Wo_fillPacked_17 : decode b_Wo_fillPacked 17 = .ok (.getfield 37, 3) := by decide +kernel
theorem d_Wo_fillPacked_20 : decode b_Wo_fillPacked 20 = .ok (.aload_n 0, 1) := by decide +kernel
theorem d_Wo_fillPacked_21 : decode b_Wo_fillPacked 21 = .ok (.getfield 15, 3) := by decide +kernel
theorem d_Wo_fillPacked_24 : decode b_Wo_fillPacked 24 = .ok (.invokestatic 121, 3) := by decide +kernel
theorem d_Wo_fillPacked_27 : decode b_Wo_fillPacked 27 = .ok (.putfield 37, 3) := by decide +kernel
theorem d_Wo_fillPacked_30 : decode b_Wo_fillPacked 30 = .ok (.iconst 0, 1) := by decide +kernel
theorem d_Wo_fillPacked_31 : decode b_Wo_fillPacked 31 = .ok (.istore_n 1, 1) := by decide +kernel
theorem d_Wo_fillPacked_32 : decode b_Wo_fillPacked 32 = .ok (.iload_n 1, 1) := by decide +kernel
theorem d_Wo_fillPacked_33 : decode b_Wo_fillPacked 33 = .ok (.aload_n 0, 1) := by decide +kernel
theorem d_Wo_fillPacked_34 : decode b_Wo_fillPacked 34 = .ok (.getfield 15, 3) := by decide +kernel
theorem d_Wo_fillPacked_37 : decode b_Wo_fillPacked 37 = .ok (.if_icmp .ge 20, 3) := by decide +kernel
theorem d_Wo_fillPacked_40 : decode b_Wo_fillPacked 40 = .ok (.aload_n 0, 1) := by decide +kernel
theorem d_Wo_fillPacked_41 : decode b_Wo_fillPacked 41 = .ok (.getfield 34, 3) := by decide +kernel
theorem d_Wo_fillPacked_44 : decode b_Wo_fillPacked 44 = .ok (.iload_n 1, 1) := by decide +kernel
theorem d_Wo_fillPacked_45 : decode b_Wo_fillPacked 45 = .ok (.aload_n 0, 1) := by decide +kernel
theorem d_Wo_fillPacked_46 : decode b_Wo_fillPacked 46 = .ok (.iload_n 1, 1) := by decide +kernel
theorem d_Wo_fillPacked_47 : decode b_Wo_fillPacked 47 = .ok (.invokevirtual 125, 3) := by decide +kernel
theorem d_Wo_fillPacked_50 : decode b_Wo_fillPacked 50 = .ok (.iastore, 1) := by decide +kernel
theorem d_Wo_fillPacked_51 : decode b_Wo_fillPacked 51 = .ok (.iinc 1 1, 3) := by decide +kernel
theorem d_Wo_fillPacked_54 : decode b_Wo_fillPacked 54 = .ok (.goto (-22), 3) := by decide +kernel
theorem d_Wo_fillPacked_57 : decode b_Wo_fillPacked 57 = .ok (.aload_n 0, 1) := by decide +kernel
theorem d_Wo_fillPacked_58 : decode b_Wo_fillPacked 58 = .ok (.iconst 1, 1) := by decide +kernel
theorem d_Wo_fillPacked_59 : decode b_Wo_fillPacked 59 = .ok (.putfield 40, 3) := by decide +kernel
theorem d_Wo_fillPacked_62 : decode b_Wo_fillPacked 62 = .ok (.return_, 1) := by decide +kernel
theorem d_Wo_linkBack_0 : decode b_Wo_linkBack 0 = .ok (.aload_n 0, 1) := by decide +kernel
theorem d_Wo_linkBack_1 : decode b_Wo_linkBack 1 = .ok (.getfield 37, 3) := by decide +kernel
theorem d_Wo_linkBack_4 : decode b_Wo_linkBack 4 = .ok (.iconst 0, 1) := by decide +kernel
theorem d_Wo_linkBack_5 : decode b_Wo_linkBack 5 = .ok (.aload_n 0, 1) := by decide +kernel
theorem d_Wo_linkBack_6 : decode b_Wo_linkBack 6 = .ok (.getfield 15, 3) := by decide +kernel
theorem d_Wo_linkBack_9 : decode b_Wo_linkBack 9 = .ok (.iconst (-1), 1) := by decide +kernel
theorem d_Wo_linkBack_10 : decode b_Wo_linkBack 10 = .ok (.invokestatic 128, 3) := by decide +kernel
theorem d_Wo_linkBack_13 : decode b_Wo_linkBack 13 = .ok (.iconst 0, 1) := by decide +kernel
theorem d_Wo_linkBack_14 : decode b_Wo_linkBack 14 = .ok (.istore_n 1, 1) := by decide +kernel
theorem d_Wo_linkBack_15 : decode b_Wo_linkBack 15 = .ok (.iload_n 1, 1) := by decide +kernel
theorem d_Wo_linkBack_16 : decode b_Wo_linkBack 16 = .ok (.aload_n 0, 1) := by decide +kernel
theorem d_Wo_linkBack_17 : decode b_Wo_linkBack 17 = .ok (.getfield 18, 3) := by decide +kernel
theorem d_Wo_linkBack_20 : decode b_Wo_linkBack 20 = .ok (.if_icmp .ge 51, 3) := by decide +kernel
theorem d_Wo_linkBack_23 : decode b_Wo_linkBack 23 = .ok (.iconst 0, 1) := by decide +kernel
theorem d_Wo_linkBack_24 : decode b_Wo_linkBack 24 = .ok (.istore_n 2, 1) := by decide +kernel
theorem d_Wo_linkBack_25 : decode b_Wo_linkBack 25 = .ok (.iload_n 2, 1) := by decide +kernel
theorem d_Wo_linkBack_26 : decode b_Wo_linkBack 26 = .ok (.aload_n 0, 1) := by decide +kernel
theorem d_Wo_linkBack_27 : decode b_Wo_linkBack 27 = .ok (.getfield 30, 3) := by decide +kernel
theorem d_Wo_linkBack_30 : decode b_Wo_linkBack 30 = .ok (.iload_n 1, 1) := by decide +kernel
theorem d_Wo_linkBack_31 : decode b_Wo_linkBack 31 = .ok (.aaload, 1) := by decide +kernel
theorem d_Wo_linkBack_32 : decode b_Wo_linkBack 32 = .ok (.getfield 55, 3) := by decide +kernel
theorem d_Wo_linkBack_35 : decode b_Wo_linkBack 35 = .ok (.if_icmp .ge 30, 3) := by decide +kernel
theorem d_Wo_linkBack_38 : decode b_Wo_linkBack 38 = .ok (.aload_n 0, 1) := by decide +kernel
theorem d_Wo_linkBack_39 : decode b_Wo_linkBack 39 = .ok (.aload_n 0, 1) := by decide +kernel
theorem d_Wo_linkBack_40 : decode b_Wo_linkBack 40 = .ok (.getfield 30, 3) := by decide +kernel
theorem d_Wo_linkBack_43 : decode b_Wo_linkBack 43 = .ok (.iload_n 1, 1) := by decide +kernel
theorem d_Wo_linkBack_44 : decode b_Wo_linkBack 44 = .ok (.aaload, 1) := by decide +kernel
theorem d_Wo_linkBack_45 : decode b_Wo_linkBack 45 = .ok (.getfield 90, 3) := by decide +kernel
theorem d_Wo_linkBack_48 : decode b_Wo_linkBack 48 = .ok (.iload_n 2, 1) := by decide +kernel
theorem d_Wo_linkBack_49 : decode b_Wo_linkBack 49 = .ok (.aaload, 1) := by decide +kernel
theorem d_Wo_linkBack_50 : decode b_Wo_linkBack 50 = .ok (.iload_n 1, 1) := by decide +kernel
theorem d_Wo_linkBack_51 : decode b_Wo_linkBack 51 = .ok (.iload_n 2, 1) := by decide +kernel
theorem d_Wo_linkBack_52 : decode b_Wo_linkBack 52 = .ok (.iconst 0, 1) := by decide +kernel
theorem d_Wo_linkBack_53 : decode b_Wo_linkBack 53 = .ok (.invokestatic 134, 3) := by decide +kernel
theorem d_Wo_linkBack_56 : decode b_Wo_linkBack 56 = .ok (.invokevirtual 138, 3) := by decide +kernel
theorem d_Wo_linkBack_59 : decode b_Wo_linkBack 59 = .ok (.iinc 2 1, 3) := by decide +kernel
theorem d_Wo_linkBack_62 : decode b_Wo_linkBack 62 = .ok (.goto (-37), 3) := by decide +kernel
theorem d_Wo_linkBack_65 : decode b_Wo_linkBack 65 = .ok (.iinc 1 1, 3) := by decide +kernel
theorem d_Wo_linkBack_68 : decode b_Wo_linkBack 68 = .ok (.goto (-53), 3) := by decide +kernel
theorem d_Wo_linkBack_71 : decode b_Wo_linkBack 71 = .ok (.return_, 1) := by decide +kernel
theorem d_Wo_linkOutcome_0 : decode b_Wo_linkOutcome 0 = .ok (.iconst 0, 1) := by decide +kernel
theorem d_Wo_linkOutcome_1 : decode b_Wo_linkOutcome 1 = .ok (.istore_n 3, 1) := by decide +kernel
theorem d_Wo_linkOutcome_2 : decode b_Wo_linkOutcome 2 = .ok (.iload_n 3, 1) := by decide +kernel
theorem d_Wo_linkOutcome_3 : decode b_Wo_linkOutcome 3 = .ok (.aload_n 0, 1) := by decide +kernel
theorem d_Wo_linkOutcome_4 : decode b_Wo_linkOutcome 4 = .ok (.getfield 15, 3) := by decide +kernel
theorem d_Wo_linkOutcome_7 : decode b_Wo_linkOutcome 7 = .ok (.if_icmp .ge 46, 3) := by decide +kernel
theorem d_Wo_linkOutcome_10 : decode b_Wo_linkOutcome 10 = .ok (.aload_n 1, 1) := by decide +kernel
theorem d_Wo_linkOutcome_11 : decode b_Wo_linkOutcome 11 = .ok (.getfield 97, 3) := by decide +kernel
theorem d_Wo_linkOutcome_14 : decode b_Wo_linkOutcome 14 = .ok (.iload_n 3, 1) := by decide +kernel
theorem d_Wo_linkOutcome_15 : decode b_Wo_linkOutcome 15 = .ok (.iaload, 1) := by decide +kernel
theorem d_Wo_linkOutcome_16 : decode b_Wo_linkOutcome 16 = .ok (.istore 4, 2) := by decide +kernel
theorem d_Wo_linkOutcome_18 : decode b_Wo_linkOutcome 18 = .ok (.iload 4, 2) := by decide +kernel
theorem d_Wo_linkOutcome_20 : decode b_Wo_linkOutcome 20 = .ok (.iconst (-1), 1) := by decide +kernel
theorem d_Wo_linkOutcome_21 : decode b_Wo_linkOutcome 21 = .ok (.if_icmp .eq 26, 3) := by decide +kernel
theorem d_Wo_linkOutcome_24 : decode b_Wo_linkOutcome 24 = .ok (.aload_n 1, 1) := by decide +kernel
theorem d_Wo_linkOutcome_25 : decode b_Wo_linkOutcome 25 = .ok (.getfield 105, 3) := by decide +kernel
theorem d_Wo_linkOutcome_28 : decode b_Wo_linkOutcome 28 = .ok (.iload_n 3, 1) := by decide +kernel
theorem d_Wo_linkOutcome_29 : decode b_Wo_linkOutcome 29 = .ok (.aload_n 0, 1) := by decide +kernel
theorem d_Wo_linkOutcome_30 : decode b_Wo_linkOutcome 30 = .ok (.getfield 37, 3) := by decide +kernel
theorem d_Wo_linkOutcome_33 : decode b_Wo_linkOutcome 33 = .ok (.iload 4, 2) := by decide +kernel
theorem d_Wo_linkOutcome_35 : decode b_Wo_linkOutcome 35 = .ok (.iaload, 1) := by decide +kernel
theorem d_Wo_linkOutcome_36 : decode b_Wo_linkOutcome 36 = .ok (.iastore, 1) := by decide +kernel
theorem d_Wo_linkOutcome_37 : decode b_Wo_linkOutcome 37 = .ok (.aload_n 0, 1) := by decide +kernel
theorem d_Wo_linkOutcome_38 : decode b_Wo_linkOutcome 38 = .ok (.getfield 37, 3) := by decide +kernel
theorem d_Wo_linkOutcome_41 : decode b_Wo_linkOutcome 41 = .ok (.iload 4, 2) := by decide +kernel
theorem d_Wo_linkOutcome_43 : decode b_Wo_linkOutcome 43 = .ok (.iload_n 2, 1) := by decide +kernel
theorem d_Wo_linkOutcome_44 : decode b_Wo_linkOutcome 44 = .ok (.iload_n 3, 1) := by decide +kernel
theorem d_Wo_linkOutcome_45 : decode b_Wo_linkOutcome 45 = .ok (.iadd, 1) := by decide +kernel
theorem d_Wo_linkOutcome_46 : decode b_Wo_linkOutcome 46 = .ok (.iastore, 1) := by decide +kernel
theorem d_Wo_linkOutcome_47 : decode b_Wo_linkOutcome 47 = .ok (.iinc 3 1, 3) := by decide +kernel
theorem d_Wo_linkOutcome_50 : decode b_Wo_linkOutcome 50 = .ok (.goto (-48), 3) := by decide +kernel
theorem d_Wo_linkOutcome_53 : decode b_Wo_linkOutcome 53 = .ok (.return_, 1) := by decide +kernel
theorem d_Wo_nextInto_0 : decode b_Wo_nextInto 0 = .ok (.aload_n 0, 1) := by decide +kernel
theorem d_Wo_nextInto_1 : decode b_Wo_nextInto 1 = .ok (.getfield 30, 3) := by decide +kernel
theorem d_Wo_nextInto_4 : decode b_Wo_nextInto 4 = .ok (.iload_n 1, 1) := by decide +kernel
theorem d_Wo_nextInto_5 : decode b_Wo_nextInto 5 = .ok (.bipush 14, 2) := by decide +kernel
theorem d_Wo_nextInto_7 : decode b_Wo_nextInto 7 = .ok (.ishr, 1) := by decide +kernel
theorem d_Wo_nextInto_8 : decode b_Wo_nextInto 8 = .ok (.aaload, 1) := by decide +kernel
theorem d_Wo_nextInto_9 : decode b_Wo_nextInto 9 = .ok (.getfield 90, 3) := by decide +kernel
theorem d_Wo_nextInto_12 : decode b_Wo_nextInto 12 = .ok (.iload_n 1, 1) := by decide +kernel
theorem d_Wo_nextInto_13 : decode b_Wo_nextInto 13 = .ok (.bipush 12, 2) := by decide +kernel
theorem d_Wo_nextInto_15 : decode b_Wo_nextInto 15 = .ok (.ishr, 1) := by decide +kernel
theorem d_Wo_nextInto_16 : decode b_Wo_nextInto 16 = .ok (.iconst 3, 1) := by decide +kernel
theorem d_Wo_nextInto_17 : decode b_Wo_nextInto 17 = .ok (.iand, 1) := by decide +kernel
theorem d_Wo_nextInto_18 : decode b_Wo_nextInto 18 = .ok (.aaload, 1) := by decide +kernel
theorem d_Wo_nextInto_19 : decode b_Wo_nextInto 19 = .ok (.getfield 105, 3) := by decide +kernel
theorem d_Wo_nextInto_22 : decode b_Wo_nextInto 22 = .ok (.iload_n 1, 1) := by decide +kernel
theorem d_Wo_nextInto_23 : decode b_Wo_nextInto 23 = .ok (.sipush 4095, 3) := by decide +kernel
theorem d_Wo_nextInto_26 : decode b_Wo_nextInto 26 = .ok (.iand, 1) := by decide +kernel
theorem d_Wo_nextInto_27 : decode b_Wo_nextInto 27 = .ok (.iaload, 1) := by decide +kernel
theorem d_Wo_nextInto_28 : decode b_Wo_nextInto 28 = .ok (.ireturn, 1) := by decide +kernel
theorem d_Wo_behind_0 : decode b_Wo_behind 0 = .ok (.aload_n 0, 1) := by decide +kernel
theorem d_Wo_behind_1 : decode b_Wo_behind 1 = .ok (.getfield 30, 3) := by decide +kernel
theorem d_Wo_behind_4 : decode b_Wo_behind 4 = .ok (.iload_n 1, 1) := by decide +kernel
theorem d_Wo_behind_5 : decode b_Wo_behind 5 = .ok (.invokestatic 86, 3) := by decide +kernel
theorem d_Wo_behind_8 : decode b_Wo_behind 8 = .ok (.aaload, 1) := by decide +kernel
theorem d_Wo_behind_9 : decode b_Wo_behind 9 = .ok (.getfield 90, 3) := by decide +kernel
theorem d_Wo_behind_12 : decode b_Wo_behind 12 = .ok (.iload_n 1, 1) := by decide +kernel
theorem d_Wo_behind_13 : decode b_Wo_behind 13 = .ok (.invokestatic 94, 3) := by decide +kernel
theorem d_Wo_behind_16 : decode b_Wo_behind 16 = .ok (.aaload, 1) := by decide +kernel
theorem d_Wo_behind_17 : decode b_Wo_behind 17 = .ok (.getfield 97, 3) := by decide +kernel
theorem d_Wo_behind_20 : decode b_Wo_behind 20 = .ok (.iload_n 1, 1) := by decide +kernel
theorem d_Wo_behind_21 : decode b_Wo_behind 21 = .ok (.invokestatic 102, 3) := by decide +kernel
theorem d_Wo_behind_24 : decode b_Wo_behind 24 = .ok (.iaload, 1) := by decide +kernel
theorem d_Wo_behind_25 : decode b_Wo_behind 25 = .ok (.ireturn, 1) := by decide +kernel
set_option maxRecDepth 100000 in
set_option maxHeartbeats 4000000 in
theorem S_Wo_init_0 {G : Gc} {M : Mc} {Q : State → Prop} {K : Option Value → Hp → Prop} (hG : gok G) (hM : mok G M r_Wo_init Q K) (v0 : Nat) (h : Hp) (F : kT h v0 = 2 ∧ (∀ h1 : Hp, h1 = wI h v0 0 0 → (kT h1 v0 = 2 ∧ (∀ h2 : Hp, h2 = wI h1 v0 1 1 → (kT h2 v0 = 2 ∧ (∀ h3 : Hp, h3 = wI h2 v0 2 0 → (kX h3 + 1 ≤ gB G + capC ∧ kS h3 + 8 ≤ capS ∧ (∀ h4 : Hp, h4 = wA h3 50 8 8 → (kT h4 v0 = 2 ∧ (∀ h5 : Hp, h5 = wR h4 v0 3 (some (kX h3)) → (kX h5 + 1 ≤ gB G + capC ∧ kS h5 + 8 ≤ capS ∧ (∀ h6 : Hp, h6 = wA h5 50 8 8 → (kT h6 v0 = 2 ∧ (∀ h7 : Hp, h7 = wR h6 v0 4 (some (kX h5)) → (kX h7 + 1 ≤ gB G + capC ∧ kS h7 + 12 ≤ capS ∧ (∀ h8 : Hp, h8 = wA h7 53 12 12 → (kT h8 v0 = 2 ∧ (∀ h9 : Hp, h9 = wR h8 v0 5 (some (kX h7)) → (kX h9 + 1 ≤ gB G + capC ∧ kS h9 + 0 ≤ capS ∧ (∀ h10 : Hp, h10 = wA h9 50 0 0 → (kT h10 v0 = 2 ∧ (∀ h11 : Hp, h11 = wR h10 v0 6 (some (kX h9)) → (kX h11 + 1 ≤ gB G + capC ∧ kS h11 + 0 ≤ capS ∧ (∀ h12 : Hp, h12 = wA h11 50 0 0 → (kT h12 v0 = 2 ∧ (∀ h13 : Hp, h13 = wR h12 v0 7 (some (kX h11)) → (kT h13 v0 = 2 ∧ (∀ h14 : Hp, h14 = wI h13 v0 8 0 → (kT h14 v0 = 2 ∧ (∀ h15 : Hp, h15 = wI h14 v0 9 0 → X G M Q 70 [(0, .ref v0), (1, .int 0)] [] h15)))))))))))))))))))))))))))))) : X G M Q 0 [(0, .ref v0)] [] h := by
  refine x_aload_n hM d_Wo_init_0 rfl 0 rfl ?_
  refine x_objInit hG hM rfl w_29 w_22 w_objcode d_Wo_init_1 (Nat.le_of_ble_eq_true rfl) (Nat.le_of_ble_eq_true rfl) (Nat.le_of_ble_eq_true rfl) ?_
  refine x_aload_n hM d_Wo_init_4 rfl 0 rfl ?_
  refine x_iconst (v := 0) hM d_Wo_init_5 (by decide) ?_
  obtain ⟨c35, F⟩ := F
  replace F := F _ rfl
  refine x_puti hG hM ck_Wo 0 (Nat.le_of_ble_eq_true rfl) rfl rfl w_123 rfl d_Wo_init_6 (Or.inl rfl) c35 ?_
  refine x_aload_n hM d_Wo_init_9 rfl 0 rfl ?_
  refine x_iconst (v := 1) hM d_Wo_init_10 (by decide) ?_
  obtain ⟨c34, F⟩ := F
  replace F := F _ rfl
  refine x_puti hG hM ck_Wo 1 (Nat.le_of_ble_eq_true rfl) rfl rfl w_125 rfl d_Wo_init_11 (Or.inl rfl) c34 ?_
  refine x_aload_n hM d_Wo_init_14 rfl 0 rfl ?_
  refine x_iconst (v := 0) hM d_Wo_init_15 (by decide) ?_
  obtain ⟨c33, F⟩ := F
  replace F := F _ rfl
  refine x_puti hG hM ck_Wo 2 (Nat.le_of_ble_eq_true rfl) rfl rfl w_133 rfl d_Wo_init_16 (Or.inl rfl) c33 ?_
  refine x_aload_n hM d_Wo_init_19 rfl 0 rfl ?_
  refine x_bipush (v := 8) hM d_Wo_init_20 (by decide) ?_
  obtain ⟨c31, F⟩ := F
  obtain ⟨c32, F⟩ := F
  replace F := F _ rfl
  refine x_newI hG hM (N := 8) w_63 d_Wo_init_22 (by decide) rfl c31 c32 ?_
  obtain ⟨c30, F⟩ := F
  replace F := F _ rfl
  refine x_putr hG hM ck_Wo 3 (Nat.le_of_ble_eq_true rfl) (Or.inr ⟨_, rfl⟩) rfl w_140 rfl d_Wo_init_24 (Or.inr ⟨rfl, rfl, rfl⟩) c30 ?_
  refine x_aload_n hM d_Wo_init_27 rfl 0 rfl ?_
  refine x_bipush (v := 8) hM d_Wo_init_28 (by decide) ?_
  obtain ⟨c28, F⟩ := F
  obtain ⟨c29, F⟩ := F
  replace F := F _ rfl
  refine x_newI hG hM (N := 8) w_63 d_Wo_init_30 (by decide) rfl c28 c29 ?_
  obtain ⟨c27, F⟩ := F
  replace F := F _ rfl
  refine x_putr hG hM ck_Wo 4 (Nat.le_of_ble_eq_true rfl) (Or.inr ⟨_, rfl⟩) rfl w_142 rfl d_Wo_init_32 (Or.inr ⟨rfl, rfl, rfl⟩) c27 ?_
  refine x_aload_n hM d_Wo_init_35 rfl 0 rfl ?_
  refine x_bipush (v := 12) hM d_Wo_init_36 (by decide) ?_
  obtain ⟨c25, F⟩ := F
  obtain ⟨c26, F⟩ := F
  replace F := F _ rfl
  refine x_anew hG hM 53 (N := 12) rfl w_30 w_31 rfl (Nat.le_of_ble_eq_true rfl) d_Wo_init_38 (by decide) rfl c25 c26 ?_
  obtain ⟨c24, F⟩ := F
  replace F := F _ rfl
  refine x_putr hG hM ck_Wo 5 (Nat.le_of_ble_eq_true rfl) (Or.inr ⟨_, rfl⟩) rfl w_143 rfl d_Wo_init_41 (Or.inr ⟨rfl, rfl, rfl⟩) c24 ?_
  refine x_aload_n hM d_Wo_init_44 rfl 0 rfl ?_
  refine x_iconst (v := 0) hM d_Wo_init_45 (by decide) ?_
  obtain ⟨c22, F⟩ := F
  obtain ⟨c23, F⟩ := F
  replace F := F _ rfl
  refine x_newI hG hM (N := 0) w_63 d_Wo_init_46 (by decide) rfl c22 c23 ?_
  obtain ⟨c21, F⟩ := F
  replace F := F _ rfl
  refine x_putr hG hM ck_Wo 6 (Nat.le_of_ble_eq_true rfl) (Or.inr ⟨_, rfl⟩) rfl w_150 rfl d_Wo_init_48 (Or.inl rfl) c21 ?_
  refine x_aload_n hM d_Wo_init_51 rfl 0 rfl ?_
  refine x_iconst (v := 0) hM d_Wo_init_52 (by decide) ?_
  obtain ⟨c19, F⟩ := F
  obtain ⟨c20, F⟩ := F
  replace F := F _ rfl
  refine x_newI hG hM (N := 0) w_63 d_Wo_init_53 (by decide) rfl c19 c20 ?_
  obtain ⟨c18, F⟩ := F
  replace F := F _ rfl
  refine x_putr hG hM ck_Wo 7 (Nat.le_of_ble_eq_true rfl) (Or.inr ⟨_, rfl⟩) rfl w_156 rfl d_Wo_init_55 (Or.inl rfl) c18 ?_
  refine x_aload_n hM d_Wo_init_58 rfl 0 rfl ?_
  refine x_iconst (v := 0) hM d_Wo_init_59 (by decide) ?_
  obtain ⟨c17, F⟩ := F
  replace F := F _ rfl
  refine x_putz hG hM ck_Wo 8 (Nat.le_of_ble_eq_true rfl) rfl rfl w_159 rfl d_Wo_init_60 (Or.inl rfl) c17 (Or.inl rfl) ?_
  refine x_aload_n hM d_Wo_init_63 rfl 0 rfl ?_
  refine x_iconst (v := 0) hM d_Wo_init_64 (by decide) ?_
  obtain ⟨c16, F⟩ := F
  replace F := F _ rfl
  refine x_putz hG hM ck_Wo 9 (Nat.le_of_ble_eq_true rfl) rfl rfl w_160 rfl d_Wo_init_65 (Or.inl rfl) c16 (Or.inl rfl) ?_
  refine x_iconst (v := 0) hM d_Wo_init_68 (by decide) ?_
  refine x_istore_n (lv2 := [(1, .int 0), (0, .ref v0)]) hM d_Wo_init_69 rfl (Nat.le_of_ble_eq_true rfl) rfl ?_
  refine x_sub [1, 0] rfl ?_
  exact F
set_option maxRecDepth 100000 in
set_option maxHeartbeats 4000000 in
theorem S_Wo_init_70 {G : Gc} {M : Mc} {Q : State → Prop} {K : Option Value → Hp → Prop} (hG : gok G) (hM : mok G M r_Wo_init Q K) (v0 : Nat) (v1 : Int32) (h : Hp) (F : (12 ≤ v1 → K none h) ∧ (¬ 12 ≤ v1 → (kT h v0 = 2 ∧ kR h v0 5 = some (rf h v0 5) ∧ (kX h + 1 ≤ gB G + capC ∧ kS h + 4 ≤ capS ∧ (∀ h1 : Hp, h1 = wA h 3 0 4 → (sem G r_Ac_init [.ref (kX h)] h1 (fun u3 h2 => u3 = none ∧ (kT h2 (rf h v0 5) = 53 ∧ kT h2 (kX h) = 3 ∧ vp_in v1 (kN h2 (rf h v0 5)) ∧ (∀ h4 : Hp, h4 = wR h2 (rf h v0 5) (Int32.toNatClampNeg v1) (some (kX h)) → X G M Q 70 [(0, .ref v0), (1, .int (v1 + 1))] [] h4))))))))) : X G M Q 70 [(0, .ref v0), (1, .int v1)] [] h := by
  refine x_iload_n hM d_Wo_init_70 rfl 1 rfl ?_
  refine x_bipush (v := 12) hM d_Wo_init_71 (by decide) ?_
  refine x_icmp_ge (tgt := 95) hM d_Wo_init_73 (by decide) (fun q12 => ?_) (fun q12 => ?_)
  · replace F := F.1 q12
    exact x_return hM d_Wo_init_95 rfl F
  · replace F := F.2 q12
    refine x_aload_n hM d_Wo_init_76 rfl 0 rfl ?_
    obtain ⟨c10, F⟩ := F
    obtain ⟨c11, F⟩ := F
    refine x_getr hG hM ck_Wo 5 (Nat.le_of_ble_eq_true rfl) rfl rfl w_143 rfl d_Wo_init_77 c10 c11 ?_
    refine x_iload_n hM d_Wo_init_80 rfl 1 rfl ?_
    obtain ⟨c8, F⟩ := F
    obtain ⟨c9, F⟩ := F
    replace F := F _ rfl
    refine x_new hG hM ck_Ac rfl w_30 w_32 w_3 dv_Ac d_Wo_init_81 c8 c9 ?_
    refine x_dup hM d_Wo_init_84 rfl ?_
    refine x_callI hG hM (r' := r_Ac_init) [] rfl yk_Ac_init rfl rfl ⟨Nat.le_of_ble_eq_true rfl, Nat.le_of_ble_eq_true rfl⟩ w_33 w_34 rfl rfl (Nat.le_of_ble_eq_true rfl) d_Wo_init_85 (sem_mono F ?_)
    intro u3 h2 F
    obtain ⟨rfl, F⟩ := F
    obtain ⟨c5, F⟩ := F
    obtain ⟨c6, F⟩ := F
    obtain ⟨c7, F⟩ := F
    replace F := F _ rfl
    refine x_aastore hG hM 53 2 rfl (Nat.le_of_ble_eq_true rfl) rfl (Nat.le_of_ble_eq_true rfl) d_Wo_init_88 c5 c6 c7 ?_
    refine x_iinc (v := (v1 + 1)) (lv2 := [(1, .int (v1 + 1)), (0, .ref v0)]) hM d_Wo_init_89 (j := 1) rfl rfl (Nat.le_of_ble_eq_true rfl) rfl ?_
    refine x_goto (tgt := 70) hM d_Wo_init_92 (by decide) ?_
    refine x_sub [1, 0] rfl ?_
    exact F
set_option maxRecDepth 100000 in
set_option maxHeartbeats 4000000 in
theorem S_Wo_forget_0 {G : Gc} {M : Mc} {Q : State → Prop} {K : Option Value → Hp → Prop} (hG : gok G) (hM : mok G M r_Wo_forget Q K) (v0 : Nat) (h : Hp) (F : kT h v0 = 2 ∧ (∀ h1 : Hp, h1 = wI h v0 0 0 → (kT h1 v0 = 2 ∧ (∀ h2 : Hp, h2 = wI h1 v0 1 1 → (kT h2 v0 = 2 ∧ (∀ h3 : Hp, h3 = wI h2 v0 2 0 → (kT h3 v0 = 2 ∧ (∀ h4 : Hp, h4 = wI h3 v0 8 0 → (kT h4 v0 = 2 ∧ (∀ h5 : Hp, h5 = wI h4 v0 9 0 → K none h5)))))))))) : X G M Q 0 [(0, .ref v0)] [] h := by
  refine x_aload_n hM d_Wo_forget_0 rfl 0 rfl ?_
  refine x_iconst (v := 0) hM d_Wo_forget_1 (by decide) ?_
  obtain ⟨c10, F⟩ := F
  replace F := F _ rfl
  refine x_puti hG hM ck_Wo 0 (Nat.le_of_ble_eq_true rfl) rfl rfl w_123 rfl d_Wo_forget_2 (Or.inl rfl) c10 ?_
  refine x_aload_n hM d_Wo_forget_5 rfl 0 rfl ?_
  refine x_iconst (v := 1) hM d_Wo_forget_6 (by decide) ?_
  obtain ⟨c9, F⟩ := F
  replace F := F _ rfl
  refine x_puti hG hM ck_Wo 1 (Nat.le_of_ble_eq_true rfl) rfl rfl w_125 rfl d_Wo_forget_7 (Or.inl rfl) c9 ?_
  refine x_aload_n hM d_Wo_forget_10 rfl 0 rfl ?_
  refine x_iconst (v := 0) hM d_Wo_forget_11 (by decide) ?_
  obtain ⟨c8, F⟩ := F
  replace F := F _ rfl
  refine x_puti hG hM ck_Wo 2 (Nat.le_of_ble_eq_true rfl) rfl rfl w_133 rfl d_Wo_forget_12 (Or.inl rfl) c8 ?_
  refine x_aload_n hM d_Wo_forget_15 rfl 0 rfl ?_
  refine x_iconst (v := 0) hM d_Wo_forget_16 (by decide) ?_
  obtain ⟨c7, F⟩ := F
  replace F := F _ rfl
  refine x_putz hG hM ck_Wo 8 (Nat.le_of_ble_eq_true rfl) rfl rfl w_159 rfl d_Wo_forget_17 (Or.inl rfl) c7 (Or.inl rfl) ?_
  refine x_aload_n hM d_Wo_forget_20 rfl 0 rfl ?_
  refine x_iconst (v := 0) hM d_Wo_forget_21 (by decide) ?_
  obtain ⟨c6, F⟩ := F
  replace F := F _ rfl
  refine x_putz hG hM ck_Wo 9 (Nat.le_of_ble_eq_true rfl) rfl rfl w_160 rfl d_Wo_forget_22 (Or.inl rfl) c6 (Or.inl rfl) ?_
  exact x_return hM d_Wo_forget_25 rfl F
set_option maxRecDepth 100000 in
set_option maxHeartbeats 4000000 in
theorem S_Wo_addThing_0 {G : Gc} {M : Mc} {Q : State → Prop} {K : Option Value → Hp → Prop} (hG : gok G) (hM : mok G M r_Wo_addThing Q K) (v0 : Nat) (v1 : Int32) (h : Hp) (F : kT h v0 = 2 ∧ ((8 ≤ (kI h v0 0) → K (some (.int (-3))) h) ∧ (¬ 8 ≤ (kI h v0 0) → (kT h v0 = 2 ∧ ((((kI h v0 1) * v1) ≤ 4096 → (kT h v0 = 2 ∧ kR h v0 3 = some (rf h v0 3) ∧ (kT h v0 = 2 ∧ (kT h (rf h v0 3) = 50 ∧ vp_in (kI h v0 0) (kN h (rf h v0 3)) ∧ (∀ h1 : Hp, h1 = wI h (rf h v0 3) (Int32.toNatClampNeg (kI h v0 0)) v1 → (kT h1 v0 = 2 ∧ kR h1 v0 4 = some (rf h1 v0 4) ∧ (kT h1 v0 = 2 ∧ (kT h1 v0 = 2 ∧ (kT h1 (rf h1 v0 4) = 50 ∧ vp_in (kI h1 v0 0) (kN h1 (rf h1 v0 4)) ∧ (∀ h2 : Hp, h2 = wI h1 (rf h1 v0 4) (Int32.toNatClampNeg (kI h1 v0 0)) (kI h1 v0 1) → (kT h2 v0 = 2 ∧ (kT h2 v0 = 2 ∧ (∀ h3 : Hp, h3 = wI h2 v0 1 ((kI h2 v0 1) * v1) → (kT h3 v0 = 2 ∧ (kT h3 v0 = 2 ∧ (∀ h4 : Hp, h4 = wI h3 v0 0 ((kI h3 v0 0) + 1) → (kT h4 v0 = 2 ∧ (∀ h5 : Hp, h5 = wI h4 v0 8 0 → (kT h5 v0 = 2 ∧ (∀ h6 : Hp, h6 = wI h5 v0 9 0 → (kT h6 v0 = 2 ∧ K (some (.int ((kI h6 v0 0) - 1))) h6))))))))))))))))))))) ∧ (¬ ((kI h v0 1) * v1) ≤ 4096 → K (some (.int (-3))) h)))))) : X G M Q 0 [(0, .ref v0), (1, .int v1)] [] h := by
  refine x_aload_n hM d_Wo_addThing_0 rfl 0 rfl ?_
  obtain ⟨c28, F⟩ := F
  refine x_geti hG hM ck_Wo 0 (Nat.le_of_ble_eq_true rfl) rfl rfl w_123 rfl d_Wo_addThing_1 c28 ?_
  refine x_bipush (v := 8) hM d_Wo_addThing_4 (by decide) ?_
  refine x_icmp_ge (tgt := 21) hM d_Wo_addThing_6 (by decide) (fun q27 => ?_) (fun q27 => ?_)
  · replace F := F.1 q27
    refine x_bipush (v := (-3)) hM d_Wo_addThing_21 (by decide) ?_
    exact x_ireturn hM d_Wo_addThing_23 rfl F
  · replace F := F.2 q27
    refine x_aload_n hM d_Wo_addThing_9 rfl 0 rfl ?_
    obtain ⟨c26, F⟩ := F
    refine x_geti hG hM ck_Wo 1 (Nat.le_of_ble_eq_true rfl) rfl rfl w_125 rfl d_Wo_addThing_10 c26 ?_
    refine x_iload_n hM d_Wo_addThing_13 rfl 1 rfl ?_
    refine x_imul hM d_Wo_addThing_14 ?_
    refine x_sipush (v := 4096) hM d_Wo_addThing_15 (by decide) ?_
    refine x_icmp_le (tgt := 24) hM d_Wo_addThing_18 (by decide) (fun q25 => ?_) (fun q25 => ?_)
    · replace F := F.1 q25
      refine x_aload_n hM d_Wo_addThing_24 rfl 0 rfl ?_
      obtain ⟨c23, F⟩ := F
      obtain ⟨c24, F⟩ := F
      refine x_getr hG hM ck_Wo 3 (Nat.le_of_ble_eq_true rfl) rfl rfl w_140 rfl d_Wo_addThing_25 c23 c24 ?_
      refine x_aload_n hM d_Wo_addThing_28 rfl 0 rfl ?_
      obtain ⟨c22, F⟩ := F
      refine x_geti hG hM ck_Wo 0 (Nat.le_of_ble_eq_true rfl) rfl rfl w_123 rfl d_Wo_addThing_29 c22 ?_
      refine x_iload_n hM d_Wo_addThing_32 rfl 1 rfl ?_
      obtain ⟨c20, F⟩ := F
      obtain ⟨c21, F⟩ := F
      replace F := F _ rfl
      refine x_iastore hG hM d_Wo_addThing_33 c20 c21 ?_
      refine x_aload_n hM d_Wo_addThing_34 rfl 0 rfl ?_
      obtain ⟨c18, F⟩ := F
      obtain ⟨c19, F⟩ := F
      refine x_getr hG hM ck_Wo 4 (Nat.le_of_ble_eq_true rfl) rfl rfl w_142 rfl d_Wo_addThing_35 c18 c19 ?_
      refine x_aload_n hM d_Wo_addThing_38 rfl 0 rfl ?_
      obtain ⟨c17, F⟩ := F
      refine x_geti hG hM ck_Wo 0 (Nat.le_of_ble_eq_true rfl) rfl rfl w_123 rfl d_Wo_addThing_39 c17 ?_
      refine x_aload_n hM d_Wo_addThing_42 rfl 0 rfl ?_
      obtain ⟨c16, F⟩ := F
      refine x_geti hG hM ck_Wo 1 (Nat.le_of_ble_eq_true rfl) rfl rfl w_125 rfl d_Wo_addThing_43 c16 ?_
      obtain ⟨c14, F⟩ := F
      obtain ⟨c15, F⟩ := F
      replace F := F _ rfl
      refine x_iastore hG hM d_Wo_addThing_46 c14 c15 ?_
      refine x_aload_n hM d_Wo_addThing_47 rfl 0 rfl ?_
      refine x_dup hM d_Wo_addThing_48 rfl ?_
      obtain ⟨c13, F⟩ := F
      refine x_geti hG hM ck_Wo 1 (Nat.le_of_ble_eq_true rfl) rfl rfl w_125 rfl d_Wo_addThing_49 c13 ?_
      refine x_iload_n hM d_Wo_addThing_52 rfl 1 rfl ?_
      refine x_imul hM d_Wo_addThing_53 ?_
      obtain ⟨c12, F⟩ := F
      replace F := F _ rfl
      refine x_puti hG hM ck_Wo 1 (Nat.le_of_ble_eq_true rfl) rfl rfl w_125 rfl d_Wo_addThing_54 (Or.inl rfl) c12 ?_
      refine x_aload_n hM d_Wo_addThing_57 rfl 0 rfl ?_
      refine x_dup hM d_Wo_addThing_58 rfl ?_
      obtain ⟨c11, F⟩ := F
      refine x_geti hG hM ck_Wo 0 (Nat.le_of_ble_eq_true rfl) rfl rfl w_123 rfl d_Wo_addThing_59 c11 ?_
      refine x_iconst (v := 1) hM d_Wo_addThing_62 (by decide) ?_
      refine x_iadd hM d_Wo_addThing_63 ?_
      obtain ⟨c10, F⟩ := F
      replace F := F _ rfl
      refine x_puti hG hM ck_Wo 0 (Nat.le_of_ble_eq_true rfl) rfl rfl w_123 rfl d_Wo_addThing_64 (Or.inl rfl) c10 ?_
      refine x_aload_n hM d_Wo_addThing_67 rfl 0 rfl ?_
      refine x_iconst (v := 0) hM d_Wo_addThing_68 (by decide) ?_
      obtain ⟨c9, F⟩ := F
      replace F := F _ rfl
      refine x_putz hG hM ck_Wo 8 (Nat.le_of_ble_eq_true rfl) rfl rfl w_159 rfl d_Wo_addThing_69 (Or.inl rfl) c9 (Or.inl rfl) ?_
      refine x_aload_n hM d_Wo_addThing_72 rfl 0 rfl ?_
      refine x_iconst (v := 0) hM d_Wo_addThing_73 (by decide) ?_
      obtain ⟨c8, F⟩ := F
      replace F := F _ rfl
      refine x_putz hG hM ck_Wo 9 (Nat.le_of_ble_eq_true rfl) rfl rfl w_160 rfl d_Wo_addThing_74 (Or.inl rfl) c8 (Or.inl rfl) ?_
      refine x_aload_n hM d_Wo_addThing_77 rfl 0 rfl ?_
      obtain ⟨c7, F⟩ := F
      refine x_geti hG hM ck_Wo 0 (Nat.le_of_ble_eq_true rfl) rfl rfl w_123 rfl d_Wo_addThing_78 c7 ?_
      refine x_iconst (v := 1) hM d_Wo_addThing_81 (by decide) ?_
      refine x_isub hM d_Wo_addThing_82 ?_
      exact x_ireturn hM d_Wo_addThing_83 rfl F
    · replace F := F.2 q25
      refine x_bipush (v := (-3)) hM d_Wo_addThing_21 (by decide) ?_
      exact x_ireturn hM d_Wo_addThing_23 rfl F
set_option maxRecDepth 100000 in
set_option maxHeartbeats 4000000 in
theorem S_Wo_isState_0 {G : Gc} {M : Mc} {Q : State → Prop} {K : Option Value → Hp → Prop} (hG : gok G) (hM : mok G M r_Wo_isState Q K) (v0 : Nat) (v1 : Int32) (h : Hp) (F : (¬ v1 < 0 → kT h v0 = 2) ∧ (∀ z1 : Int32, z1 = (if v1 < 0 then 0 else (if (kI h v0 1) ≤ v1 then 0 else 1)) → (nb z1 ∧ K (some (.int z1)) h))) : X G M Q 0 [(0, .ref v0), (1, .int v1)] [] h := by
  refine x_iload_n hM d_Wo_isState_0 rfl 1 rfl ?_
  obtain ⟨S, F⟩ := F
  have JJ : ∀ (z1 : Int32) (ez1 : z1 = (if v1 < 0 then 0 else (if (kI h v0 1) ≤ v1 then 0 else 1))), X G M Q 17 [] [.int z1] h := by
    intro z1 ez1
    replace F := F _ ez1
    exact x_zreturn hM d_Wo_isState_17 rfl F.1 F.2
  refine x_if_lt (tgt := 16) hM d_Wo_isState_1 (by decide) (fun q2 => ?_) (fun q2 => ?_)
  · refine x_iconst (v := 0) hM d_Wo_isState_16 (by decide) ?_
    refine x_sub [] rfl ?_
    exact JJ _ (Eq.symm (if_pos q2))
  · replace S := S q2
    refine x_iload_n hM d_Wo_isState_4 rfl 1 rfl ?_
    refine x_aload_n hM d_Wo_isState_5 rfl 0 rfl ?_
    have c3 := S
    refine x_geti hG hM ck_Wo 1 (Nat.le_of_ble_eq_true rfl) rfl rfl w_125 rfl d_Wo_isState_6 c3 ?_
    refine x_icmp_ge (tgt := 16) hM d_Wo_isState_9 (by decide) (fun q4 => ?_) (fun q4 => ?_)
    · refine x_iconst (v := 0) hM d_Wo_isState_16 (by decide) ?_
      refine x_sub [] rfl ?_
      exact JJ _ (Eq.symm (Eq.trans (if_neg q2) (if_pos q4)))
    · refine x_iconst (v := 1) hM d_Wo_isState_12 (by decide) ?_
      refine x_goto (tgt := 17) hM d_Wo_isState_13 (by decide) ?_
      refine x_sub [] rfl ?_
      exact JJ _ (Eq.symm (Eq.trans (if_neg q2) (if_neg q4)))
set_option maxRecDepth 100000 in
set_option maxHeartbeats 4000000 in
theorem S_Wo_addAct_0 {G : Gc} {M : Mc} {Q : State → Prop} {K : Option Value → Hp → Prop} (hG : gok G) (hM : mok G M r_Wo_addAct Q K) (v0 : Nat) (h : Hp) (F : kT h v0 = 2 ∧ (((kI h v0 2) < 12 → (kT h v0 = 2 ∧ kR h v0 5 = some (rf h v0 5) ∧ (kT h v0 = 2 ∧ (kT h (rf h v0 5) = 53 ∧ vp_in (kI h v0 2) (kN h (rf h v0 5)) ∧ kR h (rf h v0 5) (Int32.toNatClampNeg (kI h v0 2)) = some (rf h (rf h v0 5) (Int32.toNatClampNeg (kI h v0 2))) ∧ (kT h (rf h (rf h v0 5) (Int32.toNatClampNeg (kI h v0 2))) = 3 ∧ sem G r_Ac_beginAnew [.ref (rf h (rf h v0 5) (Int32.toNatClampNeg (kI h v0 2)))] h (fun u2 h1 => u2 = none ∧ (kT h1 v0 = 2 ∧ (kT h1 v0 = 2 ∧ (∀ h3 : Hp, h3 = wI h1 v0 2 ((kI h1 v0 2) + 1) → (kT h3 v0 = 2 ∧ (∀ h4 : Hp, h4 = wI h3 v0 9 0 → (kT h4 v0 = 2 ∧ K (some (.int ((kI h4 v0 2) - 1))) h4)))))))))))) ∧ (¬ (kI h v0 2) < 12 → K (some (.int (-3))) h))) : X G M Q 0 [(0, .ref v0)] [] h := by
  refine x_aload_n hM d_Wo_addAct_0 rfl 0 rfl ?_
  obtain ⟨c17, F⟩ := F
  refine x_geti hG hM ck_Wo 2 (Nat.le_of_ble_eq_true rfl) rfl rfl w_133 rfl d_Wo_addAct_1 c17 ?_
  refine x_bipush (v := 12) hM d_Wo_addAct_4 (by decide) ?_
  refine x_icmp_lt (tgt := 12) hM d_Wo_addAct_6 (by decide) (fun q16 => ?_) (fun q16 => ?_)
  · replace F := F.1 q16
    refine x_aload_n hM d_Wo_addAct_12 rfl 0 rfl ?_
    obtain ⟨c14, F⟩ := F
    obtain ⟨c15, F⟩ := F
    refine x_getr hG hM ck_Wo 5 (Nat.le_of_ble_eq_true rfl) rfl rfl w_143 rfl d_Wo_addAct_13 c14 c15 ?_
    refine x_aload_n hM d_Wo_addAct_16 rfl 0 rfl ?_
    obtain ⟨c13, F⟩ := F
    refine x_geti hG hM ck_Wo 2 (Nat.le_of_ble_eq_true rfl) rfl rfl w_133 rfl d_Wo_addAct_17 c13 ?_
    obtain ⟨c10, F⟩ := F
    obtain ⟨c11, F⟩ := F
    obtain ⟨c12, F⟩ := F
    refine x_aaload hG hM 53 rfl (Nat.le_of_ble_eq_true rfl) d_Wo_addAct_20 c10 c11 c12 ?_
    obtain ⟨c9, F⟩ := F
    refine x_callV hG hM (r' := r_Ac_beginAnew) (ci := 2) [] rfl rfl (Nat.le_of_ble_eq_true rfl) yk_Ac_beginAnew ⟨Nat.le_of_ble_eq_true rfl, Nat.le_of_ble_eq_true rfl⟩ w_476 w_477 w_478 rfl rfl (Nat.le_of_ble_eq_true rfl) d_Wo_addAct_21 c9 (sem_mono F ?_)
    intro u2 h1 F
    obtain ⟨rfl, F⟩ := F
    refine x_aload_n hM d_Wo_addAct_24 rfl 0 rfl ?_
    refine x_dup hM d_Wo_addAct_25 rfl ?_
    obtain ⟨c8, F⟩ := F
    refine x_geti hG hM ck_Wo 2 (Nat.le_of_ble_eq_true rfl) rfl rfl w_133 rfl d_Wo_addAct_26 c8 ?_
    refine x_iconst (v := 1) hM d_Wo_addAct_29 (by decide) ?_
    refine x_iadd hM d_Wo_addAct_30 ?_
    obtain ⟨c7, F⟩ := F
    replace F := F _ rfl
    refine x_puti hG hM ck_Wo 2 (Nat.le_of_ble_eq_true rfl) rfl rfl w_133 rfl d_Wo_addAct_31 (Or.inl rfl) c7 ?_
    refine x_aload_n hM d_Wo_addAct_34 rfl 0 rfl ?_
    refine x_iconst (v := 0) hM d_Wo_addAct_35 (by decide) ?_
    obtain ⟨c6, F⟩ := F
    replace F := F _ rfl
    refine x_putz hG hM ck_Wo 9 (Nat.le_of_ble_eq_true rfl) rfl rfl w_160 rfl d_Wo_addAct_36 (Or.inl rfl) c6 (Or.inl rfl) ?_
    refine x_aload_n hM d_Wo_addAct_39 rfl 0 rfl ?_
    obtain ⟨c5, F⟩ := F
    refine x_geti hG hM ck_Wo 2 (Nat.le_of_ble_eq_true rfl) rfl rfl w_133 rfl d_Wo_addAct_40 c5 ?_
    refine x_iconst (v := 1) hM d_Wo_addAct_43 (by decide) ?_
    refine x_isub hM d_Wo_addAct_44 ?_
    exact x_ireturn hM d_Wo_addAct_45 rfl F
  · replace F := F.2 q16
    refine x_bipush (v := (-3)) hM d_Wo_addAct_9 (by decide) ?_
    exact x_ireturn hM d_Wo_addAct_11 rfl F
set_option maxRecDepth 100000 in
set_option maxHeartbeats 4000000 in
theorem S_Wo_isAct_0 {G : Gc} {M : Mc} {Q : State → Prop} {K : Option Value → Hp → Prop} (hG : gok G) (hM : mok G M r_Wo_isAct Q K) (v0 : Nat) (v1 : Int32) (h : Hp) (F : (¬ v1 < 0 → kT h v0 = 2) ∧ (∀ z1 : Int32, z1 = (if v1 < 0 then 0 else (if (kI h v0 2) ≤ v1 then 0 else 1)) → (nb z1 ∧ K (some (.int z1)) h))) : X G M Q 0 [(0, .ref v0), (1, .int v1)] [] h := by
  refine x_iload_n hM d_Wo_isAct_0 rfl 1 rfl ?_
  obtain ⟨S, F⟩ := F
  have JJ : ∀ (z1 : Int32) (ez1 : z1 = (if v1 < 0 then 0 else (if (kI h v0 2) ≤ v1 then 0 else 1))), X G M Q 17 [] [.int z1] h := by
    intro z1 ez1
    replace F := F _ ez1
    exact x_zreturn hM d_Wo_isAct_17 rfl F.1 F.2
  refine x_if_lt (tgt := 16) hM d_Wo_isAct_1 (by decide) (fun q2 => ?_) (fun q2 => ?_)
  · refine x_iconst (v := 0) hM d_Wo_isAct_16 (by decide) ?_
    refine x_sub [] rfl ?_
    exact JJ _ (Eq.symm (if_pos q2))
  · replace S := S q2
    refine x_iload_n hM d_Wo_isAct_4 rfl 1 rfl ?_
    refine x_aload_n hM d_Wo_isAct_5 rfl 0 rfl ?_
    have c3 := S
    refine x_geti hG hM ck_Wo 2 (Nat.le_of_ble_eq_true rfl) rfl rfl w_133 rfl d_Wo_isAct_6 c3 ?_
    refine x_icmp_ge (tgt := 16) hM d_Wo_isAct_9 (by decide) (fun q4 => ?_) (fun q4 => ?_)
    · refine x_iconst (v := 0) hM d_Wo_isAct_16 (by decide) ?_
      refine x_sub [] rfl ?_
      exact JJ _ (Eq.symm (Eq.trans (if_neg q2) (if_pos q4)))
    · refine x_iconst (v := 1) hM d_Wo_isAct_12 (by decide) ?_
      refine x_goto (tgt := 17) hM d_Wo_isAct_13 (by decide) ?_
      refine x_sub [] rfl ?_
      exact JJ _ (Eq.symm (Eq.trans (if_neg q2) (if_neg q4)))
set_option maxRecDepth 100000 in
set_option maxHeartbeats 4000000 in
theorem S_Wo_isCondition_0 {G : Gc} {M : Mc} {Q : State → Prop} {K : Option Value → Hp → Prop} (hG : gok G) (hM : mok G M r_Wo_isCondition Q K) (v0 : Nat) (v1 : Int32) (v2 : Int32) (v3 : Int32) (h : Hp) (F : kT h v0 = 2 ∧ sem G r_Wo_isThing [.ref v0, .int v1] h (fun u2 h1 => ∃ x3 : Int32, u2 = some (.int x3) ∧ ((x3 = 0 → K (some (.int 0)) h1) ∧ (¬ x3 = 0 → ((v2 < 0 → K (some (.int 0)) h1) ∧ (¬ v2 < 0 → ((v2 ≤ 3 → ((v2 = 2 → (kT h1 v0 = 2 ∧ sem G r_Wo_isThing [.ref v0, .int v3] h1 (fun u8 h7 => ∃ x9 : Int32, u8 = some (.int x9) ∧ (nb x9 ∧ K (some (.int x9)) h7)))) ∧ (¬ v2 = 2 → (∀ z4 : Int32, z4 = (if v3 < 0 then 0 else (if 4 ≤ v3 then 0 else 1)) → (nb z4 ∧ K (some (.int z4)) h1))))) ∧ (¬ v2 ≤ 3 → K (some (.int 0)) h1)))))))) : X G M Q 0 [(0, .ref v0), (1, .int v1), (2, .int v2), (3, .int v3)] [] h := by
  refine x_aload_n hM d_Wo_isCondition_0 rfl 0 rfl ?_
  refine x_iload_n hM d_Wo_isCondition_1 rfl 1 rfl ?_
  obtain ⟨c15, F⟩ := F
  refine x_callV hG hM (r' := r_Wo_isThing) (ci := 1) [.int v1] rfl rfl (Nat.le_of_ble_eq_true rfl) yk_Wo_isThing ⟨Nat.le_of_ble_eq_true rfl, Nat.le_of_ble_eq_true rfl⟩ w_504 w_505 w_506 rfl rfl (Nat.le_of_ble_eq_true rfl) d_Wo_isCondition_2 c15 (sem_mono F ?_)
  intro u2 h1 F
  obtain ⟨x3, rfl, F⟩ := F
  refine x_if_eq (tgt := 17) hM d_Wo_isCondition_5 (by decide) (fun q14 => ?_) (fun q14 => ?_)
  · replace F := F.1 q14
    refine x_iconst (v := 0) hM d_Wo_isCondition_17 (by decide) ?_
    exact x_zreturn hM d_Wo_isCondition_18 rfl (Or.inl rfl) F
  · replace F := F.2 q14
    refine x_iload_n hM d_Wo_isCondition_8 rfl 2 rfl ?_
    refine x_if_lt (tgt := 17) hM d_Wo_isCondition_9 (by decide) (fun q13 => ?_) (fun q13 => ?_)
    · replace F := F.1 q13
      refine x_iconst (v := 0) hM d_Wo_isCondition_17 (by decide) ?_
      exact x_zreturn hM d_Wo_isCondition_18 rfl (Or.inl rfl) F
    · replace F := F.2 q13
      refine x_iload_n hM d_Wo_isCondition_12 rfl 2 rfl ?_
      refine x_iconst (v := 3) hM d_Wo_isCondition_13 (by decide) ?_
      refine x_icmp_le (tgt := 19) hM d_Wo_isCondition_14 (by decide) (fun q12 => ?_) (fun q12 => ?_)
      · replace F := F.1 q12
        refine x_iload_n hM d_Wo_isCondition_19 rfl 2 rfl ?_
        refine x_iconst (v := 2) hM d_Wo_isCondition_20 (by decide) ?_
        refine x_icmp_ne (tgt := 32) hM d_Wo_isCondition_21 (by decide) (fun q11 => ?_) (fun q11 => ?_)
        · replace F := F.2 q11
          refine x_iload_n hM d_Wo_isCondition_32 rfl 3 rfl ?_
          have JJ : ∀ (z4 : Int32) (ez4 : z4 = (if v3 < 0 then 0 else (if 4 ≤ v3 then 0 else 1))), X G M Q 46 [] [.int z4] h1 := by
            intro z4 ez4
            replace F := F _ ez4
            exact x_zreturn hM d_Wo_isCondition_46 rfl F.1 F.2
          refine x_if_lt (tgt := 45) hM d_Wo_isCondition_33 (by decide) (fun q5 => ?_) (fun q5 => ?_)
          · refine x_iconst (v := 0) hM d_Wo_isCondition_45 (by decide) ?_
            refine x_sub [] rfl ?_
            exact JJ _ (Eq.symm (if_pos q5))
          · refine x_iload_n hM d_Wo_isCondition_36 rfl 3 rfl ?_
            refine x_iconst (v := 4) hM d_Wo_isCondition_37 (by decide) ?_
            refine x_icmp_ge (tgt := 45) hM d_Wo_isCondition_38 (by decide) (fun q6 => ?_) (fun q6 => ?_)
            · refine x_iconst (v := 0) hM d_Wo_isCondition_45 (by decide) ?_
              refine x_sub [] rfl ?_
              exact JJ _ (Eq.symm (Eq.trans (if_neg q5) (if_pos q6)))
            · refine x_iconst (v := 1) hM d_Wo_isCondition_41 (by decide) ?_
              refine x_goto (tgt := 46) hM d_Wo_isCondition_42 (by decide) ?_
              refine x_sub [] rfl ?_
              exact JJ _ (Eq.symm (Eq.trans (if_neg q5) (if_neg q6)))
        · replace F := F.1 q11
          refine x_aload_n hM d_Wo_isCondition_24 rfl 0 rfl ?_
          refine x_iload_n hM d_Wo_isCondition_25 rfl 3 rfl ?_
          obtain ⟨c10, F⟩ := F
          refine x_callV hG hM (r' := r_Wo_isThing) (ci := 1) [.int v3] rfl rfl (Nat.le_of_ble_eq_true rfl) yk_Wo_isThing ⟨Nat.le_of_ble_eq_true rfl, Nat.le_of_ble_eq_true rfl⟩ w_504 w_505 w_506 rfl rfl (Nat.le_of_ble_eq_true rfl) d_Wo_isCondition_26 c10 (sem_mono F ?_)
          intro u8 h7 F
          obtain ⟨x9, rfl, F⟩ := F
          refine x_goto (tgt := 46) hM d_Wo_isCondition_29 (by decide) ?_
          exact x_zreturn hM d_Wo_isCondition_46 rfl F.1 F.2
      · replace F := F.2 q12
        refine x_iconst (v := 0) hM d_Wo_isCondition_17 (by decide) ?_
        exact x_zreturn hM d_Wo_isCondition_18 rfl (Or.inl rfl) F
set_option maxRecDepth 100000 in
set_option maxHeartbeats 4000000 in
theorem S_Wo_isThing_0 {G : Gc} {M : Mc} {Q : State → Prop} {K : Option Value → Hp → Prop} (hG : gok G) (hM : mok G M r_Wo_isThing Q K) (v0 : Nat) (v1 : Int32) (h : Hp) (F : (¬ v1 < 0 → kT h v0 = 2) ∧ (∀ z1 : Int32, z1 = (if v1 < 0 then 0 else (if (kI h v0 0) ≤ v1 then 0 else 1)) → (nb z1 ∧ K (some (.int z1)) h))) : X G M Q 0 [(0, .ref v0), (1, .int v1)] [] h := by
  refine x_iload_n hM d_Wo_isThing_0 rfl 1 rfl ?_
  obtain ⟨S, F⟩ := F
  have JJ : ∀ (z1 : Int32) (ez1 : z1 = (if v1 < 0 then 0 else (if (kI h v0 0) ≤ v1 then 0 else 1))), X G M Q 17 [] [.int z1] h := by
    intro z1 ez1
    replace F := F _ ez1
    exact x_zreturn hM d_Wo_isThing_17 rfl F.1 F.2
  refine x_if_lt (tgt := 16) hM d_Wo_isThing_1 (by decide) (fun q2 => ?_) (fun q2 => ?_)
  · refine x_iconst (v := 0) hM d_Wo_isThing_16 (by decide) ?_
    refine x_sub [] rfl ?_
    exact JJ _ (Eq.symm (if_pos q2))
  · replace S := S q2
    refine x_iload_n hM d_Wo_isThing_4 rfl 1 rfl ?_
    refine x_aload_n hM d_Wo_isThing_5 rfl 0 rfl ?_
    have c3 := S
    refine x_geti hG hM ck_Wo 0 (Nat.le_of_ble_eq_true rfl) rfl rfl w_123 rfl d_Wo_isThing_6 c3 ?_
    refine x_icmp_ge (tgt := 16) hM d_Wo_isThing_9 (by decide) (fun q4 => ?_) (fun q4 => ?_)
    · refine x_iconst (v := 0) hM d_Wo_isThing_16 (by decide) ?_
      refine x_sub [] rfl ?_
      exact JJ _ (Eq.symm (Eq.trans (if_neg q2) (if_pos q4)))
    · refine x_iconst (v := 1) hM d_Wo_isThing_12 (by decide) ?_
      refine x_goto (tgt := 17) hM d_Wo_isThing_13 (by decide) ?_
      refine x_sub [] rfl ?_
      exact JJ _ (Eq.symm (Eq.trans (if_neg q2) (if_neg q4)))
set_option maxRecDepth 100000 in
set_option maxHeartbeats 4000000 in
theorem S_Wo_isOutcome_0 {G : Gc} {M : Mc} {Q : State → Prop} {K : Option Value → Hp → Prop} (hG : gok G) (hM : mok G M r_Wo_isOutcome Q K) (v0 : Nat) (v1 : Int32) (v2 : Int32) (h : Hp) (F : kT h v0 = 2 ∧ sem G r_Wo_isAct [.ref v0, .int v1] h (fun u2 h1 => ∃ x3 : Int32, u2 = some (.int x3) ∧ ((¬ x3 = 0 → (¬ v2 < 0 → (kT h1 v0 = 2 ∧ kR h1 v0 5 = some (rf h1 v0 5) ∧ kT h1 (rf h1 v0 5) = 53 ∧ vp_in v1 (kN h1 (rf h1 v0 5)) ∧ kR h1 (rf h1 v0 5) (Int32.toNatClampNeg v1) = some (rf h1 (rf h1 v0 5) (Int32.toNatClampNeg v1)) ∧ kT h1 (rf h1 (rf h1 v0 5) (Int32.toNatClampNeg v1)) = 3))) ∧ (∀ z4 : Int32, z4 = (if x3 = 0 then 0 else (if v2 < 0 then 0 else (if (kI h1 (rf h1 (rf h1 v0 5) (Int32.toNatClampNeg v1)) 2) ≤ v2 then 0 else 1))) → (nb z4 ∧ K (some (.int z4)) h1))))) : X G M Q 0 [(0, .ref v0), (1, .int v1), (2, .int v2)] [] h := by
  refine x_aload_n hM d_Wo_isOutcome_0 rfl 0 rfl ?_
  refine x_iload_n hM d_Wo_isOutcome_1 rfl 1 rfl ?_
  obtain ⟨c14, F⟩ := F
  refine x_callV hG hM (r' := r_Wo_isAct) (ci := 1) [.int v1] rfl rfl (Nat.le_of_ble_eq_true rfl) yk_Wo_isAct ⟨Nat.le_of_ble_eq_true rfl, Nat.le_of_ble_eq_true rfl⟩ w_520 w_485 w_486 rfl rfl (Nat.le_of_ble_eq_true rfl) d_Wo_isOutcome_2 c14 (sem_mono F ?_)
  intro u2 h1 F
  obtain ⟨x3, rfl, F⟩ := F
  obtain ⟨S, F⟩ := F
  have JJ : ∀ (z4 : Int32) (ez4 : z4 = (if x3 = 0 then 0 else (if v2 < 0 then 0 else (if (kI h1 (rf h1 (rf h1 v0 5) (Int32.toNatClampNeg v1)) 2) ≤ v2 then 0 else 1)))), X G M Q 30 [] [.int z4] h1 := by
    intro z4 ez4
    replace F := F _ ez4
    exact x_zreturn hM d_Wo_isOutcome_30 rfl F.1 F.2
  refine x_if_eq (tgt := 29) hM d_Wo_isOutcome_5 (by decide) (fun q5 => ?_) (fun q5 => ?_)
  · refine x_iconst (v := 0) hM d_Wo_isOutcome_29 (by decide) ?_
    refine x_sub [] rfl ?_
    exact JJ _ (Eq.symm (if_pos q5))
  · replace S := S q5
    refine x_iload_n hM d_Wo_isOutcome_8 rfl 2 rfl ?_
    refine x_if_lt (tgt := 29) hM d_Wo_isOutcome_9 (by decide) (fun q6 => ?_) (fun q6 => ?_)
    · refine x_iconst (v := 0) hM d_Wo_isOutcome_29 (by decide) ?_
      refine x_sub [] rfl ?_
      exact JJ _ (Eq.symm (Eq.trans (if_neg q5) (if_pos q6)))
    · replace S := S q6
      refine x_iload_n hM d_Wo_isOutcome_12 rfl 2 rfl ?_
      refine x_aload_n hM d_Wo_isOutcome_13 rfl 0 rfl ?_
      obtain ⟨c7, S⟩ := S
      obtain ⟨c8, S⟩ := S
      refine x_getr hG hM ck_Wo 5 (Nat.le_of_ble_eq_true rfl) rfl rfl w_143 rfl d_Wo_isOutcome_14 c7 c8 ?_
      refine x_iload_n hM d_Wo_isOutcome_17 rfl 1 rfl ?_
      obtain ⟨c9, S⟩ := S
      obtain ⟨c10, S⟩ := S
      obtain ⟨c11, S⟩ := S
      refine x_aaload hG hM 53 rfl (Nat.le_of_ble_eq_true rfl) d_Wo_isOutcome_18 c9 c10 c11 ?_
      have c12 := S
      refine x_geti hG hM ck_Ac 2 (Nat.le_of_ble_eq_true rfl) rfl rfl w_109 rfl d_Wo_isOutcome_19 c12 ?_
      refine x_icmp_ge (tgt := 29) hM d_Wo_isOutcome_22 (by decide) (fun q13 => ?_) (fun q13 => ?_)
      · refine x_iconst (v := 0) hM d_Wo_isOutcome_29 (by decide) ?_
        refine x_sub [] rfl ?_
        exact JJ _ (Eq.symm (Eq.trans (if_neg q5) (Eq.trans (if_neg q6) (if_pos q13))))
      · refine x_iconst (v := 1) hM d_Wo_isOutcome_25 (by decide) ?_
        refine x_goto (tgt := 30) hM d_Wo_isOutcome_26 (by decide) ?_
        refine x_sub [] rfl ?_
        exact JJ _ (Eq.symm (Eq.trans (if_neg q5) (Eq.trans (if_neg q6) (if_neg q13))))
set_option maxRecDepth 100000 in
set_option maxHeartbeats 4000000 in
theorem S_Wo_isEffect_0 {G : Gc} {M : Mc} {Q : State → Prop} {K : Option Value → Hp → Prop} (hG : gok G) (hM : mok G M r_Wo_isEffect Q K) (v0 : Nat) (v1 : Int32) (v2 : Int32) (v3 : Int32) (h : Hp) (F : kT h v0 = 2 ∧ sem G r_Wo_isThing [.ref v0, .int v1] h (fun u2 h1 => ∃ x3 : Int32, u2 = some (.int x3) ∧ ((x3 = 0 → K (some (.int 0)) h1) ∧ (¬ x3 = 0 → ((v2 < 0 → K (some (.int 0)) h1) ∧ (¬ v2 < 0 → ((v2 ≤ 2 → ((v2 = 1 → (kT h1 v0 = 2 ∧ sem G r_Wo_isThing [.ref v0, .int v3] h1 (fun u14 h13 => ∃ x15 : Int32, u14 = some (.int x15) ∧ (nb x15 ∧ K (some (.int x15)) h13)))) ∧ (¬ v2 = 1 → ((¬ v3 < 0 → (v2 = 0 → (kT h1 v0 = 2 ∧ kR h1 v0 3 = some (rf h1 v0 3) ∧ kT h1 (rf h1 v0 3) = 50 ∧ vp_in v1 (kN h1 (rf h1 v0 3))))) ∧ (∀ z4 : Int32, z4 = (if v3 < 0 then 0 else (if v2 = 0 then (if (kI h1 (rf h1 v0 3) (Int32.toNatClampNeg v1)) ≤ v3 then 0 else 1) else (if 4 ≤ v3 then 0 else 1))) → (nb z4 ∧ K (some (.int z4)) h1)))))) ∧ (¬ v2 ≤ 2 → K (some (.int 0)) h1)))))))) : X G M Q 0 [(0, .ref v0), (1, .int v1), (2, .int v2), (3, .int v3)] [] h := by
  refine x_aload_n hM d_Wo_isEffect_0 rfl 0 rfl ?_
  refine x_iload_n hM d_Wo_isEffect_1 rfl 1 rfl ?_
  obtain ⟨c21, F⟩ := F
  refine x_callV hG hM (r' := r_Wo_isThing) (ci := 1) [.int v1] rfl rfl (Nat.le_of_ble_eq_true rfl) yk_Wo_isThing ⟨Nat.le_of_ble_eq_true rfl, Nat.le_of_ble_eq_true rfl⟩ w_504 w_505 w_506 rfl rfl (Nat.le_of_ble_eq_true rfl) d_Wo_isEffect_2 c21 (sem_mono F ?_)
  intro u2 h1 F
  obtain ⟨x3, rfl, F⟩ := F
  refine x_if_eq (tgt := 17) hM d_Wo_isEffect_5 (by decide) (fun q20 => ?_) (fun q20 => ?_)
  · replace F := F.1 q20
    refine x_iconst (v := 0) hM d_Wo_isEffect_17 (by decide) ?_
    exact x_zreturn hM d_Wo_isEffect_18 rfl (Or.inl rfl) F
  · replace F := F.2 q20
    refine x_iload_n hM d_Wo_isEffect_8 rfl 2 rfl ?_
    refine x_if_lt (tgt := 17) hM d_Wo_isEffect_9 (by decide) (fun q19 => ?_) (fun q19 => ?_)
    · replace F := F.1 q19
      refine x_iconst (v := 0) hM d_Wo_isEffect_17 (by decide) ?_
      exact x_zreturn hM d_Wo_isEffect_18 rfl (Or.inl rfl) F
    · replace F := F.2 q19
      refine x_iload_n hM d_Wo_isEffect_12 rfl 2 rfl ?_
      refine x_iconst (v := 2) hM d_Wo_isEffect_13 (by decide) ?_
      refine x_icmp_le (tgt := 19) hM d_Wo_isEffect_14 (by decide) (fun q18 => ?_) (fun q18 => ?_)
      · replace F := F.1 q18
        refine x_iload_n hM d_Wo_isEffect_19 rfl 2 rfl ?_
        refine x_iconst (v := 1) hM d_Wo_isEffect_20 (by decide) ?_
        refine x_icmp_ne (tgt := 30) hM d_Wo_isEffect_21 (by decide) (fun q17 => ?_) (fun q17 => ?_)
        · replace F := F.2 q17
          refine x_iload_n hM d_Wo_isEffect_30 rfl 3 rfl ?_
          obtain ⟨S, F⟩ := F
          have JJ : ∀ (z4 : Int32) (ez4 : z4 = (if v3 < 0 then 0 else (if v2 = 0 then (if (kI h1 (rf h1 v0 3) (Int32.toNatClampNeg v1)) ≤ v3 then 0 else 1) else (if 4 ≤ v3 then 0 else 1)))), X G M Q 57 [] [.int z4] h1 := by
            intro z4 ez4
            replace F := F _ ez4
            exact x_zreturn hM d_Wo_isEffect_57 rfl F.1 F.2
          refine x_if_lt (tgt := 56) hM d_Wo_isEffect_31 (by decide) (fun q5 => ?_) (fun q5 => ?_)
          · refine x_iconst (v := 0) hM d_Wo_isEffect_56 (by decide) ?_
            refine x_sub [] rfl ?_
            exact JJ _ (Eq.symm (if_pos q5))
          · replace S := S q5
            refine x_iload_n hM d_Wo_isEffect_34 rfl 3 rfl ?_
            refine x_iload_n hM d_Wo_isEffect_35 rfl 2 rfl ?_
            refine x_if_ne (tgt := 48) hM d_Wo_isEffect_36 (by decide) (fun q6 => ?_) (fun q6 => ?_)
            · refine x_iconst (v := 4) hM d_Wo_isEffect_48 (by decide) ?_
              refine x_icmp_ge (tgt := 56) hM d_Wo_isEffect_49 (by decide) (fun q7 => ?_) (fun q7 => ?_)
              · refine x_iconst (v := 0) hM d_Wo_isEffect_56 (by decide) ?_
                refine x_sub [] rfl ?_
                exact JJ _ (Eq.symm (Eq.trans (if_neg q5) (Eq.trans (if_neg q6) (if_pos q7))))
              · refine x_iconst (v := 1) hM d_Wo_isEffect_52 (by decide) ?_
                refine x_goto (tgt := 57) hM d_Wo_isEffect_53 (by decide) ?_
                refine x_sub [] rfl ?_
                exact JJ _ (Eq.symm (Eq.trans (if_neg q5) (Eq.trans (if_neg q6) (if_neg q7))))
            · replace S := S q6
              refine x_aload_n hM d_Wo_isEffect_39 rfl 0 rfl ?_
              obtain ⟨c8, S⟩ := S
              obtain ⟨c9, S⟩ := S
              refine x_getr hG hM ck_Wo 3 (Nat.le_of_ble_eq_true rfl) rfl rfl w_140 rfl d_Wo_isEffect_40 c8 c9 ?_
              refine x_iload_n hM d_Wo_isEffect_43 rfl 1 rfl ?_
              obtain ⟨c10, S⟩ := S
              have c11 := S
              refine x_iaload hG hM d_Wo_isEffect_44 c10 c11 ?_
              refine x_goto (tgt := 49) hM d_Wo_isEffect_45 (by decide) ?_
              refine x_icmp_ge (tgt := 56) hM d_Wo_isEffect_49 (by decide) (fun q12 => ?_) (fun q12 => ?_)
              · refine x_iconst (v := 0) hM d_Wo_isEffect_56 (by decide) ?_
                refine x_sub [] rfl ?_
                exact JJ _ (Eq.symm (Eq.trans (if_neg q5) (Eq.trans (if_pos q6) (if_pos q12))))
              · refine x_iconst (v := 1) hM d_Wo_isEffect_52 (by decide) ?_
                refine x_goto (tgt := 57) hM d_Wo_isEffect_53 (by decide) ?_
                refine x_sub [] rfl ?_
                exact JJ _ (Eq.symm (Eq.trans (if_neg q5) (Eq.trans (if_pos q6) (if_neg q12))))
        · replace F := F.1 q17
          refine x_aload_n hM d_Wo_isEffect_24 rfl 0 rfl ?_
          refine x_iload_n hM d_Wo_isEffect_25 rfl 3 rfl ?_
          obtain ⟨c16, F⟩ := F
          refine x_callV hG hM (r' := r_Wo_isThing) (ci := 1) [.int v3] rfl rfl (Nat.le_of_ble_eq_true rfl) yk_Wo_isThing ⟨Nat.le_of_ble_eq_true rfl, Nat.le_of_ble_eq_true rfl⟩ w_504 w_505 w_506 rfl rfl (Nat.le_of_ble_eq_true rfl) d_Wo_isEffect_26 c16 (sem_mono F ?_)
          intro u14 h13 F
          obtain ⟨x15, rfl, F⟩ := F
          exact x_zreturn hM d_Wo_isEffect_29 rfl F.1 F.2
      · replace F := F.2 q18
        refine x_iconst (v := 0) hM d_Wo_isEffect_17 (by decide) ?_
        exact x_zreturn hM d_Wo_isEffect_18 rfl (Or.inl rfl) F
set_option maxRecDepth 100000 in
set_option maxHeartbeats 4000000 in
theorem S_Wo_dropAct_0 {G : Gc} {M : Mc} {Q : State → Prop} {K : Option Value → Hp → Prop} (hG : gok G) (hM : mok G M r_Wo_dropAct Q K) (v0 : Nat) (h : Hp) (F : kT h v0 = 2 ∧ (kT h v0 = 2 ∧ (∀ h1 : Hp, h1 = wI h v0 2 ((kI h v0 2) - 1) → (kT h1 v0 = 2 ∧ (∀ h2 : Hp, h2 = wI h1 v0 9 0 → K none h2))))) : X G M Q 0 [(0, .ref v0)] [] h := by
  refine x_aload_n hM d_Wo_dropAct_0 rfl 0 rfl ?_
  refine x_dup hM d_Wo_dropAct_1 rfl ?_
  obtain ⟨c5, F⟩ := F
  refine x_geti hG hM ck_Wo 2 (Nat.le_of_ble_eq_true rfl) rfl rfl w_133 rfl d_Wo_dropAct_2 c5 ?_
  refine x_iconst (v := 1) hM d_Wo_dropAct_5 (by decide) ?_
  refine x_isub hM d_Wo_dropAct_6 ?_
  obtain ⟨c4, F⟩ := F
  replace F := F _ rfl
  refine x_puti hG hM ck_Wo 2 (Nat.le_of_ble_eq_true rfl) rfl rfl w_133 rfl d_Wo_dropAct_7 (Or.inl rfl) c4 ?_
  refine x_aload_n hM d_Wo_dropAct_10 rfl 0 rfl ?_
  refine x_iconst (v := 0) hM d_Wo_dropAct_11 (by decide) ?_
  obtain ⟨c3, F⟩ := F
  replace F := F _ rfl
  refine x_putz hG hM ck_Wo 9 (Nat.le_of_ble_eq_true rfl) rfl rfl w_160 rfl d_Wo_dropAct_12 (Or.inl rfl) c3 (Or.inl rfl) ?_
  exact x_return hM d_Wo_dropAct_15 rfl F
set_option maxRecDepth 100000 in
set_option maxHeartbeats 4000000 in
theorem S_Wo_pack_0 {G : Gc} {M : Mc} {Q : State → Prop} {K : Option Value → Hp → Prop} (hG : gok G) (hM : mok G M r_Wo_pack Q K) (v0 : Nat) (v1 : Int32) (h : Hp) (F : X G M Q 7 [(0, .ref v0), (2, .int v1), (3, .int 0), (4, .int 0)] [] h) : X G M Q 0 [(0, .ref v0), (1, .int v1)] [] h := by
  refine x_iload_n hM d_Wo_pack_0 rfl 1 rfl ?_
  refine x_istore_n (lv2 := [(2, .int v1), (0, .ref v0), (1, .int v1)]) hM d_Wo_pack_1 rfl (Nat.le_of_ble_eq_true rfl) rfl ?_
  refine x_iconst (v := 0) hM d_Wo_pack_2 (by decide) ?_
  refine x_istore_n (lv2 := [(3, .int 0), (2, .int v1), (0, .ref v0), (1, .int v1)]) hM d_Wo_pack_3 rfl (Nat.le_of_ble_eq_true rfl) rfl ?_
  refine x_iconst (v := 0) hM d_Wo_pack_4 (by decide) ?_
  refine x_istore (lv2 := [(4, .int 0), (3, .int 0), (2, .int v1), (0, .ref v0), (1, .int v1)]) hM d_Wo_pack_5 (Nat.le_of_ble_eq_true rfl) rfl ?_
  refine x_sub [3, 2, 1, 0] rfl ?_
  exact F
set_option maxRecDepth 100000 in
set_option maxHeartbeats 4000000 in
theorem S_Wo_pack_7 {G : Gc} {M : Mc} {Q : State → Prop} {K : Option Value → Hp → Prop} (hG : gok G) (hM : mok G M r_Wo_pack Q K) (v0 : Nat) (v2 : Int32) (v3 : Int32) (v4 : Int32) (h : Hp) (F : kT h v0 = 2 ∧ (((kI h v0 0) ≤ v4 → K (some (.int v3)) h) ∧ (¬ (kI h v0 0) ≤ v4 → (kT h v0 = 2 ∧ kR h v0 3 = some (rf h v0 3) ∧ (kT h (rf h v0 3) = 50 ∧ vp_in v4 (kN h (rf h v0 3)) ∧ ((¬ (kI h (rf h v0 3) (Int32.toNatClampNeg v4)) ≤ 0 → (¬ (kI h (rf h v0 3) (Int32.toNatClampNeg v4)) = 0 ∧ ¬ (kI h (rf h v0 3) (Int32.toNatClampNeg v4)) = 0)) ∧ (∀ z1 : Int32, z1 = (if (kI h (rf h v0 3) (Int32.toNatClampNeg v4)) ≤ 0 then v2 else (v2 / (kI h (rf h v0 3) (Int32.toNatClampNeg v4)))) → (∀ z2 : Int32, z2 = (if (kI h (rf h v0 3) (Int32.toNatClampNeg v4)) ≤ 0 then v3 else (v3 ||| ((v2 - v2 / (kI h (rf h v0 3) (Int32.toNatClampNeg v4)) * (kI h (rf h v0 3) (Int32.toNatClampNeg v4))) <<< ((2 * v4) &&& 31)))) → X G M Q 7 [(0, .ref v0), (2, .int z1), (3, .int z2), (4, .int (v4 + 1))] [] h)))))))) : X G M Q 7 [(0, .ref v0), (2, .int v2), (3, .int v3), (4, .int v4)] [] h := by
  refine x_iload hM d_Wo_pack_7 3 rfl ?_
  refine x_aload_n hM d_Wo_pack_9 rfl 0 rfl ?_
  obtain ⟨c11, F⟩ := F
  refine x_geti hG hM ck_Wo 0 (Nat.le_of_ble_eq_true rfl) rfl rfl w_123 rfl d_Wo_pack_10 c11 ?_
  refine x_icmp_ge (tgt := 53) hM d_Wo_pack_13 (by decide) (fun q10 => ?_) (fun q10 => ?_)
  · replace F := F.1 q10
    refine x_iload_n hM d_Wo_pack_53 rfl 2 rfl ?_
    exact x_ireturn hM d_Wo_pack_54 rfl F
  · replace F := F.2 q10
    refine x_aload_n hM d_Wo_pack_16 rfl 0 rfl ?_
    obtain ⟨c8, F⟩ := F
    obtain ⟨c9, F⟩ := F
    refine x_getr hG hM ck_Wo 3 (Nat.le_of_ble_eq_true rfl) rfl rfl w_140 rfl d_Wo_pack_17 c8 c9 ?_
    refine x_iload hM d_Wo_pack_20 3 rfl ?_
    obtain ⟨c6, F⟩ := F
    obtain ⟨c7, F⟩ := F
    refine x_iaload hG hM d_Wo_pack_22 c6 c7 ?_
    refine x_istore (lv2 := [(5, .int (kI h (rf h v0 3) (Int32.toNatClampNeg v4))), (0, .ref v0), (2, .int v2), (3, .int v3), (4, .int v4)]) hM d_Wo_pack_23 (Nat.le_of_ble_eq_true rfl) rfl ?_
    refine x_iload hM d_Wo_pack_25 0 rfl ?_
    obtain ⟨S, F⟩ := F
    have JJ : ∀ (z1 : Int32) (ez1 : z1 = (if (kI h (rf h v0 3) (Int32.toNatClampNeg v4)) ≤ 0 then v2 else (v2 / (kI h (rf h v0 3) (Int32.toNatClampNeg v4))))) (z2 : Int32) (ez2 : z2 = (if (kI h (rf h v0 3) (Int32.toNatClampNeg v4)) ≤ 0 then v3 else (v3 ||| ((v2 - v2 / (kI h (rf h v0 3) (Int32.toNatClampNeg v4)) * (kI h (rf h v0 3) (Int32.toNatClampNeg v4))) <<< ((2 * v4) &&& 31))))), X G M Q 47 [(0, .ref v0), (2, .int z1), (3, .int z2), (4, .int v4)] [] h := by
      intro z1 ez1 z2 ez2
      replace F := F _ ez1 _ ez2
      refine x_iinc (v := (v4 + 1)) (lv2 := [(4, .int (v4 + 1)), (0, .ref v0), (2, .int z1), (3, .int z2)]) hM d_Wo_pack_47 (j := 3) rfl rfl (Nat.le_of_ble_eq_true rfl) rfl ?_
      refine x_goto (tgt := 7) hM d_Wo_pack_50 (by decide) ?_
      refine x_sub [1, 2, 3, 0] rfl ?_
      exact F
    refine x_if_le (tgt := 47) hM d_Wo_pack_27 (by decide) (fun q3 => ?_) (fun q3 => ?_)
    · refine x_sub [1, 2, 3, 4] rfl ?_
      exact JJ _ (Eq.symm (if_pos q3)) _ (Eq.symm (if_pos q3))
    · replace S := S q3
      refine x_iload_n hM d_Wo_pack_30 rfl 3 rfl ?_
      refine x_iload_n hM d_Wo_pack_31 rfl 2 rfl ?_
      refine x_iload hM d_Wo_pack_32 0 rfl ?_
      obtain ⟨c4, S⟩ := S
      refine x_irem hM d_Wo_pack_34 c4 ?_
      refine x_iconst (v := 2) hM d_Wo_pack_35 (by decide) ?_
      refine x_iload hM d_Wo_pack_36 4 rfl ?_
      refine x_imul hM d_Wo_pack_38 ?_
      refine x_ishl hM d_Wo_pack_39 ?_
      refine x_ior hM d_Wo_pack_40 ?_
      refine x_istore_n (lv2 := [(3, .int (v3 ||| ((v2 - v2 / (kI h (rf h v0 3) (Int32.toNatClampNeg v4)) * (kI h (rf h v0 3) (Int32.toNatClampNeg v4))) <<< ((2 * v4) &&& 31)))), (5, .int (kI h (rf h v0 3) (Int32.toNatClampNeg v4))), (0, .ref v0), (2, .int v2), (4, .int v4)]) hM d_Wo_pack_41 rfl (Nat.le_of_ble_eq_true rfl) rfl ?_
      refine x_iload_n hM d_Wo_pack_42 rfl 3 rfl ?_
      refine x_iload hM d_Wo_pack_43 1 rfl ?_
      have c5 := S
      refine x_idiv hM d_Wo_pack_45 c5 ?_
      refine x_istore_n (lv2 := [(2, .int (v2 / (kI h (rf h v0 3) (Int32.toNatClampNeg v4)))), (3, .int (v3 ||| ((v2 - v2 / (kI h (rf h v0 3) (Int32.toNatClampNeg v4)) * (kI h (rf h v0 3) (Int32.toNatClampNeg v4))) <<< ((2 * v4) &&& 31)))), (5, .int (kI h (rf h v0 3) (Int32.toNatClampNeg v4))), (0, .ref v0), (4, .int v4)]) hM d_Wo_pack_46 rfl (Nat.le_of_ble_eq_true rfl) rfl ?_
      refine x_sub [3, 0, 1, 4] rfl ?_
      exact JJ _ (Eq.symm (if_neg q3)) _ (Eq.symm (if_neg q3))
set_option maxRecDepth 100000 in
set_option maxHeartbeats 4000000 in
theorem S_Wo_after_0 {G : Gc} {M : Mc} {Q : State → Prop} {K : Option Value → Hp → Prop} (hG : gok G) (hM : mok G M r_Wo_after Q K) (v0 : Nat) (v1 : Nat) (v2 : Int32) (v3 : Int32) (h : Hp) (F : X G M Q 6 [(0, .ref v0), (1, .ref v1), (3, .int v3), (4, .int v2), (5, .int 0)] [] h) : X G M Q 0 [(0, .ref v0), (1, .ref v1), (2, .int v2), (3, .int v3)] [] h := by
  refine x_iload_n hM d_Wo_after_0 rfl 2 rfl ?_
  refine x_istore (lv2 := [(4, .int v2), (0, .ref v0), (1, .ref v1), (2, .int v2), (3, .int v3)]) hM d_Wo_after_1 (Nat.le_of_ble_eq_true rfl) rfl ?_
  refine x_iconst (v := 0) hM d_Wo_after_3 (by decide) ?_
  refine x_istore (lv2 := [(5, .int 0), (4, .int v2), (0, .ref v0), (1, .ref v1), (2, .int v2), (3, .int v3)]) hM d_Wo_after_4 (Nat.le_of_ble_eq_true rfl) rfl ?_
  refine x_sub [2, 3, 5, 1, 0] rfl ?_
  exact F
set_option maxRecDepth 100000 in
set_option maxHeartbeats 4000000 in
theorem S_Wo_after_6 {G : Gc} {M : Mc} {Q : State → Prop} {K : Option Value → Hp → Prop} (hG : gok G) (hM : mok G M r_Wo_after Q K) (v0 : Nat) (v1 : Nat) (v3 : Int32) (v4 : Int32) (v5 : Int32) (h : Hp) (F : kT h v1 = 5 ∧ (((kI h v1 0) ≤ v5 → K (some (.int v4)) h) ∧ (¬ (kI h v1 0) ≤ v5 → (kT h v1 = 5 ∧ sem G r_Cl_isLastOfItsThing [.ref v1, .int v5] h (fun u2 h1 => ∃ x3 : Int32, u2 = some (.int x3) ∧ ((x3 = 0 → X G M Q 6 [(0, .ref v0), (1, .ref v1), (3, .int v3), (4, .int v4), (5, .int (v5 + 1))] [] h1) ∧ (¬ x3 = 0 → (kT h1 v1 = 5 ∧ kR h1 v1 1 = some (rf h1 v1 1) ∧ (kT h1 (rf h1 v1 1) = 50 ∧ vp_in v5 (kN h1 (rf h1 v1 1)) ∧ (kT h1 v0 = 2 ∧ kR h1 v0 4 = some (rf h1 v0 4) ∧ (kT h1 (rf h1 v0 4) = 50 ∧ vp_in (kI h1 (rf h1 v1 1) (Int32.toNatClampNeg v5)) (kN h1 (rf h1 v0 4)) ∧ (kT h1 v0 = 2 ∧ sem G r_Wo_newValue [.ref v0, .ref v1, .int v5, .int v3] h1 (fun u5 h4 => ∃ x6 : Int32, u5 = some (.int x6) ∧ (sem G r_WP_valueIn [.int v3, .int (kI h1 (rf h1 v1 1) (Int32.toNatClampNeg v5))] h4 (fun u8 h7 => ∃ x9 : Int32, u8 = some (.int x9) ∧ X G M Q 6 [(0, .ref v0), (1, .ref v1), (3, .int v3), (4, .int (v4 + ((kI h1 (rf h1 v0 4) (Int32.toNatClampNeg (kI h1 (rf h1 v1 1) (Int32.toNatClampNeg v5)))) * (x6 - x9)))), (5, .int (v5 + 1))] [] h7))))))))))))))) : X G M Q 6 [(0, .ref v0), (1, .ref v1), (3, .int v3), (4, .int v4), (5, .int v5)] [] h := by
  refine x_iload hM d_Wo_after_6 4 rfl ?_
  refine x_aload_n hM d_Wo_after_8 rfl 1 rfl ?_
  obtain ⟨c22, F⟩ := F
  refine x_geti hG hM ck_Cl 0 (Nat.le_of_ble_eq_true rfl) rfl rfl w_47 rfl d_Wo_after_9 c22 ?_
  refine x_icmp_ge (tgt := 67) hM d_Wo_after_12 (by decide) (fun q21 => ?_) (fun q21 => ?_)
  · replace F := F.1 q21
    refine x_iload hM d_Wo_after_67 3 rfl ?_
    exact x_ireturn hM d_Wo_after_69 rfl F
  · replace F := F.2 q21
    refine x_aload_n hM d_Wo_after_15 rfl 1 rfl ?_
    refine x_iload hM d_Wo_after_16 4 rfl ?_
    obtain ⟨c20, F⟩ := F
    refine x_callV hG hM (r' := r_Cl_isLastOfItsThing) (ci := 4) [.int v5] rfl rfl (Nat.le_of_ble_eq_true rfl) yk_Cl_isLastOfItsThing ⟨Nat.le_of_ble_eq_true rfl, Nat.le_of_ble_eq_true rfl⟩ w_564 w_565 w_566 rfl rfl (Nat.le_of_ble_eq_true rfl) d_Wo_after_18 c20 (sem_mono F ?_)
    intro u2 h1 F
    obtain ⟨x3, rfl, F⟩ := F
    refine x_if_eq (tgt := 61) hM d_Wo_after_21 (by decide) (fun q19 => ?_) (fun q19 => ?_)
    · replace F := F.1 q19
      refine x_iinc (v := (v5 + 1)) (lv2 := [(5, .int (v5 + 1)), (0, .ref v0), (1, .ref v1), (3, .int v3), (4, .int v4)]) hM d_Wo_after_61 (j := 4) rfl rfl (Nat.le_of_ble_eq_true rfl) rfl ?_
      refine x_goto (tgt := 6) hM d_Wo_after_64 (by decide) ?_
      refine x_sub [1, 2, 3, 4, 0] rfl ?_
      exact F
    · replace F := F.2 q19
      refine x_aload_n hM d_Wo_after_24 rfl 1 rfl ?_
      obtain ⟨c17, F⟩ := F
      obtain ⟨c18, F⟩ := F
      refine x_getr hG hM ck_Cl 1 (Nat.le_of_ble_eq_true rfl) rfl rfl w_49 rfl d_Wo_after_25 c17 c18 ?_
      refine x_iload hM d_Wo_after_28 4 rfl ?_
      obtain ⟨c15, F⟩ := F
      obtain ⟨c16, F⟩ := F
      refine x_iaload hG hM d_Wo_after_30 c15 c16 ?_
      refine x_istore (lv2 := [(6, .int (kI h1 (rf h1 v1 1) (Int32.toNatClampNeg v5))), (0, .ref v0), (1, .ref v1), (3, .int v3), (4, .int v4), (5, .int v5)]) hM d_Wo_after_31 (Nat.le_of_ble_eq_true rfl) rfl ?_
      refine x_iload hM d_Wo_after_33 4 rfl ?_
      refine x_aload_n hM d_Wo_after_35 rfl 1 rfl ?_
      obtain ⟨c13, F⟩ := F
      obtain ⟨c14, F⟩ := F
      refine x_getr hG hM ck_Wo 4 (Nat.le_of_ble_eq_true rfl) rfl rfl w_142 rfl d_Wo_after_36 c13 c14 ?_
      refine x_iload hM d_Wo_after_39 0 rfl ?_
      obtain ⟨c11, F⟩ := F
      obtain ⟨c12, F⟩ := F
      refine x_iaload hG hM d_Wo_after_41 c11 c12 ?_
      refine x_aload_n hM d_Wo_after_42 rfl 1 rfl ?_
      refine x_aload_n hM d_Wo_after_43 rfl 2 rfl ?_
      refine x_iload hM d_Wo_after_44 5 rfl ?_
      refine x_iload_n hM d_Wo_after_46 rfl 3 rfl ?_
      obtain ⟨c10, F⟩ := F
      refine x_callV hG hM (r' := r_Wo_newValue) (ci := 1) [.ref v1, .int v5, .int v3] rfl rfl (Nat.le_of_ble_eq_true rfl) yk_Wo_newValue ⟨Nat.le_of_ble_eq_true rfl, Nat.le_of_ble_eq_true rfl⟩ w_568 w_570 ws_Wo_newValue rfl rfl (Nat.le_of_ble_eq_true rfl) d_Wo_after_47 c10 (sem_mono F ?_)
      intro u5 h4 F
      obtain ⟨x6, rfl, F⟩ := F
      refine x_iload_n hM d_Wo_after_50 rfl 3 rfl ?_
      refine x_iload hM d_Wo_after_51 0 rfl ?_
      refine x_callSN hG hM (r' := r_WP_valueIn) [.int v3, .int (kI h1 (rf h1 v1 1) (Int32.toNatClampNeg v5))] rfl yk_WP_valueIn ⟨Nat.le_of_ble_eq_true rfl, Nat.le_of_ble_eq_true rfl⟩ w_572 w_558 rfl rfl (Nat.le_of_ble_eq_true rfl) d_Wo_after_53 (sem_mono F ?_)
      intro u8 h7 F
      obtain ⟨x9, rfl, F⟩ := F
      refine x_isub hM d_Wo_after_56 ?_
      refine x_imul hM d_Wo_after_57 ?_
      refine x_iadd hM d_Wo_after_58 ?_
      refine x_istore (lv2 := [(4, .int (v4 + ((kI h1 (rf h1 v0 4) (Int32.toNatClampNeg (kI h1 (rf h1 v1 1) (Int32.toNatClampNeg v5)))) * (x6 - x9)))), (6, .int (kI h1 (rf h1 v1 1) (Int32.toNatClampNeg v5))), (0, .ref v0), (1, .ref v1), (3, .int v3), (5, .int v5)]) hM d_Wo_after_59 (Nat.le_of_ble_eq_true rfl) rfl ?_
      refine x_iinc (v := (v5 + 1)) (lv2 := [(5, .int (v5 + 1)), (4, .int (v4 + ((kI h1 (rf h1 v0 4) (Int32.toNatClampNeg (kI h1 (rf h1 v1 1) (Int32.toNatClampNeg v5)))) * (x6 - x9)))), (6, .int (kI h1 (rf h1 v1 1) (Int32.toNatClampNeg v5))), (0, .ref v0), (1, .ref v1), (3, .int v3)]) hM d_Wo_after_61 (j := 5) rfl rfl (Nat.le_of_ble_eq_true rfl) rfl ?_
      refine x_goto (tgt := 6) hM d_Wo_after_64 (by decide) ?_
      refine x_sub [3, 4, 5, 1, 0] rfl ?_
      exact F
set_option maxRecDepth 100000 in
set_option maxHeartbeats 4000000 in
theorem S_Wo_newValue_0 {G : Gc} {M : Mc} {Q : State → Prop} {K : Option Value → Hp → Prop} (hG : gok G) (hM : mok G M r_Wo_newValue Q K) (v0 : Nat) (v1 : Nat) (v2 : Int32) (v3 : Int32) (h : Hp) (F : kT h v1 = 5 ∧ kR h v1 1 = some (rf h v1 1) ∧ (kT h (rf h v1 1) = 50 ∧ vp_in v2 (kN h (rf h v1 1)) ∧ (kT h v1 = 5 ∧ kR h v1 3 = some (rf h v1 3) ∧ (kT h (rf h v1 3) = 50 ∧ vp_in v2 (kN h (rf h v1 3)) ∧ (kT h v1 = 5 ∧ kR h v1 2 = some (rf h v1 2) ∧ (kT h (rf h v1 2) = 50 ∧ vp_in v2 (kN h (rf h v1 2)) ∧ (((kI h (rf h v1 2) (Int32.toNatClampNeg v2)) = 1 → (sem G r_WP_valueIn [.int v3, .int (kI h (rf h v1 3) (Int32.toNatClampNeg v2))] h (fun u10 h9 => ∃ x11 : Int32, u10 = some (.int x11) ∧ X G M Q 62 [(0, .ref v0), (4, .int (kI h (rf h v1 1) (Int32.toNatClampNeg v2))), (6, .int x11)] [] h9))) ∧ (¬ (kI h (rf h v1 2) (Int32.toNatClampNeg v2)) = 1 → (kT h v1 = 5 ∧ kR h v1 2 = some (rf h v1 2) ∧ (kT h (rf h v1 2) = 50 ∧ vp_in v2 (kN h (rf h v1 2)) ∧ (((kI h (rf h v1 2) (Int32.toNatClampNeg v2)) = 2 → (sem G r_WP_valueIn [.int v3, .int (kI h (rf h v1 1) (Int32.toNatClampNeg v2))] h (fun u2 h1 => ∃ x3 : Int32, u2 = some (.int x3) ∧ X G M Q 62 [(0, .ref v0), (4, .int (kI h (rf h v1 1) (Int32.toNatClampNeg v2))), (6, .int (x3 + (kI h (rf h v1 3) (Int32.toNatClampNeg v2))))] [] h1))) ∧ (¬ (kI h (rf h v1 2) (Int32.toNatClampNeg v2)) = 2 → X G M Q 62 [(0, .ref v0), (4, .int (kI h (rf h v1 1) (Int32.toNatClampNeg v2))), (6, .int (kI h (rf h v1 3) (Int32.toNatClampNeg v2)))] [] h)))))))))))) : X G M Q 0 [(0, .ref v0), (1, .ref v1), (2, .int v2), (3, .int v3)] [] h := by
  refine x_aload_n hM d_Wo_newValue_0 rfl 1 rfl ?_
  obtain ⟨c23, F⟩ := F
  obtain ⟨c24, F⟩ := F
  refine x_getr hG hM ck_Cl 1 (Nat.le_of_ble_eq_true rfl) rfl rfl w_49 rfl d_Wo_newValue_1 c23 c24 ?_
  refine x_iload_n hM d_Wo_newValue_4 rfl 2 rfl ?_
  obtain ⟨c21, F⟩ := F
  obtain ⟨c22, F⟩ := F
  refine x_iaload hG hM d_Wo_newValue_5 c21 c22 ?_
  refine x_istore (lv2 := [(4, .int (kI h (rf h v1 1) (Int32.toNatClampNeg v2))), (0, .ref v0), (1, .ref v1), (2, .int v2), (3, .int v3)]) hM d_Wo_newValue_6 (Nat.le_of_ble_eq_true rfl) rfl ?_
  refine x_aload_n hM d_Wo_newValue_8 rfl 2 rfl ?_
  obtain ⟨c19, F⟩ := F
  obtain ⟨c20, F⟩ := F
  refine x_getr hG hM ck_Cl 3 (Nat.le_of_ble_eq_true rfl) rfl rfl w_53 rfl d_Wo_newValue_9 c19 c20 ?_
  refine x_iload_n hM d_Wo_newValue_12 rfl 3 rfl ?_
  obtain ⟨c17, F⟩ := F
  obtain ⟨c18, F⟩ := F
  refine x_iaload hG hM d_Wo_newValue_13 c17 c18 ?_
  refine x_istore (lv2 := [(5, .int (kI h (rf h v1 3) (Int32.toNatClampNeg v2))), (4, .int (kI h (rf h v1 1) (Int32.toNatClampNeg v2))), (0, .ref v0), (1, .ref v1), (2, .int v2), (3, .int v3)]) hM d_Wo_newValue_14 (Nat.le_of_ble_eq_true rfl) rfl ?_
  refine x_iload hM d_Wo_newValue_16 0 rfl ?_
  refine x_istore (lv2 := [(6, .int (kI h (rf h v1 3) (Int32.toNatClampNeg v2))), (5, .int (kI h (rf h v1 3) (Int32.toNatClampNeg v2))), (4, .int (kI h (rf h v1 1) (Int32.toNatClampNeg v2))), (0, .ref v0), (1, .ref v1), (2, .int v2), (3, .int v3)]) hM d_Wo_newValue_18 (Nat.le_of_ble_eq_true rfl) rfl ?_
  refine x_aload_n hM d_Wo_newValue_20 rfl 4 rfl ?_
  obtain ⟨c15, F⟩ := F
  obtain ⟨c16, F⟩ := F
  refine x_getr hG hM ck_Cl 2 (Nat.le_of_ble_eq_true rfl) rfl rfl w_51 rfl d_Wo_newValue_21 c15 c16 ?_
  refine x_iload_n hM d_Wo_newValue_24 rfl 5 rfl ?_
  obtain ⟨c13, F⟩ := F
  obtain ⟨c14, F⟩ := F
  refine x_iaload hG hM d_Wo_newValue_25 c13 c14 ?_
  refine x_iconst (v := 1) hM d_Wo_newValue_26 (by decide) ?_
  refine x_icmp_ne (tgt := 41) hM d_Wo_newValue_27 (by decide) (fun q12 => ?_) (fun q12 => ?_)
  · replace F := F.2 q12
    refine x_aload_n hM d_Wo_newValue_41 rfl 4 rfl ?_
    obtain ⟨c7, F⟩ := F
    obtain ⟨c8, F⟩ := F
    refine x_getr hG hM ck_Cl 2 (Nat.le_of_ble_eq_true rfl) rfl rfl w_51 rfl d_Wo_newValue_42 c7 c8 ?_
    refine x_iload_n hM d_Wo_newValue_45 rfl 5 rfl ?_
    obtain ⟨c5, F⟩ := F
    obtain ⟨c6, F⟩ := F
    refine x_iaload hG hM d_Wo_newValue_46 c5 c6 ?_
    refine x_iconst (v := 2) hM d_Wo_newValue_47 (by decide) ?_
    refine x_icmp_ne (tgt := 62) hM d_Wo_newValue_48 (by decide) (fun q4 => ?_) (fun q4 => ?_)
    · replace F := F.2 q4
      refine x_sub [3, 2, 0] rfl ?_
      exact F
    · replace F := F.1 q4
      refine x_iload_n hM d_Wo_newValue_51 rfl 6 rfl ?_
      refine x_iload hM d_Wo_newValue_52 2 rfl ?_
      refine x_callSN hG hM (r' := r_WP_valueIn) [.int v3, .int (kI h (rf h v1 1) (Int32.toNatClampNeg v2))] rfl yk_WP_valueIn ⟨Nat.le_of_ble_eq_true rfl, Nat.le_of_ble_eq_true rfl⟩ w_572 w_558 rfl rfl (Nat.le_of_ble_eq_true rfl) d_Wo_newValue_54 (sem_mono F ?_)
      intro u2 h1 F
      obtain ⟨x3, rfl, F⟩ := F
      refine x_iload hM d_Wo_newValue_57 1 rfl ?_
      refine x_iadd hM d_Wo_newValue_59 ?_
      refine x_istore (lv2 := [(6, .int (x3 + (kI h (rf h v1 3) (Int32.toNatClampNeg v2)))), (5, .int (kI h (rf h v1 3) (Int32.toNatClampNeg v2))), (4, .int (kI h (rf h v1 1) (Int32.toNatClampNeg v2))), (0, .ref v0), (1, .ref v1), (2, .int v2), (3, .int v3)]) hM d_Wo_newValue_60 (Nat.le_of_ble_eq_true rfl) rfl ?_
      refine x_sub [3, 2, 0] rfl ?_
      exact F
  · replace F := F.1 q12
    refine x_iload_n hM d_Wo_newValue_30 rfl 6 rfl ?_
    refine x_iload hM d_Wo_newValue_31 1 rfl ?_
    refine x_callSN hG hM (r' := r_WP_valueIn) [.int v3, .int (kI h (rf h v1 3) (Int32.toNatClampNeg v2))] rfl yk_WP_valueIn ⟨Nat.le_of_ble_eq_true rfl, Nat.le_of_ble_eq_true rfl⟩ w_572 w_558 rfl rfl (Nat.le_of_ble_eq_true rfl) d_Wo_newValue_33 (sem_mono F ?_)
    intro u10 h9 F
    obtain ⟨x11, rfl, F⟩ := F
    refine x_istore (lv2 := [(6, .int x11), (5, .int (kI h (rf h v1 3) (Int32.toNatClampNeg v2))), (4, .int (kI h (rf h v1 1) (Int32.toNatClampNeg v2))), (0, .ref v0), (1, .ref v1), (2, .int v2), (3, .int v3)]) hM d_Wo_newValue_36 (Nat.le_of_ble_eq_true rfl) rfl ?_
    refine x_goto (tgt := 62) hM d_Wo_newValue_38 (by decide) ?_
    refine x_sub [3, 2, 0] rfl ?_
    exact F
set_option maxRecDepth 100000 in
set_option maxHeartbeats 4000000 in
theorem S_Wo_newValue_62 {G : Gc} {M : Mc} {Q : State → Prop} {K : Option Value → Hp → Prop} (hG : gok G) (hM : mok G M r_Wo_newValue Q K) (v0 : Nat) (v4 : Int32) (v6 : Int32) (h : Hp) (F : kT h v0 = 2 ∧ kR h v0 3 = some (rf h v0 3) ∧ (kT h (rf h v0 3) = 50 ∧ vp_in v4 (kN h (rf h v0 3)) ∧ ((¬ (kI h (rf h v0 3) (Int32.toNatClampNeg v4)) ≤ 0 → ¬ (kI h (rf h v0 3) (Int32.toNatClampNeg v4)) = 0) ∧ (∀ z1 : Int32, z1 = (if (kI h (rf h v0 3) (Int32.toNatClampNeg v4)) ≤ 0 then 0 else (v6 - v6 / (kI h (rf h v0 3) (Int32.toNatClampNeg v4)) * (kI h (rf h v0 3) (Int32.toNatClampNeg v4)))) → K (some (.int z1)) h)))) : X G M Q 62 [(0, .ref v0), (4, .int v4), (6, .int v6)] [] h := by
  refine x_aload_n hM d_Wo_newValue_62 rfl 0 rfl ?_
  obtain ⟨c6, F⟩ := F
  obtain ⟨c7, F⟩ := F
  refine x_getr hG hM ck_Wo 3 (Nat.le_of_ble_eq_true rfl) rfl rfl w_140 rfl d_Wo_newValue_63 c6 c7 ?_
  refine x_iload hM d_Wo_newValue_66 1 rfl ?_
  obtain ⟨c4, F⟩ := F
  obtain ⟨c5, F⟩ := F
  refine x_iaload hG hM d_Wo_newValue_68 c4 c5 ?_
  refine x_istore (lv2 := [(7, .int (kI h (rf h v0 3) (Int32.toNatClampNeg v4))), (0, .ref v0), (4, .int v4), (6, .int v6)]) hM d_Wo_newValue_69 (Nat.le_of_ble_eq_true rfl) rfl ?_
  refine x_iload hM d_Wo_newValue_71 0 rfl ?_
  obtain ⟨S, F⟩ := F
  have JJ : ∀ (z1 : Int32) (ez1 : z1 = (if (kI h (rf h v0 3) (Int32.toNatClampNeg v4)) ≤ 0 then 0 else (v6 - v6 / (kI h (rf h v0 3) (Int32.toNatClampNeg v4)) * (kI h (rf h v0 3) (Int32.toNatClampNeg v4))))), X G M Q 85 [] [.int z1] h := by
    intro z1 ez1
    replace F := F _ ez1
    exact x_ireturn hM d_Wo_newValue_85 rfl F
  refine x_if_le (tgt := 84) hM d_Wo_newValue_73 (by decide) (fun q2 => ?_) (fun q2 => ?_)
  · refine x_iconst (v := 0) hM d_Wo_newValue_84 (by decide) ?_
    refine x_sub [] rfl ?_
    exact JJ _ (Eq.symm (if_pos q2))
  · replace S := S q2
    refine x_iload hM d_Wo_newValue_76 3 rfl ?_
    refine x_iload hM d_Wo_newValue_78 0 rfl ?_
    have c3 := S
    refine x_irem hM d_Wo_newValue_80 c3 ?_
    refine x_goto (tgt := 85) hM d_Wo_newValue_81 (by decide) ?_
    refine x_sub [] rfl ?_
    exact JJ _ (Eq.symm (if_neg q2))
set_option maxRecDepth 100000 in
set_option maxHeartbeats 4000000 in
theorem S_Wo_prepare_0 {G : Gc} {M : Mc} {Q : State → Prop} {K : Option Value → Hp → Prop} (hG : gok G) (hM : mok G M r_Wo_prepare Q K) (v0 : Nat) (h : Hp) (F : kT h v0 = 2 ∧ (((kI h v0 9) = 0 → (kT h v0 = 2 ∧ (((kI h v0 8) = 0 → (kT h v0 = 2 ∧ sem G r_Wo_fillPacked [.ref v0] h (fun u2 h1 => u2 = none ∧ X G M Q 21 [(0, .ref v0), (1, .int 0)] [] h1))) ∧ (¬ (kI h v0 8) = 0 → X G M Q 21 [(0, .ref v0), (1, .int 0)] [] h)))) ∧ (¬ (kI h v0 9) = 0 → K none h))) : X G M Q 0 [(0, .ref v0)] [] h := by
  refine x_aload_n hM d_Wo_prepare_0 rfl 0 rfl ?_
  obtain ⟨c7, F⟩ := F
  refine x_geti hG hM ck_Wo 9 (Nat.le_of_ble_eq_true rfl) rfl rfl w_160 rfl d_Wo_prepare_1 c7 ?_
  refine x_if_eq (tgt := 8) hM d_Wo_prepare_4 (by decide) (fun q6 => ?_) (fun q6 => ?_)
  · replace F := F.1 q6
    refine x_aload_n hM d_Wo_prepare_8 rfl 0 rfl ?_
    obtain ⟨c5, F⟩ := F
    refine x_geti hG hM ck_Wo 8 (Nat.le_of_ble_eq_true rfl) rfl rfl w_159 rfl d_Wo_prepare_9 c5 ?_
    refine x_if_ne (tgt := 19) hM d_Wo_prepare_12 (by decide) (fun q4 => ?_) (fun q4 => ?_)
    · replace F := F.2 q4
      refine x_iconst (v := 0) hM d_Wo_prepare_19 (by decide) ?_
      refine x_istore_n (lv2 := [(1, .int 0), (0, .ref v0)]) hM d_Wo_prepare_20 rfl (Nat.le_of_ble_eq_true rfl) rfl ?_
      refine x_sub [1, 0] rfl ?_
      exact F
    · replace F := F.1 q4
      refine x_aload_n hM d_Wo_prepare_15 rfl 0 rfl ?_
      obtain ⟨c3, F⟩ := F
      refine x_callV hG hM (r' := r_Wo_fillPacked) (ci := 1) [] rfl rfl (Nat.le_of_ble_eq_true rfl) yk_Wo_fillPacked ⟨Nat.le_of_ble_eq_true rfl, Nat.le_of_ble_eq_true rfl⟩ w_581 w_583 ws_Wo_fillPacked rfl rfl (Nat.le_of_ble_eq_true rfl) d_Wo_prepare_16 c3 (sem_mono F ?_)
      intro u2 h1 F
      obtain ⟨rfl, F⟩ := F
      refine x_iconst (v := 0) hM d_Wo_prepare_19 (by decide) ?_
      refine x_istore_n (lv2 := [(1, .int 0), (0, .ref v0)]) hM d_Wo_prepare_20 rfl (Nat.le_of_ble_eq_true rfl) rfl ?_
      refine x_sub [1, 0] rfl ?_
      exact F
  · replace F := F.2 q6
    exact x_return hM d_Wo_prepare_7 rfl F
set_option maxRecDepth 100000 in
set_option maxHeartbeats 4000000 in
theorem S_Wo_prepare_21 {G : Gc} {M : Mc} {Q : State → Prop} {K : Option Value → Hp → Prop} (hG : gok G) (hM : mok G M r_Wo_prepare Q K) (v0 : Nat) (v1 : Int32) (h : Hp) (F : kT h v0 = 2 ∧ (((kI h v0 2) ≤ v1 → (kT h v0 = 2 ∧ sem G r_Wo_linkBack [.ref v0] h (fun u2 h1 => u2 = none ∧ (kT h1 v0 = 2 ∧ (∀ h3 : Hp, h3 = wI h1 v0 9 1 → K none h3))))) ∧ (¬ (kI h v0 2) ≤ v1 → (kT h v0 = 2 ∧ kR h v0 5 = some (rf h v0 5) ∧ (kT h (rf h v0 5) = 53 ∧ vp_in v1 (kN h (rf h v0 5)) ∧ kR h (rf h v0 5) (Int32.toNatClampNeg v1) = some (rf h (rf h v0 5) (Int32.toNatClampNeg v1)) ∧ (kT h (rf h (rf h v0 5) (Int32.toNatClampNeg v1)) = 3 ∧ (((kI h (rf h (rf h v0 5) (Int32.toNatClampNeg v1)) 3) = 0 → (kT h v0 = 2 ∧ kR h v0 5 = some (rf h v0 5) ∧ (kT h (rf h v0 5) = 53 ∧ vp_in v1 (kN h (rf h v0 5)) ∧ kR h (rf h v0 5) (Int32.toNatClampNeg v1) = some (rf h (rf h v0 5) (Int32.toNatClampNeg v1)) ∧ (kT h (rf h (rf h v0 5) (Int32.toNatClampNeg v1)) = 3 ∧ sem G r_Ac_fillRows [.ref (rf h (rf h v0 5) (Int32.toNatClampNeg v1)), .ref v0] h (fun u7 h6 => u7 = none ∧ X G M Q 21 [(0, .ref v0), (1, .int (v1 + 1))] [] h6))))) ∧ (¬ (kI h (rf h (rf h v0 5) (Int32.toNatClampNeg v1)) 3) = 0 → X G M Q 21 [(0, .ref v0), (1, .int (v1 + 1))] [] h)))))))) : X G M Q 21 [(0, .ref v0), (1, .int v1)] [] h := by
  refine x_iload_n hM d_Wo_prepare_21 rfl 1 rfl ?_
  refine x_aload_n hM d_Wo_prepare_22 rfl 0 rfl ?_
  obtain ⟨c22, F⟩ := F
  refine x_geti hG hM ck_Wo 2 (Nat.le_of_ble_eq_true rfl) rfl rfl w_133 rfl d_Wo_prepare_23 c22 ?_
  refine x_icmp_ge (tgt := 57) hM d_Wo_prepare_26 (by decide) (fun q21 => ?_) (fun q21 => ?_)
  · replace F := F.1 q21
    refine x_aload_n hM d_Wo_prepare_57 rfl 0 rfl ?_
    obtain ⟨c5, F⟩ := F
    refine x_callV hG hM (r' := r_Wo_linkBack) (ci := 1) [] rfl rfl (Nat.le_of_ble_eq_true rfl) yk_Wo_linkBack ⟨Nat.le_of_ble_eq_true rfl, Nat.le_of_ble_eq_true rfl⟩ w_599 w_601 ws_Wo_linkBack rfl rfl (Nat.le_of_ble_eq_true rfl) d_Wo_prepare_58 c5 (sem_mono F ?_)
    intro u2 h1 F
    obtain ⟨rfl, F⟩ := F
    refine x_aload_n hM d_Wo_prepare_61 rfl 0 rfl ?_
    refine x_iconst (v := 1) hM d_Wo_prepare_62 (by decide) ?_
    obtain ⟨c4, F⟩ := F
    replace F := F _ rfl
    refine x_putz hG hM ck_Wo 9 (Nat.le_of_ble_eq_true rfl) rfl rfl w_160 rfl d_Wo_prepare_63 (Or.inl rfl) c4 (Or.inr rfl) ?_
    exact x_return hM d_Wo_prepare_66 rfl F
  · replace F := F.2 q21
    refine x_aload_n hM d_Wo_prepare_29 rfl 0 rfl ?_
    obtain ⟨c19, F⟩ := F
    obtain ⟨c20, F⟩ := F
    refine x_getr hG hM ck_Wo 5 (Nat.le_of_ble_eq_true rfl) rfl rfl w_143 rfl d_Wo_prepare_30 c19 c20 ?_
    refine x_iload_n hM d_Wo_prepare_33 rfl 1 rfl ?_
    obtain ⟨c16, F⟩ := F
    obtain ⟨c17, F⟩ := F
    obtain ⟨c18, F⟩ := F
    refine x_aaload hG hM 53 rfl (Nat.le_of_ble_eq_true rfl) d_Wo_prepare_34 c16 c17 c18 ?_
    obtain ⟨c15, F⟩ := F
    refine x_geti hG hM ck_Ac 3 (Nat.le_of_ble_eq_true rfl) rfl rfl w_112 rfl d_Wo_prepare_35 c15 ?_
    refine x_if_ne (tgt := 51) hM d_Wo_prepare_38 (by decide) (fun q14 => ?_) (fun q14 => ?_)
    · replace F := F.2 q14
      refine x_iinc (v := (v1 + 1)) (lv2 := [(1, .int (v1 + 1)), (0, .ref v0)]) hM d_Wo_prepare_51 (j := 1) rfl rfl (Nat.le_of_ble_eq_true rfl) rfl ?_
      refine x_goto (tgt := 21) hM d_Wo_prepare_54 (by decide) ?_
      refine x_sub [1, 0] rfl ?_
      exact F
    · replace F := F.1 q14
      refine x_aload_n hM d_Wo_prepare_41 rfl 0 rfl ?_
      obtain ⟨c12, F⟩ := F
      obtain ⟨c13, F⟩ := F
      refine x_getr hG hM ck_Wo 5 (Nat.le_of_ble_eq_true rfl) rfl rfl w_143 rfl d_Wo_prepare_42 c12 c13 ?_
      refine x_iload_n hM d_Wo_prepare_45 rfl 1 rfl ?_
      obtain ⟨c9, F⟩ := F
      obtain ⟨c10, F⟩ := F
      obtain ⟨c11, F⟩ := F
      refine x_aaload hG hM 53 rfl (Nat.le_of_ble_eq_true rfl) d_Wo_prepare_46 c9 c10 c11 ?_
      refine x_aload_n hM d_Wo_prepare_47 rfl 0 rfl ?_
      obtain ⟨c8, F⟩ := F
      refine x_callV hG hM (r' := r_Ac_fillRows) (ci := 2) [.ref v0] rfl rfl (Nat.le_of_ble_eq_true rfl) yk_Ac_fillRows ⟨Nat.le_of_ble_eq_true rfl, Nat.le_of_ble_eq_true rfl⟩ w_592 w_593 w_594 rfl rfl (Nat.le_of_ble_eq_true rfl) d_Wo_prepare_48 c8 (sem_mono F ?_)
      intro u7 h6 F
      obtain ⟨rfl, F⟩ := F
      refine x_iinc (v := (v1 + 1)) (lv2 := [(1, .int (v1 + 1)), (0, .ref v0)]) hM d_Wo_prepare_51 (j := 1) rfl rfl (Nat.le_of_ble_eq_true rfl) rfl ?_
      refine x_goto (tgt := 21) hM d_Wo_prepare_54 (by decide) ?_
      refine x_sub [1, 0] rfl ?_
      exact F
set_option maxRecDepth 100000 in
set_option maxHeartbeats 4000000 in
theorem S_Wo_fillPacked_0 {G : Gc} {M : Mc} {Q : State → Prop} {K : Option Value → Hp → Prop} (hG : gok G) (hM : mok G M r_Wo_fillPacked Q K) (v0 : Nat) (h : Hp) (F : kT h v0 = 2 ∧ kR h v0 6 = some (rf h v0 6) ∧ (kT h v0 = 2 ∧ (sem G r_WP_rowFor [.ref (rf h v0 6), .int (kI h v0 1)] h (fun u2 h1 => ∃ x3 : Nat, u2 = some (.ref x3) ∧ (kT h1 v0 = 2 ∧ (∀ h4 : Hp, h4 = wR h1 v0 6 (some x3) → (kT h4 v0 = 2 ∧ kR h4 v0 7 = some (rf h4 v0 7) ∧ (kT h4 v0 = 2 ∧ (sem G r_WP_rowFor [.ref (rf h4 v0 7), .int (kI h4 v0 1)] h4 (fun u6 h5 => ∃ x7 : Nat, u6 = some (.ref x7) ∧ (kT h5 v0 = 2 ∧ (∀ h8 : Hp, h8 = wR h5 v0 7 (some x7) → X G M Q 32 [(0, .ref v0), (1, .int 0)] [] h8)))))))))))) : X G M Q 0 [(0, .ref v0)] [] h := by
  refine x_aload_n hM d_Wo_fillPacked_0 rfl 0 rfl ?_
  refine x_aload_n hM d_Wo_fillPacked_1 rfl 0 rfl ?_
  obtain ⟨c15, F⟩ := F
  obtain ⟨c16, F⟩ := F
  refine x_getr hG hM ck_Wo 6 (Nat.le_of_ble_eq_true rfl) rfl rfl w_150 rfl d_Wo_fillPacked_2 c15 c16 ?_
  refine x_aload_n hM d_Wo_fillPacked_5 rfl 0 rfl ?_
  obtain ⟨c14, F⟩ := F
  refine x_geti hG hM ck_Wo 1 (Nat.le_of_ble_eq_true rfl) rfl rfl w_125 rfl d_Wo_fillPacked_6 c14 ?_
  refine x_callSN hG hM (r' := r_WP_rowFor) [.ref (rf h v0 6), .int (kI h v0 1)] rfl yk_WP_rowFor ⟨Nat.le_of_ble_eq_true rfl, Nat.le_of_ble_eq_true rfl⟩ w_585 w_586 rfl rfl (Nat.le_of_ble_eq_true rfl) d_Wo_fillPacked_9 (sem_mono F ?_)
  intro u2 h1 F
  obtain ⟨x3, rfl, F⟩ := F
  obtain ⟨c13, F⟩ := F
  replace F := F _ rfl
  refine x_putr hG hM ck_Wo 6 (Nat.le_of_ble_eq_true rfl) (Or.inr ⟨_, rfl⟩) rfl w_150 rfl d_Wo_fillPacked_12 (Or.inl rfl) c13 ?_
  refine x_aload_n hM d_Wo_fillPacked_15 rfl 0 rfl ?_
  refine x_aload_n hM d_Wo_fillPacked_16 rfl 0 rfl ?_
  obtain ⟨c11, F⟩ := F
  obtain ⟨c12, F⟩ := F
  refine x_getr hG hM ck_Wo 7 (Nat.le_of_ble_eq_true rfl) rfl rfl w_156 rfl d_Wo_fillPacked_17 c11 c12 ?_
  refine x_aload_n hM d_Wo_fillPacked_20 rfl 0 rfl ?_
  obtain ⟨c10, F⟩ := F
  refine x_geti hG hM ck_Wo 1 (Nat.le_of_ble_eq_true rfl) rfl rfl w_125 rfl d_Wo_fillPacked_21 c10 ?_
  refine x_callSN hG hM (r' := r_WP_rowFor) [.ref (rf h4 v0 7), .int (kI h4 v0 1)] rfl yk_WP_rowFor ⟨Nat.le_of_ble_eq_true rfl, Nat.le_of_ble_eq_true rfl⟩ w_585 w_586 rfl rfl (Nat.le_of_ble_eq_true rfl) d_Wo_fillPacked_24 (sem_mono F ?_)
  intro u6 h5 F
  obtain ⟨x7, rfl, F⟩ := F
  obtain ⟨c9, F⟩ := F
  replace F := F _ rfl
  refine x_putr hG hM ck_Wo 7 (Nat.le_of_ble_eq_true rfl) (Or.inr ⟨_, rfl⟩) rfl w_156 rfl d_Wo_fillPacked_27 (Or.inl rfl) c9 ?_
  refine x_iconst (v := 0) hM d_Wo_fillPacked_30 (by decide) ?_
  refine x_istore_n (lv2 := [(1, .int 0), (0, .ref v0)]) hM d_Wo_fillPacked_31 rfl (Nat.le_of_ble_eq_true rfl) rfl ?_
  refine x_sub [1, 0] rfl ?_
  exact F
set_option maxRecDepth 100000 in
set_option maxHeartbeats 4000000 in
theorem S_Wo_fillPacked_32 {G : Gc} {M : Mc} {Q : State → Prop} {K : Option Value → Hp → Prop} (hG : gok G) (hM : mok G M r_Wo_fillPacked Q K) (v0 : Nat) (v1 : Int32) (h : Hp) (F : kT h v0 = 2 ∧ (((kI h v0 1) ≤ v1 → (kT h v0 = 2 ∧ (∀ h1 : Hp, h1 = wI h v0 8 1 → K none h1))) ∧ (¬ (kI h v0 1) ≤ v1 → (kT h v0 = 2 ∧ kR h v0 6 = some (rf h v0 6) ∧ (kT h v0 = 2 ∧ sem G r_Wo_pack [.ref v0, .int v1] h (fun u4 h3 => ∃ x5 : Int32, u4 = some (.int x5) ∧ (kT h3 (rf h v0 6) = 50 ∧ vp_in v1 (kN h3 (rf h v0 6)) ∧ (∀ h6 : Hp, h6 = wI h3 (rf h v0 6) (Int32.toNatClampNeg v1) x5 → X G M Q 32 [(0, .ref v0), (1, .int (v1 + 1))] [] h6)))))))) : X G M Q 32 [(0, .ref v0), (1, .int v1)] [] h := by
  refine x_iload_n hM d_Wo_fillPacked_32 rfl 1 rfl ?_
  refine x_aload_n hM d_Wo_fillPacked_33 rfl 0 rfl ?_
  obtain ⟨c13, F⟩ := F
  refine x_geti hG hM ck_Wo 1 (Nat.le_of_ble_eq_true rfl) rfl rfl w_125 rfl d_Wo_fillPacked_34 c13 ?_
  refine x_icmp_ge (tgt := 57) hM d_Wo_fillPacked_37 (by decide) (fun q12 => ?_) (fun q12 => ?_)
  · replace F := F.1 q12
    refine x_aload_n hM d_Wo_fillPacked_57 rfl 0 rfl ?_
    refine x_iconst (v := 1) hM d_Wo_fillPacked_58 (by decide) ?_
    obtain ⟨c2, F⟩ := F
    replace F := F _ rfl
    refine x_putz hG hM ck_Wo 8 (Nat.le_of_ble_eq_true rfl) rfl rfl w_159 rfl d_Wo_fillPacked_59 (Or.inl rfl) c2 (Or.inr rfl) ?_
    exact x_return hM d_Wo_fillPacked_62 rfl F
  · replace F := F.2 q12
    refine x_aload_n hM d_Wo_fillPacked_40 rfl 0 rfl ?_
    obtain ⟨c10, F⟩ := F
    obtain ⟨c11, F⟩ := F
    refine x_getr hG hM ck_Wo 6 (Nat.le_of_ble_eq_true rfl) rfl rfl w_150 rfl d_Wo_fillPacked_41 c10 c11 ?_
    refine x_iload_n hM d_Wo_fillPacked_44 rfl 1 rfl ?_
    refine x_aload_n hM d_Wo_fillPacked_45 rfl 0 rfl ?_
    refine x_iload_n hM d_Wo_fillPacked_46 rfl 1 rfl ?_
    obtain ⟨c9, F⟩ := F
    refine x_callV hG hM (r' := r_Wo_pack) (ci := 1) [.int v1] rfl rfl (Nat.le_of_ble_eq_true rfl) yk_Wo_pack ⟨Nat.le_of_ble_eq_true rfl, Nat.le_of_ble_eq_true rfl⟩ w_591 w_550 w_551 rfl rfl (Nat.le_of_ble_eq_true rfl) d_Wo_fillPacked_47 c9 (sem_mono F ?_)
    intro u4 h3 F
    obtain ⟨x5, rfl, F⟩ := F
    obtain ⟨c7, F⟩ := F
    obtain ⟨c8, F⟩ := F
    replace F := F _ rfl
    refine x_iastore hG hM d_Wo_fillPacked_50 c7 c8 ?_
    refine x_iinc (v := (v1 + 1)) (lv2 := [(1, .int (v1 + 1)), (0, .ref v0)]) hM d_Wo_fillPacked_51 (j := 1) rfl rfl (Nat.le_of_ble_eq_true rfl) rfl ?_
    refine x_goto (tgt := 32) hM d_Wo_fillPacked_54 (by decide) ?_
    refine x_sub [1, 0] rfl ?_
    exact F
set_option maxRecDepth 100000 in
set_option maxHeartbeats 4000000 in
theorem S_Wo_linkBack_0 {G : Gc} {M : Mc} {Q : State → Prop} {K : Option Value → Hp → Prop} (hG : gok G) (hM : mok G M r_Wo_linkBack Q K) (v0 : Nat) (h : Hp) (F : kT h v0 = 2 ∧ kR h v0 7 = some (rf h v0 7) ∧ (kT h v0 = 2 ∧ (sem G r_Ar_fill [.ref (rf h v0 7), .int 0, .int (kI h v0 1), .int (-1)] h (fun u2 h1 => u2 = none ∧ X G M Q 15 [(0, .ref v0), (1, .int 0)] [] h1)))) : X G M Q 0 [(0, .ref v0)] [] h := by
  refine x_aload_n hM d_Wo_linkBack_0 rfl 0 rfl ?_
  obtain ⟨c4, F⟩ := F
  obtain ⟨c5, F⟩ := F
  refine x_getr hG hM ck_Wo 7 (Nat.le_of_ble_eq_true rfl) rfl rfl w_156 rfl d_Wo_linkBack_1 c4 c5 ?_
  refine x_iconst (v := 0) hM d_Wo_linkBack_4 (by decide) ?_
  refine x_aload_n hM d_Wo_linkBack_5 rfl 0 rfl ?_
  obtain ⟨c3, F⟩ := F
  refine x_geti hG hM ck_Wo 1 (Nat.le_of_ble_eq_true rfl) rfl rfl w_125 rfl d_Wo_linkBack_6 c3 ?_
  refine x_iconst (v := (-1)) hM d_Wo_linkBack_9 (by decide) ?_
  refine x_callS hG hM (r' := r_Ar_fill) [.ref (rf h v0 7), .int 0, .int (kI h v0 1), .int (-1)] rfl yk_Ar_fill ⟨Nat.le_of_ble_eq_true rfl, Nat.le_of_ble_eq_true rfl⟩ w_603 w_604 rfl rfl (Nat.le_of_ble_eq_true rfl) d_Wo_linkBack_10 (sem_mono F ?_)
  intro u2 h1 F
  obtain ⟨rfl, F⟩ := F
  refine x_iconst (v := 0) hM d_Wo_linkBack_13 (by decide) ?_
  refine x_istore_n (lv2 := [(1, .int 0), (0, .ref v0)]) hM d_Wo_linkBack_14 rfl (Nat.le_of_ble_eq_true rfl) rfl ?_
  refine x_sub [1, 0] rfl ?_
  exact F
set_option maxRecDepth 100000 in
set_option maxHeartbeats 4000000 in
theorem S_Wo_linkBack_15 {G : Gc} {M : Mc} {Q : State → Prop} {K : Option Value → Hp → Prop} (hG : gok G) (hM : mok G M r_Wo_linkBack Q K) (v0 : Nat) (v1 : Int32) (h : Hp) (F : kT h v0 = 2 ∧ (((kI h v0 2) ≤ v1 → K none h) ∧ (¬ (kI h v0 2) ≤ v1 → X G M Q 25 [(0, .ref v0), (1, .int v1), (2, .int 0)] [] h))) : X G M Q 15 [(0, .ref v0), (1, .int v1)] [] h := by
  refine x_iload_n hM d_Wo_linkBack_15 rfl 1 rfl ?_
  refine x_aload_n hM d_Wo_linkBack_16 rfl 0 rfl ?_
  obtain ⟨c2, F⟩ := F
  refine x_geti hG hM ck_Wo 2 (Nat.le_of_ble_eq_true rfl) rfl rfl w_133 rfl d_Wo_linkBack_17 c2 ?_
  refine x_icmp_ge (tgt := 71) hM d_Wo_linkBack_20 (by decide) (fun q1 => ?_) (fun q1 => ?_)
  · replace F := F.1 q1
    exact x_return hM d_Wo_linkBack_71 rfl F
  · replace F := F.2 q1
    refine x_iconst (v := 0) hM d_Wo_linkBack_23 (by decide) ?_
    refine x_istore_n (lv2 := [(2, .int 0), (0, .ref v0), (1, .int v1)]) hM d_Wo_linkBack_24 rfl (Nat.le_of_ble_eq_true rfl) rfl ?_
    refine x_sub [1, 2, 0] rfl ?_
    exact F
set_option maxRecDepth 100000 in
set_option maxHeartbeats 4000000 in
theorem S_Wo_linkBack_25 {G : Gc} {M : Mc} {Q : State → Prop} {K : Option Value → Hp → Prop} (hG : gok G) (hM : mok G M r_Wo_linkBack Q K) (v0 : Nat) (v1 : Int32) (v2 : Int32) (h : Hp) (F : kT h v0 = 2 ∧ kR h v0 5 = some (rf h v0 5) ∧ (kT h (rf h v0 5) = 53 ∧ vp_in v1 (kN h (rf h v0 5)) ∧ kR h (rf h v0 5) (Int32.toNatClampNeg v1) = some (rf h (rf h v0 5) (Int32.toNatClampNeg v1)) ∧ (kT h (rf h (rf h v0 5) (Int32.toNatClampNeg v1)) = 3 ∧ (((kI h (rf h (rf h v0 5) (Int32.toNatClampNeg v1)) 2) ≤ v2 → X G M Q 15 [(0, .ref v0), (1, .int (v1 + 1))] [] h) ∧ (¬ (kI h (rf h (rf h v0 5) (Int32.toNatClampNeg v1)) 2) ≤ v2 → (kT h v0 = 2 ∧ kR h v0 5 = some (rf h v0 5) ∧ (kT h (rf h v0 5) = 53 ∧ vp_in v1 (kN h (rf h v0 5)) ∧ kR h (rf h v0 5) (Int32.toNatClampNeg v1) = some (rf h (rf h v0 5) (Int32.toNatClampNeg v1)) ∧ (kT h (rf h (rf h v0 5) (Int32.toNatClampNeg v1)) = 3 ∧ kR h (rf h (rf h v0 5) (Int32.toNatClampNeg v1)) 1 = some (rf h (rf h (rf h v0 5) (Int32.toNatClampNeg v1)) 1) ∧ (kT h (rf h (rf h (rf h v0 5) (Int32.toNatClampNeg v1)) 1) = 54 ∧ vp_in v2 (kN h (rf h (rf h (rf h v0 5) (Int32.toNatClampNeg v1)) 1)) ∧ kR h (rf h (rf h (rf h v0 5) (Int32.toNatClampNeg v1)) 1) (Int32.toNatClampNeg v2) = some (rf h (rf h (rf h (rf h v0 5) (Int32.toNatClampNeg v1)) 1) (Int32.toNatClampNeg v2)) ∧ (sem G r_WP_edgeOf [.int v1, .int v2, .int 0] h (fun u2 h1 => ∃ x3 : Int32, u2 = some (.int x3) ∧ (kT h1 v0 = 2 ∧ sem G r_Wo_linkOutcome [.ref v0, .ref (rf h (rf h (rf h (rf h v0 5) (Int32.toNatClampNeg v1)) 1) (Int32.toNatClampNeg v2)), .int x3] h1 (fun u5 h4 => u5 = none ∧ X G M Q 25 [(0, .ref v0), (1, .int v1), (2, .int (v2 + 1))] [] h4))))))))))))) : X G M Q 25 [(0, .ref v0), (1, .int v1), (2, .int v2)] [] h := by
  refine x_iload_n hM d_Wo_linkBack_25 rfl 2 rfl ?_
  refine x_aload_n hM d_Wo_linkBack_26 rfl 0 rfl ?_
  obtain ⟨c22, F⟩ := F
  obtain ⟨c23, F⟩ := F
  refine x_getr hG hM ck_Wo 5 (Nat.le_of_ble_eq_true rfl) rfl rfl w_143 rfl d_Wo_linkBack_27 c22 c23 ?_
  refine x_iload_n hM d_Wo_linkBack_30 rfl 1 rfl ?_
  obtain ⟨c19, F⟩ := F
  obtain ⟨c20, F⟩ := F
  obtain ⟨c21, F⟩ := F
  refine x_aaload hG hM 53 rfl (Nat.le_of_ble_eq_true rfl) d_Wo_linkBack_31 c19 c20 c21 ?_
  obtain ⟨c18, F⟩ := F
  refine x_geti hG hM ck_Ac 2 (Nat.le_of_ble_eq_true rfl) rfl rfl w_109 rfl d_Wo_linkBack_32 c18 ?_
  refine x_icmp_ge (tgt := 65) hM d_Wo_linkBack_35 (by decide) (fun q17 => ?_) (fun q17 => ?_)
  · replace F := F.1 q17
    refine x_iinc (v := (v1 + 1)) (lv2 := [(1, .int (v1 + 1)), (0, .ref v0), (2, .int v2)]) hM d_Wo_linkBack_65 (j := 1) rfl rfl (Nat.le_of_ble_eq_true rfl) rfl ?_
    refine x_goto (tgt := 15) hM d_Wo_linkBack_68 (by decide) ?_
    refine x_sub [1, 0] rfl ?_
    exact F
  · replace F := F.2 q17
    refine x_aload_n hM d_Wo_linkBack_38 rfl 0 rfl ?_
    refine x_aload_n hM d_Wo_linkBack_39 rfl 0 rfl ?_
    obtain ⟨c15, F⟩ := F
    obtain ⟨c16, F⟩ := F
    refine x_getr hG hM ck_Wo 5 (Nat.le_of_ble_eq_true rfl) rfl rfl w_143 rfl d_Wo_linkBack_40 c15 c16 ?_
    refine x_iload_n hM d_Wo_linkBack_43 rfl 1 rfl ?_
    obtain ⟨c12, F⟩ := F
    obtain ⟨c13, F⟩ := F
    obtain ⟨c14, F⟩ := F
    refine x_aaload hG hM 53 rfl (Nat.le_of_ble_eq_true rfl) d_Wo_linkBack_44 c12 c13 c14 ?_
    obtain ⟨c10, F⟩ := F
    obtain ⟨c11, F⟩ := F
    refine x_getr hG hM ck_Ac 1 (Nat.le_of_ble_eq_true rfl) rfl rfl w_103 rfl d_Wo_linkBack_45 c10 c11 ?_
    refine x_iload_n hM d_Wo_linkBack_48 rfl 2 rfl ?_
    obtain ⟨c7, F⟩ := F
    obtain ⟨c8, F⟩ := F
    obtain ⟨c9, F⟩ := F
    refine x_aaload hG hM 54 rfl (Nat.le_of_ble_eq_true rfl) d_Wo_linkBack_49 c7 c8 c9 ?_
    refine x_iload_n hM d_Wo_linkBack_50 rfl 1 rfl ?_
    refine x_iload_n hM d_Wo_linkBack_51 rfl 2 rfl ?_
    refine x_iconst (v := 0) hM d_Wo_linkBack_52 (by decide) ?_
    refine x_callSN hG hM (r' := r_WP_edgeOf) [.int v1, .int v2, .int 0] rfl yk_WP_edgeOf ⟨Nat.le_of_ble_eq_true rfl, Nat.le_of_ble_eq_true rfl⟩ w_609 w_610 rfl rfl (Nat.le_of_ble_eq_true rfl) d_Wo_linkBack_53 (sem_mono F ?_)
    intro u2 h1 F
    obtain ⟨x3, rfl, F⟩ := F
    obtain ⟨c6, F⟩ := F
    refine x_callV hG hM (r' := r_Wo_linkOutcome) (ci := 1) [.ref (rf h (rf h (rf h (rf h v0 5) (Int32.toNatClampNeg v1)) 1) (Int32.toNatClampNeg v2)), .int x3] rfl rfl (Nat.le_of_ble_eq_true rfl) yk_Wo_linkOutcome ⟨Nat.le_of_ble_eq_true rfl, Nat.le_of_ble_eq_true rfl⟩ w_612 w_614 ws_Wo_linkOutcome rfl rfl (Nat.le_of_ble_eq_true rfl) d_Wo_linkBack_56 c6 (sem_mono F ?_)
    intro u5 h4 F
    obtain ⟨rfl, F⟩ := F
    refine x_iinc (v := (v2 + 1)) (lv2 := [(2, .int (v2 + 1)), (0, .ref v0), (1, .int v1)]) hM d_Wo_linkBack_59 (j := 2) rfl rfl (Nat.le_of_ble_eq_true rfl) rfl ?_
    refine x_goto (tgt := 25) hM d_Wo_linkBack_62 (by decide) ?_
    refine x_sub [1, 2, 0] rfl ?_
    exact F
set_option maxRecDepth 100000 in
set_option maxHeartbeats 4000000 in
theorem S_Wo_linkOutcome_0 {G : Gc} {M : Mc} {Q : State → Prop} {K : Option Value → Hp → Prop} (hG : gok G) (hM : mok G M r_Wo_linkOutcome Q K) (v0 : Nat) (v1 : Nat) (v2 : Int32) (h : Hp) (F : X G M Q 2 [(0, .ref v0), (1, .ref v1), (2, .int v2), (3, .int 0)] [] h) : X G M Q 0 [(0, .ref v0), (1, .ref v1), (2, .int v2)] [] h := by
  refine x_iconst (v := 0) hM d_Wo_linkOutcome_0 (by decide) ?_
  refine x_istore_n (lv2 := [(3, .int 0), (0, .ref v0), (1, .ref v1), (2, .int v2)]) hM d_Wo_linkOutcome_1 rfl (Nat.le_of_ble_eq_true rfl) rfl ?_
  refine x_sub [1, 2, 3, 0] rfl ?_
  exact F
set_option maxRecDepth 100000 in
set_option maxHeartbeats 4000000 in
theorem S_Wo_linkOutcome_2 {G : Gc} {M : Mc} {Q : State → Prop} {K : Option Value → Hp → Prop} (hG : gok G) (hM : mok G M r_Wo_linkOutcome Q K) (v0 : Nat) (v1 : Nat) (v2 : Int32) (v3 : Int32) (h : Hp) (F : kT h v0 = 2 ∧ (((kI h v0 1) ≤ v3 → K none h) ∧ (¬ (kI h v0 1) ≤ v3 → (kT h v1 = 4 ∧ kR h v1 1 = some (rf h v1 1) ∧ (kT h (rf h v1 1) = 50 ∧ vp_in v3 (kN h (rf h v1 1)) ∧ (((kI h (rf h v1 1) (Int32.toNatClampNeg v3)) = (-1) → X G M Q 2 [(0, .ref v0), (1, .ref v1), (2, .int v2), (3, .int (v3 + 1))] [] h) ∧ (¬ (kI h (rf h v1 1) (Int32.toNatClampNeg v3)) = (-1) → (kT h v1 = 4 ∧ kR h v1 2 = some (rf h v1 2) ∧ (kT h v0 = 2 ∧ kR h v0 7 = some (rf h v0 7) ∧ (kT h (rf h v0 7) = 50 ∧ vp_in (kI h (rf h v1 1) (Int32.toNatClampNeg v3)) (kN h (rf h v0 7)) ∧ (kT h (rf h v1 2) = 50 ∧ vp_in v3 (kN h (rf h v1 2)) ∧ (∀ h1 : Hp, h1 = wI h (rf h v1 2) (Int32.toNatClampNeg v3) (kI h (rf h v0 7) (Int32.toNatClampNeg (kI h (rf h v1 1) (Int32.toNatClampNeg v3)))) → (kT h1 v0 = 2 ∧ kR h1 v0 7 = some (rf h1 v0 7) ∧ (kT h1 (rf h1 v0 7) = 50 ∧ vp_in (kI h (rf h v1 1) (Int32.toNatClampNeg v3)) (kN h1 (rf h1 v0 7)) ∧ (∀ h2 : Hp, h2 = wI h1 (rf h1 v0 7) (Int32.toNatClampNeg (kI h (rf h v1 1) (Int32.toNatClampNeg v3))) (v2 + v3) → X G M Q 2 [(0, .ref v0), (1, .ref v1), (2, .int v2), (3, .int (v3 + 1))] [] h2))))))))))))))) : X G M Q 2 [(0, .ref v0), (1, .ref v1), (2, .int v2), (3, .int v3)] [] h := by
  refine x_iload_n hM d_Wo_linkOutcome_2 rfl 3 rfl ?_
  refine x_aload_n hM d_Wo_linkOutcome_3 rfl 0 rfl ?_
  obtain ⟨c21, F⟩ := F
  refine x_geti hG hM ck_Wo 1 (Nat.le_of_ble_eq_true rfl) rfl rfl w_125 rfl d_Wo_linkOutcome_4 c21 ?_
  refine x_icmp_ge (tgt := 53) hM d_Wo_linkOutcome_7 (by decide) (fun q20 => ?_) (fun q20 => ?_)
  · replace F := F.1 q20
    exact x_return hM d_Wo_linkOutcome_53 rfl F
  · replace F := F.2 q20
    refine x_aload_n hM d_Wo_linkOutcome_10 rfl 1 rfl ?_
    obtain ⟨c18, F⟩ := F
    obtain ⟨c19, F⟩ := F
    refine x_getr hG hM ck_Ou 1 (Nat.le_of_ble_eq_true rfl) rfl rfl w_83 rfl d_Wo_linkOutcome_11 c18 c19 ?_
    refine x_iload_n hM d_Wo_linkOutcome_14 rfl 3 rfl ?_
    obtain ⟨c16, F⟩ := F
    obtain ⟨c17, F⟩ := F
    refine x_iaload hG hM d_Wo_linkOutcome_15 c16 c17 ?_
    refine x_istore (lv2 := [(4, .int (kI h (rf h v1 1) (Int32.toNatClampNeg v3))), (0, .ref v0), (1, .ref v1), (2, .int v2), (3, .int v3)]) hM d_Wo_linkOutcome_16 (Nat.le_of_ble_eq_true rfl) rfl ?_
    refine x_iload hM d_Wo_linkOutcome_18 0 rfl ?_
    refine x_iconst (v := (-1)) hM d_Wo_linkOutcome_20 (by decide) ?_
    refine x_icmp_eq (tgt := 47) hM d_Wo_linkOutcome_21 (by decide) (fun q15 => ?_) (fun q15 => ?_)
    · replace F := F.1 q15
      refine x_iinc (v := (v3 + 1)) (lv2 := [(3, .int (v3 + 1)), (4, .int (kI h (rf h v1 1) (Int32.toNatClampNeg v3))), (0, .ref v0), (1, .ref v1), (2, .int v2)]) hM d_Wo_linkOutcome_47 (j := 4) rfl rfl (Nat.le_of_ble_eq_true rfl) rfl ?_
      refine x_goto (tgt := 2) hM d_Wo_linkOutcome_50 (by decide) ?_
      refine x_sub [2, 3, 4, 0] rfl ?_
      exact F
    · replace F := F.2 q15
      refine x_aload_n hM d_Wo_linkOutcome_24 rfl 2 rfl ?_
      obtain ⟨c13, F⟩ := F
      obtain ⟨c14, F⟩ := F
      refine x_getr hG hM ck_Ou 2 (Nat.le_of_ble_eq_true rfl) rfl rfl w_86 rfl d_Wo_linkOutcome_25 c13 c14 ?_
      refine x_iload_n hM d_Wo_linkOutcome_28 rfl 4 rfl ?_
      refine x_aload_n hM d_Wo_linkOutcome_29 rfl 1 rfl ?_
      obtain ⟨c11, F⟩ := F
      obtain ⟨c12, F⟩ := F
      refine x_getr hG hM ck_Wo 7 (Nat.le_of_ble_eq_true rfl) rfl rfl w_156 rfl d_Wo_linkOutcome_30 c11 c12 ?_
      refine x_iload hM d_Wo_linkOutcome_33 0 rfl ?_
      obtain ⟨c9, F⟩ := F
      obtain ⟨c10, F⟩ := F
      refine x_iaload hG hM d_Wo_linkOutcome_35 c9 c10 ?_
      obtain ⟨c7, F⟩ := F
      obtain ⟨c8, F⟩ := F
      replace F := F _ rfl
      refine x_iastore hG hM d_Wo_linkOutcome_36 c7 c8 ?_
      refine x_aload_n hM d_Wo_linkOutcome_37 rfl 1 rfl ?_
      obtain ⟨c5, F⟩ := F
      obtain ⟨c6, F⟩ := F
      refine x_getr hG hM ck_Wo 7 (Nat.le_of_ble_eq_true rfl) rfl rfl w_156 rfl d_Wo_linkOutcome_38 c5 c6 ?_
      refine x_iload hM d_Wo_linkOutcome_41 0 rfl ?_
      refine x_iload_n hM d_Wo_linkOutcome_43 rfl 3 rfl ?_
      refine x_iload_n hM d_Wo_linkOutcome_44 rfl 4 rfl ?_
      refine x_iadd hM d_Wo_linkOutcome_45 ?_
      obtain ⟨c3, F⟩ := F
      obtain ⟨c4, F⟩ := F
      replace F := F _ rfl
      refine x_iastore hG hM d_Wo_linkOutcome_46 c3 c4 ?_
      refine x_iinc (v := (v3 + 1)) (lv2 := [(3, .int (v3 + 1)), (4, .int (kI h (rf h v1 1) (Int32.toNatClampNeg v3))), (0, .ref v0), (1, .ref v1), (2, .int v2)]) hM d_Wo_linkOutcome_47 (j := 4) rfl rfl (Nat.le_of_ble_eq_true rfl) rfl ?_
      refine x_goto (tgt := 2) hM d_Wo_linkOutcome_50 (by decide) ?_
      refine x_sub [2, 3, 4, 0] rfl ?_
      exact F
set_option maxRecDepth 100000 in
set_option maxHeartbeats 4000000 in
theorem S_Wo_nextInto_0 {G : Gc} {M : Mc} {Q : State → Prop} {K : Option Value → Hp → Prop} (hG : gok G) (hM : mok G M r_Wo_nextInto Q K) (v0 : Nat) (v1 : Int32) (h : Hp) (F : kT h v0 = 2 ∧ kR h v0 5 = some (rf h v0 5) ∧ (kT h (rf h v0 5) = 53 ∧ vp_in (v1 >>> (14 &&& 31)) (kN h (rf h v0 5)) ∧ kR h (rf h v0 5) (Int32.toNatClampNeg (v1 >>> (14 &&& 31))) = some (rf h (rf h v0 5) (Int32.toNatClampNeg (v1 >>> (14 &&& 31)))) ∧ (kT h (rf h (rf h v0 5) (Int32.toNatClampNeg (v1 >>> (14 &&& 31)))) = 3 ∧ kR h (rf h (rf h v0 5) (Int32.toNatClampNeg (v1 >>> (14 &&& 31)))) 1 = some (rf h (rf h (rf h v0 5) (Int32.toNatClampNeg (v1 >>> (14 &&& 31)))) 1) ∧ (kT h (rf h (rf h (rf h v0 5) (Int32.toNatClampNeg (v1 >>> (14 &&& 31)))) 1) = 54 ∧ vp_in ((v1 >>> (12 &&& 31)) &&& 3) (kN h (rf h (rf h (rf h v0 5) (Int32.toNatClampNeg (v1 >>> (14 &&& 31)))) 1)) ∧ kR h (rf h (rf h (rf h v0 5) (Int32.toNatClampNeg (v1 >>> (14 &&& 31)))) 1) (Int32.toNatClampNeg ((v1 >>> (12 &&& 31)) &&& 3)) = some (rf h (rf h (rf h (rf h v0 5) (Int32.toNatClampNeg (v1 >>> (14 &&& 31)))) 1) (Int32.toNatClampNeg ((v1 >>> (12 &&& 31)) &&& 3))) ∧ (kT h (rf h (rf h (rf h (rf h v0 5) (Int32.toNatClampNeg (v1 >>> (14 &&& 31)))) 1) (Int32.toNatClampNeg ((v1 >>> (12 &&& 31)) &&& 3))) = 4 ∧ kR h (rf h (rf h (rf h (rf h v0 5) (Int32.toNatClampNeg (v1 >>> (14 &&& 31)))) 1) (Int32.toNatClampNeg ((v1 >>> (12 &&& 31)) &&& 3))) 2 = some (rf h (rf h (rf h (rf h (rf h v0 5) (Int32.toNatClampNeg (v1 >>> (14 &&& 31)))) 1) (Int32.toNatClampNeg ((v1 >>> (12 &&& 31)) &&& 3))) 2) ∧ (kT h (rf h (rf h (rf h (rf h (rf h v0 5) (Int32.toNatClampNeg (v1 >>> (14 &&& 31)))) 1) (Int32.toNatClampNeg ((v1 >>> (12 &&& 31)) &&& 3))) 2) = 50 ∧ vp_in (v1 &&& 4095) (kN h (rf h (rf h (rf h (rf h (rf h v0 5) (Int32.toNatClampNeg (v1 >>> (14 &&& 31)))) 1) (Int32.toNatClampNeg ((v1 >>> (12 &&& 31)) &&& 3))) 2)) ∧ K (some (.int (kI h (rf h (rf h (rf h (rf h (rf h v0 5) (Int32.toNatClampNeg (v1 >>> (14 &&& 31)))) 1) (Int32.toNatClampNeg ((v1 >>> (12 &&& 31)) &&& 3))) 2) (Int32.toNatClampNeg (v1 &&& 4095))))) h)))))) : X G M Q 0 [(0, .ref v0), (1, .int v1)] [] h := by
  refine x_aload_n hM d_Wo_nextInto_0 rfl 0 rfl ?_
  obtain ⟨c13, F⟩ := F
  obtain ⟨c14, F⟩ := F
  refine x_getr hG hM ck_Wo 5 (Nat.le_of_ble_eq_true rfl) rfl rfl w_143 rfl d_Wo_nextInto_1 c13 c14 ?_
  refine x_iload_n hM d_Wo_nextInto_4 rfl 1 rfl ?_
  refine x_bipush (v := 14) hM d_Wo_nextInto_5 (by decide) ?_
  refine x_ishr hM d_Wo_nextInto_7 ?_
  obtain ⟨c10, F⟩ := F
  obtain ⟨c11, F⟩ := F
  obtain ⟨c12, F⟩ := F
  refine x_aaload hG hM 53 rfl (Nat.le_of_ble_eq_true rfl) d_Wo_nextInto_8 c10 c11 c12 ?_
  obtain ⟨c8, F⟩ := F
  obtain ⟨c9, F⟩ := F
  refine x_getr hG hM ck_Ac 1 (Nat.le_of_ble_eq_true rfl) rfl rfl w_103 rfl d_Wo_nextInto_9 c8 c9 ?_
  refine x_iload_n hM d_Wo_nextInto_12 rfl 1 rfl ?_
  refine x_bipush (v := 12) hM d_Wo_nextInto_13 (by decide) ?_
  refine x_ishr hM d_Wo_nextInto_15 ?_
  refine x_iconst (v := 3) hM d_Wo_nextInto_16 (by decide) ?_
  refine x_iand hM d_Wo_nextInto_17 ?_
  obtain ⟨c5, F⟩ := F
  obtain ⟨c6, F⟩ := F
  obtain ⟨c7, F⟩ := F
  refine x_aaload hG hM 54 rfl (Nat.le_of_ble_eq_true rfl) d_Wo_nextInto_18 c5 c6 c7 ?_
  obtain ⟨c3, F⟩ := F
  obtain ⟨c4, F⟩ := F
  refine x_getr hG hM ck_Ou 2 (Nat.le_of_ble_eq_true rfl) rfl rfl w_86 rfl d_Wo_nextInto_19 c3 c4 ?_
  refine x_iload_n hM d_Wo_nextInto_22 rfl 1 rfl ?_
  refine x_sipush (v := 4095) hM d_Wo_nextInto_23 (by decide) ?_
  refine x_iand hM d_Wo_nextInto_26 ?_
  obtain ⟨c1, F⟩ := F
  obtain ⟨c2, F⟩ := F
  refine x_iaload hG hM d_Wo_nextInto_27 c1 c2 ?_
  exact x_ireturn hM d_Wo_nextInto_28 rfl F
set_option maxRecDepth 100000 in
set_option maxHeartbeats 4000000 in
theorem S_Wo_behind_0 {G : Gc} {M : Mc} {Q : State → Prop} {K : Option Value → Hp → Prop} (hG : gok G) (hM : mok G M r_Wo_behind Q K) (v0 : Nat) (v1 : Int32) (h : Hp) (F : kT h v0 = 2 ∧ kR h v0 5 = some (rf h v0 5) ∧ (sem G r_WP_actOf [.int v1] h (fun u2 h1 => ∃ x3 : Int32, u2 = some (.int x3) ∧ (kT h1 (rf h v0 5) = 53 ∧ vp_in x3 (kN h1 (rf h v0 5)) ∧ kR h1 (rf h v0 5) (Int32.toNatClampNeg x3) = some (rf h1 (rf h v0 5) (Int32.toNatClampNeg x3)) ∧ (kT h1 (rf h1 (rf h v0 5) (Int32.toNatClampNeg x3)) = 3 ∧ kR h1 (rf h1 (rf h v0 5) (Int32.toNatClampNeg x3)) 1 = some (rf h1 (rf h1 (rf h v0 5) (Int32.toNatClampNeg x3)) 1) ∧ (sem G r_WP_outcomeOf [.int v1] h1 (fun u5 h4 => ∃ x6 : Int32, u5 = some (.int x6) ∧ (kT h4 (rf h1 (rf h1 (rf h v0 5) (Int32.toNatClampNeg x3)) 1) = 54 ∧ vp_in x6 (kN h4 (rf h1 (rf h1 (rf h v0 5) (Int32.toNatClampNeg x3)) 1)) ∧ kR h4 (rf h1 (rf h1 (rf h v0 5) (Int32.toNatClampNeg x3)) 1) (Int32.toNatClampNeg x6) = some (rf h4 (rf h1 (rf h1 (rf h v0 5) (Int32.toNatClampNeg x3)) 1) (Int32.toNatClampNeg x6)) ∧ (kT h4 (rf h4 (rf h1 (rf h1 (rf h v0 5) (Int32.toNatClampNeg x3)) 1) (Int32.toNatClampNeg x6)) = 4 ∧ kR h4 (rf h4 (rf h1 (rf h1 (rf h v0 5) (Int32.toNatClampNeg x3)) 1) (Int32.toNatClampNeg x6)) 1 = some (rf h4 (rf h4 (rf h1 (rf h1 (rf h v0 5) (Int32.toNatClampNeg x3)) 1) (Int32.toNatClampNeg x6)) 1) ∧ (sem G r_WP_stateOf [.int v1] h4 (fun u8 h7 => ∃ x9 : Int32, u8 = some (.int x9) ∧ (kT h7 (rf h4 (rf h4 (rf h1 (rf h1 (rf h v0 5) (Int32.toNatClampNeg x3)) 1) (Int32.toNatClampNeg x6)) 1) = 50 ∧ vp_in x9 (kN h7 (rf h4 (rf h4 (rf h1 (rf h1 (rf h v0 5) (Int32.toNatClampNeg x3)) 1) (Int32.toNatClampNeg x6)) 1)) ∧ K (some (.int (kI h7 (rf h4 (rf h4 (rf h1 (rf h1 (rf h v0 5) (Int32.toNatClampNeg x3)) 1) (Int32.toNatClampNeg x6)) 1) (Int32.toNatClampNeg x9)))) h7)))))))))))) : X G M Q 0 [(0, .ref v0), (1, .int v1)] [] h := by
  refine x_aload_n hM d_Wo_behind_0 rfl 0 rfl ?_
  obtain ⟨c22, F⟩ := F
  obtain ⟨c23, F⟩ := F
  refine x_getr hG hM ck_Wo 5 (Nat.le_of_ble_eq_true rfl) rfl rfl w_143 rfl d_Wo_behind_1 c22 c23 ?_
  refine x_iload_n hM d_Wo_behind_4 rfl 1 rfl ?_
  refine x_callSN hG hM (r' := r_WP_actOf) [.int v1] rfl yk_WP_actOf ⟨Nat.le_of_ble_eq_true rfl, Nat.le_of_ble_eq_true rfl⟩ w_798 w_672 rfl rfl (Nat.le_of_ble_eq_true rfl) d_Wo_behind_5 (sem_mono F ?_)
  intro u2 h1 F
  obtain ⟨x3, rfl, F⟩ := F
  obtain ⟨c19, F⟩ := F
  obtain ⟨c20, F⟩ := F
  obtain ⟨c21, F⟩ := F
  refine x_aaload hG hM 53 rfl (Nat.le_of_ble_eq_true rfl) d_Wo_behind_8 c19 c20 c21 ?_
  obtain ⟨c17, F⟩ := F
  obtain ⟨c18, F⟩ := F
  refine x_getr hG hM ck_Ac 1 (Nat.le_of_ble_eq_true rfl) rfl rfl w_103 rfl d_Wo_behind_9 c17 c18 ?_
  refine x_iload_n hM d_Wo_behind_12 rfl 1 rfl ?_
  refine x_callSN hG hM (r' := r_WP_outcomeOf) [.int v1] rfl yk_WP_outcomeOf ⟨Nat.le_of_ble_eq_true rfl, Nat.le_of_ble_eq_true rfl⟩ w_799 w_800 rfl rfl (Nat.le_of_ble_eq_true rfl) d_Wo_behind_13 (sem_mono F ?_)
  intro u5 h4 F
  obtain ⟨x6, rfl, F⟩ := F
  obtain ⟨c14, F⟩ := F
  obtain ⟨c15, F⟩ := F
  obtain ⟨c16, F⟩ := F
  refine x_aaload hG hM 54 rfl (Nat.le_of_ble_eq_true rfl) d_Wo_behind_16 c14 c15 c16 ?_
  obtain ⟨c12, F⟩ := F
  obtain ⟨c13, F⟩ := F
  refine x_getr hG hM ck_Ou 1 (Nat.le_of_ble_eq_true rfl) rfl rfl w_83 rfl d_Wo_behind_17 c12 c13 ?_
  refine x_iload_n hM d_Wo_behind_20 rfl 1 rfl ?_
  refine x_callSN hG hM (r' := r_WP_stateOf) [.int v1] rfl yk_WP_stateOf ⟨Nat.le_of_ble_eq_true rfl, Nat.le_of_ble_eq_true rfl⟩ w_802 w_665 rfl rfl (Nat.le_of_ble_eq_true rfl) d_Wo_behind_21 (sem_mono F ?_)
  intro u8 h7 F
  obtain ⟨x9, rfl, F⟩ := F
  obtain ⟨c10, F⟩ := F
  obtain ⟨c11, F⟩ := F
  refine x_iaload hG hM d_Wo_behind_24 c10 c11 ?_
  exact x_ireturn hM d_Wo_behind_25 rfl F
