theorem d_Ki_init_0 : decode b_Ki_init 0 = .ok (.aload_n 0, 1) := by decide +kernel
theorem d_Ki_init_1 : decode b_Ki_init 1 = .ok (.invokespecial 3, 3) := by decide +kernel
theorem d_Ki_init_4 : decode b_Ki_init 4 = .ok (.aload_n 0, 1) := by decide +kernel
theorem d_Ki_init_5 : decode b_Ki_init 5 = .ok (.iconst 0, 1) := by decide +kernel
theorem d_Ki_init_6 : decode b_Ki_init 6 = .ok (.putfield 9, 3) := by decide +kernel
theorem d_Ki_init_9 : decode b_Ki_init 9 = .ok (.aload_n 0, 1) := by decide +kernel
theorem d_Ki_init_10 : decode b_Ki_init 10 = .ok (.lconst 0, 1) := by decide +kernel
theorem d_Ki_init_11 : decode b_Ki_init 11 = .ok (.putfield 15, 3) := by decide +kernel
theorem d_Ki_init_14 : decode b_Ki_init 14 = .ok (.aload_n 0, 1) := by decide +kernel
theorem d_Ki_init_15 : decode b_Ki_init 15 = .ok (.iconst 0, 1) := by decide +kernel
theorem d_Ki_init_16 : decode b_Ki_init 16 = .ok (.newarray .int, 2) := by decide +kernel
theorem d_Ki_init_18 : decode b_Ki_init 18 = .ok (.putfield 19, 3) := by decide +kernel
theorem d_Ki_init_21 : decode b_Ki_init 21 = .ok (.aload_n 0, 1) := by decide +kernel
theorem d_Ki_init_22 : decode b_Ki_init 22 = .ok (.iconst 0, 1) := by decide +kernel
theorem d_Ki_init_23 : decode b_Ki_init 23 = .ok (.newarray .int, 2) := by decide +kernel
theorem d_Ki_init_25 : decode b_Ki_init 25 = .ok (.putfield 23, 3) := by decide +kernel
theorem d_Ki_init_28 : decode b_Ki_init 28 = .ok (.aload_n 0, 1) := by decide +kernel
theorem d_Ki_init_29 : decode b_Ki_init 29 = .ok (.iconst 0, 1) := by decide +kernel
theorem d_Ki_init_30 : decode b_Ki_init 30 = .ok (.newarray .int, 2) := by decide +kernel
theorem d_Ki_init_32 : decode b_Ki_init 32 = .ok (.putfield 26, 3) := by decide +kernel
theorem d_Ki_init_35 : decode b_Ki_init 35 = .ok (.aload_n 0, 1) := by decide +kernel
theorem d_Ki_init_36 : decode b_Ki_init 36 = .ok (.iconst 0, 1) := by decide +kernel
theorem d_Ki_init_37 : decode b_Ki_init 37 = .ok (.newarray .int, 2) := by decide +kernel
theorem d_Ki_init_39 : decode b_Ki_init 39 = .ok (.putfield 29, 3) := by decide +kernel
theorem d_Ki_init_42 : decode b_Ki_init 42 = .ok (.aload_n 0, 1) := by decide +kernel
theorem d_Ki_init_43 : decode b_Ki_init 43 = .ok (.iconst 0, 1) := by decide +kernel
theorem d_Ki_init_44 : decode b_Ki_init 44 = .ok (.newarray .int, 2) := by decide +kernel
theorem d_Ki_init_46 : decode b_Ki_init 46 = .ok (.putfield 32, 3) := by decide +kernel
theorem d_Ki_init_49 : decode b_Ki_init 49 = .ok (.aload_n 0, 1) := by decide +kernel
theorem d_Ki_init_50 : decode b_Ki_init 50 = .ok (.iconst 0, 1) := by decide +kernel
theorem d_Ki_init_51 : decode b_Ki_init 51 = .ok (.newarray .int, 2) := by decide +kernel
theorem d_Ki_init_53 : decode b_Ki_init 53 = .ok (.putfield 35, 3) := by decide +kernel
theorem d_Ki_init_56 : decode b_Ki_init 56 = .ok (.aload_n 0, 1) := by decide +kernel
theorem d_Ki_init_57 : decode b_Ki_init 57 = .ok (.iconst 0, 1) := by decide +kernel
theorem d_Ki_init_58 : decode b_Ki_init 58 = .ok (.newarray .int, 2) := by decide +kernel
theorem d_Ki_init_60 : decode b_Ki_init 60 = .ok (.putfield 38, 3) := by decide +kernel
theorem d_Ki_init_63 : decode b_Ki_init 63 = .ok (.aload_n 0, 1) := by decide +kernel
theorem d_Ki_init_64 : decode b_Ki_init 64 = .ok (.iconst 0, 1) := by decide +kernel
theorem d_Ki_init_65 : decode b_Ki_init 65 = .ok (.newarray .int, 2) := by decide +kernel
theorem d_Ki_init_67 : decode b_Ki_init 67 = .ok (.putfield 41, 3) := by decide +kernel
theorem d_Ki_init_70 : decode b_Ki_init 70 = .ok (.aload_n 0, 1) := by decide +kernel
theorem d_Ki_init_71 : decode b_Ki_init 71 = .ok (.iconst 0, 1) := by decide +kernel
theorem d_Ki_init_72 : decode b_Ki_init 72 = .ok (.newarray .int, 2) := by decide +kernel
theorem d_Ki_init_74 : decode b_Ki_init 74 = .ok (.putfield 44, 3) := by decide +kernel
theorem d_Ki_init_77 : decode b_Ki_init 77 = .ok (.aload_n 0, 1) := by decide +kernel
theorem d_Ki_init_78 : decode b_Ki_init 78 = .ok (.iconst 0, 1) := by decide +kernel
theorem d_Ki_init_79 : decode b_Ki_init 79 = .ok (.putfield 47, 3) := by decide +kernel
theorem d_Ki_init_82 : decode b_Ki_init 82 = .ok (.aload_n 0, 1) := by decide +kernel
theorem d_Ki_init_83 : decode b_Ki_init 83 = .ok (.iconst 0, 1) := by decide +kernel
theorem d_Ki_init_84 : decode b_Ki_init 84 = .ok (.newarray .int, 2) := by decide +kernel
theorem d_Ki_init_86 : decode b_Ki_init 86 = .ok (.putfield 50, 3) := by decide +kernel
theorem d_Ki_init_89 : decode b_Ki_init 89 = .ok (.aload_n 0, 1) := by decide +kernel
theorem d_Ki_init_90 : decode b_Ki_init 90 = .ok (.iconst 0, 1) := by decide +kernel
theorem d_Ki_init_91 : decode b_Ki_init 91 = .ok (.newarray .int, 2) := by decide +kernel
theorem d_Ki_init_93 : decode b_Ki_init 93 = .ok (.putfield 53, 3) := by decide +kernel
theorem d_Ki_init_96 : decode b_Ki_init 96 = .ok (.aload_n 0, 1) := by decide +kernel
theorem d_Ki_init_97 : decode b_Ki_init 97 = .ok (.iconst 0, 1) := by decide +kernel
theorem d_Ki_init_98 : decode b_Ki_init 98 = .ok (.newarray .int, 2) := by decide +kernel
theorem d_Ki_init_100 : decode b_Ki_init 100 = .ok (.putfield 56, 3) := by decide +kernel
theorem d_Ki_init_103 : decode b_Ki_init 103 = .ok (.aload_n 0, 1) := by decide +kernel
theorem d_Ki_init_104 : decode b_Ki_init 104 = .ok (.iconst 0, 1) := by decide +kernel
theorem d_Ki_init_105 : decode b_Ki_init 105 = .ok (.newarray .int, 2) := by decide +kernel
theorem d_Ki_init_107 : decode b_Ki_init 107 = .ok (.putfield 59, 3) := by decide +kernel
theorem d_Ki_init_110 : decode b_Ki_init 110 = .ok (.aload_n 0, 1) := by decide +kernel
theorem d_Ki_init_111 : decode b_Ki_init 111 = .ok (.iconst 0, 1) := by decide +kernel
theorem d_Ki_init_112 : decode b_Ki_init 112 = .ok (.newarray .int, 2) := by decide +kernel
theorem d_Ki_init_114 : decode b_Ki_init 114 = .ok (.putfield 62, 3) := by decide +kernel
theorem d_Ki_init_117 : decode b_Ki_init 117 = .ok (.aload_n 0, 1) := by decide +kernel
theorem d_Ki_init_118 : decode b_Ki_init 118 = .ok (.iconst 0, 1) := by decide +kernel
theorem d_Ki_init_119 : decode b_Ki_init 119 = .ok (.newarray .long, 2) := by decide +kernel
theorem d_Ki_init_121 : decode b_Ki_init 121 = .ok (.putfield 65, 3) := by decide +kernel
theorem d_Ki_init_124 : decode b_Ki_init 124 = .ok (.return_, 1) := by decide +kernel
theorem d_Ki_split_0 : decode b_Ki_split 0 = .ok (.aload_n 0, 1) := by decide +kernel
theorem d_Ki_split_1 : decode b_Ki_split 1 = .ok (.aload_n 1, 1) := by decide +kernel
theorem d_Ki_split_2 : decode b_Ki_split 2 = .ok (.getfield 69, 3) := by decide +kernel
theorem d_Ki_split_5 : decode b_Ki_split 5 = .ok (.invokevirtual 74, 3) := by decide +kernel
theorem d_Ki_split_8 : decode b_Ki_split 8 = .ok (.aload_n 0, 1) := by decide +kernel
theorem d_Ki_split_9 : decode b_Ki_split 9 = .ok (.iconst 0, 1) := by decide +kernel
theorem d_Ki_split_10 : decode b_Ki_split 10 = .ok (.putfield 9, 3) := by decide +kernel
theorem d_Ki_split_13 : decode b_Ki_split 13 = .ok (.aload_n 0, 1) := by decide +kernel
theorem d_Ki_split_14 : decode b_Ki_split 14 = .ok (.iconst 0, 1) := by decide +kernel
theorem d_Ki_split_15 : decode b_Ki_split 15 = .ok (.putfield 47, 3) := by decide +kernel
theorem d_Ki_split_18 : decode b_Ki_split 18 = .ok (.aload_n 0, 1) := by decide +kernel
theorem d_Ki_split_19 : decode b_Ki_split 19 = .ok (.aload_n 1, 1) := by decide +kernel
theorem d_Ki_split_20 : decode b_Ki_split 20 = .ok (.aload_n 2, 1) := by decide +kernel
theorem d_Ki_split_21 : decode b_Ki_split 21 = .ok (.iconst 1, 1) := by decide +kernel
theorem d_Ki_split_22 : decode b_Ki_split 22 = .ok (.iconst 0, 1) := by decide +kernel
theorem d_Ki_split_23 : decode b_Ki_split 23 = .ok (.invokevirtual 78, 3) := by decide +kernel
theorem d_Ki_split_26 : decode b_Ki_split 26 = .ok (.istore_n 3, 1) := by decide +kernel
theorem d_Ki_split_27 : decode b_Ki_split 27 = .ok (.aload_n 0, 1) := by decide +kernel
theorem d_Ki_split_28 : decode b_Ki_split 28 = .ok (.aload_n 1, 1) := by decide +kernel
theorem d_Ki_split_29 : decode b_Ki_split 29 = .ok (.aload_n 2, 1) := by decide +kernel
theorem d_Ki_split_30 : decode b_Ki_split 30 = .ok (.iconst 0, 1) := by decide +kernel
theorem d_Ki_split_31 : decode b_Ki_split 31 = .ok (.iload_n 3, 1) := by decide +kernel
theorem d_Ki_split_32 : decode b_Ki_split 32 = .ok (.invokevirtual 78, 3) := by decide +kernel
theorem d_Ki_split_35 : decode b_Ki_split 35 = .ok (.pop, 1) := by decide +kernel
theorem d_Ki_split_36 : decode b_Ki_split 36 = .ok (.iconst 0, 1) := by decide +kernel
theorem d_Ki_split_37 : decode b_Ki_split 37 = .ok (.istore 4, 2) := by decide +kernel
theorem d_Ki_split_39 : decode b_Ki_split 39 = .ok (.iload 4, 2) := by decide +kernel
theorem d_Ki_split_41 : decode b_Ki_split 41 = .ok (.ldc 82, 2) := by decide +kernel
theorem d_Ki_split_43 : decode b_Ki_split 43 = .ok (.if_icmp .ge 40, 3) := by decide +kernel
theorem d_Ki_split_46 : decode b_Ki_split 46 = .ok (.aload_n 0, 1) := by decide +kernel
theorem d_Ki_split_47 : decode b_Ki_split 47 = .ok (.getfield 47, 3) := by decide +kernel
theorem d_Ki_split_50 : decode b_Ki_split 50 = .ok (.ifCond .le 33, 3) := by decide +kernel
theorem d_Ki_split_53 : decode b_Ki_split 53 = .ok (.aload_n 0, 1) := by decide +kernel
theorem d_Ki_split_54 : decode b_Ki_split 54 = .ok (.dup, 1) := by decide +kernel
theorem d_Ki_split_55 : decode b_Ki_split 55 = .ok (.getfield 47, 3) := by decide +kernel
theorem d_Ki_split_58 : decode b_Ki_split 58 = .ok (.iconst 1, 1) := by decide +kernel
theorem d_Ki_split_59 : decode b_Ki_split 59 = .ok (.isub, 1) := by decide +kernel
theorem d_Ki_split_60 : decode b_Ki_split 60 = .ok (.putfield 47, 3) := by decide +kernel
theorem d_Ki_split_63 : decode b_Ki_split 63 = .ok (.aload_n 0, 1) := by decide +kernel
theorem d_Ki_split_64 : decode b_Ki_split 64 = .ok (.aload_n 1, 1) := by decide +kernel
theorem d_Ki_split_65 : decode b_Ki_split 65 = .ok (.aload_n 0, 1) := by decide +kernel
theorem d_Ki_split_66 : decode b_Ki_split 66 = .ok (.getfield 44, 3) := by decide +kernel
theorem d_Ki_split_69 : decode b_Ki_split 69 = .ok (.aload_n 0, 1) := by decide +kernel
theorem d_Ki_split_70 : decode b_Ki_split 70 = .ok (.getfield 47, 3) := by decide +kernel
theorem d_Ki_split_73 : decode b_Ki_split 73 = .ok (.iaload, 1) := by decide +kernel
theorem d_Ki_split_74 : decode b_Ki_split 74 = .ok (.invokevirtual 83, 3) := by decide +kernel
theorem d_Ki_split_77 : decode b_Ki_split 77 = .ok (.iinc 4 1, 3) := by decide +kernel
theorem d_Ki_split_80 : decode b_Ki_split 80 = .ok (.goto (-41), 3) := by decide +kernel
theorem d_Ki_split_83 : decode b_Ki_split 83 = .ok (.aload_n 0, 1) := by decide +kernel
theorem d_Ki_split_84 : decode b_Ki_split 84 = .ok (.aload_n 1, 1) := by decide +kernel
theorem d_Ki_split_85 : decode b_Ki_split 85 = .ok (.getfield 69, 3) := by decide +kernel
theorem d_Ki_split_88 : decode b_Ki_split 88 = .ok (.invokevirtual 87, 3) := by decide +kernel
theorem d_Ki_split_91 : decode b_Ki_split 91 = .ok (.return_, 1) := by decide +kernel
theorem d_Ki_makeRoom_0 : decode b_Ki_makeRoom 0 = .ok (.aload_n 0, 1) := by decide +kernel
theorem d_Ki_makeRoom_1 : decode b_Ki_makeRoom 1 = .ok (.getfield 19, 3) := by decide +kernel
theorem d_Ki_makeRoom_4 : decode b_Ki_makeRoom 4 = .ok (.arraylength, 1) := by decide +kernel
theorem d_Ki_makeRoom_5 : decode b_Ki_makeRoom 5 = .ok (.iload_n 1, 1) := by decide +kernel
theorem d_Ki_makeRoom_6 : decode b_Ki_makeRoom 6 = .ok (.if_icmp .lt 4, 3) := by decide +kernel
theorem d_Ki_makeRoom_9 : decode b_Ki_makeRoom 9 = .ok (.return_, 1) := by decide +kernel
theorem d_Ki_makeRoom_10 : decode b_Ki_makeRoom 10 = .ok (.iload_n 1, 1) := by decide +kernel
theorem d_Ki_makeRoom_11 : decode b_Ki_makeRoom 11 = .ok (.invokestatic 90, 3) := by decide +kernel
theorem d_Ki_makeRoom_14 : decode b_Ki_makeRoom 14 = .ok (.istore_n 2, 1) := by decide +kernel
theorem d_Ki_makeRoom_15 : decode b_Ki_makeRoom 15 = .ok (.aload_n 0, 1) := by decide +kernel
theorem d_Ki_makeRoom_16 : decode b_Ki_makeRoom 16 = .ok (.iload_n 2, 1) := by decide +kernel
theorem d_Ki_makeRoom_17 : decode b_Ki_makeRoom 17 = .ok (.newarray .int, 2) := by decide +kernel
theorem d_Ki_makeRoom_19 : decode b_Ki_makeRoom 19 = .ok (.putfield 19, 3) := by decide +kernel
theorem d_Ki_makeRoom_22 : decode b_Ki_makeRoom 22 = .ok (.aload_n 0, 1) := by decide +kernel
theorem d_Ki_makeRoom_23 : decode b_Ki_makeRoom 23 = .ok (.iload_n 2, 1) := by decide +kernel
theorem d_Ki_makeRoom_24 : decode b_Ki_makeRoom 24 = .ok (.newarray .int, 2) := by decide +kernel
theorem d_Ki_makeRoom_26 : decode b_Ki_makeRoom 26 = .ok (.putfield 23, 3) := by decide +kernel
theorem d_Ki_makeRoom_29 : decode b_Ki_makeRoom 29 = .ok (.aload_n 0, 1) := by decide +kernel
theorem d_Ki_makeRoom_30 : decode b_Ki_makeRoom 30 = .ok (.iload_n 2, 1) := by decide +kernel
theorem d_Ki_makeRoom_31 : decode b_Ki_makeRoom 31 = .ok (.newarray .int, 2) := by decide +kernel
theorem d_Ki_makeRoom_33 : decode b_Ki_makeRoom 33 = .ok (.putfield 26, 3) := by decide +kernel
theorem d_Ki_makeRoom_36 : decode b_Ki_makeRoom 36 = .ok (.aload_n 0, 1) := by decide +kernel
theorem d_Ki_makeRoom_37 : decode b_Ki_makeRoom 37 = .ok (.iload_n 2, 1) := by decide +kernel
theorem d_Ki_makeRoom_38 : decode b_Ki_makeRoom 38 = .ok (.newarray .int, 2) := by decide +kernel
theorem d_Ki_makeRoom_40 : decode b_Ki_makeRoom 40 = .ok (.putfield 29, 3) := by decide +kernel
theorem d_Ki_makeRoom_43 : decode b_Ki_makeRoom 43 = .ok (.aload_n 0, 1) := by decide +kernel
theorem d_Ki_makeRoom_44 : decode b_Ki_makeRoom 44 = .ok (.iload_n 2, 1) := by decide +kernel
theorem d_Ki_makeRoom_45 : decode b_Ki_makeRoom 45 = .ok (.newarray .int, 2) := by decide +kernel
theorem d_Ki_makeRoom_47 : decode b_Ki_makeRoom 47 = .ok (.putfield 32, 3) := by decide +kernel
theorem d_Ki_makeRoom_50 : decode b_Ki_makeRoom 50 = .ok (.aload_n 0, 1) := by decide +kernel
theorem d_Ki_makeRoom_51 : decode b_Ki_makeRoom 51 = .ok (.iload_n 2, 1) := by decide +kernel
theorem d_Ki_makeRoom_52 : decode b_Ki_makeRoom 52 = .ok (.newarray .int, 2) := by decide +kernel
theorem d_Ki_makeRoom_54 : decode b_Ki_makeRoom 54 = .ok (.putfield 35, 3) := by decide +kernel
theorem d_Ki_makeRoom_57 : decode b_Ki_makeRoom 57 = .ok (.aload_n 0, 1) := by decide +kernel
theorem d_Ki_makeRoom_58 : decode b_Ki_makeRoom 58 = .ok (.iload_n 2, 1) := by decide +kernel
theorem d_Ki_makeRoom_59 : decode b_Ki_makeRoom 59 = .ok (.newarray .int, 2) := by decide +kernel
theorem d_Ki_makeRoom_61 : decode b_Ki_makeRoom 61 = .ok (.putfield 38, 3) := by decide +kernel
theorem d_Ki_makeRoom_64 : decode b_Ki_makeRoom 64 = .ok (.aload_n 0, 1) := by decide +kernel
theorem d_Ki_makeRoom_65 : decode b_Ki_makeRoom 65 = .ok (.iload_n 2, 1) := by decide +kernel
theorem d_Ki_makeRoom_66 : decode b_Ki_makeRoom 66 = .ok (.newarray .int, 2) := by decide +kernel
theorem d_Ki_makeRoom_68 : decode b_Ki_makeRoom 68 = .ok (.putfield 41, 3) := by decide +kernel
theorem d_Ki_makeRoom_71 : decode b_Ki_makeRoom 71 = .ok (.aload_n 0, 1) := by decide +kernel
theorem d_Ki_makeRoom_72 : decode b_Ki_makeRoom 72 = .ok (.iload_n 2, 1) := by decide +kernel
theorem d_Ki_makeRoom_73 : decode b_Ki_makeRoom 73 = .ok (.newarray .int, 2) := by decide +kernel
theorem d_Ki_makeRoom_75 : decode b_Ki_makeRoom 75 = .ok (.putfield 44, 3) := by decide +kernel
theorem d_Ki_makeRoom_78 : decode b_Ki_makeRoom 78 = .ok (.aload_n 0, 1) := by decide +kernel
theorem d_Ki_makeRoom_79 : decode b_Ki_makeRoom 79 = .ok (.iload_n 2, 1) := by decide +kernel
theorem d_Ki_makeRoom_80 : decode b_Ki_makeRoom 80 = .ok (.newarray .int, 2) := by decide +kernel
theorem d_Ki_makeRoom_82 : decode b_Ki_makeRoom 82 = .ok (.putfield 50, 3) := by decide +kernel
theorem d_Ki_makeRoom_85 : decode b_Ki_makeRoom 85 = .ok (.aload_n 0, 1) := by decide +kernel
theorem d_Ki_makeRoom_86 : decode b_Ki_makeRoom 86 = .ok (.iload_n 2, 1) := by decide +kernel
theorem d_Ki_makeRoom_87 : decode b_Ki_makeRoom 87 = .ok (.newarray .int, 2) := by decide +kernel
theorem d_Ki_makeRoom_89 : decode b_Ki_makeRoom 89 = .ok (.putfield 53, 3) := by decide +kernel
theorem d_Ki_makeRoom_92 : decode b_Ki_makeRoom 92 = .ok (.aload_n 0, 1) := by decide +kernel
theorem d_Ki_makeRoom_93 : decode b_Ki_makeRoom 93 = .ok (.iload_n 2, 1) := by decide +kernel
theorem d_Ki_makeRoom_94 : decode b_Ki_makeRoom 94 = .ok (.newarray .int, 2) := by decide +kernel
theorem d_Ki_makeRoom_96 : decode b_Ki_makeRoom 96 = .ok (.putfield 56, 3) := by decide +kernel
theorem d_Ki_makeRoom_99 : decode b_Ki_makeRoom 99 = .ok (.aload_n 0, 1) := by decide +kernel
theorem d_Ki_makeRoom_100 : decode b_Ki_makeRoom 100 = .ok (.iload_n 2, 1) := by decide +kernel
theorem d_Ki_makeRoom_101 : decode b_Ki_makeRoom 101 = .ok (.newarray .int, 2) := by decide +kernel
theorem d_Ki_makeRoom_103 : decode b_Ki_makeRoom 103 = .ok (.putfield 59, 3) := by decide +kernel
theorem d_Ki_makeRoom_106 : decode b_Ki_makeRoom 106 = .ok (.aload_n 0, 1) := by decide +kernel
theorem d_Ki_makeRoom_107 : decode b_Ki_makeRoom 107 = .ok (.iconst 2, 1) := by decide +kernel
theorem d_Ki_makeRoom_108 : decode b_Ki_makeRoom 108 = .ok (.iload_n 2, 1) := by decide +kernel
theorem d_Ki_makeRoom_109 : decode b_Ki_makeRoom 109 = .ok (.imul, 1) := by decide +kernel
theorem d_Ki_makeRoom_110 : decode b_Ki_makeRoom 110 = .ok (.newarray .int, 2) := by decide +kernel
theorem d_Ki_makeRoom_112 : decode b_Ki_makeRoom 112 = .ok (.putfield 62, 3) := by decide +kernel
theorem d_Ki_makeRoom_115 : decode b_Ki_makeRoom 115 = .ok (.aload_n 0, 1) := by decide +kernel
theorem d_Ki_makeRoom_116 : decode b_Ki_makeRoom 116 = .ok (.iconst 2, 1) := by decide +kernel
theorem d_Ki_makeRoom_117 : decode b_Ki_makeRoom 117 = .ok (.iload_n 2, 1) := by decide +kernel
theorem d_Ki_makeRoom_118 : decode b_Ki_makeRoom 118 = .ok (.imul, 1) := by decide +kernel
theorem d_Ki_makeRoom_119 : decode b_Ki_makeRoom 119 = .ok (.newarray .long, 2) := by decide +kernel
theorem d_Ki_makeRoom_121 : decode b_Ki_makeRoom 121 = .ok (.putfield 65, 3) := by decide +kernel
theorem d_Ki_makeRoom_124 : decode b_Ki_makeRoom 124 = .ok (.return_, 1) := by decide +kernel
theorem d_Ki_placeThose_0 : decode b_Ki_placeThose 0 = .ok (.iload 4, 2) := by decide +kernel
theorem d_Ki_placeThose_2 : decode b_Ki_placeThose 2 = .ok (.istore 5, 2) := by decide +kernel
theorem d_Ki_placeThose_4 : decode b_Ki_placeThose 4 = .ok (.iconst 0, 1) := by decide +kernel
theorem d_Ki_placeThose_5 : decode b_Ki_placeThose 5 = .ok (.istore 6, 2) := by decide +kernel
theorem d_Ki_placeThose_7 : decode b_Ki_placeThose 7 = .ok (.iload 6, 2) := by decide +kernel
theorem d_Ki_placeThose_9 : decode b_Ki_placeThose 9 = .ok (.aload_n 1, 1) := by decide +kernel
theorem d_Ki_placeThose_10 : decode b_Ki_placeThose 10 = .ok (.getfield 69, 3) := by decide +kernel
theorem d_Ki_placeThose_13 : decode b_Ki_placeThose 13 = .ok (.if_icmp .ge 53, 3) := by decide +kernel
theorem d_Ki_placeThose_16 : decode b_Ki_placeThose 16 = .ok (.aload_n 2, 1) := by decide +kernel
theorem d_Ki_placeThose_17 : decode b_Ki_placeThose 17 = .ok (.iload 6, 2) := by decide +kernel
theorem d_Ki_placeThose_19 : decode b_Ki_placeThose 19 = .ok (.baload, 1) := by decide +kernel
theorem d_Ki_placeThose_20 : decode b_Ki_placeThose 20 = .ok (.iload_n 3, 1) := by decide +kernel
theorem d_Ki_placeThose_21 : decode b_Ki_placeThose 21 = .ok (.if_icmp .ne 39, 3) := by decide +kernel
theorem d_Ki_placeThose_24 : decode b_Ki_placeThose 24 = .ok (.aload_n 0, 1) := by decide +kernel
theorem d_Ki_placeThose_25 : decode b_Ki_placeThose 25 = .ok (.getfield 26, 3) := by decide +kernel
theorem d_Ki_placeThose_28 : decode b_Ki_placeThose 28 = .ok (.iload 5, 2) := by decide +kernel
theorem d_Ki_placeThose_30 : decode b_Ki_placeThose 30 = .ok (.iload 6, 2) := by decide +kernel
theorem d_Ki_placeThose_32 : decode b_Ki_placeThose 32 = .ok (.iastore, 1) := by decide +kernel
theorem d_Ki_placeThose_33 : decode b_Ki_placeThose 33 = .ok (.aload_n 0, 1) := by decide +kernel
theorem d_Ki_placeThose_34 : decode b_Ki_placeThose 34 = .ok (.getfield 29, 3) := by decide +kernel
theorem d_Ki_placeThose_37 : decode b_Ki_placeThose 37 = .ok (.iload 6, 2) := by decide +kernel
theorem d_Ki_placeThose_39 : decode b_Ki_placeThose 39 = .ok (.iload 5, 2) := by decide +kernel
theorem d_Ki_placeThose_41 : decode b_Ki_placeThose 41 = .ok (.iastore, 1) := by decide +kernel
theorem d_Ki_placeThose_42 : decode b_Ki_placeThose 42 = .ok (.aload_n 0, 1) := by decide +kernel
theorem d_Ki_placeThose_43 : decode b_Ki_placeThose 43 = .ok (.getfield 41, 3) := by decide +kernel
theorem d_Ki_placeThose_46 : decode b_Ki_placeThose 46 = .ok (.iload 6, 2) := by decide +kernel
theorem d_Ki_placeThose_48 : decode b_Ki_placeThose 48 = .ok (.iconst 1, 1) := by decide +kernel
theorem d_Ki_placeThose_49 : decode b_Ki_placeThose 49 = .ok (.aload_n 1, 1) := by decide +kernel
theorem d_Ki_placeThose_50 : decode b_Ki_placeThose 50 = .ok (.getfield 94, 3) := by decide +kernel
theorem d_Ki_placeThose_53 : decode b_Ki_placeThose 53 = .ok (.ishl, 1) := by decide +kernel
theorem d_Ki_placeThose_54 : decode b_Ki_placeThose 54 = .ok (.iconst 1, 1) := by decide +kernel
theorem d_Ki_placeThose_55 : decode b_Ki_placeThose 55 = .ok (.isub, 1) := by decide +kernel
theorem d_Ki_placeThose_56 : decode b_Ki_placeThose 56 = .ok (.iastore, 1) := by decide +kernel
theorem d_Ki_placeThose_57 : decode b_Ki_placeThose 57 = .ok (.iinc 5 1, 3) := by decide +kernel
theorem d_Ki_placeThose_60 : decode b_Ki_placeThose 60 = .ok (.iinc 6 1, 3) := by decide +kernel
theorem d_Ki_placeThose_63 : decode b_Ki_placeThose 63 = .ok (.goto (-56), 3) := by decide +kernel
theorem d_Ki_placeThose_66 : decode b_Ki_placeThose 66 = .ok (.iload 5, 2) := by decide +kernel
theorem d_Ki_placeThose_68 : decode b_Ki_placeThose 68 = .ok (.iload 4, 2) := by decide +kernel
theorem d_Ki_placeThose_70 : decode b_Ki_placeThose 70 = .ok (.if_icmp .le 46, 3) := by decide +kernel
theorem d_Ki_placeThose_73 : decode b_Ki_placeThose 73 = .ok (.aload_n 0, 1) := by decide +kernel
theorem d_Ki_placeThose_74 : decode b_Ki_placeThose 74 = .ok (.getfield 38, 3) := by decide +kernel
theorem d_Ki_placeThose_77 : decode b_Ki_placeThose 77 = .ok (.aload_n 0, 1) := by decide +kernel
theorem d_Ki_placeThose_78 : decode b_Ki_placeThose 78 = .ok (.iload 4, 2) := by decide +kernel
theorem d_Ki_placeThose_80 : decode b_Ki_placeThose 80 = .ok (.iload 5, 2) := by decide +kernel
theorem d_Ki_placeThose_82 : decode b_Ki_placeThose 82 = .ok (.invokevirtual 97, 3) := by decide +kernel
theorem d_Ki_placeThose_85 : decode b_Ki_placeThose 85 = .ok (.iload 5, 2) := by decide +kernel
theorem d_Ki_placeThose_87 : decode b_Ki_placeThose 87 = .ok (.iload 4, 2) := by decide +kernel
theorem d_Ki_placeThose_89 : decode b_Ki_placeThose 89 = .ok (.isub, 1) := by decide +kernel
theorem d_Ki_placeThose_90 : decode b_Ki_placeThose 90 = .ok (.iastore, 1) := by decide +kernel
theorem d_Ki_placeThose_91 : decode b_Ki_placeThose 91 = .ok (.aload_n 0, 1) := by decide +kernel
theorem d_Ki_placeThose_92 : decode b_Ki_placeThose 92 = .ok (.getfield 44, 3) := by decide +kernel
theorem d_Ki_placeThose_95 : decode b_Ki_placeThose 95 = .ok (.aload_n 0, 1) := by decide +kernel
theorem d_Ki_placeThose_96 : decode b_Ki_placeThose 96 = .ok (.getfield 47, 3) := by decide +kernel
theorem d_Ki_placeThose_99 : decode b_Ki_placeThose 99 = .ok (.aload_n 0, 1) := by decide +kernel
theorem d_Ki_placeThose_100 : decode b_Ki_placeThose 100 = .ok (.getfield 9, 3) := by decide +kernel
theorem d_Ki_placeThose_103 : decode b_Ki_placeThose 103 = .ok (.iconst 1, 1) := by decide +kernel
theorem d_Ki_placeThose_104 : decode b_Ki_placeThose 104 = .ok (.isub, 1) := by decide +kernel
theorem d_Ki_placeThose_105 : decode b_Ki_placeThose 105 = .ok (.iastore, 1) := by decide +kernel
theorem d_Ki_placeThose_106 : decode b_Ki_placeThose 106 = .ok (.aload_n 0, 1) := by decide +kernel
theorem d_Ki_placeThose_107 : decode b_Ki_placeThose 107 = .ok (.dup, 1) := by decide +kernel
theorem d_Ki_placeThose_108 : decode b_Ki_placeThose 108 = .ok (.getfield 47, 3) := by decide +kernel
theorem d_Ki_placeThose_111 : decode b_Ki_placeThose 111 = .ok (.iconst 1, 1) := by decide +kernel
theorem d_Ki_placeThose_112 : decode b_Ki_placeThose 112 = .ok (.iadd, 1) := by decide +kernel
theorem d_Ki_placeThose_113 : decode b_Ki_placeThose 113 = .ok (.putfield 47, 3) := by decide +kernel
theorem d_Ki_placeThose_116 : decode b_Ki_placeThose 116 = .ok (.iload 5, 2) := by decide +kernel
theorem d_Ki_placeThose_118 : decode b_Ki_placeThose 118 = .ok (.ireturn, 1) := by decide +kernel
theorem d_Ki_open_0 : decode b_Ki_open 0 = .ok (.aload_n 0, 1) := by decide +kernel
theorem d_Ki_open_1 : decode b_Ki_open 1 = .ok (.getfield 9, 3) := by decide +kernel
theorem d_Ki_open_4 : decode b_Ki_open 4 = .ok (.istore_n 3, 1) := by decide +kernel
theorem d_Ki_open_5 : decode b_Ki_open 5 = .ok (.aload_n 0, 1) := by decide +kernel
theorem d_Ki_open_6 : decode b_Ki_open 6 = .ok (.dup, 1) := by decide +kernel
theorem d_Ki_open_7 : decode b_Ki_open 7 = .ok (.getfield 9, 3) := by decide +kernel
theorem d_Ki_open_10 : decode b_Ki_open 10 = .ok (.iconst 1, 1) := by decide +kernel
theorem d_Ki_open_11 : decode b_Ki_open 11 = .ok (.iadd, 1) := by decide +kernel
theorem d_Ki_open_12 : decode b_Ki_open 12 = .ok (.putfield 9, 3) := by decide +kernel
theorem d_Ki_open_15 : decode b_Ki_open 15 = .ok (.aload_n 0, 1) := by decide +kernel
theorem d_Ki_open_16 : decode b_Ki_open 16 = .ok (.getfield 32, 3) := by decide +kernel
theorem d_Ki_open_19 : decode b_Ki_open 19 = .ok (.iload_n 3, 1) := by decide +kernel
theorem d_Ki_open_20 : decode b_Ki_open 20 = .ok (.iload_n 1, 1) := by decide +kernel
theorem d_Ki_open_21 : decode b_Ki_open 21 = .ok (.iastore, 1) := by decide +kernel
theorem d_Ki_open_22 : decode b_Ki_open 22 = .ok (.aload_n 0, 1) := by decide +kernel
theorem d_Ki_open_23 : decode b_Ki_open 23 = .ok (.getfield 35, 3) := by decide +kernel
theorem d_Ki_open_26 : decode b_Ki_open 26 = .ok (.iload_n 3, 1) := by decide +kernel
theorem d_Ki_open_27 : decode b_Ki_open 27 = .ok (.iload_n 2, 1) := by decide +kernel
theorem d_Ki_open_28 : decode b_Ki_open 28 = .ok (.iastore, 1) := by decide +kernel
theorem d_Ki_open_29 : decode b_Ki_open 29 = .ok (.aload_n 0, 1) := by decide +kernel
theorem d_Ki_open_30 : decode b_Ki_open 30 = .ok (.getfield 38, 3) := by decide +kernel
theorem d_Ki_open_33 : decode b_Ki_open 33 = .ok (.iload_n 3, 1) := by decide +kernel
theorem d_Ki_open_34 : decode b_Ki_open 34 = .ok (.iconst 0, 1) := by decide +kernel
theorem d_Ki_open_35 : decode b_Ki_open 35 = .ok (.iastore, 1) := by decide +kernel
theorem d_Ki_open_36 : decode b_Ki_open 36 = .ok (.iload_n 1, 1) := by decide +kernel
theorem d_Ki_open_37 : decode b_Ki_open 37 = .ok (.istore 4, 2) := by decide +kernel
theorem d_Ki_open_39 : decode b_Ki_open 39 = .ok (.iload 4, 2) := by decide +kernel
theorem d_Ki_open_41 : decode b_Ki_open 41 = .ok (.iload_n 2, 1) := by decide +kernel
theorem d_Ki_open_42 : decode b_Ki_open 42 = .ok (.if_icmp .ge 22, 3) := by decide +kernel
theorem d_Ki_open_45 : decode b_Ki_open 45 = .ok (.aload_n 0, 1) := by decide +kernel
theorem d_Ki_open_46 : decode b_Ki_open 46 = .ok (.getfield 19, 3) := by decide +kernel
theorem d_Ki_open_49 : decode b_Ki_open 49 = .ok (.aload_n 0, 1) := by decide +kernel
theorem d_Ki_open_50 : decode b_Ki_open 50 = .ok (.getfield 26, 3) := by decide +kernel
theorem d_Ki_open_53 : decode b_Ki_open 53 = .ok (.iload 4, 2) := by decide +kernel
theorem d_Ki_open_55 : decode b_Ki_open 55 = .ok (.iaload, 1) := by decide +kernel
theorem d_Ki_open_56 : decode b_Ki_open 56 = .ok (.iload_n 3, 1) := by decide +kernel
theorem d_Ki_open_57 : decode b_Ki_open 57 = .ok (.iastore, 1) := by decide +kernel
theorem d_Ki_open_58 : decode b_Ki_open 58 = .ok (.iinc 4 1, 3) := by decide +kernel
theorem d_Ki_open_61 : decode b_Ki_open 61 = .ok (.goto (-22), 3) := by decide +kernel
theorem d_Ki_open_64 : decode b_Ki_open 64 = .ok (.iload_n 3, 1) := by decide +kernel
theorem d_Ki_open_65 : decode b_Ki_open 65 = .ok (.ireturn, 1) := by decide +kernel
theorem d_Ki_settle_0 : decode b_Ki_settle 0 = .ok (.aload_n 0, 1) := by decide +kernel
theorem d_Ki_settle_1 : decode b_Ki_settle 1 = .ok (.getfield 32, 3) := by decide +kernel
theorem d_Ki_settle_4 : decode b_Ki_settle 4 = .ok (.iload_n 2, 1) := by decide +kernel
theorem d_Ki_settle_5 : decode b_Ki_settle 5 = .ok (.iaload, 1) := by decide +kernel
theorem d_Ki_settle_6 : decode b_Ki_settle 6 = .ok (.aload_n 0, 1) := by decide +kernel
theorem d_Ki_settle_7 : decode b_Ki_settle 7 = .ok (.getfield 38, 3) := by decide +kernel
theorem d_Ki_settle_10 : decode b_Ki_settle 10 = .ok (.iload_n 2, 1) := by decide +kernel
theorem d_Ki_settle_11 : decode b_Ki_settle 11 = .ok (.iaload, 1) := by decide +kernel
theorem d_Ki_settle_12 : decode b_Ki_settle 12 = .ok (.iadd, 1) := by decide +kernel
theorem d_Ki_settle_13 : decode b_Ki_settle 13 = .ok (.istore_n 3, 1) := by decide +kernel
theorem d_Ki_settle_14 : decode b_Ki_settle 14 = .ok (.iload_n 3, 1) := by decide +kernel
theorem d_Ki_settle_15 : decode b_Ki_settle 15 = .ok (.iconst 1, 1) := by decide +kernel
theorem d_Ki_settle_16 : decode b_Ki_settle 16 = .ok (.iadd, 1) := by decide +kernel
theorem d_Ki_settle_17 : decode b_Ki_settle 17 = .ok (.aload_n 0, 1) := by decide +kernel
theorem d_Ki_settle_18 : decode b_Ki_settle 18 = .ok (.getfield 35, 3) := by decide +kernel
theorem d_Ki_settle_21 : decode b_Ki_settle 21 = .ok (.iload_n 2, 1) := by decide +kernel
theorem d_Ki_settle_22 : decode b_Ki_settle 22 = .ok (.iaload, 1) := by decide +kernel
theorem d_Ki_settle_23 : decode b_Ki_settle 23 = .ok (.invokestatic 101, 3) := by decide +kernel
theorem d_Ki_settle_26 : decode b_Ki_settle 26 = .ok (.istore 4, 2) := by decide +kernel
theorem d_Ki_settle_28 : decode b_Ki_settle 28 = .ok (.iconst 0, 1) := by decide +kernel
theorem d_Ki_settle_29 : decode b_Ki_settle 29 = .ok (.istore 5, 2) := by decide +kernel
theorem d_Ki_settle_31 : decode b_Ki_settle 31 = .ok (.aload_n 0, 1) := by decide +kernel
theorem d_Ki_settle_32 : decode b_Ki_settle 32 = .ok (.getfield 32, 3) := by decide +kernel
theorem d_Ki_settle_35 : decode b_Ki_settle 35 = .ok (.iload_n 2, 1) := by decide +kernel
theorem d_Ki_settle_36 : decode b_Ki_settle 36 = .ok (.iaload, 1) := by decide +kernel
theorem d_Ki_settle_37 : decode b_Ki_settle 37 = .ok (.istore 6, 2) := by decide +kernel
theorem d_Ki_settle_39 : decode b_Ki_settle 39 = .ok (.iload 6, 2) := by decide +kernel
theorem d_Ki_settle_41 : decode b_Ki_settle 41 = .ok (.iload 4, 2) := by decide +kernel
theorem d_Ki_settle_43 : decode b_Ki_settle 43 = .ok (.if_icmp .ge 52, 3) := by decide +kernel
theorem d_Ki_settle_46 : decode b_Ki_settle 46 = .ok (.iload 5, 2) := by decide +kernel
theorem d_Ki_settle_48 : decode b_Ki_settle 48 = .ok (.aload_n 0, 1) := by decide +kernel
theorem d_Ki_settle_49 : decode b_Ki_settle 49 = .ok (.getfield 41, 3) := by decide +kernel
theorem d_Ki_settle_52 : decode b_Ki_settle 52 = .ok (.aload_n 0, 1) := by decide +kernel
theorem d_Ki_settle_53 : decode b_Ki_settle 53 = .ok (.getfield 26, 3) := by decide +kernel
theorem d_Ki_settle_56 : decode b_Ki_settle 56 = .ok (.iload 6, 2) := by decide +kernel
theorem d_Ki_settle_58 : decode b_Ki_settle 58 = .ok (.iaload, 1) := by decide +kernel
theorem d_Ki_settle_59 : decode b_Ki_settle 59 = .ok (.iaload, 1) := by decide +kernel
theorem d_Ki_settle_60 : decode b_Ki_settle 60 = .ok (.ior, 1) := by decide +kernel
theorem d_Ki_settle_61 : decode b_Ki_settle 61 = .ok (.istore 5, 2) := by decide +kernel
theorem d_Ki_settle_63 : decode b_Ki_settle 63 = .ok (.aload_n 0, 1) := by decide +kernel
theorem d_Ki_settle_64 : decode b_Ki_settle 64 = .ok (.getfield 41, 3) := by decide +kernel
theorem d_Ki_settle_67 : decode b_Ki_settle 67 = .ok (.aload_n 0, 1) := by decide +kernel
theorem d_Ki_settle_68 : decode b_Ki_settle 68 = .ok (.getfield 26, 3) := by decide +kernel
theorem d_Ki_settle_71 : decode b_Ki_settle 71 = .ok (.iload 6, 2) := by decide +kernel
theorem d_Ki_settle_73 : decode b_Ki_settle 73 = .ok (.iaload, 1) := by decide +kernel
theorem d_Ki_settle_74 : decode b_Ki_settle 74 = .ok (.iconst 0, 1) := by decide +kernel
theorem d_Ki_settle_75 : decode b_Ki_settle 75 = .ok (.iastore, 1) := by decide +kernel
theorem d_Ki_settle_76 : decode b_Ki_settle 76 = .ok (.aload_n 0, 1) := by decide +kernel
theorem d_Ki_settle_77 : decode b_Ki_settle 77 = .ok (.getfield 50, 3) := by decide +kernel
theorem d_Ki_settle_80 : decode b_Ki_settle 80 = .ok (.aload_n 0, 1) := by decide +kernel
theorem d_Ki_settle_81 : decode b_Ki_settle 81 = .ok (.getfield 26, 3) := by decide +kernel
theorem d_Ki_settle_84 : decode b_Ki_settle 84 = .ok (.iload 6, 2) := by decide +kernel
theorem d_Ki_settle_86 : decode b_Ki_settle 86 = .ok (.iaload, 1) := by decide +kernel
theorem d_Ki_settle_87 : decode b_Ki_settle 87 = .ok (.iconst 0, 1) := by decide +kernel
theorem d_Ki_settle_88 : decode b_Ki_settle 88 = .ok (.iastore, 1) := by decide +kernel
theorem d_Ki_settle_89 : decode b_Ki_settle 89 = .ok (.iinc 6 1, 3) := by decide +kernel
theorem d_Ki_settle_92 : decode b_Ki_settle 92 = .ok (.goto (-53), 3) := by decide +kernel
theorem d_Ki_settle_95 : decode b_Ki_settle 95 = .ok (.aload_n 0, 1) := by decide +kernel
theorem d_Ki_settle_96 : decode b_Ki_settle 96 = .ok (.getfield 38, 3) := by decide +kernel
theorem d_Ki_settle_99 : decode b_Ki_settle 99 = .ok (.iload_n 2, 1) := by decide +kernel
theorem d_Ki_settle_100 : decode b_Ki_settle 100 = .ok (.iconst 0, 1) := by decide +kernel
theorem d_Ki_settle_101 : decode b_Ki_settle 101 = .ok (.iastore, 1) := by decide +kernel
theorem d_Ki_settle_102 : decode b_Ki_settle 102 = .ok (.iconst 1, 1) := by decide +kernel
theorem d_Ki_settle_103 : decode b_Ki_settle 103 = .ok (.istore 6, 2) := by decide +kernel
theorem d_Ki_settle_105 : decode b_Ki_settle 105 = .ok (.iconst 0, 1) := by decide +kernel
theorem d_Ki_settle_106 : decode b_Ki_settle 106 = .ok (.istore 7, 2) := by decide +kernel
theorem d_Ki_settle_108 : decode b_Ki_settle 108 = .ok (.iload 7, 2) := by decide +kernel
theorem d_Ki_settle_110 : decode b_Ki_settle 110 = .ok (.aload_n 1, 1) := by decide +kernel
theorem d_Ki_settle_111 : decode b_Ki_settle 111 = .ok (.getfield 94, 3) := by decide +kernel
theorem d_Ki_settle_114 : decode b_Ki_settle 114 = .ok (.if_icmp .ge 40, 3) := by decide +kernel
theorem d_Ki_settle_117 : decode b_Ki_settle 117 = .ok (.iload 5, 2) := by decide +kernel
theorem d_Ki_settle_119 : decode b_Ki_settle 119 = .ok (.iload 7, 2) := by decide +kernel
theorem d_Ki_settle_121 : decode b_Ki_settle 121 = .ok (.ishr, 1) := by decide +kernel
theorem d_Ki_settle_122 : decode b_Ki_settle 122 = .ok (.iconst 1, 1) := by decide +kernel
theorem d_Ki_settle_123 : decode b_Ki_settle 123 = .ok (.iand, 1) := by decide +kernel
theorem d_Ki_settle_124 : decode b_Ki_settle 124 = .ok (.ifCond .eq 24, 3) := by decide +kernel
theorem d_Ki_settle_127 : decode b_Ki_settle 127 = .ok (.aload_n 0, 1) := by decide +kernel
theorem d_Ki_settle_128 : decode b_Ki_settle 128 = .ok (.aload_n 1, 1) := by decide +kernel
theorem d_Ki_settle_129 : decode b_Ki_settle 129 = .ok (.getfield 106, 3) := by decide +kernel
theorem d_Ki_settle_132 : decode b_Ki_settle 132 = .ok (.iload 7, 2) := by decide +kernel
theorem d_Ki_settle_134 : decode b_Ki_settle 134 = .ok (.aaload, 1) := by decide +kernel
theorem d_Ki_settle_135 : decode b_Ki_settle 135 = .ok (.aload_n 0, 1) := by decide +kernel
theorem d_Ki_settle_136 : decode b_Ki_settle 136 = .ok (.getfield 32, 3) := by decide +kernel
theorem d_Ki_settle_139 : decode b_Ki_settle 139 = .ok (.iload_n 2, 1) := by decide +kernel
theorem d_Ki_settle_140 : decode b_Ki_settle 140 = .ok (.iaload, 1) := by decide +kernel
theorem d_Ki_settle_141 : decode b_Ki_settle 141 = .ok (.iload 4, 2) := by decide +kernel
theorem d_Ki_settle_143 : decode b_Ki_settle 143 = .ok (.invokevirtual 110, 3) := by decide +kernel
theorem d_Ki_settle_146 : decode b_Ki_settle 146 = .ok (.istore 6, 2) := by decide +kernel
theorem d_Ki_settle_148 : decode b_Ki_settle 148 = .ok (.iinc 7 1, 3) := by decide +kernel
theorem d_Ki_settle_151 : decode b_Ki_settle 151 = .ok (.goto (-43), 3) := by decide +kernel
theorem d_Ki_settle_154 : decode b_Ki_settle 154 = .ok (.iload 6, 2) := by decide +kernel
theorem d_Ki_settle_156 : decode b_Ki_settle 156 = .ok (.iconst 1, 1) := by decide +kernel
theorem d_Ki_settle_157 : decode b_Ki_settle 157 = .ok (.if_icmp .le 25, 3) := by decide +kernel
theorem d_Ki_settle_160 : decode b_Ki_settle 160 = .ok (.aload_n 0, 1) := by decide +kernel
theorem d_Ki_settle_161 : decode b_Ki_settle 161 = .ok (.aload_n 0, 1) := by decide +kernel
theorem d_Ki_settle_162 : decode b_Ki_settle 162 = .ok (.getfield 32, 3) := by decide +kernel
theorem d_Ki_settle_165 : decode b_Ki_settle 165 = .ok (.iload_n 2, 1) := by decide +kernel
theorem d_Ki_settle_166 : decode b_Ki_settle 166 = .ok (.iaload, 1) := by decide +kernel
theorem d_Ki_settle_167 : decode b_Ki_settle 167 = .ok (.iload_n 3, 1) := by decide +kernel
theorem d_Ki_settle_168 : decode b_Ki_settle 168 = .ok (.iload 6, 2) := by decide +kernel
theorem d_Ki_settle_170 : decode b_Ki_settle 170 = .ok (.invokevirtual 114, 3) := by decide +kernel
theorem d_Ki_settle_173 : decode b_Ki_settle 173 = .ok (.aload_n 0, 1) := by decide +kernel
theorem d_Ki_settle_174 : decode b_Ki_settle 174 = .ok (.aload_n 1, 1) := by decide +kernel
theorem d_Ki_settle_175 : decode b_Ki_settle 175 = .ok (.iload_n 2, 1) := by decide +kernel
theorem d_Ki_settle_176 : decode b_Ki_settle 176 = .ok (.iload_n 3, 1) := by decide +kernel
theorem d_Ki_settle_177 : decode b_Ki_settle 177 = .ok (.iload 6, 2) := by decide +kernel
theorem d_Ki_settle_179 : decode b_Ki_settle 179 = .ok (.invokevirtual 118, 3) := by decide +kernel
theorem d_Ki_settle_182 : decode b_Ki_settle 182 = .ok (.return_, 1) := by decide +kernel
theorem d_Ki_regroup_0 : decode b_Ki_regroup 0 = .ok (.iconst 2, 1) := by decide +kernel
theorem d_Ki_regroup_1 : decode b_Ki_regroup 1 = .ok (.istore 4, 2) := by decide +kernel
theorem d_Ki_regroup_3 : decode b_Ki_regroup 3 = .ok (.iconst 0, 1) := by decide +kernel
theorem d_Ki_regroup_4 : decode b_Ki_regroup 4 = .ok (.istore 5, 2) := by decide +kernel
theorem d_Ki_regroup_6 : decode b_Ki_regroup 6 = .ok (.iload 5, 2) := by decide +kernel
theorem d_Ki_regroup_8 : decode b_Ki_regroup 8 = .ok (.bipush 12, 2) := by decide +kernel
theorem d_Ki_regroup_10 : decode b_Ki_regroup 10 = .ok (.if_icmp .ge 25, 3) := by decide +kernel
theorem d_Ki_regroup_13 : decode b_Ki_regroup 13 = .ok (.iload 4, 2) := by decide +kernel
theorem d_Ki_regroup_15 : decode b_Ki_regroup 15 = .ok (.iconst 2, 1) := by decide +kernel
theorem d_Ki_regroup_16 : decode b_Ki_regroup 16 = .ok (.iload_n 3, 1) := by decide +kernel
theorem d_Ki_regroup_17 : decode b_Ki_regroup 17 = .ok (.iload_n 2, 1) := by decide +kernel
theorem d_Ki_regroup_18 : decode b_Ki_regroup 18 = .ok (.isub, 1) := by decide +kernel
theorem d_Ki_regroup_19 : decode b_Ki_regroup 19 = .ok (.imul, 1) := by decide +kernel
theorem d_Ki_regroup_20 : decode b_Ki_regroup 20 = .ok (.if_icmp .ge 15, 3) := by decide +kernel
theorem d_Ki_regroup_23 : decode b_Ki_regroup 23 = .ok (.iload 4, 2) := by decide +kernel
theorem d_Ki_regroup_25 : decode b_Ki_regroup 25 = .ok (.iconst 2, 1) := by decide +kernel
theorem d_Ki_regroup_26 : decode b_Ki_regroup 26 = .ok (.imul, 1) := by decide +kernel
theorem d_Ki_regroup_27 : decode b_Ki_regroup 27 = .ok (.istore 4, 2) := by decide +kernel
theorem d_Ki_regroup_29 : decode b_Ki_regroup 29 = .ok (.iinc 5 1, 3) := by decide +kernel
theorem d_Ki_regroup_32 : decode b_Ki_regroup 32 = .ok (.goto (-26), 3) := by decide +kernel
theorem d_Ki_regroup_35 : decode b_Ki_regroup 35 = .ok (.aload_n 0, 1) := by decide +kernel
theorem d_Ki_regroup_36 : decode b_Ki_regroup 36 = .ok (.getfield 62, 3) := by decide +kernel
theorem d_Ki_regroup_39 : decode b_Ki_regroup 39 = .ok (.iconst 0, 1) := by decide +kernel
theorem d_Ki_regroup_40 : decode b_Ki_regroup 40 = .ok (.iload 4, 2) := by decide +kernel
theorem d_Ki_regroup_42 : decode b_Ki_regroup 42 = .ok (.iconst (-1), 1) := by decide +kernel
theorem d_Ki_regroup_43 : decode b_Ki_regroup 43 = .ok (.invokestatic 122, 3) := by decide +kernel
theorem d_Ki_regroup_46 : decode b_Ki_regroup 46 = .ok (.iconst 0, 1) := by decide +kernel
theorem d_Ki_regroup_47 : decode b_Ki_regroup 47 = .ok (.istore 5, 2) := by decide +kernel
theorem d_Ki_regroup_49 : decode b_Ki_regroup 49 = .ok (.iload_n 3, 1) := by decide +kernel
theorem d_Ki_regroup_50 : decode b_Ki_regroup 50 = .ok (.iconst 1, 1) := by decide +kernel
theorem d_Ki_regroup_51 : decode b_Ki_regroup 51 = .ok (.isub, 1) := by decide +kernel
theorem d_Ki_regroup_52 : decode b_Ki_regroup 52 = .ok (.istore 6, 2) := by decide +kernel
theorem d_Ki_regroup_54 : decode b_Ki_regroup 54 = .ok (.iload 6, 2) := by decide +kernel
theorem d_Ki_regroup_56 : decode b_Ki_regroup 56 = .ok (.iload_n 2, 1) := by decide +kernel
theorem d_Ki_regroup_57 : decode b_Ki_regroup 57 = .ok (.if_icmp .lt 97, 3) := by decide +kernel
theorem d_Ki_regroup_60 : decode b_Ki_regroup 60 = .ok (.aload_n 0, 1) := by decide +kernel
theorem d_Ki_regroup_61 : decode b_Ki_regroup 61 = .ok (.getfield 26, 3) := by decide +kernel
theorem d_Ki_regroup_64 : decode b_Ki_regroup 64 = .ok (.iload 6, 2) := by decide +kernel
theorem d_Ki_regroup_66 : decode b_Ki_regroup 66 = .ok (.iaload, 1) := by decide +kernel
theorem d_Ki_regroup_67 : decode b_Ki_regroup 67 = .ok (.istore 7, 2) := by decide +kernel
theorem d_Ki_regroup_69 : decode b_Ki_regroup 69 = .ok (.aload_n 0, 1) := by decide +kernel
theorem d_Ki_regroup_70 : decode b_Ki_regroup 70 = .ok (.getfield 50, 3) := by decide +kernel
theorem d_Ki_regroup_73 : decode b_Ki_regroup 73 = .ok (.iload 7, 2) := by decide +kernel
theorem d_Ki_regroup_75 : decode b_Ki_regroup 75 = .ok (.iaload, 1) := by decide +kernel
theorem d_Ki_regroup_76 : decode b_Ki_regroup 76 = .ok (.i2l, 1) := by decide +kernel
theorem d_Ki_regroup_77 : decode b_Ki_regroup 77 = .ok (.bipush 37, 2) := by decide +kernel
theorem d_Ki_regroup_79 : decode b_Ki_regroup 79 = .ok (.lshl, 1) := by decide +kernel
theorem d_Ki_regroup_80 : decode b_Ki_regroup 80 = .ok (.aload_n 0, 1) := by decide +kernel
theorem d_Ki_regroup_81 : decode b_Ki_regroup 81 = .ok (.aload_n 1, 1) := by decide +kernel
theorem d_Ki_regroup_82 : decode b_Ki_regroup 82 = .ok (.iload 7, 2) := by decide +kernel
theorem d_Ki_regroup_84 : decode b_Ki_regroup 84 = .ok (.invokevirtual 128, 3) := by decide +kernel
theorem d_Ki_regroup_87 : decode b_Ki_regroup 87 = .ok (.lor, 1) := by decide +kernel
theorem d_Ki_regroup_88 : decode b_Ki_regroup 88 = .ok (.lstore 8, 2) := by decide +kernel
theorem d_Ki_regroup_90 : decode b_Ki_regroup 90 = .ok (.aload_n 0, 1) := by decide +kernel
theorem d_Ki_regroup_91 : decode b_Ki_regroup 91 = .ok (.lload 8, 2) := by decide +kernel
theorem d_Ki_regroup_93 : decode b_Ki_regroup 93 = .ok (.iload 4, 2) := by decide +kernel
theorem d_Ki_regroup_95 : decode b_Ki_regroup 95 = .ok (.iconst 1, 1) := by decide +kernel
theorem d_Ki_regroup_96 : decode b_Ki_regroup 96 = .ok (.isub, 1) := by decide +kernel
theorem d_Ki_regroup_97 : decode b_Ki_regroup 97 = .ok (.invokevirtual 132, 3) := by decide +kernel
theorem d_Ki_regroup_100 : decode b_Ki_regroup 100 = .ok (.istore 10, 2) := by decide +kernel
theorem d_Ki_regroup_102 : decode b_Ki_regroup 102 = .ok (.aload_n 0, 1) := by decide +kernel
theorem d_Ki_regroup_103 : decode b_Ki_regroup 103 = .ok (.getfield 62, 3) := by decide +kernel
theorem d_Ki_regroup_106 : decode b_Ki_regroup 106 = .ok (.iload 10, 2) := by decide +kernel
theorem d_Ki_regroup_108 : decode b_Ki_regroup 108 = .ok (.iaload, 1) := by decide +kernel
theorem d_Ki_regroup_109 : decode b_Ki_regroup 109 = .ok (.iconst (-1), 1) := by decide +kernel
theorem d_Ki_regroup_110 : decode b_Ki_regroup 110 = .ok (.if_icmp .ne 24, 3) := by decide +kernel
theorem d_Ki_regroup_113 : decode b_Ki_regroup 113 = .ok (.aload_n 0, 1) := by decide +kernel
theorem d_Ki_regroup_114 : decode b_Ki_regroup 114 = .ok (.getfield 62, 3) := by decide +kernel
theorem d_Ki_regroup_117 : decode b_Ki_regroup 117 = .ok (.iload 10, 2) := by decide +kernel
theorem d_Ki_regroup_119 : decode b_Ki_regroup 119 = .ok (.iload 5, 2) := by decide +kernel
theorem d_Ki_regroup_121 : decode b_Ki_regroup 121 = .ok (.iastore, 1) := by decide +kernel
theorem d_Ki_regroup_122 : decode b_Ki_regroup 122 = .ok (.aload_n 0, 1) := by decide +kernel
theorem d_Ki_regroup_123 : decode b_Ki_regroup 123 = .ok (.getfield 65, 3) := by decide +kernel
theorem d_Ki_regroup_126 : decode b_Ki_regroup 126 = .ok (.iload 10, 2) := by decide +kernel
theorem d_Ki_regroup_128 : decode b_Ki_regroup 128 = .ok (.lload 8, 2) := by decide +kernel
theorem d_Ki_regroup_130 : decode b_Ki_regroup 130 = .ok (.lastore, 1) := by decide +kernel
theorem d_Ki_regroup_131 : decode b_Ki_regroup 131 = .ok (.iinc 5 1, 3) := by decide +kernel
theorem d_Ki_regroup_134 : decode b_Ki_regroup 134 = .ok (.aload_n 0, 1) := by decide +kernel
theorem d_Ki_regroup_135 : decode b_Ki_regroup 135 = .ok (.getfield 50, 3) := by decide +kernel
theorem d_Ki_regroup_138 : decode b_Ki_regroup 138 = .ok (.iload 7, 2) := by decide +kernel
theorem d_Ki_regroup_140 : decode b_Ki_regroup 140 = .ok (.aload_n 0, 1) := by decide +kernel
theorem d_Ki_regroup_141 : decode b_Ki_regroup 141 = .ok (.getfield 62, 3) := by decide +kernel
theorem d_Ki_regroup_144 : decode b_Ki_regroup 144 = .ok (.iload 10, 2) := by decide +kernel
theorem d_Ki_regroup_146 : decode b_Ki_regroup 146 = .ok (.iaload, 1) := by decide +kernel
theorem d_Ki_regroup_147 : decode b_Ki_regroup 147 = .ok (.iastore, 1) := by decide +kernel
theorem d_Ki_regroup_148 : decode b_Ki_regroup 148 = .ok (.iinc 6 (-1), 3) := by decide +kernel
theorem d_Ki_regroup_151 : decode b_Ki_regroup 151 = .ok (.goto (-97), 3) := by decide +kernel
theorem d_Ki_regroup_154 : decode b_Ki_regroup 154 = .ok (.iload 5, 2) := by decide +kernel
theorem d_Ki_regroup_156 : decode b_Ki_regroup 156 = .ok (.ireturn, 1) := by decide +kernel
theorem d_Ki_kindsBehind_0 : decode b_Ki_kindsBehind 0 = .ok (.aload_n 1, 1) := by decide +kernel
theorem d_Ki_kindsBehind_1 : decode b_Ki_kindsBehind 1 = .ok (.iload_n 2, 1) := by decide +kernel
theorem d_Ki_kindsBehind_2 : decode b_Ki_kindsBehind 2 = .ok (.invokevirtual 138, 3) := by decide +kernel
theorem d_Ki_kindsBehind_5 : decode b_Ki_kindsBehind 5 = .ok (.ifCond .ne 5, 3) := by decide +kernel
theorem d_Ki_kindsBehind_8 : decode b_Ki_kindsBehind 8 = .ok (.lconst 0, 1) := by decide +kernel
theorem d_Ki_kindsBehind_9 : decode b_Ki_kindsBehind 9 = .ok (.lreturn, 1) := by decide +kernel
theorem d_Ki_kindsBehind_10 : decode b_Ki_kindsBehind 10 = .ok (.aload_n 0, 1) := by decide +kernel
theorem d_Ki_kindsBehind_11 : decode b_Ki_kindsBehind 11 = .ok (.getfield 19, 3) := by decide +kernel
theorem d_Ki_kindsBehind_14 : decode b_Ki_kindsBehind 14 = .ok (.aload_n 1, 1) := by decide +kernel
theorem d_Ki_kindsBehind_15 : decode b_Ki_kindsBehind 15 = .ok (.getfield 144, 3) := by decide +kernel
theorem d_Ki_kindsBehind_18 : decode b_Ki_kindsBehind 18 = .ok (.iconst 0, 1) := by decide +kernel
theorem d_Ki_kindsBehind_19 : decode b_Ki_kindsBehind 19 = .ok (.aaload, 1) := by decide +kernel
theorem d_Ki_kindsBehind_20 : decode b_Ki_kindsBehind 20 = .ok (.getfield 148, 3) := by decide +kernel
theorem d_Ki_kindsBehind_23 : decode b_Ki_kindsBehind 23 = .ok (.iload_n 2, 1) := by decide +kernel
theorem d_Ki_kindsBehind_24 : decode b_Ki_kindsBehind 24 = .ok (.iaload, 1) := by decide +kernel
theorem d_Ki_kindsBehind_25 : decode b_Ki_kindsBehind 25 = .ok (.iaload, 1) := by decide +kernel
theorem d_Ki_kindsBehind_26 : decode b_Ki_kindsBehind 26 = .ok (.istore_n 3, 1) := by decide +kernel
theorem d_Ki_kindsBehind_27 : decode b_Ki_kindsBehind 27 = .ok (.aload_n 1, 1) := by decide +kernel
theorem d_Ki_kindsBehind_28 : decode b_Ki_kindsBehind 28 = .ok (.getfield 153, 3) := by decide +kernel
theorem d_Ki_kindsBehind_31 : decode b_Ki_kindsBehind 31 = .ok (.iconst 1, 1) := by decide +kernel
theorem d_Ki_kindsBehind_32 : decode b_Ki_kindsBehind 32 = .ok (.if_icmp .le 22, 3) := by decide +kernel
theorem d_Ki_kindsBehind_35 : decode b_Ki_kindsBehind 35 = .ok (.aload_n 0, 1) := by decide +kernel
theorem d_Ki_kindsBehind_36 : decode b_Ki_kindsBehind 36 = .ok (.getfield 19, 3) := by decide +kernel
theorem d_Ki_kindsBehind_39 : decode b_Ki_kindsBehind 39 = .ok (.aload_n 1, 1) := by decide +kernel
theorem d_Ki_kindsBehind_40 : decode b_Ki_kindsBehind 40 = .ok (.getfield 144, 3) := by decide +kernel
theorem d_Ki_kindsBehind_43 : decode b_Ki_kindsBehind 43 = .ok (.iconst 1, 1) := by decide +kernel
theorem d_Ki_kindsBehind_44 : decode b_Ki_kindsBehind 44 = .ok (.aaload, 1) := by decide +kernel
theorem d_Ki_kindsBehind_45 : decode b_Ki_kindsBehind 45 = .ok (.getfield 148, 3) := by decide +kernel
theorem d_Ki_kindsBehind_48 : decode b_Ki_kindsBehind 48 = .ok (.iload_n 2, 1) := by decide +kernel
theorem d_Ki_kindsBehind_49 : decode b_Ki_kindsBehind 49 = .ok (.iaload, 1) := by decide +kernel
theorem d_Ki_kindsBehind_50 : decode b_Ki_kindsBehind 50 = .ok (.iaload, 1) := by decide +kernel
theorem d_Ki_kindsBehind_51 : decode b_Ki_kindsBehind 51 = .ok (.goto 4, 3) := by decide +kernel
theorem d_Ki_kindsBehind_54 : decode b_Ki_kindsBehind 54 = .ok (.iload_n 3, 1) := by decide +kernel
theorem d_Ki_kindsBehind_55 : decode b_Ki_kindsBehind 55 = .ok (.istore 4, 2) := by decide +kernel
theorem d_Ki_kindsBehind_57 : decode b_Ki_kindsBehind 57 = .ok (.aload_n 1, 1) := by decide +kernel
theorem d_Ki_kindsBehind_58 : decode b_Ki_kindsBehind 58 = .ok (.getfield 153, 3) := by decide +kernel
theorem d_Ki_kindsBehind_61 : decode b_Ki_kindsBehind 61 = .ok (.iconst 2, 1) := by decide +kernel
theorem d_Ki_kindsBehind_62 : decode b_Ki_kindsBehind 62 = .ok (.if_icmp .le 22, 3) := by decide +kernel
theorem d_Ki_kindsBehind_65 : decode b_Ki_kindsBehind 65 = .ok (.aload_n 0, 1) := by decide +kernel
theorem d_Ki_kindsBehind_66 : decode b_Ki_kindsBehind 66 = .ok (.getfield 19, 3) := by decide +kernel
theorem d_Ki_kindsBehind_69 : decode b_Ki_kindsBehind 69 = .ok (.aload_n 1, 1) := by decide +kernel
theorem d_Ki_kindsBehind_70 : decode b_Ki_kindsBehind 70 = .ok (.getfield 144, 3) := by decide +kernel
theorem d_Ki_kindsBehind_73 : decode b_Ki_kindsBehind 73 = .ok (.iconst 2, 1) := by decide +kernel
theorem d_Ki_kindsBehind_74 : decode b_Ki_kindsBehind 74 = .ok (.aaload, 1) := by decide +kernel
theorem d_Ki_kindsBehind_75 : decode b_Ki_kindsBehind 75 = .ok (.getfield 148, 3) := by decide +kernel
theorem d_Ki_kindsBehind_78 : decode b_Ki_kindsBehind 78 = .ok (.iload_n 2, 1) := by decide +kernel
theorem d_Ki_kindsBehind_79 : decode b_Ki_kindsBehind 79 = .ok (.iaload, 1) := by decide +kernel
theorem d_Ki_kindsBehind_80 : decode b_Ki_kindsBehind 80 = .ok (.iaload, 1) := by decide +kernel
theorem d_Ki_kindsBehind_81 : decode b_Ki_kindsBehind 81 = .ok (.goto 4, 3) := by decide +kernel
theorem d_Ki_kindsBehind_84 : decode b_Ki_kindsBehind 84 = .ok (.iload_n 3, 1) := by decide +kernel
theorem d_Ki_kindsBehind_85 : decode b_Ki_kindsBehind 85 = .ok (.istore 5, 2) := by decide +kernel
theorem d_Ki_kindsBehind_87 : decode b_Ki_kindsBehind 87 = .ok (.iload_n 3, 1) := by decide +kernel
theorem d_Ki_kindsBehind_88 : decode b_Ki_kindsBehind 88 = .ok (.iload 4, 2) := by decide +kernel
theorem d_Ki_kindsBehind_90 : decode b_Ki_kindsBehind 90 = .ok (.iload 5, 2) := by decide +kernel
theorem d_Ki_kindsBehind_92 : decode b_Ki_kindsBehind 92 = .ok (.invokestatic 101, 3) := by decide +kernel
theorem d_Ki_kindsBehind_95 : decode b_Ki_kindsBehind 95 = .ok (.invokestatic 101, 3) := by decide +kernel
theorem d_Ki_kindsBehind_98 : decode b_Ki_kindsBehind 98 = .ok (.istore 6, 2) := by decide +kernel
theorem d_Ki_kindsBehind_100 : decode b_Ki_kindsBehind 100 = .ok (.iload_n 3, 1) := by decide +kernel
theorem d_Ki_kindsBehind_101 : decode b_Ki_kindsBehind 101 = .ok (.iload 4, 2) := by decide +kernel
theorem d_Ki_kindsBehind_103 : decode b_Ki_kindsBehind 103 = .ok (.iload 5, 2) := by decide +kernel
theorem d_Ki_kindsBehind_105 : decode b_Ki_kindsBehind 105 = .ok (.invokestatic 156, 3) := by decide +kernel
theorem d_Ki_kindsBehind_108 : decode b_Ki_kindsBehind 108 = .ok (.invokestatic 156, 3) := by decide +kernel
theorem d_Ki_kindsBehind_111 : decode b_Ki_kindsBehind 111 = .ok (.istore 7, 2) := by decide +kernel
theorem d_Ki_kindsBehind_113 : decode b_Ki_kindsBehind 113 = .ok (.iload_n 3, 1) := by decide +kernel
theorem d_Ki_kindsBehind_114 : decode b_Ki_kindsBehind 114 = .ok (.iload 4, 2) := by decide +kernel
theorem d_Ki_kindsBehind_116 : decode b_Ki_kindsBehind 116 = .ok (.ixor, 1) := by decide +kernel
theorem d_Ki_kindsBehind_117 : decode b_Ki_kindsBehind 117 = .ok (.iload 5, 2) := by decide +kernel
theorem d_Ki_kindsBehind_119 : decode b_Ki_kindsBehind 119 = .ok (.ixor, 1) := by decide +kernel
theorem d_Ki_kindsBehind_120 : decode b_Ki_kindsBehind 120 = .ok (.iload 6, 2) := by decide +kernel
theorem d_Ki_kindsBehind_122 : decode b_Ki_kindsBehind 122 = .ok (.ixor, 1) := by decide +kernel
theorem d_Ki_kindsBehind_123 : decode b_Ki_kindsBehind 123 = .ok (.iload 7, 2) := by decide +kernel
theorem d_Ki_kindsBehind_125 : decode b_Ki_kindsBehind 125 = .ok (.ixor, 1) := by decide +kernel
theorem d_Ki_kindsBehind_126 : decode b_Ki_kindsBehind 126 = .ok (.istore 8, 2) := by decide +kernel
theorem d_Ki_kindsBehind_128 : decode b_Ki_kindsBehind 128 = .ok (.iload 8, 2) := by decide +kernel
theorem d_Ki_kindsBehind_130 : decode b_Ki_kindsBehind 130 = .ok (.iload 7, 2) := by decide +kernel
theorem d_Ki_kindsBehind_132 : decode b_Ki_kindsBehind 132 = .ok (.if_icmp .ne 7, 3) := by decide +kernel
theorem d_Ki_kindsBehind_135 : decode b_Ki_kindsBehind 135 = .ok (.iload 6, 2) := by decide +kernel
theorem d_Ki_kindsBehind_137 : decode b_Ki_kindsBehind 137 = .ok (.istore 8, 2) := by decide +kernel
theorem d_Ki_kindsBehind_139 : decode b_Ki_kindsBehind 139 = .ok (.lconst 1, 1) := by decide +kernel
theorem d_Ki_kindsBehind_140 : decode b_Ki_kindsBehind 140 = .ok (.iload 6, 2) := by decide +kernel
theorem d_Ki_kindsBehind_142 : decode b_Ki_kindsBehind 142 = .ok (.i2l, 1) := by decide +kernel
theorem d_Ki_kindsBehind_143 : decode b_Ki_kindsBehind 143 = .ok (.bipush 24, 2) := by decide +kernel
theorem d_Ki_kindsBehind_145 : decode b_Ki_kindsBehind 145 = .ok (.lshl, 1) := by decide +kernel
theorem d_Ki_kindsBehind_146 : decode b_Ki_kindsBehind 146 = .ok (.iload 8, 2) := by decide +kernel
theorem d_Ki_kindsBehind_148 : decode b_Ki_kindsBehind 148 = .ok (.i2l, 1) := by decide +kernel
theorem d_Ki_kindsBehind_149 : decode b_Ki_kindsBehind 149 = .ok (.bipush 12, 2) := by decide +kernel
theorem d_Ki_kindsBehind_151 : decode b_Ki_kindsBehind 151 = .ok (.lshl, 1) := by decide +kernel
theorem d_Ki_kindsBehind_152 : decode b_Ki_kindsBehind 152 = .ok (.lor, 1) := by decide +kernel
theorem d_Ki_kindsBehind_153 : decode b_Ki_kindsBehind 153 = .ok (.iload 7, 2) := by decide +kernel
theorem d_Ki_kindsBehind_155 : decode b_Ki_kindsBehind 155 = .ok (.i2l, 1) := by decide +kernel
theorem d_Ki_kindsBehind_156 : decode b_Ki_kindsBehind 156 = .ok (.lor, 1) := by decide +kernel
theorem d_Ki_kindsBehind_157 : decode b_Ki_kindsBehind 157 = .ok (.ladd, 1) := by decide +kernel
theorem d_Ki_kindsBehind_158 : decode b_Ki_kindsBehind 158 = .ok (.lreturn, 1) := by decide +kernel
theorem d_Ki_slotOf_0 : decode b_Ki_slotOf 0 = .ok (.lload_n 1, 1) := by decide +kernel
theorem d_Ki_slotOf_1 : decode b_Ki_slotOf 1 = .ok (.ldc2_w 136, 3) := by decide +kernel
theorem d_Ki_slotOf_4 : decode b_Ki_slotOf 4 = .ok (.lmul, 1) := by decide +kernel
theorem d_Ki_slotOf_5 : decode b_Ki_slotOf 5 = .ok (.bipush 40, 2) := by decide +kernel
theorem d_Ki_slotOf_7 : decode b_Ki_slotOf 7 = .ok (.lushr, 1) := by decide +kernel
theorem d_Ki_slotOf_8 : decode b_Ki_slotOf 8 = .ok (.l2i, 1) := by decide +kernel
theorem d_Ki_slotOf_9 : decode b_Ki_slotOf 9 = .ok (.iload_n 3, 1) := by decide +kernel
theorem d_Ki_slotOf_10 : decode b_Ki_slotOf 10 = .ok (.iand, 1) := by decide +kernel
theorem d_Ki_slotOf_11 : decode b_Ki_slotOf 11 = .ok (.istore 4, 2) := by decide +kernel
theorem d_Ki_slotOf_13 : decode b_Ki_slotOf 13 = .ok (.iconst 0, 1) := by decide +kernel
theorem d_Ki_slotOf_14 : decode b_Ki_slotOf 14 = .ok (.istore 5, 2) := by decide +kernel
theorem d_Ki_slotOf_16 : decode b_Ki_slotOf 16 = .ok (.iload 5, 2) := by decide +kernel
theorem d_Ki_slotOf_18 : decode b_Ki_slotOf 18 = .ok (.iload_n 3, 1) := by decide +kernel
theorem d_Ki_slotOf_19 : decode b_Ki_slotOf 19 = .ok (.if_icmp .ge 40, 3) := by decide +kernel
theorem d_Ki_slotOf_22 : decode b_Ki_slotOf 22 = .ok (.aload_n 0, 1) := by decide +kernel
theorem d_Ki_slotOf_23 : decode b_Ki_slotOf 23 = .ok (.getfield 62, 3) := by decide +kernel
theorem d_Ki_slotOf_26 : decode b_Ki_slotOf 26 = .ok (.iload 4, 2) := by decide +kernel
theorem d_Ki_slotOf_28 : decode b_Ki_slotOf 28 = .ok (.iaload, 1) := by decide +kernel
theorem d_Ki_slotOf_29 : decode b_Ki_slotOf 29 = .ok (.iconst (-1), 1) := by decide +kernel
theorem d_Ki_slotOf_30 : decode b_Ki_slotOf 30 = .ok (.if_icmp .eq 29, 3) := by decide +kernel
theorem d_Ki_slotOf_33 : decode b_Ki_slotOf 33 = .ok (.aload_n 0, 1) := by decide +kernel
theorem d_Ki_slotOf_34 : decode b_Ki_slotOf 34 = .ok (.getfield 65, 3) := by decide +kernel
theorem d_Ki_slotOf_37 : decode b_Ki_slotOf 37 = .ok (.iload 4, 2) := by decide +kernel
theorem d_Ki_slotOf_39 : decode b_Ki_slotOf 39 = .ok (.laload, 1) := by decide +kernel
theorem d_Ki_slotOf_40 : decode b_Ki_slotOf 40 = .ok (.lload_n 1, 1) := by decide +kernel
theorem d_Ki_slotOf_41 : decode b_Ki_slotOf 41 = .ok (.lcmp, 1) := by decide +kernel
theorem d_Ki_slotOf_42 : decode b_Ki_slotOf 42 = .ok (.ifCond .eq 17, 3) := by decide +kernel
theorem d_Ki_slotOf_45 : decode b_Ki_slotOf 45 = .ok (.iload 4, 2) := by decide +kernel
theorem d_Ki_slotOf_47 : decode b_Ki_slotOf 47 = .ok (.iconst 1, 1) := by decide +kernel
theorem d_Ki_slotOf_48 : decode b_Ki_slotOf 48 = .ok (.iadd, 1) := by decide +kernel
theorem d_Ki_slotOf_49 : decode b_Ki_slotOf 49 = .ok (.iload_n 3, 1) := by decide +kernel
theorem d_Ki_slotOf_50 : decode b_Ki_slotOf 50 = .ok (.iand, 1) := by decide +kernel
theorem d_Ki_slotOf_51 : decode b_Ki_slotOf 51 = .ok (.istore 4, 2) := by decide +kernel
theorem d_Ki_slotOf_53 : decode b_Ki_slotOf 53 = .ok (.iinc 5 1, 3) := by decide +kernel
theorem d_Ki_slotOf_56 : decode b_Ki_slotOf 56 = .ok (.goto (-40), 3) := by decide +kernel
theorem d_Ki_slotOf_59 : decode b_Ki_slotOf 59 = .ok (.iload 4, 2) := by decide +kernel
theorem d_Ki_slotOf_61 : decode b_Ki_slotOf 61 = .ok (.ireturn, 1) := by decide +kernel
theorem d_Ki_sortByGroup_0 : decode b_Ki_sortByGroup 0 = .ok (.aload_n 0, 1) := by decide +kernel
theorem d_Ki_sortByGroup_1 : decode b_Ki_sortByGroup 1 = .ok (.getfield 53, 3) := by decide +kernel
theorem d_Ki_sortByGroup_4 : decode b_Ki_sortByGroup 4 = .ok (.iconst 0, 1) := by decide +kernel
theorem d_Ki_sortByGroup_5 : decode b_Ki_sortByGroup 5 = .ok (.iload_n 3, 1) := by decide +kernel
theorem d_Ki_sortByGroup_6 : decode b_Ki_sortByGroup 6 = .ok (.iconst 0, 1) := by decide +kernel
theorem d_Ki_sortByGroup_7 : decode b_Ki_sortByGroup 7 = .ok (.invokestatic 122, 3) := by decide +kernel
theorem d_Ki_sortByGroup_10 : decode b_Ki_sortByGroup 10 = .ok (.iload_n 1, 1) := by decide +kernel
theorem d_Ki_sortByGroup_11 : decode b_Ki_sortByGroup 11 = .ok (.istore 4, 2) := by decide +kernel
theorem d_Ki_sortByGroup_13 : decode b_Ki_sortByGroup 13 = .ok (.iload 4, 2) := by decide +kernel
theorem d_Ki_sortByGroup_15 : decode b_Ki_sortByGroup 15 = .ok (.iload_n 2, 1) := by decide +kernel
theorem d_Ki_sortByGroup_16 : decode b_Ki_sortByGroup 16 = .ok (.if_icmp .ge 30, 3) := by decide +kernel
theorem d_Ki_sortByGroup_19 : decode b_Ki_sortByGroup 19 = .ok (.aload_n 0, 1) := by decide +kernel
theorem d_Ki_sortByGroup_20 : decode b_Ki_sortByGroup 20 = .ok (.getfield 53, 3) := by decide +kernel
theorem d_Ki_sortByGroup_23 : decode b_Ki_sortByGroup 23 = .ok (.aload_n 0, 1) := by decide +kernel
theorem d_Ki_sortByGroup_24 : decode b_Ki_sortByGroup 24 = .ok (.getfield 50, 3) := by decide +kernel
theorem d_Ki_sortByGroup_27 : decode b_Ki_sortByGroup 27 = .ok (.aload_n 0, 1) := by decide +kernel
theorem d_Ki_sortByGroup_28 : decode b_Ki_sortByGroup 28 = .ok (.getfield 26, 3) := by decide +kernel
theorem d_Ki_sortByGroup_31 : decode b_Ki_sortByGroup 31 = .ok (.iload 4, 2) := by decide +kernel
theorem d_Ki_sortByGroup_33 : decode b_Ki_sortByGroup 33 = .ok (.iaload, 1) := by decide +kernel
theorem d_Ki_sortByGroup_34 : decode b_Ki_sortByGroup 34 = .ok (.iaload, 1) := by decide +kernel
theorem d_Ki_sortByGroup_35 : decode b_Ki_sortByGroup 35 = .ok (.dup2, 1) := by decide +kernel
theorem d_Ki_sortByGroup_36 : decode b_Ki_sortByGroup 36 = .ok (.iaload, 1) := by decide +kernel
theorem d_Ki_sortByGroup_37 : decode b_Ki_sortByGroup 37 = .ok (.iconst 1, 1) := by decide +kernel
theorem d_Ki_sortByGroup_38 : decode b_Ki_sortByGroup 38 = .ok (.iadd, 1) := by decide +kernel
theorem d_Ki_sortByGroup_39 : decode b_Ki_sortByGroup 39 = .ok (.iastore, 1) := by decide +kernel
theorem d_Ki_sortByGroup_40 : decode b_Ki_sortByGroup 40 = .ok (.iinc 4 1, 3) := by decide +kernel
theorem d_Ki_sortByGroup_43 : decode b_Ki_sortByGroup 43 = .ok (.goto (-30), 3) := by decide +kernel
theorem d_Ki_sortByGroup_46 : decode b_Ki_sortByGroup 46 = .ok (.iload_n 1, 1) := by decide +kernel
theorem d_Ki_sortByGroup_47 : decode b_Ki_sortByGroup 47 = .ok (.istore 4, 2) := by decide +kernel
theorem d_Ki_sortByGroup_49 : decode b_Ki_sortByGroup 49 = .ok (.iconst 1, 1) := by decide +kernel
theorem d_Ki_sortByGroup_50 : decode b_Ki_sortByGroup 50 = .ok (.istore 5, 2) := by decide +kernel
theorem d_Ki_sortByGroup_52 : decode b_Ki_sortByGroup 52 = .ok (.iload 5, 2) := by decide +kernel
theorem d_Ki_sortByGroup_54 : decode b_Ki_sortByGroup 54 = .ok (.iload_n 3, 1) := by decide +kernel
theorem d_Ki_sortByGroup_55 : decode b_Ki_sortByGroup 55 = .ok (.if_icmp .ge 30, 3) := by decide +kernel
theorem d_Ki_sortByGroup_58 : decode b_Ki_sortByGroup 58 = .ok (.aload_n 0, 1) := by decide +kernel
theorem d_Ki_sortByGroup_59 : decode b_Ki_sortByGroup 59 = .ok (.getfield 56, 3) := by decide +kernel
theorem d_Ki_sortByGroup_62 : decode b_Ki_sortByGroup 62 = .ok (.iload 5, 2) := by decide +kernel
theorem d_Ki_sortByGroup_64 : decode b_Ki_sortByGroup 64 = .ok (.iload 4, 2) := by decide +kernel
theorem d_Ki_sortByGroup_66 : decode b_Ki_sortByGroup 66 = .ok (.iastore, 1) := by decide +kernel
theorem d_Ki_sortByGroup_67 : decode b_Ki_sortByGroup 67 = .ok (.iload 4, 2) := by decide +kernel
theorem d_Ki_sortByGroup_69 : decode b_Ki_sortByGroup 69 = .ok (.aload_n 0, 1) := by decide +kernel
theorem d_Ki_sortByGroup_70 : decode b_Ki_sortByGroup 70 = .ok (.getfield 53, 3) := by decide +kernel
theorem d_Ki_sortByGroup_73 : decode b_Ki_sortByGroup 73 = .ok (.iload 5, 2) := by decide +kernel
theorem d_Ki_sortByGroup_75 : decode b_Ki_sortByGroup 75 = .ok (.iaload, 1) := by decide +kernel
theorem d_Ki_sortByGroup_76 : decode b_Ki_sortByGroup 76 = .ok (.iadd, 1) := by decide +kernel
theorem d_Ki_sortByGroup_77 : decode b_Ki_sortByGroup 77 = .ok (.istore 4, 2) := by decide +kernel
theorem d_Ki_sortByGroup_79 : decode b_Ki_sortByGroup 79 = .ok (.iinc 5 1, 3) := by decide +kernel
theorem d_Ki_sortByGroup_82 : decode b_Ki_sortByGroup 82 = .ok (.goto (-30), 3) := by decide +kernel
theorem d_Ki_sortByGroup_85 : decode b_Ki_sortByGroup 85 = .ok (.aload_n 0, 1) := by decide +kernel
theorem d_Ki_sortByGroup_86 : decode b_Ki_sortByGroup 86 = .ok (.getfield 56, 3) := by decide +kernel
theorem d_Ki_sortByGroup_89 : decode b_Ki_sortByGroup 89 = .ok (.iconst 0, 1) := by decide +kernel
theorem d_Ki_sortByGroup_90 : decode b_Ki_sortByGroup 90 = .ok (.iload 4, 2) := by decide +kernel
theorem d_Ki_sortByGroup_92 : decode b_Ki_sortByGroup 92 = .ok (.iastore, 1) := by decide +kernel
theorem d_Ki_sortByGroup_93 : decode b_Ki_sortByGroup 93 = .ok (.iload_n 1, 1) := by decide +kernel
theorem d_Ki_sortByGroup_94 : decode b_Ki_sortByGroup 94 = .ok (.istore 5, 2) := by decide +kernel
theorem d_Ki_sortByGroup_96 : decode b_Ki_sortByGroup 96 = .ok (.iload 5, 2) := by decide +kernel
theorem d_Ki_sortByGroup_98 : decode b_Ki_sortByGroup 98 = .ok (.iload_n 2, 1) := by decide +kernel
theorem d_Ki_sortByGroup_99 : decode b_Ki_sortByGroup 99 = .ok (.if_icmp .ge 53, 3) := by decide +kernel
theorem d_Ki_sortByGroup_102 : decode b_Ki_sortByGroup 102 = .ok (.aload_n 0, 1) := by decide +kernel
theorem d_Ki_sortByGroup_103 : decode b_Ki_sortByGroup 103 = .ok (.getfield 50, 3) := by decide +kernel
theorem d_Ki_sortByGroup_106 : decode b_Ki_sortByGroup 106 = .ok (.aload_n 0, 1) := by decide +kernel
theorem d_Ki_sortByGroup_107 : decode b_Ki_sortByGroup 107 = .ok (.getfield 26, 3) := by decide +kernel
theorem d_Ki_sortByGroup_110 : decode b_Ki_sortByGroup 110 = .ok (.iload 5, 2) := by decide +kernel
theorem d_Ki_sortByGroup_112 : decode b_Ki_sortByGroup 112 = .ok (.iaload, 1) := by decide +kernel
theorem d_Ki_sortByGroup_113 : decode b_Ki_sortByGroup 113 = .ok (.iaload, 1) := by decide +kernel
theorem d_Ki_sortByGroup_114 : decode b_Ki_sortByGroup 114 = .ok (.istore 6, 2) := by decide +kernel
theorem d_Ki_sortByGroup_116 : decode b_Ki_sortByGroup 116 = .ok (.aload_n 0, 1) := by decide +kernel
theorem d_Ki_sortByGroup_117 : decode b_Ki_sortByGroup 117 = .ok (.getfield 59, 3) := by decide +kernel
theorem d_Ki_sortByGroup_120 : decode b_Ki_sortByGroup 120 = .ok (.aload_n 0, 1) := by decide +kernel
theorem d_Ki_sortByGroup_121 : decode b_Ki_sortByGroup 121 = .ok (.getfield 56, 3) := by decide +kernel
theorem d_Ki_sortByGroup_124 : decode b_Ki_sortByGroup 124 = .ok (.iload 6, 2) := by decide +kernel
theorem d_Ki_sortByGroup_126 : decode b_Ki_sortByGroup 126 = .ok (.iaload, 1) := by decide +kernel
theorem d_Ki_sortByGroup_127 : decode b_Ki_sortByGroup 127 = .ok (.aload_n 0, 1) := by decide +kernel
theorem d_Ki_sortByGroup_128 : decode b_Ki_sortByGroup 128 = .ok (.getfield 26, 3) := by decide +kernel
theorem d_Ki_sortByGroup_131 : decode b_Ki_sortByGroup 131 = .ok (.iload 5, 2) := by decide +kernel
theorem d_Ki_sortByGroup_133 : decode b_Ki_sortByGroup 133 = .ok (.iaload, 1) := by decide +kernel
theorem d_Ki_sortByGroup_134 : decode b_Ki_sortByGroup 134 = .ok (.iastore, 1) := by decide +kernel
theorem d_Ki_sortByGroup_135 : decode b_Ki_sortByGroup 135 = .ok (.aload_n 0, 1) := by decide +kernel
theorem d_Ki_sortByGroup_136 : decode b_Ki_sortByGroup 136 = .ok (.getfield 56, 3) := by decide +kernel
theorem d_Ki_sortByGroup_139 : decode b_Ki_sortByGroup 139 = .ok (.iload 6, 2) := by decide +kernel
theorem d_Ki_sortByGroup_141 : decode b_Ki_sortByGroup 141 = .ok (.dup2, 1) := by decide +kernel
theorem d_Ki_sortByGroup_142 : decode b_Ki_sortByGroup 142 = .ok (.iaload, 1) := by decide +kernel
theorem d_Ki_sortByGroup_143 : decode b_Ki_sortByGroup 143 = .ok (.iconst 1, 1) := by decide +kernel
theorem d_Ki_sortByGroup_144 : decode b_Ki_sortByGroup 144 = .ok (.iadd, 1) := by decide +kernel
theorem d_Ki_sortByGroup_145 : decode b_Ki_sortByGroup 145 = .ok (.iastore, 1) := by decide +kernel
theorem d_Ki_sortByGroup_146 : decode b_Ki_sortByGroup 146 = .ok (.iinc 5 1, 3) := by decide +kernel
theorem d_Ki_sortByGroup_149 : decode b_Ki_sortByGroup 149 = .ok (.goto (-53), 3) := by decide +kernel
theorem d_Ki_sortByGroup_152 : decode b_Ki_sortByGroup 152 = .ok (.iload_n 1, 1) := by decide +kernel
theorem d_Ki_sortByGroup_153 : decode b_Ki_sortByGroup 153 = .ok (.istore 5, 2) := by decide +kernel
theorem d_Ki_sortByGroup_155 : decode b_Ki_sortByGroup 155 = .ok (.iload 5, 2) := by decide +kernel
theorem d_Ki_sortByGroup_157 : decode b_Ki_sortByGroup 157 = .ok (.iload_n 2, 1) := by decide +kernel
theorem d_Ki_sortByGroup_158 : decode b_Ki_sortByGroup 158 = .ok (.if_icmp .ge 37, 3) := by decide +kernel
theorem d_Ki_sortByGroup_161 : decode b_Ki_sortByGroup 161 = .ok (.aload_n 0, 1) := by decide +kernel
theorem d_Ki_sortByGroup_162 : decode b_Ki_sortByGroup 162 = .ok (.getfield 26, 3) := by decide +kernel
theorem d_Ki_sortByGroup_165 : decode b_Ki_sortByGroup 165 = .ok (.iload 5, 2) := by decide +kernel
theorem d_Ki_sortByGroup_167 : decode b_Ki_sortByGroup 167 = .ok (.aload_n 0, 1) := by decide +kernel
theorem d_Ki_sortByGroup_168 : decode b_Ki_sortByGroup 168 = .ok (.getfield 59, 3) := by decide +kernel
theorem d_Ki_sortByGroup_171 : decode b_Ki_sortByGroup 171 = .ok (.iload 5, 2) := by decide +kernel
theorem d_Ki_sortByGroup_173 : decode b_Ki_sortByGroup 173 = .ok (.iaload, 1) := by decide +kernel
theorem d_Ki_sortByGroup_174 : decode b_Ki_sortByGroup 174 = .ok (.iastore, 1) := by decide +kernel
theorem d_Ki_sortByGroup_175 : decode b_Ki_sortByGroup 175 = .ok (.aload_n 0, 1) := by decide +kernel
theorem d_Ki_sortByGroup_176 : decode b_Ki_sortByGroup 176 = .ok (.getfield 29, 3) := by decide +kernel
theorem d_Ki_sortByGroup_179 : decode b_Ki_sortByGroup 179 = .ok (.aload_n 0, 1) := by decide +kernel
theorem d_Ki_sortByGroup_180 : decode b_Ki_sortByGroup 180 = .ok (.getfield 26, 3) := by decide +kernel
theorem d_Ki_sortByGroup_183 : decode b_Ki_sortByGroup 183 = .ok (.iload 5, 2) := by decide +kernel
theorem d_Ki_sortByGroup_185 : decode b_Ki_sortByGroup 185 = .ok (.iaload, 1) := by decide +kernel
theorem d_Ki_sortByGroup_186 : decode b_Ki_sortByGroup 186 = .ok (.iload 5, 2) := by decide +kernel
theorem d_Ki_sortByGroup_188 : decode b_Ki_sortByGroup 188 = .ok (.iastore, 1) := by decide +kernel
theorem d_Ki_sortByGroup_189 : decode b_Ki_sortByGroup 189 = .ok (.iinc 5 1, 3) := by decide +kernel
theorem d_Ki_sortByGroup_192 : decode b_Ki_sortByGroup 192 = .ok (.goto (-37), 3) := by decide +kernel
theorem d_Ki_sortByGroup_195 : decode b_Ki_sortByGroup 195 = .ok (.return_, 1) := by decide +kernel
theorem d_Ki_divide_0 : decode b_Ki_divide 0 = .ok (.aload_n 0, 1) := by decide +kernel
theorem d_Ki_divide_1 : decode b_Ki_divide 1 = .ok (.getfield 35, 3) := by decide +kernel
theorem d_Ki_divide_4 : decode b_Ki_divide 4 = .ok (.iload_n 2, 1) := by decide +kernel
theorem d_Ki_divide_5 : decode b_Ki_divide 5 = .ok (.iaload, 1) := by decide +kernel
theorem d_Ki_divide_6 : decode b_Ki_divide 6 = .ok (.istore 5, 2) := by decide +kernel
theorem d_Ki_divide_8 : decode b_Ki_divide 8 = .ok (.aload_n 0, 1) := by decide +kernel
theorem d_Ki_divide_9 : decode b_Ki_divide 9 = .ok (.getfield 53, 3) := by decide +kernel
theorem d_Ki_divide_12 : decode b_Ki_divide 12 = .ok (.iconst 0, 1) := by decide +kernel
theorem d_Ki_divide_13 : decode b_Ki_divide 13 = .ok (.dup2, 1) := by decide +kernel
theorem d_Ki_divide_14 : decode b_Ki_divide 14 = .ok (.iaload, 1) := by decide +kernel
theorem d_Ki_divide_15 : decode b_Ki_divide 15 = .ok (.iload 5, 2) := by decide +kernel
theorem d_Ki_divide_17 : decode b_Ki_divide 17 = .ok (.iload_n 3, 1) := by decide +kernel
theorem d_Ki_divide_18 : decode b_Ki_divide 18 = .ok (.isub, 1) := by decide +kernel
theorem d_Ki_divide_19 : decode b_Ki_divide 19 = .ok (.iadd, 1) := by decide +kernel
theorem d_Ki_divide_20 : decode b_Ki_divide 20 = .ok (.iastore, 1) := by decide +kernel
theorem d_Ki_divide_21 : decode b_Ki_divide 21 = .ok (.aload_n 0, 1) := by decide +kernel
theorem d_Ki_divide_22 : decode b_Ki_divide 22 = .ok (.getfield 56, 3) := by decide +kernel
theorem d_Ki_divide_25 : decode b_Ki_divide 25 = .ok (.iconst 0, 1) := by decide +kernel
theorem d_Ki_divide_26 : decode b_Ki_divide 26 = .ok (.iload 5, 2) := by decide +kernel
theorem d_Ki_divide_28 : decode b_Ki_divide 28 = .ok (.iastore, 1) := by decide +kernel
theorem d_Ki_divide_29 : decode b_Ki_divide 29 = .ok (.iconst 0, 1) := by decide +kernel
theorem d_Ki_divide_30 : decode b_Ki_divide 30 = .ok (.istore 6, 2) := by decide +kernel
theorem d_Ki_divide_32 : decode b_Ki_divide 32 = .ok (.iconst 1, 1) := by decide +kernel
theorem d_Ki_divide_33 : decode b_Ki_divide 33 = .ok (.istore 7, 2) := by decide +kernel
theorem d_Ki_divide_35 : decode b_Ki_divide 35 = .ok (.iload 7, 2) := by decide +kernel
theorem d_Ki_divide_37 : decode b_Ki_divide 37 = .ok (.iload 4, 2) := by decide +kernel
theorem d_Ki_divide_39 : decode b_Ki_divide 39 = .ok (.if_icmp .ge 30, 3) := by decide +kernel
theorem d_Ki_divide_42 : decode b_Ki_divide 42 = .ok (.aload_n 0, 1) := by decide +kernel
theorem d_Ki_divide_43 : decode b_Ki_divide 43 = .ok (.getfield 53, 3) := by decide +kernel
theorem d_Ki_divide_46 : decode b_Ki_divide 46 = .ok (.iload 7, 2) := by decide +kernel
theorem d_Ki_divide_48 : decode b_Ki_divide 48 = .ok (.iaload, 1) := by decide +kernel
theorem d_Ki_divide_49 : decode b_Ki_divide 49 = .ok (.aload_n 0, 1) := by decide +kernel
theorem d_Ki_divide_50 : decode b_Ki_divide 50 = .ok (.getfield 53, 3) := by decide +kernel
theorem d_Ki_divide_53 : decode b_Ki_divide 53 = .ok (.iload 6, 2) := by decide +kernel
theorem d_Ki_divide_55 : decode b_Ki_divide 55 = .ok (.iaload, 1) := by decide +kernel
theorem d_Ki_divide_56 : decode b_Ki_divide 56 = .ok (.if_icmp .le 7, 3) := by decide +kernel
theorem d_Ki_divide_59 : decode b_Ki_divide 59 = .ok (.iload 7, 2) := by decide +kernel
theorem d_Ki_divide_61 : decode b_Ki_divide 61 = .ok (.istore 6, 2) := by decide +kernel
theorem d_Ki_divide_63 : decode b_Ki_divide 63 = .ok (.iinc 7 1, 3) := by decide +kernel
theorem d_Ki_divide_66 : decode b_Ki_divide 66 = .ok (.goto (-31), 3) := by decide +kernel
theorem d_Ki_divide_69 : decode b_Ki_divide 69 = .ok (.iload 6, 2) := by decide +kernel
theorem d_Ki_divide_71 : decode b_Ki_divide 71 = .ok (.ifCond .eq 20, 3) := by decide +kernel
theorem d_Ki_divide_74 : decode b_Ki_divide 74 = .ok (.aload_n 0, 1) := by decide +kernel
theorem d_Ki_divide_75 : decode b_Ki_divide 75 = .ok (.getfield 26, 3) := by decide +kernel
theorem d_Ki_divide_78 : decode b_Ki_divide 78 = .ok (.iload_n 3, 1) := by decide +kernel
theorem d_Ki_divide_79 : decode b_Ki_divide 79 = .ok (.aload_n 0, 1) := by decide +kernel
theorem d_Ki_divide_80 : decode b_Ki_divide 80 = .ok (.getfield 59, 3) := by decide +kernel
theorem d_Ki_divide_83 : decode b_Ki_divide 83 = .ok (.iload_n 3, 1) := by decide +kernel
theorem d_Ki_divide_84 : decode b_Ki_divide 84 = .ok (.iload 5, 2) := by decide +kernel
theorem d_Ki_divide_86 : decode b_Ki_divide 86 = .ok (.iload_n 3, 1) := by decide +kernel
theorem d_Ki_divide_87 : decode b_Ki_divide 87 = .ok (.isub, 1) := by decide +kernel
theorem d_Ki_divide_88 : decode b_Ki_divide 88 = .ok (.invokestatic 159, 3) := by decide +kernel
theorem d_Ki_divide_91 : decode b_Ki_divide 91 = .ok (.aload_n 0, 1) := by decide +kernel
theorem d_Ki_divide_92 : decode b_Ki_divide 92 = .ok (.getfield 9, 3) := by decide +kernel
theorem d_Ki_divide_95 : decode b_Ki_divide 95 = .ok (.istore 7, 2) := by decide +kernel
theorem d_Ki_divide_97 : decode b_Ki_divide 97 = .ok (.iconst 0, 1) := by decide +kernel
theorem d_Ki_divide_98 : decode b_Ki_divide 98 = .ok (.istore 8, 2) := by decide +kernel
theorem d_Ki_divide_100 : decode b_Ki_divide 100 = .ok (.iload 8, 2) := by decide +kernel
theorem d_Ki_divide_102 : decode b_Ki_divide 102 = .ok (.iload 4, 2) := by decide +kernel
theorem d_Ki_divide_104 : decode b_Ki_divide 104 = .ok (.if_icmp .ge 43, 3) := by decide +kernel
theorem d_Ki_divide_107 : decode b_Ki_divide 107 = .ok (.iload 8, 2) := by decide +kernel
theorem d_Ki_divide_109 : decode b_Ki_divide 109 = .ok (.iload 6, 2) := by decide +kernel
theorem d_Ki_divide_111 : decode b_Ki_divide 111 = .ok (.if_icmp .eq 30, 3) := by decide +kernel
theorem d_Ki_divide_114 : decode b_Ki_divide 114 = .ok (.aload_n 0, 1) := by decide +kernel
theorem d_Ki_divide_115 : decode b_Ki_divide 115 = .ok (.aload_n 0, 1) := by decide +kernel
theorem d_Ki_divide_116 : decode b_Ki_divide 116 = .ok (.getfield 56, 3) := by decide +kernel
theorem d_Ki_divide_119 : decode b_Ki_divide 119 = .ok (.iload 8, 2) := by decide +kernel
theorem d_Ki_divide_121 : decode b_Ki_divide 121 = .ok (.iaload, 1) := by decide +kernel
theorem d_Ki_divide_122 : decode b_Ki_divide 122 = .ok (.aload_n 0, 1) := by decide +kernel
theorem d_Ki_divide_123 : decode b_Ki_divide 123 = .ok (.getfield 53, 3) := by decide +kernel
theorem d_Ki_divide_126 : decode b_Ki_divide 126 = .ok (.iload 8, 2) := by decide +kernel
theorem d_Ki_divide_128 : decode b_Ki_divide 128 = .ok (.iaload, 1) := by decide +kernel
theorem d_Ki_divide_129 : decode b_Ki_divide 129 = .ok (.isub, 1) := by decide +kernel
theorem d_Ki_divide_130 : decode b_Ki_divide 130 = .ok (.aload_n 0, 1) := by decide +kernel
theorem d_Ki_divide_131 : decode b_Ki_divide 131 = .ok (.getfield 56, 3) := by decide +kernel
theorem d_Ki_divide_134 : decode b_Ki_divide 134 = .ok (.iload 8, 2) := by decide +kernel
theorem d_Ki_divide_136 : decode b_Ki_divide 136 = .ok (.iaload, 1) := by decide +kernel
theorem d_Ki_divide_137 : decode b_Ki_divide 137 = .ok (.invokevirtual 97, 3) := by decide +kernel
theorem d_Ki_divide_140 : decode b_Ki_divide 140 = .ok (.pop, 1) := by decide +kernel
theorem d_Ki_divide_141 : decode b_Ki_divide 141 = .ok (.iinc 8 1, 3) := by decide +kernel
theorem d_Ki_divide_144 : decode b_Ki_divide 144 = .ok (.goto (-44), 3) := by decide +kernel
theorem d_Ki_divide_147 : decode b_Ki_divide 147 = .ok (.aload_n 0, 1) := by decide +kernel
theorem d_Ki_divide_148 : decode b_Ki_divide 148 = .ok (.getfield 32, 3) := by decide +kernel
theorem d_Ki_divide_151 : decode b_Ki_divide 151 = .ok (.iload_n 2, 1) := by decide +kernel
theorem d_Ki_divide_152 : decode b_Ki_divide 152 = .ok (.aload_n 0, 1) := by decide +kernel
theorem d_Ki_divide_153 : decode b_Ki_divide 153 = .ok (.getfield 56, 3) := by decide +kernel
theorem d_Ki_divide_156 : decode b_Ki_divide 156 = .ok (.iload 6, 2) := by decide +kernel
theorem d_Ki_divide_158 : decode b_Ki_divide 158 = .ok (.iaload, 1) := by decide +kernel
theorem d_Ki_divide_159 : decode b_Ki_divide 159 = .ok (.aload_n 0, 1) := by decide +kernel
theorem d_Ki_divide_160 : decode b_Ki_divide 160 = .ok (.getfield 53, 3) := by decide +kernel
theorem d_Ki_divide_163 : decode b_Ki_divide 163 = .ok (.iload 6, 2) := by decide +kernel
theorem d_Ki_divide_165 : decode b_Ki_divide 165 = .ok (.iaload, 1) := by decide +kernel
theorem d_Ki_divide_166 : decode b_Ki_divide 166 = .ok (.isub, 1) := by decide +kernel
theorem d_Ki_divide_167 : decode b_Ki_divide 167 = .ok (.iastore, 1) := by decide +kernel
theorem d_Ki_divide_168 : decode b_Ki_divide 168 = .ok (.aload_n 0, 1) := by decide +kernel
theorem d_Ki_divide_169 : decode b_Ki_divide 169 = .ok (.getfield 35, 3) := by decide +kernel
theorem d_Ki_divide_172 : decode b_Ki_divide 172 = .ok (.iload_n 2, 1) := by decide +kernel
theorem d_Ki_divide_173 : decode b_Ki_divide 173 = .ok (.aload_n 0, 1) := by decide +kernel
theorem d_Ki_divide_174 : decode b_Ki_divide 174 = .ok (.getfield 56, 3) := by decide +kernel
theorem d_Ki_divide_177 : decode b_Ki_divide 177 = .ok (.iload 6, 2) := by decide +kernel
theorem d_Ki_divide_179 : decode b_Ki_divide 179 = .ok (.iaload, 1) := by decide +kernel
theorem d_Ki_divide_180 : decode b_Ki_divide 180 = .ok (.iastore, 1) := by decide +kernel
theorem d_Ki_divide_181 : decode b_Ki_divide 181 = .ok (.iload 7, 2) := by decide +kernel
theorem d_Ki_divide_183 : decode b_Ki_divide 183 = .ok (.istore 8, 2) := by decide +kernel
theorem d_Ki_divide_185 : decode b_Ki_divide 185 = .ok (.iload 8, 2) := by decide +kernel
theorem d_Ki_divide_187 : decode b_Ki_divide 187 = .ok (.aload_n 0, 1) := by decide +kernel
theorem d_Ki_divide_188 : decode b_Ki_divide 188 = .ok (.getfield 9, 3) := by decide +kernel
theorem d_Ki_divide_191 : decode b_Ki_divide 191 = .ok (.if_icmp .ge 48, 3) := by decide +kernel
theorem d_Ki_divide_194 : decode b_Ki_divide 194 = .ok (.aload_n 0, 1) := by decide +kernel
theorem d_Ki_divide_195 : decode b_Ki_divide 195 = .ok (.getfield 32, 3) := by decide +kernel
theorem d_Ki_divide_198 : decode b_Ki_divide 198 = .ok (.iload 8, 2) := by decide +kernel
theorem d_Ki_divide_200 : decode b_Ki_divide 200 = .ok (.iaload, 1) := by decide +kernel
theorem d_Ki_divide_201 : decode b_Ki_divide 201 = .ok (.istore 9, 2) := by decide +kernel
theorem d_Ki_divide_203 : decode b_Ki_divide 203 = .ok (.iload 9, 2) := by decide +kernel
theorem d_Ki_divide_205 : decode b_Ki_divide 205 = .ok (.aload_n 0, 1) := by decide +kernel
theorem d_Ki_divide_206 : decode b_Ki_divide 206 = .ok (.getfield 35, 3) := by decide +kernel
theorem d_Ki_divide_209 : decode b_Ki_divide 209 = .ok (.iload 8, 2) := by decide +kernel
theorem d_Ki_divide_211 : decode b_Ki_divide 211 = .ok (.iaload, 1) := by decide +kernel
theorem d_Ki_divide_212 : decode b_Ki_divide 212 = .ok (.if_icmp .ge 21, 3) := by decide +kernel
theorem d_Ki_divide_215 : decode b_Ki_divide 215 = .ok (.aload_n 0, 1) := by decide +kernel
theorem d_Ki_divide_216 : decode b_Ki_divide 216 = .ok (.aload_n 1, 1) := by decide +kernel
theorem d_Ki_divide_217 : decode b_Ki_divide 217 = .ok (.aload_n 0, 1) := by decide +kernel
theorem d_Ki_divide_218 : decode b_Ki_divide 218 = .ok (.getfield 59, 3) := by decide +kernel
theorem d_Ki_divide_221 : decode b_Ki_divide 221 = .ok (.iload 9, 2) := by decide +kernel
theorem d_Ki_divide_223 : decode b_Ki_divide 223 = .ok (.iaload, 1) := by decide +kernel
theorem d_Ki_divide_224 : decode b_Ki_divide 224 = .ok (.invokevirtual 165, 3) := by decide +kernel
theorem d_Ki_divide_227 : decode b_Ki_divide 227 = .ok (.iinc 9 1, 3) := by decide +kernel
theorem d_Ki_divide_230 : decode b_Ki_divide 230 = .ok (.goto (-27), 3) := by decide +kernel
theorem d_Ki_divide_233 : decode b_Ki_divide 233 = .ok (.iinc 8 1, 3) := by decide +kernel
theorem d_Ki_divide_236 : decode b_Ki_divide 236 = .ok (.goto (-51), 3) := by decide +kernel
theorem d_Ki_divide_239 : decode b_Ki_divide 239 = .ok (.return_, 1) := by decide +kernel
theorem d_Ki_markThoseBefore_0 : decode b_Ki_markThoseBefore 0 = .ok (.aload_n 1, 1) := by decide +kernel
theorem d_Ki_markThoseBefore_1 : decode b_Ki_markThoseBefore 1 = .ok (.getfield 168, 3) := by decide +kernel
theorem d_Ki_markThoseBefore_4 : decode b_Ki_markThoseBefore 4 = .ok (.iload_n 2, 1) := by decide +kernel
theorem d_Ki_markThoseBefore_5 : decode b_Ki_markThoseBefore 5 = .ok (.iaload, 1) := by decide +kernel
theorem d_Ki_markThoseBefore_6 : decode b_Ki_markThoseBefore 6 = .ok (.istore_n 3, 1) := by decide +kernel
theorem d_Ki_markThoseBefore_7 : decode b_Ki_markThoseBefore 7 = .ok (.iconst 0, 1) := by decide +kernel
theorem d_Ki_markThoseBefore_8 : decode b_Ki_markThoseBefore 8 = .ok (.istore 4, 2) := by decide +kernel
theorem d_Ki_markThoseBefore_10 : decode b_Ki_markThoseBefore 10 = .ok (.iload 4, 2) := by decide +kernel
theorem d_Ki_markThoseBefore_12 : decode b_Ki_markThoseBefore 12 = .ok (.ldc 171, 2) := by decide +kernel
theorem d_Ki_markThoseBefore_14 : decode b_Ki_markThoseBefore 14 = .ok (.if_icmp .ge 88, 3) := by decide +kernel
theorem d_Ki_markThoseBefore_17 : decode b_Ki_markThoseBefore 17 = .ok (.iload_n 3, 1) := by decide +kernel
theorem d_Ki_markThoseBefore_18 : decode b_Ki_markThoseBefore 18 = .ok (.iconst (-1), 1) := by decide +kernel
theorem d_Ki_markThoseBefore_19 : decode b_Ki_markThoseBefore 19 = .ok (.if_icmp .eq 83, 3) := by decide +kernel
theorem d_Ki_markThoseBefore_22 : decode b_Ki_markThoseBefore 22 = .ok (.iload_n 3, 1) := by decide +kernel
theorem d_Ki_markThoseBefore_23 : decode b_Ki_markThoseBefore 23 = .ok (.invokestatic 172, 3) := by decide +kernel
theorem d_Ki_markThoseBefore_26 : decode b_Ki_markThoseBefore 26 = .ok (.istore 5, 2) := by decide +kernel
theorem d_Ki_markThoseBefore_28 : decode b_Ki_markThoseBefore 28 = .ok (.aload_n 0, 1) := by decide +kernel
theorem d_Ki_markThoseBefore_29 : decode b_Ki_markThoseBefore 29 = .ok (.getfield 19, 3) := by decide +kernel
theorem d_Ki_markThoseBefore_32 : decode b_Ki_markThoseBefore 32 = .ok (.iload 5, 2) := by decide +kernel
theorem d_Ki_markThoseBefore_34 : decode b_Ki_markThoseBefore 34 = .ok (.iaload, 1) := by decide +kernel
theorem d_Ki_markThoseBefore_35 : decode b_Ki_markThoseBefore 35 = .ok (.istore 6, 2) := by decide +kernel
theorem d_Ki_markThoseBefore_37 : decode b_Ki_markThoseBefore 37 = .ok (.aload_n 0, 1) := by decide +kernel
theorem d_Ki_markThoseBefore_38 : decode b_Ki_markThoseBefore 38 = .ok (.getfield 35, 3) := by decide +kernel
theorem d_Ki_markThoseBefore_41 : decode b_Ki_markThoseBefore 41 = .ok (.iload 6, 2) := by decide +kernel
theorem d_Ki_markThoseBefore_43 : decode b_Ki_markThoseBefore 43 = .ok (.iaload, 1) := by decide +kernel
theorem d_Ki_markThoseBefore_44 : decode b_Ki_markThoseBefore 44 = .ok (.aload_n 0, 1) := by decide +kernel
theorem d_Ki_markThoseBefore_45 : decode b_Ki_markThoseBefore 45 = .ok (.getfield 32, 3) := by decide +kernel
theorem d_Ki_markThoseBefore_48 : decode b_Ki_markThoseBefore 48 = .ok (.iload 6, 2) := by decide +kernel
theorem d_Ki_markThoseBefore_50 : decode b_Ki_markThoseBefore 50 = .ok (.iaload, 1) := by decide +kernel
theorem d_Ki_markThoseBefore_51 : decode b_Ki_markThoseBefore 51 = .ok (.isub, 1) := by decide +kernel
theorem d_Ki_markThoseBefore_52 : decode b_Ki_markThoseBefore 52 = .ok (.iconst 1, 1) := by decide +kernel
theorem d_Ki_markThoseBefore_53 : decode b_Ki_markThoseBefore 53 = .ok (.if_icmp .le 37, 3) := by decide +kernel
theorem d_Ki_markThoseBefore_56 : decode b_Ki_markThoseBefore 56 = .ok (.aload_n 0, 1) := by decide +kernel
theorem d_Ki_markThoseBefore_57 : decode b_Ki_markThoseBefore 57 = .ok (.getfield 41, 3) := by decide +kernel
theorem d_Ki_markThoseBefore_60 : decode b_Ki_markThoseBefore 60 = .ok (.iload 5, 2) := by decide +kernel
theorem d_Ki_markThoseBefore_62 : decode b_Ki_markThoseBefore 62 = .ok (.iaload, 1) := by decide +kernel
theorem d_Ki_markThoseBefore_63 : decode b_Ki_markThoseBefore 63 = .ok (.ifCond .ne 11, 3) := by decide +kernel
theorem d_Ki_markThoseBefore_66 : decode b_Ki_markThoseBefore 66 = .ok (.aload_n 0, 1) := by decide +kernel
theorem d_Ki_markThoseBefore_67 : decode b_Ki_markThoseBefore 67 = .ok (.iload 5, 2) := by decide +kernel
theorem d_Ki_markThoseBefore_69 : decode b_Ki_markThoseBefore 69 = .ok (.iload 6, 2) := by decide +kernel
theorem d_Ki_markThoseBefore_71 : decode b_Ki_markThoseBefore 71 = .ok (.invokevirtual 175, 3) := by decide +kernel
theorem d_Ki_markThoseBefore_74 : decode b_Ki_markThoseBefore 74 = .ok (.aload_n 0, 1) := by decide +kernel
theorem d_Ki_markThoseBefore_75 : decode b_Ki_markThoseBefore 75 = .ok (.getfield 41, 3) := by decide +kernel
theorem d_Ki_markThoseBefore_78 : decode b_Ki_markThoseBefore 78 = .ok (.iload 5, 2) := by decide +kernel
theorem d_Ki_markThoseBefore_80 : decode b_Ki_markThoseBefore 80 = .ok (.dup2, 1) := by decide +kernel
theorem d_Ki_markThoseBefore_81 : decode b_Ki_markThoseBefore 81 = .ok (.iaload, 1) := by decide +kernel
theorem d_Ki_markThoseBefore_82 : decode b_Ki_markThoseBefore 82 = .ok (.iconst 1, 1) := by decide +kernel
theorem d_Ki_markThoseBefore_83 : decode b_Ki_markThoseBefore 83 = .ok (.iload_n 3, 1) := by decide +kernel
theorem d_Ki_markThoseBefore_84 : decode b_Ki_markThoseBefore 84 = .ok (.invokestatic 179, 3) := by decide +kernel
theorem d_Ki_markThoseBefore_87 : decode b_Ki_markThoseBefore 87 = .ok (.ishl, 1) := by decide +kernel
theorem d_Ki_markThoseBefore_88 : decode b_Ki_markThoseBefore 88 = .ok (.ior, 1) := by decide +kernel
theorem d_Ki_markThoseBefore_89 : decode b_Ki_markThoseBefore 89 = .ok (.iastore, 1) := by decide +kernel
theorem d_Ki_markThoseBefore_90 : decode b_Ki_markThoseBefore 90 = .ok (.aload_n 1, 1) := by decide +kernel
theorem d_Ki_markThoseBefore_91 : decode b_Ki_markThoseBefore 91 = .ok (.iload_n 3, 1) := by decide +kernel
theorem d_Ki_markThoseBefore_92 : decode b_Ki_markThoseBefore 92 = .ok (.invokevirtual 182, 3) := by decide +kernel
theorem d_Ki_markThoseBefore_95 : decode b_Ki_markThoseBefore 95 = .ok (.istore_n 3, 1) := by decide +kernel
theorem d_Ki_markThoseBefore_96 : decode b_Ki_markThoseBefore 96 = .ok (.iinc 4 1, 3) := by decide +kernel
theorem d_Ki_markThoseBefore_99 : decode b_Ki_markThoseBefore 99 = .ok (.goto (-89), 3) := by decide +kernel
theorem d_Ki_markThoseBefore_102 : decode b_Ki_markThoseBefore 102 = .ok (.return_, 1) := by decide +kernel
theorem d_Ki_moveToChanged_0 : decode b_Ki_moveToChanged 0 = .ok (.aload_n 0, 1) := by decide +kernel
theorem d_Ki_moveToChanged_1 : decode b_Ki_moveToChanged 1 = .ok (.getfield 32, 3) := by decide +kernel
theorem d_Ki_moveToChanged_4 : decode b_Ki_moveToChanged 4 = .ok (.iload_n 2, 1) := by decide +kernel
theorem d_Ki_moveToChanged_5 : decode b_Ki_moveToChanged 5 = .ok (.iaload, 1) := by decide +kernel
theorem d_Ki_moveToChanged_6 : decode b_Ki_moveToChanged 6 = .ok (.aload_n 0, 1) := by decide +kernel
theorem d_Ki_moveToChanged_7 : decode b_Ki_moveToChanged 7 = .ok (.getfield 38, 3) := by decide +kernel
theorem d_Ki_moveToChanged_10 : decode b_Ki_moveToChanged 10 = .ok (.iload_n 2, 1) := by decide +kernel
theorem d_Ki_moveToChanged_11 : decode b_Ki_moveToChanged 11 = .ok (.iaload, 1) := by decide +kernel
theorem d_Ki_moveToChanged_12 : decode b_Ki_moveToChanged 12 = .ok (.iadd, 1) := by decide +kernel
theorem d_Ki_moveToChanged_13 : decode b_Ki_moveToChanged 13 = .ok (.istore_n 3, 1) := by decide +kernel
theorem d_Ki_moveToChanged_14 : decode b_Ki_moveToChanged 14 = .ok (.aload_n 0, 1) := by decide +kernel
theorem d_Ki_moveToChanged_15 : decode b_Ki_moveToChanged 15 = .ok (.getfield 26, 3) := by decide +kernel
theorem d_Ki_moveToChanged_18 : decode b_Ki_moveToChanged 18 = .ok (.iload_n 3, 1) := by decide +kernel
theorem d_Ki_moveToChanged_19 : decode b_Ki_moveToChanged 19 = .ok (.iaload, 1) := by decide +kernel
theorem d_Ki_moveToChanged_20 : decode b_Ki_moveToChanged 20 = .ok (.istore 4, 2) := by decide +kernel
theorem d_Ki_moveToChanged_22 : decode b_Ki_moveToChanged 22 = .ok (.aload_n 0, 1) := by decide +kernel
theorem d_Ki_moveToChanged_23 : decode b_Ki_moveToChanged 23 = .ok (.getfield 26, 3) := by decide +kernel
theorem d_Ki_moveToChanged_26 : decode b_Ki_moveToChanged 26 = .ok (.aload_n 0, 1) := by decide +kernel
theorem d_Ki_moveToChanged_27 : decode b_Ki_moveToChanged 27 = .ok (.getfield 29, 3) := by decide +kernel
theorem d_Ki_moveToChanged_30 : decode b_Ki_moveToChanged 30 = .ok (.iload_n 1, 1) := by decide +kernel
theorem d_Ki_moveToChanged_31 : decode b_Ki_moveToChanged 31 = .ok (.iaload, 1) := by decide +kernel
theorem d_Ki_moveToChanged_32 : decode b_Ki_moveToChanged 32 = .ok (.iload 4, 2) := by decide +kernel
theorem d_Ki_moveToChanged_34 : decode b_Ki_moveToChanged 34 = .ok (.iastore, 1) := by decide +kernel
theorem d_Ki_moveToChanged_35 : decode b_Ki_moveToChanged 35 = .ok (.aload_n 0, 1) := by decide +kernel
theorem d_Ki_moveToChanged_36 : decode b_Ki_moveToChanged 36 = .ok (.getfield 29, 3) := by decide +kernel
theorem d_Ki_moveToChanged_39 : decode b_Ki_moveToChanged 39 = .ok (.iload 4, 2) := by decide +kernel
theorem d_Ki_moveToChanged_41 : decode b_Ki_moveToChanged 41 = .ok (.aload_n 0, 1) := by decide +kernel
theorem d_Ki_moveToChanged_42 : decode b_Ki_moveToChanged 42 = .ok (.getfield 29, 3) := by decide +kernel
theorem d_Ki_moveToChanged_45 : decode b_Ki_moveToChanged 45 = .ok (.iload_n 1, 1) := by decide +kernel
theorem d_Ki_moveToChanged_46 : decode b_Ki_moveToChanged 46 = .ok (.iaload, 1) := by decide +kernel
theorem d_Ki_moveToChanged_47 : decode b_Ki_moveToChanged 47 = .ok (.iastore, 1) := by decide +kernel
theorem d_Ki_moveToChanged_48 : decode b_Ki_moveToChanged 48 = .ok (.aload_n 0, 1) := by decide +kernel
theorem d_Ki_moveToChanged_49 : decode b_Ki_moveToChanged 49 = .ok (.getfield 26, 3) := by decide +kernel
theorem d_Ki_moveToChanged_52 : decode b_Ki_moveToChanged 52 = .ok (.iload_n 3, 1) := by decide +kernel
theorem d_Ki_moveToChanged_53 : decode b_Ki_moveToChanged 53 = .ok (.iload_n 1, 1) := by decide +kernel
theorem d_Ki_moveToChanged_54 : decode b_Ki_moveToChanged 54 = .ok (.iastore, 1) := by decide +kernel
theorem d_Ki_moveToChanged_55 : decode b_Ki_moveToChanged 55 = .ok (.aload_n 0, 1) := by decide +kernel
theorem d_Ki_moveToChanged_56 : decode b_Ki_moveToChanged 56 = .ok (.getfield 29, 3) := by decide +kernel
theorem d_Ki_moveToChanged_59 : decode b_Ki_moveToChanged 59 = .ok (.iload_n 1, 1) := by decide +kernel
theorem d_Ki_moveToChanged_60 : decode b_Ki_moveToChanged 60 = .ok (.iload_n 3, 1) := by decide +kernel
theorem d_Ki_moveToChanged_61 : decode b_Ki_moveToChanged 61 = .ok (.iastore, 1) := by decide +kernel
theorem d_Ki_moveToChanged_62 : decode b_Ki_moveToChanged 62 = .ok (.aload_n 0, 1) := by decide +kernel
theorem d_Ki_moveToChanged_63 : decode b_Ki_moveToChanged 63 = .ok (.getfield 38, 3) := by decide +kernel
theorem d_Ki_moveToChanged_66 : decode b_Ki_moveToChanged 66 = .ok (.iload_n 2, 1) := by decide +kernel
theorem d_Ki_moveToChanged_67 : decode b_Ki_moveToChanged 67 = .ok (.iaload, 1) := by decide +kernel
theorem d_Ki_moveToChanged_68 : decode b_Ki_moveToChanged 68 = .ok (.ifCond .ne 23, 3) := by decide +kernel
theorem d_Ki_moveToChanged_71 : decode b_Ki_moveToChanged 71 = .ok (.aload_n 0, 1) := by decide +kernel
theorem d_Ki_moveToChanged_72 : decode b_Ki_moveToChanged 72 = .ok (.getfield 44, 3) := by decide +kernel
theorem d_Ki_moveToChanged_75 : decode b_Ki_moveToChanged 75 = .ok (.aload_n 0, 1) := by decide +kernel
theorem d_Ki_moveToChanged_76 : decode b_Ki_moveToChanged 76 = .ok (.getfield 47, 3) := by decide +kernel
theorem d_Ki_moveToChanged_79 : decode b_Ki_moveToChanged 79 = .ok (.iload_n 2, 1) := by decide +kernel
theorem d_Ki_moveToChanged_80 : decode b_Ki_moveToChanged 80 = .ok (.iastore, 1) := by decide +kernel
theorem d_Ki_moveToChanged_81 : decode b_Ki_moveToChanged 81 = .ok (.aload_n 0, 1) := by decide +kernel
theorem d_Ki_moveToChanged_82 : decode b_Ki_moveToChanged 82 = .ok (.dup, 1) := by decide +kernel
theorem d_Ki_moveToChanged_83 : decode b_Ki_moveToChanged 83 = .ok (.getfield 47, 3) := by decide +kernel
theorem d_Ki_moveToChanged_86 : decode b_Ki_moveToChanged 86 = .ok (.iconst 1, 1) := by decide +kernel
theorem d_Ki_moveToChanged_87 : decode b_Ki_moveToChanged 87 = .ok (.iadd, 1) := by decide +kernel
theorem d_Ki_moveToChanged_88 : decode b_Ki_moveToChanged 88 = .ok (.putfield 47, 3) := by decide +kernel
theorem d_Ki_moveToChanged_91 : decode b_Ki_moveToChanged 91 = .ok (.aload_n 0, 1) := by decide +kernel
theorem d_Ki_moveToChanged_92 : decode b_Ki_moveToChanged 92 = .ok (.getfield 38, 3) := by decide +kernel
theorem d_Ki_moveToChanged_95 : decode b_Ki_moveToChanged 95 = .ok (.iload_n 2, 1) := by decide +kernel
theorem d_Ki_moveToChanged_96 : decode b_Ki_moveToChanged 96 = .ok (.dup2, 1) := by decide +kernel
theorem d_Ki_moveToChanged_97 : decode b_Ki_moveToChanged 97 = .ok (.iaload, 1) := by decide +kernel
theorem d_Ki_moveToChanged_98 : decode b_Ki_moveToChanged 98 = .ok (.iconst 1, 1) := by decide +kernel
theorem d_Ki_moveToChanged_99 : decode b_Ki_moveToChanged 99 = .ok (.iadd, 1) := by decide +kernel
theorem d_Ki_moveToChanged_100 : decode b_Ki_moveToChanged 100 = .ok (.iastore, 1) := by decide +kernel
theorem d_Ki_moveToChanged_101 : decode b_Ki_moveToChanged 101 = .ok (.return_, 1) := by decide +kernel
theorem d_Ki_findLeast_0 : decode b_Ki_findLeast 0 = .ok (.aload_n 0, 1) := by decide +kernel
theorem d_Ki_findLeast_1 : decode b_Ki_findLeast 1 = .ok (.getfield 23, 3) := by decide +kernel
theorem d_Ki_findLeast_4 : decode b_Ki_findLeast 4 = .ok (.iconst 0, 1) := by decide +kernel
theorem d_Ki_findLeast_5 : decode b_Ki_findLeast 5 = .ok (.aload_n 0, 1) := by decide +kernel
theorem d_Ki_findLeast_6 : decode b_Ki_findLeast 6 = .ok (.getfield 9, 3) := by decide +kernel
theorem d_Ki_findLeast_9 : decode b_Ki_findLeast 9 = .ok (.iconst (-1), 1) := by decide +kernel
theorem d_Ki_findLeast_10 : decode b_Ki_findLeast 10 = .ok (.invokestatic 122, 3) := by decide +kernel
theorem d_Ki_findLeast_13 : decode b_Ki_findLeast 13 = .ok (.iconst 0, 1) := by decide +kernel
theorem d_Ki_findLeast_14 : decode b_Ki_findLeast 14 = .ok (.istore_n 2, 1) := by decide +kernel
theorem d_Ki_findLeast_15 : decode b_Ki_findLeast 15 = .ok (.iload_n 2, 1) := by decide +kernel
theorem d_Ki_findLeast_16 : decode b_Ki_findLeast 16 = .ok (.iload_n 1, 1) := by decide +kernel
theorem d_Ki_findLeast_17 : decode b_Ki_findLeast 17 = .ok (.if_icmp .ge 36, 3) := by decide +kernel
theorem d_Ki_findLeast_20 : decode b_Ki_findLeast 20 = .ok (.aload_n 0, 1) := by decide +kernel
theorem d_Ki_findLeast_21 : decode b_Ki_findLeast 21 = .ok (.getfield 23, 3) := by decide +kernel
theorem d_Ki_findLeast_24 : decode b_Ki_findLeast 24 = .ok (.aload_n 0, 1) := by decide +kernel
theorem d_Ki_findLeast_25 : decode b_Ki_findLeast 25 = .ok (.getfield 19, 3) := by decide +kernel
theorem d_Ki_findLeast_28 : decode b_Ki_findLeast 28 = .ok (.iload_n 2, 1) := by decide +kernel
theorem d_Ki_findLeast_29 : decode b_Ki_findLeast 29 = .ok (.iaload, 1) := by decide +kernel
theorem d_Ki_findLeast_30 : decode b_Ki_findLeast 30 = .ok (.iaload, 1) := by decide +kernel
theorem d_Ki_findLeast_31 : decode b_Ki_findLeast 31 = .ok (.iconst (-1), 1) := by decide +kernel
theorem d_Ki_findLeast_32 : decode b_Ki_findLeast 32 = .ok (.if_icmp .ne 15, 3) := by decide +kernel
theorem d_Ki_findLeast_35 : decode b_Ki_findLeast 35 = .ok (.aload_n 0, 1) := by decide +kernel
theorem d_Ki_findLeast_36 : decode b_Ki_findLeast 36 = .ok (.getfield 23, 3) := by decide +kernel
theorem d_Ki_findLeast_39 : decode b_Ki_findLeast 39 = .ok (.aload_n 0, 1) := by decide +kernel
theorem d_Ki_findLeast_40 : decode b_Ki_findLeast 40 = .ok (.getfield 19, 3) := by decide +kernel
theorem d_Ki_findLeast_43 : decode b_Ki_findLeast 43 = .ok (.iload_n 2, 1) := by decide +kernel
theorem d_Ki_findLeast_44 : decode b_Ki_findLeast 44 = .ok (.iaload, 1) := by decide +kernel
theorem d_Ki_findLeast_45 : decode b_Ki_findLeast 45 = .ok (.iload_n 2, 1) := by decide +kernel
theorem d_Ki_findLeast_46 : decode b_Ki_findLeast 46 = .ok (.iastore, 1) := by decide +kernel
theorem d_Ki_findLeast_47 : decode b_Ki_findLeast 47 = .ok (.iinc 2 1, 3) := by decide +kernel
theorem d_Ki_findLeast_50 : decode b_Ki_findLeast 50 = .ok (.goto (-35), 3) := by decide +kernel
theorem d_Ki_findLeast_53 : decode b_Ki_findLeast 53 = .ok (.return_, 1) := by decide +kernel
set_option maxRecDepth 100000 in
set_option maxHeartbeats 4000000 in
theorem S_Ki_init_0 {G : Gc} {M : Mc} {Q : State → Prop} {K : Option Value → Hp → Prop} (hG : gok G) (hM : mok G M r_Ki_init Q K) (v0 : Nat) (h : Hp) (F : kT h v0 = 10 ∧ (∀ h1 : Hp, h1 = wI h v0 0 0 → (kT h1 v0 = 10 ∧ (∀ h2 : Hp, h2 = wL h1 v0 1 0 → (kX h2 + 1 ≤ gB G + capC ∧ kS h2 + 0 ≤ capS ∧ (∀ h3 : Hp, h3 = wA h2 50 0 0 → (kT h3 v0 = 10 ∧ (∀ h4 : Hp, h4 = wR h3 v0 2 (some (kX h2)) → (kX h4 + 1 ≤ gB G + capC ∧ kS h4 + 0 ≤ capS ∧ (∀ h5 : Hp, h5 = wA h4 50 0 0 → (kT h5 v0 = 10 ∧ (∀ h6 : Hp, h6 = wR h5 v0 3 (some (kX h4)) → (kX h6 + 1 ≤ gB G + capC ∧ kS h6 + 0 ≤ capS ∧ (∀ h7 : Hp, h7 = wA h6 50 0 0 → (kT h7 v0 = 10 ∧ (∀ h8 : Hp, h8 = wR h7 v0 4 (some (kX h6)) → (kX h8 + 1 ≤ gB G + capC ∧ kS h8 + 0 ≤ capS ∧ (∀ h9 : Hp, h9 = wA h8 50 0 0 → (kT h9 v0 = 10 ∧ (∀ h10 : Hp, h10 = wR h9 v0 5 (some (kX h8)) → (kX h10 + 1 ≤ gB G + capC ∧ kS h10 + 0 ≤ capS ∧ (∀ h11 : Hp, h11 = wA h10 50 0 0 → (kT h11 v0 = 10 ∧ (∀ h12 : Hp, h12 = wR h11 v0 6 (some (kX h10)) → (kX h12 + 1 ≤ gB G + capC ∧ kS h12 + 0 ≤ capS ∧ (∀ h13 : Hp, h13 = wA h12 50 0 0 → (kT h13 v0 = 10 ∧ (∀ h14 : Hp, h14 = wR h13 v0 7 (some (kX h12)) → (kX h14 + 1 ≤ gB G + capC ∧ kS h14 + 0 ≤ capS ∧ (∀ h15 : Hp, h15 = wA h14 50 0 0 → (kT h15 v0 = 10 ∧ (∀ h16 : Hp, h16 = wR h15 v0 8 (some (kX h14)) → (kX h16 + 1 ≤ gB G + capC ∧ kS h16 + 0 ≤ capS ∧ (∀ h17 : Hp, h17 = wA h16 50 0 0 → (kT h17 v0 = 10 ∧ (∀ h18 : Hp, h18 = wR h17 v0 9 (some (kX h16)) → (kX h18 + 1 ≤ gB G + capC ∧ kS h18 + 0 ≤ capS ∧ (∀ h19 : Hp, h19 = wA h18 50 0 0 → (kT h19 v0 = 10 ∧ (∀ h20 : Hp, h20 = wR h19 v0 10 (some (kX h18)) → (kT h20 v0 = 10 ∧ (∀ h21 : Hp, h21 = wI h20 v0 11 0 → (kX h21 + 1 ≤ gB G + capC ∧ kS h21 + 0 ≤ capS ∧ (∀ h22 : Hp, h22 = wA h21 50 0 0 → (kT h22 v0 = 10 ∧ (∀ h23 : Hp, h23 = wR h22 v0 12 (some (kX h21)) → (kX h23 + 1 ≤ gB G + capC ∧ kS h23 + 0 ≤ capS ∧ (∀ h24 : Hp, h24 = wA h23 50 0 0 → (kT h24 v0 = 10 ∧ (∀ h25 : Hp, h25 = wR h24 v0 13 (some (kX h23)) → (kX h25 + 1 ≤ gB G + capC ∧ kS h25 + 0 ≤ capS ∧ (∀ h26 : Hp, h26 = wA h25 50 0 0 → (kT h26 v0 = 10 ∧ (∀ h27 : Hp, h27 = wR h26 v0 14 (some (kX h25)) → (kX h27 + 1 ≤ gB G + capC ∧ kS h27 + 0 ≤ capS ∧ (∀ h28 : Hp, h28 = wA h27 50 0 0 → (kT h28 v0 = 10 ∧ (∀ h29 : Hp, h29 = wR h28 v0 15 (some (kX h27)) → (kX h29 + 1 ≤ gB G + capC ∧ kS h29 + 0 ≤ capS ∧ (∀ h30 : Hp, h30 = wA h29 50 0 0 → (kT h30 v0 = 10 ∧ (∀ h31 : Hp, h31 = wR h30 v0 16 (some (kX h29)) → (kX h31 + 1 ≤ gB G + capC ∧ kS h31 + 0 ≤ capS ∧ (∀ h32 : Hp, h32 = wA h31 52 0 0 → (kT h32 v0 = 10 ∧ (∀ h33 : Hp, h33 = wR h32 v0 17 (some (kX h31)) → K none h33)))))))))))))))))))))))))))))))))))))))))))))))))))))))))))))))))) : X G M Q 0 [(0, .ref v0)] [] h := by
  refine x_aload_n hM d_Ki_init_0 rfl 0 rfl ?_
  refine x_objInit hG hM rfl w_320 w_22 w_objcode d_Ki_init_1 (Nat.le_of_ble_eq_true rfl) (Nat.le_of_ble_eq_true rfl) (Nat.le_of_ble_eq_true rfl) ?_
  refine x_aload_n hM d_Ki_init_4 rfl 0 rfl ?_
  refine x_iconst (v := 0) hM d_Ki_init_5 (by decide) ?_
  obtain ⟨c81, F⟩ := F
  replace F := F _ rfl
  refine x_puti hG hM ck_Ki 0 (Nat.le_of_ble_eq_true rfl) rfl rfl w_321 rfl d_Ki_init_6 (Or.inl rfl) c81 ?_
  refine x_aload_n hM d_Ki_init_9 rfl 0 rfl ?_
  refine x_lconst (v := 0) hM d_Ki_init_10 (by decide) ?_
  obtain ⟨c80, F⟩ := F
  replace F := F _ rfl
  refine x_putl hG hM ck_Ki 1 (Nat.le_of_ble_eq_true rfl) rfl rfl w_323 rfl d_Ki_init_11 (Or.inl rfl) c80 ?_
  refine x_aload_n hM d_Ki_init_14 rfl 0 rfl ?_
  refine x_iconst (v := 0) hM d_Ki_init_15 (by decide) ?_
  obtain ⟨c78, F⟩ := F
  obtain ⟨c79, F⟩ := F
  replace F := F _ rfl
  refine x_newI hG hM (N := 0) w_63 d_Ki_init_16 (by decide) rfl c78 c79 ?_
  obtain ⟨c77, F⟩ := F
  replace F := F _ rfl
  refine x_putr hG hM ck_Ki 2 (Nat.le_of_ble_eq_true rfl) (Or.inr ⟨_, rfl⟩) rfl w_325 rfl d_Ki_init_18 (Or.inl rfl) c77 ?_
  refine x_aload_n hM d_Ki_init_21 rfl 0 rfl ?_
  refine x_iconst (v := 0) hM d_Ki_init_22 (by decide) ?_
  obtain ⟨c75, F⟩ := F
  obtain ⟨c76, F⟩ := F
  replace F := F _ rfl
  refine x_newI hG hM (N := 0) w_63 d_Ki_init_23 (by decide) rfl c75 c76 ?_
  obtain ⟨c74, F⟩ := F
  replace F := F _ rfl
  refine x_putr hG hM ck_Ki 3 (Nat.le_of_ble_eq_true rfl) (Or.inr ⟨_, rfl⟩) rfl w_327 rfl d_Ki_init_25 (Or.inl rfl) c74 ?_
  refine x_aload_n hM d_Ki_init_28 rfl 0 rfl ?_
  refine x_iconst (v := 0) hM d_Ki_init_29 (by decide) ?_
  obtain ⟨c72, F⟩ := F
  obtain ⟨c73, F⟩ := F
  replace F := F _ rfl
  refine x_newI hG hM (N := 0) w_63 d_Ki_init_30 (by decide) rfl c72 c73 ?_
  obtain ⟨c71, F⟩ := F
  replace F := F _ rfl
  refine x_putr hG hM ck_Ki 4 (Nat.le_of_ble_eq_true rfl) (Or.inr ⟨_, rfl⟩) rfl w_329 rfl d_Ki_init_32 (Or.inl rfl) c71 ?_
  refine x_aload_n hM d_Ki_init_35 rfl 0 rfl ?_
  refine x_iconst (v := 0) hM d_Ki_init_36 (by decide) ?_
  obtain ⟨c69, F⟩ := F
  obtain ⟨c70, F⟩ := F
  replace F := F _ rfl
  refine x_newI hG hM (N := 0) w_63 d_Ki_init_37 (by decide) rfl c69 c70 ?_
  obtain ⟨c68, F⟩ := F
  replace F := F _ rfl
  refine x_putr hG hM ck_Ki 5 (Nat.le_of_ble_eq_true rfl) (Or.inr ⟨_, rfl⟩) rfl w_330 rfl d_Ki_init_39 (Or.inl rfl) c68 ?_
  refine x_aload_n hM d_Ki_init_42 rfl 0 rfl ?_
  refine x_iconst (v := 0) hM d_Ki_init_43 (by decide) ?_
  obtain ⟨c66, F⟩ := F
  obtain ⟨c67, F⟩ := F
  replace F := F _ rfl
  refine x_newI hG hM (N := 0) w_63 d_Ki_init_44 (by decide) rfl c66 c67 ?_
  obtain ⟨c65, F⟩ := F
  replace F := F _ rfl
  refine x_putr hG hM ck_Ki 6 (Nat.le_of_ble_eq_true rfl) (Or.inr ⟨_, rfl⟩) rfl w_331 rfl d_Ki_init_46 (Or.inl rfl) c65 ?_
  refine x_aload_n hM d_Ki_init_49 rfl 0 rfl ?_
  refine x_iconst (v := 0) hM d_Ki_init_50 (by decide) ?_
  obtain ⟨c63, F⟩ := F
  obtain ⟨c64, F⟩ := F
  replace F := F _ rfl
  refine x_newI hG hM (N := 0) w_63 d_Ki_init_51 (by decide) rfl c63 c64 ?_
  obtain ⟨c62, F⟩ := F
  replace F := F _ rfl
  refine x_putr hG hM ck_Ki 7 (Nat.le_of_ble_eq_true rfl) (Or.inr ⟨_, rfl⟩) rfl w_332 rfl d_Ki_init_53 (Or.inl rfl) c62 ?_
  refine x_aload_n hM d_Ki_init_56 rfl 0 rfl ?_
  refine x_iconst (v := 0) hM d_Ki_init_57 (by decide) ?_
  obtain ⟨c60, F⟩ := F
  obtain ⟨c61, F⟩ := F
  replace F := F _ rfl
  refine x_newI hG hM (N := 0) w_63 d_Ki_init_58 (by decide) rfl c60 c61 ?_
  obtain ⟨c59, F⟩ := F
  replace F := F _ rfl
  refine x_putr hG hM ck_Ki 8 (Nat.le_of_ble_eq_true rfl) (Or.inr ⟨_, rfl⟩) rfl w_333 rfl d_Ki_init_60 (Or.inl rfl) c59 ?_
  refine x_aload_n hM d_Ki_init_63 rfl 0 rfl ?_
  refine x_iconst (v := 0) hM d_Ki_init_64 (by decide) ?_
  obtain ⟨c57, F⟩ := F
  obtain ⟨c58, F⟩ := F
  replace F := F _ rfl
  refine x_newI hG hM (N := 0) w_63 d_Ki_init_65 (by decide) rfl c57 c58 ?_
  obtain ⟨c56, F⟩ := F
  replace F := F _ rfl
  refine x_putr hG hM ck_Ki 9 (Nat.le_of_ble_eq_true rfl) (Or.inr ⟨_, rfl⟩) rfl w_334 rfl d_Ki_init_67 (Or.inl rfl) c56 ?_
  refine x_aload_n hM d_Ki_init_70 rfl 0 rfl ?_
  refine x_iconst (v := 0) hM d_Ki_init_71 (by decide) ?_
  obtain ⟨c54, F⟩ := F
  obtain ⟨c55, F⟩ := F
  replace F := F _ rfl
  refine x_newI hG hM (N := 0) w_63 d_Ki_init_72 (by decide) rfl c54 c55 ?_
  obtain ⟨c53, F⟩ := F
  replace F := F _ rfl
  refine x_putr hG hM ck_Ki 10 (Nat.le_of_ble_eq_true rfl) (Or.inr ⟨_, rfl⟩) rfl w_335 rfl d_Ki_init_74 (Or.inl rfl) c53 ?_
  refine x_aload_n hM d_Ki_init_77 rfl 0 rfl ?_
  refine x_iconst (v := 0) hM d_Ki_init_78 (by decide) ?_
  obtain ⟨c52, F⟩ := F
  replace F := F _ rfl
  refine x_puti hG hM ck_Ki 11 (Nat.le_of_ble_eq_true rfl) rfl rfl w_336 rfl d_Ki_init_79 (Or.inl rfl) c52 ?_
  refine x_aload_n hM d_Ki_init_82 rfl 0 rfl ?_
  refine x_iconst (v := 0) hM d_Ki_init_83 (by decide) ?_
  obtain ⟨c50, F⟩ := F
  obtain ⟨c51, F⟩ := F
  replace F := F _ rfl
  refine x_newI hG hM (N := 0) w_63 d_Ki_init_84 (by decide) rfl c50 c51 ?_
  obtain ⟨c49, F⟩ := F
  replace F := F _ rfl
  refine x_putr hG hM ck_Ki 12 (Nat.le_of_ble_eq_true rfl) (Or.inr ⟨_, rfl⟩) rfl w_337 rfl d_Ki_init_86 (Or.inl rfl) c49 ?_
  refine x_aload_n hM d_Ki_init_89 rfl 0 rfl ?_
  refine x_iconst (v := 0) hM d_Ki_init_90 (by decide) ?_
  obtain ⟨c47, F⟩ := F
  obtain ⟨c48, F⟩ := F
  replace F := F _ rfl
  refine x_newI hG hM (N := 0) w_63 d_Ki_init_91 (by decide) rfl c47 c48 ?_
  obtain ⟨c46, F⟩ := F
  replace F := F _ rfl
  refine x_putr hG hM ck_Ki 13 (Nat.le_of_ble_eq_true rfl) (Or.inr ⟨_, rfl⟩) rfl w_338 rfl d_Ki_init_93 (Or.inl rfl) c46 ?_
  refine x_aload_n hM d_Ki_init_96 rfl 0 rfl ?_
  refine x_iconst (v := 0) hM d_Ki_init_97 (by decide) ?_
  obtain ⟨c44, F⟩ := F
  obtain ⟨c45, F⟩ := F
  replace F := F _ rfl
  refine x_newI hG hM (N := 0) w_63 d_Ki_init_98 (by decide) rfl c44 c45 ?_
  obtain ⟨c43, F⟩ := F
  replace F := F _ rfl
  refine x_putr hG hM ck_Ki 14 (Nat.le_of_ble_eq_true rfl) (Or.inr ⟨_, rfl⟩) rfl w_339 rfl d_Ki_init_100 (Or.inl rfl) c43 ?_
  refine x_aload_n hM d_Ki_init_103 rfl 0 rfl ?_
  refine x_iconst (v := 0) hM d_Ki_init_104 (by decide) ?_
  obtain ⟨c41, F⟩ := F
  obtain ⟨c42, F⟩ := F
  replace F := F _ rfl
  refine x_newI hG hM (N := 0) w_63 d_Ki_init_105 (by decide) rfl c41 c42 ?_
  obtain ⟨c40, F⟩ := F
  replace F := F _ rfl
  refine x_putr hG hM ck_Ki 15 (Nat.le_of_ble_eq_true rfl) (Or.inr ⟨_, rfl⟩) rfl w_340 rfl d_Ki_init_107 (Or.inl rfl) c40 ?_
  refine x_aload_n hM d_Ki_init_110 rfl 0 rfl ?_
  refine x_iconst (v := 0) hM d_Ki_init_111 (by decide) ?_
  obtain ⟨c38, F⟩ := F
  obtain ⟨c39, F⟩ := F
  replace F := F _ rfl
  refine x_newI hG hM (N := 0) w_63 d_Ki_init_112 (by decide) rfl c38 c39 ?_
  obtain ⟨c37, F⟩ := F
  replace F := F _ rfl
  refine x_putr hG hM ck_Ki 16 (Nat.le_of_ble_eq_true rfl) (Or.inr ⟨_, rfl⟩) rfl w_341 rfl d_Ki_init_114 (Or.inl rfl) c37 ?_
  refine x_aload_n hM d_Ki_init_117 rfl 0 rfl ?_
  refine x_iconst (v := 0) hM d_Ki_init_118 (by decide) ?_
  obtain ⟨c35, F⟩ := F
  obtain ⟨c36, F⟩ := F
  replace F := F _ rfl
  refine x_newL hG hM (N := 0) w_276 d_Ki_init_119 (by decide) rfl c35 c36 ?_
  obtain ⟨c34, F⟩ := F
  replace F := F _ rfl
  refine x_putr hG hM ck_Ki 17 (Nat.le_of_ble_eq_true rfl) (Or.inr ⟨_, rfl⟩) rfl w_342 rfl d_Ki_init_121 (Or.inl rfl) c34 ?_
  exact x_return hM d_Ki_init_124 rfl F
set_option maxRecDepth 100000 in
set_option maxHeartbeats 4000000 in
theorem S_Ki_split_0 {G : Gc} {M : Mc} {Q : State → Prop} {K : Option Value → Hp → Prop} (hG : gok G) (hM : mok G M r_Ki_split Q K) (v0 : Nat) (v1 : Nat) (v2 : Nat) (h : Hp) (F : kT h v1 = 2 ∧ (kT h v0 = 10 ∧ sem G r_Ki_makeRoom [.ref v0, .int (kI h v1 1)] h (fun u2 h1 => u2 = none ∧ (kT h1 v0 = 10 ∧ (∀ h3 : Hp, h3 = wI h1 v0 0 0 → (kT h3 v0 = 10 ∧ (∀ h4 : Hp, h4 = wI h3 v0 11 0 → (kT h4 v0 = 10 ∧ sem G r_Ki_placeThose [.ref v0, .ref v1, .ref v2, .int 1, .int 0] h4 (fun u6 h5 => ∃ x7 : Int32, u6 = some (.int x7) ∧ (kT h5 v0 = 10 ∧ sem G r_Ki_placeThose [.ref v0, .ref v1, .ref v2, .int 0, .int x7] h5 (fun u9 h8 => ∃ x10 : Int32, u9 = some (.int x10) ∧ X G M Q 39 [(0, .ref v0), (1, .ref v1), (4, .int 0)] [] h8))))))))))) : X G M Q 0 [(0, .ref v0), (1, .ref v1), (2, .ref v2)] [] h := by
  refine x_aload_n hM d_Ki_split_0 rfl 0 rfl ?_
  refine x_aload_n hM d_Ki_split_1 rfl 1 rfl ?_
  obtain ⟨c16, F⟩ := F
  refine x_geti hG hM ck_Wo 1 (Nat.le_of_ble_eq_true rfl) rfl rfl w_126 rfl d_Ki_split_2 c16 ?_
  obtain ⟨c15, F⟩ := F
  refine x_callV hG hM (r' := r_Ki_makeRoom) (ci := 9) [.int (kI h v1 1)] rfl rfl (Nat.le_of_ble_eq_true rfl) yk_Ki_makeRoom ⟨Nat.le_of_ble_eq_true rfl, Nat.le_of_ble_eq_true rfl⟩ w_702 w_704 ws_Ki_makeRoom rfl rfl (Nat.le_of_ble_eq_true rfl) d_Ki_split_5 c15 (sem_mono F ?_)
  intro u2 h1 F
  obtain ⟨rfl, F⟩ := F
  refine x_aload_n hM d_Ki_split_8 rfl 0 rfl ?_
  refine x_iconst (v := 0) hM d_Ki_split_9 (by decide) ?_
  obtain ⟨c14, F⟩ := F
  replace F := F _ rfl
  refine x_puti hG hM ck_Ki 0 (Nat.le_of_ble_eq_true rfl) rfl rfl w_321 rfl d_Ki_split_10 (Or.inl rfl) c14 ?_
  refine x_aload_n hM d_Ki_split_13 rfl 0 rfl ?_
  refine x_iconst (v := 0) hM d_Ki_split_14 (by decide) ?_
  obtain ⟨c13, F⟩ := F
  replace F := F _ rfl
  refine x_puti hG hM ck_Ki 11 (Nat.le_of_ble_eq_true rfl) rfl rfl w_336 rfl d_Ki_split_15 (Or.inl rfl) c13 ?_
  refine x_aload_n hM d_Ki_split_18 rfl 0 rfl ?_
  refine x_aload_n hM d_Ki_split_19 rfl 1 rfl ?_
  refine x_aload_n hM d_Ki_split_20 rfl 2 rfl ?_
  refine x_iconst (v := 1) hM d_Ki_split_21 (by decide) ?_
  refine x_iconst (v := 0) hM d_Ki_split_22 (by decide) ?_
  obtain ⟨c12, F⟩ := F
  refine x_callV hG hM (r' := r_Ki_placeThose) (ci := 9) [.ref v1, .ref v2, .int 1, .int 0] rfl rfl (Nat.le_of_ble_eq_true rfl) yk_Ki_placeThose ⟨Nat.le_of_ble_eq_true rfl, Nat.le_of_ble_eq_true rfl⟩ w_707 w_709 ws_Ki_placeThose rfl rfl (Nat.le_of_ble_eq_true rfl) d_Ki_split_23 c12 (sem_mono F ?_)
  intro u6 h5 F
  obtain ⟨x7, rfl, F⟩ := F
  refine x_istore_n (lv2 := [(3, .int x7), (0, .ref v0), (1, .ref v1), (2, .ref v2)]) hM d_Ki_split_26 rfl (Nat.le_of_ble_eq_true rfl) rfl ?_
  refine x_aload_n hM d_Ki_split_27 rfl 1 rfl ?_
  refine x_aload_n hM d_Ki_split_28 rfl 2 rfl ?_
  refine x_aload_n hM d_Ki_split_29 rfl 3 rfl ?_
  refine x_iconst (v := 0) hM d_Ki_split_30 (by decide) ?_
  refine x_iload_n hM d_Ki_split_31 rfl 0 rfl ?_
  obtain ⟨c11, F⟩ := F
  refine x_callV hG hM (r' := r_Ki_placeThose) (ci := 9) [.ref v1, .ref v2, .int 0, .int x7] rfl rfl (Nat.le_of_ble_eq_true rfl) yk_Ki_placeThose ⟨Nat.le_of_ble_eq_true rfl, Nat.le_of_ble_eq_true rfl⟩ w_707 w_709 ws_Ki_placeThose rfl rfl (Nat.le_of_ble_eq_true rfl) d_Ki_split_32 c11 (sem_mono F ?_)
  intro u9 h8 F
  obtain ⟨x10, rfl, F⟩ := F
  refine x_pop hM d_Ki_split_35 rfl ?_
  refine x_iconst (v := 0) hM d_Ki_split_36 (by decide) ?_
  refine x_istore (lv2 := [(4, .int 0), (3, .int x7), (0, .ref v0), (1, .ref v1), (2, .ref v2)]) hM d_Ki_split_37 (Nat.le_of_ble_eq_true rfl) rfl ?_
  refine x_sub [2, 3, 0] rfl ?_
  exact F
set_option maxRecDepth 100000 in
set_option maxHeartbeats 4000000 in
theorem S_Ki_split_39 {G : Gc} {M : Mc} {Q : State → Prop} {K : Option Value → Hp → Prop} (hG : gok G) (hM : mok G M r_Ki_split Q K) (v0 : Nat) (v1 : Nat) (v4 : Int32) (h : Hp) (F : (8000000 ≤ v4 → (kT h v1 = 2 ∧ (kT h v0 = 10 ∧ sem G r_Ki_findLeast [.ref v0, .int (kI h v1 1)] h (fun u2 h1 => u2 = none ∧ K none h1)))) ∧ (¬ 8000000 ≤ v4 → (kT h v0 = 10 ∧ (((kI h v0 11) ≤ 0 → (kT h v1 = 2 ∧ (kT h v0 = 10 ∧ sem G r_Ki_findLeast [.ref v0, .int (kI h v1 1)] h (fun u6 h5 => u6 = none ∧ K none h5)))) ∧ (¬ (kI h v0 11) ≤ 0 → (kT h v0 = 10 ∧ (kT h v0 = 10 ∧ (∀ h9 : Hp, h9 = wI h v0 11 ((kI h v0 11) - 1) → (kT h9 v0 = 10 ∧ kR h9 v0 10 = some (rf h9 v0 10) ∧ (kT h9 v0 = 10 ∧ (kT h9 (rf h9 v0 10) = 50 ∧ vp_in (kI h9 v0 11) (kN h9 (rf h9 v0 10)) ∧ (kT h9 v0 = 10 ∧ sem G r_Ki_settle [.ref v0, .ref v1, .int (kI h9 (rf h9 v0 10) (Int32.toNatClampNeg (kI h9 v0 11)))] h9 (fun u11 h10 => u11 = none ∧ X G M Q 39 [(0, .ref v0), (1, .ref v1), (4, .int (v4 + 1))] [] h10))))))))))))) : X G M Q 39 [(0, .ref v0), (1, .ref v1), (4, .int v4)] [] h := by
  refine x_iload hM d_Ki_split_39 2 rfl ?_
  refine x_ldc hG hM rfl w_715 d_Ki_split_41 ?_
  refine x_icmp_ge (tgt := 83) hM d_Ki_split_43 (by decide) (fun q22 => ?_) (fun q22 => ?_)
  · replace F := F.1 q22
    refine x_aload_n hM d_Ki_split_83 rfl 0 rfl ?_
    refine x_aload_n hM d_Ki_split_84 rfl 1 rfl ?_
    obtain ⟨c4, F⟩ := F
    refine x_geti hG hM ck_Wo 1 (Nat.le_of_ble_eq_true rfl) rfl rfl w_126 rfl d_Ki_split_85 c4 ?_
    obtain ⟨c3, F⟩ := F
    refine x_callV hG hM (r' := r_Ki_findLeast) (ci := 9) [.int (kI h v1 1)] rfl rfl (Nat.le_of_ble_eq_true rfl) yk_Ki_findLeast ⟨Nat.le_of_ble_eq_true rfl, Nat.le_of_ble_eq_true rfl⟩ w_764 w_766 ws_Ki_findLeast rfl rfl (Nat.le_of_ble_eq_true rfl) d_Ki_split_88 c3 (sem_mono F ?_)
    intro u2 h1 F
    obtain ⟨rfl, F⟩ := F
    exact x_return hM d_Ki_split_91 rfl F
  · replace F := F.2 q22
    refine x_aload_n hM d_Ki_split_46 rfl 0 rfl ?_
    obtain ⟨c21, F⟩ := F
    refine x_geti hG hM ck_Ki 11 (Nat.le_of_ble_eq_true rfl) rfl rfl w_336 rfl d_Ki_split_47 c21 ?_
    refine x_if_le (tgt := 83) hM d_Ki_split_50 (by decide) (fun q20 => ?_) (fun q20 => ?_)
    · replace F := F.1 q20
      refine x_aload_n hM d_Ki_split_83 rfl 0 rfl ?_
      refine x_aload_n hM d_Ki_split_84 rfl 1 rfl ?_
      obtain ⟨c8, F⟩ := F
      refine x_geti hG hM ck_Wo 1 (Nat.le_of_ble_eq_true rfl) rfl rfl w_126 rfl d_Ki_split_85 c8 ?_
      obtain ⟨c7, F⟩ := F
      refine x_callV hG hM (r' := r_Ki_findLeast) (ci := 9) [.int (kI h v1 1)] rfl rfl (Nat.le_of_ble_eq_true rfl) yk_Ki_findLeast ⟨Nat.le_of_ble_eq_true rfl, Nat.le_of_ble_eq_true rfl⟩ w_764 w_766 ws_Ki_findLeast rfl rfl (Nat.le_of_ble_eq_true rfl) d_Ki_split_88 c7 (sem_mono F ?_)
      intro u6 h5 F
      obtain ⟨rfl, F⟩ := F
      exact x_return hM d_Ki_split_91 rfl F
    · replace F := F.2 q20
      refine x_aload_n hM d_Ki_split_53 rfl 0 rfl ?_
      refine x_dup hM d_Ki_split_54 rfl ?_
      obtain ⟨c19, F⟩ := F
      refine x_geti hG hM ck_Ki 11 (Nat.le_of_ble_eq_true rfl) rfl rfl w_336 rfl d_Ki_split_55 c19 ?_
      refine x_iconst (v := 1) hM d_Ki_split_58 (by decide) ?_
      refine x_isub hM d_Ki_split_59 ?_
      obtain ⟨c18, F⟩ := F
      replace F := F _ rfl
      refine x_puti hG hM ck_Ki 11 (Nat.le_of_ble_eq_true rfl) rfl rfl w_336 rfl d_Ki_split_60 (Or.inl rfl) c18 ?_
      refine x_aload_n hM d_Ki_split_63 rfl 0 rfl ?_
      refine x_aload_n hM d_Ki_split_64 rfl 1 rfl ?_
      refine x_aload_n hM d_Ki_split_65 rfl 0 rfl ?_
      obtain ⟨c16, F⟩ := F
      obtain ⟨c17, F⟩ := F
      refine x_getr hG hM ck_Ki 10 (Nat.le_of_ble_eq_true rfl) rfl rfl w_335 rfl d_Ki_split_66 c16 c17 ?_
      refine x_aload_n hM d_Ki_split_69 rfl 0 rfl ?_
      obtain ⟨c15, F⟩ := F
      refine x_geti hG hM ck_Ki 11 (Nat.le_of_ble_eq_true rfl) rfl rfl w_336 rfl d_Ki_split_70 c15 ?_
      obtain ⟨c13, F⟩ := F
      obtain ⟨c14, F⟩ := F
      refine x_iaload hG hM d_Ki_split_73 c13 c14 ?_
      obtain ⟨c12, F⟩ := F
      refine x_callV hG hM (r' := r_Ki_settle) (ci := 9) [.ref v1, .int (kI h9 (rf h9 v0 10) (Int32.toNatClampNeg (kI h9 v0 11)))] rfl rfl (Nat.le_of_ble_eq_true rfl) yk_Ki_settle ⟨Nat.le_of_ble_eq_true rfl, Nat.le_of_ble_eq_true rfl⟩ w_716 w_718 ws_Ki_settle rfl rfl (Nat.le_of_ble_eq_true rfl) d_Ki_split_74 c12 (sem_mono F ?_)
      intro u11 h10 F
      obtain ⟨rfl, F⟩ := F
      refine x_iinc (v := (v4 + 1)) (lv2 := [(4, .int (v4 + 1)), (0, .ref v0), (1, .ref v1)]) hM d_Ki_split_77 (j := 2) rfl rfl (Nat.le_of_ble_eq_true rfl) rfl ?_
      refine x_goto (tgt := 39) hM d_Ki_split_80 (by decide) ?_
      refine x_sub [1, 2, 0] rfl ?_
      exact F
set_option maxRecDepth 100000 in
set_option maxHeartbeats 4000000 in
theorem S_Ki_makeRoom_0 {G : Gc} {M : Mc} {Q : State → Prop} {K : Option Value → Hp → Prop} (hG : gok G) (hM : mok G M r_Ki_makeRoom Q K) (v0 : Nat) (v1 : Int32) (h : Hp) (F : kT h v0 = 10 ∧ kR h v0 2 = some (rf h v0 2) ∧ (kT h (rf h v0 2) = 50 ∧ (((nI (kN h (rf h v0 2))) < v1 → (sem G r_WP_roomFor [.int v1] h (fun u2 h1 => ∃ x3 : Int32, u2 = some (.int x3) ∧ (¬ x3 < 0 ∧ kX h1 + 1 ≤ gB G + capC ∧ kS h1 + (Int32.toNatClampNeg x3) ≤ capS ∧ (∀ h4 : Hp, h4 = wA h1 50 (Int32.toNatClampNeg x3) (Int32.toNatClampNeg x3) → (kT h4 v0 = 10 ∧ (∀ h5 : Hp, h5 = wR h4 v0 2 (some (kX h1)) → (¬ x3 < 0 ∧ kX h5 + 1 ≤ gB G + capC ∧ kS h5 + (Int32.toNatClampNeg x3) ≤ capS ∧ (∀ h6 : Hp, h6 = wA h5 50 (Int32.toNatClampNeg x3) (Int32.toNatClampNeg x3) → (kT h6 v0 = 10 ∧ (∀ h7 : Hp, h7 = wR h6 v0 3 (some (kX h5)) → (¬ x3 < 0 ∧ kX h7 + 1 ≤ gB G + capC ∧ kS h7 + (Int32.toNatClampNeg x3) ≤ capS ∧ (∀ h8 : Hp, h8 = wA h7 50 (Int32.toNatClampNeg x3) (Int32.toNatClampNeg x3) → (kT h8 v0 = 10 ∧ (∀ h9 : Hp, h9 = wR h8 v0 4 (some (kX h7)) → (¬ x3 < 0 ∧ kX h9 + 1 ≤ gB G + capC ∧ kS h9 + (Int32.toNatClampNeg x3) ≤ capS ∧ (∀ h10 : Hp, h10 = wA h9 50 (Int32.toNatClampNeg x3) (Int32.toNatClampNeg x3) → (kT h10 v0 = 10 ∧ (∀ h11 : Hp, h11 = wR h10 v0 5 (some (kX h9)) → (¬ x3 < 0 ∧ kX h11 + 1 ≤ gB G + capC ∧ kS h11 + (Int32.toNatClampNeg x3) ≤ capS ∧ (∀ h12 : Hp, h12 = wA h11 50 (Int32.toNatClampNeg x3) (Int32.toNatClampNeg x3) → (kT h12 v0 = 10 ∧ (∀ h13 : Hp, h13 = wR h12 v0 6 (some (kX h11)) → (¬ x3 < 0 ∧ kX h13 + 1 ≤ gB G + capC ∧ kS h13 + (Int32.toNatClampNeg x3) ≤ capS ∧ (∀ h14 : Hp, h14 = wA h13 50 (Int32.toNatClampNeg x3) (Int32.toNatClampNeg x3) → (kT h14 v0 = 10 ∧ (∀ h15 : Hp, h15 = wR h14 v0 7 (some (kX h13)) → (¬ x3 < 0 ∧ kX h15 + 1 ≤ gB G + capC ∧ kS h15 + (Int32.toNatClampNeg x3) ≤ capS ∧ (∀ h16 : Hp, h16 = wA h15 50 (Int32.toNatClampNeg x3) (Int32.toNatClampNeg x3) → (kT h16 v0 = 10 ∧ (∀ h17 : Hp, h17 = wR h16 v0 8 (some (kX h15)) → (¬ x3 < 0 ∧ kX h17 + 1 ≤ gB G + capC ∧ kS h17 + (Int32.toNatClampNeg x3) ≤ capS ∧ (∀ h18 : Hp, h18 = wA h17 50 (Int32.toNatClampNeg x3) (Int32.toNatClampNeg x3) → (kT h18 v0 = 10 ∧ (∀ h19 : Hp, h19 = wR h18 v0 9 (some (kX h17)) → (¬ x3 < 0 ∧ kX h19 + 1 ≤ gB G + capC ∧ kS h19 + (Int32.toNatClampNeg x3) ≤ capS ∧ (∀ h20 : Hp, h20 = wA h19 50 (Int32.toNatClampNeg x3) (Int32.toNatClampNeg x3) → (kT h20 v0 = 10 ∧ (∀ h21 : Hp, h21 = wR h20 v0 10 (some (kX h19)) → (¬ x3 < 0 ∧ kX h21 + 1 ≤ gB G + capC ∧ kS h21 + (Int32.toNatClampNeg x3) ≤ capS ∧ (∀ h22 : Hp, h22 = wA h21 50 (Int32.toNatClampNeg x3) (Int32.toNatClampNeg x3) → (kT h22 v0 = 10 ∧ (∀ h23 : Hp, h23 = wR h22 v0 12 (some (kX h21)) → (¬ x3 < 0 ∧ kX h23 + 1 ≤ gB G + capC ∧ kS h23 + (Int32.toNatClampNeg x3) ≤ capS ∧ (∀ h24 : Hp, h24 = wA h23 50 (Int32.toNatClampNeg x3) (Int32.toNatClampNeg x3) → (kT h24 v0 = 10 ∧ (∀ h25 : Hp, h25 = wR h24 v0 13 (some (kX h23)) → (¬ x3 < 0 ∧ kX h25 + 1 ≤ gB G + capC ∧ kS h25 + (Int32.toNatClampNeg x3) ≤ capS ∧ (∀ h26 : Hp, h26 = wA h25 50 (Int32.toNatClampNeg x3) (Int32.toNatClampNeg x3) → (kT h26 v0 = 10 ∧ (∀ h27 : Hp, h27 = wR h26 v0 14 (some (kX h25)) → (¬ x3 < 0 ∧ kX h27 + 1 ≤ gB G + capC ∧ kS h27 + (Int32.toNatClampNeg x3) ≤ capS ∧ (∀ h28 : Hp, h28 = wA h27 50 (Int32.toNatClampNeg x3) (Int32.toNatClampNeg x3) → (kT h28 v0 = 10 ∧ (∀ h29 : Hp, h29 = wR h28 v0 15 (some (kX h27)) → (¬ (2 * x3) < 0 ∧ kX h29 + 1 ≤ gB G + capC ∧ kS h29 + (Int32.toNatClampNeg (2 * x3)) ≤ capS ∧ (∀ h30 : Hp, h30 = wA h29 50 (Int32.toNatClampNeg (2 * x3)) (Int32.toNatClampNeg (2 * x3)) → (kT h30 v0 = 10 ∧ (∀ h31 : Hp, h31 = wR h30 v0 16 (some (kX h29)) → (¬ (2 * x3) < 0 ∧ kX h31 + 1 ≤ gB G + capC ∧ kS h31 + (Int32.toNatClampNeg (2 * x3)) ≤ capS ∧ (∀ h32 : Hp, h32 = wA h31 52 (Int32.toNatClampNeg (2 * x3)) (Int32.toNatClampNeg (2 * x3)) → (kT h32 v0 = 10 ∧ (∀ h33 : Hp, h33 = wR h32 v0 17 (some (kX h31)) → K none h33))))))))))))))))))))))))))))))))))))))))))))))))))))))))))))))) ∧ (¬ (nI (kN h (rf h v0 2))) < v1 → K none h)))) : X G M Q 0 [(0, .ref v0), (1, .int v1)] [] h := by
  refine x_aload_n hM d_Ki_makeRoom_0 rfl 0 rfl ?_
  obtain ⟨c96, F⟩ := F
  obtain ⟨c97, F⟩ := F
  refine x_getr hG hM ck_Ki 2 (Nat.le_of_ble_eq_true rfl) rfl rfl w_325 rfl d_Ki_makeRoom_1 c96 c97 ?_
  obtain ⟨c95, F⟩ := F
  refine x_alen hG hM 50 rfl (Nat.le_of_ble_eq_true rfl) d_Ki_makeRoom_4 c95 ?_
  refine x_iload_n hM d_Ki_makeRoom_5 rfl 1 rfl ?_
  refine x_icmp_lt (tgt := 10) hM d_Ki_makeRoom_6 (by decide) (fun q94 => ?_) (fun q94 => ?_)
  · replace F := F.1 q94
    refine x_iload_n hM d_Ki_makeRoom_10 rfl 1 rfl ?_
    refine x_callSN hG hM (r' := r_WP_roomFor) [.int v1] rfl yk_WP_roomFor ⟨Nat.le_of_ble_eq_true rfl, Nat.le_of_ble_eq_true rfl⟩ w_706 w_589 rfl rfl (Nat.le_of_ble_eq_true rfl) d_Ki_makeRoom_11 (sem_mono F ?_)
    intro u2 h1 F
    obtain ⟨x3, rfl, F⟩ := F
    refine x_istore_n (lv2 := [(2, .int x3), (0, .ref v0), (1, .int v1)]) hM d_Ki_makeRoom_14 rfl (Nat.le_of_ble_eq_true rfl) rfl ?_
    refine x_aload_n hM d_Ki_makeRoom_15 rfl 1 rfl ?_
    refine x_iload_n hM d_Ki_makeRoom_16 rfl 0 rfl ?_
    obtain ⟨c91, F⟩ := F
    obtain ⟨c92, F⟩ := F
    obtain ⟨c93, F⟩ := F
    replace F := F _ rfl
    refine x_newI hG hM (N := (Int32.toNatClampNeg x3)) w_63 d_Ki_makeRoom_17 c91 rfl c92 c93 ?_
    obtain ⟨c90, F⟩ := F
    replace F := F _ rfl
    refine x_putr hG hM ck_Ki 2 (Nat.le_of_ble_eq_true rfl) (Or.inr ⟨_, rfl⟩) rfl w_325 rfl d_Ki_makeRoom_19 (Or.inl rfl) c90 ?_
    refine x_aload_n hM d_Ki_makeRoom_22 rfl 1 rfl ?_
    refine x_iload_n hM d_Ki_makeRoom_23 rfl 0 rfl ?_
    obtain ⟨c87, F⟩ := F
    obtain ⟨c88, F⟩ := F
    obtain ⟨c89, F⟩ := F
    replace F := F _ rfl
    refine x_newI hG hM (N := (Int32.toNatClampNeg x3)) w_63 d_Ki_makeRoom_24 c87 rfl c88 c89 ?_
    obtain ⟨c86, F⟩ := F
    replace F := F _ rfl
    refine x_putr hG hM ck_Ki 3 (Nat.le_of_ble_eq_true rfl) (Or.inr ⟨_, rfl⟩) rfl w_327 rfl d_Ki_makeRoom_26 (Or.inl rfl) c86 ?_
    refine x_aload_n hM d_Ki_makeRoom_29 rfl 1 rfl ?_
    refine x_iload_n hM d_Ki_makeRoom_30 rfl 0 rfl ?_
    obtain ⟨c83, F⟩ := F
    obtain ⟨c84, F⟩ := F
    obtain ⟨c85, F⟩ := F
    replace F := F _ rfl
    refine x_newI hG hM (N := (Int32.toNatClampNeg x3)) w_63 d_Ki_makeRoom_31 c83 rfl c84 c85 ?_
    obtain ⟨c82, F⟩ := F
    replace F := F _ rfl
    refine x_putr hG hM ck_Ki 4 (Nat.le_of_ble_eq_true rfl) (Or.inr ⟨_, rfl⟩) rfl w_329 rfl d_Ki_makeRoom_33 (Or.inl rfl) c82 ?_
    refine x_aload_n hM d_Ki_makeRoom_36 rfl 1 rfl ?_
    refine x_iload_n hM d_Ki_makeRoom_37 rfl 0 rfl ?_
    obtain ⟨c79, F⟩ := F
    obtain ⟨c80, F⟩ := F
    obtain ⟨c81, F⟩ := F
    replace F := F _ rfl
    refine x_newI hG hM (N := (Int32.toNatClampNeg x3)) w_63 d_Ki_makeRoom_38 c79 rfl c80 c81 ?_
    obtain ⟨c78, F⟩ := F
    replace F := F _ rfl
    refine x_putr hG hM ck_Ki 5 (Nat.le_of_ble_eq_true rfl) (Or.inr ⟨_, rfl⟩) rfl w_330 rfl d_Ki_makeRoom_40 (Or.inl rfl) c78 ?_
    refine x_aload_n hM d_Ki_makeRoom_43 rfl 1 rfl ?_
    refine x_iload_n hM d_Ki_makeRoom_44 rfl 0 rfl ?_
    obtain ⟨c75, F⟩ := F
    obtain ⟨c76, F⟩ := F
    obtain ⟨c77, F⟩ := F
    replace F := F _ rfl
    refine x_newI hG hM (N := (Int32.toNatClampNeg x3)) w_63 d_Ki_makeRoom_45 c75 rfl c76 c77 ?_
    obtain ⟨c74, F⟩ := F
    replace F := F _ rfl
    refine x_putr hG hM ck_Ki 6 (Nat.le_of_ble_eq_true rfl) (Or.inr ⟨_, rfl⟩) rfl w_331 rfl d_Ki_makeRoom_47 (Or.inl rfl) c74 ?_
    refine x_aload_n hM d_Ki_makeRoom_50 rfl 1 rfl ?_
    refine x_iload_n hM d_Ki_makeRoom_51 rfl 0 rfl ?_
    obtain ⟨c71, F⟩ := F
    obtain ⟨c72, F⟩ := F
    obtain ⟨c73, F⟩ := F
    replace F := F _ rfl
    refine x_newI hG hM (N := (Int32.toNatClampNeg x3)) w_63 d_Ki_makeRoom_52 c71 rfl c72 c73 ?_
    obtain ⟨c70, F⟩ := F
    replace F := F _ rfl
    refine x_putr hG hM ck_Ki 7 (Nat.le_of_ble_eq_true rfl) (Or.inr ⟨_, rfl⟩) rfl w_332 rfl d_Ki_makeRoom_54 (Or.inl rfl) c70 ?_
    refine x_aload_n hM d_Ki_makeRoom_57 rfl 1 rfl ?_
    refine x_iload_n hM d_Ki_makeRoom_58 rfl 0 rfl ?_
    obtain ⟨c67, F⟩ := F
    obtain ⟨c68, F⟩ := F
    obtain ⟨c69, F⟩ := F
    replace F := F _ rfl
    refine x_newI hG hM (N := (Int32.toNatClampNeg x3)) w_63 d_Ki_makeRoom_59 c67 rfl c68 c69 ?_
    obtain ⟨c66, F⟩ := F
    replace F := F _ rfl
    refine x_putr hG hM ck_Ki 8 (Nat.le_of_ble_eq_true rfl) (Or.inr ⟨_, rfl⟩) rfl w_333 rfl d_Ki_makeRoom_61 (Or.inl rfl) c66 ?_
    refine x_aload_n hM d_Ki_makeRoom_64 rfl 1 rfl ?_
    refine x_iload_n hM d_Ki_makeRoom_65 rfl 0 rfl ?_
    obtain ⟨c63, F⟩ := F
    obtain ⟨c64, F⟩ := F
    obtain ⟨c65, F⟩ := F
    replace F := F _ rfl
    refine x_newI hG hM (N := (Int32.toNatClampNeg x3)) w_63 d_Ki_makeRoom_66 c63 rfl c64 c65 ?_
    obtain ⟨c62, F⟩ := F
    replace F := F _ rfl
    refine x_putr hG hM ck_Ki 9 (Nat.le_of_ble_eq_true rfl) (Or.inr ⟨_, rfl⟩) rfl w_334 rfl d_Ki_makeRoom_68 (Or.inl rfl) c62 ?_
    refine x_aload_n hM d_Ki_makeRoom_71 rfl 1 rfl ?_
    refine x_iload_n hM d_Ki_makeRoom_72 rfl 0 rfl ?_
    obtain ⟨c59, F⟩ := F
    obtain ⟨c60, F⟩ := F
    obtain ⟨c61, F⟩ := F
    replace F := F _ rfl
    refine x_newI hG hM (N := (Int32.toNatClampNeg x3)) w_63 d_Ki_makeRoom_73 c59 rfl c60 c61 ?_
    obtain ⟨c58, F⟩ := F
    replace F := F _ rfl
    refine x_putr hG hM ck_Ki 10 (Nat.le_of_ble_eq_true rfl) (Or.inr ⟨_, rfl⟩) rfl w_335 rfl d_Ki_makeRoom_75 (Or.inl rfl) c58 ?_
    refine x_aload_n hM d_Ki_makeRoom_78 rfl 1 rfl ?_
    refine x_iload_n hM d_Ki_makeRoom_79 rfl 0 rfl ?_
    obtain ⟨c55, F⟩ := F
    obtain ⟨c56, F⟩ := F
    obtain ⟨c57, F⟩ := F
    replace F := F _ rfl
    refine x_newI hG hM (N := (Int32.toNatClampNeg x3)) w_63 d_Ki_makeRoom_80 c55 rfl c56 c57 ?_
    obtain ⟨c54, F⟩ := F
    replace F := F _ rfl
    refine x_putr hG hM ck_Ki 12 (Nat.le_of_ble_eq_true rfl) (Or.inr ⟨_, rfl⟩) rfl w_337 rfl d_Ki_makeRoom_82 (Or.inl rfl) c54 ?_
    refine x_aload_n hM d_Ki_makeRoom_85 rfl 1 rfl ?_
    refine x_iload_n hM d_Ki_makeRoom_86 rfl 0 rfl ?_
    obtain ⟨c51, F⟩ := F
    obtain ⟨c52, F⟩ := F
    obtain ⟨c53, F⟩ := F
    replace F := F _ rfl
    refine x_newI hG hM (N := (Int32.toNatClampNeg x3)) w_63 d_Ki_makeRoom_87 c51 rfl c52 c53 ?_
    obtain ⟨c50, F⟩ := F
    replace F := F _ rfl
    refine x_putr hG hM ck_Ki 13 (Nat.le_of_ble_eq_true rfl) (Or.inr ⟨_, rfl⟩) rfl w_338 rfl d_Ki_makeRoom_89 (Or.inl rfl) c50 ?_
    refine x_aload_n hM d_Ki_makeRoom_92 rfl 1 rfl ?_
    refine x_iload_n hM d_Ki_makeRoom_93 rfl 0 rfl ?_
    obtain ⟨c47, F⟩ := F
    obtain ⟨c48, F⟩ := F
    obtain ⟨c49, F⟩ := F
    replace F := F _ rfl
    refine x_newI hG hM (N := (Int32.toNatClampNeg x3)) w_63 d_Ki_makeRoom_94 c47 rfl c48 c49 ?_
    obtain ⟨c46, F⟩ := F
    replace F := F _ rfl
    refine x_putr hG hM ck_Ki 14 (Nat.le_of_ble_eq_true rfl) (Or.inr ⟨_, rfl⟩) rfl w_339 rfl d_Ki_makeRoom_96 (Or.inl rfl) c46 ?_
    refine x_aload_n hM d_Ki_makeRoom_99 rfl 1 rfl ?_
    refine x_iload_n hM d_Ki_makeRoom_100 rfl 0 rfl ?_
    obtain ⟨c43, F⟩ := F
    obtain ⟨c44, F⟩ := F
    obtain ⟨c45, F⟩ := F
    replace F := F _ rfl
    refine x_newI hG hM (N := (Int32.toNatClampNeg x3)) w_63 d_Ki_makeRoom_101 c43 rfl c44 c45 ?_
    obtain ⟨c42, F⟩ := F
    replace F := F _ rfl
    refine x_putr hG hM ck_Ki 15 (Nat.le_of_ble_eq_true rfl) (Or.inr ⟨_, rfl⟩) rfl w_340 rfl d_Ki_makeRoom_103 (Or.inl rfl) c42 ?_
    refine x_aload_n hM d_Ki_makeRoom_106 rfl 1 rfl ?_
    refine x_iconst (v := 2) hM d_Ki_makeRoom_107 (by decide) ?_
    refine x_iload_n hM d_Ki_makeRoom_108 rfl 0 rfl ?_
    refine x_imul hM d_Ki_makeRoom_109 ?_
    obtain ⟨c39, F⟩ := F
    obtain ⟨c40, F⟩ := F
    obtain ⟨c41, F⟩ := F
    replace F := F _ rfl
    refine x_newI hG hM (N := (Int32.toNatClampNeg (2 * x3))) w_63 d_Ki_makeRoom_110 c39 rfl c40 c41 ?_
    obtain ⟨c38, F⟩ := F
    replace F := F _ rfl
    refine x_putr hG hM ck_Ki 16 (Nat.le_of_ble_eq_true rfl) (Or.inr ⟨_, rfl⟩) rfl w_341 rfl d_Ki_makeRoom_112 (Or.inl rfl) c38 ?_
    refine x_aload_n hM d_Ki_makeRoom_115 rfl 1 rfl ?_
    refine x_iconst (v := 2) hM d_Ki_makeRoom_116 (by decide) ?_
    refine x_iload_n hM d_Ki_makeRoom_117 rfl 0 rfl ?_
    refine x_imul hM d_Ki_makeRoom_118 ?_
    obtain ⟨c35, F⟩ := F
    obtain ⟨c36, F⟩ := F
    obtain ⟨c37, F⟩ := F
    replace F := F _ rfl
    refine x_newL hG hM (N := (Int32.toNatClampNeg (2 * x3))) w_276 d_Ki_makeRoom_119 c35 rfl c36 c37 ?_
    obtain ⟨c34, F⟩ := F
    replace F := F _ rfl
    refine x_putr hG hM ck_Ki 17 (Nat.le_of_ble_eq_true rfl) (Or.inr ⟨_, rfl⟩) rfl w_342 rfl d_Ki_makeRoom_121 (Or.inl rfl) c34 ?_
    exact x_return hM d_Ki_makeRoom_124 rfl F
  · replace F := F.2 q94
    exact x_return hM d_Ki_makeRoom_9 rfl F
set_option maxRecDepth 100000 in
set_option maxHeartbeats 4000000 in
theorem S_Ki_placeThose_0 {G : Gc} {M : Mc} {Q : State → Prop} {K : Option Value → Hp → Prop} (hG : gok G) (hM : mok G M r_Ki_placeThose Q K) (v0 : Nat) (v1 : Nat) (v2 : Nat) (v3 : Int32) (v4 : Int32) (h : Hp) (F : X G M Q 7 [(0, .ref v0), (1, .ref v1), (2, .ref v2), (3, .int v3), (4, .int v4), (5, .int v4), (6, .int 0)] [] h) : X G M Q 0 [(0, .ref v0), (1, .ref v1), (2, .ref v2), (3, .int v3), (4, .int v4)] [] h := by
  refine x_iload hM d_Ki_placeThose_0 4 rfl ?_
  refine x_istore (lv2 := [(5, .int v4), (0, .ref v0), (1, .ref v1), (2, .ref v2), (3, .int v3), (4, .int v4)]) hM d_Ki_placeThose_2 (Nat.le_of_ble_eq_true rfl) rfl ?_
  refine x_iconst (v := 0) hM d_Ki_placeThose_4 (by decide) ?_
  refine x_istore (lv2 := [(6, .int 0), (5, .int v4), (0, .ref v0), (1, .ref v1), (2, .ref v2), (3, .int v3), (4, .int v4)]) hM d_Ki_placeThose_5 (Nat.le_of_ble_eq_true rfl) rfl ?_
  refine x_sub [2, 3, 4, 5, 6, 1, 0] rfl ?_
  exact F
set_option maxRecDepth 100000 in
set_option maxHeartbeats 4000000 in
theorem S_Ki_placeThose_7 {G : Gc} {M : Mc} {Q : State → Prop} {K : Option Value → Hp → Prop} (hG : gok G) (hM : mok G M r_Ki_placeThose Q K) (v0 : Nat) (v1 : Nat) (v2 : Nat) (v3 : Int32) (v4 : Int32) (v5 : Int32) (v6 : Int32) (h : Hp) (F : kT h v1 = 2 ∧ (((kI h v1 1) ≤ v6 → ((v5 ≤ v4 → K (some (.int v5)) h) ∧ (¬ v5 ≤ v4 → (kT h v0 = 10 ∧ kR h v0 8 = some (rf h v0 8) ∧ (kT h v0 = 10 ∧ sem G r_Ki_open [.ref v0, .int v4, .int v5] h (fun u2 h1 => ∃ x3 : Int32, u2 = some (.int x3) ∧ (kT h1 (rf h v0 8) = 50 ∧ vp_in x3 (kN h1 (rf h v0 8)) ∧ (∀ h4 : Hp, h4 = wI h1 (rf h v0 8) (Int32.toNatClampNeg x3) (v5 - v4) → (kT h4 v0 = 10 ∧ kR h4 v0 10 = some (rf h4 v0 10) ∧ (kT h4 v0 = 10 ∧ (kT h4 v0 = 10 ∧ (kT h4 (rf h4 v0 10) = 50 ∧ vp_in (kI h4 v0 11) (kN h4 (rf h4 v0 10)) ∧ (∀ h5 : Hp, h5 = wI h4 (rf h4 v0 10) (Int32.toNatClampNeg (kI h4 v0 11)) ((kI h4 v0 0) - 1) → (kT h5 v0 = 10 ∧ (kT h5 v0 = 10 ∧ (∀ h6 : Hp, h6 = wI h5 v0 11 ((kI h5 v0 11) + 1) → K (some (.int v5)) h6)))))))))))))))) ∧ (¬ (kI h v1 1) ≤ v6 → (kT h v2 = 51 ∧ vp_in v6 (kN h v2) ∧ (((kI h v2 (Int32.toNatClampNeg v6)) = v3 → (kT h v0 = 10 ∧ kR h v0 4 = some (rf h v0 4) ∧ (kT h (rf h v0 4) = 50 ∧ vp_in v5 (kN h (rf h v0 4)) ∧ (∀ h21 : Hp, h21 = wI h (rf h v0 4) (Int32.toNatClampNeg v5) v6 → (kT h21 v0 = 10 ∧ kR h21 v0 5 = some (rf h21 v0 5) ∧ (kT h21 (rf h21 v0 5) = 50 ∧ vp_in v6 (kN h21 (rf h21 v0 5)) ∧ (∀ h22 : Hp, h22 = wI h21 (rf h21 v0 5) (Int32.toNatClampNeg v6) v5 → (kT h22 v0 = 10 ∧ kR h22 v0 9 = some (rf h22 v0 9) ∧ (kT h22 v1 = 2 ∧ (kT h22 (rf h22 v0 9) = 50 ∧ vp_in v6 (kN h22 (rf h22 v0 9)) ∧ (∀ h23 : Hp, h23 = wI h22 (rf h22 v0 9) (Int32.toNatClampNeg v6) ((1 <<< ((kI h22 v1 2) &&& 31)) - 1) → X G M Q 7 [(0, .ref v0), (1, .ref v1), (2, .ref v2), (3, .int v3), (4, .int v4), (5, .int (v5 + 1)), (6, .int (v6 + 1))] [] h23))))))))))) ∧ (¬ (kI h v2 (Int32.toNatClampNeg v6)) = v3 → X G M Q 7 [(0, .ref v0), (1, .ref v1), (2, .ref v2), (3, .int v3), (4, .int v4), (5, .int v5), (6, .int (v6 + 1))] [] h)))))) : X G M Q 7 [(0, .ref v0), (1, .ref v1), (2, .ref v2), (3, .int v3), (4, .int v4), (5, .int v5), (6, .int v6)] [] h := by
  refine x_iload hM d_Ki_placeThose_7 6 rfl ?_
  refine x_aload_n hM d_Ki_placeThose_9 rfl 1 rfl ?_
  obtain ⟨c41, F⟩ := F
  refine x_geti hG hM ck_Wo 1 (Nat.le_of_ble_eq_true rfl) rfl rfl w_126 rfl d_Ki_placeThose_10 c41 ?_
  refine x_icmp_ge (tgt := 66) hM d_Ki_placeThose_13 (by decide) (fun q40 => ?_) (fun q40 => ?_)
  · replace F := F.1 q40
    refine x_iload hM d_Ki_placeThose_66 5 rfl ?_
    refine x_iload hM d_Ki_placeThose_68 4 rfl ?_
    refine x_icmp_le (tgt := 116) hM d_Ki_placeThose_70 (by decide) (fun q20 => ?_) (fun q20 => ?_)
    · replace F := F.1 q20
      refine x_iload hM d_Ki_placeThose_116 5 rfl ?_
      exact x_ireturn hM d_Ki_placeThose_118 rfl F
    · replace F := F.2 q20
      refine x_aload_n hM d_Ki_placeThose_73 rfl 0 rfl ?_
      obtain ⟨c18, F⟩ := F
      obtain ⟨c19, F⟩ := F
      refine x_getr hG hM ck_Ki 8 (Nat.le_of_ble_eq_true rfl) rfl rfl w_333 rfl d_Ki_placeThose_74 c18 c19 ?_
      refine x_aload_n hM d_Ki_placeThose_77 rfl 0 rfl ?_
      refine x_iload hM d_Ki_placeThose_78 4 rfl ?_
      refine x_iload hM d_Ki_placeThose_80 5 rfl ?_
      obtain ⟨c17, F⟩ := F
      refine x_callV hG hM (r' := r_Ki_open) (ci := 9) [.int v4, .int v5] rfl rfl (Nat.le_of_ble_eq_true rfl) yk_Ki_open ⟨Nat.le_of_ble_eq_true rfl, Nat.le_of_ble_eq_true rfl⟩ w_711 w_713 ws_Ki_open rfl rfl (Nat.le_of_ble_eq_true rfl) d_Ki_placeThose_82 c17 (sem_mono F ?_)
      intro u2 h1 F
      obtain ⟨x3, rfl, F⟩ := F
      refine x_iload hM d_Ki_placeThose_85 5 rfl ?_
      refine x_iload hM d_Ki_placeThose_87 4 rfl ?_
      refine x_isub hM d_Ki_placeThose_89 ?_
      obtain ⟨c15, F⟩ := F
      obtain ⟨c16, F⟩ := F
      replace F := F _ rfl
      refine x_iastore hG hM d_Ki_placeThose_90 c15 c16 ?_
      refine x_aload_n hM d_Ki_placeThose_91 rfl 0 rfl ?_
      obtain ⟨c13, F⟩ := F
      obtain ⟨c14, F⟩ := F
      refine x_getr hG hM ck_Ki 10 (Nat.le_of_ble_eq_true rfl) rfl rfl w_335 rfl d_Ki_placeThose_92 c13 c14 ?_
      refine x_aload_n hM d_Ki_placeThose_95 rfl 0 rfl ?_
      obtain ⟨c12, F⟩ := F
      refine x_geti hG hM ck_Ki 11 (Nat.le_of_ble_eq_true rfl) rfl rfl w_336 rfl d_Ki_placeThose_96 c12 ?_
      refine x_aload_n hM d_Ki_placeThose_99 rfl 0 rfl ?_
      obtain ⟨c11, F⟩ := F
      refine x_geti hG hM ck_Ki 0 (Nat.le_of_ble_eq_true rfl) rfl rfl w_321 rfl d_Ki_placeThose_100 c11 ?_
      refine x_iconst (v := 1) hM d_Ki_placeThose_103 (by decide) ?_
      refine x_isub hM d_Ki_placeThose_104 ?_
      obtain ⟨c9, F⟩ := F
      obtain ⟨c10, F⟩ := F
      replace F := F _ rfl
      refine x_iastore hG hM d_Ki_placeThose_105 c9 c10 ?_
      refine x_aload_n hM d_Ki_placeThose_106 rfl 0 rfl ?_
      refine x_dup hM d_Ki_placeThose_107 rfl ?_
      obtain ⟨c8, F⟩ := F
      refine x_geti hG hM ck_Ki 11 (Nat.le_of_ble_eq_true rfl) rfl rfl w_336 rfl d_Ki_placeThose_108 c8 ?_
      refine x_iconst (v := 1) hM d_Ki_placeThose_111 (by decide) ?_
      refine x_iadd hM d_Ki_placeThose_112 ?_
      obtain ⟨c7, F⟩ := F
      replace F := F _ rfl
      refine x_puti hG hM ck_Ki 11 (Nat.le_of_ble_eq_true rfl) rfl rfl w_336 rfl d_Ki_placeThose_113 (Or.inl rfl) c7 ?_
      refine x_iload hM d_Ki_placeThose_116 5 rfl ?_
      exact x_ireturn hM d_Ki_placeThose_118 rfl F
  · replace F := F.2 q40
    refine x_aload_n hM d_Ki_placeThose_16 rfl 2 rfl ?_
    refine x_iload hM d_Ki_placeThose_17 6 rfl ?_
    obtain ⟨c38, F⟩ := F
    obtain ⟨c39, F⟩ := F
    refine x_zaload hG hM d_Ki_placeThose_19 c38 c39 ?_
    refine x_iload_n hM d_Ki_placeThose_20 rfl 3 rfl ?_
    refine x_icmp_ne (tgt := 60) hM d_Ki_placeThose_21 (by decide) (fun q37 => ?_) (fun q37 => ?_)
    · replace F := F.2 q37
      refine x_iinc (v := (v6 + 1)) (lv2 := [(6, .int (v6 + 1)), (0, .ref v0), (1, .ref v1), (2, .ref v2), (3, .int v3), (4, .int v4), (5, .int v5)]) hM d_Ki_placeThose_60 (j := 6) rfl rfl (Nat.le_of_ble_eq_true rfl) rfl ?_
      refine x_goto (tgt := 7) hM d_Ki_placeThose_63 (by decide) ?_
      refine x_sub [1, 2, 3, 4, 5, 6, 0] rfl ?_
      exact F
    · replace F := F.1 q37
      refine x_aload_n hM d_Ki_placeThose_24 rfl 0 rfl ?_
      obtain ⟨c35, F⟩ := F
      obtain ⟨c36, F⟩ := F
      refine x_getr hG hM ck_Ki 4 (Nat.le_of_ble_eq_true rfl) rfl rfl w_329 rfl d_Ki_placeThose_25 c35 c36 ?_
      refine x_iload hM d_Ki_placeThose_28 5 rfl ?_
      refine x_iload hM d_Ki_placeThose_30 6 rfl ?_
      obtain ⟨c33, F⟩ := F
      obtain ⟨c34, F⟩ := F
      replace F := F _ rfl
      refine x_iastore hG hM d_Ki_placeThose_32 c33 c34 ?_
      refine x_aload_n hM d_Ki_placeThose_33 rfl 0 rfl ?_
      obtain ⟨c31, F⟩ := F
      obtain ⟨c32, F⟩ := F
      refine x_getr hG hM ck_Ki 5 (Nat.le_of_ble_eq_true rfl) rfl rfl w_330 rfl d_Ki_placeThose_34 c31 c32 ?_
      refine x_iload hM d_Ki_placeThose_37 6 rfl ?_
      refine x_iload hM d_Ki_placeThose_39 5 rfl ?_
      obtain ⟨c29, F⟩ := F
      obtain ⟨c30, F⟩ := F
      replace F := F _ rfl
      refine x_iastore hG hM d_Ki_placeThose_41 c29 c30 ?_
      refine x_aload_n hM d_Ki_placeThose_42 rfl 0 rfl ?_
      obtain ⟨c27, F⟩ := F
      obtain ⟨c28, F⟩ := F
      refine x_getr hG hM ck_Ki 9 (Nat.le_of_ble_eq_true rfl) rfl rfl w_334 rfl d_Ki_placeThose_43 c27 c28 ?_
      refine x_iload hM d_Ki_placeThose_46 6 rfl ?_
      refine x_iconst (v := 1) hM d_Ki_placeThose_48 (by decide) ?_
      refine x_aload_n hM d_Ki_placeThose_49 rfl 1 rfl ?_
      obtain ⟨c26, F⟩ := F
      refine x_geti hG hM ck_Wo 2 (Nat.le_of_ble_eq_true rfl) rfl rfl w_137 rfl d_Ki_placeThose_50 c26 ?_
      refine x_ishl hM d_Ki_placeThose_53 ?_
      refine x_iconst (v := 1) hM d_Ki_placeThose_54 (by decide) ?_
      refine x_isub hM d_Ki_placeThose_55 ?_
      obtain ⟨c24, F⟩ := F
      obtain ⟨c25, F⟩ := F
      replace F := F _ rfl
      refine x_iastore hG hM d_Ki_placeThose_56 c24 c25 ?_
      refine x_iinc (v := (v5 + 1)) (lv2 := [(5, .int (v5 + 1)), (0, .ref v0), (1, .ref v1), (2, .ref v2), (3, .int v3), (4, .int v4), (6, .int v6)]) hM d_Ki_placeThose_57 (j := 5) rfl rfl (Nat.le_of_ble_eq_true rfl) rfl ?_
      refine x_iinc (v := (v6 + 1)) (lv2 := [(6, .int (v6 + 1)), (5, .int (v5 + 1)), (0, .ref v0), (1, .ref v1), (2, .ref v2), (3, .int v3), (4, .int v4)]) hM d_Ki_placeThose_60 (j := 6) rfl rfl (Nat.le_of_ble_eq_true rfl) rfl ?_
      refine x_goto (tgt := 7) hM d_Ki_placeThose_63 (by decide) ?_
      refine x_sub [2, 3, 4, 5, 6, 1, 0] rfl ?_
      exact F
set_option maxRecDepth 100000 in
set_option maxHeartbeats 4000000 in
theorem S_Ki_open_0 {G : Gc} {M : Mc} {Q : State → Prop} {K : Option Value → Hp → Prop} (hG : gok G) (hM : mok G M r_Ki_open Q K) (v0 : Nat) (v1 : Int32) (v2 : Int32) (h : Hp) (F : kT h v0 = 10 ∧ (kT h v0 = 10 ∧ (kT h v0 = 10 ∧ (∀ h1 : Hp, h1 = wI h v0 0 ((kI h v0 0) + 1) → (kT h1 v0 = 10 ∧ kR h1 v0 6 = some (rf h1 v0 6) ∧ (kT h1 (rf h1 v0 6) = 50 ∧ vp_in (kI h v0 0) (kN h1 (rf h1 v0 6)) ∧ (∀ h2 : Hp, h2 = wI h1 (rf h1 v0 6) (Int32.toNatClampNeg (kI h v0 0)) v1 → (kT h2 v0 = 10 ∧ kR h2 v0 7 = some (rf h2 v0 7) ∧ (kT h2 (rf h2 v0 7) = 50 ∧ vp_in (kI h v0 0) (kN h2 (rf h2 v0 7)) ∧ (∀ h3 : Hp, h3 = wI h2 (rf h2 v0 7) (Int32.toNatClampNeg (kI h v0 0)) v2 → (kT h3 v0 = 10 ∧ kR h3 v0 8 = some (rf h3 v0 8) ∧ (kT h3 (rf h3 v0 8) = 50 ∧ vp_in (kI h v0 0) (kN h3 (rf h3 v0 8)) ∧ (∀ h4 : Hp, h4 = wI h3 (rf h3 v0 8) (Int32.toNatClampNeg (kI h v0 0)) 0 → X G M Q 39 [(0, .ref v0), (2, .int v2), (3, .int (kI h v0 0)), (4, .int v1)] [] h4))))))))))))) : X G M Q 0 [(0, .ref v0), (1, .int v1), (2, .int v2)] [] h := by
  refine x_aload_n hM d_Ki_open_0 rfl 0 rfl ?_
  obtain ⟨c19, F⟩ := F
  refine x_geti hG hM ck_Ki 0 (Nat.le_of_ble_eq_true rfl) rfl rfl w_321 rfl d_Ki_open_1 c19 ?_
  refine x_istore_n (lv2 := [(3, .int (kI h v0 0)), (0, .ref v0), (1, .int v1), (2, .int v2)]) hM d_Ki_open_4 rfl (Nat.le_of_ble_eq_true rfl) rfl ?_
  refine x_aload_n hM d_Ki_open_5 rfl 1 rfl ?_
  refine x_dup hM d_Ki_open_6 rfl ?_
  obtain ⟨c18, F⟩ := F
  refine x_geti hG hM ck_Ki 0 (Nat.le_of_ble_eq_true rfl) rfl rfl w_321 rfl d_Ki_open_7 c18 ?_
  refine x_iconst (v := 1) hM d_Ki_open_10 (by decide) ?_
  refine x_iadd hM d_Ki_open_11 ?_
  obtain ⟨c17, F⟩ := F
  replace F := F _ rfl
  refine x_puti hG hM ck_Ki 0 (Nat.le_of_ble_eq_true rfl) rfl rfl w_321 rfl d_Ki_open_12 (Or.inl rfl) c17 ?_
  refine x_aload_n hM d_Ki_open_15 rfl 1 rfl ?_
  obtain ⟨c15, F⟩ := F
  obtain ⟨c16, F⟩ := F
  refine x_getr hG hM ck_Ki 6 (Nat.le_of_ble_eq_true rfl) rfl rfl w_331 rfl d_Ki_open_16 c15 c16 ?_
  refine x_iload_n hM d_Ki_open_19 rfl 0 rfl ?_
  refine x_iload_n hM d_Ki_open_20 rfl 2 rfl ?_
  obtain ⟨c13, F⟩ := F
  obtain ⟨c14, F⟩ := F
  replace F := F _ rfl
  refine x_iastore hG hM d_Ki_open_21 c13 c14 ?_
  refine x_aload_n hM d_Ki_open_22 rfl 1 rfl ?_
  obtain ⟨c11, F⟩ := F
  obtain ⟨c12, F⟩ := F
  refine x_getr hG hM ck_Ki 7 (Nat.le_of_ble_eq_true rfl) rfl rfl w_332 rfl d_Ki_open_23 c11 c12 ?_
  refine x_iload_n hM d_Ki_open_26 rfl 0 rfl ?_
  refine x_iload_n hM d_Ki_open_27 rfl 3 rfl ?_
  obtain ⟨c9, F⟩ := F
  obtain ⟨c10, F⟩ := F
  replace F := F _ rfl
  refine x_iastore hG hM d_Ki_open_28 c9 c10 ?_
  refine x_aload_n hM d_Ki_open_29 rfl 1 rfl ?_
  obtain ⟨c7, F⟩ := F
  obtain ⟨c8, F⟩ := F
  refine x_getr hG hM ck_Ki 8 (Nat.le_of_ble_eq_true rfl) rfl rfl w_333 rfl d_Ki_open_30 c7 c8 ?_
  refine x_iload_n hM d_Ki_open_33 rfl 0 rfl ?_
  refine x_iconst (v := 0) hM d_Ki_open_34 (by decide) ?_
  obtain ⟨c5, F⟩ := F
  obtain ⟨c6, F⟩ := F
  replace F := F _ rfl
  refine x_iastore hG hM d_Ki_open_35 c5 c6 ?_
  refine x_iload_n hM d_Ki_open_36 rfl 2 rfl ?_
  refine x_istore (lv2 := [(4, .int v1), (3, .int (kI h v0 0)), (0, .ref v0), (1, .int v1), (2, .int v2)]) hM d_Ki_open_37 (Nat.le_of_ble_eq_true rfl) rfl ?_
  refine x_sub [2, 4, 1, 0] rfl ?_
  exact F
set_option maxRecDepth 100000 in
set_option maxHeartbeats 4000000 in
theorem S_Ki_open_39 {G : Gc} {M : Mc} {Q : State → Prop} {K : Option Value → Hp → Prop} (hG : gok G) (hM : mok G M r_Ki_open Q K) (v0 : Nat) (v2 : Int32) (v3 : Int32) (v4 : Int32) (h : Hp) (F : (v2 ≤ v4 → K (some (.int v3)) h) ∧ (¬ v2 ≤ v4 → (kT h v0 = 10 ∧ kR h v0 2 = some (rf h v0 2) ∧ (kT h v0 = 10 ∧ kR h v0 4 = some (rf h v0 4) ∧ (kT h (rf h v0 4) = 50 ∧ vp_in v4 (kN h (rf h v0 4)) ∧ (kT h (rf h v0 2) = 50 ∧ vp_in (kI h (rf h v0 4) (Int32.toNatClampNeg v4)) (kN h (rf h v0 2)) ∧ (∀ h1 : Hp, h1 = wI h (rf h v0 2) (Int32.toNatClampNeg (kI h (rf h v0 4) (Int32.toNatClampNeg v4))) v3 → X G M Q 39 [(0, .ref v0), (2, .int v2), (3, .int v3), (4, .int (v4 + 1))] [] h1))))))) : X G M Q 39 [(0, .ref v0), (2, .int v2), (3, .int v3), (4, .int v4)] [] h := by
  refine x_iload hM d_Ki_open_39 3 rfl ?_
  refine x_iload_n hM d_Ki_open_41 rfl 1 rfl ?_
  refine x_icmp_ge (tgt := 64) hM d_Ki_open_42 (by decide) (fun q10 => ?_) (fun q10 => ?_)
  · replace F := F.1 q10
    refine x_iload_n hM d_Ki_open_64 rfl 2 rfl ?_
    exact x_ireturn hM d_Ki_open_65 rfl F
  · replace F := F.2 q10
    refine x_aload_n hM d_Ki_open_45 rfl 0 rfl ?_
    obtain ⟨c8, F⟩ := F
    obtain ⟨c9, F⟩ := F
    refine x_getr hG hM ck_Ki 2 (Nat.le_of_ble_eq_true rfl) rfl rfl w_325 rfl d_Ki_open_46 c8 c9 ?_
    refine x_aload_n hM d_Ki_open_49 rfl 0 rfl ?_
    obtain ⟨c6, F⟩ := F
    obtain ⟨c7, F⟩ := F
    refine x_getr hG hM ck_Ki 4 (Nat.le_of_ble_eq_true rfl) rfl rfl w_329 rfl d_Ki_open_50 c6 c7 ?_
    refine x_iload hM d_Ki_open_53 3 rfl ?_
    obtain ⟨c4, F⟩ := F
    obtain ⟨c5, F⟩ := F
    refine x_iaload hG hM d_Ki_open_55 c4 c5 ?_
    refine x_iload_n hM d_Ki_open_56 rfl 2 rfl ?_
    obtain ⟨c2, F⟩ := F
    obtain ⟨c3, F⟩ := F
    replace F := F _ rfl
    refine x_iastore hG hM d_Ki_open_57 c2 c3 ?_
    refine x_iinc (v := (v4 + 1)) (lv2 := [(4, .int (v4 + 1)), (0, .ref v0), (2, .int v2), (3, .int v3)]) hM d_Ki_open_58 (j := 3) rfl rfl (Nat.le_of_ble_eq_true rfl) rfl ?_
    refine x_goto (tgt := 39) hM d_Ki_open_61 (by decide) ?_
    refine x_sub [1, 2, 3, 0] rfl ?_
    exact F
set_option maxRecDepth 100000 in
set_option maxHeartbeats 4000000 in
theorem S_Ki_settle_0 {G : Gc} {M : Mc} {Q : State → Prop} {K : Option Value → Hp → Prop} (hG : gok G) (hM : mok G M r_Ki_settle Q K) (v0 : Nat) (v1 : Nat) (v2 : Int32) (h : Hp) (F : kT h v0 = 10 ∧ kR h v0 6 = some (rf h v0 6) ∧ (kT h (rf h v0 6) = 50 ∧ vp_in v2 (kN h (rf h v0 6)) ∧ (kT h v0 = 10 ∧ kR h v0 8 = some (rf h v0 8) ∧ (kT h (rf h v0 8) = 50 ∧ vp_in v2 (kN h (rf h v0 8)) ∧ (kT h v0 = 10 ∧ kR h v0 7 = some (rf h v0 7) ∧ (kT h (rf h v0 7) = 50 ∧ vp_in v2 (kN h (rf h v0 7)) ∧ (kT h v0 = 10 ∧ kR h v0 6 = some (rf h v0 6) ∧ (kT h (rf h v0 6) = 50 ∧ vp_in v2 (kN h (rf h v0 6)) ∧ X G M Q 39 [(0, .ref v0), (1, .ref v1), (2, .int v2), (3, .int ((kI h (rf h v0 6) (Int32.toNatClampNeg v2)) + (kI h (rf h v0 8) (Int32.toNatClampNeg v2)))), (4, .int (if (kI h (rf h v0 7) (Int32.toNatClampNeg v2)) < (((kI h (rf h v0 6) (Int32.toNatClampNeg v2)) + (kI h (rf h v0 8) (Int32.toNatClampNeg v2))) + 1) then (kI h (rf h v0 7) (Int32.toNatClampNeg v2)) else (((kI h (rf h v0 6) (Int32.toNatClampNeg v2)) + (kI h (rf h v0 8) (Int32.toNatClampNeg v2))) + 1))), (5, .int 0), (6, .int (kI h (rf h v0 6) (Int32.toNatClampNeg v2)))] [] h)))))))) : X G M Q 0 [(0, .ref v0), (1, .ref v1), (2, .int v2)] [] h := by
  refine x_aload_n hM d_Ki_settle_0 rfl 0 rfl ?_
  obtain ⟨c15, F⟩ := F
  obtain ⟨c16, F⟩ := F
  refine x_getr hG hM ck_Ki 6 (Nat.le_of_ble_eq_true rfl) rfl rfl w_331 rfl d_Ki_settle_1 c15 c16 ?_
  refine x_iload_n hM d_Ki_settle_4 rfl 2 rfl ?_
  obtain ⟨c13, F⟩ := F
  obtain ⟨c14, F⟩ := F
  refine x_iaload hG hM d_Ki_settle_5 c13 c14 ?_
  refine x_aload_n hM d_Ki_settle_6 rfl 0 rfl ?_
  obtain ⟨c11, F⟩ := F
  obtain ⟨c12, F⟩ := F
  refine x_getr hG hM ck_Ki 8 (Nat.le_of_ble_eq_true rfl) rfl rfl w_333 rfl d_Ki_settle_7 c11 c12 ?_
  refine x_iload_n hM d_Ki_settle_10 rfl 2 rfl ?_
  obtain ⟨c9, F⟩ := F
  obtain ⟨c10, F⟩ := F
  refine x_iaload hG hM d_Ki_settle_11 c9 c10 ?_
  refine x_iadd hM d_Ki_settle_12 ?_
  refine x_istore_n (lv2 := [(3, .int ((kI h (rf h v0 6) (Int32.toNatClampNeg v2)) + (kI h (rf h v0 8) (Int32.toNatClampNeg v2)))), (0, .ref v0), (1, .ref v1), (2, .int v2)]) hM d_Ki_settle_13 rfl (Nat.le_of_ble_eq_true rfl) rfl ?_
  refine x_iload_n hM d_Ki_settle_14 rfl 0 rfl ?_
  refine x_iconst (v := 1) hM d_Ki_settle_15 (by decide) ?_
  refine x_iadd hM d_Ki_settle_16 ?_
  refine x_aload_n hM d_Ki_settle_17 rfl 1 rfl ?_
  obtain ⟨c7, F⟩ := F
  obtain ⟨c8, F⟩ := F
  refine x_getr hG hM ck_Ki 7 (Nat.le_of_ble_eq_true rfl) rfl rfl w_332 rfl d_Ki_settle_18 c7 c8 ?_
  refine x_iload_n hM d_Ki_settle_21 rfl 3 rfl ?_
  obtain ⟨c5, F⟩ := F
  obtain ⟨c6, F⟩ := F
  refine x_iaload hG hM d_Ki_settle_22 c5 c6 ?_
  refine x_mmin hG hM rfl w_720 w_721 w_14 w_mmin (Nat.le_of_ble_eq_true rfl) (Nat.le_of_ble_eq_true rfl) d_Ki_settle_23 ?_
  refine x_istore (lv2 := [(4, .int (if (kI h (rf h v0 7) (Int32.toNatClampNeg v2)) < (((kI h (rf h v0 6) (Int32.toNatClampNeg v2)) + (kI h (rf h v0 8) (Int32.toNatClampNeg v2))) + 1) then (kI h (rf h v0 7) (Int32.toNatClampNeg v2)) else (((kI h (rf h v0 6) (Int32.toNatClampNeg v2)) + (kI h (rf h v0 8) (Int32.toNatClampNeg v2))) + 1))), (3, .int ((kI h (rf h v0 6) (Int32.toNatClampNeg v2)) + (kI h (rf h v0 8) (Int32.toNatClampNeg v2)))), (0, .ref v0), (1, .ref v1), (2, .int v2)]) hM d_Ki_settle_26 (Nat.le_of_ble_eq_true rfl) rfl ?_
  refine x_iconst (v := 0) hM d_Ki_settle_28 (by decide) ?_
  refine x_istore (lv2 := [(5, .int 0), (4, .int (if (kI h (rf h v0 7) (Int32.toNatClampNeg v2)) < (((kI h (rf h v0 6) (Int32.toNatClampNeg v2)) + (kI h (rf h v0 8) (Int32.toNatClampNeg v2))) + 1) then (kI h (rf h v0 7) (Int32.toNatClampNeg v2)) else (((kI h (rf h v0 6) (Int32.toNatClampNeg v2)) + (kI h (rf h v0 8) (Int32.toNatClampNeg v2))) + 1))), (3, .int ((kI h (rf h v0 6) (Int32.toNatClampNeg v2)) + (kI h (rf h v0 8) (Int32.toNatClampNeg v2)))), (0, .ref v0), (1, .ref v1), (2, .int v2)]) hM d_Ki_settle_29 (Nat.le_of_ble_eq_true rfl) rfl ?_
  refine x_aload_n hM d_Ki_settle_31 rfl 3 rfl ?_
  obtain ⟨c3, F⟩ := F
  obtain ⟨c4, F⟩ := F
  refine x_getr hG hM ck_Ki 6 (Nat.le_of_ble_eq_true rfl) rfl rfl w_331 rfl d_Ki_settle_32 c3 c4 ?_
  refine x_iload_n hM d_Ki_settle_35 rfl 5 rfl ?_
  obtain ⟨c1, F⟩ := F
  obtain ⟨c2, F⟩ := F
  refine x_iaload hG hM d_Ki_settle_36 c1 c2 ?_
  refine x_istore (lv2 := [(6, .int (kI h (rf h v0 6) (Int32.toNatClampNeg v2))), (5, .int 0), (4, .int (if (kI h (rf h v0 7) (Int32.toNatClampNeg v2)) < (((kI h (rf h v0 6) (Int32.toNatClampNeg v2)) + (kI h (rf h v0 8) (Int32.toNatClampNeg v2))) + 1) then (kI h (rf h v0 7) (Int32.toNatClampNeg v2)) else (((kI h (rf h v0 6) (Int32.toNatClampNeg v2)) + (kI h (rf h v0 8) (Int32.toNatClampNeg v2))) + 1))), (3, .int ((kI h (rf h v0 6) (Int32.toNatClampNeg v2)) + (kI h (rf h v0 8) (Int32.toNatClampNeg v2)))), (0, .ref v0), (1, .ref v1), (2, .int v2)]) hM d_Ki_settle_37 (Nat.le_of_ble_eq_true rfl) rfl ?_
  refine x_sub [4, 5, 6, 3, 2, 1, 0] rfl ?_
  exact F
set_option maxRecDepth 100000 in
set_option maxHeartbeats 4000000 in
theorem S_Ki_settle_39 {G : Gc} {M : Mc} {Q : State → Prop} {K : Option Value → Hp → Prop} (hG : gok G) (hM : mok G M r_Ki_settle Q K) (v0 : Nat) (v1 : Nat) (v2 : Int32) (v3 : Int32) (v4 : Int32) (v5 : Int32) (v6 : Int32) (h : Hp) (F : (v4 ≤ v6 → (kT h v0 = 10 ∧ kR h v0 8 = some (rf h v0 8) ∧ (kT h (rf h v0 8) = 50 ∧ vp_in v2 (kN h (rf h v0 8)) ∧ (∀ h1 : Hp, h1 = wI h (rf h v0 8) (Int32.toNatClampNeg v2) 0 → X G M Q 108 [(0, .ref v0), (1, .ref v1), (2, .int v2), (3, .int v3), (4, .int v4), (5, .int v5), (6, .int 1), (7, .int 0)] [] h1)))) ∧ (¬ v4 ≤ v6 → (kT h v0 = 10 ∧ kR h v0 9 = some (rf h v0 9) ∧ (kT h v0 = 10 ∧ kR h v0 4 = some (rf h v0 4) ∧ (kT h (rf h v0 4) = 50 ∧ vp_in v6 (kN h (rf h v0 4)) ∧ (kT h (rf h v0 9) = 50 ∧ vp_in (kI h (rf h v0 4) (Int32.toNatClampNeg v6)) (kN h (rf h v0 9)) ∧ (kT h v0 = 10 ∧ kR h v0 9 = some (rf h v0 9) ∧ (kT h v0 = 10 ∧ kR h v0 4 = some (rf h v0 4) ∧ (kT h (rf h v0 4) = 50 ∧ vp_in v6 (kN h (rf h v0 4)) ∧ (kT h (rf h v0 9) = 50 ∧ vp_in (kI h (rf h v0 4) (Int32.toNatClampNeg v6)) (kN h (rf h v0 9)) ∧ (∀ h6 : Hp, h6 = wI h (rf h v0 9) (Int32.toNatClampNeg (kI h (rf h v0 4) (Int32.toNatClampNeg v6))) 0 → (kT h6 v0 = 10 ∧ kR h6 v0 12 = some (rf h6 v0 12) ∧ (kT h6 v0 = 10 ∧ kR h6 v0 4 = some (rf h6 v0 4) ∧ (kT h6 (rf h6 v0 4) = 50 ∧ vp_in v6 (kN h6 (rf h6 v0 4)) ∧ (kT h6 (rf h6 v0 12) = 50 ∧ vp_in (kI h6 (rf h6 v0 4) (Int32.toNatClampNeg v6)) (kN h6 (rf h6 v0 12)) ∧ (∀ h7 : Hp, h7 = wI h6 (rf h6 v0 12) (Int32.toNatClampNeg (kI h6 (rf h6 v0 4) (Int32.toNatClampNeg v6))) 0 → X G M Q 39 [(0, .ref v0), (1, .ref v1), (2, .int v2), (3, .int v3), (4, .int v4), (5, .int (v5 ||| (kI h (rf h v0 9) (Int32.toNatClampNeg (kI h (rf h v0 4) (Int32.toNatClampNeg v6)))))), (6, .int (v6 + 1))] [] h7)))))))))))))))) : X G M Q 39 [(0, .ref v0), (1, .ref v1), (2, .int v2), (3, .int v3), (4, .int v4), (5, .int v5), (6, .int v6)] [] h := by
  refine x_iload hM d_Ki_settle_39 6 rfl ?_
  refine x_iload hM d_Ki_settle_41 4 rfl ?_
  refine x_icmp_ge (tgt := 95) hM d_Ki_settle_43 (by decide) (fun q32 => ?_) (fun q32 => ?_)
  · replace F := F.1 q32
    refine x_aload_n hM d_Ki_settle_95 rfl 0 rfl ?_
    obtain ⟨c4, F⟩ := F
    obtain ⟨c5, F⟩ := F
    refine x_getr hG hM ck_Ki 8 (Nat.le_of_ble_eq_true rfl) rfl rfl w_333 rfl d_Ki_settle_96 c4 c5 ?_
    refine x_iload_n hM d_Ki_settle_99 rfl 2 rfl ?_
    refine x_iconst (v := 0) hM d_Ki_settle_100 (by decide) ?_
    obtain ⟨c2, F⟩ := F
    obtain ⟨c3, F⟩ := F
    replace F := F _ rfl
    refine x_iastore hG hM d_Ki_settle_101 c2 c3 ?_
    refine x_iconst (v := 1) hM d_Ki_settle_102 (by decide) ?_
    refine x_istore (lv2 := [(6, .int 1), (0, .ref v0), (1, .ref v1), (2, .int v2), (3, .int v3), (4, .int v4), (5, .int v5)]) hM d_Ki_settle_103 (Nat.le_of_ble_eq_true rfl) rfl ?_
    refine x_iconst (v := 0) hM d_Ki_settle_105 (by decide) ?_
    refine x_istore (lv2 := [(7, .int 0), (6, .int 1), (0, .ref v0), (1, .ref v1), (2, .int v2), (3, .int v3), (4, .int v4), (5, .int v5)]) hM d_Ki_settle_106 (Nat.le_of_ble_eq_true rfl) rfl ?_
    refine x_sub [2, 3, 4, 5, 6, 7, 1, 0] rfl ?_
    exact F
  · replace F := F.2 q32
    refine x_iload hM d_Ki_settle_46 5 rfl ?_
    refine x_aload_n hM d_Ki_settle_48 rfl 0 rfl ?_
    obtain ⟨c30, F⟩ := F
    obtain ⟨c31, F⟩ := F
    refine x_getr hG hM ck_Ki 9 (Nat.le_of_ble_eq_true rfl) rfl rfl w_334 rfl d_Ki_settle_49 c30 c31 ?_
    refine x_aload_n hM d_Ki_settle_52 rfl 0 rfl ?_
    obtain ⟨c28, F⟩ := F
    obtain ⟨c29, F⟩ := F
    refine x_getr hG hM ck_Ki 4 (Nat.le_of_ble_eq_true rfl) rfl rfl w_329 rfl d_Ki_settle_53 c28 c29 ?_
    refine x_iload hM d_Ki_settle_56 6 rfl ?_
    obtain ⟨c26, F⟩ := F
    obtain ⟨c27, F⟩ := F
    refine x_iaload hG hM d_Ki_settle_58 c26 c27 ?_
    obtain ⟨c24, F⟩ := F
    obtain ⟨c25, F⟩ := F
    refine x_iaload hG hM d_Ki_settle_59 c24 c25 ?_
    refine x_ior hM d_Ki_settle_60 ?_
    refine x_istore (lv2 := [(5, .int (v5 ||| (kI h (rf h v0 9) (Int32.toNatClampNeg (kI h (rf h v0 4) (Int32.toNatClampNeg v6)))))), (0, .ref v0), (1, .ref v1), (2, .int v2), (3, .int v3), (4, .int v4), (6, .int v6)]) hM d_Ki_settle_61 (Nat.le_of_ble_eq_true rfl) rfl ?_
    refine x_aload_n hM d_Ki_settle_63 rfl 1 rfl ?_
    obtain ⟨c22, F⟩ := F
    obtain ⟨c23, F⟩ := F
    refine x_getr hG hM ck_Ki 9 (Nat.le_of_ble_eq_true rfl) rfl rfl w_334 rfl d_Ki_settle_64 c22 c23 ?_
    refine x_aload_n hM d_Ki_settle_67 rfl 1 rfl ?_
    obtain ⟨c20, F⟩ := F
    obtain ⟨c21, F⟩ := F
    refine x_getr hG hM ck_Ki 4 (Nat.le_of_ble_eq_true rfl) rfl rfl w_329 rfl d_Ki_settle_68 c20 c21 ?_
    refine x_iload hM d_Ki_settle_71 6 rfl ?_
    obtain ⟨c18, F⟩ := F
    obtain ⟨c19, F⟩ := F
    refine x_iaload hG hM d_Ki_settle_73 c18 c19 ?_
    refine x_iconst (v := 0) hM d_Ki_settle_74 (by decide) ?_
    obtain ⟨c16, F⟩ := F
    obtain ⟨c17, F⟩ := F
    replace F := F _ rfl
    refine x_iastore hG hM d_Ki_settle_75 c16 c17 ?_
    refine x_aload_n hM d_Ki_settle_76 rfl 1 rfl ?_
    obtain ⟨c14, F⟩ := F
    obtain ⟨c15, F⟩ := F
    refine x_getr hG hM ck_Ki 12 (Nat.le_of_ble_eq_true rfl) rfl rfl w_337 rfl d_Ki_settle_77 c14 c15 ?_
    refine x_aload_n hM d_Ki_settle_80 rfl 1 rfl ?_
    obtain ⟨c12, F⟩ := F
    obtain ⟨c13, F⟩ := F
    refine x_getr hG hM ck_Ki 4 (Nat.le_of_ble_eq_true rfl) rfl rfl w_329 rfl d_Ki_settle_81 c12 c13 ?_
    refine x_iload hM d_Ki_settle_84 6 rfl ?_
    obtain ⟨c10, F⟩ := F
    obtain ⟨c11, F⟩ := F
    refine x_iaload hG hM d_Ki_settle_86 c10 c11 ?_
    refine x_iconst (v := 0) hM d_Ki_settle_87 (by decide) ?_
    obtain ⟨c8, F⟩ := F
    obtain ⟨c9, F⟩ := F
    replace F := F _ rfl
    refine x_iastore hG hM d_Ki_settle_88 c8 c9 ?_
    refine x_iinc (v := (v6 + 1)) (lv2 := [(6, .int (v6 + 1)), (5, .int (v5 ||| (kI h (rf h v0 9) (Int32.toNatClampNeg (kI h (rf h v0 4) (Int32.toNatClampNeg v6)))))), (0, .ref v0), (1, .ref v1), (2, .int v2), (3, .int v3), (4, .int v4)]) hM d_Ki_settle_89 (j := 6) rfl rfl (Nat.le_of_ble_eq_true rfl) rfl ?_
    refine x_goto (tgt := 39) hM d_Ki_settle_92 (by decide) ?_
    refine x_sub [2, 3, 4, 5, 6, 1, 0] rfl ?_
    exact F
set_option maxRecDepth 100000 in
set_option maxHeartbeats 4000000 in
theorem S_Ki_settle_108 {G : Gc} {M : Mc} {Q : State → Prop} {K : Option Value → Hp → Prop} (hG : gok G) (hM : mok G M r_Ki_settle Q K) (v0 : Nat) (v1 : Nat) (v2 : Int32) (v3 : Int32) (v4 : Int32) (v5 : Int32) (v6 : Int32) (v7 : Int32) (h : Hp) (F : kT h v1 = 2 ∧ (((kI h v1 2) ≤ v7 → ((v6 ≤ 1 → K none h) ∧ (¬ v6 ≤ 1 → (kT h v0 = 10 ∧ kR h v0 6 = some (rf h v0 6) ∧ (kT h (rf h v0 6) = 50 ∧ vp_in v2 (kN h (rf h v0 6)) ∧ (kT h v0 = 10 ∧ sem G r_Ki_sortByGroup [.ref v0, .int (kI h (rf h v0 6) (Int32.toNatClampNeg v2)), .int v3, .int v6] h (fun u2 h1 => u2 = none ∧ (kT h1 v0 = 10 ∧ sem G r_Ki_divide [.ref v0, .ref v1, .int v2, .int v3, .int v6] h1 (fun u4 h3 => u4 = none ∧ K none h3))))))))) ∧ (¬ (kI h v1 2) ≤ v7 → ((((v5 >>> (v7 &&& 31)) &&& 1) = 0 → X G M Q 108 [(0, .ref v0), (1, .ref v1), (2, .int v2), (3, .int v3), (4, .int v4), (5, .int v5), (6, .int v6), (7, .int (v7 + 1))] [] h) ∧ (¬ ((v5 >>> (v7 &&& 31)) &&& 1) = 0 → (kT h v1 = 2 ∧ kR h v1 5 = some (rf h v1 5) ∧ (kT h (rf h v1 5) = 53 ∧ vp_in v7 (kN h (rf h v1 5)) ∧ kR h (rf h v1 5) (Int32.toNatClampNeg v7) = some (rf h (rf h v1 5) (Int32.toNatClampNeg v7)) ∧ (kT h v0 = 10 ∧ kR h v0 6 = some (rf h v0 6) ∧ (kT h (rf h v0 6) = 50 ∧ vp_in v2 (kN h (rf h v0 6)) ∧ (kT h v0 = 10 ∧ sem G r_Ki_regroup [.ref v0, .ref (rf h (rf h v1 5) (Int32.toNatClampNeg v7)), .int (kI h (rf h v0 6) (Int32.toNatClampNeg v2)), .int v4] h (fun u13 h12 => ∃ x14 : Int32, u13 = some (.int x14) ∧ X G M Q 108 [(0, .ref v0), (1, .ref v1), (2, .int v2), (3, .int v3), (4, .int v4), (5, .int v5), (6, .int x14), (7, .int (v7 + 1))] [] h12))))))))))) : X G M Q 108 [(0, .ref v0), (1, .ref v1), (2, .int v2), (3, .int v3), (4, .int v4), (5, .int v5), (6, .int v6), (7, .int v7)] [] h := by
  refine x_iload hM d_Ki_settle_108 7 rfl ?_
  refine x_aload_n hM d_Ki_settle_110 rfl 1 rfl ?_
  obtain ⟨c27, F⟩ := F
  refine x_geti hG hM ck_Wo 2 (Nat.le_of_ble_eq_true rfl) rfl rfl w_137 rfl d_Ki_settle_111 c27 ?_
  refine x_icmp_ge (tgt := 154) hM d_Ki_settle_114 (by decide) (fun q26 => ?_) (fun q26 => ?_)
  · replace F := F.1 q26
    refine x_iload hM d_Ki_settle_154 6 rfl ?_
    refine x_iconst (v := 1) hM d_Ki_settle_156 (by decide) ?_
    refine x_icmp_le (tgt := 182) hM d_Ki_settle_157 (by decide) (fun q11 => ?_) (fun q11 => ?_)
    · replace F := F.1 q11
      exact x_return hM d_Ki_settle_182 rfl F
    · replace F := F.2 q11
      refine x_aload_n hM d_Ki_settle_160 rfl 0 rfl ?_
      refine x_aload_n hM d_Ki_settle_161 rfl 0 rfl ?_
      obtain ⟨c9, F⟩ := F
      obtain ⟨c10, F⟩ := F
      refine x_getr hG hM ck_Ki 6 (Nat.le_of_ble_eq_true rfl) rfl rfl w_331 rfl d_Ki_settle_162 c9 c10 ?_
      refine x_iload_n hM d_Ki_settle_165 rfl 2 rfl ?_
      obtain ⟨c7, F⟩ := F
      obtain ⟨c8, F⟩ := F
      refine x_iaload hG hM d_Ki_settle_166 c7 c8 ?_
      refine x_iload_n hM d_Ki_settle_167 rfl 3 rfl ?_
      refine x_iload hM d_Ki_settle_168 6 rfl ?_
      obtain ⟨c6, F⟩ := F
      refine x_callV hG hM (r' := r_Ki_sortByGroup) (ci := 9) [.int (kI h (rf h v0 6) (Int32.toNatClampNeg v2)), .int v3, .int v6] rfl rfl (Nat.le_of_ble_eq_true rfl) yk_Ki_sortByGroup ⟨Nat.le_of_ble_eq_true rfl, Nat.le_of_ble_eq_true rfl⟩ w_741 w_743 ws_Ki_sortByGroup rfl rfl (Nat.le_of_ble_eq_true rfl) d_Ki_settle_170 c6 (sem_mono F ?_)
      intro u2 h1 F
      obtain ⟨rfl, F⟩ := F
      refine x_aload_n hM d_Ki_settle_173 rfl 0 rfl ?_
      refine x_aload_n hM d_Ki_settle_174 rfl 1 rfl ?_
      refine x_iload_n hM d_Ki_settle_175 rfl 2 rfl ?_
      refine x_iload_n hM d_Ki_settle_176 rfl 3 rfl ?_
      refine x_iload hM d_Ki_settle_177 6 rfl ?_
      obtain ⟨c5, F⟩ := F
      refine x_callV hG hM (r' := r_Ki_divide) (ci := 9) [.ref v1, .int v2, .int v3, .int v6] rfl rfl (Nat.le_of_ble_eq_true rfl) yk_Ki_divide ⟨Nat.le_of_ble_eq_true rfl, Nat.le_of_ble_eq_true rfl⟩ w_745 w_747 ws_Ki_divide rfl rfl (Nat.le_of_ble_eq_true rfl) d_Ki_settle_179 c5 (sem_mono F ?_)
      intro u4 h3 F
      obtain ⟨rfl, F⟩ := F
      exact x_return hM d_Ki_settle_182 rfl F
  · replace F := F.2 q26
    refine x_iload hM d_Ki_settle_117 5 rfl ?_
    refine x_iload hM d_Ki_settle_119 7 rfl ?_
    refine x_ishr hM d_Ki_settle_121 ?_
    refine x_iconst (v := 1) hM d_Ki_settle_122 (by decide) ?_
    refine x_iand hM d_Ki_settle_123 ?_
    refine x_if_eq (tgt := 148) hM d_Ki_settle_124 (by decide) (fun q25 => ?_) (fun q25 => ?_)
    · replace F := F.1 q25
      refine x_iinc (v := (v7 + 1)) (lv2 := [(7, .int (v7 + 1)), (0, .ref v0), (1, .ref v1), (2, .int v2), (3, .int v3), (4, .int v4), (5, .int v5), (6, .int v6)]) hM d_Ki_settle_148 (j := 7) rfl rfl (Nat.le_of_ble_eq_true rfl) rfl ?_
      refine x_goto (tgt := 108) hM d_Ki_settle_151 (by decide) ?_
      refine x_sub [1, 2, 3, 4, 5, 6, 7, 0] rfl ?_
      exact F
    · replace F := F.2 q25
      refine x_aload_n hM d_Ki_settle_127 rfl 0 rfl ?_
      refine x_aload_n hM d_Ki_settle_128 rfl 1 rfl ?_
      obtain ⟨c23, F⟩ := F
      obtain ⟨c24, F⟩ := F
      refine x_getr hG hM ck_Wo 5 (Nat.le_of_ble_eq_true rfl) rfl rfl w_147 rfl d_Ki_settle_129 c23 c24 ?_
      refine x_iload hM d_Ki_settle_132 7 rfl ?_
      obtain ⟨c20, F⟩ := F
      obtain ⟨c21, F⟩ := F
      obtain ⟨c22, F⟩ := F
      refine x_aaload hG hM 53 rfl (Nat.le_of_ble_eq_true rfl) d_Ki_settle_134 c20 c21 c22 ?_
      refine x_aload_n hM d_Ki_settle_135 rfl 0 rfl ?_
      obtain ⟨c18, F⟩ := F
      obtain ⟨c19, F⟩ := F
      refine x_getr hG hM ck_Ki 6 (Nat.le_of_ble_eq_true rfl) rfl rfl w_331 rfl d_Ki_settle_136 c18 c19 ?_
      refine x_iload_n hM d_Ki_settle_139 rfl 2 rfl ?_
      obtain ⟨c16, F⟩ := F
      obtain ⟨c17, F⟩ := F
      refine x_iaload hG hM d_Ki_settle_140 c16 c17 ?_
      refine x_iload hM d_Ki_settle_141 4 rfl ?_
      obtain ⟨c15, F⟩ := F
      refine x_callV hG hM (r' := r_Ki_regroup) (ci := 9) [.ref (rf h (rf h v1 5) (Int32.toNatClampNeg v7)), .int (kI h (rf h v0 6) (Int32.toNatClampNeg v2)), .int v4] rfl rfl (Nat.le_of_ble_eq_true rfl) yk_Ki_regroup ⟨Nat.le_of_ble_eq_true rfl, Nat.le_of_ble_eq_true rfl⟩ w_723 w_725 ws_Ki_regroup rfl rfl (Nat.le_of_ble_eq_true rfl) d_Ki_settle_143 c15 (sem_mono F ?_)
      intro u13 h12 F
      obtain ⟨x14, rfl, F⟩ := F
      refine x_istore (lv2 := [(6, .int x14), (0, .ref v0), (1, .ref v1), (2, .int v2), (3, .int v3), (4, .int v4), (5, .int v5), (7, .int v7)]) hM d_Ki_settle_146 (Nat.le_of_ble_eq_true rfl) rfl ?_
      refine x_iinc (v := (v7 + 1)) (lv2 := [(7, .int (v7 + 1)), (6, .int x14), (0, .ref v0), (1, .ref v1), (2, .int v2), (3, .int v3), (4, .int v4), (5, .int v5)]) hM d_Ki_settle_148 (j := 7) rfl rfl (Nat.le_of_ble_eq_true rfl) rfl ?_
      refine x_goto (tgt := 108) hM d_Ki_settle_151 (by decide) ?_
      refine x_sub [2, 3, 4, 5, 6, 7, 1, 0] rfl ?_
      exact F
set_option maxRecDepth 100000 in
set_option maxHeartbeats 4000000 in
theorem S_Ki_regroup_0 {G : Gc} {M : Mc} {Q : State → Prop} {K : Option Value → Hp → Prop} (hG : gok G) (hM : mok G M r_Ki_regroup Q K) (v0 : Nat) (v1 : Nat) (v2 : Int32) (v3 : Int32) (h : Hp) (F : X G M Q 6 [(0, .ref v0), (1, .ref v1), (2, .int v2), (3, .int v3), (4, .int 2), (5, .int 0)] [] h) : X G M Q 0 [(0, .ref v0), (1, .ref v1), (2, .int v2), (3, .int v3)] [] h := by
  refine x_iconst (v := 2) hM d_Ki_regroup_0 (by decide) ?_
  refine x_istore (lv2 := [(4, .int 2), (0, .ref v0), (1, .ref v1), (2, .int v2), (3, .int v3)]) hM d_Ki_regroup_1 (Nat.le_of_ble_eq_true rfl) rfl ?_
  refine x_iconst (v := 0) hM d_Ki_regroup_3 (by decide) ?_
  refine x_istore (lv2 := [(5, .int 0), (4, .int 2), (0, .ref v0), (1, .ref v1), (2, .int v2), (3, .int v3)]) hM d_Ki_regroup_4 (Nat.le_of_ble_eq_true rfl) rfl ?_
  refine x_sub [2, 3, 4, 5, 1, 0] rfl ?_
  exact F
set_option maxRecDepth 100000 in
set_option maxHeartbeats 4000000 in
theorem S_Ki_regroup_6 {G : Gc} {M : Mc} {Q : State → Prop} {K : Option Value → Hp → Prop} (hG : gok G) (hM : mok G M r_Ki_regroup Q K) (v0 : Nat) (v1 : Nat) (v2 : Int32) (v3 : Int32) (v4 : Int32) (v5 : Int32) (h : Hp) (F : (12 ≤ v5 → (kT h v0 = 10 ∧ kR h v0 16 = some (rf h v0 16) ∧ (sem G r_Ar_fill [.ref (rf h v0 16), .int 0, .int v4, .int (-1)] h (fun u2 h1 => u2 = none ∧ X G M Q 54 [(0, .ref v0), (1, .ref v1), (2, .int v2), (4, .int v4), (5, .int 0), (6, .int (v3 - 1))] [] h1)))) ∧ (¬ 12 ≤ v5 → (((2 * (v3 - v2)) ≤ v4 → (kT h v0 = 10 ∧ kR h v0 16 = some (rf h v0 16) ∧ (sem G r_Ar_fill [.ref (rf h v0 16), .int 0, .int v4, .int (-1)] h (fun u6 h5 => u6 = none ∧ X G M Q 54 [(0, .ref v0), (1, .ref v1), (2, .int v2), (4, .int v4), (5, .int 0), (6, .int (v3 - 1))] [] h5)))) ∧ (¬ (2 * (v3 - v2)) ≤ v4 → X G M Q 6 [(0, .ref v0), (1, .ref v1), (2, .int v2), (3, .int v3), (4, .int (v4 * 2)), (5, .int (v5 + 1))] [] h)))) : X G M Q 6 [(0, .ref v0), (1, .ref v1), (2, .int v2), (3, .int v3), (4, .int v4), (5, .int v5)] [] h := by
  refine x_iload hM d_Ki_regroup_6 5 rfl ?_
  refine x_bipush (v := 12) hM d_Ki_regroup_8 (by decide) ?_
  refine x_icmp_ge (tgt := 35) hM d_Ki_regroup_10 (by decide) (fun q10 => ?_) (fun q10 => ?_)
  · replace F := F.1 q10
    refine x_aload_n hM d_Ki_regroup_35 rfl 0 rfl ?_
    obtain ⟨c3, F⟩ := F
    obtain ⟨c4, F⟩ := F
    refine x_getr hG hM ck_Ki 16 (Nat.le_of_ble_eq_true rfl) rfl rfl w_341 rfl d_Ki_regroup_36 c3 c4 ?_
    refine x_iconst (v := 0) hM d_Ki_regroup_39 (by decide) ?_
    refine x_iload hM d_Ki_regroup_40 4 rfl ?_
    refine x_iconst (v := (-1)) hM d_Ki_regroup_42 (by decide) ?_
    refine x_callS hG hM (r' := r_Ar_fill) [.ref (rf h v0 16), .int 0, .int v4, .int (-1)] rfl yk_Ar_fill ⟨Nat.le_of_ble_eq_true rfl, Nat.le_of_ble_eq_true rfl⟩ w_727 w_604 rfl rfl (Nat.le_of_ble_eq_true rfl) d_Ki_regroup_43 (sem_mono F ?_)
    intro u2 h1 F
    obtain ⟨rfl, F⟩ := F
    refine x_iconst (v := 0) hM d_Ki_regroup_46 (by decide) ?_
    refine x_istore (lv2 := [(5, .int 0), (0, .ref v0), (1, .ref v1), (2, .int v2), (3, .int v3), (4, .int v4)]) hM d_Ki_regroup_47 (Nat.le_of_ble_eq_true rfl) rfl ?_
    refine x_iload_n hM d_Ki_regroup_49 rfl 4 rfl ?_
    refine x_iconst (v := 1) hM d_Ki_regroup_50 (by decide) ?_
    refine x_isub hM d_Ki_regroup_51 ?_
    refine x_istore (lv2 := [(6, .int (v3 - 1)), (5, .int 0), (0, .ref v0), (1, .ref v1), (2, .int v2), (3, .int v3), (4, .int v4)]) hM d_Ki_regroup_52 (Nat.le_of_ble_eq_true rfl) rfl ?_
    refine x_sub [2, 3, 4, 6, 1, 0] rfl ?_
    exact F
  · replace F := F.2 q10
    refine x_iload hM d_Ki_regroup_13 4 rfl ?_
    refine x_iconst (v := 2) hM d_Ki_regroup_15 (by decide) ?_
    refine x_iload_n hM d_Ki_regroup_16 rfl 3 rfl ?_
    refine x_iload_n hM d_Ki_regroup_17 rfl 2 rfl ?_
    refine x_isub hM d_Ki_regroup_18 ?_
    refine x_imul hM d_Ki_regroup_19 ?_
    refine x_icmp_ge (tgt := 35) hM d_Ki_regroup_20 (by decide) (fun q9 => ?_) (fun q9 => ?_)
    · replace F := F.1 q9
      refine x_aload_n hM d_Ki_regroup_35 rfl 0 rfl ?_
      obtain ⟨c7, F⟩ := F
      obtain ⟨c8, F⟩ := F
      refine x_getr hG hM ck_Ki 16 (Nat.le_of_ble_eq_true rfl) rfl rfl w_341 rfl d_Ki_regroup_36 c7 c8 ?_
      refine x_iconst (v := 0) hM d_Ki_regroup_39 (by decide) ?_
      refine x_iload hM d_Ki_regroup_40 4 rfl ?_
      refine x_iconst (v := (-1)) hM d_Ki_regroup_42 (by decide) ?_
      refine x_callS hG hM (r' := r_Ar_fill) [.ref (rf h v0 16), .int 0, .int v4, .int (-1)] rfl yk_Ar_fill ⟨Nat.le_of_ble_eq_true rfl, Nat.le_of_ble_eq_true rfl⟩ w_727 w_604 rfl rfl (Nat.le_of_ble_eq_true rfl) d_Ki_regroup_43 (sem_mono F ?_)
      intro u6 h5 F
      obtain ⟨rfl, F⟩ := F
      refine x_iconst (v := 0) hM d_Ki_regroup_46 (by decide) ?_
      refine x_istore (lv2 := [(5, .int 0), (0, .ref v0), (1, .ref v1), (2, .int v2), (3, .int v3), (4, .int v4)]) hM d_Ki_regroup_47 (Nat.le_of_ble_eq_true rfl) rfl ?_
      refine x_iload_n hM d_Ki_regroup_49 rfl 4 rfl ?_
      refine x_iconst (v := 1) hM d_Ki_regroup_50 (by decide) ?_
      refine x_isub hM d_Ki_regroup_51 ?_
      refine x_istore (lv2 := [(6, .int (v3 - 1)), (5, .int 0), (0, .ref v0), (1, .ref v1), (2, .int v2), (3, .int v3), (4, .int v4)]) hM d_Ki_regroup_52 (Nat.le_of_ble_eq_true rfl) rfl ?_
      refine x_sub [2, 3, 4, 6, 1, 0] rfl ?_
      exact F
    · replace F := F.2 q9
      refine x_iload hM d_Ki_regroup_23 4 rfl ?_
      refine x_iconst (v := 2) hM d_Ki_regroup_25 (by decide) ?_
      refine x_imul hM d_Ki_regroup_26 ?_
      refine x_istore (lv2 := [(4, .int (v4 * 2)), (0, .ref v0), (1, .ref v1), (2, .int v2), (3, .int v3), (5, .int v5)]) hM d_Ki_regroup_27 (Nat.le_of_ble_eq_true rfl) rfl ?_
      refine x_iinc (v := (v5 + 1)) (lv2 := [(5, .int (v5 + 1)), (4, .int (v4 * 2)), (0, .ref v0), (1, .ref v1), (2, .int v2), (3, .int v3)]) hM d_Ki_regroup_29 (j := 5) rfl rfl (Nat.le_of_ble_eq_true rfl) rfl ?_
      refine x_goto (tgt := 6) hM d_Ki_regroup_32 (by decide) ?_
      refine x_sub [2, 3, 4, 5, 1, 0] rfl ?_
      exact F
set_option maxRecDepth 100000 in
set_option maxHeartbeats 4000000 in
theorem S_Ki_regroup_54 {G : Gc} {M : Mc} {Q : State → Prop} {K : Option Value → Hp → Prop} (hG : gok G) (hM : mok G M r_Ki_regroup Q K) (v0 : Nat) (v1 : Nat) (v2 : Int32) (v4 : Int32) (v5 : Int32) (v6 : Int32) (h : Hp) (F : (v6 < v2 → K (some (.int v5)) h) ∧ (¬ v6 < v2 → (kT h v0 = 10 ∧ kR h v0 4 = some (rf h v0 4) ∧ (kT h (rf h v0 4) = 50 ∧ vp_in v6 (kN h (rf h v0 4)) ∧ (kT h v0 = 10 ∧ kR h v0 12 = some (rf h v0 12) ∧ (kT h (rf h v0 12) = 50 ∧ vp_in (kI h (rf h v0 4) (Int32.toNatClampNeg v6)) (kN h (rf h v0 12)) ∧ (kT h v0 = 10 ∧ sem G r_Ki_kindsBehind [.ref v0, .ref v1, .int (kI h (rf h v0 4) (Int32.toNatClampNeg v6))] h (fun u2 h1 => ∃ x3 : Int64, u2 = some (.long x3) ∧ (kT h1 v0 = 10 ∧ sem G r_Ki_slotOf [.ref v0, .long (((Int32.toInt64 (kI h (rf h v0 12) (Int32.toNatClampNeg (kI h (rf h v0 4) (Int32.toNatClampNeg v6))))) <<< (Int32.toInt64 37 &&& 63)) ||| x3), .int (v4 - 1)] h1 (fun u5 h4 => ∃ x6 : Int32, u5 = some (.int x6) ∧ (kT h4 v0 = 10 ∧ kR h4 v0 16 = some (rf h4 v0 16) ∧ (kT h4 (rf h4 v0 16) = 50 ∧ vp_in x6 (kN h4 (rf h4 v0 16)) ∧ (((kI h4 (rf h4 v0 16) (Int32.toNatClampNeg x6)) = (-1) → (kT h4 v0 = 10 ∧ kR h4 v0 16 = some (rf h4 v0 16) ∧ (kT h4 (rf h4 v0 16) = 50 ∧ vp_in x6 (kN h4 (rf h4 v0 16)) ∧ (∀ h16 : Hp, h16 = wI h4 (rf h4 v0 16) (Int32.toNatClampNeg x6) v5 → (kT h16 v0 = 10 ∧ kR h16 v0 17 = some (rf h16 v0 17) ∧ (kT h16 (rf h16 v0 17) = 52 ∧ vp_in x6 (kN h16 (rf h16 v0 17)) ∧ (∀ h17 : Hp, h17 = wL h16 (rf h16 v0 17) (Int32.toNatClampNeg x6) (((Int32.toInt64 (kI h (rf h v0 12) (Int32.toNatClampNeg (kI h (rf h v0 4) (Int32.toNatClampNeg v6))))) <<< (Int32.toInt64 37 &&& 63)) ||| x3) → (kT h17 v0 = 10 ∧ kR h17 v0 12 = some (rf h17 v0 12) ∧ (kT h17 v0 = 10 ∧ kR h17 v0 16 = some (rf h17 v0 16) ∧ (kT h17 (rf h17 v0 16) = 50 ∧ vp_in x6 (kN h17 (rf h17 v0 16)) ∧ (kT h17 (rf h17 v0 12) = 50 ∧ vp_in (kI h (rf h v0 4) (Int32.toNatClampNeg v6)) (kN h17 (rf h17 v0 12)) ∧ (∀ h18 : Hp, h18 = wI h17 (rf h17 v0 12) (Int32.toNatClampNeg (kI h (rf h v0 4) (Int32.toNatClampNeg v6))) (kI h17 (rf h17 v0 16) (Int32.toNatClampNeg x6)) → X G M Q 54 [(0, .ref v0), (1, .ref v1), (2, .int v2), (4, .int v4), (5, .int (v5 + 1)), (6, .int (v6 + (-1)))] [] h18)))))))))))) ∧ (¬ (kI h4 (rf h4 v0 16) (Int32.toNatClampNeg x6)) = (-1) → (kT h4 v0 = 10 ∧ kR h4 v0 12 = some (rf h4 v0 12) ∧ (kT h4 v0 = 10 ∧ kR h4 v0 16 = some (rf h4 v0 16) ∧ (kT h4 (rf h4 v0 16) = 50 ∧ vp_in x6 (kN h4 (rf h4 v0 16)) ∧ (kT h4 (rf h4 v0 12) = 50 ∧ vp_in (kI h (rf h v0 4) (Int32.toNatClampNeg v6)) (kN h4 (rf h4 v0 12)) ∧ (∀ h7 : Hp, h7 = wI h4 (rf h4 v0 12) (Int32.toNatClampNeg (kI h (rf h v0 4) (Int32.toNatClampNeg v6))) (kI h4 (rf h4 v0 16) (Int32.toNatClampNeg x6)) → X G M Q 54 [(0, .ref v0), (1, .ref v1), (2, .int v2), (4, .int v4), (5, .int v5), (6, .int (v6 + (-1)))] [] h7))))))))))))))))))) : X G M Q 54 [(0, .ref v0), (1, .ref v1), (2, .int v2), (4, .int v4), (5, .int v5), (6, .int v6)] [] h := by
  refine x_iload hM d_Ki_regroup_54 5 rfl ?_
  refine x_iload_n hM d_Ki_regroup_56 rfl 2 rfl ?_
  refine x_icmp_lt (tgt := 154) hM d_Ki_regroup_57 (by decide) (fun q50 => ?_) (fun q50 => ?_)
  · replace F := F.1 q50
    refine x_iload hM d_Ki_regroup_154 4 rfl ?_
    exact x_ireturn hM d_Ki_regroup_156 rfl F
  · replace F := F.2 q50
    refine x_aload_n hM d_Ki_regroup_60 rfl 0 rfl ?_
    obtain ⟨c48, F⟩ := F
    obtain ⟨c49, F⟩ := F
    refine x_getr hG hM ck_Ki 4 (Nat.le_of_ble_eq_true rfl) rfl rfl w_329 rfl d_Ki_regroup_61 c48 c49 ?_
    refine x_iload hM d_Ki_regroup_64 5 rfl ?_
    obtain ⟨c46, F⟩ := F
    obtain ⟨c47, F⟩ := F
    refine x_iaload hG hM d_Ki_regroup_66 c46 c47 ?_
    refine x_istore (lv2 := [(7, .int (kI h (rf h v0 4) (Int32.toNatClampNeg v6))), (0, .ref v0), (1, .ref v1), (2, .int v2), (4, .int v4), (5, .int v5), (6, .int v6)]) hM d_Ki_regroup_67 (Nat.le_of_ble_eq_true rfl) rfl ?_
    refine x_aload_n hM d_Ki_regroup_69 rfl 1 rfl ?_
    obtain ⟨c44, F⟩ := F
    obtain ⟨c45, F⟩ := F
    refine x_getr hG hM ck_Ki 12 (Nat.le_of_ble_eq_true rfl) rfl rfl w_337 rfl d_Ki_regroup_70 c44 c45 ?_
    refine x_iload hM d_Ki_regroup_73 0 rfl ?_
    obtain ⟨c42, F⟩ := F
    obtain ⟨c43, F⟩ := F
    refine x_iaload hG hM d_Ki_regroup_75 c42 c43 ?_
    refine x_i2l hM d_Ki_regroup_76 ?_
    refine x_bipush (v := 37) hM d_Ki_regroup_77 (by decide) ?_
    refine x_lshl hM d_Ki_regroup_79 ?_
    refine x_aload_n hM d_Ki_regroup_80 rfl 1 rfl ?_
    refine x_aload_n hM d_Ki_regroup_81 rfl 2 rfl ?_
    refine x_iload hM d_Ki_regroup_82 0 rfl ?_
    obtain ⟨c41, F⟩ := F
    refine x_callV hG hM (r' := r_Ki_kindsBehind) (ci := 9) [.ref v1, .int (kI h (rf h v0 4) (Int32.toNatClampNeg v6))] rfl rfl (Nat.le_of_ble_eq_true rfl) yk_Ki_kindsBehind ⟨Nat.le_of_ble_eq_true rfl, Nat.le_of_ble_eq_true rfl⟩ w_728 w_730 ws_Ki_kindsBehind rfl rfl (Nat.le_of_ble_eq_true rfl) d_Ki_regroup_84 c41 (sem_mono F ?_)
    intro u2 h1 F
    obtain ⟨x3, rfl, F⟩ := F
    refine x_lor hM d_Ki_regroup_87 ?_
    refine x_lstore (lv2 := [(8, .long (((Int32.toInt64 (kI h (rf h v0 12) (Int32.toNatClampNeg (kI h (rf h v0 4) (Int32.toNatClampNeg v6))))) <<< (Int32.toInt64 37 &&& 63)) ||| x3)), (7, .int (kI h (rf h v0 4) (Int32.toNatClampNeg v6))), (0, .ref v0), (1, .ref v1), (2, .int v2), (4, .int v4), (5, .int v5), (6, .int v6)]) hM d_Ki_regroup_88 (Nat.le_of_ble_eq_true rfl) rfl ?_
    refine x_aload_n hM d_Ki_regroup_90 rfl 2 rfl ?_
    refine x_lload hM d_Ki_regroup_91 0 rfl ?_
    refine x_iload hM d_Ki_regroup_93 5 rfl ?_
    refine x_iconst (v := 1) hM d_Ki_regroup_95 (by decide) ?_
    refine x_isub hM d_Ki_regroup_96 ?_
    obtain ⟨c40, F⟩ := F
    refine x_callV hG hM (r' := r_Ki_slotOf) (ci := 9) [.long (((Int32.toInt64 (kI h (rf h v0 12) (Int32.toNatClampNeg (kI h (rf h v0 4) (Int32.toNatClampNeg v6))))) <<< (Int32.toInt64 37 &&& 63)) ||| x3), .int (v4 - 1)] rfl rfl (Nat.le_of_ble_eq_true rfl) yk_Ki_slotOf ⟨Nat.le_of_ble_eq_true rfl, Nat.le_of_ble_eq_true rfl⟩ w_736 w_738 ws_Ki_slotOf rfl rfl (Nat.le_of_ble_eq_true rfl) d_Ki_regroup_97 c40 (sem_mono F ?_)
    intro u5 h4 F
    obtain ⟨x6, rfl, F⟩ := F
    refine x_istore (lv2 := [(10, .int x6), (8, .long (((Int32.toInt64 (kI h (rf h v0 12) (Int32.toNatClampNeg (kI h (rf h v0 4) (Int32.toNatClampNeg v6))))) <<< (Int32.toInt64 37 &&& 63)) ||| x3)), (7, .int (kI h (rf h v0 4) (Int32.toNatClampNeg v6))), (0, .ref v0), (1, .ref v1), (2, .int v2), (4, .int v4), (5, .int v5), (6, .int v6)]) hM d_Ki_regroup_100 (Nat.le_of_ble_eq_true rfl) rfl ?_
    refine x_aload_n hM d_Ki_regroup_102 rfl 3 rfl ?_
    obtain ⟨c38, F⟩ := F
    obtain ⟨c39, F⟩ := F
    refine x_getr hG hM ck_Ki 16 (Nat.le_of_ble_eq_true rfl) rfl rfl w_341 rfl d_Ki_regroup_103 c38 c39 ?_
    refine x_iload hM d_Ki_regroup_106 0 rfl ?_
    obtain ⟨c36, F⟩ := F
    obtain ⟨c37, F⟩ := F
    refine x_iaload hG hM d_Ki_regroup_108 c36 c37 ?_
    refine x_iconst (v := (-1)) hM d_Ki_regroup_109 (by decide) ?_
    refine x_icmp_ne (tgt := 134) hM d_Ki_regroup_110 (by decide) (fun q35 => ?_) (fun q35 => ?_)
    · replace F := F.2 q35
      refine x_aload_n hM d_Ki_regroup_134 rfl 3 rfl ?_
      obtain ⟨c14, F⟩ := F
      obtain ⟨c15, F⟩ := F
      refine x_getr hG hM ck_Ki 12 (Nat.le_of_ble_eq_true rfl) rfl rfl w_337 rfl d_Ki_regroup_135 c14 c15 ?_
      refine x_iload hM d_Ki_regroup_138 2 rfl ?_
      refine x_aload_n hM d_Ki_regroup_140 rfl 3 rfl ?_
      obtain ⟨c12, F⟩ := F
      obtain ⟨c13, F⟩ := F
      refine x_getr hG hM ck_Ki 16 (Nat.le_of_ble_eq_true rfl) rfl rfl w_341 rfl d_Ki_regroup_141 c12 c13 ?_
      refine x_iload hM d_Ki_regroup_144 0 rfl ?_
      obtain ⟨c10, F⟩ := F
      obtain ⟨c11, F⟩ := F
      refine x_iaload hG hM d_Ki_regroup_146 c10 c11 ?_
      obtain ⟨c8, F⟩ := F
      obtain ⟨c9, F⟩ := F
      replace F := F _ rfl
      refine x_iastore hG hM d_Ki_regroup_147 c8 c9 ?_
      refine x_iinc (v := (v6 + (-1))) (lv2 := [(6, .int (v6 + (-1))), (10, .int x6), (8, .long (((Int32.toInt64 (kI h (rf h v0 12) (Int32.toNatClampNeg (kI h (rf h v0 4) (Int32.toNatClampNeg v6))))) <<< (Int32.toInt64 37 &&& 63)) ||| x3)), (7, .int (kI h (rf h v0 4) (Int32.toNatClampNeg v6))), (0, .ref v0), (1, .ref v1), (2, .int v2), (4, .int v4), (5, .int v5)]) hM d_Ki_regroup_148 (j := 8) rfl rfl (Nat.le_of_ble_eq_true rfl) rfl ?_
      refine x_goto (tgt := 54) hM d_Ki_regroup_151 (by decide) ?_
      refine x_sub [4, 5, 6, 7, 8, 0] rfl ?_
      exact F
    · replace F := F.1 q35
      refine x_aload_n hM d_Ki_regroup_113 rfl 3 rfl ?_
      obtain ⟨c33, F⟩ := F
      obtain ⟨c34, F⟩ := F
      refine x_getr hG hM ck_Ki 16 (Nat.le_of_ble_eq_true rfl) rfl rfl w_341 rfl d_Ki_regroup_114 c33 c34 ?_
      refine x_iload hM d_Ki_regroup_117 0 rfl ?_
      refine x_iload hM d_Ki_regroup_119 7 rfl ?_
      obtain ⟨c31, F⟩ := F
      obtain ⟨c32, F⟩ := F
      replace F := F _ rfl
      refine x_iastore hG hM d_Ki_regroup_121 c31 c32 ?_
      refine x_aload_n hM d_Ki_regroup_122 rfl 3 rfl ?_
      obtain ⟨c29, F⟩ := F
      obtain ⟨c30, F⟩ := F
      refine x_getr hG hM ck_Ki 17 (Nat.le_of_ble_eq_true rfl) rfl rfl w_342 rfl d_Ki_regroup_123 c29 c30 ?_
      refine x_iload hM d_Ki_regroup_126 0 rfl ?_
      refine x_lload hM d_Ki_regroup_128 1 rfl ?_
      obtain ⟨c27, F⟩ := F
      obtain ⟨c28, F⟩ := F
      replace F := F _ rfl
      refine x_lastore hG hM d_Ki_regroup_130 c27 c28 ?_
      refine x_iinc (v := (v5 + 1)) (lv2 := [(5, .int (v5 + 1)), (10, .int x6), (8, .long (((Int32.toInt64 (kI h (rf h v0 12) (Int32.toNatClampNeg (kI h (rf h v0 4) (Int32.toNatClampNeg v6))))) <<< (Int32.toInt64 37 &&& 63)) ||| x3)), (7, .int (kI h (rf h v0 4) (Int32.toNatClampNeg v6))), (0, .ref v0), (1, .ref v1), (2, .int v2), (4, .int v4), (6, .int v6)]) hM d_Ki_regroup_131 (j := 7) rfl rfl (Nat.le_of_ble_eq_true rfl) rfl ?_
      refine x_aload_n hM d_Ki_regroup_134 rfl 4 rfl ?_
      obtain ⟨c25, F⟩ := F
      obtain ⟨c26, F⟩ := F
      refine x_getr hG hM ck_Ki 12 (Nat.le_of_ble_eq_true rfl) rfl rfl w_337 rfl d_Ki_regroup_135 c25 c26 ?_
      refine x_iload hM d_Ki_regroup_138 3 rfl ?_
      refine x_aload_n hM d_Ki_regroup_140 rfl 4 rfl ?_
      obtain ⟨c23, F⟩ := F
      obtain ⟨c24, F⟩ := F
      refine x_getr hG hM ck_Ki 16 (Nat.le_of_ble_eq_true rfl) rfl rfl w_341 rfl d_Ki_regroup_141 c23 c24 ?_
      refine x_iload hM d_Ki_regroup_144 1 rfl ?_
      obtain ⟨c21, F⟩ := F
      obtain ⟨c22, F⟩ := F
      refine x_iaload hG hM d_Ki_regroup_146 c21 c22 ?_
      obtain ⟨c19, F⟩ := F
      obtain ⟨c20, F⟩ := F
      replace F := F _ rfl
      refine x_iastore hG hM d_Ki_regroup_147 c19 c20 ?_
      refine x_iinc (v := (v6 + (-1))) (lv2 := [(6, .int (v6 + (-1))), (5, .int (v5 + 1)), (10, .int x6), (8, .long (((Int32.toInt64 (kI h (rf h v0 12) (Int32.toNatClampNeg (kI h (rf h v0 4) (Int32.toNatClampNeg v6))))) <<< (Int32.toInt64 37 &&& 63)) ||| x3)), (7, .int (kI h (rf h v0 4) (Int32.toNatClampNeg v6))), (0, .ref v0), (1, .ref v1), (2, .int v2), (4, .int v4)]) hM d_Ki_regroup_148 (j := 8) rfl rfl (Nat.le_of_ble_eq_true rfl) rfl ?_
      refine x_goto (tgt := 54) hM d_Ki_regroup_151 (by decide) ?_
      refine x_sub [5, 6, 7, 8, 1, 0] rfl ?_
      exact F
set_option maxRecDepth 100000 in
set_option maxHeartbeats 4000000 in
theorem S_Ki_kindsBehind_0 {G : Gc} {M : Mc} {Q : State → Prop} {K : Option Value → Hp → Prop} (hG : gok G) (hM : mok G M r_Ki_kindsBehind Q K) (v0 : Nat) (v1 : Nat) (v2 : Int32) (h : Hp) (F : kT h v1 = 3 ∧ sem G r_Ac_canBeDone [.ref v1, .int v2] h (fun u2 h1 => ∃ x3 : Int32, u2 = some (.int x3) ∧ ((x3 = 0 → K (some (.long 0)) h1) ∧ (¬ x3 = 0 → (kT h1 v0 = 10 ∧ kR h1 v0 2 = some (rf h1 v0 2) ∧ (kT h1 v1 = 3 ∧ kR h1 v1 1 = some (rf h1 v1 1) ∧ (kT h1 (rf h1 v1 1) = 54 ∧ vp_in 0 (kN h1 (rf h1 v1 1)) ∧ kR h1 (rf h1 v1 1) (Int32.toNatClampNeg 0) = some (rf h1 (rf h1 v1 1) (Int32.toNatClampNeg 0)) ∧ (kT h1 (rf h1 (rf h1 v1 1) (Int32.toNatClampNeg 0)) = 4 ∧ kR h1 (rf h1 (rf h1 v1 1) (Int32.toNatClampNeg 0)) 1 = some (rf h1 (rf h1 (rf h1 v1 1) (Int32.toNatClampNeg 0)) 1) ∧ (kT h1 (rf h1 (rf h1 (rf h1 v1 1) (Int32.toNatClampNeg 0)) 1) = 50 ∧ vp_in v2 (kN h1 (rf h1 (rf h1 (rf h1 v1 1) (Int32.toNatClampNeg 0)) 1)) ∧ (kT h1 (rf h1 v0 2) = 50 ∧ vp_in (kI h1 (rf h1 (rf h1 (rf h1 v1 1) (Int32.toNatClampNeg 0)) 1) (Int32.toNatClampNeg v2)) (kN h1 (rf h1 v0 2)) ∧ (kT h1 v1 = 3 ∧ ((¬ (kI h1 v1 2) ≤ 1 → (kT h1 v0 = 10 ∧ kR h1 v0 2 = some (rf h1 v0 2) ∧ kT h1 v1 = 3 ∧ kR h1 v1 1 = some (rf h1 v1 1) ∧ kT h1 (rf h1 v1 1) = 54 ∧ vp_in 1 (kN h1 (rf h1 v1 1)) ∧ kR h1 (rf h1 v1 1) (Int32.toNatClampNeg 1) = some (rf h1 (rf h1 v1 1) (Int32.toNatClampNeg 1)) ∧ kT h1 (rf h1 (rf h1 v1 1) (Int32.toNatClampNeg 1)) = 4 ∧ kR h1 (rf h1 (rf h1 v1 1) (Int32.toNatClampNeg 1)) 1 = some (rf h1 (rf h1 (rf h1 v1 1) (Int32.toNatClampNeg 1)) 1) ∧ kT h1 (rf h1 (rf h1 (rf h1 v1 1) (Int32.toNatClampNeg 1)) 1) = 50 ∧ vp_in v2 (kN h1 (rf h1 (rf h1 (rf h1 v1 1) (Int32.toNatClampNeg 1)) 1)) ∧ kT h1 (rf h1 v0 2) = 50 ∧ vp_in (kI h1 (rf h1 (rf h1 (rf h1 v1 1) (Int32.toNatClampNeg 1)) 1) (Int32.toNatClampNeg v2)) (kN h1 (rf h1 v0 2)))) ∧ (∀ z4 : Int32, z4 = (if (kI h1 v1 2) ≤ 1 then (kI h1 (rf h1 v0 2) (Int32.toNatClampNeg (kI h1 (rf h1 (rf h1 (rf h1 v1 1) (Int32.toNatClampNeg 0)) 1) (Int32.toNatClampNeg v2)))) else (kI h1 (rf h1 v0 2) (Int32.toNatClampNeg (kI h1 (rf h1 (rf h1 (rf h1 v1 1) (Int32.toNatClampNeg 1)) 1) (Int32.toNatClampNeg v2))))) → (kT h1 v1 = 3 ∧ ((¬ (kI h1 v1 2) ≤ 2 → (kT h1 v0 = 10 ∧ kR h1 v0 2 = some (rf h1 v0 2) ∧ kT h1 v1 = 3 ∧ kR h1 v1 1 = some (rf h1 v1 1) ∧ kT h1 (rf h1 v1 1) = 54 ∧ vp_in 2 (kN h1 (rf h1 v1 1)) ∧ kR h1 (rf h1 v1 1) (Int32.toNatClampNeg 2) = some (rf h1 (rf h1 v1 1) (Int32.toNatClampNeg 2)) ∧ kT h1 (rf h1 (rf h1 v1 1) (Int32.toNatClampNeg 2)) = 4 ∧ kR h1 (rf h1 (rf h1 v1 1) (Int32.toNatClampNeg 2)) 1 = some (rf h1 (rf h1 (rf h1 v1 1) (Int32.toNatClampNeg 2)) 1) ∧ kT h1 (rf h1 (rf h1 (rf h1 v1 1) (Int32.toNatClampNeg 2)) 1) = 50 ∧ vp_in v2 (kN h1 (rf h1 (rf h1 (rf h1 v1 1) (Int32.toNatClampNeg 2)) 1)) ∧ kT h1 (rf h1 v0 2) = 50 ∧ vp_in (kI h1 (rf h1 (rf h1 (rf h1 v1 1) (Int32.toNatClampNeg 2)) 1) (Int32.toNatClampNeg v2)) (kN h1 (rf h1 v0 2)))) ∧ (∀ z5 : Int32, z5 = (if (kI h1 v1 2) ≤ 2 then (kI h1 (rf h1 v0 2) (Int32.toNatClampNeg (kI h1 (rf h1 (rf h1 (rf h1 v1 1) (Int32.toNatClampNeg 0)) 1) (Int32.toNatClampNeg v2)))) else (kI h1 (rf h1 v0 2) (Int32.toNatClampNeg (kI h1 (rf h1 (rf h1 (rf h1 v1 1) (Int32.toNatClampNeg 2)) 1) (Int32.toNatClampNeg v2))))) → (∀ z6 : Int32, z6 = (if (((((kI h1 (rf h1 v0 2) (Int32.toNatClampNeg (kI h1 (rf h1 (rf h1 (rf h1 v1 1) (Int32.toNatClampNeg 0)) 1) (Int32.toNatClampNeg v2)))) ^^^ z4) ^^^ z5) ^^^ (if (if z5 < z4 then z5 else z4) < (kI h1 (rf h1 v0 2) (Int32.toNatClampNeg (kI h1 (rf h1 (rf h1 (rf h1 v1 1) (Int32.toNatClampNeg 0)) 1) (Int32.toNatClampNeg v2)))) then (if z5 < z4 then z5 else z4) else (kI h1 (rf h1 v0 2) (Int32.toNatClampNeg (kI h1 (rf h1 (rf h1 (rf h1 v1 1) (Int32.toNatClampNeg 0)) 1) (Int32.toNatClampNeg v2)))))) ^^^ (if (kI h1 (rf h1 v0 2) (Int32.toNatClampNeg (kI h1 (rf h1 (rf h1 (rf h1 v1 1) (Int32.toNatClampNeg 0)) 1) (Int32.toNatClampNeg v2)))) < (if z4 < z5 then z5 else z4) then (if z4 < z5 then z5 else z4) else (kI h1 (rf h1 v0 2) (Int32.toNatClampNeg (kI h1 (rf h1 (rf h1 (rf h1 v1 1) (Int32.toNatClampNeg 0)) 1) (Int32.toNatClampNeg v2)))))) = (if (kI h1 (rf h1 v0 2) (Int32.toNatClampNeg (kI h1 (rf h1 (rf h1 (rf h1 v1 1) (Int32.toNatClampNeg 0)) 1) (Int32.toNatClampNeg v2)))) < (if z4 < z5 then z5 else z4) then (if z4 < z5 then z5 else z4) else (kI h1 (rf h1 v0 2) (Int32.toNatClampNeg (kI h1 (rf h1 (rf h1 (rf h1 v1 1) (Int32.toNatClampNeg 0)) 1) (Int32.toNatClampNeg v2))))) then (if (if z5 < z4 then z5 else z4) < (kI h1 (rf h1 v0 2) (Int32.toNatClampNeg (kI h1 (rf h1 (rf h1 (rf h1 v1 1) (Int32.toNatClampNeg 0)) 1) (Int32.toNatClampNeg v2)))) then (if z5 < z4 then z5 else z4) else (kI h1 (rf h1 v0 2) (Int32.toNatClampNeg (kI h1 (rf h1 (rf h1 (rf h1 v1 1) (Int32.toNatClampNeg 0)) 1) (Int32.toNatClampNeg v2))))) else (((((kI h1 (rf h1 v0 2) (Int32.toNatClampNeg (kI h1 (rf h1 (rf h1 (rf h1 v1 1) (Int32.toNatClampNeg 0)) 1) (Int32.toNatClampNeg v2)))) ^^^ z4) ^^^ z5) ^^^ (if (if z5 < z4 then z5 else z4) < (kI h1 (rf h1 v0 2) (Int32.toNatClampNeg (kI h1 (rf h1 (rf h1 (rf h1 v1 1) (Int32.toNatClampNeg 0)) 1) (Int32.toNatClampNeg v2)))) then (if z5 < z4 then z5 else z4) else (kI h1 (rf h1 v0 2) (Int32.toNatClampNeg (kI h1 (rf h1 (rf h1 (rf h1 v1 1) (Int32.toNatClampNeg 0)) 1) (Int32.toNatClampNeg v2)))))) ^^^ (if (kI h1 (rf h1 v0 2) (Int32.toNatClampNeg (kI h1 (rf h1 (rf h1 (rf h1 v1 1) (Int32.toNatClampNeg 0)) 1) (Int32.toNatClampNeg v2)))) < (if z4 < z5 then z5 else z4) then (if z4 < z5 then z5 else z4) else (kI h1 (rf h1 v0 2) (Int32.toNatClampNeg (kI h1 (rf h1 (rf h1 (rf h1 v1 1) (Int32.toNatClampNeg 0)) 1) (Int32.toNatClampNeg v2))))))) → K (some (.long (1 + ((((Int32.toInt64 (if (if z5 < z4 then z5 else z4) < (kI h1 (rf h1 v0 2) (Int32.toNatClampNeg (kI h1 (rf h1 (rf h1 (rf h1 v1 1) (Int32.toNatClampNeg 0)) 1) (Int32.toNatClampNeg v2)))) then (if z5 < z4 then z5 else z4) else (kI h1 (rf h1 v0 2) (Int32.toNatClampNeg (kI h1 (rf h1 (rf h1 (rf h1 v1 1) (Int32.toNatClampNeg 0)) 1) (Int32.toNatClampNeg v2)))))) <<< (Int32.toInt64 24 &&& 63)) ||| ((Int32.toInt64 z6) <<< (Int32.toInt64 12 &&& 63))) ||| (Int32.toInt64 (if (kI h1 (rf h1 v0 2) (Int32.toNatClampNeg (kI h1 (rf h1 (rf h1 (rf h1 v1 1) (Int32.toNatClampNeg 0)) 1) (Int32.toNatClampNeg v2)))) < (if z4 < z5 then z5 else z4) then (if z4 < z5 then z5 else z4) else (kI h1 (rf h1 v0 2) (Int32.toNatClampNeg (kI h1 (rf h1 (rf h1 (rf h1 v1 1) (Int32.toNatClampNeg 0)) 1) (Int32.toNatClampNeg v2)))))))))) h1))))))))))))))))) : X G M Q 0 [(0, .ref v0), (1, .ref v1), (2, .int v2)] [] h := by
  refine x_aload_n hM d_Ki_kindsBehind_0 rfl 1 rfl ?_
  refine x_iload_n hM d_Ki_kindsBehind_1 rfl 2 rfl ?_
  obtain ⟨c52, F⟩ := F
  refine x_callV hG hM (r' := r_Ac_canBeDone) (ci := 2) [.int v2] rfl rfl (Nat.le_of_ble_eq_true rfl) yk_Ac_canBeDone ⟨Nat.le_of_ble_eq_true rfl, Nat.le_of_ble_eq_true rfl⟩ w_732 w_631 w_632 rfl rfl (Nat.le_of_ble_eq_true rfl) d_Ki_kindsBehind_2 c52 (sem_mono F ?_)
  intro u2 h1 F
  obtain ⟨x3, rfl, F⟩ := F
  refine x_if_ne (tgt := 10) hM d_Ki_kindsBehind_5 (by decide) (fun q51 => ?_) (fun q51 => ?_)
  · replace F := F.2 q51
    refine x_aload_n hM d_Ki_kindsBehind_10 rfl 0 rfl ?_
    obtain ⟨c49, F⟩ := F
    obtain ⟨c50, F⟩ := F
    refine x_getr hG hM ck_Ki 2 (Nat.le_of_ble_eq_true rfl) rfl rfl w_325 rfl d_Ki_kindsBehind_11 c49 c50 ?_
    refine x_aload_n hM d_Ki_kindsBehind_14 rfl 1 rfl ?_
    obtain ⟨c47, F⟩ := F
    obtain ⟨c48, F⟩ := F
    refine x_getr hG hM ck_Ac 1 (Nat.le_of_ble_eq_true rfl) rfl rfl w_102 rfl d_Ki_kindsBehind_15 c47 c48 ?_
    refine x_iconst (v := 0) hM d_Ki_kindsBehind_18 (by decide) ?_
    obtain ⟨c44, F⟩ := F
    obtain ⟨c45, F⟩ := F
    obtain ⟨c46, F⟩ := F
    refine x_aaload hG hM 54 rfl (Nat.le_of_ble_eq_true rfl) d_Ki_kindsBehind_19 c44 c45 c46 ?_
    obtain ⟨c42, F⟩ := F
    obtain ⟨c43, F⟩ := F
    refine x_getr hG hM ck_Ou 1 (Nat.le_of_ble_eq_true rfl) rfl rfl w_82 rfl d_Ki_kindsBehind_20 c42 c43 ?_
    refine x_iload_n hM d_Ki_kindsBehind_23 rfl 2 rfl ?_
    obtain ⟨c40, F⟩ := F
    obtain ⟨c41, F⟩ := F
    refine x_iaload hG hM d_Ki_kindsBehind_24 c40 c41 ?_
    obtain ⟨c38, F⟩ := F
    obtain ⟨c39, F⟩ := F
    refine x_iaload hG hM d_Ki_kindsBehind_25 c38 c39 ?_
    refine x_istore_n (lv2 := [(3, .int (kI h1 (rf h1 v0 2) (Int32.toNatClampNeg (kI h1 (rf h1 (rf h1 (rf h1 v1 1) (Int32.toNatClampNeg 0)) 1) (Int32.toNatClampNeg v2))))), (0, .ref v0), (1, .ref v1), (2, .int v2)]) hM d_Ki_kindsBehind_26 rfl (Nat.le_of_ble_eq_true rfl) rfl ?_
    refine x_aload_n hM d_Ki_kindsBehind_27 rfl 2 rfl ?_
    obtain ⟨c37, F⟩ := F
    refine x_geti hG hM ck_Ac 2 (Nat.le_of_ble_eq_true rfl) rfl rfl w_110 rfl d_Ki_kindsBehind_28 c37 ?_
    refine x_iconst (v := 1) hM d_Ki_kindsBehind_31 (by decide) ?_
    obtain ⟨S, F⟩ := F
    have JJ : ∀ (z4 : Int32) (ez4 : z4 = (if (kI h1 v1 2) ≤ 1 then (kI h1 (rf h1 v0 2) (Int32.toNatClampNeg (kI h1 (rf h1 (rf h1 (rf h1 v1 1) (Int32.toNatClampNeg 0)) 1) (Int32.toNatClampNeg v2)))) else (kI h1 (rf h1 v0 2) (Int32.toNatClampNeg (kI h1 (rf h1 (rf h1 (rf h1 v1 1) (Int32.toNatClampNeg 1)) 1) (Int32.toNatClampNeg v2)))))), X G M Q 55 [(0, .ref v0), (1, .ref v1), (2, .int v2), (3, .int (kI h1 (rf h1 v0 2) (Int32.toNatClampNeg (kI h1 (rf h1 (rf h1 (rf h1 v1 1) (Int32.toNatClampNeg 0)) 1) (Int32.toNatClampNeg v2)))))] [.int z4] h1 := by
      intro z4 ez4
      replace F := F _ ez4
      refine x_istore (lv2 := [(4, .int z4), (0, .ref v0), (1, .ref v1), (2, .int v2), (3, .int (kI h1 (rf h1 v0 2) (Int32.toNatClampNeg (kI h1 (rf h1 (rf h1 (rf h1 v1 1) (Int32.toNatClampNeg 0)) 1) (Int32.toNatClampNeg v2)))))]) hM d_Ki_kindsBehind_55 (Nat.le_of_ble_eq_true rfl) rfl ?_
      refine x_aload_n hM d_Ki_kindsBehind_57 rfl 2 rfl ?_
      obtain ⟨c22, F⟩ := F
      refine x_geti hG hM ck_Ac 2 (Nat.le_of_ble_eq_true rfl) rfl rfl w_110 rfl d_Ki_kindsBehind_58 c22 ?_
      refine x_iconst (v := 2) hM d_Ki_kindsBehind_61 (by decide) ?_
      obtain ⟨S, F⟩ := F
      have JJ : ∀ (z5 : Int32) (ez5 : z5 = (if (kI h1 v1 2) ≤ 2 then (kI h1 (rf h1 v0 2) (Int32.toNatClampNeg (kI h1 (rf h1 (rf h1 (rf h1 v1 1) (Int32.toNatClampNeg 0)) 1) (Int32.toNatClampNeg v2)))) else (kI h1 (rf h1 v0 2) (Int32.toNatClampNeg (kI h1 (rf h1 (rf h1 (rf h1 v1 1) (Int32.toNatClampNeg 2)) 1) (Int32.toNatClampNeg v2)))))), X G M Q 85 [(3, .int (kI h1 (rf h1 v0 2) (Int32.toNatClampNeg (kI h1 (rf h1 (rf h1 (rf h1 v1 1) (Int32.toNatClampNeg 0)) 1) (Int32.toNatClampNeg v2))))), (4, .int z4)] [.int z5] h1 := by
        intro z5 ez5
        replace F := F _ ez5
        refine x_istore (lv2 := [(5, .int z5), (3, .int (kI h1 (rf h1 v0 2) (Int32.toNatClampNeg (kI h1 (rf h1 (rf h1 (rf h1 v1 1) (Int32.toNatClampNeg 0)) 1) (Int32.toNatClampNeg v2))))), (4, .int z4)]) hM d_Ki_kindsBehind_85 (Nat.le_of_ble_eq_true rfl) rfl ?_
        refine x_iload_n hM d_Ki_kindsBehind_87 rfl 1 rfl ?_
        refine x_iload hM d_Ki_kindsBehind_88 2 rfl ?_
        refine x_iload hM d_Ki_kindsBehind_90 0 rfl ?_
        refine x_mmin hG hM rfl w_720 w_721 w_14 w_mmin (Nat.le_of_ble_eq_true rfl) (Nat.le_of_ble_eq_true rfl) d_Ki_kindsBehind_92 ?_
        refine x_mmin hG hM rfl w_720 w_721 w_14 w_mmin (Nat.le_of_ble_eq_true rfl) (Nat.le_of_ble_eq_true rfl) d_Ki_kindsBehind_95 ?_
        refine x_istore (lv2 := [(6, .int (if (if z5 < z4 then z5 else z4) < (kI h1 (rf h1 v0 2) (Int32.toNatClampNeg (kI h1 (rf h1 (rf h1 (rf h1 v1 1) (Int32.toNatClampNeg 0)) 1) (Int32.toNatClampNeg v2)))) then (if z5 < z4 then z5 else z4) else (kI h1 (rf h1 v0 2) (Int32.toNatClampNeg (kI h1 (rf h1 (rf h1 (rf h1 v1 1) (Int32.toNatClampNeg 0)) 1) (Int32.toNatClampNeg v2)))))), (5, .int z5), (3, .int (kI h1 (rf h1 v0 2) (Int32.toNatClampNeg (kI h1 (rf h1 (rf h1 (rf h1 v1 1) (Int32.toNatClampNeg 0)) 1) (Int32.toNatClampNeg v2))))), (4, .int z4)]) hM d_Ki_kindsBehind_98 (Nat.le_of_ble_eq_true rfl) rfl ?_
        refine x_iload_n hM d_Ki_kindsBehind_100 rfl 2 rfl ?_
        refine x_iload hM d_Ki_kindsBehind_101 3 rfl ?_
        refine x_iload hM d_Ki_kindsBehind_103 1 rfl ?_
        refine x_mmax hG hM rfl w_733 w_734 w_14 w_mmax (Nat.le_of_ble_eq_true rfl) (Nat.le_of_ble_eq_true rfl) d_Ki_kindsBehind_105 ?_
        refine x_mmax hG hM rfl w_733 w_734 w_14 w_mmax (Nat.le_of_ble_eq_true rfl) (Nat.le_of_ble_eq_true rfl) d_Ki_kindsBehind_108 ?_
        refine x_istore (lv2 := [(7, .int (if (kI h1 (rf h1 v0 2) (Int32.toNatClampNeg (kI h1 (rf h1 (rf h1 (rf h1 v1 1) (Int32.toNatClampNeg 0)) 1) (Int32.toNatClampNeg v2)))) < (if z4 < z5 then z5 else z4) then (if z4 < z5 then z5 else z4) else (kI h1 (rf h1 v0 2) (Int32.toNatClampNeg (kI h1 (rf h1 (rf h1 (rf h1 v1 1) (Int32.toNatClampNeg 0)) 1) (Int32.toNatClampNeg v2)))))), (6, .int (if (if z5 < z4 then z5 else z4) < (kI h1 (rf h1 v0 2) (Int32.toNatClampNeg (kI h1 (rf h1 (rf h1 (rf h1 v1 1) (Int32.toNatClampNeg 0)) 1) (Int32.toNatClampNeg v2)))) then (if z5 < z4 then z5 else z4) else (kI h1 (rf h1 v0 2) (Int32.toNatClampNeg (kI h1 (rf h1 (rf h1 (rf h1 v1 1) (Int32.toNatClampNeg 0)) 1) (Int32.toNatClampNeg v2)))))), (5, .int z5), (3, .int (kI h1 (rf h1 v0 2) (Int32.toNatClampNeg (kI h1 (rf h1 (rf h1 (rf h1 v1 1) (Int32.toNatClampNeg 0)) 1) (Int32.toNatClampNeg v2))))), (4, .int z4)]) hM d_Ki_kindsBehind_111 (Nat.le_of_ble_eq_true rfl) rfl ?_
        refine x_iload_n hM d_Ki_kindsBehind_113 rfl 3 rfl ?_
        refine x_iload hM d_Ki_kindsBehind_114 4 rfl ?_
        refine x_ixor hM d_Ki_kindsBehind_116 ?_
        refine x_iload hM d_Ki_kindsBehind_117 2 rfl ?_
        refine x_ixor hM d_Ki_kindsBehind_119 ?_
        refine x_iload hM d_Ki_kindsBehind_120 1 rfl ?_
        refine x_ixor hM d_Ki_kindsBehind_122 ?_
        refine x_iload hM d_Ki_kindsBehind_123 0 rfl ?_
        refine x_ixor hM d_Ki_kindsBehind_125 ?_
        refine x_istore (lv2 := [(8, .int (((((kI h1 (rf h1 v0 2) (Int32.toNatClampNeg (kI h1 (rf h1 (rf h1 (rf h1 v1 1) (Int32.toNatClampNeg 0)) 1) (Int32.toNatClampNeg v2)))) ^^^ z4) ^^^ z5) ^^^ (if (if z5 < z4 then z5 else z4) < (kI h1 (rf h1 v0 2) (Int32.toNatClampNeg (kI h1 (rf h1 (rf h1 (rf h1 v1 1) (Int32.toNatClampNeg 0)) 1) (Int32.toNatClampNeg v2)))) then (if z5 < z4 then z5 else z4) else (kI h1 (rf h1 v0 2) (Int32.toNatClampNeg (kI h1 (rf h1 (rf h1 (rf h1 v1 1) (Int32.toNatClampNeg 0)) 1) (Int32.toNatClampNeg v2)))))) ^^^ (if (kI h1 (rf h1 v0 2) (Int32.toNatClampNeg (kI h1 (rf h1 (rf h1 (rf h1 v1 1) (Int32.toNatClampNeg 0)) 1) (Int32.toNatClampNeg v2)))) < (if z4 < z5 then z5 else z4) then (if z4 < z5 then z5 else z4) else (kI h1 (rf h1 v0 2) (Int32.toNatClampNeg (kI h1 (rf h1 (rf h1 (rf h1 v1 1) (Int32.toNatClampNeg 0)) 1) (Int32.toNatClampNeg v2))))))), (7, .int (if (kI h1 (rf h1 v0 2) (Int32.toNatClampNeg (kI h1 (rf h1 (rf h1 (rf h1 v1 1) (Int32.toNatClampNeg 0)) 1) (Int32.toNatClampNeg v2)))) < (if z4 < z5 then z5 else z4) then (if z4 < z5 then z5 else z4) else (kI h1 (rf h1 v0 2) (Int32.toNatClampNeg (kI h1 (rf h1 (rf h1 (rf h1 v1 1) (Int32.toNatClampNeg 0)) 1) (Int32.toNatClampNeg v2)))))), (6, .int (if (if z5 < z4 then z5 else z4) < (kI h1 (rf h1 v0 2) (Int32.toNatClampNeg (kI h1 (rf h1 (rf h1 (rf h1 v1 1) (Int32.toNatClampNeg 0)) 1) (Int32.toNatClampNeg v2)))) then (if z5 < z4 then z5 else z4) else (kI h1 (rf h1 v0 2) (Int32.toNatClampNeg (kI h1 (rf h1 (rf h1 (rf h1 v1 1) (Int32.toNatClampNeg 0)) 1) (Int32.toNatClampNeg v2)))))), (5, .int z5), (3, .int (kI h1 (rf h1 v0 2) (Int32.toNatClampNeg (kI h1 (rf h1 (rf h1 (rf h1 v1 1) (Int32.toNatClampNeg 0)) 1) (Int32.toNatClampNeg v2))))), (4, .int z4)]) hM d_Ki_kindsBehind_126 (Nat.le_of_ble_eq_true rfl) rfl ?_
        refine x_iload hM d_Ki_kindsBehind_128 0 rfl ?_
        refine x_iload hM d_Ki_kindsBehind_130 1 rfl ?_
        have JJ : ∀ (z6 : Int32) (ez6 : z6 = (if (((((kI h1 (rf h1 v0 2) (Int32.toNatClampNeg (kI h1 (rf h1 (rf h1 (rf h1 v1 1) (Int32.toNatClampNeg 0)) 1) (Int32.toNatClampNeg v2)))) ^^^ z4) ^^^ z5) ^^^ (if (if z5 < z4 then z5 else z4) < (kI h1 (rf h1 v0 2) (Int32.toNatClampNeg (kI h1 (rf h1 (rf h1 (rf h1 v1 1) (Int32.toNatClampNeg 0)) 1) (Int32.toNatClampNeg v2)))) then (if z5 < z4 then z5 else z4) else (kI h1 (rf h1 v0 2) (Int32.toNatClampNeg (kI h1 (rf h1 (rf h1 (rf h1 v1 1) (Int32.toNatClampNeg 0)) 1) (Int32.toNatClampNeg v2)))))) ^^^ (if (kI h1 (rf h1 v0 2) (Int32.toNatClampNeg (kI h1 (rf h1 (rf h1 (rf h1 v1 1) (Int32.toNatClampNeg 0)) 1) (Int32.toNatClampNeg v2)))) < (if z4 < z5 then z5 else z4) then (if z4 < z5 then z5 else z4) else (kI h1 (rf h1 v0 2) (Int32.toNatClampNeg (kI h1 (rf h1 (rf h1 (rf h1 v1 1) (Int32.toNatClampNeg 0)) 1) (Int32.toNatClampNeg v2)))))) = (if (kI h1 (rf h1 v0 2) (Int32.toNatClampNeg (kI h1 (rf h1 (rf h1 (rf h1 v1 1) (Int32.toNatClampNeg 0)) 1) (Int32.toNatClampNeg v2)))) < (if z4 < z5 then z5 else z4) then (if z4 < z5 then z5 else z4) else (kI h1 (rf h1 v0 2) (Int32.toNatClampNeg (kI h1 (rf h1 (rf h1 (rf h1 v1 1) (Int32.toNatClampNeg 0)) 1) (Int32.toNatClampNeg v2))))) then (if (if z5 < z4 then z5 else z4) < (kI h1 (rf h1 v0 2) (Int32.toNatClampNeg (kI h1 (rf h1 (rf h1 (rf h1 v1 1) (Int32.toNatClampNeg 0)) 1) (Int32.toNatClampNeg v2)))) then (if z5 < z4 then z5 else z4) else (kI h1 (rf h1 v0 2) (Int32.toNatClampNeg (kI h1 (rf h1 (rf h1 (rf h1 v1 1) (Int32.toNatClampNeg 0)) 1) (Int32.toNatClampNeg v2))))) else (((((kI h1 (rf h1 v0 2) (Int32.toNatClampNeg (kI h1 (rf h1 (rf h1 (rf h1 v1 1) (Int32.toNatClampNeg 0)) 1) (Int32.toNatClampNeg v2)))) ^^^ z4) ^^^ z5) ^^^ (if (if z5 < z4 then z5 else z4) < (kI h1 (rf h1 v0 2) (Int32.toNatClampNeg (kI h1 (rf h1 (rf h1 (rf h1 v1 1) (Int32.toNatClampNeg 0)) 1) (Int32.toNatClampNeg v2)))) then (if z5 < z4 then z5 else z4) else (kI h1 (rf h1 v0 2) (Int32.toNatClampNeg (kI h1 (rf h1 (rf h1 (rf h1 v1 1) (Int32.toNatClampNeg 0)) 1) (Int32.toNatClampNeg v2)))))) ^^^ (if (kI h1 (rf h1 v0 2) (Int32.toNatClampNeg (kI h1 (rf h1 (rf h1 (rf h1 v1 1) (Int32.toNatClampNeg 0)) 1) (Int32.toNatClampNeg v2)))) < (if z4 < z5 then z5 else z4) then (if z4 < z5 then z5 else z4) else (kI h1 (rf h1 v0 2) (Int32.toNatClampNeg (kI h1 (rf h1 (rf h1 (rf h1 v1 1) (Int32.toNatClampNeg 0)) 1) (Int32.toNatClampNeg v2)))))))), X G M Q 139 [(6, .int (if (if z5 < z4 then z5 else z4) < (kI h1 (rf h1 v0 2) (Int32.toNatClampNeg (kI h1 (rf h1 (rf h1 (rf h1 v1 1) (Int32.toNatClampNeg 0)) 1) (Int32.toNatClampNeg v2)))) then (if z5 < z4 then z5 else z4) else (kI h1 (rf h1 v0 2) (Int32.toNatClampNeg (kI h1 (rf h1 (rf h1 (rf h1 v1 1) (Int32.toNatClampNeg 0)) 1) (Int32.toNatClampNeg v2)))))), (7, .int (if (kI h1 (rf h1 v0 2) (Int32.toNatClampNeg (kI h1 (rf h1 (rf h1 (rf h1 v1 1) (Int32.toNatClampNeg 0)) 1) (Int32.toNatClampNeg v2)))) < (if z4 < z5 then z5 else z4) then (if z4 < z5 then z5 else z4) else (kI h1 (rf h1 v0 2) (Int32.toNatClampNeg (kI h1 (rf h1 (rf h1 (rf h1 v1 1) (Int32.toNatClampNeg 0)) 1) (Int32.toNatClampNeg v2)))))), (8, .int z6)] [] h1 := by
          intro z6 ez6
          replace F := F _ ez6
          refine x_lconst (v := 1) hM d_Ki_kindsBehind_139 (by decide) ?_
          refine x_iload hM d_Ki_kindsBehind_140 0 rfl ?_
          refine x_i2l hM d_Ki_kindsBehind_142 ?_
          refine x_bipush (v := 24) hM d_Ki_kindsBehind_143 (by decide) ?_
          refine x_lshl hM d_Ki_kindsBehind_145 ?_
          refine x_iload hM d_Ki_kindsBehind_146 2 rfl ?_
          refine x_i2l hM d_Ki_kindsBehind_148 ?_
          refine x_bipush (v := 12) hM d_Ki_kindsBehind_149 (by decide) ?_
          refine x_lshl hM d_Ki_kindsBehind_151 ?_
          refine x_lor hM d_Ki_kindsBehind_152 ?_
          refine x_iload hM d_Ki_kindsBehind_153 1 rfl ?_
          refine x_i2l hM d_Ki_kindsBehind_155 ?_
          refine x_lor hM d_Ki_kindsBehind_156 ?_
          refine x_ladd hM d_Ki_kindsBehind_157 ?_
          exact x_lreturn hM d_Ki_kindsBehind_158 rfl F
        refine x_icmp_ne (tgt := 139) hM d_Ki_kindsBehind_132 (by decide) (fun q7 => ?_) (fun q7 => ?_)
        · refine x_sub [2, 1, 0] rfl ?_
          exact JJ _ (Eq.symm (if_neg q7))
        · refine x_iload hM d_Ki_kindsBehind_135 2 rfl ?_
          refine x_istore (lv2 := [(8, .int (if (if z5 < z4 then z5 else z4) < (kI h1 (rf h1 v0 2) (Int32.toNatClampNeg (kI h1 (rf h1 (rf h1 (rf h1 v1 1) (Int32.toNatClampNeg 0)) 1) (Int32.toNatClampNeg v2)))) then (if z5 < z4 then z5 else z4) else (kI h1 (rf h1 v0 2) (Int32.toNatClampNeg (kI h1 (rf h1 (rf h1 (rf h1 v1 1) (Int32.toNatClampNeg 0)) 1) (Int32.toNatClampNeg v2)))))), (7, .int (if (kI h1 (rf h1 v0 2) (Int32.toNatClampNeg (kI h1 (rf h1 (rf h1 (rf h1 v1 1) (Int32.toNatClampNeg 0)) 1) (Int32.toNatClampNeg v2)))) < (if z4 < z5 then z5 else z4) then (if z4 < z5 then z5 else z4) else (kI h1 (rf h1 v0 2) (Int32.toNatClampNeg (kI h1 (rf h1 (rf h1 (rf h1 v1 1) (Int32.toNatClampNeg 0)) 1) (Int32.toNatClampNeg v2)))))), (6, .int (if (if z5 < z4 then z5 else z4) < (kI h1 (rf h1 v0 2) (Int32.toNatClampNeg (kI h1 (rf h1 (rf h1 (rf h1 v1 1) (Int32.toNatClampNeg 0)) 1) (Int32.toNatClampNeg v2)))) then (if z5 < z4 then z5 else z4) else (kI h1 (rf h1 v0 2) (Int32.toNatClampNeg (kI h1 (rf h1 (rf h1 (rf h1 v1 1) (Int32.toNatClampNeg 0)) 1) (Int32.toNatClampNeg v2)))))), (5, .int z5), (3, .int (kI h1 (rf h1 v0 2) (Int32.toNatClampNeg (kI h1 (rf h1 (rf h1 (rf h1 v1 1) (Int32.toNatClampNeg 0)) 1) (Int32.toNatClampNeg v2))))), (4, .int z4)]) hM d_Ki_kindsBehind_137 (Nat.le_of_ble_eq_true rfl) rfl ?_
          refine x_sub [2, 1, 0] rfl ?_
          exact JJ _ (Eq.symm (if_pos q7))
      refine x_icmp_le (tgt := 84) hM d_Ki_kindsBehind_62 (by decide) (fun q8 => ?_) (fun q8 => ?_)
      · refine x_iload_n hM d_Ki_kindsBehind_84 rfl 4 rfl ?_
        refine x_sub [4, 0] rfl ?_
        exact JJ _ (Eq.symm (if_pos q8))
      · replace S := S q8
        refine x_aload_n hM d_Ki_kindsBehind_65 rfl 1 rfl ?_
        obtain ⟨c9, S⟩ := S
        obtain ⟨c10, S⟩ := S
        refine x_getr hG hM ck_Ki 2 (Nat.le_of_ble_eq_true rfl) rfl rfl w_325 rfl d_Ki_kindsBehind_66 c9 c10 ?_
        refine x_aload_n hM d_Ki_kindsBehind_69 rfl 2 rfl ?_
        obtain ⟨c11, S⟩ := S
        obtain ⟨c12, S⟩ := S
        refine x_getr hG hM ck_Ac 1 (Nat.le_of_ble_eq_true rfl) rfl rfl w_102 rfl d_Ki_kindsBehind_70 c11 c12 ?_
        refine x_iconst (v := 2) hM d_Ki_kindsBehind_73 (by decide) ?_
        obtain ⟨c13, S⟩ := S
        obtain ⟨c14, S⟩ := S
        obtain ⟨c15, S⟩ := S
        refine x_aaload hG hM 54 rfl (Nat.le_of_ble_eq_true rfl) d_Ki_kindsBehind_74 c13 c14 c15 ?_
        obtain ⟨c16, S⟩ := S
        obtain ⟨c17, S⟩ := S
        refine x_getr hG hM ck_Ou 1 (Nat.le_of_ble_eq_true rfl) rfl rfl w_82 rfl d_Ki_kindsBehind_75 c16 c17 ?_
        refine x_iload_n hM d_Ki_kindsBehind_78 rfl 3 rfl ?_
        obtain ⟨c18, S⟩ := S
        obtain ⟨c19, S⟩ := S
        refine x_iaload hG hM d_Ki_kindsBehind_79 c18 c19 ?_
        obtain ⟨c20, S⟩ := S
        have c21 := S
        refine x_iaload hG hM d_Ki_kindsBehind_80 c20 c21 ?_
        refine x_goto (tgt := 85) hM d_Ki_kindsBehind_81 (by decide) ?_
        refine x_sub [4, 0] rfl ?_
        exact JJ _ (Eq.symm (if_neg q8))
    refine x_icmp_le (tgt := 54) hM d_Ki_kindsBehind_32 (by decide) (fun q23 => ?_) (fun q23 => ?_)
    · refine x_iload_n hM d_Ki_kindsBehind_54 rfl 0 rfl ?_
      refine x_sub [1, 2, 3, 0] rfl ?_
      exact JJ _ (Eq.symm (if_pos q23))
    · replace S := S q23
      refine x_aload_n hM d_Ki_kindsBehind_35 rfl 1 rfl ?_
      obtain ⟨c24, S⟩ := S
      obtain ⟨c25, S⟩ := S
      refine x_getr hG hM ck_Ki 2 (Nat.le_of_ble_eq_true rfl) rfl rfl w_325 rfl d_Ki_kindsBehind_36 c24 c25 ?_
      refine x_aload_n hM d_Ki_kindsBehind_39 rfl 2 rfl ?_
      obtain ⟨c26, S⟩ := S
      obtain ⟨c27, S⟩ := S
      refine x_getr hG hM ck_Ac 1 (Nat.le_of_ble_eq_true rfl) rfl rfl w_102 rfl d_Ki_kindsBehind_40 c26 c27 ?_
      refine x_iconst (v := 1) hM d_Ki_kindsBehind_43 (by decide) ?_
      obtain ⟨c28, S⟩ := S
      obtain ⟨c29, S⟩ := S
      obtain ⟨c30, S⟩ := S
      refine x_aaload hG hM 54 rfl (Nat.le_of_ble_eq_true rfl) d_Ki_kindsBehind_44 c28 c29 c30 ?_
      obtain ⟨c31, S⟩ := S
      obtain ⟨c32, S⟩ := S
      refine x_getr hG hM ck_Ou 1 (Nat.le_of_ble_eq_true rfl) rfl rfl w_82 rfl d_Ki_kindsBehind_45 c31 c32 ?_
      refine x_iload_n hM d_Ki_kindsBehind_48 rfl 3 rfl ?_
      obtain ⟨c33, S⟩ := S
      obtain ⟨c34, S⟩ := S
      refine x_iaload hG hM d_Ki_kindsBehind_49 c33 c34 ?_
      obtain ⟨c35, S⟩ := S
      have c36 := S
      refine x_iaload hG hM d_Ki_kindsBehind_50 c35 c36 ?_
      refine x_goto (tgt := 55) hM d_Ki_kindsBehind_51 (by decide) ?_
      refine x_sub [1, 2, 3, 0] rfl ?_
      exact JJ _ (Eq.symm (if_neg q23))
  · replace F := F.1 q51
    refine x_lconst (v := 0) hM d_Ki_kindsBehind_8 (by decide) ?_
    exact x_lreturn hM d_Ki_kindsBehind_9 rfl F
set_option maxRecDepth 100000 in
set_option maxHeartbeats 4000000 in
theorem S_Ki_slotOf_0 {G : Gc} {M : Mc} {Q : State → Prop} {K : Option Value → Hp → Prop} (hG : gok G) (hM : mok G M r_Ki_slotOf Q K) (v0 : Nat) (v1 : Int64) (v3 : Int32) (h : Hp) (F : X G M Q 16 [(0, .ref v0), (1, .long v1), (3, .int v3), (4, .int ((Int64.toInt32 ((Int64.toUInt64 (v1 * (-7046029254386353131)) >>> ((Int32.toInt64 40).toUInt64 &&& Int64.toUInt64 63)).toInt64)) &&& v3)), (5, .int 0)] [] h) : X G M Q 0 [(0, .ref v0), (1, .long v1), (3, .int v3)] [] h := by
  refine x_lload_n hM d_Ki_slotOf_0 rfl 1 rfl ?_
  refine x_ldc2 hG hM rfl w_740 d_Ki_slotOf_1 ?_
  refine x_lmul hM d_Ki_slotOf_4 ?_
  refine x_bipush (v := 40) hM d_Ki_slotOf_5 (by decide) ?_
  refine x_lushr hM d_Ki_slotOf_7 ?_
  refine x_l2i hM d_Ki_slotOf_8 ?_
  refine x_iload_n hM d_Ki_slotOf_9 rfl 2 rfl ?_
  refine x_iand hM d_Ki_slotOf_10 ?_
  refine x_istore (lv2 := [(4, .int ((Int64.toInt32 ((Int64.toUInt64 (v1 * (-7046029254386353131)) >>> ((Int32.toInt64 40).toUInt64 &&& Int64.toUInt64 63)).toInt64)) &&& v3)), (0, .ref v0), (1, .long v1), (3, .int v3)]) hM d_Ki_slotOf_11 (Nat.le_of_ble_eq_true rfl) rfl ?_
  refine x_iconst (v := 0) hM d_Ki_slotOf_13 (by decide) ?_
  refine x_istore (lv2 := [(5, .int 0), (4, .int ((Int64.toInt32 ((Int64.toUInt64 (v1 * (-7046029254386353131)) >>> ((Int32.toInt64 40).toUInt64 &&& Int64.toUInt64 63)).toInt64)) &&& v3)), (0, .ref v0), (1, .long v1), (3, .int v3)]) hM d_Ki_slotOf_14 (Nat.le_of_ble_eq_true rfl) rfl ?_
  refine x_sub [2, 3, 4, 1, 0] rfl ?_
  exact F
set_option maxRecDepth 100000 in
set_option maxHeartbeats 4000000 in
theorem S_Ki_slotOf_16 {G : Gc} {M : Mc} {Q : State → Prop} {K : Option Value → Hp → Prop} (hG : gok G) (hM : mok G M r_Ki_slotOf Q K) (v0 : Nat) (v1 : Int64) (v3 : Int32) (v4 : Int32) (v5 : Int32) (h : Hp) (F : (v3 ≤ v5 → K (some (.int v4)) h) ∧ (¬ v3 ≤ v5 → (kT h v0 = 10 ∧ kR h v0 16 = some (rf h v0 16) ∧ (kT h (rf h v0 16) = 50 ∧ vp_in v4 (kN h (rf h v0 16)) ∧ (((kI h (rf h v0 16) (Int32.toNatClampNeg v4)) = (-1) → K (some (.int v4)) h) ∧ (¬ (kI h (rf h v0 16) (Int32.toNatClampNeg v4)) = (-1) → (kT h v0 = 10 ∧ kR h v0 17 = some (rf h v0 17) ∧ (kT h (rf h v0 17) = 52 ∧ vp_in v4 (kN h (rf h v0 17)) ∧ (((lg_cmp (kL h (rf h v0 17) (Int32.toNatClampNeg v4)) v1) = 0 → K (some (.int v4)) h) ∧ (¬ (lg_cmp (kL h (rf h v0 17) (Int32.toNatClampNeg v4)) v1) = 0 → X G M Q 16 [(0, .ref v0), (1, .long v1), (3, .int v3), (4, .int ((v4 + 1) &&& v3)), (5, .int (v5 + 1))] [] h)))))))))) : X G M Q 16 [(0, .ref v0), (1, .long v1), (3, .int v3), (4, .int v4), (5, .int v5)] [] h := by
  refine x_iload hM d_Ki_slotOf_16 4 rfl ?_
  refine x_iload_n hM d_Ki_slotOf_18 rfl 2 rfl ?_
  refine x_icmp_ge (tgt := 59) hM d_Ki_slotOf_19 (by decide) (fun q11 => ?_) (fun q11 => ?_)
  · replace F := F.1 q11
    refine x_iload hM d_Ki_slotOf_59 3 rfl ?_
    exact x_ireturn hM d_Ki_slotOf_61 rfl F
  · replace F := F.2 q11
    refine x_aload_n hM d_Ki_slotOf_22 rfl 0 rfl ?_
    obtain ⟨c9, F⟩ := F
    obtain ⟨c10, F⟩ := F
    refine x_getr hG hM ck_Ki 16 (Nat.le_of_ble_eq_true rfl) rfl rfl w_341 rfl d_Ki_slotOf_23 c9 c10 ?_
    refine x_iload hM d_Ki_slotOf_26 3 rfl ?_
    obtain ⟨c7, F⟩ := F
    obtain ⟨c8, F⟩ := F
    refine x_iaload hG hM d_Ki_slotOf_28 c7 c8 ?_
    refine x_iconst (v := (-1)) hM d_Ki_slotOf_29 (by decide) ?_
    refine x_icmp_eq (tgt := 59) hM d_Ki_slotOf_30 (by decide) (fun q6 => ?_) (fun q6 => ?_)
    · replace F := F.1 q6
      refine x_iload hM d_Ki_slotOf_59 3 rfl ?_
      exact x_ireturn hM d_Ki_slotOf_61 rfl F
    · replace F := F.2 q6
      refine x_aload_n hM d_Ki_slotOf_33 rfl 0 rfl ?_
      obtain ⟨c4, F⟩ := F
      obtain ⟨c5, F⟩ := F
      refine x_getr hG hM ck_Ki 17 (Nat.le_of_ble_eq_true rfl) rfl rfl w_342 rfl d_Ki_slotOf_34 c4 c5 ?_
      refine x_iload hM d_Ki_slotOf_37 3 rfl ?_
      obtain ⟨c2, F⟩ := F
      obtain ⟨c3, F⟩ := F
      refine x_laload hG hM d_Ki_slotOf_39 c2 c3 ?_
      refine x_lload_n hM d_Ki_slotOf_40 rfl 1 rfl ?_
      refine x_lcmp hM d_Ki_slotOf_41 ?_
      refine x_if_eq (tgt := 59) hM d_Ki_slotOf_42 (by decide) (fun q1 => ?_) (fun q1 => ?_)
      · replace F := F.1 q1
        refine x_iload hM d_Ki_slotOf_59 3 rfl ?_
        exact x_ireturn hM d_Ki_slotOf_61 rfl F
      · replace F := F.2 q1
        refine x_iload hM d_Ki_slotOf_45 3 rfl ?_
        refine x_iconst (v := 1) hM d_Ki_slotOf_47 (by decide) ?_
        refine x_iadd hM d_Ki_slotOf_48 ?_
        refine x_iload_n hM d_Ki_slotOf_49 rfl 2 rfl ?_
        refine x_iand hM d_Ki_slotOf_50 ?_
        refine x_istore (lv2 := [(4, .int ((v4 + 1) &&& v3)), (0, .ref v0), (1, .long v1), (3, .int v3), (5, .int v5)]) hM d_Ki_slotOf_51 (Nat.le_of_ble_eq_true rfl) rfl ?_
        refine x_iinc (v := (v5 + 1)) (lv2 := [(5, .int (v5 + 1)), (4, .int ((v4 + 1) &&& v3)), (0, .ref v0), (1, .long v1), (3, .int v3)]) hM d_Ki_slotOf_53 (j := 4) rfl rfl (Nat.le_of_ble_eq_true rfl) rfl ?_
        refine x_goto (tgt := 16) hM d_Ki_slotOf_56 (by decide) ?_
        refine x_sub [2, 3, 4, 1, 0] rfl ?_
        exact F
set_option maxRecDepth 100000 in
set_option maxHeartbeats 4000000 in
theorem S_Ki_sortByGroup_0 {G : Gc} {M : Mc} {Q : State → Prop} {K : Option Value → Hp → Prop} (hG : gok G) (hM : mok G M r_Ki_sortByGroup Q K) (v0 : Nat) (v1 : Int32) (v2 : Int32) (v3 : Int32) (h : Hp) (F : kT h v0 = 10 ∧ kR h v0 13 = some (rf h v0 13) ∧ (sem G r_Ar_fill [.ref (rf h v0 13), .int 0, .int v3, .int 0] h (fun u2 h1 => u2 = none ∧ X G M Q 13 [(0, .ref v0), (1, .int v1), (2, .int v2), (3, .int v3), (4, .int v1)] [] h1))) : X G M Q 0 [(0, .ref v0), (1, .int v1), (2, .int v2), (3, .int v3)] [] h := by
  refine x_aload_n hM d_Ki_sortByGroup_0 rfl 0 rfl ?_
  obtain ⟨c3, F⟩ := F
  obtain ⟨c4, F⟩ := F
  refine x_getr hG hM ck_Ki 13 (Nat.le_of_ble_eq_true rfl) rfl rfl w_338 rfl d_Ki_sortByGroup_1 c3 c4 ?_
  refine x_iconst (v := 0) hM d_Ki_sortByGroup_4 (by decide) ?_
  refine x_iload_n hM d_Ki_sortByGroup_5 rfl 3 rfl ?_
  refine x_iconst (v := 0) hM d_Ki_sortByGroup_6 (by decide) ?_
  refine x_callS hG hM (r' := r_Ar_fill) [.ref (rf h v0 13), .int 0, .int v3, .int 0] rfl yk_Ar_fill ⟨Nat.le_of_ble_eq_true rfl, Nat.le_of_ble_eq_true rfl⟩ w_727 w_604 rfl rfl (Nat.le_of_ble_eq_true rfl) d_Ki_sortByGroup_7 (sem_mono F ?_)
  intro u2 h1 F
  obtain ⟨rfl, F⟩ := F
  refine x_iload_n hM d_Ki_sortByGroup_10 rfl 1 rfl ?_
  refine x_istore (lv2 := [(4, .int v1), (0, .ref v0), (1, .int v1), (2, .int v2), (3, .int v3)]) hM d_Ki_sortByGroup_11 (Nat.le_of_ble_eq_true rfl) rfl ?_
  refine x_sub [1, 2, 3, 4, 0] rfl ?_
  exact F
set_option maxRecDepth 100000 in
set_option maxHeartbeats 4000000 in
theorem S_Ki_sortByGroup_13 {G : Gc} {M : Mc} {Q : State → Prop} {K : Option Value → Hp → Prop} (hG : gok G) (hM : mok G M r_Ki_sortByGroup Q K) (v0 : Nat) (v1 : Int32) (v2 : Int32) (v3 : Int32) (v4 : Int32) (h : Hp) (F : (v2 ≤ v4 → X G M Q 52 [(0, .ref v0), (1, .int v1), (2, .int v2), (3, .int v3), (4, .int v1), (5, .int 1)] [] h) ∧ (¬ v2 ≤ v4 → (kT h v0 = 10 ∧ kR h v0 13 = some (rf h v0 13) ∧ (kT h v0 = 10 ∧ kR h v0 12 = some (rf h v0 12) ∧ (kT h v0 = 10 ∧ kR h v0 4 = some (rf h v0 4) ∧ (kT h (rf h v0 4) = 50 ∧ vp_in v4 (kN h (rf h v0 4)) ∧ (kT h (rf h v0 12) = 50 ∧ vp_in (kI h (rf h v0 4) (Int32.toNatClampNeg v4)) (kN h (rf h v0 12)) ∧ (kT h (rf h v0 13) = 50 ∧ vp_in (kI h (rf h v0 12) (Int32.toNatClampNeg (kI h (rf h v0 4) (Int32.toNatClampNeg v4)))) (kN h (rf h v0 13)) ∧ (kT h (rf h v0 13) = 50 ∧ vp_in (kI h (rf h v0 12) (Int32.toNatClampNeg (kI h (rf h v0 4) (Int32.toNatClampNeg v4)))) (kN h (rf h v0 13)) ∧ (∀ h1 : Hp, h1 = wI h (rf h v0 13) (Int32.toNatClampNeg (kI h (rf h v0 12) (Int32.toNatClampNeg (kI h (rf h v0 4) (Int32.toNatClampNeg v4))))) ((kI h (rf h v0 13) (Int32.toNatClampNeg (kI h (rf h v0 12) (Int32.toNatClampNeg (kI h (rf h v0 4) (Int32.toNatClampNeg v4)))))) + 1) → X G M Q 13 [(0, .ref v0), (1, .int v1), (2, .int v2), (3, .int v3), (4, .int (v4 + 1))] [] h1)))))))))) : X G M Q 13 [(0, .ref v0), (1, .int v1), (2, .int v2), (3, .int v3), (4, .int v4)] [] h := by
  refine x_iload hM d_Ki_sortByGroup_13 4 rfl ?_
  refine x_iload_n hM d_Ki_sortByGroup_15 rfl 2 rfl ?_
  refine x_icmp_ge (tgt := 46) hM d_Ki_sortByGroup_16 (by decide) (fun q16 => ?_) (fun q16 => ?_)
  · replace F := F.1 q16
    refine x_iload_n hM d_Ki_sortByGroup_46 rfl 1 rfl ?_
    refine x_istore (lv2 := [(4, .int v1), (0, .ref v0), (1, .int v1), (2, .int v2), (3, .int v3)]) hM d_Ki_sortByGroup_47 (Nat.le_of_ble_eq_true rfl) rfl ?_
    refine x_iconst (v := 1) hM d_Ki_sortByGroup_49 (by decide) ?_
    refine x_istore (lv2 := [(5, .int 1), (4, .int v1), (0, .ref v0), (1, .int v1), (2, .int v2), (3, .int v3)]) hM d_Ki_sortByGroup_50 (Nat.le_of_ble_eq_true rfl) rfl ?_
    refine x_sub [2, 3, 4, 5, 1, 0] rfl ?_
    exact F
  · replace F := F.2 q16
    refine x_aload_n hM d_Ki_sortByGroup_19 rfl 0 rfl ?_
    obtain ⟨c14, F⟩ := F
    obtain ⟨c15, F⟩ := F
    refine x_getr hG hM ck_Ki 13 (Nat.le_of_ble_eq_true rfl) rfl rfl w_338 rfl d_Ki_sortByGroup_20 c14 c15 ?_
    refine x_aload_n hM d_Ki_sortByGroup_23 rfl 0 rfl ?_
    obtain ⟨c12, F⟩ := F
    obtain ⟨c13, F⟩ := F
    refine x_getr hG hM ck_Ki 12 (Nat.le_of_ble_eq_true rfl) rfl rfl w_337 rfl d_Ki_sortByGroup_24 c12 c13 ?_
    refine x_aload_n hM d_Ki_sortByGroup_27 rfl 0 rfl ?_
    obtain ⟨c10, F⟩ := F
    obtain ⟨c11, F⟩ := F
    refine x_getr hG hM ck_Ki 4 (Nat.le_of_ble_eq_true rfl) rfl rfl w_329 rfl d_Ki_sortByGroup_28 c10 c11 ?_
    refine x_iload hM d_Ki_sortByGroup_31 4 rfl ?_
    obtain ⟨c8, F⟩ := F
    obtain ⟨c9, F⟩ := F
    refine x_iaload hG hM d_Ki_sortByGroup_33 c8 c9 ?_
    obtain ⟨c6, F⟩ := F
    obtain ⟨c7, F⟩ := F
    refine x_iaload hG hM d_Ki_sortByGroup_34 c6 c7 ?_
    refine x_dup2 hM d_Ki_sortByGroup_35 rfl rfl ?_
    obtain ⟨c4, F⟩ := F
    obtain ⟨c5, F⟩ := F
    refine x_iaload hG hM d_Ki_sortByGroup_36 c4 c5 ?_
    refine x_iconst (v := 1) hM d_Ki_sortByGroup_37 (by decide) ?_
    refine x_iadd hM d_Ki_sortByGroup_38 ?_
    obtain ⟨c2, F⟩ := F
    obtain ⟨c3, F⟩ := F
    replace F := F _ rfl
    refine x_iastore hG hM d_Ki_sortByGroup_39 c2 c3 ?_
    refine x_iinc (v := (v4 + 1)) (lv2 := [(4, .int (v4 + 1)), (0, .ref v0), (1, .int v1), (2, .int v2), (3, .int v3)]) hM d_Ki_sortByGroup_40 (j := 4) rfl rfl (Nat.le_of_ble_eq_true rfl) rfl ?_
    refine x_goto (tgt := 13) hM d_Ki_sortByGroup_43 (by decide) ?_
    refine x_sub [1, 2, 3, 4, 0] rfl ?_
    exact F
set_option maxRecDepth 100000 in
set_option maxHeartbeats 4000000 in
theorem S_Ki_sortByGroup_52 {G : Gc} {M : Mc} {Q : State → Prop} {K : Option Value → Hp → Prop} (hG : gok G) (hM : mok G M r_Ki_sortByGroup Q K) (v0 : Nat) (v1 : Int32) (v2 : Int32) (v3 : Int32) (v4 : Int32) (v5 : Int32) (h : Hp) (F : (v3 ≤ v5 → (kT h v0 = 10 ∧ kR h v0 14 = some (rf h v0 14) ∧ (kT h (rf h v0 14) = 50 ∧ vp_in 0 (kN h (rf h v0 14)) ∧ (∀ h1 : Hp, h1 = wI h (rf h v0 14) (Int32.toNatClampNeg 0) v4 → X G M Q 96 [(0, .ref v0), (1, .int v1), (2, .int v2), (5, .int v1)] [] h1)))) ∧ (¬ v3 ≤ v5 → (kT h v0 = 10 ∧ kR h v0 14 = some (rf h v0 14) ∧ (kT h (rf h v0 14) = 50 ∧ vp_in v5 (kN h (rf h v0 14)) ∧ (∀ h6 : Hp, h6 = wI h (rf h v0 14) (Int32.toNatClampNeg v5) v4 → (kT h6 v0 = 10 ∧ kR h6 v0 13 = some (rf h6 v0 13) ∧ (kT h6 (rf h6 v0 13) = 50 ∧ vp_in v5 (kN h6 (rf h6 v0 13)) ∧ X G M Q 52 [(0, .ref v0), (1, .int v1), (2, .int v2), (3, .int v3), (4, .int (v4 + (kI h6 (rf h6 v0 13) (Int32.toNatClampNeg v5)))), (5, .int (v5 + 1))] [] h6))))))) : X G M Q 52 [(0, .ref v0), (1, .int v1), (2, .int v2), (3, .int v3), (4, .int v4), (5, .int v5)] [] h := by
  refine x_iload hM d_Ki_sortByGroup_52 5 rfl ?_
  refine x_iload_n hM d_Ki_sortByGroup_54 rfl 3 rfl ?_
  refine x_icmp_ge (tgt := 85) hM d_Ki_sortByGroup_55 (by decide) (fun q15 => ?_) (fun q15 => ?_)
  · replace F := F.1 q15
    refine x_aload_n hM d_Ki_sortByGroup_85 rfl 0 rfl ?_
    obtain ⟨c4, F⟩ := F
    obtain ⟨c5, F⟩ := F
    refine x_getr hG hM ck_Ki 14 (Nat.le_of_ble_eq_true rfl) rfl rfl w_339 rfl d_Ki_sortByGroup_86 c4 c5 ?_
    refine x_iconst (v := 0) hM d_Ki_sortByGroup_89 (by decide) ?_
    refine x_iload hM d_Ki_sortByGroup_90 4 rfl ?_
    obtain ⟨c2, F⟩ := F
    obtain ⟨c3, F⟩ := F
    replace F := F _ rfl
    refine x_iastore hG hM d_Ki_sortByGroup_92 c2 c3 ?_
    refine x_iload_n hM d_Ki_sortByGroup_93 rfl 1 rfl ?_
    refine x_istore (lv2 := [(5, .int v1), (0, .ref v0), (1, .int v1), (2, .int v2), (3, .int v3), (4, .int v4)]) hM d_Ki_sortByGroup_94 (Nat.le_of_ble_eq_true rfl) rfl ?_
    refine x_sub [1, 2, 3, 0] rfl ?_
    exact F
  · replace F := F.2 q15
    refine x_aload_n hM d_Ki_sortByGroup_58 rfl 0 rfl ?_
    obtain ⟨c13, F⟩ := F
    obtain ⟨c14, F⟩ := F
    refine x_getr hG hM ck_Ki 14 (Nat.le_of_ble_eq_true rfl) rfl rfl w_339 rfl d_Ki_sortByGroup_59 c13 c14 ?_
    refine x_iload hM d_Ki_sortByGroup_62 5 rfl ?_
    refine x_iload hM d_Ki_sortByGroup_64 4 rfl ?_
    obtain ⟨c11, F⟩ := F
    obtain ⟨c12, F⟩ := F
    replace F := F _ rfl
    refine x_iastore hG hM d_Ki_sortByGroup_66 c11 c12 ?_
    refine x_iload hM d_Ki_sortByGroup_67 4 rfl ?_
    refine x_aload_n hM d_Ki_sortByGroup_69 rfl 0 rfl ?_
    obtain ⟨c9, F⟩ := F
    obtain ⟨c10, F⟩ := F
    refine x_getr hG hM ck_Ki 13 (Nat.le_of_ble_eq_true rfl) rfl rfl w_338 rfl d_Ki_sortByGroup_70 c9 c10 ?_
    refine x_iload hM d_Ki_sortByGroup_73 5 rfl ?_
    obtain ⟨c7, F⟩ := F
    obtain ⟨c8, F⟩ := F
    refine x_iaload hG hM d_Ki_sortByGroup_75 c7 c8 ?_
    refine x_iadd hM d_Ki_sortByGroup_76 ?_
    refine x_istore (lv2 := [(4, .int (v4 + (kI h6 (rf h6 v0 13) (Int32.toNatClampNeg v5)))), (0, .ref v0), (1, .int v1), (2, .int v2), (3, .int v3), (5, .int v5)]) hM d_Ki_sortByGroup_77 (Nat.le_of_ble_eq_true rfl) rfl ?_
    refine x_iinc (v := (v5 + 1)) (lv2 := [(5, .int (v5 + 1)), (4, .int (v4 + (kI h6 (rf h6 v0 13) (Int32.toNatClampNeg v5)))), (0, .ref v0), (1, .int v1), (2, .int v2), (3, .int v3)]) hM d_Ki_sortByGroup_79 (j := 5) rfl rfl (Nat.le_of_ble_eq_true rfl) rfl ?_
    refine x_goto (tgt := 52) hM d_Ki_sortByGroup_82 (by decide) ?_
    refine x_sub [2, 3, 4, 5, 1, 0] rfl ?_
    exact F
set_option maxRecDepth 100000 in
set_option maxHeartbeats 4000000 in
theorem S_Ki_sortByGroup_96 {G : Gc} {M : Mc} {Q : State → Prop} {K : Option Value → Hp → Prop} (hG : gok G) (hM : mok G M r_Ki_sortByGroup Q K) (v0 : Nat) (v1 : Int32) (v2 : Int32) (v5 : Int32) (h : Hp) (F : (v2 ≤ v5 → X G M Q 155 [(0, .ref v0), (2, .int v2), (5, .int v1)] [] h) ∧ (¬ v2 ≤ v5 → (kT h v0 = 10 ∧ kR h v0 12 = some (rf h v0 12) ∧ (kT h v0 = 10 ∧ kR h v0 4 = some (rf h v0 4) ∧ (kT h (rf h v0 4) = 50 ∧ vp_in v5 (kN h (rf h v0 4)) ∧ (kT h (rf h v0 12) = 50 ∧ vp_in (kI h (rf h v0 4) (Int32.toNatClampNeg v5)) (kN h (rf h v0 12)) ∧ (kT h v0 = 10 ∧ kR h v0 15 = some (rf h v0 15) ∧ (kT h v0 = 10 ∧ kR h v0 14 = some (rf h v0 14) ∧ (kT h (rf h v0 14) = 50 ∧ vp_in (kI h (rf h v0 12) (Int32.toNatClampNeg (kI h (rf h v0 4) (Int32.toNatClampNeg v5)))) (kN h (rf h v0 14)) ∧ (kT h v0 = 10 ∧ kR h v0 4 = some (rf h v0 4) ∧ (kT h (rf h v0 4) = 50 ∧ vp_in v5 (kN h (rf h v0 4)) ∧ (kT h (rf h v0 15) = 50 ∧ vp_in (kI h (rf h v0 14) (Int32.toNatClampNeg (kI h (rf h v0 12) (Int32.toNatClampNeg (kI h (rf h v0 4) (Int32.toNatClampNeg v5)))))) (kN h (rf h v0 15)) ∧ (∀ h1 : Hp, h1 = wI h (rf h v0 15) (Int32.toNatClampNeg (kI h (rf h v0 14) (Int32.toNatClampNeg (kI h (rf h v0 12) (Int32.toNatClampNeg (kI h (rf h v0 4) (Int32.toNatClampNeg v5))))))) (kI h (rf h v0 4) (Int32.toNatClampNeg v5)) → (kT h1 v0 = 10 ∧ kR h1 v0 14 = some (rf h1 v0 14) ∧ (kT h1 (rf h1 v0 14) = 50 ∧ vp_in (kI h (rf h v0 12) (Int32.toNatClampNeg (kI h (rf h v0 4) (Int32.toNatClampNeg v5)))) (kN h1 (rf h1 v0 14)) ∧ (kT h1 (rf h1 v0 14) = 50 ∧ vp_in (kI h (rf h v0 12) (Int32.toNatClampNeg (kI h (rf h v0 4) (Int32.toNatClampNeg v5)))) (kN h1 (rf h1 v0 14)) ∧ (∀ h2 : Hp, h2 = wI h1 (rf h1 v0 14) (Int32.toNatClampNeg (kI h (rf h v0 12) (Int32.toNatClampNeg (kI h (rf h v0 4) (Int32.toNatClampNeg v5))))) ((kI h1 (rf h1 v0 14) (Int32.toNatClampNeg (kI h (rf h v0 12) (Int32.toNatClampNeg (kI h (rf h v0 4) (Int32.toNatClampNeg v5)))))) + 1) → X G M Q 96 [(0, .ref v0), (1, .int v1), (2, .int v2), (5, .int (v5 + 1))] [] h2))))))))))))))))) : X G M Q 96 [(0, .ref v0), (1, .int v1), (2, .int v2), (5, .int v5)] [] h := by
  refine x_iload hM d_Ki_sortByGroup_96 3 rfl ?_
  refine x_iload_n hM d_Ki_sortByGroup_98 rfl 2 rfl ?_
  refine x_icmp_ge (tgt := 152) hM d_Ki_sortByGroup_99 (by decide) (fun q29 => ?_) (fun q29 => ?_)
  · replace F := F.1 q29
    refine x_iload_n hM d_Ki_sortByGroup_152 rfl 1 rfl ?_
    refine x_istore (lv2 := [(5, .int v1), (0, .ref v0), (1, .int v1), (2, .int v2)]) hM d_Ki_sortByGroup_153 (Nat.le_of_ble_eq_true rfl) rfl ?_
    refine x_sub [1, 3, 0] rfl ?_
    exact F
  · replace F := F.2 q29
    refine x_aload_n hM d_Ki_sortByGroup_102 rfl 0 rfl ?_
    obtain ⟨c27, F⟩ := F
    obtain ⟨c28, F⟩ := F
    refine x_getr hG hM ck_Ki 12 (Nat.le_of_ble_eq_true rfl) rfl rfl w_337 rfl d_Ki_sortByGroup_103 c27 c28 ?_
    refine x_aload_n hM d_Ki_sortByGroup_106 rfl 0 rfl ?_
    obtain ⟨c25, F⟩ := F
    obtain ⟨c26, F⟩ := F
    refine x_getr hG hM ck_Ki 4 (Nat.le_of_ble_eq_true rfl) rfl rfl w_329 rfl d_Ki_sortByGroup_107 c25 c26 ?_
    refine x_iload hM d_Ki_sortByGroup_110 3 rfl ?_
    obtain ⟨c23, F⟩ := F
    obtain ⟨c24, F⟩ := F
    refine x_iaload hG hM d_Ki_sortByGroup_112 c23 c24 ?_
    obtain ⟨c21, F⟩ := F
    obtain ⟨c22, F⟩ := F
    refine x_iaload hG hM d_Ki_sortByGroup_113 c21 c22 ?_
    refine x_istore (lv2 := [(6, .int (kI h (rf h v0 12) (Int32.toNatClampNeg (kI h (rf h v0 4) (Int32.toNatClampNeg v5))))), (0, .ref v0), (1, .int v1), (2, .int v2), (5, .int v5)]) hM d_Ki_sortByGroup_114 (Nat.le_of_ble_eq_true rfl) rfl ?_
    refine x_aload_n hM d_Ki_sortByGroup_116 rfl 1 rfl ?_
    obtain ⟨c19, F⟩ := F
    obtain ⟨c20, F⟩ := F
    refine x_getr hG hM ck_Ki 15 (Nat.le_of_ble_eq_true rfl) rfl rfl w_340 rfl d_Ki_sortByGroup_117 c19 c20 ?_
    refine x_aload_n hM d_Ki_sortByGroup_120 rfl 1 rfl ?_
    obtain ⟨c17, F⟩ := F
    obtain ⟨c18, F⟩ := F
    refine x_getr hG hM ck_Ki 14 (Nat.le_of_ble_eq_true rfl) rfl rfl w_339 rfl d_Ki_sortByGroup_121 c17 c18 ?_
    refine x_iload hM d_Ki_sortByGroup_124 0 rfl ?_
    obtain ⟨c15, F⟩ := F
    obtain ⟨c16, F⟩ := F
    refine x_iaload hG hM d_Ki_sortByGroup_126 c15 c16 ?_
    refine x_aload_n hM d_Ki_sortByGroup_127 rfl 1 rfl ?_
    obtain ⟨c13, F⟩ := F
    obtain ⟨c14, F⟩ := F
    refine x_getr hG hM ck_Ki 4 (Nat.le_of_ble_eq_true rfl) rfl rfl w_329 rfl d_Ki_sortByGroup_128 c13 c14 ?_
    refine x_iload hM d_Ki_sortByGroup_131 4 rfl ?_
    obtain ⟨c11, F⟩ := F
    obtain ⟨c12, F⟩ := F
    refine x_iaload hG hM d_Ki_sortByGroup_133 c11 c12 ?_
    obtain ⟨c9, F⟩ := F
    obtain ⟨c10, F⟩ := F
    replace F := F _ rfl
    refine x_iastore hG hM d_Ki_sortByGroup_134 c9 c10 ?_
    refine x_aload_n hM d_Ki_sortByGroup_135 rfl 1 rfl ?_
    obtain ⟨c7, F⟩ := F
    obtain ⟨c8, F⟩ := F
    refine x_getr hG hM ck_Ki 14 (Nat.le_of_ble_eq_true rfl) rfl rfl w_339 rfl d_Ki_sortByGroup_136 c7 c8 ?_
    refine x_iload hM d_Ki_sortByGroup_139 0 rfl ?_
    refine x_dup2 hM d_Ki_sortByGroup_141 rfl rfl ?_
    obtain ⟨c5, F⟩ := F
    obtain ⟨c6, F⟩ := F
    refine x_iaload hG hM d_Ki_sortByGroup_142 c5 c6 ?_
    refine x_iconst (v := 1) hM d_Ki_sortByGroup_143 (by decide) ?_
    refine x_iadd hM d_Ki_sortByGroup_144 ?_
    obtain ⟨c3, F⟩ := F
    obtain ⟨c4, F⟩ := F
    replace F := F _ rfl
    refine x_iastore hG hM d_Ki_sortByGroup_145 c3 c4 ?_
    refine x_iinc (v := (v5 + 1)) (lv2 := [(5, .int (v5 + 1)), (6, .int (kI h (rf h v0 12) (Int32.toNatClampNeg (kI h (rf h v0 4) (Int32.toNatClampNeg v5))))), (0, .ref v0), (1, .int v1), (2, .int v2)]) hM d_Ki_sortByGroup_146 (j := 4) rfl rfl (Nat.le_of_ble_eq_true rfl) rfl ?_
    refine x_goto (tgt := 96) hM d_Ki_sortByGroup_149 (by decide) ?_
    refine x_sub [2, 3, 4, 0] rfl ?_
    exact F
set_option maxRecDepth 100000 in
set_option maxHeartbeats 4000000 in
theorem S_Ki_sortByGroup_155 {G : Gc} {M : Mc} {Q : State → Prop} {K : Option Value → Hp → Prop} (hG : gok G) (hM : mok G M r_Ki_sortByGroup Q K) (v0 : Nat) (v2 : Int32) (v5 : Int32) (h : Hp) (F : (v2 ≤ v5 → K none h) ∧ (¬ v2 ≤ v5 → (kT h v0 = 10 ∧ kR h v0 4 = some (rf h v0 4) ∧ (kT h v0 = 10 ∧ kR h v0 15 = some (rf h v0 15) ∧ (kT h (rf h v0 15) = 50 ∧ vp_in v5 (kN h (rf h v0 15)) ∧ (kT h (rf h v0 4) = 50 ∧ vp_in v5 (kN h (rf h v0 4)) ∧ (∀ h1 : Hp, h1 = wI h (rf h v0 4) (Int32.toNatClampNeg v5) (kI h (rf h v0 15) (Int32.toNatClampNeg v5)) → (kT h1 v0 = 10 ∧ kR h1 v0 5 = some (rf h1 v0 5) ∧ (kT h1 v0 = 10 ∧ kR h1 v0 4 = some (rf h1 v0 4) ∧ (kT h1 (rf h1 v0 4) = 50 ∧ vp_in v5 (kN h1 (rf h1 v0 4)) ∧ (kT h1 (rf h1 v0 5) = 50 ∧ vp_in (kI h1 (rf h1 v0 4) (Int32.toNatClampNeg v5)) (kN h1 (rf h1 v0 5)) ∧ (∀ h2 : Hp, h2 = wI h1 (rf h1 v0 5) (Int32.toNatClampNeg (kI h1 (rf h1 v0 4) (Int32.toNatClampNeg v5))) v5 → X G M Q 155 [(0, .ref v0), (2, .int v2), (5, .int (v5 + 1))] [] h2)))))))))))) : X G M Q 155 [(0, .ref v0), (2, .int v2), (5, .int v5)] [] h := by
  refine x_iload hM d_Ki_sortByGroup_155 2 rfl ?_
  refine x_iload_n hM d_Ki_sortByGroup_157 rfl 1 rfl ?_
  refine x_icmp_ge (tgt := 195) hM d_Ki_sortByGroup_158 (by decide) (fun q19 => ?_) (fun q19 => ?_)
  · replace F := F.1 q19
    exact x_return hM d_Ki_sortByGroup_195 rfl F
  · replace F := F.2 q19
    refine x_aload_n hM d_Ki_sortByGroup_161 rfl 0 rfl ?_
    obtain ⟨c17, F⟩ := F
    obtain ⟨c18, F⟩ := F
    refine x_getr hG hM ck_Ki 4 (Nat.le_of_ble_eq_true rfl) rfl rfl w_329 rfl d_Ki_sortByGroup_162 c17 c18 ?_
    refine x_iload hM d_Ki_sortByGroup_165 2 rfl ?_
    refine x_aload_n hM d_Ki_sortByGroup_167 rfl 0 rfl ?_
    obtain ⟨c15, F⟩ := F
    obtain ⟨c16, F⟩ := F
    refine x_getr hG hM ck_Ki 15 (Nat.le_of_ble_eq_true rfl) rfl rfl w_340 rfl d_Ki_sortByGroup_168 c15 c16 ?_
    refine x_iload hM d_Ki_sortByGroup_171 2 rfl ?_
    obtain ⟨c13, F⟩ := F
    obtain ⟨c14, F⟩ := F
    refine x_iaload hG hM d_Ki_sortByGroup_173 c13 c14 ?_
    obtain ⟨c11, F⟩ := F
    obtain ⟨c12, F⟩ := F
    replace F := F _ rfl
    refine x_iastore hG hM d_Ki_sortByGroup_174 c11 c12 ?_
    refine x_aload_n hM d_Ki_sortByGroup_175 rfl 0 rfl ?_
    obtain ⟨c9, F⟩ := F
    obtain ⟨c10, F⟩ := F
    refine x_getr hG hM ck_Ki 5 (Nat.le_of_ble_eq_true rfl) rfl rfl w_330 rfl d_Ki_sortByGroup_176 c9 c10 ?_
    refine x_aload_n hM d_Ki_sortByGroup_179 rfl 0 rfl ?_
    obtain ⟨c7, F⟩ := F
    obtain ⟨c8, F⟩ := F
    refine x_getr hG hM ck_Ki 4 (Nat.le_of_ble_eq_true rfl) rfl rfl w_329 rfl d_Ki_sortByGroup_180 c7 c8 ?_
    refine x_iload hM d_Ki_sortByGroup_183 2 rfl ?_
    obtain ⟨c5, F⟩ := F
    obtain ⟨c6, F⟩ := F
    refine x_iaload hG hM d_Ki_sortByGroup_185 c5 c6 ?_
    refine x_iload hM d_Ki_sortByGroup_186 2 rfl ?_
    obtain ⟨c3, F⟩ := F
    obtain ⟨c4, F⟩ := F
    replace F := F _ rfl
    refine x_iastore hG hM d_Ki_sortByGroup_188 c3 c4 ?_
    refine x_iinc (v := (v5 + 1)) (lv2 := [(5, .int (v5 + 1)), (0, .ref v0), (2, .int v2)]) hM d_Ki_sortByGroup_189 (j := 2) rfl rfl (Nat.le_of_ble_eq_true rfl) rfl ?_
    refine x_goto (tgt := 155) hM d_Ki_sortByGroup_192 (by decide) ?_
    refine x_sub [1, 2, 0] rfl ?_
    exact F
set_option maxRecDepth 100000 in
set_option maxHeartbeats 4000000 in
theorem S_Ki_divide_0 {G : Gc} {M : Mc} {Q : State → Prop} {K : Option Value → Hp → Prop} (hG : gok G) (hM : mok G M r_Ki_divide Q K) (v0 : Nat) (v1 : Nat) (v2 : Int32) (v3 : Int32) (v4 : Int32) (h : Hp) (F : kT h v0 = 10 ∧ kR h v0 7 = some (rf h v0 7) ∧ (kT h (rf h v0 7) = 50 ∧ vp_in v2 (kN h (rf h v0 7)) ∧ (kT h v0 = 10 ∧ kR h v0 13 = some (rf h v0 13) ∧ (kT h (rf h v0 13) = 50 ∧ vp_in 0 (kN h (rf h v0 13)) ∧ (kT h (rf h v0 13) = 50 ∧ vp_in 0 (kN h (rf h v0 13)) ∧ (∀ h1 : Hp, h1 = wI h (rf h v0 13) (Int32.toNatClampNeg 0) ((kI h (rf h v0 13) (Int32.toNatClampNeg 0)) + ((kI h (rf h v0 7) (Int32.toNatClampNeg v2)) - v3)) → (kT h1 v0 = 10 ∧ kR h1 v0 14 = some (rf h1 v0 14) ∧ (kT h1 (rf h1 v0 14) = 50 ∧ vp_in 0 (kN h1 (rf h1 v0 14)) ∧ (∀ h2 : Hp, h2 = wI h1 (rf h1 v0 14) (Int32.toNatClampNeg 0) (kI h (rf h v0 7) (Int32.toNatClampNeg v2)) → X G M Q 35 [(0, .ref v0), (1, .ref v1), (2, .int v2), (3, .int v3), (4, .int v4), (5, .int (kI h (rf h v0 7) (Int32.toNatClampNeg v2))), (6, .int 0), (7, .int 1)] [] h2))))))))) : X G M Q 0 [(0, .ref v0), (1, .ref v1), (2, .int v2), (3, .int v3), (4, .int v4)] [] h := by
  refine x_aload_n hM d_Ki_divide_0 rfl 0 rfl ?_
  obtain ⟨c15, F⟩ := F
  obtain ⟨c16, F⟩ := F
  refine x_getr hG hM ck_Ki 7 (Nat.le_of_ble_eq_true rfl) rfl rfl w_332 rfl d_Ki_divide_1 c15 c16 ?_
  refine x_iload_n hM d_Ki_divide_4 rfl 2 rfl ?_
  obtain ⟨c13, F⟩ := F
  obtain ⟨c14, F⟩ := F
  refine x_iaload hG hM d_Ki_divide_5 c13 c14 ?_
  refine x_istore (lv2 := [(5, .int (kI h (rf h v0 7) (Int32.toNatClampNeg v2))), (0, .ref v0), (1, .ref v1), (2, .int v2), (3, .int v3), (4, .int v4)]) hM d_Ki_divide_6 (Nat.le_of_ble_eq_true rfl) rfl ?_
  refine x_aload_n hM d_Ki_divide_8 rfl 1 rfl ?_
  obtain ⟨c11, F⟩ := F
  obtain ⟨c12, F⟩ := F
  refine x_getr hG hM ck_Ki 13 (Nat.le_of_ble_eq_true rfl) rfl rfl w_338 rfl d_Ki_divide_9 c11 c12 ?_
  refine x_iconst (v := 0) hM d_Ki_divide_12 (by decide) ?_
  refine x_dup2 hM d_Ki_divide_13 rfl rfl ?_
  obtain ⟨c9, F⟩ := F
  obtain ⟨c10, F⟩ := F
  refine x_iaload hG hM d_Ki_divide_14 c9 c10 ?_
  refine x_iload hM d_Ki_divide_15 0 rfl ?_
  refine x_iload_n hM d_Ki_divide_17 rfl 4 rfl ?_
  refine x_isub hM d_Ki_divide_18 ?_
  refine x_iadd hM d_Ki_divide_19 ?_
  obtain ⟨c7, F⟩ := F
  obtain ⟨c8, F⟩ := F
  replace F := F _ rfl
  refine x_iastore hG hM d_Ki_divide_20 c7 c8 ?_
  refine x_aload_n hM d_Ki_divide_21 rfl 1 rfl ?_
  obtain ⟨c5, F⟩ := F
  obtain ⟨c6, F⟩ := F
  refine x_getr hG hM ck_Ki 14 (Nat.le_of_ble_eq_true rfl) rfl rfl w_339 rfl d_Ki_divide_22 c5 c6 ?_
  refine x_iconst (v := 0) hM d_Ki_divide_25 (by decide) ?_
  refine x_iload hM d_Ki_divide_26 0 rfl ?_
  obtain ⟨c3, F⟩ := F
  obtain ⟨c4, F⟩ := F
  replace F := F _ rfl
  refine x_iastore hG hM d_Ki_divide_28 c3 c4 ?_
  refine x_iconst (v := 0) hM d_Ki_divide_29 (by decide) ?_
  refine x_istore (lv2 := [(6, .int 0), (5, .int (kI h (rf h v0 7) (Int32.toNatClampNeg v2))), (0, .ref v0), (1, .ref v1), (2, .int v2), (3, .int v3), (4, .int v4)]) hM d_Ki_divide_30 (Nat.le_of_ble_eq_true rfl) rfl ?_
  refine x_iconst (v := 1) hM d_Ki_divide_32 (by decide) ?_
  refine x_istore (lv2 := [(7, .int 1), (6, .int 0), (5, .int (kI h (rf h v0 7) (Int32.toNatClampNeg v2))), (0, .ref v0), (1, .ref v1), (2, .int v2), (3, .int v3), (4, .int v4)]) hM d_Ki_divide_33 (Nat.le_of_ble_eq_true rfl) rfl ?_
  refine x_sub [3, 4, 5, 6, 7, 2, 1, 0] rfl ?_
  exact F
set_option maxRecDepth 100000 in
set_option maxHeartbeats 4000000 in
theorem S_Ki_divide_35 {G : Gc} {M : Mc} {Q : State → Prop} {K : Option Value → Hp → Prop} (hG : gok G) (hM : mok G M r_Ki_divide Q K) (v0 : Nat) (v1 : Nat) (v2 : Int32) (v3 : Int32) (v4 : Int32) (v5 : Int32) (v6 : Int32) (v7 : Int32) (h : Hp) (F : (v4 ≤ v7 → ((v6 = 0 → (kT h v0 = 10 ∧ X G M Q 100 [(0, .ref v0), (1, .ref v1), (2, .int v2), (4, .int v4), (6, .int v6), (7, .int (kI h v0 0)), (8, .int 0)] [] h)) ∧ (¬ v6 = 0 → (kT h v0 = 10 ∧ kR h v0 4 = some (rf h v0 4) ∧ (kT h v0 = 10 ∧ kR h v0 15 = some (rf h v0 15) ∧ (kT h (rf h v0 4) = 50 ∧ kT h (rf h v0 15) = 50 ∧ ¬ v3 < 0 ∧ ¬ v3 < 0 ∧ ¬ (v5 - v3) < 0 ∧ Int32.toNatClampNeg v3 + Int32.toNatClampNeg (v5 - v3) ≤ kN h (rf h v0 4) ∧ Int32.toNatClampNeg v3 + Int32.toNatClampNeg (v5 - v3) ≤ kN h (rf h v0 15) ∧ (∀ h2 : Hp, h2 = wIs h (rf h v0 15) (va_cpy (kI h (rf h v0 4)) (kI h (rf h v0 15)) (Int32.toNatClampNeg v3) (Int32.toNatClampNeg v3) (Int32.toNatClampNeg (v5 - v3))) → (kT h2 v0 = 10 ∧ X G M Q 100 [(0, .ref v0), (1, .ref v1), (2, .int v2), (4, .int v4), (6, .int v6), (7, .int (kI h2 v0 0)), (8, .int 0)] [] h2)))))))) ∧ (¬ v4 ≤ v7 → (kT h v0 = 10 ∧ kR h v0 13 = some (rf h v0 13) ∧ (kT h (rf h v0 13) = 50 ∧ vp_in v7 (kN h (rf h v0 13)) ∧ (kT h v0 = 10 ∧ kR h v0 13 = some (rf h v0 13) ∧ (kT h (rf h v0 13) = 50 ∧ vp_in v6 (kN h (rf h v0 13)) ∧ (∀ z16 : Int32, z16 = (if (kI h (rf h v0 13) (Int32.toNatClampNeg v7)) ≤ (kI h (rf h v0 13) (Int32.toNatClampNeg v6)) then v6 else v7) → X G M Q 35 [(0, .ref v0), (1, .ref v1), (2, .int v2), (3, .int v3), (4, .int v4), (5, .int v5), (6, .int z16), (7, .int (v7 + 1))] [] h))))))) : X G M Q 35 [(0, .ref v0), (1, .ref v1), (2, .int v2), (3, .int v3), (4, .int v4), (5, .int v5), (6, .int v6), (7, .int v7)] [] h := by
  refine x_iload hM d_Ki_divide_35 7 rfl ?_
  refine x_iload hM d_Ki_divide_37 4 rfl ?_
  refine x_icmp_ge (tgt := 69) hM d_Ki_divide_39 (by decide) (fun q26 => ?_) (fun q26 => ?_)
  · replace F := F.1 q26
    refine x_iload hM d_Ki_divide_69 6 rfl ?_
    refine x_if_eq (tgt := 91) hM d_Ki_divide_71 (by decide) (fun q15 => ?_) (fun q15 => ?_)
    · replace F := F.1 q15
      refine x_aload_n hM d_Ki_divide_91 rfl 0 rfl ?_
      obtain ⟨c1, F⟩ := F
      refine x_geti hG hM ck_Ki 0 (Nat.le_of_ble_eq_true rfl) rfl rfl w_321 rfl d_Ki_divide_92 c1 ?_
      refine x_istore (lv2 := [(7, .int (kI h v0 0)), (0, .ref v0), (1, .ref v1), (2, .int v2), (3, .int v3), (4, .int v4), (5, .int v5), (6, .int v6)]) hM d_Ki_divide_95 (Nat.le_of_ble_eq_true rfl) rfl ?_
      refine x_iconst (v := 0) hM d_Ki_divide_97 (by decide) ?_
      refine x_istore (lv2 := [(8, .int 0), (7, .int (kI h v0 0)), (0, .ref v0), (1, .ref v1), (2, .int v2), (3, .int v3), (4, .int v4), (5, .int v5), (6, .int v6)]) hM d_Ki_divide_98 (Nat.le_of_ble_eq_true rfl) rfl ?_
      refine x_sub [2, 3, 4, 6, 8, 1, 0] rfl ?_
      exact F
    · replace F := F.2 q15
      refine x_aload_n hM d_Ki_divide_74 rfl 0 rfl ?_
      obtain ⟨c13, F⟩ := F
      obtain ⟨c14, F⟩ := F
      refine x_getr hG hM ck_Ki 4 (Nat.le_of_ble_eq_true rfl) rfl rfl w_329 rfl d_Ki_divide_75 c13 c14 ?_
      refine x_iload_n hM d_Ki_divide_78 rfl 3 rfl ?_
      refine x_aload_n hM d_Ki_divide_79 rfl 0 rfl ?_
      obtain ⟨c11, F⟩ := F
      obtain ⟨c12, F⟩ := F
      refine x_getr hG hM ck_Ki 15 (Nat.le_of_ble_eq_true rfl) rfl rfl w_340 rfl d_Ki_divide_80 c11 c12 ?_
      refine x_iload_n hM d_Ki_divide_83 rfl 3 rfl ?_
      refine x_iload hM d_Ki_divide_84 5 rfl ?_
      refine x_iload_n hM d_Ki_divide_86 rfl 3 rfl ?_
      refine x_isub hM d_Ki_divide_87 ?_
      obtain ⟨c4, F⟩ := F
      obtain ⟨c5, F⟩ := F
      obtain ⟨c6, F⟩ := F
      obtain ⟨c7, F⟩ := F
      obtain ⟨c8, F⟩ := F
      obtain ⟨c9, F⟩ := F
      obtain ⟨c10, F⟩ := F
      replace F := F _ rfl
      refine x_acopy hG hM rfl w_749 w_751 w_750 w_15 (Nat.le_of_ble_eq_true rfl) (Nat.le_of_ble_eq_true rfl) (Nat.le_of_ble_eq_true rfl) d_Ki_divide_88 c4 c5 c6 c7 c8 c9 c10 ?_
      refine x_aload_n hM d_Ki_divide_91 rfl 0 rfl ?_
      obtain ⟨c3, F⟩ := F
      refine x_geti hG hM ck_Ki 0 (Nat.le_of_ble_eq_true rfl) rfl rfl w_321 rfl d_Ki_divide_92 c3 ?_
      refine x_istore (lv2 := [(7, .int (kI h2 v0 0)), (0, .ref v0), (1, .ref v1), (2, .int v2), (3, .int v3), (4, .int v4), (5, .int v5), (6, .int v6)]) hM d_Ki_divide_95 (Nat.le_of_ble_eq_true rfl) rfl ?_
      refine x_iconst (v := 0) hM d_Ki_divide_97 (by decide) ?_
      refine x_istore (lv2 := [(8, .int 0), (7, .int (kI h2 v0 0)), (0, .ref v0), (1, .ref v1), (2, .int v2), (3, .int v3), (4, .int v4), (5, .int v5), (6, .int v6)]) hM d_Ki_divide_98 (Nat.le_of_ble_eq_true rfl) rfl ?_
      refine x_sub [2, 3, 4, 6, 8, 1, 0] rfl ?_
      exact F
  · replace F := F.2 q26
    refine x_aload_n hM d_Ki_divide_42 rfl 0 rfl ?_
    obtain ⟨c24, F⟩ := F
    obtain ⟨c25, F⟩ := F
    refine x_getr hG hM ck_Ki 13 (Nat.le_of_ble_eq_true rfl) rfl rfl w_338 rfl d_Ki_divide_43 c24 c25 ?_
    refine x_iload hM d_Ki_divide_46 7 rfl ?_
    obtain ⟨c22, F⟩ := F
    obtain ⟨c23, F⟩ := F
    refine x_iaload hG hM d_Ki_divide_48 c22 c23 ?_
    refine x_aload_n hM d_Ki_divide_49 rfl 0 rfl ?_
    obtain ⟨c20, F⟩ := F
    obtain ⟨c21, F⟩ := F
    refine x_getr hG hM ck_Ki 13 (Nat.le_of_ble_eq_true rfl) rfl rfl w_338 rfl d_Ki_divide_50 c20 c21 ?_
    refine x_iload hM d_Ki_divide_53 6 rfl ?_
    obtain ⟨c18, F⟩ := F
    obtain ⟨c19, F⟩ := F
    refine x_iaload hG hM d_Ki_divide_55 c18 c19 ?_
    have JJ : ∀ (z16 : Int32) (ez16 : z16 = (if (kI h (rf h v0 13) (Int32.toNatClampNeg v7)) ≤ (kI h (rf h v0 13) (Int32.toNatClampNeg v6)) then v6 else v7)), X G M Q 63 [(0, .ref v0), (1, .ref v1), (2, .int v2), (3, .int v3), (4, .int v4), (5, .int v5), (6, .int z16), (7, .int v7)] [] h := by
      intro z16 ez16
      replace F := F _ ez16
      refine x_iinc (v := (v7 + 1)) (lv2 := [(7, .int (v7 + 1)), (0, .ref v0), (1, .ref v1), (2, .int v2), (3, .int v3), (4, .int v4), (5, .int v5), (6, .int z16)]) hM d_Ki_divide_63 (j := 7) rfl rfl (Nat.le_of_ble_eq_true rfl) rfl ?_
      refine x_goto (tgt := 35) hM d_Ki_divide_66 (by decide) ?_
      refine x_sub [1, 2, 3, 4, 5, 6, 7, 0] rfl ?_
      exact F
    refine x_icmp_le (tgt := 63) hM d_Ki_divide_56 (by decide) (fun q17 => ?_) (fun q17 => ?_)
    · exact JJ _ (Eq.symm (if_pos q17))
    · refine x_iload hM d_Ki_divide_59 7 rfl ?_
      refine x_istore (lv2 := [(6, .int v7), (0, .ref v0), (1, .ref v1), (2, .int v2), (3, .int v3), (4, .int v4), (5, .int v5), (7, .int v7)]) hM d_Ki_divide_61 (Nat.le_of_ble_eq_true rfl) rfl ?_
      refine x_sub [1, 2, 3, 4, 5, 6, 0, 7] rfl ?_
      exact JJ _ (Eq.symm (if_neg q17))
set_option maxRecDepth 100000 in
set_option maxHeartbeats 4000000 in
theorem S_Ki_divide_100 {G : Gc} {M : Mc} {Q : State → Prop} {K : Option Value → Hp → Prop} (hG : gok G) (hM : mok G M r_Ki_divide Q K) (v0 : Nat) (v1 : Nat) (v2 : Int32) (v4 : Int32) (v6 : Int32) (v7 : Int32) (v8 : Int32) (h : Hp) (F : (v4 ≤ v8 → (kT h v0 = 10 ∧ kR h v0 6 = some (rf h v0 6) ∧ (kT h v0 = 10 ∧ kR h v0 14 = some (rf h v0 14) ∧ (kT h (rf h v0 14) = 50 ∧ vp_in v6 (kN h (rf h v0 14)) ∧ (kT h v0 = 10 ∧ kR h v0 13 = some (rf h v0 13) ∧ (kT h (rf h v0 13) = 50 ∧ vp_in v6 (kN h (rf h v0 13)) ∧ (kT h (rf h v0 6) = 50 ∧ vp_in v2 (kN h (rf h v0 6)) ∧ (∀ h1 : Hp, h1 = wI h (rf h v0 6) (Int32.toNatClampNeg v2) ((kI h (rf h v0 14) (Int32.toNatClampNeg v6)) - (kI h (rf h v0 13) (Int32.toNatClampNeg v6))) → (kT h1 v0 = 10 ∧ kR h1 v0 7 = some (rf h1 v0 7) ∧ (kT h1 v0 = 10 ∧ kR h1 v0 14 = some (rf h1 v0 14) ∧ (kT h1 (rf h1 v0 14) = 50 ∧ vp_in v6 (kN h1 (rf h1 v0 14)) ∧ (kT h1 (rf h1 v0 7) = 50 ∧ vp_in v2 (kN h1 (rf h1 v0 7)) ∧ (∀ h2 : Hp, h2 = wI h1 (rf h1 v0 7) (Int32.toNatClampNeg v2) (kI h1 (rf h1 v0 14) (Int32.toNatClampNeg v6)) → X G M Q 185 [(0, .ref v0), (1, .ref v1), (8, .int v7)] [] h2))))))))))))) ∧ (¬ v4 ≤ v8 → ((v8 = v6 → X G M Q 100 [(0, .ref v0), (1, .ref v1), (2, .int v2), (4, .int v4), (6, .int v6), (7, .int v7), (8, .int (v8 + 1))] [] h) ∧ (¬ v8 = v6 → (kT h v0 = 10 ∧ kR h v0 14 = some (rf h v0 14) ∧ (kT h (rf h v0 14) = 50 ∧ vp_in v8 (kN h (rf h v0 14)) ∧ (kT h v0 = 10 ∧ kR h v0 13 = some (rf h v0 13) ∧ (kT h (rf h v0 13) = 50 ∧ vp_in v8 (kN h (rf h v0 13)) ∧ (kT h v0 = 10 ∧ kR h v0 14 = some (rf h v0 14) ∧ (kT h (rf h v0 14) = 50 ∧ vp_in v8 (kN h (rf h v0 14)) ∧ (kT h v0 = 10 ∧ sem G r_Ki_open [.ref v0, .int ((kI h (rf h v0 14) (Int32.toNatClampNeg v8)) - (kI h (rf h v0 13) (Int32.toNatClampNeg v8))), .int (kI h (rf h v0 14) (Int32.toNatClampNeg v8))] h (fun u24 h23 => ∃ x25 : Int32, u24 = some (.int x25) ∧ X G M Q 100 [(0, .ref v0), (1, .ref v1), (2, .int v2), (4, .int v4), (6, .int v6), (7, .int v7), (8, .int (v8 + 1))] [] h23)))))))))))) : X G M Q 100 [(0, .ref v0), (1, .ref v1), (2, .int v2), (4, .int v4), (6, .int v6), (7, .int v7), (8, .int v8)] [] h := by
  refine x_iload hM d_Ki_divide_100 6 rfl ?_
  refine x_iload hM d_Ki_divide_102 3 rfl ?_
  refine x_icmp_ge (tgt := 147) hM d_Ki_divide_104 (by decide) (fun q40 => ?_) (fun q40 => ?_)
  · replace F := F.1 q40
    refine x_aload_n hM d_Ki_divide_147 rfl 0 rfl ?_
    obtain ⟨c21, F⟩ := F
    obtain ⟨c22, F⟩ := F
    refine x_getr hG hM ck_Ki 6 (Nat.le_of_ble_eq_true rfl) rfl rfl w_331 rfl d_Ki_divide_148 c21 c22 ?_
    refine x_iload_n hM d_Ki_divide_151 rfl 2 rfl ?_
    refine x_aload_n hM d_Ki_divide_152 rfl 0 rfl ?_
    obtain ⟨c19, F⟩ := F
    obtain ⟨c20, F⟩ := F
    refine x_getr hG hM ck_Ki 14 (Nat.le_of_ble_eq_true rfl) rfl rfl w_339 rfl d_Ki_divide_153 c19 c20 ?_
    refine x_iload hM d_Ki_divide_156 4 rfl ?_
    obtain ⟨c17, F⟩ := F
    obtain ⟨c18, F⟩ := F
    refine x_iaload hG hM d_Ki_divide_158 c17 c18 ?_
    refine x_aload_n hM d_Ki_divide_159 rfl 0 rfl ?_
    obtain ⟨c15, F⟩ := F
    obtain ⟨c16, F⟩ := F
    refine x_getr hG hM ck_Ki 13 (Nat.le_of_ble_eq_true rfl) rfl rfl w_338 rfl d_Ki_divide_160 c15 c16 ?_
    refine x_iload hM d_Ki_divide_163 4 rfl ?_
    obtain ⟨c13, F⟩ := F
    obtain ⟨c14, F⟩ := F
    refine x_iaload hG hM d_Ki_divide_165 c13 c14 ?_
    refine x_isub hM d_Ki_divide_166 ?_
    obtain ⟨c11, F⟩ := F
    obtain ⟨c12, F⟩ := F
    replace F := F _ rfl
    refine x_iastore hG hM d_Ki_divide_167 c11 c12 ?_
    refine x_aload_n hM d_Ki_divide_168 rfl 0 rfl ?_
    obtain ⟨c9, F⟩ := F
    obtain ⟨c10, F⟩ := F
    refine x_getr hG hM ck_Ki 7 (Nat.le_of_ble_eq_true rfl) rfl rfl w_332 rfl d_Ki_divide_169 c9 c10 ?_
    refine x_iload_n hM d_Ki_divide_172 rfl 2 rfl ?_
    refine x_aload_n hM d_Ki_divide_173 rfl 0 rfl ?_
    obtain ⟨c7, F⟩ := F
    obtain ⟨c8, F⟩ := F
    refine x_getr hG hM ck_Ki 14 (Nat.le_of_ble_eq_true rfl) rfl rfl w_339 rfl d_Ki_divide_174 c7 c8 ?_
    refine x_iload hM d_Ki_divide_177 4 rfl ?_
    obtain ⟨c5, F⟩ := F
    obtain ⟨c6, F⟩ := F
    refine x_iaload hG hM d_Ki_divide_179 c5 c6 ?_
    obtain ⟨c3, F⟩ := F
    obtain ⟨c4, F⟩ := F
    replace F := F _ rfl
    refine x_iastore hG hM d_Ki_divide_180 c3 c4 ?_
    refine x_iload hM d_Ki_divide_181 5 rfl ?_
    refine x_istore (lv2 := [(8, .int v7), (0, .ref v0), (1, .ref v1), (2, .int v2), (4, .int v4), (6, .int v6), (7, .int v7)]) hM d_Ki_divide_183 (Nat.le_of_ble_eq_true rfl) rfl ?_
    refine x_sub [1, 2, 0] rfl ?_
    exact F
  · replace F := F.2 q40
    refine x_iload hM d_Ki_divide_107 6 rfl ?_
    refine x_iload hM d_Ki_divide_109 4 rfl ?_
    refine x_icmp_eq (tgt := 141) hM d_Ki_divide_111 (by decide) (fun q39 => ?_) (fun q39 => ?_)
    · replace F := F.1 q39
      refine x_iinc (v := (v8 + 1)) (lv2 := [(8, .int (v8 + 1)), (0, .ref v0), (1, .ref v1), (2, .int v2), (4, .int v4), (6, .int v6), (7, .int v7)]) hM d_Ki_divide_141 (j := 6) rfl rfl (Nat.le_of_ble_eq_true rfl) rfl ?_
      refine x_goto (tgt := 100) hM d_Ki_divide_144 (by decide) ?_
      refine x_sub [1, 2, 3, 4, 5, 6, 0] rfl ?_
      exact F
    · replace F := F.2 q39
      refine x_aload_n hM d_Ki_divide_114 rfl 0 rfl ?_
      refine x_aload_n hM d_Ki_divide_115 rfl 0 rfl ?_
      obtain ⟨c37, F⟩ := F
      obtain ⟨c38, F⟩ := F
      refine x_getr hG hM ck_Ki 14 (Nat.le_of_ble_eq_true rfl) rfl rfl w_339 rfl d_Ki_divide_116 c37 c38 ?_
      refine x_iload hM d_Ki_divide_119 6 rfl ?_
      obtain ⟨c35, F⟩ := F
      obtain ⟨c36, F⟩ := F
      refine x_iaload hG hM d_Ki_divide_121 c35 c36 ?_
      refine x_aload_n hM d_Ki_divide_122 rfl 0 rfl ?_
      obtain ⟨c33, F⟩ := F
      obtain ⟨c34, F⟩ := F
      refine x_getr hG hM ck_Ki 13 (Nat.le_of_ble_eq_true rfl) rfl rfl w_338 rfl d_Ki_divide_123 c33 c34 ?_
      refine x_iload hM d_Ki_divide_126 6 rfl ?_
      obtain ⟨c31, F⟩ := F
      obtain ⟨c32, F⟩ := F
      refine x_iaload hG hM d_Ki_divide_128 c31 c32 ?_
      refine x_isub hM d_Ki_divide_129 ?_
      refine x_aload_n hM d_Ki_divide_130 rfl 0 rfl ?_
      obtain ⟨c29, F⟩ := F
      obtain ⟨c30, F⟩ := F
      refine x_getr hG hM ck_Ki 14 (Nat.le_of_ble_eq_true rfl) rfl rfl w_339 rfl d_Ki_divide_131 c29 c30 ?_
      refine x_iload hM d_Ki_divide_134 6 rfl ?_
      obtain ⟨c27, F⟩ := F
      obtain ⟨c28, F⟩ := F
      refine x_iaload hG hM d_Ki_divide_136 c27 c28 ?_
      obtain ⟨c26, F⟩ := F
      refine x_callV hG hM (r' := r_Ki_open) (ci := 9) [.int ((kI h (rf h v0 14) (Int32.toNatClampNeg v8)) - (kI h (rf h v0 13) (Int32.toNatClampNeg v8))), .int (kI h (rf h v0 14) (Int32.toNatClampNeg v8))] rfl rfl (Nat.le_of_ble_eq_true rfl) yk_Ki_open ⟨Nat.le_of_ble_eq_true rfl, Nat.le_of_ble_eq_true rfl⟩ w_711 w_713 ws_Ki_open rfl rfl (Nat.le_of_ble_eq_true rfl) d_Ki_divide_137 c26 (sem_mono F ?_)
      intro u24 h23 F
      obtain ⟨x25, rfl, F⟩ := F
      refine x_pop hM d_Ki_divide_140 rfl ?_
      refine x_iinc (v := (v8 + 1)) (lv2 := [(8, .int (v8 + 1)), (0, .ref v0), (1, .ref v1), (2, .int v2), (4, .int v4), (6, .int v6), (7, .int v7)]) hM d_Ki_divide_141 (j := 6) rfl rfl (Nat.le_of_ble_eq_true rfl) rfl ?_
      refine x_goto (tgt := 100) hM d_Ki_divide_144 (by decide) ?_
      refine x_sub [1, 2, 3, 4, 5, 6, 0] rfl ?_
      exact F
set_option maxRecDepth 100000 in
set_option maxHeartbeats 4000000 in
theorem S_Ki_divide_185 {G : Gc} {M : Mc} {Q : State → Prop} {K : Option Value → Hp → Prop} (hG : gok G) (hM : mok G M r_Ki_divide Q K) (v0 : Nat) (v1 : Nat) (v8 : Int32) (h : Hp) (F : kT h v0 = 10 ∧ (((kI h v0 0) ≤ v8 → K none h) ∧ (¬ (kI h v0 0) ≤ v8 → (kT h v0 = 10 ∧ kR h v0 6 = some (rf h v0 6) ∧ (kT h (rf h v0 6) = 50 ∧ vp_in v8 (kN h (rf h v0 6)) ∧ X G M Q 203 [(0, .ref v0), (1, .ref v1), (8, .int v8), (9, .int (kI h (rf h v0 6) (Int32.toNatClampNeg v8)))] [] h))))) : X G M Q 185 [(0, .ref v0), (1, .ref v1), (8, .int v8)] [] h := by
  refine x_iload hM d_Ki_divide_185 2 rfl ?_
  refine x_aload_n hM d_Ki_divide_187 rfl 0 rfl ?_
  obtain ⟨c6, F⟩ := F
  refine x_geti hG hM ck_Ki 0 (Nat.le_of_ble_eq_true rfl) rfl rfl w_321 rfl d_Ki_divide_188 c6 ?_
  refine x_icmp_ge (tgt := 239) hM d_Ki_divide_191 (by decide) (fun q5 => ?_) (fun q5 => ?_)
  · replace F := F.1 q5
    exact x_return hM d_Ki_divide_239 rfl F
  · replace F := F.2 q5
    refine x_aload_n hM d_Ki_divide_194 rfl 0 rfl ?_
    obtain ⟨c3, F⟩ := F
    obtain ⟨c4, F⟩ := F
    refine x_getr hG hM ck_Ki 6 (Nat.le_of_ble_eq_true rfl) rfl rfl w_331 rfl d_Ki_divide_195 c3 c4 ?_
    refine x_iload hM d_Ki_divide_198 2 rfl ?_
    obtain ⟨c1, F⟩ := F
    obtain ⟨c2, F⟩ := F
    refine x_iaload hG hM d_Ki_divide_200 c1 c2 ?_
    refine x_istore (lv2 := [(9, .int (kI h (rf h v0 6) (Int32.toNatClampNeg v8))), (0, .ref v0), (1, .ref v1), (8, .int v8)]) hM d_Ki_divide_201 (Nat.le_of_ble_eq_true rfl) rfl ?_
    refine x_sub [1, 2, 3, 0] rfl ?_
    exact F
set_option maxRecDepth 100000 in
set_option maxHeartbeats 4000000 in
theorem S_Ki_divide_203 {G : Gc} {M : Mc} {Q : State → Prop} {K : Option Value → Hp → Prop} (hG : gok G) (hM : mok G M r_Ki_divide Q K) (v0 : Nat) (v1 : Nat) (v8 : Int32) (v9 : Int32) (h : Hp) (F : kT h v0 = 10 ∧ kR h v0 7 = some (rf h v0 7) ∧ (kT h (rf h v0 7) = 50 ∧ vp_in v8 (kN h (rf h v0 7)) ∧ (((kI h (rf h v0 7) (Int32.toNatClampNeg v8)) ≤ v9 → X G M Q 185 [(0, .ref v0), (1, .ref v1), (8, .int (v8 + 1))] [] h) ∧ (¬ (kI h (rf h v0 7) (Int32.toNatClampNeg v8)) ≤ v9 → (kT h v0 = 10 ∧ kR h v0 15 = some (rf h v0 15) ∧ (kT h (rf h v0 15) = 50 ∧ vp_in v9 (kN h (rf h v0 15)) ∧ (kT h v0 = 10 ∧ sem G r_Ki_markThoseBefore [.ref v0, .ref v1, .int (kI h (rf h v0 15) (Int32.toNatClampNeg v9))] h (fun u2 h1 => u2 = none ∧ X G M Q 203 [(0, .ref v0), (1, .ref v1), (8, .int v8), (9, .int (v9 + 1))] [] h1)))))))) : X G M Q 203 [(0, .ref v0), (1, .ref v1), (8, .int v8), (9, .int v9)] [] h := by
  refine x_iload hM d_Ki_divide_203 3 rfl ?_
  refine x_aload_n hM d_Ki_divide_205 rfl 0 rfl ?_
  obtain ⟨c11, F⟩ := F
  obtain ⟨c12, F⟩ := F
  refine x_getr hG hM ck_Ki 7 (Nat.le_of_ble_eq_true rfl) rfl rfl w_332 rfl d_Ki_divide_206 c11 c12 ?_
  refine x_iload hM d_Ki_divide_209 2 rfl ?_
  obtain ⟨c9, F⟩ := F
  obtain ⟨c10, F⟩ := F
  refine x_iaload hG hM d_Ki_divide_211 c9 c10 ?_
  refine x_icmp_ge (tgt := 233) hM d_Ki_divide_212 (by decide) (fun q8 => ?_) (fun q8 => ?_)
  · replace F := F.1 q8
    refine x_iinc (v := (v8 + 1)) (lv2 := [(8, .int (v8 + 1)), (0, .ref v0), (1, .ref v1), (9, .int v9)]) hM d_Ki_divide_233 (j := 2) rfl rfl (Nat.le_of_ble_eq_true rfl) rfl ?_
    refine x_goto (tgt := 185) hM d_Ki_divide_236 (by decide) ?_
    refine x_sub [1, 2, 0] rfl ?_
    exact F
  · replace F := F.2 q8
    refine x_aload_n hM d_Ki_divide_215 rfl 0 rfl ?_
    refine x_aload_n hM d_Ki_divide_216 rfl 1 rfl ?_
    refine x_aload_n hM d_Ki_divide_217 rfl 0 rfl ?_
    obtain ⟨c6, F⟩ := F
    obtain ⟨c7, F⟩ := F
    refine x_getr hG hM ck_Ki 15 (Nat.le_of_ble_eq_true rfl) rfl rfl w_340 rfl d_Ki_divide_218 c6 c7 ?_
    refine x_iload hM d_Ki_divide_221 3 rfl ?_
    obtain ⟨c4, F⟩ := F
    obtain ⟨c5, F⟩ := F
    refine x_iaload hG hM d_Ki_divide_223 c4 c5 ?_
    obtain ⟨c3, F⟩ := F
    refine x_callV hG hM (r' := r_Ki_markThoseBefore) (ci := 9) [.ref v1, .int (kI h (rf h v0 15) (Int32.toNatClampNeg v9))] rfl rfl (Nat.le_of_ble_eq_true rfl) yk_Ki_markThoseBefore ⟨Nat.le_of_ble_eq_true rfl, Nat.le_of_ble_eq_true rfl⟩ w_752 w_754 ws_Ki_markThoseBefore rfl rfl (Nat.le_of_ble_eq_true rfl) d_Ki_divide_224 c3 (sem_mono F ?_)
    intro u2 h1 F
    obtain ⟨rfl, F⟩ := F
    refine x_iinc (v := (v9 + 1)) (lv2 := [(9, .int (v9 + 1)), (0, .ref v0), (1, .ref v1), (8, .int v8)]) hM d_Ki_divide_227 (j := 3) rfl rfl (Nat.le_of_ble_eq_true rfl) rfl ?_
    refine x_goto (tgt := 203) hM d_Ki_divide_230 (by decide) ?_
    refine x_sub [1, 2, 3, 0] rfl ?_
    exact F
set_option maxRecDepth 100000 in
set_option maxHeartbeats 4000000 in
theorem S_Ki_markThoseBefore_0 {G : Gc} {M : Mc} {Q : State → Prop} {K : Option Value → Hp → Prop} (hG : gok G) (hM : mok G M r_Ki_markThoseBefore Q K) (v0 : Nat) (v1 : Nat) (v2 : Int32) (h : Hp) (F : kT h v1 = 2 ∧ kR h v1 7 = some (rf h v1 7) ∧ (kT h (rf h v1 7) = 50 ∧ vp_in v2 (kN h (rf h v1 7)) ∧ X G M Q 10 [(0, .ref v0), (1, .ref v1), (3, .int (kI h (rf h v1 7) (Int32.toNatClampNeg v2))), (4, .int 0)] [] h)) : X G M Q 0 [(0, .ref v0), (1, .ref v1), (2, .int v2)] [] h := by
  refine x_aload_n hM d_Ki_markThoseBefore_0 rfl 1 rfl ?_
  obtain ⟨c3, F⟩ := F
  obtain ⟨c4, F⟩ := F
  refine x_getr hG hM ck_Wo 7 (Nat.le_of_ble_eq_true rfl) rfl rfl w_158 rfl d_Ki_markThoseBefore_1 c3 c4 ?_
  refine x_iload_n hM d_Ki_markThoseBefore_4 rfl 2 rfl ?_
  obtain ⟨c1, F⟩ := F
  obtain ⟨c2, F⟩ := F
  refine x_iaload hG hM d_Ki_markThoseBefore_5 c1 c2 ?_
  refine x_istore_n (lv2 := [(3, .int (kI h (rf h v1 7) (Int32.toNatClampNeg v2))), (0, .ref v0), (1, .ref v1), (2, .int v2)]) hM d_Ki_markThoseBefore_6 rfl (Nat.le_of_ble_eq_true rfl) rfl ?_
  refine x_iconst (v := 0) hM d_Ki_markThoseBefore_7 (by decide) ?_
  refine x_istore (lv2 := [(4, .int 0), (3, .int (kI h (rf h v1 7) (Int32.toNatClampNeg v2))), (0, .ref v0), (1, .ref v1), (2, .int v2)]) hM d_Ki_markThoseBefore_8 (Nat.le_of_ble_eq_true rfl) rfl ?_
  refine x_sub [2, 3, 1, 0] rfl ?_
  exact F
set_option maxRecDepth 100000 in
set_option maxHeartbeats 4000000 in
theorem S_Ki_markThoseBefore_10 {G : Gc} {M : Mc} {Q : State → Prop} {K : Option Value → Hp → Prop} (hG : gok G) (hM : mok G M r_Ki_markThoseBefore Q K) (v0 : Nat) (v1 : Nat) (v3 : Int32) (v4 : Int32) (h : Hp) (F : (147456 ≤ v4 → K none h) ∧ (¬ 147456 ≤ v4 → ((v3 = (-1) → K none h) ∧ (¬ v3 = (-1) → (sem G r_WP_stateOf [.int v3] h (fun u2 h1 => ∃ x3 : Int32, u2 = some (.int x3) ∧ (kT h1 v0 = 10 ∧ kR h1 v0 2 = some (rf h1 v0 2) ∧ (kT h1 (rf h1 v0 2) = 50 ∧ vp_in x3 (kN h1 (rf h1 v0 2)) ∧ (kT h1 v0 = 10 ∧ kR h1 v0 7 = some (rf h1 v0 7) ∧ (kT h1 (rf h1 v0 7) = 50 ∧ vp_in (kI h1 (rf h1 v0 2) (Int32.toNatClampNeg x3)) (kN h1 (rf h1 v0 7)) ∧ (kT h1 v0 = 10 ∧ kR h1 v0 6 = some (rf h1 v0 6) ∧ (kT h1 (rf h1 v0 6) = 50 ∧ vp_in (kI h1 (rf h1 v0 2) (Int32.toNatClampNeg x3)) (kN h1 (rf h1 v0 6)) ∧ ((((kI h1 (rf h1 v0 7) (Int32.toNatClampNeg (kI h1 (rf h1 v0 2) (Int32.toNatClampNeg x3)))) - (kI h1 (rf h1 v0 6) (Int32.toNatClampNeg (kI h1 (rf h1 v0 2) (Int32.toNatClampNeg x3))))) ≤ 1 → (kT h1 v1 = 2 ∧ sem G r_Wo_nextInto [.ref v1, .int v3] h1 (fun u5 h4 => ∃ x6 : Int32, u5 = some (.int x6) ∧ X G M Q 10 [(0, .ref v0), (1, .ref v1), (3, .int x6), (4, .int (v4 + 1))] [] h4))) ∧ (¬ ((kI h1 (rf h1 v0 7) (Int32.toNatClampNeg (kI h1 (rf h1 v0 2) (Int32.toNatClampNeg x3)))) - (kI h1 (rf h1 v0 6) (Int32.toNatClampNeg (kI h1 (rf h1 v0 2) (Int32.toNatClampNeg x3))))) ≤ 1 → (kT h1 v0 = 10 ∧ kR h1 v0 9 = some (rf h1 v0 9) ∧ (kT h1 (rf h1 v0 9) = 50 ∧ vp_in x3 (kN h1 (rf h1 v0 9)) ∧ (((kI h1 (rf h1 v0 9) (Int32.toNatClampNeg x3)) = 0 → (kT h1 v0 = 10 ∧ sem G r_Ki_moveToChanged [.ref v0, .int x3, .int (kI h1 (rf h1 v0 2) (Int32.toNatClampNeg x3))] h1 (fun u9 h8 => u9 = none ∧ X G M Q 74 [(0, .ref v0), (1, .ref v1), (3, .int v3), (4, .int v4), (5, .int x3)] [] h8))) ∧ (¬ (kI h1 (rf h1 v0 9) (Int32.toNatClampNeg x3)) = 0 → X G M Q 74 [(0, .ref v0), (1, .ref v1), (3, .int v3), (4, .int v4), (5, .int x3)] [] h1)))))))))))))))))) : X G M Q 10 [(0, .ref v0), (1, .ref v1), (3, .int v3), (4, .int v4)] [] h := by
  refine x_iload hM d_Ki_markThoseBefore_10 3 rfl ?_
  refine x_ldc hG hM rfl w_756 d_Ki_markThoseBefore_12 ?_
  refine x_icmp_ge (tgt := 102) hM d_Ki_markThoseBefore_14 (by decide) (fun q30 => ?_) (fun q30 => ?_)
  · replace F := F.1 q30
    exact x_return hM d_Ki_markThoseBefore_102 rfl F
  · replace F := F.2 q30
    refine x_iload_n hM d_Ki_markThoseBefore_17 rfl 2 rfl ?_
    refine x_iconst (v := (-1)) hM d_Ki_markThoseBefore_18 (by decide) ?_
    refine x_icmp_eq (tgt := 102) hM d_Ki_markThoseBefore_19 (by decide) (fun q29 => ?_) (fun q29 => ?_)
    · replace F := F.1 q29
      exact x_return hM d_Ki_markThoseBefore_102 rfl F
    · replace F := F.2 q29
      refine x_iload_n hM d_Ki_markThoseBefore_22 rfl 2 rfl ?_
      refine x_callSN hG hM (r' := r_WP_stateOf) [.int v3] rfl yk_WP_stateOf ⟨Nat.le_of_ble_eq_true rfl, Nat.le_of_ble_eq_true rfl⟩ w_757 w_665 rfl rfl (Nat.le_of_ble_eq_true rfl) d_Ki_markThoseBefore_23 (sem_mono F ?_)
      intro u2 h1 F
      obtain ⟨x3, rfl, F⟩ := F
      refine x_istore (lv2 := [(5, .int x3), (0, .ref v0), (1, .ref v1), (3, .int v3), (4, .int v4)]) hM d_Ki_markThoseBefore_26 (Nat.le_of_ble_eq_true rfl) rfl ?_
      refine x_aload_n hM d_Ki_markThoseBefore_28 rfl 1 rfl ?_
      obtain ⟨c27, F⟩ := F
      obtain ⟨c28, F⟩ := F
      refine x_getr hG hM ck_Ki 2 (Nat.le_of_ble_eq_true rfl) rfl rfl w_325 rfl d_Ki_markThoseBefore_29 c27 c28 ?_
      refine x_iload hM d_Ki_markThoseBefore_32 0 rfl ?_
      obtain ⟨c25, F⟩ := F
      obtain ⟨c26, F⟩ := F
      refine x_iaload hG hM d_Ki_markThoseBefore_34 c25 c26 ?_
      refine x_istore (lv2 := [(6, .int (kI h1 (rf h1 v0 2) (Int32.toNatClampNeg x3))), (5, .int x3), (0, .ref v0), (1, .ref v1), (3, .int v3), (4, .int v4)]) hM d_Ki_markThoseBefore_35 (Nat.le_of_ble_eq_true rfl) rfl ?_
      refine x_aload_n hM d_Ki_markThoseBefore_37 rfl 2 rfl ?_
      obtain ⟨c23, F⟩ := F
      obtain ⟨c24, F⟩ := F
      refine x_getr hG hM ck_Ki 7 (Nat.le_of_ble_eq_true rfl) rfl rfl w_332 rfl d_Ki_markThoseBefore_38 c23 c24 ?_
      refine x_iload hM d_Ki_markThoseBefore_41 0 rfl ?_
      obtain ⟨c21, F⟩ := F
      obtain ⟨c22, F⟩ := F
      refine x_iaload hG hM d_Ki_markThoseBefore_43 c21 c22 ?_
      refine x_aload_n hM d_Ki_markThoseBefore_44 rfl 2 rfl ?_
      obtain ⟨c19, F⟩ := F
      obtain ⟨c20, F⟩ := F
      refine x_getr hG hM ck_Ki 6 (Nat.le_of_ble_eq_true rfl) rfl rfl w_331 rfl d_Ki_markThoseBefore_45 c19 c20 ?_
      refine x_iload hM d_Ki_markThoseBefore_48 0 rfl ?_
      obtain ⟨c17, F⟩ := F
      obtain ⟨c18, F⟩ := F
      refine x_iaload hG hM d_Ki_markThoseBefore_50 c17 c18 ?_
      refine x_isub hM d_Ki_markThoseBefore_51 ?_
      refine x_iconst (v := 1) hM d_Ki_markThoseBefore_52 (by decide) ?_
      refine x_icmp_le (tgt := 90) hM d_Ki_markThoseBefore_53 (by decide) (fun q16 => ?_) (fun q16 => ?_)
      · replace F := F.1 q16
        refine x_aload_n hM d_Ki_markThoseBefore_90 rfl 3 rfl ?_
        refine x_iload_n hM d_Ki_markThoseBefore_91 rfl 4 rfl ?_
        obtain ⟨c7, F⟩ := F
        refine x_callV hG hM (r' := r_Wo_nextInto) (ci := 1) [.int v3] rfl rfl (Nat.le_of_ble_eq_true rfl) yk_Wo_nextInto ⟨Nat.le_of_ble_eq_true rfl, Nat.le_of_ble_eq_true rfl⟩ w_763 w_675 w_676 rfl rfl (Nat.le_of_ble_eq_true rfl) d_Ki_markThoseBefore_92 c7 (sem_mono F ?_)
        intro u5 h4 F
        obtain ⟨x6, rfl, F⟩ := F
        refine x_istore_n (lv2 := [(3, .int x6), (6, .int (kI h1 (rf h1 v0 2) (Int32.toNatClampNeg x3))), (5, .int x3), (0, .ref v0), (1, .ref v1), (4, .int v4)]) hM d_Ki_markThoseBefore_95 rfl (Nat.le_of_ble_eq_true rfl) rfl ?_
        refine x_iinc (v := (v4 + 1)) (lv2 := [(4, .int (v4 + 1)), (3, .int x6), (6, .int (kI h1 (rf h1 v0 2) (Int32.toNatClampNeg x3))), (5, .int x3), (0, .ref v0), (1, .ref v1)]) hM d_Ki_markThoseBefore_96 (j := 5) rfl rfl (Nat.le_of_ble_eq_true rfl) rfl ?_
        refine x_goto (tgt := 10) hM d_Ki_markThoseBefore_99 (by decide) ?_
        refine x_sub [4, 5, 1, 0] rfl ?_
        exact F
      · replace F := F.2 q16
        refine x_aload_n hM d_Ki_markThoseBefore_56 rfl 2 rfl ?_
        obtain ⟨c14, F⟩ := F
        obtain ⟨c15, F⟩ := F
        refine x_getr hG hM ck_Ki 9 (Nat.le_of_ble_eq_true rfl) rfl rfl w_334 rfl d_Ki_markThoseBefore_57 c14 c15 ?_
        refine x_iload hM d_Ki_markThoseBefore_60 1 rfl ?_
        obtain ⟨c12, F⟩ := F
        obtain ⟨c13, F⟩ := F
        refine x_iaload hG hM d_Ki_markThoseBefore_62 c12 c13 ?_
        refine x_if_ne (tgt := 74) hM d_Ki_markThoseBefore_63 (by decide) (fun q11 => ?_) (fun q11 => ?_)
        · replace F := F.2 q11
          refine x_sub [2, 3, 4, 5, 1] rfl ?_
          exact F
        · replace F := F.1 q11
          refine x_aload_n hM d_Ki_markThoseBefore_66 rfl 2 rfl ?_
          refine x_iload hM d_Ki_markThoseBefore_67 1 rfl ?_
          refine x_iload hM d_Ki_markThoseBefore_69 0 rfl ?_
          obtain ⟨c10, F⟩ := F
          refine x_callV hG hM (r' := r_Ki_moveToChanged) (ci := 9) [.int x3, .int (kI h1 (rf h1 v0 2) (Int32.toNatClampNeg x3))] rfl rfl (Nat.le_of_ble_eq_true rfl) yk_Ki_moveToChanged ⟨Nat.le_of_ble_eq_true rfl, Nat.le_of_ble_eq_true rfl⟩ w_758 w_760 ws_Ki_moveToChanged rfl rfl (Nat.le_of_ble_eq_true rfl) d_Ki_markThoseBefore_71 c10 (sem_mono F ?_)
          intro u9 h8 F
          obtain ⟨rfl, F⟩ := F
          refine x_sub [2, 3, 4, 5, 1] rfl ?_
          exact F
set_option maxRecDepth 100000 in
set_option maxHeartbeats 4000000 in
theorem S_Ki_markThoseBefore_74 {G : Gc} {M : Mc} {Q : State → Prop} {K : Option Value → Hp → Prop} (hG : gok G) (hM : mok G M r_Ki_markThoseBefore Q K) (v0 : Nat) (v1 : Nat) (v3 : Int32) (v4 : Int32) (v5 : Int32) (h : Hp) (F : kT h v0 = 10 ∧ kR h v0 9 = some (rf h v0 9) ∧ (kT h (rf h v0 9) = 50 ∧ vp_in v5 (kN h (rf h v0 9)) ∧ (sem G r_WP_actOf [.int v3] h (fun u2 h1 => ∃ x3 : Int32, u2 = some (.int x3) ∧ (kT h1 (rf h v0 9) = 50 ∧ vp_in v5 (kN h1 (rf h v0 9)) ∧ (∀ h4 : Hp, h4 = wI h1 (rf h v0 9) (Int32.toNatClampNeg v5) ((kI h (rf h v0 9) (Int32.toNatClampNeg v5)) ||| (1 <<< (x3 &&& 31))) → (kT h4 v1 = 2 ∧ sem G r_Wo_nextInto [.ref v1, .int v3] h4 (fun u6 h5 => ∃ x7 : Int32, u6 = some (.int x7) ∧ X G M Q 10 [(0, .ref v0), (1, .ref v1), (3, .int x7), (4, .int (v4 + 1))] [] h5)))))))) : X G M Q 74 [(0, .ref v0), (1, .ref v1), (3, .int v3), (4, .int v4), (5, .int v5)] [] h := by
  refine x_aload_n hM d_Ki_markThoseBefore_74 rfl 0 rfl ?_
  obtain ⟨c13, F⟩ := F
  obtain ⟨c14, F⟩ := F
  refine x_getr hG hM ck_Ki 9 (Nat.le_of_ble_eq_true rfl) rfl rfl w_334 rfl d_Ki_markThoseBefore_75 c13 c14 ?_
  refine x_iload hM d_Ki_markThoseBefore_78 4 rfl ?_
  refine x_dup2 hM d_Ki_markThoseBefore_80 rfl rfl ?_
  obtain ⟨c11, F⟩ := F
  obtain ⟨c12, F⟩ := F
  refine x_iaload hG hM d_Ki_markThoseBefore_81 c11 c12 ?_
  refine x_iconst (v := 1) hM d_Ki_markThoseBefore_82 (by decide) ?_
  refine x_iload_n hM d_Ki_markThoseBefore_83 rfl 2 rfl ?_
  refine x_callSN hG hM (r' := r_WP_actOf) [.int v3] rfl yk_WP_actOf ⟨Nat.le_of_ble_eq_true rfl, Nat.le_of_ble_eq_true rfl⟩ w_762 w_672 rfl rfl (Nat.le_of_ble_eq_true rfl) d_Ki_markThoseBefore_84 (sem_mono F ?_)
  intro u2 h1 F
  obtain ⟨x3, rfl, F⟩ := F
  refine x_ishl hM d_Ki_markThoseBefore_87 ?_
  refine x_ior hM d_Ki_markThoseBefore_88 ?_
  obtain ⟨c9, F⟩ := F
  obtain ⟨c10, F⟩ := F
  replace F := F _ rfl
  refine x_iastore hG hM d_Ki_markThoseBefore_89 c9 c10 ?_
  refine x_aload_n hM d_Ki_markThoseBefore_90 rfl 1 rfl ?_
  refine x_iload_n hM d_Ki_markThoseBefore_91 rfl 2 rfl ?_
  obtain ⟨c8, F⟩ := F
  refine x_callV hG hM (r' := r_Wo_nextInto) (ci := 1) [.int v3] rfl rfl (Nat.le_of_ble_eq_true rfl) yk_Wo_nextInto ⟨Nat.le_of_ble_eq_true rfl, Nat.le_of_ble_eq_true rfl⟩ w_763 w_675 w_676 rfl rfl (Nat.le_of_ble_eq_true rfl) d_Ki_markThoseBefore_92 c8 (sem_mono F ?_)
  intro u6 h5 F
  obtain ⟨x7, rfl, F⟩ := F
  refine x_istore_n (lv2 := [(3, .int x7), (0, .ref v0), (1, .ref v1), (4, .int v4), (5, .int v5)]) hM d_Ki_markThoseBefore_95 rfl (Nat.le_of_ble_eq_true rfl) rfl ?_
  refine x_iinc (v := (v4 + 1)) (lv2 := [(4, .int (v4 + 1)), (3, .int x7), (0, .ref v0), (1, .ref v1), (5, .int v5)]) hM d_Ki_markThoseBefore_96 (j := 3) rfl rfl (Nat.le_of_ble_eq_true rfl) rfl ?_
  refine x_goto (tgt := 10) hM d_Ki_markThoseBefore_99 (by decide) ?_
  refine x_sub [2, 3, 1, 0] rfl ?_
  exact F
set_option maxRecDepth 100000 in
set_option maxHeartbeats 4000000 in
theorem S_Ki_moveToChanged_0 {G : Gc} {M : Mc} {Q : State → Prop} {K : Option Value → Hp → Prop} (hG : gok G) (hM : mok G M r_Ki_moveToChanged Q K) (v0 : Nat) (v1 : Int32) (v2 : Int32) (h : Hp) (F : kT h v0 = 10 ∧ kR h v0 6 = some (rf h v0 6) ∧ (kT h (rf h v0 6) = 50 ∧ vp_in v2 (kN h (rf h v0 6)) ∧ (kT h v0 = 10 ∧ kR h v0 8 = some (rf h v0 8) ∧ (kT h (rf h v0 8) = 50 ∧ vp_in v2 (kN h (rf h v0 8)) ∧ (kT h v0 = 10 ∧ kR h v0 4 = some (rf h v0 4) ∧ (kT h (rf h v0 4) = 50 ∧ vp_in ((kI h (rf h v0 6) (Int32.toNatClampNeg v2)) + (kI h (rf h v0 8) (Int32.toNatClampNeg v2))) (kN h (rf h v0 4)) ∧ (kT h v0 = 10 ∧ kR h v0 4 = some (rf h v0 4) ∧ (kT h v0 = 10 ∧ kR h v0 5 = some (rf h v0 5) ∧ (kT h (rf h v0 5) = 50 ∧ vp_in v1 (kN h (rf h v0 5)) ∧ (kT h (rf h v0 4) = 50 ∧ vp_in (kI h (rf h v0 5) (Int32.toNatClampNeg v1)) (kN h (rf h v0 4)) ∧ (∀ h1 : Hp, h1 = wI h (rf h v0 4) (Int32.toNatClampNeg (kI h (rf h v0 5) (Int32.toNatClampNeg v1))) (kI h (rf h v0 4) (Int32.toNatClampNeg ((kI h (rf h v0 6) (Int32.toNatClampNeg v2)) + (kI h (rf h v0 8) (Int32.toNatClampNeg v2))))) → (kT h1 v0 = 10 ∧ kR h1 v0 5 = some (rf h1 v0 5) ∧ (kT h1 v0 = 10 ∧ kR h1 v0 5 = some (rf h1 v0 5) ∧ (kT h1 (rf h1 v0 5) = 50 ∧ vp_in v1 (kN h1 (rf h1 v0 5)) ∧ (kT h1 (rf h1 v0 5) = 50 ∧ vp_in (kI h (rf h v0 4) (Int32.toNatClampNeg ((kI h (rf h v0 6) (Int32.toNatClampNeg v2)) + (kI h (rf h v0 8) (Int32.toNatClampNeg v2))))) (kN h1 (rf h1 v0 5)) ∧ (∀ h2 : Hp, h2 = wI h1 (rf h1 v0 5) (Int32.toNatClampNeg (kI h (rf h v0 4) (Int32.toNatClampNeg ((kI h (rf h v0 6) (Int32.toNatClampNeg v2)) + (kI h (rf h v0 8) (Int32.toNatClampNeg v2)))))) (kI h1 (rf h1 v0 5) (Int32.toNatClampNeg v1)) → (kT h2 v0 = 10 ∧ kR h2 v0 4 = some (rf h2 v0 4) ∧ (kT h2 (rf h2 v0 4) = 50 ∧ vp_in ((kI h (rf h v0 6) (Int32.toNatClampNeg v2)) + (kI h (rf h v0 8) (Int32.toNatClampNeg v2))) (kN h2 (rf h2 v0 4)) ∧ (∀ h3 : Hp, h3 = wI h2 (rf h2 v0 4) (Int32.toNatClampNeg ((kI h (rf h v0 6) (Int32.toNatClampNeg v2)) + (kI h (rf h v0 8) (Int32.toNatClampNeg v2)))) v1 → (kT h3 v0 = 10 ∧ kR h3 v0 5 = some (rf h3 v0 5) ∧ (kT h3 (rf h3 v0 5) = 50 ∧ vp_in v1 (kN h3 (rf h3 v0 5)) ∧ (∀ h4 : Hp, h4 = wI h3 (rf h3 v0 5) (Int32.toNatClampNeg v1) ((kI h (rf h v0 6) (Int32.toNatClampNeg v2)) + (kI h (rf h v0 8) (Int32.toNatClampNeg v2))) → (kT h4 v0 = 10 ∧ kR h4 v0 8 = some (rf h4 v0 8) ∧ (kT h4 (rf h4 v0 8) = 50 ∧ vp_in v2 (kN h4 (rf h4 v0 8)) ∧ (((kI h4 (rf h4 v0 8) (Int32.toNatClampNeg v2)) = 0 → (kT h4 v0 = 10 ∧ kR h4 v0 10 = some (rf h4 v0 10) ∧ (kT h4 v0 = 10 ∧ (kT h4 (rf h4 v0 10) = 50 ∧ vp_in (kI h4 v0 11) (kN h4 (rf h4 v0 10)) ∧ (∀ h12 : Hp, h12 = wI h4 (rf h4 v0 10) (Int32.toNatClampNeg (kI h4 v0 11)) v2 → (kT h12 v0 = 10 ∧ (kT h12 v0 = 10 ∧ (∀ h13 : Hp, h13 = wI h12 v0 11 ((kI h12 v0 11) + 1) → (kT h13 v0 = 10 ∧ kR h13 v0 8 = some (rf h13 v0 8) ∧ (kT h13 (rf h13 v0 8) = 50 ∧ vp_in v2 (kN h13 (rf h13 v0 8)) ∧ (kT h13 (rf h13 v0 8) = 50 ∧ vp_in v2 (kN h13 (rf h13 v0 8)) ∧ (∀ h14 : Hp, h14 = wI h13 (rf h13 v0 8) (Int32.toNatClampNeg v2) ((kI h13 (rf h13 v0 8) (Int32.toNatClampNeg v2)) + 1) → K none h14)))))))))))) ∧ (¬ (kI h4 (rf h4 v0 8) (Int32.toNatClampNeg v2)) = 0 → (kT h4 v0 = 10 ∧ kR h4 v0 8 = some (rf h4 v0 8) ∧ (kT h4 (rf h4 v0 8) = 50 ∧ vp_in v2 (kN h4 (rf h4 v0 8)) ∧ (kT h4 (rf h4 v0 8) = 50 ∧ vp_in v2 (kN h4 (rf h4 v0 8)) ∧ (∀ h5 : Hp, h5 = wI h4 (rf h4 v0 8) (Int32.toNatClampNeg v2) ((kI h4 (rf h4 v0 8) (Int32.toNatClampNeg v2)) + 1) → K none h5)))))))))))))))))))))))))))))) : X G M Q 0 [(0, .ref v0), (1, .int v1), (2, .int v2)] [] h := by
  refine x_aload_n hM d_Ki_moveToChanged_0 rfl 0 rfl ?_
  obtain ⟨c67, F⟩ := F
  obtain ⟨c68, F⟩ := F
  refine x_getr hG hM ck_Ki 6 (Nat.le_of_ble_eq_true rfl) rfl rfl w_331 rfl d_Ki_moveToChanged_1 c67 c68 ?_
  refine x_iload_n hM d_Ki_moveToChanged_4 rfl 2 rfl ?_
  obtain ⟨c65, F⟩ := F
  obtain ⟨c66, F⟩ := F
  refine x_iaload hG hM d_Ki_moveToChanged_5 c65 c66 ?_
  refine x_aload_n hM d_Ki_moveToChanged_6 rfl 0 rfl ?_
  obtain ⟨c63, F⟩ := F
  obtain ⟨c64, F⟩ := F
  refine x_getr hG hM ck_Ki 8 (Nat.le_of_ble_eq_true rfl) rfl rfl w_333 rfl d_Ki_moveToChanged_7 c63 c64 ?_
  refine x_iload_n hM d_Ki_moveToChanged_10 rfl 2 rfl ?_
  obtain ⟨c61, F⟩ := F
  obtain ⟨c62, F⟩ := F
  refine x_iaload hG hM d_Ki_moveToChanged_11 c61 c62 ?_
  refine x_iadd hM d_Ki_moveToChanged_12 ?_
  refine x_istore_n (lv2 := [(3, .int ((kI h (rf h v0 6) (Int32.toNatClampNeg v2)) + (kI h (rf h v0 8) (Int32.toNatClampNeg v2)))), (0, .ref v0), (1, .int v1), (2, .int v2)]) hM d_Ki_moveToChanged_13 rfl (Nat.le_of_ble_eq_true rfl) rfl ?_
  refine x_aload_n hM d_Ki_moveToChanged_14 rfl 1 rfl ?_
  obtain ⟨c59, F⟩ := F
  obtain ⟨c60, F⟩ := F
  refine x_getr hG hM ck_Ki 4 (Nat.le_of_ble_eq_true rfl) rfl rfl w_329 rfl d_Ki_moveToChanged_15 c59 c60 ?_
  refine x_iload_n hM d_Ki_moveToChanged_18 rfl 0 rfl ?_
  obtain ⟨c57, F⟩ := F
  obtain ⟨c58, F⟩ := F
  refine x_iaload hG hM d_Ki_moveToChanged_19 c57 c58 ?_
  refine x_istore (lv2 := [(4, .int (kI h (rf h v0 4) (Int32.toNatClampNeg ((kI h (rf h v0 6) (Int32.toNatClampNeg v2)) + (kI h (rf h v0 8) (Int32.toNatClampNeg v2)))))), (3, .int ((kI h (rf h v0 6) (Int32.toNatClampNeg v2)) + (kI h (rf h v0 8) (Int32.toNatClampNeg v2)))), (0, .ref v0), (1, .int v1), (2, .int v2)]) hM d_Ki_moveToChanged_20 (Nat.le_of_ble_eq_true rfl) rfl ?_
  refine x_aload_n hM d_Ki_moveToChanged_22 rfl 2 rfl ?_
  obtain ⟨c55, F⟩ := F
  obtain ⟨c56, F⟩ := F
  refine x_getr hG hM ck_Ki 4 (Nat.le_of_ble_eq_true rfl) rfl rfl w_329 rfl d_Ki_moveToChanged_23 c55 c56 ?_
  refine x_aload_n hM d_Ki_moveToChanged_26 rfl 2 rfl ?_
  obtain ⟨c53, F⟩ := F
  obtain ⟨c54, F⟩ := F
  refine x_getr hG hM ck_Ki 5 (Nat.le_of_ble_eq_true rfl) rfl rfl w_330 rfl d_Ki_moveToChanged_27 c53 c54 ?_
  refine x_iload_n hM d_Ki_moveToChanged_30 rfl 3 rfl ?_
  obtain ⟨c51, F⟩ := F
  obtain ⟨c52, F⟩ := F
  refine x_iaload hG hM d_Ki_moveToChanged_31 c51 c52 ?_
  refine x_iload hM d_Ki_moveToChanged_32 0 rfl ?_
  obtain ⟨c49, F⟩ := F
  obtain ⟨c50, F⟩ := F
  replace F := F _ rfl
  refine x_iastore hG hM d_Ki_moveToChanged_34 c49 c50 ?_
  refine x_aload_n hM d_Ki_moveToChanged_35 rfl 2 rfl ?_
  obtain ⟨c47, F⟩ := F
  obtain ⟨c48, F⟩ := F
  refine x_getr hG hM ck_Ki 5 (Nat.le_of_ble_eq_true rfl) rfl rfl w_330 rfl d_Ki_moveToChanged_36 c47 c48 ?_
  refine x_iload hM d_Ki_moveToChanged_39 0 rfl ?_
  refine x_aload_n hM d_Ki_moveToChanged_41 rfl 2 rfl ?_
  obtain ⟨c45, F⟩ := F
  obtain ⟨c46, F⟩ := F
  refine x_getr hG hM ck_Ki 5 (Nat.le_of_ble_eq_true rfl) rfl rfl w_330 rfl d_Ki_moveToChanged_42 c45 c46 ?_
  refine x_iload_n hM d_Ki_moveToChanged_45 rfl 3 rfl ?_
  obtain ⟨c43, F⟩ := F
  obtain ⟨c44, F⟩ := F
  refine x_iaload hG hM d_Ki_moveToChanged_46 c43 c44 ?_
  obtain ⟨c41, F⟩ := F
  obtain ⟨c42, F⟩ := F
  replace F := F _ rfl
  refine x_iastore hG hM d_Ki_moveToChanged_47 c41 c42 ?_
  refine x_aload_n hM d_Ki_moveToChanged_48 rfl 2 rfl ?_
  obtain ⟨c39, F⟩ := F
  obtain ⟨c40, F⟩ := F
  refine x_getr hG hM ck_Ki 4 (Nat.le_of_ble_eq_true rfl) rfl rfl w_329 rfl d_Ki_moveToChanged_49 c39 c40 ?_
  refine x_iload_n hM d_Ki_moveToChanged_52 rfl 1 rfl ?_
  refine x_iload_n hM d_Ki_moveToChanged_53 rfl 3 rfl ?_
  obtain ⟨c37, F⟩ := F
  obtain ⟨c38, F⟩ := F
  replace F := F _ rfl
  refine x_iastore hG hM d_Ki_moveToChanged_54 c37 c38 ?_
  refine x_aload_n hM d_Ki_moveToChanged_55 rfl 2 rfl ?_
  obtain ⟨c35, F⟩ := F
  obtain ⟨c36, F⟩ := F
  refine x_getr hG hM ck_Ki 5 (Nat.le_of_ble_eq_true rfl) rfl rfl w_330 rfl d_Ki_moveToChanged_56 c35 c36 ?_
  refine x_iload_n hM d_Ki_moveToChanged_59 rfl 3 rfl ?_
  refine x_iload_n hM d_Ki_moveToChanged_60 rfl 1 rfl ?_
  obtain ⟨c33, F⟩ := F
  obtain ⟨c34, F⟩ := F
  replace F := F _ rfl
  refine x_iastore hG hM d_Ki_moveToChanged_61 c33 c34 ?_
  refine x_aload_n hM d_Ki_moveToChanged_62 rfl 2 rfl ?_
  obtain ⟨c31, F⟩ := F
  obtain ⟨c32, F⟩ := F
  refine x_getr hG hM ck_Ki 8 (Nat.le_of_ble_eq_true rfl) rfl rfl w_333 rfl d_Ki_moveToChanged_63 c31 c32 ?_
  refine x_iload_n hM d_Ki_moveToChanged_66 rfl 4 rfl ?_
  obtain ⟨c29, F⟩ := F
  obtain ⟨c30, F⟩ := F
  refine x_iaload hG hM d_Ki_moveToChanged_67 c29 c30 ?_
  refine x_if_ne (tgt := 91) hM d_Ki_moveToChanged_68 (by decide) (fun q28 => ?_) (fun q28 => ?_)
  · replace F := F.2 q28
    refine x_aload_n hM d_Ki_moveToChanged_91 rfl 2 rfl ?_
    obtain ⟨c10, F⟩ := F
    obtain ⟨c11, F⟩ := F
    refine x_getr hG hM ck_Ki 8 (Nat.le_of_ble_eq_true rfl) rfl rfl w_333 rfl d_Ki_moveToChanged_92 c10 c11 ?_
    refine x_iload_n hM d_Ki_moveToChanged_95 rfl 4 rfl ?_
    refine x_dup2 hM d_Ki_moveToChanged_96 rfl rfl ?_
    obtain ⟨c8, F⟩ := F
    obtain ⟨c9, F⟩ := F
    refine x_iaload hG hM d_Ki_moveToChanged_97 c8 c9 ?_
    refine x_iconst (v := 1) hM d_Ki_moveToChanged_98 (by decide) ?_
    refine x_iadd hM d_Ki_moveToChanged_99 ?_
    obtain ⟨c6, F⟩ := F
    obtain ⟨c7, F⟩ := F
    replace F := F _ rfl
    refine x_iastore hG hM d_Ki_moveToChanged_100 c6 c7 ?_
    exact x_return hM d_Ki_moveToChanged_101 rfl F
  · replace F := F.1 q28
    refine x_aload_n hM d_Ki_moveToChanged_71 rfl 2 rfl ?_
    obtain ⟨c26, F⟩ := F
    obtain ⟨c27, F⟩ := F
    refine x_getr hG hM ck_Ki 10 (Nat.le_of_ble_eq_true rfl) rfl rfl w_335 rfl d_Ki_moveToChanged_72 c26 c27 ?_
    refine x_aload_n hM d_Ki_moveToChanged_75 rfl 2 rfl ?_
    obtain ⟨c25, F⟩ := F
    refine x_geti hG hM ck_Ki 11 (Nat.le_of_ble_eq_true rfl) rfl rfl w_336 rfl d_Ki_moveToChanged_76 c25 ?_
    refine x_iload_n hM d_Ki_moveToChanged_79 rfl 4 rfl ?_
    obtain ⟨c23, F⟩ := F
    obtain ⟨c24, F⟩ := F
    replace F := F _ rfl
    refine x_iastore hG hM d_Ki_moveToChanged_80 c23 c24 ?_
    refine x_aload_n hM d_Ki_moveToChanged_81 rfl 2 rfl ?_
    refine x_dup hM d_Ki_moveToChanged_82 rfl ?_
    obtain ⟨c22, F⟩ := F
    refine x_geti hG hM ck_Ki 11 (Nat.le_of_ble_eq_true rfl) rfl rfl w_336 rfl d_Ki_moveToChanged_83 c22 ?_
    refine x_iconst (v := 1) hM d_Ki_moveToChanged_86 (by decide) ?_
    refine x_iadd hM d_Ki_moveToChanged_87 ?_
    obtain ⟨c21, F⟩ := F
    replace F := F _ rfl
    refine x_puti hG hM ck_Ki 11 (Nat.le_of_ble_eq_true rfl) rfl rfl w_336 rfl d_Ki_moveToChanged_88 (Or.inl rfl) c21 ?_
    refine x_aload_n hM d_Ki_moveToChanged_91 rfl 2 rfl ?_
    obtain ⟨c19, F⟩ := F
    obtain ⟨c20, F⟩ := F
    refine x_getr hG hM ck_Ki 8 (Nat.le_of_ble_eq_true rfl) rfl rfl w_333 rfl d_Ki_moveToChanged_92 c19 c20 ?_
    refine x_iload_n hM d_Ki_moveToChanged_95 rfl 4 rfl ?_
    refine x_dup2 hM d_Ki_moveToChanged_96 rfl rfl ?_
    obtain ⟨c17, F⟩ := F
    obtain ⟨c18, F⟩ := F
    refine x_iaload hG hM d_Ki_moveToChanged_97 c17 c18 ?_
    refine x_iconst (v := 1) hM d_Ki_moveToChanged_98 (by decide) ?_
    refine x_iadd hM d_Ki_moveToChanged_99 ?_
    obtain ⟨c15, F⟩ := F
    obtain ⟨c16, F⟩ := F
    replace F := F _ rfl
    refine x_iastore hG hM d_Ki_moveToChanged_100 c15 c16 ?_
    exact x_return hM d_Ki_moveToChanged_101 rfl F
set_option maxRecDepth 100000 in
set_option maxHeartbeats 4000000 in
theorem S_Ki_findLeast_0 {G : Gc} {M : Mc} {Q : State → Prop} {K : Option Value → Hp → Prop} (hG : gok G) (hM : mok G M r_Ki_findLeast Q K) (v0 : Nat) (v1 : Int32) (h : Hp) (F : kT h v0 = 10 ∧ kR h v0 3 = some (rf h v0 3) ∧ (kT h v0 = 10 ∧ (sem G r_Ar_fill [.ref (rf h v0 3), .int 0, .int (kI h v0 0), .int (-1)] h (fun u2 h1 => u2 = none ∧ X G M Q 15 [(0, .ref v0), (1, .int v1), (2, .int 0)] [] h1)))) : X G M Q 0 [(0, .ref v0), (1, .int v1)] [] h := by
  refine x_aload_n hM d_Ki_findLeast_0 rfl 0 rfl ?_
  obtain ⟨c4, F⟩ := F
  obtain ⟨c5, F⟩ := F
  refine x_getr hG hM ck_Ki 3 (Nat.le_of_ble_eq_true rfl) rfl rfl w_327 rfl d_Ki_findLeast_1 c4 c5 ?_
  refine x_iconst (v := 0) hM d_Ki_findLeast_4 (by decide) ?_
  refine x_aload_n hM d_Ki_findLeast_5 rfl 0 rfl ?_
  obtain ⟨c3, F⟩ := F
  refine x_geti hG hM ck_Ki 0 (Nat.le_of_ble_eq_true rfl) rfl rfl w_321 rfl d_Ki_findLeast_6 c3 ?_
  refine x_iconst (v := (-1)) hM d_Ki_findLeast_9 (by decide) ?_
  refine x_callS hG hM (r' := r_Ar_fill) [.ref (rf h v0 3), .int 0, .int (kI h v0 0), .int (-1)] rfl yk_Ar_fill ⟨Nat.le_of_ble_eq_true rfl, Nat.le_of_ble_eq_true rfl⟩ w_727 w_604 rfl rfl (Nat.le_of_ble_eq_true rfl) d_Ki_findLeast_10 (sem_mono F ?_)
  intro u2 h1 F
  obtain ⟨rfl, F⟩ := F
  refine x_iconst (v := 0) hM d_Ki_findLeast_13 (by decide) ?_
  refine x_istore_n (lv2 := [(2, .int 0), (0, .ref v0), (1, .int v1)]) hM d_Ki_findLeast_14 rfl (Nat.le_of_ble_eq_true rfl) rfl ?_
  refine x_sub [1, 2, 0] rfl ?_
  exact F
set_option maxRecDepth 100000 in
set_option maxHeartbeats 4000000 in
theorem S_Ki_findLeast_15 {G : Gc} {M : Mc} {Q : State → Prop} {K : Option Value → Hp → Prop} (hG : gok G) (hM : mok G M r_Ki_findLeast Q K) (v0 : Nat) (v1 : Int32) (v2 : Int32) (h : Hp) (F : (v1 ≤ v2 → K none h) ∧ (¬ v1 ≤ v2 → (kT h v0 = 10 ∧ kR h v0 3 = some (rf h v0 3) ∧ (kT h v0 = 10 ∧ kR h v0 2 = some (rf h v0 2) ∧ (kT h (rf h v0 2) = 50 ∧ vp_in v2 (kN h (rf h v0 2)) ∧ (kT h (rf h v0 3) = 50 ∧ vp_in (kI h (rf h v0 2) (Int32.toNatClampNeg v2)) (kN h (rf h v0 3)) ∧ (((kI h (rf h v0 3) (Int32.toNatClampNeg (kI h (rf h v0 2) (Int32.toNatClampNeg v2)))) = (-1) → (kT h v0 = 10 ∧ kR h v0 3 = some (rf h v0 3) ∧ (kT h v0 = 10 ∧ kR h v0 2 = some (rf h v0 2) ∧ (kT h (rf h v0 2) = 50 ∧ vp_in v2 (kN h (rf h v0 2)) ∧ (kT h (rf h v0 3) = 50 ∧ vp_in (kI h (rf h v0 2) (Int32.toNatClampNeg v2)) (kN h (rf h v0 3)) ∧ (∀ h1 : Hp, h1 = wI h (rf h v0 3) (Int32.toNatClampNeg (kI h (rf h v0 2) (Int32.toNatClampNeg v2))) v2 → X G M Q 15 [(0, .ref v0), (1, .int v1), (2, .int (v2 + 1))] [] h1)))))) ∧ (¬ (kI h (rf h v0 3) (Int32.toNatClampNeg (kI h (rf h v0 2) (Int32.toNatClampNeg v2)))) = (-1) → X G M Q 15 [(0, .ref v0), (1, .int v1), (2, .int (v2 + 1))] [] h)))))))) : X G M Q 15 [(0, .ref v0), (1, .int v1), (2, .int v2)] [] h := by
  refine x_iload_n hM d_Ki_findLeast_15 rfl 2 rfl ?_
  refine x_iload_n hM d_Ki_findLeast_16 rfl 1 rfl ?_
  refine x_icmp_ge (tgt := 53) hM d_Ki_findLeast_17 (by decide) (fun q19 => ?_) (fun q19 => ?_)
  · replace F := F.1 q19
    exact x_return hM d_Ki_findLeast_53 rfl F
  · replace F := F.2 q19
    refine x_aload_n hM d_Ki_findLeast_20 rfl 0 rfl ?_
    obtain ⟨c17, F⟩ := F
    obtain ⟨c18, F⟩ := F
    refine x_getr hG hM ck_Ki 3 (Nat.le_of_ble_eq_true rfl) rfl rfl w_327 rfl d_Ki_findLeast_21 c17 c18 ?_
    refine x_aload_n hM d_Ki_findLeast_24 rfl 0 rfl ?_
    obtain ⟨c15, F⟩ := F
    obtain ⟨c16, F⟩ := F
    refine x_getr hG hM ck_Ki 2 (Nat.le_of_ble_eq_true rfl) rfl rfl w_325 rfl d_Ki_findLeast_25 c15 c16 ?_
    refine x_iload_n hM d_Ki_findLeast_28 rfl 2 rfl ?_
    obtain ⟨c13, F⟩ := F
    obtain ⟨c14, F⟩ := F
    refine x_iaload hG hM d_Ki_findLeast_29 c13 c14 ?_
    obtain ⟨c11, F⟩ := F
    obtain ⟨c12, F⟩ := F
    refine x_iaload hG hM d_Ki_findLeast_30 c11 c12 ?_
    refine x_iconst (v := (-1)) hM d_Ki_findLeast_31 (by decide) ?_
    refine x_icmp_ne (tgt := 47) hM d_Ki_findLeast_32 (by decide) (fun q10 => ?_) (fun q10 => ?_)
    · replace F := F.2 q10
      refine x_iinc (v := (v2 + 1)) (lv2 := [(2, .int (v2 + 1)), (0, .ref v0), (1, .int v1)]) hM d_Ki_findLeast_47 (j := 2) rfl rfl (Nat.le_of_ble_eq_true rfl) rfl ?_
      refine x_goto (tgt := 15) hM d_Ki_findLeast_50 (by decide) ?_
      refine x_sub [1, 2, 0] rfl ?_
      exact F
    · replace F := F.1 q10
      refine x_aload_n hM d_Ki_findLeast_35 rfl 0 rfl ?_
      obtain ⟨c8, F⟩ := F
      obtain ⟨c9, F⟩ := F
      refine x_getr hG hM ck_Ki 3 (Nat.le_of_ble_eq_true rfl) rfl rfl w_327 rfl d_Ki_findLeast_36 c8 c9 ?_
      refine x_aload_n hM d_Ki_findLeast_39 rfl 0 rfl ?_
      obtain ⟨c6, F⟩ := F
      obtain ⟨c7, F⟩ := F
      refine x_getr hG hM ck_Ki 2 (Nat.le_of_ble_eq_true rfl) rfl rfl w_325 rfl d_Ki_findLeast_40 c6 c7 ?_
      refine x_iload_n hM d_Ki_findLeast_43 rfl 2 rfl ?_
      obtain ⟨c4, F⟩ := F
      obtain ⟨c5, F⟩ := F
      refine x_iaload hG hM d_Ki_findLeast_44 c4 c5 ?_
      refine x_iload_n hM d_Ki_findLeast_45 rfl 2 rfl ?_
      obtain ⟨c2, F⟩ := F
      obtain ⟨c3, F⟩ := F
      replace F := F _ rfl
      refine x_iastore hG hM d_Ki_findLeast_46 c2 c3 ?_
      refine x_iinc (v := (v2 + 1)) (lv2 := [(2, .int (v2 + 1)), (0, .ref v0), (1, .int v1)]) hM d_Ki_findLeast_47 (j := 2) rfl rfl (Nat.le_of_ble_eq_true rfl) rfl ?_
      refine x_goto (tgt := 15) hM d_Ki_findLeast_50 (by decide) ?_
      refine x_sub [1, 2, 0] rfl ?_
      exact F
