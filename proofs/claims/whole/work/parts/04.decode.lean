theorem dX4_init_0 : decode cX4_init 0 = .ok (.aload_n 0, 1) := by decide +kernel
theorem dX4_init_1 : decode cX4_init 1 = .ok (.invokespecial 1, 3) := by decide +kernel
theorem dX4_init_4 : decode cX4_init 4 = .ok (.aload_n 0, 1) := by decide +kernel
theorem dX4_init_5 : decode cX4_init 5 = .ok (.bipush 104, 2) := by decide +kernel
theorem dX4_init_7 : decode cX4_init 7 = .ok (.newarray .int, 2) := by decide +kernel
theorem dX4_init_9 : decode cX4_init 9 = .ok (.putfield 7, 3) := by decide +kernel
theorem dX4_init_12 : decode cX4_init 12 = .ok (.aload_n 0, 1) := by decide +kernel
theorem dX4_init_13 : decode cX4_init 13 = .ok (.sipush 416, 3) := by decide +kernel
theorem dX4_init_16 : decode cX4_init 16 = .ok (.newarray .int, 2) := by decide +kernel
theorem dX4_init_18 : decode cX4_init 18 = .ok (.putfield 13, 3) := by decide +kernel
theorem dX4_init_21 : decode cX4_init 21 = .ok (.aload_n 0, 1) := by decide +kernel
theorem dX4_init_22 : decode cX4_init 22 = .ok (.bipush 104, 2) := by decide +kernel
theorem dX4_init_24 : decode cX4_init 24 = .ok (.newarray .int, 2) := by decide +kernel
theorem dX4_init_26 : decode cX4_init 26 = .ok (.putfield 16, 3) := by decide +kernel
theorem dX4_init_29 : decode cX4_init 29 = .ok (.aload_n 0, 1) := by decide +kernel
theorem dX4_init_30 : decode cX4_init 30 = .ok (.bipush 104, 2) := by decide +kernel
theorem dX4_init_32 : decode cX4_init 32 = .ok (.newarray .int, 2) := by decide +kernel
theorem dX4_init_34 : decode cX4_init 34 = .ok (.putfield 19, 3) := by decide +kernel
theorem dX4_init_37 : decode cX4_init 37 = .ok (.aload_n 0, 1) := by decide +kernel
theorem dX4_init_38 : decode cX4_init 38 = .ok (.bipush 60, 2) := by decide +kernel
theorem dX4_init_40 : decode cX4_init 40 = .ok (.newarray .char, 2) := by decide +kernel
theorem dX4_init_42 : decode cX4_init 42 = .ok (.putfield 22, 3) := by decide +kernel
theorem dX4_init_45 : decode cX4_init 45 = .ok (.aload_n 0, 1) := by decide +kernel
theorem dX4_init_46 : decode cX4_init 46 = .ok (.bipush (-5), 2) := by decide +kernel
theorem dX4_init_48 : decode cX4_init 48 = .ok (.putfield 26, 3) := by decide +kernel
theorem dX4_init_51 : decode cX4_init 51 = .ok (.aload_n 0, 1) := by decide +kernel
theorem dX4_init_52 : decode cX4_init 52 = .ok (.bipush 8, 2) := by decide +kernel
theorem dX4_init_54 : decode cX4_init 54 = .ok (.newarray .boolean, 2) := by decide +kernel
theorem dX4_init_56 : decode cX4_init 56 = .ok (.putfield 30, 3) := by decide +kernel
theorem dX4_init_59 : decode cX4_init 59 = .ok (.aload_n 0, 1) := by decide +kernel
theorem dX4_init_60 : decode cX4_init 60 = .ok (.getfield 7, 3) := by decide +kernel
theorem dX4_init_63 : decode cX4_init 63 = .ok (.iconst 5, 1) := by decide +kernel
theorem dX4_init_64 : decode cX4_init 64 = .ok (.iconst 3, 1) := by decide +kernel
theorem dX4_init_65 : decode cX4_init 65 = .ok (.iastore, 1) := by decide +kernel
theorem dX4_init_66 : decode cX4_init 66 = .ok (.aload_n 0, 1) := by decide +kernel
theorem dX4_init_67 : decode cX4_init 67 = .ok (.getfield 7, 3) := by decide +kernel
theorem dX4_init_70 : decode cX4_init 70 = .ok (.bipush 7, 2) := by decide +kernel
theorem dX4_init_72 : decode cX4_init 72 = .ok (.bipush 24, 2) := by decide +kernel
theorem dX4_init_74 : decode cX4_init 74 = .ok (.iastore, 1) := by decide +kernel
theorem dX4_init_75 : decode cX4_init 75 = .ok (.iconst 0, 1) := by decide +kernel
theorem dX4_init_76 : decode cX4_init 76 = .ok (.istore_n 1, 1) := by decide +kernel
theorem dX4_init_77 : decode cX4_init 77 = .ok (.iload_n 1, 1) := by decide +kernel
theorem dX4_init_78 : decode cX4_init 78 = .ok (.bipush 8, 2) := by decide +kernel
theorem dX4_init_80 : decode cX4_init 80 = .ok (.if_icmp .ge 40, 3) := by decide +kernel
theorem dX4_init_83 : decode cX4_init 83 = .ok (.aload_n 0, 1) := by decide +kernel
theorem dX4_init_84 : decode cX4_init 84 = .ok (.iload_n 1, 1) := by decide +kernel
theorem dX4_init_85 : decode cX4_init 85 = .ok (.iconst 0, 1) := by decide +kernel
theorem dX4_init_86 : decode cX4_init 86 = .ok (.bipush 10, 2) := by decide +kernel
theorem dX4_init_88 : decode cX4_init 88 = .ok (.invokevirtual 34, 3) := by decide +kernel
theorem dX4_init_91 : decode cX4_init 91 = .ok (.aload_n 0, 1) := by decide +kernel
theorem dX4_init_92 : decode cX4_init 92 = .ok (.iload_n 1, 1) := by decide +kernel
theorem dX4_init_93 : decode cX4_init 93 = .ok (.iconst 2, 1) := by decide +kernel
theorem dX4_init_94 : decode cX4_init 94 = .ok (.iload_n 1, 1) := by decide +kernel
theorem dX4_init_95 : decode cX4_init 95 = .ok (.iconst 1, 1) := by decide +kernel
theorem dX4_init_96 : decode cX4_init 96 = .ok (.iadd, 1) := by decide +kernel
theorem dX4_init_97 : decode cX4_init 97 = .ok (.invokevirtual 34, 3) := by decide +kernel
theorem dX4_init_100 : decode cX4_init 100 = .ok (.aload_n 0, 1) := by decide +kernel
theorem dX4_init_101 : decode cX4_init 101 = .ok (.iload_n 1, 1) := by decide +kernel
theorem dX4_init_102 : decode cX4_init 102 = .ok (.iconst 4, 1) := by decide +kernel
theorem dX4_init_103 : decode cX4_init 103 = .ok (.iconst (-1), 1) := by decide +kernel
theorem dX4_init_104 : decode cX4_init 104 = .ok (.invokevirtual 34, 3) := by decide +kernel
theorem dX4_init_107 : decode cX4_init 107 = .ok (.aload_n 0, 1) := by decide +kernel
theorem dX4_init_108 : decode cX4_init 108 = .ok (.iload_n 1, 1) := by decide +kernel
theorem dX4_init_109 : decode cX4_init 109 = .ok (.iconst 5, 1) := by decide +kernel
theorem dX4_init_110 : decode cX4_init 110 = .ok (.iconst 1, 1) := by decide +kernel
theorem dX4_init_111 : decode cX4_init 111 = .ok (.invokevirtual 34, 3) := by decide +kernel
theorem dX4_init_114 : decode cX4_init 114 = .ok (.iinc 1 1, 3) := by decide +kernel
theorem dX4_init_117 : decode cX4_init 117 = .ok (.goto (-40), 3) := by decide +kernel
theorem dX4_init_120 : decode cX4_init 120 = .ok (.return_, 1) := by decide +kernel
theorem dX4_in_0 : decode cX4_in 0 = .ok (.iload_n 0, 1) := by decide +kernel
theorem dX4_in_1 : decode cX4_in 1 = .ok (.iload_n 1, 1) := by decide +kernel
theorem dX4_in_2 : decode cX4_in 2 = .ok (.if_icmp .lt 12, 3) := by decide +kernel
theorem dX4_in_5 : decode cX4_in 5 = .ok (.iload_n 0, 1) := by decide +kernel
theorem dX4_in_6 : decode cX4_in 6 = .ok (.iload_n 2, 1) := by decide +kernel
theorem dX4_in_7 : decode cX4_in 7 = .ok (.if_icmp .gt 7, 3) := by decide +kernel
theorem dX4_in_10 : decode cX4_in 10 = .ok (.iconst 1, 1) := by decide +kernel
theorem dX4_in_11 : decode cX4_in 11 = .ok (.goto 4, 3) := by decide +kernel
theorem dX4_in_14 : decode cX4_in 14 = .ok (.iconst 0, 1) := by decide +kernel
theorem dX4_in_15 : decode cX4_in 15 = .ok (.ireturn, 1) := by decide +kernel
theorem dX4_isCup_0 : decode cX4_isCup 0 = .ok (.iload_n 0, 1) := by decide +kernel
theorem dX4_isCup_1 : decode cX4_isCup 1 = .ok (.iconst 0, 1) := by decide +kernel
theorem dX4_isCup_2 : decode cX4_isCup 2 = .ok (.bipush 7, 2) := by decide +kernel
theorem dX4_isCup_4 : decode cX4_isCup 4 = .ok (.invokestatic 38, 3) := by decide +kernel
theorem dX4_isCup_7 : decode cX4_isCup 7 = .ok (.ireturn, 1) := by decide +kernel
theorem dX4_of_0 : decode cX4_of 0 = .ok (.aload_n 0, 1) := by decide +kernel
theorem dX4_of_1 : decode cX4_of 1 = .ok (.getfield 7, 3) := by decide +kernel
theorem dX4_of_4 : decode cX4_of 4 = .ok (.bipush 8, 2) := by decide +kernel
theorem dX4_of_6 : decode cX4_of 6 = .ok (.bipush 12, 2) := by decide +kernel
theorem dX4_of_8 : decode cX4_of 8 = .ok (.iload_n 1, 1) := by decide +kernel
theorem dX4_of_9 : decode cX4_of 9 = .ok (.imul, 1) := by decide +kernel
theorem dX4_of_10 : decode cX4_of 10 = .ok (.iadd, 1) := by decide +kernel
theorem dX4_of_11 : decode cX4_of 11 = .ok (.iload_n 2, 1) := by decide +kernel
theorem dX4_of_12 : decode cX4_of 12 = .ok (.iadd, 1) := by decide +kernel
theorem dX4_of_13 : decode cX4_of 13 = .ok (.iaload, 1) := by decide +kernel
theorem dX4_of_14 : decode cX4_of 14 = .ok (.ireturn, 1) := by decide +kernel
theorem dX4_lay_0 : decode cX4_lay 0 = .ok (.aload_n 0, 1) := by decide +kernel
theorem dX4_lay_1 : decode cX4_lay 1 = .ok (.getfield 7, 3) := by decide +kernel
theorem dX4_lay_4 : decode cX4_lay 4 = .ok (.bipush 8, 2) := by decide +kernel
theorem dX4_lay_6 : decode cX4_lay 6 = .ok (.bipush 12, 2) := by decide +kernel
theorem dX4_lay_8 : decode cX4_lay 8 = .ok (.iload_n 1, 1) := by decide +kernel
theorem dX4_lay_9 : decode cX4_lay 9 = .ok (.imul, 1) := by decide +kernel
theorem dX4_lay_10 : decode cX4_lay 10 = .ok (.iadd, 1) := by decide +kernel
theorem dX4_lay_11 : decode cX4_lay 11 = .ok (.iload_n 2, 1) := by decide +kernel
theorem dX4_lay_12 : decode cX4_lay 12 = .ok (.iadd, 1) := by decide +kernel
theorem dX4_lay_13 : decode cX4_lay 13 = .ok (.iload_n 3, 1) := by decide +kernel
theorem dX4_lay_14 : decode cX4_lay 14 = .ok (.iastore, 1) := by decide +kernel
theorem dX4_lay_15 : decode cX4_lay 15 = .ok (.return_, 1) := by decide +kernel
theorem dX4_copy_0 : decode cX4_copy 0 = .ok (.iconst 0, 1) := by decide +kernel
theorem dX4_copy_1 : decode cX4_copy 1 = .ok (.istore 4, 2) := by decide +kernel
theorem dX4_copy_3 : decode cX4_copy 3 = .ok (.iload 4, 2) := by decide +kernel
theorem dX4_copy_5 : decode cX4_copy 5 = .ok (.bipush 104, 2) := by decide +kernel
theorem dX4_copy_7 : decode cX4_copy 7 = .ok (.if_icmp .ge 21, 3) := by decide +kernel
theorem dX4_copy_10 : decode cX4_copy 10 = .ok (.aload_n 2, 1) := by decide +kernel
theorem dX4_copy_11 : decode cX4_copy 11 = .ok (.iload_n 3, 1) := by decide +kernel
theorem dX4_copy_12 : decode cX4_copy 12 = .ok (.iload 4, 2) := by decide +kernel
theorem dX4_copy_14 : decode cX4_copy 14 = .ok (.iadd, 1) := by decide +kernel
theorem dX4_copy_15 : decode cX4_copy 15 = .ok (.aload_n 0, 1) := by decide +kernel
theorem dX4_copy_16 : decode cX4_copy 16 = .ok (.iload_n 1, 1) := by decide +kernel
theorem dX4_copy_17 : decode cX4_copy 17 = .ok (.iload 4, 2) := by decide +kernel
theorem dX4_copy_19 : decode cX4_copy 19 = .ok (.iadd, 1) := by decide +kernel
theorem dX4_copy_20 : decode cX4_copy 20 = .ok (.iaload, 1) := by decide +kernel
theorem dX4_copy_21 : decode cX4_copy 21 = .ok (.iastore, 1) := by decide +kernel
theorem dX4_copy_22 : decode cX4_copy 22 = .ok (.iinc 4 1, 3) := by decide +kernel
theorem dX4_copy_25 : decode cX4_copy 25 = .ok (.goto (-22), 3) := by decide +kernel
theorem dX4_copy_28 : decode cX4_copy 28 = .ok (.return_, 1) := by decide +kernel
theorem dX4_recordFrom_0 : decode cX4_recordFrom 0 = .ok (.aload_n 0, 1) := by decide +kernel
theorem dX4_recordFrom_1 : decode cX4_recordFrom 1 = .ok (.getfield 42, 3) := by decide +kernel
theorem dX4_recordFrom_4 : decode cX4_recordFrom 4 = .ok (.iconst 4, 1) := by decide +kernel
theorem dX4_recordFrom_5 : decode cX4_recordFrom 5 = .ok (.if_icmp .ne 43, 3) := by decide +kernel
theorem dX4_recordFrom_8 : decode cX4_recordFrom 8 = .ok (.iconst 0, 1) := by decide +kernel
theorem dX4_recordFrom_9 : decode cX4_recordFrom 9 = .ok (.istore_n 2, 1) := by decide +kernel
theorem dX4_recordFrom_10 : decode cX4_recordFrom 10 = .ok (.iload_n 2, 1) := by decide +kernel
theorem dX4_recordFrom_11 : decode cX4_recordFrom 11 = .ok (.sipush 312, 3) := by decide +kernel
theorem dX4_recordFrom_14 : decode cX4_recordFrom 14 = .ok (.if_icmp .ge 24, 3) := by decide +kernel
theorem dX4_recordFrom_17 : decode cX4_recordFrom 17 = .ok (.aload_n 0, 1) := by decide +kernel
theorem dX4_recordFrom_18 : decode cX4_recordFrom 18 = .ok (.getfield 13, 3) := by decide +kernel
theorem dX4_recordFrom_21 : decode cX4_recordFrom 21 = .ok (.iload_n 2, 1) := by decide +kernel
theorem dX4_recordFrom_22 : decode cX4_recordFrom 22 = .ok (.aload_n 0, 1) := by decide +kernel
theorem dX4_recordFrom_23 : decode cX4_recordFrom 23 = .ok (.getfield 13, 3) := by decide +kernel
theorem dX4_recordFrom_26 : decode cX4_recordFrom 26 = .ok (.bipush 104, 2) := by decide +kernel
theorem dX4_recordFrom_28 : decode cX4_recordFrom 28 = .ok (.iload_n 2, 1) := by decide +kernel
theorem dX4_recordFrom_29 : decode cX4_recordFrom 29 = .ok (.iadd, 1) := by decide +kernel
theorem dX4_recordFrom_30 : decode cX4_recordFrom 30 = .ok (.iaload, 1) := by decide +kernel
theorem dX4_recordFrom_31 : decode cX4_recordFrom 31 = .ok (.iastore, 1) := by decide +kernel
theorem dX4_recordFrom_32 : decode cX4_recordFrom 32 = .ok (.iinc 2 1, 3) := by decide +kernel
theorem dX4_recordFrom_35 : decode cX4_recordFrom 35 = .ok (.goto (-25), 3) := by decide +kernel
theorem dX4_recordFrom_38 : decode cX4_recordFrom 38 = .ok (.aload_n 0, 1) := by decide +kernel
theorem dX4_recordFrom_39 : decode cX4_recordFrom 39 = .ok (.dup, 1) := by decide +kernel
theorem dX4_recordFrom_40 : decode cX4_recordFrom 40 = .ok (.getfield 42, 3) := by decide +kernel
theorem dX4_recordFrom_43 : decode cX4_recordFrom 43 = .ok (.iconst 1, 1) := by decide +kernel
theorem dX4_recordFrom_44 : decode cX4_recordFrom 44 = .ok (.isub, 1) := by decide +kernel
theorem dX4_recordFrom_45 : decode cX4_recordFrom 45 = .ok (.putfield 42, 3) := by decide +kernel
theorem dX4_recordFrom_48 : decode cX4_recordFrom 48 = .ok (.aload_n 1, 1) := by decide +kernel
theorem dX4_recordFrom_49 : decode cX4_recordFrom 49 = .ok (.iconst 0, 1) := by decide +kernel
theorem dX4_recordFrom_50 : decode cX4_recordFrom 50 = .ok (.aload_n 0, 1) := by decide +kernel
theorem dX4_recordFrom_51 : decode cX4_recordFrom 51 = .ok (.getfield 13, 3) := by decide +kernel
theorem dX4_recordFrom_54 : decode cX4_recordFrom 54 = .ok (.bipush 104, 2) := by decide +kernel
theorem dX4_recordFrom_56 : decode cX4_recordFrom 56 = .ok (.aload_n 0, 1) := by decide +kernel
theorem dX4_recordFrom_57 : decode cX4_recordFrom 57 = .ok (.getfield 42, 3) := by decide +kernel
theorem dX4_recordFrom_60 : decode cX4_recordFrom 60 = .ok (.imul, 1) := by decide +kernel
theorem dX4_recordFrom_61 : decode cX4_recordFrom 61 = .ok (.invokestatic 45, 3) := by decide +kernel
theorem dX4_recordFrom_64 : decode cX4_recordFrom 64 = .ok (.aload_n 0, 1) := by decide +kernel
theorem dX4_recordFrom_65 : decode cX4_recordFrom 65 = .ok (.dup, 1) := by decide +kernel
theorem dX4_recordFrom_66 : decode cX4_recordFrom 66 = .ok (.getfield 42, 3) := by decide +kernel
theorem dX4_recordFrom_69 : decode cX4_recordFrom 69 = .ok (.iconst 1, 1) := by decide +kernel
theorem dX4_recordFrom_70 : decode cX4_recordFrom 70 = .ok (.iadd, 1) := by decide +kernel
theorem dX4_recordFrom_71 : decode cX4_recordFrom 71 = .ok (.putfield 42, 3) := by decide +kernel
theorem dX4_recordFrom_74 : decode cX4_recordFrom 74 = .ok (.return_, 1) := by decide +kernel
theorem dX4_hourOf_0 : decode cX4_hourOf 0 = .ok (.iload_n 1, 1) := by decide +kernel
theorem dX4_hourOf_1 : decode cX4_hourOf 1 = .ok (.aload_n 0, 1) := by decide +kernel
theorem dX4_hourOf_2 : decode cX4_hourOf 2 = .ok (.getfield 7, 3) := by decide +kernel
theorem dX4_hourOf_5 : decode cX4_hourOf 5 = .ok (.bipush 7, 2) := by decide +kernel
theorem dX4_hourOf_7 : decode cX4_hourOf 7 = .ok (.iaload, 1) := by decide +kernel
theorem dX4_hourOf_8 : decode cX4_hourOf 8 = .ok (.irem, 1) := by decide +kernel
theorem dX4_hourOf_9 : decode cX4_hourOf 9 = .ok (.ireturn, 1) := by decide +kernel
theorem dX4_isFull_0 : decode cX4_isFull 0 = .ok (.aload_n 0, 1) := by decide +kernel
theorem dX4_isFull_1 : decode cX4_isFull 1 = .ok (.iload_n 1, 1) := by decide +kernel
theorem dX4_isFull_2 : decode cX4_isFull 2 = .ok (.iconst 3, 1) := by decide +kernel
theorem dX4_isFull_3 : decode cX4_isFull 3 = .ok (.invokevirtual 49, 3) := by decide +kernel
theorem dX4_isFull_6 : decode cX4_isFull 6 = .ok (.aload_n 0, 1) := by decide +kernel
theorem dX4_isFull_7 : decode cX4_isFull 7 = .ok (.iload_n 1, 1) := by decide +kernel
theorem dX4_isFull_8 : decode cX4_isFull 8 = .ok (.iconst 0, 1) := by decide +kernel
theorem dX4_isFull_9 : decode cX4_isFull 9 = .ok (.invokevirtual 49, 3) := by decide +kernel
theorem dX4_isFull_12 : decode cX4_isFull 12 = .ok (.if_icmp .lt 7, 3) := by decide +kernel
theorem dX4_isFull_15 : decode cX4_isFull 15 = .ok (.iconst 1, 1) := by decide +kernel
theorem dX4_isFull_16 : decode cX4_isFull 16 = .ok (.goto 4, 3) := by decide +kernel
theorem dX4_isFull_19 : decode cX4_isFull 19 = .ok (.iconst 0, 1) := by decide +kernel
theorem dX4_isFull_20 : decode cX4_isFull 20 = .ok (.ireturn, 1) := by decide +kernel
theorem dX4_pour_0 : decode cX4_pour 0 = .ok (.iload_n 1, 1) := by decide +kernel
theorem dX4_pour_1 : decode cX4_pour 1 = .ok (.bipush 8, 2) := by decide +kernel
theorem dX4_pour_3 : decode cX4_pour 3 = .ok (.if_icmp .ne 16, 3) := by decide +kernel
theorem dX4_pour_6 : decode cX4_pour 6 = .ok (.aload_n 0, 1) := by decide +kernel
theorem dX4_pour_7 : decode cX4_pour 7 = .ok (.getfield 7, 3) := by decide +kernel
theorem dX4_pour_10 : decode cX4_pour 10 = .ok (.iconst 1, 1) := by decide +kernel
theorem dX4_pour_11 : decode cX4_pour 11 = .ok (.dup2, 1) := by decide +kernel
theorem dX4_pour_12 : decode cX4_pour 12 = .ok (.iaload, 1) := by decide +kernel
theorem dX4_pour_13 : decode cX4_pour 13 = .ok (.iload_n 2, 1) := by decide +kernel
theorem dX4_pour_14 : decode cX4_pour 14 = .ok (.iadd, 1) := by decide +kernel
theorem dX4_pour_15 : decode cX4_pour 15 = .ok (.iastore, 1) := by decide +kernel
theorem dX4_pour_16 : decode cX4_pour 16 = .ok (.goto 17, 3) := by decide +kernel
theorem dX4_pour_19 : decode cX4_pour 19 = .ok (.aload_n 0, 1) := by decide +kernel
theorem dX4_pour_20 : decode cX4_pour 20 = .ok (.iload_n 1, 1) := by decide +kernel
theorem dX4_pour_21 : decode cX4_pour 21 = .ok (.iconst 3, 1) := by decide +kernel
theorem dX4_pour_22 : decode cX4_pour 22 = .ok (.aload_n 0, 1) := by decide +kernel
theorem dX4_pour_23 : decode cX4_pour 23 = .ok (.iload_n 1, 1) := by decide +kernel
theorem dX4_pour_24 : decode cX4_pour 24 = .ok (.iconst 3, 1) := by decide +kernel
theorem dX4_pour_25 : decode cX4_pour 25 = .ok (.invokevirtual 49, 3) := by decide +kernel
theorem dX4_pour_28 : decode cX4_pour 28 = .ok (.iload_n 2, 1) := by decide +kernel
theorem dX4_pour_29 : decode cX4_pour 29 = .ok (.iadd, 1) := by decide +kernel
theorem dX4_pour_30 : decode cX4_pour 30 = .ok (.invokevirtual 34, 3) := by decide +kernel
theorem dX4_pour_33 : decode cX4_pour 33 = .ok (.return_, 1) := by decide +kernel
theorem dX4_countTip_0 : decode cX4_countTip 0 = .ok (.aload_n 0, 1) := by decide +kernel
theorem dX4_countTip_1 : decode cX4_countTip 1 = .ok (.iload_n 1, 1) := by decide +kernel
theorem dX4_countTip_2 : decode cX4_countTip 2 = .ok (.iconst 4, 1) := by decide +kernel
theorem dX4_countTip_3 : decode cX4_countTip 3 = .ok (.invokevirtual 49, 3) := by decide +kernel
theorem dX4_countTip_6 : decode cX4_countTip 6 = .ok (.istore_n 3, 1) := by decide +kernel
theorem dX4_countTip_7 : decode cX4_countTip 7 = .ok (.aload_n 0, 1) := by decide +kernel
theorem dX4_countTip_8 : decode cX4_countTip 8 = .ok (.iload_n 1, 1) := by decide +kernel
theorem dX4_countTip_9 : decode cX4_countTip 9 = .ok (.bipush 8, 2) := by decide +kernel
theorem dX4_countTip_11 : decode cX4_countTip 11 = .ok (.aload_n 0, 1) := by decide +kernel
theorem dX4_countTip_12 : decode cX4_countTip 12 = .ok (.iload_n 1, 1) := by decide +kernel
theorem dX4_countTip_13 : decode cX4_countTip 13 = .ok (.bipush 8, 2) := by decide +kernel
theorem dX4_countTip_15 : decode cX4_countTip 15 = .ok (.invokevirtual 49, 3) := by decide +kernel
theorem dX4_countTip_18 : decode cX4_countTip 18 = .ok (.iconst 1, 1) := by decide +kernel
theorem dX4_countTip_19 : decode cX4_countTip 19 = .ok (.iadd, 1) := by decide +kernel
theorem dX4_countTip_20 : decode cX4_countTip 20 = .ok (.invokevirtual 34, 3) := by decide +kernel
theorem dX4_countTip_23 : decode cX4_countTip 23 = .ok (.iload_n 3, 1) := by decide +kernel
theorem dX4_countTip_24 : decode cX4_countTip 24 = .ok (.iconst (-1), 1) := by decide +kernel
theorem dX4_countTip_25 : decode cX4_countTip 25 = .ok (.if_icmp .eq 43, 3) := by decide +kernel
theorem dX4_countTip_28 : decode cX4_countTip 28 = .ok (.iload_n 2, 1) := by decide +kernel
theorem dX4_countTip_29 : decode cX4_countTip 29 = .ok (.iload_n 3, 1) := by decide +kernel
theorem dX4_countTip_30 : decode cX4_countTip 30 = .ok (.if_icmp .ne 8, 3) := by decide +kernel
theorem dX4_countTip_33 : decode cX4_countTip 33 = .ok (.bipush 9, 2) := by decide +kernel
theorem dX4_countTip_35 : decode cX4_countTip 35 = .ok (.goto 15, 3) := by decide +kernel
theorem dX4_countTip_38 : decode cX4_countTip 38 = .ok (.iload_n 2, 1) := by decide +kernel
theorem dX4_countTip_39 : decode cX4_countTip 39 = .ok (.iload_n 3, 1) := by decide +kernel
theorem dX4_countTip_40 : decode cX4_countTip 40 = .ok (.if_icmp .ge 8, 3) := by decide +kernel
theorem dX4_countTip_43 : decode cX4_countTip 43 = .ok (.bipush 10, 2) := by decide +kernel
theorem dX4_countTip_45 : decode cX4_countTip 45 = .ok (.goto 5, 3) := by decide +kernel
theorem dX4_countTip_48 : decode cX4_countTip 48 = .ok (.bipush 11, 2) := by decide +kernel
theorem dX4_countTip_50 : decode cX4_countTip 50 = .ok (.istore 4, 2) := by decide +kernel
theorem dX4_countTip_52 : decode cX4_countTip 52 = .ok (.aload_n 0, 1) := by decide +kernel
theorem dX4_countTip_53 : decode cX4_countTip 53 = .ok (.iload_n 1, 1) := by decide +kernel
theorem dX4_countTip_54 : decode cX4_countTip 54 = .ok (.iload 4, 2) := by decide +kernel
theorem dX4_countTip_56 : decode cX4_countTip 56 = .ok (.aload_n 0, 1) := by decide +kernel
theorem dX4_countTip_57 : decode cX4_countTip 57 = .ok (.iload_n 1, 1) := by decide +kernel
theorem dX4_countTip_58 : decode cX4_countTip 58 = .ok (.iload 4, 2) := by decide +kernel
theorem dX4_countTip_60 : decode cX4_countTip 60 = .ok (.invokevirtual 49, 3) := by decide +kernel
theorem dX4_countTip_63 : decode cX4_countTip 63 = .ok (.iconst 1, 1) := by decide +kernel
theorem dX4_countTip_64 : decode cX4_countTip 64 = .ok (.iadd, 1) := by decide +kernel
theorem dX4_countTip_65 : decode cX4_countTip 65 = .ok (.invokevirtual 34, 3) := by decide +kernel
theorem dX4_countTip_68 : decode cX4_countTip 68 = .ok (.return_, 1) := by decide +kernel
theorem dX4_tipOrKeep_0 : decode cX4_tipOrKeep 0 = .ok (.aload_n 0, 1) := by decide +kernel
theorem dX4_tipOrKeep_1 : decode cX4_tipOrKeep 1 = .ok (.iload_n 1, 1) := by decide +kernel
theorem dX4_tipOrKeep_2 : decode cX4_tipOrKeep 2 = .ok (.bipush 6, 2) := by decide +kernel
theorem dX4_tipOrKeep_4 : decode cX4_tipOrKeep 4 = .ok (.invokevirtual 49, 3) := by decide +kernel
theorem dX4_tipOrKeep_7 : decode cX4_tipOrKeep 7 = .ok (.iconst 1, 1) := by decide +kernel
theorem dX4_tipOrKeep_8 : decode cX4_tipOrKeep 8 = .ok (.if_icmp .ne 21, 3) := by decide +kernel
theorem dX4_tipOrKeep_11 : decode cX4_tipOrKeep 11 = .ok (.iload_n 2, 1) := by decide +kernel
theorem dX4_tipOrKeep_12 : decode cX4_tipOrKeep 12 = .ok (.aload_n 0, 1) := by decide +kernel
theorem dX4_tipOrKeep_13 : decode cX4_tipOrKeep 13 = .ok (.iload_n 1, 1) := by decide +kernel
theorem dX4_tipOrKeep_14 : decode cX4_tipOrKeep 14 = .ok (.iconst 4, 1) := by decide +kernel
theorem dX4_tipOrKeep_15 : decode cX4_tipOrKeep 15 = .ok (.invokevirtual 49, 3) := by decide +kernel
theorem dX4_tipOrKeep_18 : decode cX4_tipOrKeep 18 = .ok (.if_icmp .ne 7, 3) := by decide +kernel
theorem dX4_tipOrKeep_21 : decode cX4_tipOrKeep 21 = .ok (.iconst 1, 1) := by decide +kernel
theorem dX4_tipOrKeep_22 : decode cX4_tipOrKeep 22 = .ok (.goto 22, 3) := by decide +kernel
theorem dX4_tipOrKeep_25 : decode cX4_tipOrKeep 25 = .ok (.iconst 0, 1) := by decide +kernel
theorem dX4_tipOrKeep_26 : decode cX4_tipOrKeep 26 = .ok (.goto 18, 3) := by decide +kernel
theorem dX4_tipOrKeep_29 : decode cX4_tipOrKeep 29 = .ok (.aload_n 0, 1) := by decide +kernel
theorem dX4_tipOrKeep_30 : decode cX4_tipOrKeep 30 = .ok (.iload_n 1, 1) := by decide +kernel
theorem dX4_tipOrKeep_31 : decode cX4_tipOrKeep 31 = .ok (.iconst 5, 1) := by decide +kernel
theorem dX4_tipOrKeep_32 : decode cX4_tipOrKeep 32 = .ok (.invokevirtual 49, 3) := by decide +kernel
theorem dX4_tipOrKeep_35 : decode cX4_tipOrKeep 35 = .ok (.iconst 1, 1) := by decide +kernel
theorem dX4_tipOrKeep_36 : decode cX4_tipOrKeep 36 = .ok (.if_icmp .ne 7, 3) := by decide +kernel
theorem dX4_tipOrKeep_39 : decode cX4_tipOrKeep 39 = .ok (.iconst 1, 1) := by decide +kernel
theorem dX4_tipOrKeep_40 : decode cX4_tipOrKeep 40 = .ok (.goto 4, 3) := by decide +kernel
theorem dX4_tipOrKeep_43 : decode cX4_tipOrKeep 43 = .ok (.iconst 0, 1) := by decide +kernel
theorem dX4_tipOrKeep_44 : decode cX4_tipOrKeep 44 = .ok (.istore_n 3, 1) := by decide +kernel
theorem dX4_tipOrKeep_45 : decode cX4_tipOrKeep 45 = .ok (.aload_n 0, 1) := by decide +kernel
theorem dX4_tipOrKeep_46 : decode cX4_tipOrKeep 46 = .ok (.iload_n 1, 1) := by decide +kernel
theorem dX4_tipOrKeep_47 : decode cX4_tipOrKeep 47 = .ok (.iconst 3, 1) := by decide +kernel
theorem dX4_tipOrKeep_48 : decode cX4_tipOrKeep 48 = .ok (.invokevirtual 49, 3) := by decide +kernel
theorem dX4_tipOrKeep_51 : decode cX4_tipOrKeep 51 = .ok (.istore 4, 2) := by decide +kernel
theorem dX4_tipOrKeep_53 : decode cX4_tipOrKeep 53 = .ok (.aload_n 0, 1) := by decide +kernel
theorem dX4_tipOrKeep_54 : decode cX4_tipOrKeep 54 = .ok (.getfield 30, 3) := by decide +kernel
theorem dX4_tipOrKeep_57 : decode cX4_tipOrKeep 57 = .ok (.iload_n 1, 1) := by decide +kernel
theorem dX4_tipOrKeep_58 : decode cX4_tipOrKeep 58 = .ok (.aload_n 0, 1) := by decide +kernel
theorem dX4_tipOrKeep_59 : decode cX4_tipOrKeep 59 = .ok (.iload_n 1, 1) := by decide +kernel
theorem dX4_tipOrKeep_60 : decode cX4_tipOrKeep 60 = .ok (.invokevirtual 53, 3) := by decide +kernel
theorem dX4_tipOrKeep_63 : decode cX4_tipOrKeep 63 = .ok (.ifCond .eq 11, 3) := by decide +kernel
theorem dX4_tipOrKeep_66 : decode cX4_tipOrKeep 66 = .ok (.iload_n 3, 1) := by decide +kernel
theorem dX4_tipOrKeep_67 : decode cX4_tipOrKeep 67 = .ok (.ifCond .eq 7, 3) := by decide +kernel
theorem dX4_tipOrKeep_70 : decode cX4_tipOrKeep 70 = .ok (.iconst 1, 1) := by decide +kernel
theorem dX4_tipOrKeep_71 : decode cX4_tipOrKeep 71 = .ok (.goto 4, 3) := by decide +kernel
theorem dX4_tipOrKeep_74 : decode cX4_tipOrKeep 74 = .ok (.iconst 0, 1) := by decide +kernel
theorem dX4_tipOrKeep_75 : decode cX4_tipOrKeep 75 = .ok (.bastore, 1) := by decide +kernel
theorem dX4_tipOrKeep_76 : decode cX4_tipOrKeep 76 = .ok (.aload_n 0, 1) := by decide +kernel
theorem dX4_tipOrKeep_77 : decode cX4_tipOrKeep 77 = .ok (.getfield 30, 3) := by decide +kernel
theorem dX4_tipOrKeep_80 : decode cX4_tipOrKeep 80 = .ok (.iload_n 1, 1) := by decide +kernel
theorem dX4_tipOrKeep_81 : decode cX4_tipOrKeep 81 = .ok (.baload, 1) := by decide +kernel
theorem dX4_tipOrKeep_82 : decode cX4_tipOrKeep 82 = .ok (.ifCond .eq 66, 3) := by decide +kernel
theorem dX4_tipOrKeep_85 : decode cX4_tipOrKeep 85 = .ok (.bipush 10, 2) := by decide +kernel
theorem dX4_tipOrKeep_87 : decode cX4_tipOrKeep 87 = .ok (.iload 4, 2) := by decide +kernel
theorem dX4_tipOrKeep_89 : decode cX4_tipOrKeep 89 = .ok (.imul, 1) := by decide +kernel
theorem dX4_tipOrKeep_90 : decode cX4_tipOrKeep 90 = .ok (.aload_n 0, 1) := by decide +kernel
theorem dX4_tipOrKeep_91 : decode cX4_tipOrKeep 91 = .ok (.iload_n 1, 1) := by decide +kernel
theorem dX4_tipOrKeep_92 : decode cX4_tipOrKeep 92 = .ok (.iconst 0, 1) := by decide +kernel
theorem dX4_tipOrKeep_93 : decode cX4_tipOrKeep 93 = .ok (.invokevirtual 49, 3) := by decide +kernel
theorem dX4_tipOrKeep_96 : decode cX4_tipOrKeep 96 = .ok (.idiv, 1) := by decide +kernel
theorem dX4_tipOrKeep_97 : decode cX4_tipOrKeep 97 = .ok (.istore 5, 2) := by decide +kernel
theorem dX4_tipOrKeep_99 : decode cX4_tipOrKeep 99 = .ok (.aload_n 0, 1) := by decide +kernel
theorem dX4_tipOrKeep_100 : decode cX4_tipOrKeep 100 = .ok (.iload_n 1, 1) := by decide +kernel
theorem dX4_tipOrKeep_101 : decode cX4_tipOrKeep 101 = .ok (.bipush 7, 2) := by decide +kernel
theorem dX4_tipOrKeep_103 : decode cX4_tipOrKeep 103 = .ok (.iload 5, 2) := by decide +kernel
theorem dX4_tipOrKeep_105 : decode cX4_tipOrKeep 105 = .ok (.bipush 30, 2) := by decide +kernel
theorem dX4_tipOrKeep_107 : decode cX4_tipOrKeep 107 = .ok (.if_icmp .le 8, 3) := by decide +kernel
theorem dX4_tipOrKeep_110 : decode cX4_tipOrKeep 110 = .ok (.bipush 30, 2) := by decide +kernel
theorem dX4_tipOrKeep_112 : decode cX4_tipOrKeep 112 = .ok (.goto 5, 3) := by decide +kernel
theorem dX4_tipOrKeep_115 : decode cX4_tipOrKeep 115 = .ok (.iload 5, 2) := by decide +kernel
theorem dX4_tipOrKeep_117 : decode cX4_tipOrKeep 117 = .ok (.invokevirtual 34, 3) := by decide +kernel
theorem dX4_tipOrKeep_120 : decode cX4_tipOrKeep 120 = .ok (.aload_n 0, 1) := by decide +kernel
theorem dX4_tipOrKeep_121 : decode cX4_tipOrKeep 121 = .ok (.iload_n 1, 1) := by decide +kernel
theorem dX4_tipOrKeep_122 : decode cX4_tipOrKeep 122 = .ok (.iconst 3, 1) := by decide +kernel
theorem dX4_tipOrKeep_123 : decode cX4_tipOrKeep 123 = .ok (.iconst 0, 1) := by decide +kernel
theorem dX4_tipOrKeep_124 : decode cX4_tipOrKeep 124 = .ok (.invokevirtual 34, 3) := by decide +kernel
theorem dX4_tipOrKeep_127 : decode cX4_tipOrKeep 127 = .ok (.aload_n 0, 1) := by decide +kernel
theorem dX4_tipOrKeep_128 : decode cX4_tipOrKeep 128 = .ok (.aload_n 0, 1) := by decide +kernel
theorem dX4_tipOrKeep_129 : decode cX4_tipOrKeep 129 = .ok (.iload_n 1, 1) := by decide +kernel
theorem dX4_tipOrKeep_130 : decode cX4_tipOrKeep 130 = .ok (.iconst 2, 1) := by decide +kernel
theorem dX4_tipOrKeep_131 : decode cX4_tipOrKeep 131 = .ok (.invokevirtual 49, 3) := by decide +kernel
theorem dX4_tipOrKeep_134 : decode cX4_tipOrKeep 134 = .ok (.iload 4, 2) := by decide +kernel
theorem dX4_tipOrKeep_136 : decode cX4_tipOrKeep 136 = .ok (.invokevirtual 57, 3) := by decide +kernel
theorem dX4_tipOrKeep_139 : decode cX4_tipOrKeep 139 = .ok (.aload_n 0, 1) := by decide +kernel
theorem dX4_tipOrKeep_140 : decode cX4_tipOrKeep 140 = .ok (.iload_n 1, 1) := by decide +kernel
theorem dX4_tipOrKeep_141 : decode cX4_tipOrKeep 141 = .ok (.iload_n 2, 1) := by decide +kernel
theorem dX4_tipOrKeep_142 : decode cX4_tipOrKeep 142 = .ok (.invokevirtual 61, 3) := by decide +kernel
theorem dX4_tipOrKeep_145 : decode cX4_tipOrKeep 145 = .ok (.goto 43, 3) := by decide +kernel
theorem dX4_tipOrKeep_148 : decode cX4_tipOrKeep 148 = .ok (.aload_n 0, 1) := by decide +kernel
theorem dX4_tipOrKeep_149 : decode cX4_tipOrKeep 149 = .ok (.iload_n 1, 1) := by decide +kernel
theorem dX4_tipOrKeep_150 : decode cX4_tipOrKeep 150 = .ok (.bipush 7, 2) := by decide +kernel
theorem dX4_tipOrKeep_152 : decode cX4_tipOrKeep 152 = .ok (.iconst 0, 1) := by decide +kernel
theorem dX4_tipOrKeep_153 : decode cX4_tipOrKeep 153 = .ok (.invokevirtual 34, 3) := by decide +kernel
theorem dX4_tipOrKeep_156 : decode cX4_tipOrKeep 156 = .ok (.iload 4, 2) := by decide +kernel
theorem dX4_tipOrKeep_158 : decode cX4_tipOrKeep 158 = .ok (.sipush 9999, 3) := by decide +kernel
theorem dX4_tipOrKeep_161 : decode cX4_tipOrKeep 161 = .ok (.if_icmp .le 27, 3) := by decide +kernel
theorem dX4_tipOrKeep_164 : decode cX4_tipOrKeep 164 = .ok (.aload_n 0, 1) := by decide +kernel
theorem dX4_tipOrKeep_165 : decode cX4_tipOrKeep 165 = .ok (.iload_n 1, 1) := by decide +kernel
theorem dX4_tipOrKeep_166 : decode cX4_tipOrKeep 166 = .ok (.iconst 3, 1) := by decide +kernel
theorem dX4_tipOrKeep_167 : decode cX4_tipOrKeep 167 = .ok (.sipush 9999, 3) := by decide +kernel
theorem dX4_tipOrKeep_170 : decode cX4_tipOrKeep 170 = .ok (.invokevirtual 34, 3) := by decide +kernel
theorem dX4_tipOrKeep_173 : decode cX4_tipOrKeep 173 = .ok (.aload_n 0, 1) := by decide +kernel
theorem dX4_tipOrKeep_174 : decode cX4_tipOrKeep 174 = .ok (.getfield 7, 3) := by decide +kernel
theorem dX4_tipOrKeep_177 : decode cX4_tipOrKeep 177 = .ok (.iconst 1, 1) := by decide +kernel
theorem dX4_tipOrKeep_178 : decode cX4_tipOrKeep 178 = .ok (.dup2, 1) := by decide +kernel
theorem dX4_tipOrKeep_179 : decode cX4_tipOrKeep 179 = .ok (.iaload, 1) := by decide +kernel
theorem dX4_tipOrKeep_180 : decode cX4_tipOrKeep 180 = .ok (.iload 4, 2) := by decide +kernel
theorem dX4_tipOrKeep_182 : decode cX4_tipOrKeep 182 = .ok (.sipush 9999, 3) := by decide +kernel
theorem dX4_tipOrKeep_185 : decode cX4_tipOrKeep 185 = .ok (.isub, 1) := by decide +kernel
theorem dX4_tipOrKeep_186 : decode cX4_tipOrKeep 186 = .ok (.iadd, 1) := by decide +kernel
theorem dX4_tipOrKeep_187 : decode cX4_tipOrKeep 187 = .ok (.iastore, 1) := by decide +kernel
theorem dX4_tipOrKeep_188 : decode cX4_tipOrKeep 188 = .ok (.return_, 1) := by decide +kernel
theorem dX4_tick_0 : decode cX4_tick 0 = .ok (.aload_n 0, 1) := by decide +kernel
theorem dX4_tick_1 : decode cX4_tick 1 = .ok (.aload_n 0, 1) := by decide +kernel
theorem dX4_tick_2 : decode cX4_tick 2 = .ok (.getfield 7, 3) := by decide +kernel
theorem dX4_tick_5 : decode cX4_tick 5 = .ok (.iconst 0, 1) := by decide +kernel
theorem dX4_tick_6 : decode cX4_tick 6 = .ok (.iaload, 1) := by decide +kernel
theorem dX4_tick_7 : decode cX4_tick 7 = .ok (.invokevirtual 64, 3) := by decide +kernel
theorem dX4_tick_10 : decode cX4_tick 10 = .ok (.istore_n 1, 1) := by decide +kernel
theorem dX4_tick_11 : decode cX4_tick 11 = .ok (.aload_n 0, 1) := by decide +kernel
theorem dX4_tick_12 : decode cX4_tick 12 = .ok (.getfield 7, 3) := by decide +kernel
theorem dX4_tick_15 : decode cX4_tick 15 = .ok (.bipush 6, 2) := by decide +kernel
theorem dX4_tick_17 : decode cX4_tick 17 = .ok (.iaload, 1) := by decide +kernel
theorem dX4_tick_18 : decode cX4_tick 18 = .ok (.aload_n 0, 1) := by decide +kernel
theorem dX4_tick_19 : decode cX4_tick 19 = .ok (.getfield 7, 3) := by decide +kernel
theorem dX4_tick_22 : decode cX4_tick 22 = .ok (.iconst 1, 1) := by decide +kernel
theorem dX4_tick_23 : decode cX4_tick 23 = .ok (.iaload, 1) := by decide +kernel
theorem dX4_tick_24 : decode cX4_tick 24 = .ok (.if_icmp .ge 13, 3) := by decide +kernel
theorem dX4_tick_27 : decode cX4_tick 27 = .ok (.aload_n 0, 1) := by decide +kernel
theorem dX4_tick_28 : decode cX4_tick 28 = .ok (.getfield 7, 3) := by decide +kernel
theorem dX4_tick_31 : decode cX4_tick 31 = .ok (.bipush 6, 2) := by decide +kernel
theorem dX4_tick_33 : decode cX4_tick 33 = .ok (.iaload, 1) := by decide +kernel
theorem dX4_tick_34 : decode cX4_tick 34 = .ok (.goto 9, 3) := by decide +kernel
theorem dX4_tick_37 : decode cX4_tick 37 = .ok (.aload_n 0, 1) := by decide +kernel
theorem dX4_tick_38 : decode cX4_tick 38 = .ok (.getfield 7, 3) := by decide +kernel
theorem dX4_tick_41 : decode cX4_tick 41 = .ok (.iconst 1, 1) := by decide +kernel
theorem dX4_tick_42 : decode cX4_tick 42 = .ok (.iaload, 1) := by decide +kernel
theorem dX4_tick_43 : decode cX4_tick 43 = .ok (.istore_n 2, 1) := by decide +kernel
theorem dX4_tick_44 : decode cX4_tick 44 = .ok (.aload_n 0, 1) := by decide +kernel
theorem dX4_tick_45 : decode cX4_tick 45 = .ok (.getfield 7, 3) := by decide +kernel
theorem dX4_tick_48 : decode cX4_tick 48 = .ok (.iconst 1, 1) := by decide +kernel
theorem dX4_tick_49 : decode cX4_tick 49 = .ok (.dup2, 1) := by decide +kernel
theorem dX4_tick_50 : decode cX4_tick 50 = .ok (.iaload, 1) := by decide +kernel
theorem dX4_tick_51 : decode cX4_tick 51 = .ok (.iload_n 2, 1) := by decide +kernel
theorem dX4_tick_52 : decode cX4_tick 52 = .ok (.isub, 1) := by decide +kernel
theorem dX4_tick_53 : decode cX4_tick 53 = .ok (.iastore, 1) := by decide +kernel
theorem dX4_tick_54 : decode cX4_tick 54 = .ok (.aload_n 0, 1) := by decide +kernel
theorem dX4_tick_55 : decode cX4_tick 55 = .ok (.getfield 7, 3) := by decide +kernel
theorem dX4_tick_58 : decode cX4_tick 58 = .ok (.iconst 3, 1) := by decide +kernel
theorem dX4_tick_59 : decode cX4_tick 59 = .ok (.dup2, 1) := by decide +kernel
theorem dX4_tick_60 : decode cX4_tick 60 = .ok (.iaload, 1) := by decide +kernel
theorem dX4_tick_61 : decode cX4_tick 61 = .ok (.aload_n 0, 1) := by decide +kernel
theorem dX4_tick_62 : decode cX4_tick 62 = .ok (.getfield 7, 3) := by decide +kernel
theorem dX4_tick_65 : decode cX4_tick 65 = .ok (.iconst 5, 1) := by decide +kernel
theorem dX4_tick_66 : decode cX4_tick 66 = .ok (.iaload, 1) := by decide +kernel
theorem dX4_tick_67 : decode cX4_tick 67 = .ok (.iadd, 1) := by decide +kernel
theorem dX4_tick_68 : decode cX4_tick 68 = .ok (.iastore, 1) := by decide +kernel
theorem dX4_tick_69 : decode cX4_tick 69 = .ok (.aload_n 0, 1) := by decide +kernel
theorem dX4_tick_70 : decode cX4_tick 70 = .ok (.iconst 0, 1) := by decide +kernel
theorem dX4_tick_71 : decode cX4_tick 71 = .ok (.iload_n 2, 1) := by decide +kernel
theorem dX4_tick_72 : decode cX4_tick 72 = .ok (.aload_n 0, 1) := by decide +kernel
theorem dX4_tick_73 : decode cX4_tick 73 = .ok (.getfield 7, 3) := by decide +kernel
theorem dX4_tick_76 : decode cX4_tick 76 = .ok (.iconst 5, 1) := by decide +kernel
theorem dX4_tick_77 : decode cX4_tick 77 = .ok (.iaload, 1) := by decide +kernel
theorem dX4_tick_78 : decode cX4_tick 78 = .ok (.iadd, 1) := by decide +kernel
theorem dX4_tick_79 : decode cX4_tick 79 = .ok (.invokevirtual 57, 3) := by decide +kernel
theorem dX4_tick_82 : decode cX4_tick 82 = .ok (.iconst 0, 1) := by decide +kernel
theorem dX4_tick_83 : decode cX4_tick 83 = .ok (.istore_n 3, 1) := by decide +kernel
theorem dX4_tick_84 : decode cX4_tick 84 = .ok (.iload_n 3, 1) := by decide +kernel
theorem dX4_tick_85 : decode cX4_tick 85 = .ok (.bipush 8, 2) := by decide +kernel
theorem dX4_tick_87 : decode cX4_tick 87 = .ok (.if_icmp .ge 15, 3) := by decide +kernel
theorem dX4_tick_90 : decode cX4_tick 90 = .ok (.aload_n 0, 1) := by decide +kernel
theorem dX4_tick_91 : decode cX4_tick 91 = .ok (.iload_n 3, 1) := by decide +kernel
theorem dX4_tick_92 : decode cX4_tick 92 = .ok (.iload_n 1, 1) := by decide +kernel
theorem dX4_tick_93 : decode cX4_tick 93 = .ok (.invokevirtual 68, 3) := by decide +kernel
theorem dX4_tick_96 : decode cX4_tick 96 = .ok (.iinc 3 1, 3) := by decide +kernel
theorem dX4_tick_99 : decode cX4_tick 99 = .ok (.goto (-15), 3) := by decide +kernel
theorem dX4_tick_102 : decode cX4_tick 102 = .ok (.iconst 0, 1) := by decide +kernel
theorem dX4_tick_103 : decode cX4_tick 103 = .ok (.istore_n 3, 1) := by decide +kernel
theorem dX4_tick_104 : decode cX4_tick 104 = .ok (.iload_n 3, 1) := by decide +kernel
theorem dX4_tick_105 : decode cX4_tick 105 = .ok (.bipush 8, 2) := by decide +kernel
theorem dX4_tick_107 : decode cX4_tick 107 = .ok (.if_icmp .ge 67, 3) := by decide +kernel
theorem dX4_tick_110 : decode cX4_tick 110 = .ok (.aload_n 0, 1) := by decide +kernel
theorem dX4_tick_111 : decode cX4_tick 111 = .ok (.iload_n 3, 1) := by decide +kernel
theorem dX4_tick_112 : decode cX4_tick 112 = .ok (.iconst 1, 1) := by decide +kernel
theorem dX4_tick_113 : decode cX4_tick 113 = .ok (.invokevirtual 49, 3) := by decide +kernel
theorem dX4_tick_116 : decode cX4_tick 116 = .ok (.aload_n 0, 1) := by decide +kernel
theorem dX4_tick_117 : decode cX4_tick 117 = .ok (.iload_n 3, 1) := by decide +kernel
theorem dX4_tick_118 : decode cX4_tick 118 = .ok (.iconst 3, 1) := by decide +kernel
theorem dX4_tick_119 : decode cX4_tick 119 = .ok (.invokevirtual 49, 3) := by decide +kernel
theorem dX4_tick_122 : decode cX4_tick 122 = .ok (.if_icmp .ge 12, 3) := by decide +kernel
theorem dX4_tick_125 : decode cX4_tick 125 = .ok (.aload_n 0, 1) := by decide +kernel
theorem dX4_tick_126 : decode cX4_tick 126 = .ok (.iload_n 3, 1) := by decide +kernel
theorem dX4_tick_127 : decode cX4_tick 127 = .ok (.iconst 1, 1) := by decide +kernel
theorem dX4_tick_128 : decode cX4_tick 128 = .ok (.invokevirtual 49, 3) := by decide +kernel
theorem dX4_tick_131 : decode cX4_tick 131 = .ok (.goto 9, 3) := by decide +kernel
theorem dX4_tick_134 : decode cX4_tick 134 = .ok (.aload_n 0, 1) := by decide +kernel
theorem dX4_tick_135 : decode cX4_tick 135 = .ok (.iload_n 3, 1) := by decide +kernel
theorem dX4_tick_136 : decode cX4_tick 136 = .ok (.iconst 3, 1) := by decide +kernel
theorem dX4_tick_137 : decode cX4_tick 137 = .ok (.invokevirtual 49, 3) := by decide +kernel
theorem dX4_tick_140 : decode cX4_tick 140 = .ok (.istore 4, 2) := by decide +kernel
theorem dX4_tick_142 : decode cX4_tick 142 = .ok (.aload_n 0, 1) := by decide +kernel
theorem dX4_tick_143 : decode cX4_tick 143 = .ok (.iload_n 3, 1) := by decide +kernel
theorem dX4_tick_144 : decode cX4_tick 144 = .ok (.iconst 3, 1) := by decide +kernel
theorem dX4_tick_145 : decode cX4_tick 145 = .ok (.aload_n 0, 1) := by decide +kernel
theorem dX4_tick_146 : decode cX4_tick 146 = .ok (.iload_n 3, 1) := by decide +kernel
theorem dX4_tick_147 : decode cX4_tick 147 = .ok (.iconst 3, 1) := by decide +kernel
theorem dX4_tick_148 : decode cX4_tick 148 = .ok (.invokevirtual 49, 3) := by decide +kernel
theorem dX4_tick_151 : decode cX4_tick 151 = .ok (.iload 4, 2) := by decide +kernel
theorem dX4_tick_153 : decode cX4_tick 153 = .ok (.isub, 1) := by decide +kernel
theorem dX4_tick_154 : decode cX4_tick 154 = .ok (.invokevirtual 34, 3) := by decide +kernel
theorem dX4_tick_157 : decode cX4_tick 157 = .ok (.aload_n 0, 1) := by decide +kernel
theorem dX4_tick_158 : decode cX4_tick 158 = .ok (.getfield 7, 3) := by decide +kernel
theorem dX4_tick_161 : decode cX4_tick 161 = .ok (.iconst 2, 1) := by decide +kernel
theorem dX4_tick_162 : decode cX4_tick 162 = .ok (.dup2, 1) := by decide +kernel
theorem dX4_tick_163 : decode cX4_tick 163 = .ok (.iaload, 1) := by decide +kernel
theorem dX4_tick_164 : decode cX4_tick 164 = .ok (.iload 4, 2) := by decide +kernel
theorem dX4_tick_166 : decode cX4_tick 166 = .ok (.iadd, 1) := by decide +kernel
theorem dX4_tick_167 : decode cX4_tick 167 = .ok (.iastore, 1) := by decide +kernel
theorem dX4_tick_168 : decode cX4_tick 168 = .ok (.iinc 3 1, 3) := by decide +kernel
theorem dX4_tick_171 : decode cX4_tick 171 = .ok (.goto (-67), 3) := by decide +kernel
theorem dX4_tick_174 : decode cX4_tick 174 = .ok (.aload_n 0, 1) := by decide +kernel
theorem dX4_tick_175 : decode cX4_tick 175 = .ok (.getfield 7, 3) := by decide +kernel
theorem dX4_tick_178 : decode cX4_tick 178 = .ok (.iconst 0, 1) := by decide +kernel
theorem dX4_tick_179 : decode cX4_tick 179 = .ok (.dup2, 1) := by decide +kernel
theorem dX4_tick_180 : decode cX4_tick 180 = .ok (.iaload, 1) := by decide +kernel
theorem dX4_tick_181 : decode cX4_tick 181 = .ok (.iconst 1, 1) := by decide +kernel
theorem dX4_tick_182 : decode cX4_tick 182 = .ok (.iadd, 1) := by decide +kernel
theorem dX4_tick_183 : decode cX4_tick 183 = .ok (.iastore, 1) := by decide +kernel
theorem dX4_tick_184 : decode cX4_tick 184 = .ok (.return_, 1) := by decide +kernel
theorem dX4_sumOf_0 : decode cX4_sumOf 0 = .ok (.iconst 0, 1) := by decide +kernel
theorem dX4_sumOf_1 : decode cX4_sumOf 1 = .ok (.istore_n 2, 1) := by decide +kernel
theorem dX4_sumOf_2 : decode cX4_sumOf 2 = .ok (.iconst 0, 1) := by decide +kernel
theorem dX4_sumOf_3 : decode cX4_sumOf 3 = .ok (.istore_n 3, 1) := by decide +kernel
theorem dX4_sumOf_4 : decode cX4_sumOf 4 = .ok (.iload_n 3, 1) := by decide +kernel
theorem dX4_sumOf_5 : decode cX4_sumOf 5 = .ok (.bipush 8, 2) := by decide +kernel
theorem dX4_sumOf_7 : decode cX4_sumOf 7 = .ok (.if_icmp .ge 18, 3) := by decide +kernel
theorem dX4_sumOf_10 : decode cX4_sumOf 10 = .ok (.iload_n 2, 1) := by decide +kernel
theorem dX4_sumOf_11 : decode cX4_sumOf 11 = .ok (.aload_n 0, 1) := by decide +kernel
theorem dX4_sumOf_12 : decode cX4_sumOf 12 = .ok (.iload_n 3, 1) := by decide +kernel
theorem dX4_sumOf_13 : decode cX4_sumOf 13 = .ok (.iload_n 1, 1) := by decide +kernel
theorem dX4_sumOf_14 : decode cX4_sumOf 14 = .ok (.invokevirtual 49, 3) := by decide +kernel
theorem dX4_sumOf_17 : decode cX4_sumOf 17 = .ok (.iadd, 1) := by decide +kernel
theorem dX4_sumOf_18 : decode cX4_sumOf 18 = .ok (.istore_n 2, 1) := by decide +kernel
theorem dX4_sumOf_19 : decode cX4_sumOf 19 = .ok (.iinc 3 1, 3) := by decide +kernel
theorem dX4_sumOf_22 : decode cX4_sumOf 22 = .ok (.goto (-18), 3) := by decide +kernel
theorem dX4_sumOf_25 : decode cX4_sumOf 25 = .ok (.iload_n 2, 1) := by decide +kernel
theorem dX4_sumOf_26 : decode cX4_sumOf 26 = .ok (.ireturn, 1) := by decide +kernel
theorem dX4_isValue_0 : decode cX4_isValue 0 = .ok (.iload_n 1, 1) := by decide +kernel
theorem dX4_isValue_1 : decode cX4_isValue 1 = .ok (.ifCond .ne 13, 3) := by decide +kernel
theorem dX4_isValue_4 : decode cX4_isValue 4 = .ok (.iload_n 2, 1) := by decide +kernel
theorem dX4_isValue_5 : decode cX4_isValue 5 = .ok (.iconst 1, 1) := by decide +kernel
theorem dX4_isValue_6 : decode cX4_isValue 6 = .ok (.bipush 99, 2) := by decide +kernel
theorem dX4_isValue_8 : decode cX4_isValue 8 = .ok (.invokestatic 38, 3) := by decide +kernel
theorem dX4_isValue_11 : decode cX4_isValue 11 = .ok (.goto 40, 3) := by decide +kernel
theorem dX4_isValue_14 : decode cX4_isValue 14 = .ok (.iload_n 1, 1) := by decide +kernel
theorem dX4_isValue_15 : decode cX4_isValue 15 = .ok (.iconst 1, 1) := by decide +kernel
theorem dX4_isValue_16 : decode cX4_isValue 16 = .ok (.if_icmp .ne 13, 3) := by decide +kernel
theorem dX4_isValue_19 : decode cX4_isValue 19 = .ok (.iload_n 2, 1) := by decide +kernel
theorem dX4_isValue_20 : decode cX4_isValue 20 = .ok (.iconst 0, 1) := by decide +kernel
theorem dX4_isValue_21 : decode cX4_isValue 21 = .ok (.bipush 9, 2) := by decide +kernel
theorem dX4_isValue_23 : decode cX4_isValue 23 = .ok (.invokestatic 38, 3) := by decide +kernel
theorem dX4_isValue_26 : decode cX4_isValue 26 = .ok (.goto 25, 3) := by decide +kernel
theorem dX4_isValue_29 : decode cX4_isValue 29 = .ok (.iload_n 1, 1) := by decide +kernel
theorem dX4_isValue_30 : decode cX4_isValue 30 = .ok (.iconst 2, 1) := by decide +kernel
theorem dX4_isValue_31 : decode cX4_isValue 31 = .ok (.if_icmp .ne 19, 3) := by decide +kernel
theorem dX4_isValue_34 : decode cX4_isValue 34 = .ok (.iload_n 2, 1) := by decide +kernel
theorem dX4_isValue_35 : decode cX4_isValue 35 = .ok (.iload_n 0, 1) := by decide +kernel
theorem dX4_isValue_36 : decode cX4_isValue 36 = .ok (.iconst 1, 1) := by decide +kernel
theorem dX4_isValue_37 : decode cX4_isValue 37 = .ok (.iadd, 1) := by decide +kernel
theorem dX4_isValue_38 : decode cX4_isValue 38 = .ok (.bipush 8, 2) := by decide +kernel
theorem dX4_isValue_40 : decode cX4_isValue 40 = .ok (.invokestatic 38, 3) := by decide +kernel
theorem dX4_isValue_43 : decode cX4_isValue 43 = .ok (.ifCond .eq 7, 3) := by decide +kernel
theorem dX4_isValue_46 : decode cX4_isValue 46 = .ok (.iconst 1, 1) := by decide +kernel
theorem dX4_isValue_47 : decode cX4_isValue 47 = .ok (.goto 4, 3) := by decide +kernel
theorem dX4_isValue_50 : decode cX4_isValue 50 = .ok (.iconst 0, 1) := by decide +kernel
theorem dX4_isValue_51 : decode cX4_isValue 51 = .ok (.ireturn, 1) := by decide +kernel
theorem dX4_doSetCup_0 : decode cX4_doSetCup 0 = .ok (.iload_n 1, 1) := by decide +kernel
theorem dX4_doSetCup_1 : decode cX4_doSetCup 1 = .ok (.invokestatic 71, 3) := by decide +kernel
theorem dX4_doSetCup_4 : decode cX4_doSetCup 4 = .ok (.ifCond .ne 5, 3) := by decide +kernel
theorem dX4_doSetCup_7 : decode cX4_doSetCup 7 = .ok (.iconst (-1), 1) := by decide +kernel
theorem dX4_doSetCup_8 : decode cX4_doSetCup 8 = .ok (.ireturn, 1) := by decide +kernel
theorem dX4_doSetCup_9 : decode cX4_doSetCup 9 = .ok (.iload_n 1, 1) := by decide +kernel
theorem dX4_doSetCup_10 : decode cX4_doSetCup 10 = .ok (.iload_n 2, 1) := by decide +kernel
theorem dX4_doSetCup_11 : decode cX4_doSetCup 11 = .ok (.iload_n 3, 1) := by decide +kernel
theorem dX4_doSetCup_12 : decode cX4_doSetCup 12 = .ok (.invokestatic 74, 3) := by decide +kernel
theorem dX4_doSetCup_15 : decode cX4_doSetCup 15 = .ok (.ifCond .ne 6, 3) := by decide +kernel
theorem dX4_doSetCup_18 : decode cX4_doSetCup 18 = .ok (.bipush (-2), 2) := by decide +kernel
theorem dX4_doSetCup_20 : decode cX4_doSetCup 20 = .ok (.ireturn, 1) := by decide +kernel
theorem dX4_doSetCup_21 : decode cX4_doSetCup 21 = .ok (.aload_n 0, 1) := by decide +kernel
theorem dX4_doSetCup_22 : decode cX4_doSetCup 22 = .ok (.iload_n 1, 1) := by decide +kernel
theorem dX4_doSetCup_23 : decode cX4_doSetCup 23 = .ok (.iload_n 2, 1) := by decide +kernel
theorem dX4_doSetCup_24 : decode cX4_doSetCup 24 = .ok (.invokevirtual 49, 3) := by decide +kernel
theorem dX4_doSetCup_27 : decode cX4_doSetCup 27 = .ok (.istore 4, 2) := by decide +kernel
theorem dX4_doSetCup_29 : decode cX4_doSetCup 29 = .ok (.aload_n 0, 1) := by decide +kernel
theorem dX4_doSetCup_30 : decode cX4_doSetCup 30 = .ok (.iload_n 1, 1) := by decide +kernel
theorem dX4_doSetCup_31 : decode cX4_doSetCup 31 = .ok (.iload_n 2, 1) := by decide +kernel
theorem dX4_doSetCup_32 : decode cX4_doSetCup 32 = .ok (.iload_n 3, 1) := by decide +kernel
theorem dX4_doSetCup_33 : decode cX4_doSetCup 33 = .ok (.invokevirtual 34, 3) := by decide +kernel
theorem dX4_doSetCup_36 : decode cX4_doSetCup 36 = .ok (.iload 4, 2) := by decide +kernel
theorem dX4_doSetCup_38 : decode cX4_doSetCup 38 = .ok (.iload_n 3, 1) := by decide +kernel
theorem dX4_doSetCup_39 : decode cX4_doSetCup 39 = .ok (.if_icmp .ne 8, 3) := by decide +kernel
theorem dX4_doSetCup_42 : decode cX4_doSetCup 42 = .ok (.bipush (-5), 2) := by decide +kernel
theorem dX4_doSetCup_44 : decode cX4_doSetCup 44 = .ok (.goto 5, 3) := by decide +kernel
theorem dX4_doSetCup_47 : decode cX4_doSetCup 47 = .ok (.iload 4, 2) := by decide +kernel
theorem dX4_doSetCup_49 : decode cX4_doSetCup 49 = .ok (.ireturn, 1) := by decide +kernel
theorem dX4_doTurn_0 : decode cX4_doTurn 0 = .ok (.iload_n 1, 1) := by decide +kernel
theorem dX4_doTurn_1 : decode cX4_doTurn 1 = .ok (.invokestatic 71, 3) := by decide +kernel
theorem dX4_doTurn_4 : decode cX4_doTurn 4 = .ok (.ifCond .ne 5, 3) := by decide +kernel
theorem dX4_doTurn_7 : decode cX4_doTurn 7 = .ok (.iconst (-1), 1) := by decide +kernel
theorem dX4_doTurn_8 : decode cX4_doTurn 8 = .ok (.ireturn, 1) := by decide +kernel
theorem dX4_doTurn_9 : decode cX4_doTurn 9 = .ok (.aload_n 0, 1) := by decide +kernel
theorem dX4_doTurn_10 : decode cX4_doTurn 10 = .ok (.iload_n 1, 1) := by decide +kernel
theorem dX4_doTurn_11 : decode cX4_doTurn 11 = .ok (.bipush 6, 2) := by decide +kernel
theorem dX4_doTurn_13 : decode cX4_doTurn 13 = .ok (.invokevirtual 49, 3) := by decide +kernel
theorem dX4_doTurn_16 : decode cX4_doTurn 16 = .ok (.iconst 1, 1) := by decide +kernel
theorem dX4_doTurn_17 : decode cX4_doTurn 17 = .ok (.if_icmp .ne 6, 3) := by decide +kernel
theorem dX4_doTurn_20 : decode cX4_doTurn 20 = .ok (.bipush (-4), 2) := by decide +kernel
theorem dX4_doTurn_22 : decode cX4_doTurn 22 = .ok (.ireturn, 1) := by decide +kernel
theorem dX4_doTurn_23 : decode cX4_doTurn 23 = .ok (.aload_n 0, 1) := by decide +kernel
theorem dX4_doTurn_24 : decode cX4_doTurn 24 = .ok (.iload_n 1, 1) := by decide +kernel
theorem dX4_doTurn_25 : decode cX4_doTurn 25 = .ok (.iconst 5, 1) := by decide +kernel
theorem dX4_doTurn_26 : decode cX4_doTurn 26 = .ok (.iconst 1, 1) := by decide +kernel
theorem dX4_doTurn_27 : decode cX4_doTurn 27 = .ok (.aload_n 0, 1) := by decide +kernel
theorem dX4_doTurn_28 : decode cX4_doTurn 28 = .ok (.iload_n 1, 1) := by decide +kernel
theorem dX4_doTurn_29 : decode cX4_doTurn 29 = .ok (.iconst 5, 1) := by decide +kernel
theorem dX4_doTurn_30 : decode cX4_doTurn 30 = .ok (.invokevirtual 49, 3) := by decide +kernel
theorem dX4_doTurn_33 : decode cX4_doTurn 33 = .ok (.isub, 1) := by decide +kernel
theorem dX4_doTurn_34 : decode cX4_doTurn 34 = .ok (.invokevirtual 34, 3) := by decide +kernel
theorem dX4_doTurn_37 : decode cX4_doTurn 37 = .ok (.aload_n 0, 1) := by decide +kernel
theorem dX4_doTurn_38 : decode cX4_doTurn 38 = .ok (.iload_n 1, 1) := by decide +kernel
theorem dX4_doTurn_39 : decode cX4_doTurn 39 = .ok (.iconst 5, 1) := by decide +kernel
theorem dX4_doTurn_40 : decode cX4_doTurn 40 = .ok (.invokevirtual 49, 3) := by decide +kernel
theorem dX4_doTurn_43 : decode cX4_doTurn 43 = .ok (.ireturn, 1) := by decide +kernel
theorem dX4_doSetHour_0 : decode cX4_doSetHour 0 = .ok (.iload_n 1, 1) := by decide +kernel
theorem dX4_doSetHour_1 : decode cX4_doSetHour 1 = .ok (.invokestatic 71, 3) := by decide +kernel
theorem dX4_doSetHour_4 : decode cX4_doSetHour 4 = .ok (.ifCond .ne 5, 3) := by decide +kernel
theorem dX4_doSetHour_7 : decode cX4_doSetHour 7 = .ok (.iconst (-1), 1) := by decide +kernel
theorem dX4_doSetHour_8 : decode cX4_doSetHour 8 = .ok (.ireturn, 1) := by decide +kernel
theorem dX4_doSetHour_9 : decode cX4_doSetHour 9 = .ok (.iload_n 2, 1) := by decide +kernel
theorem dX4_doSetHour_10 : decode cX4_doSetHour 10 = .ok (.iconst (-1), 1) := by decide +kernel
theorem dX4_doSetHour_11 : decode cX4_doSetHour 11 = .ok (.sipush 239, 3) := by decide +kernel
theorem dX4_doSetHour_14 : decode cX4_doSetHour 14 = .ok (.invokestatic 38, 3) := by decide +kernel
theorem dX4_doSetHour_17 : decode cX4_doSetHour 17 = .ok (.ifCond .ne 6, 3) := by decide +kernel
theorem dX4_doSetHour_20 : decode cX4_doSetHour 20 = .ok (.bipush (-2), 2) := by decide +kernel
theorem dX4_doSetHour_22 : decode cX4_doSetHour 22 = .ok (.ireturn, 1) := by decide +kernel
theorem dX4_doSetHour_23 : decode cX4_doSetHour 23 = .ok (.aload_n 0, 1) := by decide +kernel
theorem dX4_doSetHour_24 : decode cX4_doSetHour 24 = .ok (.iload_n 1, 1) := by decide +kernel
theorem dX4_doSetHour_25 : decode cX4_doSetHour 25 = .ok (.iconst 4, 1) := by decide +kernel
theorem dX4_doSetHour_26 : decode cX4_doSetHour 26 = .ok (.invokevirtual 49, 3) := by decide +kernel
theorem dX4_doSetHour_29 : decode cX4_doSetHour 29 = .ok (.istore_n 3, 1) := by decide +kernel
theorem dX4_doSetHour_30 : decode cX4_doSetHour 30 = .ok (.iload_n 3, 1) := by decide +kernel
theorem dX4_doSetHour_31 : decode cX4_doSetHour 31 = .ok (.iload_n 2, 1) := by decide +kernel
theorem dX4_doSetHour_32 : decode cX4_doSetHour 32 = .ok (.if_icmp .ne 6, 3) := by decide +kernel
theorem dX4_doSetHour_35 : decode cX4_doSetHour 35 = .ok (.bipush (-5), 2) := by decide +kernel
theorem dX4_doSetHour_37 : decode cX4_doSetHour 37 = .ok (.ireturn, 1) := by decide +kernel
theorem dX4_doSetHour_38 : decode cX4_doSetHour 38 = .ok (.aload_n 0, 1) := by decide +kernel
theorem dX4_doSetHour_39 : decode cX4_doSetHour 39 = .ok (.iload_n 1, 1) := by decide +kernel
theorem dX4_doSetHour_40 : decode cX4_doSetHour 40 = .ok (.iconst 4, 1) := by decide +kernel
theorem dX4_doSetHour_41 : decode cX4_doSetHour 41 = .ok (.iload_n 2, 1) := by decide +kernel
theorem dX4_doSetHour_42 : decode cX4_doSetHour 42 = .ok (.invokevirtual 34, 3) := by decide +kernel
theorem dX4_doSetHour_45 : decode cX4_doSetHour 45 = .ok (.iload_n 2, 1) := by decide +kernel
theorem dX4_doSetHour_46 : decode cX4_doSetHour 46 = .ok (.iconst (-1), 1) := by decide +kernel
theorem dX4_doSetHour_47 : decode cX4_doSetHour 47 = .ok (.if_icmp .ne 18, 3) := by decide +kernel
theorem dX4_doSetHour_50 : decode cX4_doSetHour 50 = .ok (.aload_n 0, 1) := by decide +kernel
theorem dX4_doSetHour_51 : decode cX4_doSetHour 51 = .ok (.iload_n 1, 1) := by decide +kernel
theorem dX4_doSetHour_52 : decode cX4_doSetHour 52 = .ok (.bipush 6, 2) := by decide +kernel
theorem dX4_doSetHour_54 : decode cX4_doSetHour 54 = .ok (.iconst 0, 1) := by decide +kernel
theorem dX4_doSetHour_55 : decode cX4_doSetHour 55 = .ok (.invokevirtual 34, 3) := by decide +kernel
theorem dX4_doSetHour_58 : decode cX4_doSetHour 58 = .ok (.aload_n 0, 1) := by decide +kernel
theorem dX4_doSetHour_59 : decode cX4_doSetHour 59 = .ok (.iload_n 1, 1) := by decide +kernel
theorem dX4_doSetHour_60 : decode cX4_doSetHour 60 = .ok (.iconst 5, 1) := by decide +kernel
theorem dX4_doSetHour_61 : decode cX4_doSetHour 61 = .ok (.iconst 1, 1) := by decide +kernel
theorem dX4_doSetHour_62 : decode cX4_doSetHour 62 = .ok (.invokevirtual 34, 3) := by decide +kernel
theorem dX4_doSetHour_65 : decode cX4_doSetHour 65 = .ok (.iload_n 3, 1) := by decide +kernel
theorem dX4_doSetHour_66 : decode cX4_doSetHour 66 = .ok (.iconst (-1), 1) := by decide +kernel
theorem dX4_doSetHour_67 : decode cX4_doSetHour 67 = .ok (.if_icmp .ne 9, 3) := by decide +kernel
theorem dX4_doSetHour_70 : decode cX4_doSetHour 70 = .ok (.sipush 240, 3) := by decide +kernel
theorem dX4_doSetHour_73 : decode cX4_doSetHour 73 = .ok (.goto 4, 3) := by decide +kernel
theorem dX4_doSetHour_76 : decode cX4_doSetHour 76 = .ok (.iload_n 3, 1) := by decide +kernel
theorem dX4_doSetHour_77 : decode cX4_doSetHour 77 = .ok (.ireturn, 1) := by decide +kernel
theorem dX4_doGuard_0 : decode cX4_doGuard 0 = .ok (.iload_n 1, 1) := by decide +kernel
theorem dX4_doGuard_1 : decode cX4_doGuard 1 = .ok (.invokestatic 71, 3) := by decide +kernel
theorem dX4_doGuard_4 : decode cX4_doGuard 4 = .ok (.ifCond .ne 5, 3) := by decide +kernel
theorem dX4_doGuard_7 : decode cX4_doGuard 7 = .ok (.iconst (-1), 1) := by decide +kernel
theorem dX4_doGuard_8 : decode cX4_doGuard 8 = .ok (.ireturn, 1) := by decide +kernel
theorem dX4_doGuard_9 : decode cX4_doGuard 9 = .ok (.aload_n 0, 1) := by decide +kernel
theorem dX4_doGuard_10 : decode cX4_doGuard 10 = .ok (.iload_n 1, 1) := by decide +kernel
theorem dX4_doGuard_11 : decode cX4_doGuard 11 = .ok (.iconst 4, 1) := by decide +kernel
theorem dX4_doGuard_12 : decode cX4_doGuard 12 = .ok (.invokevirtual 49, 3) := by decide +kernel
theorem dX4_doGuard_15 : decode cX4_doGuard 15 = .ok (.iconst (-1), 1) := by decide +kernel
theorem dX4_doGuard_16 : decode cX4_doGuard 16 = .ok (.if_icmp .ne 6, 3) := by decide +kernel
theorem dX4_doGuard_19 : decode cX4_doGuard 19 = .ok (.bipush (-4), 2) := by decide +kernel
theorem dX4_doGuard_21 : decode cX4_doGuard 21 = .ok (.ireturn, 1) := by decide +kernel
theorem dX4_doGuard_22 : decode cX4_doGuard 22 = .ok (.aload_n 0, 1) := by decide +kernel
theorem dX4_doGuard_23 : decode cX4_doGuard 23 = .ok (.iload_n 1, 1) := by decide +kernel
theorem dX4_doGuard_24 : decode cX4_doGuard 24 = .ok (.iconst 5, 1) := by decide +kernel
theorem dX4_doGuard_25 : decode cX4_doGuard 25 = .ok (.aload_n 0, 1) := by decide +kernel
theorem dX4_doGuard_26 : decode cX4_doGuard 26 = .ok (.iload_n 1, 1) := by decide +kernel
theorem dX4_doGuard_27 : decode cX4_doGuard 27 = .ok (.bipush 6, 2) := by decide +kernel
theorem dX4_doGuard_29 : decode cX4_doGuard 29 = .ok (.invokevirtual 49, 3) := by decide +kernel
theorem dX4_doGuard_32 : decode cX4_doGuard 32 = .ok (.invokevirtual 34, 3) := by decide +kernel
theorem dX4_doGuard_35 : decode cX4_doGuard 35 = .ok (.aload_n 0, 1) := by decide +kernel
theorem dX4_doGuard_36 : decode cX4_doGuard 36 = .ok (.iload_n 1, 1) := by decide +kernel
theorem dX4_doGuard_37 : decode cX4_doGuard 37 = .ok (.bipush 6, 2) := by decide +kernel
theorem dX4_doGuard_39 : decode cX4_doGuard 39 = .ok (.iconst 1, 1) := by decide +kernel
theorem dX4_doGuard_40 : decode cX4_doGuard 40 = .ok (.aload_n 0, 1) := by decide +kernel
theorem dX4_doGuard_41 : decode cX4_doGuard 41 = .ok (.iload_n 1, 1) := by decide +kernel
theorem dX4_doGuard_42 : decode cX4_doGuard 42 = .ok (.bipush 6, 2) := by decide +kernel
theorem dX4_doGuard_44 : decode cX4_doGuard 44 = .ok (.invokevirtual 49, 3) := by decide +kernel
theorem dX4_doGuard_47 : decode cX4_doGuard 47 = .ok (.isub, 1) := by decide +kernel
theorem dX4_doGuard_48 : decode cX4_doGuard 48 = .ok (.invokevirtual 34, 3) := by decide +kernel
theorem dX4_doGuard_51 : decode cX4_doGuard 51 = .ok (.aload_n 0, 1) := by decide +kernel
theorem dX4_doGuard_52 : decode cX4_doGuard 52 = .ok (.iload_n 1, 1) := by decide +kernel
theorem dX4_doGuard_53 : decode cX4_doGuard 53 = .ok (.bipush 6, 2) := by decide +kernel
theorem dX4_doGuard_55 : decode cX4_doGuard 55 = .ok (.invokevirtual 49, 3) := by decide +kernel
theorem dX4_doGuard_58 : decode cX4_doGuard 58 = .ok (.ireturn, 1) := by decide +kernel
theorem dX4_doFill_0 : decode cX4_doFill 0 = .ok (.iload_n 1, 1) := by decide +kernel
theorem dX4_doFill_1 : decode cX4_doFill 1 = .ok (.invokestatic 71, 3) := by decide +kernel
theorem dX4_doFill_4 : decode cX4_doFill 4 = .ok (.ifCond .ne 5, 3) := by decide +kernel
theorem dX4_doFill_7 : decode cX4_doFill 7 = .ok (.iconst (-1), 1) := by decide +kernel
theorem dX4_doFill_8 : decode cX4_doFill 8 = .ok (.ireturn, 1) := by decide +kernel
theorem dX4_doFill_9 : decode cX4_doFill 9 = .ok (.iload_n 2, 1) := by decide +kernel
theorem dX4_doFill_10 : decode cX4_doFill 10 = .ok (.iconst 1, 1) := by decide +kernel
theorem dX4_doFill_11 : decode cX4_doFill 11 = .ok (.bipush 99, 2) := by decide +kernel
theorem dX4_doFill_13 : decode cX4_doFill 13 = .ok (.invokestatic 38, 3) := by decide +kernel
theorem dX4_doFill_16 : decode cX4_doFill 16 = .ok (.ifCond .ne 6, 3) := by decide +kernel
theorem dX4_doFill_19 : decode cX4_doFill 19 = .ok (.bipush (-2), 2) := by decide +kernel
theorem dX4_doFill_21 : decode cX4_doFill 21 = .ok (.ireturn, 1) := by decide +kernel
theorem dX4_doFill_22 : decode cX4_doFill 22 = .ok (.aload_n 0, 1) := by decide +kernel
theorem dX4_doFill_23 : decode cX4_doFill 23 = .ok (.iload_n 1, 1) := by decide +kernel
theorem dX4_doFill_24 : decode cX4_doFill 24 = .ok (.iconst 3, 1) := by decide +kernel
theorem dX4_doFill_25 : decode cX4_doFill 25 = .ok (.invokevirtual 49, 3) := by decide +kernel
theorem dX4_doFill_28 : decode cX4_doFill 28 = .ok (.iload_n 2, 1) := by decide +kernel
theorem dX4_doFill_29 : decode cX4_doFill 29 = .ok (.iadd, 1) := by decide +kernel
theorem dX4_doFill_30 : decode cX4_doFill 30 = .ok (.sipush 9999, 3) := by decide +kernel
theorem dX4_doFill_33 : decode cX4_doFill 33 = .ok (.if_icmp .le 6, 3) := by decide +kernel
theorem dX4_doFill_36 : decode cX4_doFill 36 = .ok (.bipush (-3), 2) := by decide +kernel
theorem dX4_doFill_38 : decode cX4_doFill 38 = .ok (.ireturn, 1) := by decide +kernel
theorem dX4_doFill_39 : decode cX4_doFill 39 = .ok (.aload_n 0, 1) := by decide +kernel
theorem dX4_doFill_40 : decode cX4_doFill 40 = .ok (.iload_n 1, 1) := by decide +kernel
theorem dX4_doFill_41 : decode cX4_doFill 41 = .ok (.iconst 3, 1) := by decide +kernel
theorem dX4_doFill_42 : decode cX4_doFill 42 = .ok (.aload_n 0, 1) := by decide +kernel
theorem dX4_doFill_43 : decode cX4_doFill 43 = .ok (.iload_n 1, 1) := by decide +kernel
theorem dX4_doFill_44 : decode cX4_doFill 44 = .ok (.iconst 3, 1) := by decide +kernel
theorem dX4_doFill_45 : decode cX4_doFill 45 = .ok (.invokevirtual 49, 3) := by decide +kernel
theorem dX4_doFill_48 : decode cX4_doFill 48 = .ok (.iload_n 2, 1) := by decide +kernel
theorem dX4_doFill_49 : decode cX4_doFill 49 = .ok (.iadd, 1) := by decide +kernel
theorem dX4_doFill_50 : decode cX4_doFill 50 = .ok (.invokevirtual 34, 3) := by decide +kernel
theorem dX4_doFill_53 : decode cX4_doFill 53 = .ok (.aload_n 0, 1) := by decide +kernel
theorem dX4_doFill_54 : decode cX4_doFill 54 = .ok (.getfield 7, 3) := by decide +kernel
theorem dX4_doFill_57 : decode cX4_doFill 57 = .ok (.iconst 4, 1) := by decide +kernel
theorem dX4_doFill_58 : decode cX4_doFill 58 = .ok (.dup2, 1) := by decide +kernel
theorem dX4_doFill_59 : decode cX4_doFill 59 = .ok (.iaload, 1) := by decide +kernel
theorem dX4_doFill_60 : decode cX4_doFill 60 = .ok (.iload_n 2, 1) := by decide +kernel
theorem dX4_doFill_61 : decode cX4_doFill 61 = .ok (.iadd, 1) := by decide +kernel
theorem dX4_doFill_62 : decode cX4_doFill 62 = .ok (.iastore, 1) := by decide +kernel
theorem dX4_doFill_63 : decode cX4_doFill 63 = .ok (.aload_n 0, 1) := by decide +kernel
theorem dX4_doFill_64 : decode cX4_doFill 64 = .ok (.iload_n 1, 1) := by decide +kernel
theorem dX4_doFill_65 : decode cX4_doFill 65 = .ok (.iconst 3, 1) := by decide +kernel
theorem dX4_doFill_66 : decode cX4_doFill 66 = .ok (.invokevirtual 49, 3) := by decide +kernel
theorem dX4_doFill_69 : decode cX4_doFill 69 = .ok (.ireturn, 1) := by decide +kernel
theorem dX4_doSet_0 : decode cX4_doSet 0 = .ok (.iload_n 1, 1) := by decide +kernel
theorem dX4_doSet_1 : decode cX4_doSet 1 = .ok (.iconst 0, 1) := by decide +kernel
theorem dX4_doSet_2 : decode cX4_doSet 2 = .ok (.iconst 2, 1) := by decide +kernel
theorem dX4_doSet_3 : decode cX4_doSet 3 = .ok (.invokestatic 38, 3) := by decide +kernel
theorem dX4_doSet_6 : decode cX4_doSet 6 = .ok (.ifCond .ne 5, 3) := by decide +kernel
theorem dX4_doSet_9 : decode cX4_doSet 9 = .ok (.iconst (-1), 1) := by decide +kernel
theorem dX4_doSet_10 : decode cX4_doSet 10 = .ok (.ireturn, 1) := by decide +kernel
theorem dX4_doSet_11 : decode cX4_doSet 11 = .ok (.iload_n 2, 1) := by decide +kernel
theorem dX4_doSet_12 : decode cX4_doSet 12 = .ok (.iload_n 1, 1) := by decide +kernel
theorem dX4_doSet_13 : decode cX4_doSet 13 = .ok (.iconst 2, 1) := by decide +kernel
theorem dX4_doSet_14 : decode cX4_doSet 14 = .ok (.if_icmp .ne 7, 3) := by decide +kernel
theorem dX4_doSet_17 : decode cX4_doSet 17 = .ok (.iconst 1, 1) := by decide +kernel
theorem dX4_doSet_18 : decode cX4_doSet 18 = .ok (.goto 4, 3) := by decide +kernel
theorem dX4_doSet_21 : decode cX4_doSet 21 = .ok (.iconst 0, 1) := by decide +kernel
theorem dX4_doSet_22 : decode cX4_doSet 22 = .ok (.iload_n 1, 1) := by decide +kernel
theorem dX4_doSet_23 : decode cX4_doSet 23 = .ok (.iconst 2, 1) := by decide +kernel
theorem dX4_doSet_24 : decode cX4_doSet 24 = .ok (.if_icmp .ne 9, 3) := by decide +kernel
theorem dX4_doSet_27 : decode cX4_doSet 27 = .ok (.sipush 240, 3) := by decide +kernel
theorem dX4_doSet_30 : decode cX4_doSet 30 = .ok (.goto 5, 3) := by decide +kernel
theorem dX4_doSet_33 : decode cX4_doSet 33 = .ok (.bipush 99, 2) := by decide +kernel
theorem dX4_doSet_35 : decode cX4_doSet 35 = .ok (.invokestatic 38, 3) := by decide +kernel
theorem dX4_doSet_38 : decode cX4_doSet 38 = .ok (.ifCond .ne 6, 3) := by decide +kernel
theorem dX4_doSet_41 : decode cX4_doSet 41 = .ok (.bipush (-2), 2) := by decide +kernel
theorem dX4_doSet_43 : decode cX4_doSet 43 = .ok (.ireturn, 1) := by decide +kernel
theorem dX4_doSet_44 : decode cX4_doSet 44 = .ok (.aload_n 0, 1) := by decide +kernel
theorem dX4_doSet_45 : decode cX4_doSet 45 = .ok (.getfield 7, 3) := by decide +kernel
theorem dX4_doSet_48 : decode cX4_doSet 48 = .ok (.iconst 5, 1) := by decide +kernel
theorem dX4_doSet_49 : decode cX4_doSet 49 = .ok (.iload_n 1, 1) := by decide +kernel
theorem dX4_doSet_50 : decode cX4_doSet 50 = .ok (.iadd, 1) := by decide +kernel
theorem dX4_doSet_51 : decode cX4_doSet 51 = .ok (.iaload, 1) := by decide +kernel
theorem dX4_doSet_52 : decode cX4_doSet 52 = .ok (.istore_n 3, 1) := by decide +kernel
theorem dX4_doSet_53 : decode cX4_doSet 53 = .ok (.aload_n 0, 1) := by decide +kernel
theorem dX4_doSet_54 : decode cX4_doSet 54 = .ok (.getfield 7, 3) := by decide +kernel
theorem dX4_doSet_57 : decode cX4_doSet 57 = .ok (.iconst 5, 1) := by decide +kernel
theorem dX4_doSet_58 : decode cX4_doSet 58 = .ok (.iload_n 1, 1) := by decide +kernel
theorem dX4_doSet_59 : decode cX4_doSet 59 = .ok (.iadd, 1) := by decide +kernel
theorem dX4_doSet_60 : decode cX4_doSet 60 = .ok (.iload_n 2, 1) := by decide +kernel
theorem dX4_doSet_61 : decode cX4_doSet 61 = .ok (.iastore, 1) := by decide +kernel
theorem dX4_doSet_62 : decode cX4_doSet 62 = .ok (.iload_n 3, 1) := by decide +kernel
theorem dX4_doSet_63 : decode cX4_doSet 63 = .ok (.iload_n 2, 1) := by decide +kernel
theorem dX4_doSet_64 : decode cX4_doSet 64 = .ok (.if_icmp .ne 8, 3) := by decide +kernel
theorem dX4_doSet_67 : decode cX4_doSet 67 = .ok (.bipush (-5), 2) := by decide +kernel
theorem dX4_doSet_69 : decode cX4_doSet 69 = .ok (.goto 4, 3) := by decide +kernel
theorem dX4_doSet_72 : decode cX4_doSet 72 = .ok (.iload_n 3, 1) := by decide +kernel
theorem dX4_doSet_73 : decode cX4_doSet 73 = .ok (.ireturn, 1) := by decide +kernel
theorem dX4_doPass_0 : decode cX4_doPass 0 = .ok (.iload_n 1, 1) := by decide +kernel
theorem dX4_doPass_1 : decode cX4_doPass 1 = .ok (.iconst 1, 1) := by decide +kernel
theorem dX4_doPass_2 : decode cX4_doPass 2 = .ok (.bipush 99, 2) := by decide +kernel
theorem dX4_doPass_4 : decode cX4_doPass 4 = .ok (.invokestatic 38, 3) := by decide +kernel
theorem dX4_doPass_7 : decode cX4_doPass 7 = .ok (.ifCond .ne 6, 3) := by decide +kernel
theorem dX4_doPass_10 : decode cX4_doPass 10 = .ok (.bipush (-2), 2) := by decide +kernel
theorem dX4_doPass_12 : decode cX4_doPass 12 = .ok (.ireturn, 1) := by decide +kernel
theorem dX4_doPass_13 : decode cX4_doPass 13 = .ok (.aload_n 0, 1) := by decide +kernel
theorem dX4_doPass_14 : decode cX4_doPass 14 = .ok (.getfield 7, 3) := by decide +kernel
theorem dX4_doPass_17 : decode cX4_doPass 17 = .ok (.iconst 0, 1) := by decide +kernel
theorem dX4_doPass_18 : decode cX4_doPass 18 = .ok (.iaload, 1) := by decide +kernel
theorem dX4_doPass_19 : decode cX4_doPass 19 = .ok (.iload_n 1, 1) := by decide +kernel
theorem dX4_doPass_20 : decode cX4_doPass 20 = .ok (.iadd, 1) := by decide +kernel
theorem dX4_doPass_21 : decode cX4_doPass 21 = .ok (.ldc 77, 2) := by decide +kernel
theorem dX4_doPass_23 : decode cX4_doPass 23 = .ok (.if_icmp .le 6, 3) := by decide +kernel
theorem dX4_doPass_26 : decode cX4_doPass 26 = .ok (.bipush (-3), 2) := by decide +kernel
theorem dX4_doPass_28 : decode cX4_doPass 28 = .ok (.ireturn, 1) := by decide +kernel
theorem dX4_doPass_29 : decode cX4_doPass 29 = .ok (.aload_n 0, 1) := by decide +kernel
theorem dX4_doPass_30 : decode cX4_doPass 30 = .ok (.bipush 8, 2) := by decide +kernel
theorem dX4_doPass_32 : decode cX4_doPass 32 = .ok (.invokevirtual 78, 3) := by decide +kernel
theorem dX4_doPass_35 : decode cX4_doPass 35 = .ok (.istore_n 2, 1) := by decide +kernel
theorem dX4_doPass_36 : decode cX4_doPass 36 = .ok (.iconst 0, 1) := by decide +kernel
theorem dX4_doPass_37 : decode cX4_doPass 37 = .ok (.istore_n 3, 1) := by decide +kernel
theorem dX4_doPass_38 : decode cX4_doPass 38 = .ok (.iload_n 3, 1) := by decide +kernel
theorem dX4_doPass_39 : decode cX4_doPass 39 = .ok (.iload_n 1, 1) := by decide +kernel
theorem dX4_doPass_40 : decode cX4_doPass 40 = .ok (.if_icmp .ge 13, 3) := by decide +kernel
theorem dX4_doPass_43 : decode cX4_doPass 43 = .ok (.aload_n 0, 1) := by decide +kernel
theorem dX4_doPass_44 : decode cX4_doPass 44 = .ok (.invokevirtual 81, 3) := by decide +kernel
theorem dX4_doPass_47 : decode cX4_doPass 47 = .ok (.iinc 3 1, 3) := by decide +kernel
theorem dX4_doPass_50 : decode cX4_doPass 50 = .ok (.goto (-12), 3) := by decide +kernel
theorem dX4_doPass_53 : decode cX4_doPass 53 = .ok (.aload_n 0, 1) := by decide +kernel
theorem dX4_doPass_54 : decode cX4_doPass 54 = .ok (.bipush 8, 2) := by decide +kernel
theorem dX4_doPass_56 : decode cX4_doPass 56 = .ok (.invokevirtual 78, 3) := by decide +kernel
theorem dX4_doPass_59 : decode cX4_doPass 59 = .ok (.iload_n 2, 1) := by decide +kernel
theorem dX4_doPass_60 : decode cX4_doPass 60 = .ok (.isub, 1) := by decide +kernel
theorem dX4_doPass_61 : decode cX4_doPass 61 = .ok (.ireturn, 1) := by decide +kernel
theorem dX4_act_0 : decode cX4_act 0 = .ok (.iload_n 1, 1) := by decide +kernel
theorem dX4_act_1 : decode cX4_act 1 = .ok (.ifCond .lt 11, 3) := by decide +kernel
theorem dX4_act_4 : decode cX4_act 4 = .ok (.aload_n 0, 1) := by decide +kernel
theorem dX4_act_5 : decode cX4_act 5 = .ok (.aload_n 0, 1) := by decide +kernel
theorem dX4_act_6 : decode cX4_act 6 = .ok (.getfield 19, 3) := by decide +kernel
theorem dX4_act_9 : decode cX4_act 9 = .ok (.invokevirtual 84, 3) := by decide +kernel
theorem dX4_act_12 : decode cX4_act 12 = .ok (.iload_n 1, 1) := by decide +kernel
theorem dX4_act_13 : decode cX4_act 13 = .ok (.ireturn, 1) := by decide +kernel
theorem dX4_begin_0 : decode cX4_begin 0 = .ok (.aload_n 0, 1) := by decide +kernel
theorem dX4_begin_1 : decode cX4_begin 1 = .ok (.getfield 7, 3) := by decide +kernel
theorem dX4_begin_4 : decode cX4_begin 4 = .ok (.iconst 0, 1) := by decide +kernel
theorem dX4_begin_5 : decode cX4_begin 5 = .ok (.aload_n 0, 1) := by decide +kernel
theorem dX4_begin_6 : decode cX4_begin 6 = .ok (.getfield 19, 3) := by decide +kernel
theorem dX4_begin_9 : decode cX4_begin 9 = .ok (.iconst 0, 1) := by decide +kernel
theorem dX4_begin_10 : decode cX4_begin 10 = .ok (.invokestatic 45, 3) := by decide +kernel
theorem dX4_begin_13 : decode cX4_begin 13 = .ok (.return_, 1) := by decide +kernel
theorem dX4_setCup_0 : decode cX4_setCup 0 = .ok (.aload_n 0, 1) := by decide +kernel
theorem dX4_setCup_1 : decode cX4_setCup 1 = .ok (.invokevirtual 88, 3) := by decide +kernel
theorem dX4_setCup_4 : decode cX4_setCup 4 = .ok (.aload_n 0, 1) := by decide +kernel
theorem dX4_setCup_5 : decode cX4_setCup 5 = .ok (.aload_n 0, 1) := by decide +kernel
theorem dX4_setCup_6 : decode cX4_setCup 6 = .ok (.iload_n 1, 1) := by decide +kernel
theorem dX4_setCup_7 : decode cX4_setCup 7 = .ok (.iload_n 2, 1) := by decide +kernel
theorem dX4_setCup_8 : decode cX4_setCup 8 = .ok (.iload_n 3, 1) := by decide +kernel
theorem dX4_setCup_9 : decode cX4_setCup 9 = .ok (.invokevirtual 91, 3) := by decide +kernel
theorem dX4_setCup_12 : decode cX4_setCup 12 = .ok (.invokevirtual 95, 3) := by decide +kernel
theorem dX4_setCup_15 : decode cX4_setCup 15 = .ok (.ireturn, 1) := by decide +kernel
theorem dX4_turnLock_0 : decode cX4_turnLock 0 = .ok (.aload_n 0, 1) := by decide +kernel
theorem dX4_turnLock_1 : decode cX4_turnLock 1 = .ok (.invokevirtual 88, 3) := by decide +kernel
theorem dX4_turnLock_4 : decode cX4_turnLock 4 = .ok (.aload_n 0, 1) := by decide +kernel
theorem dX4_turnLock_5 : decode cX4_turnLock 5 = .ok (.aload_n 0, 1) := by decide +kernel
theorem dX4_turnLock_6 : decode cX4_turnLock 6 = .ok (.iload_n 1, 1) := by decide +kernel
theorem dX4_turnLock_7 : decode cX4_turnLock 7 = .ok (.invokevirtual 98, 3) := by decide +kernel
theorem dX4_turnLock_10 : decode cX4_turnLock 10 = .ok (.invokevirtual 95, 3) := by decide +kernel
theorem dX4_turnLock_13 : decode cX4_turnLock 13 = .ok (.ireturn, 1) := by decide +kernel
theorem dX4_setHour_0 : decode cX4_setHour 0 = .ok (.aload_n 0, 1) := by decide +kernel
theorem dX4_setHour_1 : decode cX4_setHour 1 = .ok (.invokevirtual 88, 3) := by decide +kernel
theorem dX4_setHour_4 : decode cX4_setHour 4 = .ok (.aload_n 0, 1) := by decide +kernel
theorem dX4_setHour_5 : decode cX4_setHour 5 = .ok (.aload_n 0, 1) := by decide +kernel
theorem dX4_setHour_6 : decode cX4_setHour 6 = .ok (.iload_n 1, 1) := by decide +kernel
theorem dX4_setHour_7 : decode cX4_setHour 7 = .ok (.iload_n 2, 1) := by decide +kernel
theorem dX4_setHour_8 : decode cX4_setHour 8 = .ok (.invokevirtual 101, 3) := by decide +kernel
theorem dX4_setHour_11 : decode cX4_setHour 11 = .ok (.invokevirtual 95, 3) := by decide +kernel
theorem dX4_setHour_14 : decode cX4_setHour 14 = .ok (.ireturn, 1) := by decide +kernel
theorem dX4_guard_0 : decode cX4_guard 0 = .ok (.aload_n 0, 1) := by decide +kernel
theorem dX4_guard_1 : decode cX4_guard 1 = .ok (.invokevirtual 88, 3) := by decide +kernel
theorem dX4_guard_4 : decode cX4_guard 4 = .ok (.aload_n 0, 1) := by decide +kernel
theorem dX4_guard_5 : decode cX4_guard 5 = .ok (.aload_n 0, 1) := by decide +kernel
theorem dX4_guard_6 : decode cX4_guard 6 = .ok (.iload_n 1, 1) := by decide +kernel
theorem dX4_guard_7 : decode cX4_guard 7 = .ok (.invokevirtual 104, 3) := by decide +kernel
theorem dX4_guard_10 : decode cX4_guard 10 = .ok (.invokevirtual 95, 3) := by decide +kernel
theorem dX4_guard_13 : decode cX4_guard 13 = .ok (.ireturn, 1) := by decide +kernel
theorem dX4_fill_0 : decode cX4_fill 0 = .ok (.aload_n 0, 1) := by decide +kernel
theorem dX4_fill_1 : decode cX4_fill 1 = .ok (.invokevirtual 88, 3) := by decide +kernel
theorem dX4_fill_4 : decode cX4_fill 4 = .ok (.aload_n 0, 1) := by decide +kernel
theorem dX4_fill_5 : decode cX4_fill 5 = .ok (.aload_n 0, 1) := by decide +kernel
theorem dX4_fill_6 : decode cX4_fill 6 = .ok (.iload_n 1, 1) := by decide +kernel
theorem dX4_fill_7 : decode cX4_fill 7 = .ok (.iload_n 2, 1) := by decide +kernel
theorem dX4_fill_8 : decode cX4_fill 8 = .ok (.invokevirtual 107, 3) := by decide +kernel
theorem dX4_fill_11 : decode cX4_fill 11 = .ok (.invokevirtual 95, 3) := by decide +kernel
theorem dX4_fill_14 : decode cX4_fill 14 = .ok (.ireturn, 1) := by decide +kernel
theorem dX4_set_0 : decode cX4_set 0 = .ok (.aload_n 0, 1) := by decide +kernel
theorem dX4_set_1 : decode cX4_set 1 = .ok (.invokevirtual 88, 3) := by decide +kernel
theorem dX4_set_4 : decode cX4_set 4 = .ok (.aload_n 0, 1) := by decide +kernel
theorem dX4_set_5 : decode cX4_set 5 = .ok (.aload_n 0, 1) := by decide +kernel
theorem dX4_set_6 : decode cX4_set 6 = .ok (.iload_n 1, 1) := by decide +kernel
theorem dX4_set_7 : decode cX4_set 7 = .ok (.iload_n 2, 1) := by decide +kernel
theorem dX4_set_8 : decode cX4_set 8 = .ok (.invokevirtual 110, 3) := by decide +kernel
theorem dX4_set_11 : decode cX4_set 11 = .ok (.invokevirtual 95, 3) := by decide +kernel
theorem dX4_set_14 : decode cX4_set 14 = .ok (.ireturn, 1) := by decide +kernel
theorem dX4_pass_0 : decode cX4_pass 0 = .ok (.aload_n 0, 1) := by decide +kernel
theorem dX4_pass_1 : decode cX4_pass 1 = .ok (.invokevirtual 88, 3) := by decide +kernel
theorem dX4_pass_4 : decode cX4_pass 4 = .ok (.aload_n 0, 1) := by decide +kernel
theorem dX4_pass_5 : decode cX4_pass 5 = .ok (.aload_n 0, 1) := by decide +kernel
theorem dX4_pass_6 : decode cX4_pass 6 = .ok (.iload_n 1, 1) := by decide +kernel
theorem dX4_pass_7 : decode cX4_pass 7 = .ok (.invokevirtual 113, 3) := by decide +kernel
theorem dX4_pass_10 : decode cX4_pass 10 = .ok (.invokevirtual 95, 3) := by decide +kernel
theorem dX4_pass_13 : decode cX4_pass 13 = .ok (.ireturn, 1) := by decide +kernel
theorem dX4_type_0 : decode cX4_type 0 = .ok (.aload_n 0, 1) := by decide +kernel
theorem dX4_type_1 : decode cX4_type 1 = .ok (.getfield 116, 3) := by decide +kernel
theorem dX4_type_4 : decode cX4_type 4 = .ok (.bipush 60, 2) := by decide +kernel
theorem dX4_type_6 : decode cX4_type 6 = .ok (.if_icmp .ne 6, 3) := by decide +kernel
theorem dX4_type_9 : decode cX4_type 9 = .ok (.bipush (-3), 2) := by decide +kernel
theorem dX4_type_11 : decode cX4_type 11 = .ok (.ireturn, 1) := by decide +kernel
theorem dX4_type_12 : decode cX4_type 12 = .ok (.aload_n 0, 1) := by decide +kernel
theorem dX4_type_13 : decode cX4_type 13 = .ok (.getfield 22, 3) := by decide +kernel
theorem dX4_type_16 : decode cX4_type 16 = .ok (.aload_n 0, 1) := by decide +kernel
theorem dX4_type_17 : decode cX4_type 17 = .ok (.getfield 116, 3) := by decide +kernel
theorem dX4_type_20 : decode cX4_type 20 = .ok (.iload_n 1, 1) := by decide +kernel
theorem dX4_type_21 : decode cX4_type 21 = .ok (.castore, 1) := by decide +kernel
theorem dX4_type_22 : decode cX4_type 22 = .ok (.aload_n 0, 1) := by decide +kernel
theorem dX4_type_23 : decode cX4_type 23 = .ok (.dup, 1) := by decide +kernel
theorem dX4_type_24 : decode cX4_type 24 = .ok (.getfield 116, 3) := by decide +kernel
theorem dX4_type_27 : decode cX4_type 27 = .ok (.iconst 1, 1) := by decide +kernel
theorem dX4_type_28 : decode cX4_type 28 = .ok (.iadd, 1) := by decide +kernel
theorem dX4_type_29 : decode cX4_type 29 = .ok (.putfield 116, 3) := by decide +kernel
theorem dX4_type_32 : decode cX4_type 32 = .ok (.aload_n 0, 1) := by decide +kernel
theorem dX4_type_33 : decode cX4_type 33 = .ok (.getfield 116, 3) := by decide +kernel
theorem dX4_type_36 : decode cX4_type 36 = .ok (.ireturn, 1) := by decide +kernel
theorem dX4_clearText_0 : decode cX4_clearText 0 = .ok (.aload_n 0, 1) := by decide +kernel
theorem dX4_clearText_1 : decode cX4_clearText 1 = .ok (.getfield 116, 3) := by decide +kernel
theorem dX4_clearText_4 : decode cX4_clearText 4 = .ok (.istore_n 1, 1) := by decide +kernel
theorem dX4_clearText_5 : decode cX4_clearText 5 = .ok (.aload_n 0, 1) := by decide +kernel
theorem dX4_clearText_6 : decode cX4_clearText 6 = .ok (.iconst 0, 1) := by decide +kernel
theorem dX4_clearText_7 : decode cX4_clearText 7 = .ok (.putfield 116, 3) := by decide +kernel
theorem dX4_clearText_10 : decode cX4_clearText 10 = .ok (.iload_n 1, 1) := by decide +kernel
theorem dX4_clearText_11 : decode cX4_clearText 11 = .ok (.ireturn, 1) := by decide +kernel
theorem dX4_isNext_0 : decode cX4_isNext 0 = .ok (.aload_n 0, 1) := by decide +kernel
theorem dX4_isNext_1 : decode cX4_isNext 1 = .ok (.getfield 119, 3) := by decide +kernel
theorem dX4_isNext_4 : decode cX4_isNext 4 = .ok (.aload_n 0, 1) := by decide +kernel
theorem dX4_isNext_5 : decode cX4_isNext 5 = .ok (.getfield 116, 3) := by decide +kernel
theorem dX4_isNext_8 : decode cX4_isNext 8 = .ok (.if_icmp .ge 24, 3) := by decide +kernel
theorem dX4_isNext_11 : decode cX4_isNext 11 = .ok (.aload_n 0, 1) := by decide +kernel
theorem dX4_isNext_12 : decode cX4_isNext 12 = .ok (.getfield 22, 3) := by decide +kernel
theorem dX4_isNext_15 : decode cX4_isNext 15 = .ok (.aload_n 0, 1) := by decide +kernel
theorem dX4_isNext_16 : decode cX4_isNext 16 = .ok (.getfield 119, 3) := by decide +kernel
theorem dX4_isNext_19 : decode cX4_isNext 19 = .ok (.caload, 1) := by decide +kernel
theorem dX4_isNext_20 : decode cX4_isNext 20 = .ok (.iload_n 1, 1) := by decide +kernel
theorem dX4_isNext_21 : decode cX4_isNext 21 = .ok (.iload_n 2, 1) := by decide +kernel
theorem dX4_isNext_22 : decode cX4_isNext 22 = .ok (.invokestatic 38, 3) := by decide +kernel
theorem dX4_isNext_25 : decode cX4_isNext 25 = .ok (.ifCond .eq 7, 3) := by decide +kernel
theorem dX4_isNext_28 : decode cX4_isNext 28 = .ok (.iconst 1, 1) := by decide +kernel
theorem dX4_isNext_29 : decode cX4_isNext 29 = .ok (.goto 4, 3) := by decide +kernel
theorem dX4_isNext_32 : decode cX4_isNext 32 = .ok (.iconst 0, 1) := by decide +kernel
theorem dX4_isNext_33 : decode cX4_isNext 33 = .ok (.ireturn, 1) := by decide +kernel
theorem dX4_takes_0 : decode cX4_takes 0 = .ok (.aload_n 0, 1) := by decide +kernel
theorem dX4_takes_1 : decode cX4_takes 1 = .ok (.iload_n 1, 1) := by decide +kernel
theorem dX4_takes_2 : decode cX4_takes 2 = .ok (.iload_n 1, 1) := by decide +kernel
theorem dX4_takes_3 : decode cX4_takes 3 = .ok (.invokevirtual 122, 3) := by decide +kernel
theorem dX4_takes_6 : decode cX4_takes 6 = .ok (.istore_n 2, 1) := by decide +kernel
theorem dX4_takes_7 : decode cX4_takes 7 = .ok (.aload_n 0, 1) := by decide +kernel
theorem dX4_takes_8 : decode cX4_takes 8 = .ok (.dup, 1) := by decide +kernel
theorem dX4_takes_9 : decode cX4_takes 9 = .ok (.getfield 119, 3) := by decide +kernel
theorem dX4_takes_12 : decode cX4_takes 12 = .ok (.iload_n 2, 1) := by decide +kernel
theorem dX4_takes_13 : decode cX4_takes 13 = .ok (.ifCond .eq 7, 3) := by decide +kernel
theorem dX4_takes_16 : decode cX4_takes 16 = .ok (.iconst 1, 1) := by decide +kernel
theorem dX4_takes_17 : decode cX4_takes 17 = .ok (.goto 4, 3) := by decide +kernel
theorem dX4_takes_20 : decode cX4_takes 20 = .ok (.iconst 0, 1) := by decide +kernel
theorem dX4_takes_21 : decode cX4_takes 21 = .ok (.iadd, 1) := by decide +kernel
theorem dX4_takes_22 : decode cX4_takes 22 = .ok (.putfield 119, 3) := by decide +kernel
theorem dX4_takes_25 : decode cX4_takes 25 = .ok (.iload_n 2, 1) := by decide +kernel
theorem dX4_takes_26 : decode cX4_takes 26 = .ok (.ireturn, 1) := by decide +kernel
theorem dX4_readCup_0 : decode cX4_readCup 0 = .ok (.aload_n 0, 1) := by decide +kernel
theorem dX4_readCup_1 : decode cX4_readCup 1 = .ok (.bipush 48, 2) := by decide +kernel
theorem dX4_readCup_3 : decode cX4_readCup 3 = .ok (.bipush 55, 2) := by decide +kernel
theorem dX4_readCup_5 : decode cX4_readCup 5 = .ok (.invokevirtual 122, 3) := by decide +kernel
theorem dX4_readCup_8 : decode cX4_readCup 8 = .ok (.istore_n 1, 1) := by decide +kernel
theorem dX4_readCup_9 : decode cX4_readCup 9 = .ok (.aload_n 0, 1) := by decide +kernel
theorem dX4_readCup_10 : decode cX4_readCup 10 = .ok (.iload_n 1, 1) := by decide +kernel
theorem dX4_readCup_11 : decode cX4_readCup 11 = .ok (.ifCond .eq 18, 3) := by decide +kernel
theorem dX4_readCup_14 : decode cX4_readCup 14 = .ok (.aload_n 0, 1) := by decide +kernel
theorem dX4_readCup_15 : decode cX4_readCup 15 = .ok (.getfield 22, 3) := by decide +kernel
theorem dX4_readCup_18 : decode cX4_readCup 18 = .ok (.aload_n 0, 1) := by decide +kernel
theorem dX4_readCup_19 : decode cX4_readCup 19 = .ok (.getfield 119, 3) := by decide +kernel
theorem dX4_readCup_22 : decode cX4_readCup 22 = .ok (.caload, 1) := by decide +kernel
theorem dX4_readCup_23 : decode cX4_readCup 23 = .ok (.bipush 48, 2) := by decide +kernel
theorem dX4_readCup_25 : decode cX4_readCup 25 = .ok (.isub, 1) := by decide +kernel
theorem dX4_readCup_26 : decode cX4_readCup 26 = .ok (.goto 4, 3) := by decide +kernel
theorem dX4_readCup_29 : decode cX4_readCup 29 = .ok (.iconst 0, 1) := by decide +kernel
theorem dX4_readCup_30 : decode cX4_readCup 30 = .ok (.putfield 126, 3) := by decide +kernel
theorem dX4_readCup_33 : decode cX4_readCup 33 = .ok (.aload_n 0, 1) := by decide +kernel
theorem dX4_readCup_34 : decode cX4_readCup 34 = .ok (.dup, 1) := by decide +kernel
theorem dX4_readCup_35 : decode cX4_readCup 35 = .ok (.getfield 119, 3) := by decide +kernel
theorem dX4_readCup_38 : decode cX4_readCup 38 = .ok (.iload_n 1, 1) := by decide +kernel
theorem dX4_readCup_39 : decode cX4_readCup 39 = .ok (.ifCond .eq 7, 3) := by decide +kernel
theorem dX4_readCup_42 : decode cX4_readCup 42 = .ok (.iconst 1, 1) := by decide +kernel
theorem dX4_readCup_43 : decode cX4_readCup 43 = .ok (.goto 4, 3) := by decide +kernel
theorem dX4_readCup_46 : decode cX4_readCup 46 = .ok (.iconst 0, 1) := by decide +kernel
theorem dX4_readCup_47 : decode cX4_readCup 47 = .ok (.iadd, 1) := by decide +kernel
theorem dX4_readCup_48 : decode cX4_readCup 48 = .ok (.putfield 119, 3) := by decide +kernel
theorem dX4_readCup_51 : decode cX4_readCup 51 = .ok (.iload_n 1, 1) := by decide +kernel
theorem dX4_readCup_52 : decode cX4_readCup 52 = .ok (.ireturn, 1) := by decide +kernel
theorem dX4_readNumber_0 : decode cX4_readNumber 0 = .ok (.aload_n 0, 1) := by decide +kernel
theorem dX4_readNumber_1 : decode cX4_readNumber 1 = .ok (.bipush 48, 2) := by decide +kernel
theorem dX4_readNumber_3 : decode cX4_readNumber 3 = .ok (.iload_n 1, 1) := by decide +kernel
theorem dX4_readNumber_4 : decode cX4_readNumber 4 = .ok (.iadd, 1) := by decide +kernel
theorem dX4_readNumber_5 : decode cX4_readNumber 5 = .ok (.bipush 57, 2) := by decide +kernel
theorem dX4_readNumber_7 : decode cX4_readNumber 7 = .ok (.invokevirtual 122, 3) := by decide +kernel
theorem dX4_readNumber_10 : decode cX4_readNumber 10 = .ok (.ifCond .ne 5, 3) := by decide +kernel
theorem dX4_readNumber_13 : decode cX4_readNumber 13 = .ok (.iconst 0, 1) := by decide +kernel
theorem dX4_readNumber_14 : decode cX4_readNumber 14 = .ok (.ireturn, 1) := by decide +kernel
theorem dX4_readNumber_15 : decode cX4_readNumber 15 = .ok (.aload_n 0, 1) := by decide +kernel
theorem dX4_readNumber_16 : decode cX4_readNumber 16 = .ok (.aload_n 0, 1) := by decide +kernel
theorem dX4_readNumber_17 : decode cX4_readNumber 17 = .ok (.getfield 22, 3) := by decide +kernel
theorem dX4_readNumber_20 : decode cX4_readNumber 20 = .ok (.aload_n 0, 1) := by decide +kernel
theorem dX4_readNumber_21 : decode cX4_readNumber 21 = .ok (.getfield 119, 3) := by decide +kernel
theorem dX4_readNumber_24 : decode cX4_readNumber 24 = .ok (.caload, 1) := by decide +kernel
theorem dX4_readNumber_25 : decode cX4_readNumber 25 = .ok (.bipush 48, 2) := by decide +kernel
theorem dX4_readNumber_27 : decode cX4_readNumber 27 = .ok (.isub, 1) := by decide +kernel
theorem dX4_readNumber_28 : decode cX4_readNumber 28 = .ok (.putfield 129, 3) := by decide +kernel
theorem dX4_readNumber_31 : decode cX4_readNumber 31 = .ok (.aload_n 0, 1) := by decide +kernel
theorem dX4_readNumber_32 : decode cX4_readNumber 32 = .ok (.dup, 1) := by decide +kernel
theorem dX4_readNumber_33 : decode cX4_readNumber 33 = .ok (.getfield 119, 3) := by decide +kernel
theorem dX4_readNumber_36 : decode cX4_readNumber 36 = .ok (.iconst 1, 1) := by decide +kernel
theorem dX4_readNumber_37 : decode cX4_readNumber 37 = .ok (.iadd, 1) := by decide +kernel
theorem dX4_readNumber_38 : decode cX4_readNumber 38 = .ok (.putfield 119, 3) := by decide +kernel
theorem dX4_readNumber_41 : decode cX4_readNumber 41 = .ok (.aload_n 0, 1) := by decide +kernel
theorem dX4_readNumber_42 : decode cX4_readNumber 42 = .ok (.getfield 129, 3) := by decide +kernel
theorem dX4_readNumber_45 : decode cX4_readNumber 45 = .ok (.ifCond .le 75, 3) := by decide +kernel
theorem dX4_readNumber_48 : decode cX4_readNumber 48 = .ok (.aload_n 0, 1) := by decide +kernel
theorem dX4_readNumber_49 : decode cX4_readNumber 49 = .ok (.bipush 48, 2) := by decide +kernel
theorem dX4_readNumber_51 : decode cX4_readNumber 51 = .ok (.bipush 57, 2) := by decide +kernel
theorem dX4_readNumber_53 : decode cX4_readNumber 53 = .ok (.invokevirtual 122, 3) := by decide +kernel
theorem dX4_readNumber_56 : decode cX4_readNumber 56 = .ok (.ifCond .eq 64, 3) := by decide +kernel
theorem dX4_readNumber_59 : decode cX4_readNumber 59 = .ok (.bipush 10, 2) := by decide +kernel
theorem dX4_readNumber_61 : decode cX4_readNumber 61 = .ok (.aload_n 0, 1) := by decide +kernel
theorem dX4_readNumber_62 : decode cX4_readNumber 62 = .ok (.getfield 129, 3) := by decide +kernel
theorem dX4_readNumber_65 : decode cX4_readNumber 65 = .ok (.imul, 1) := by decide +kernel
theorem dX4_readNumber_66 : decode cX4_readNumber 66 = .ok (.aload_n 0, 1) := by decide +kernel
theorem dX4_readNumber_67 : decode cX4_readNumber 67 = .ok (.getfield 22, 3) := by decide +kernel
theorem dX4_readNumber_70 : decode cX4_readNumber 70 = .ok (.aload_n 0, 1) := by decide +kernel
theorem dX4_readNumber_71 : decode cX4_readNumber 71 = .ok (.getfield 119, 3) := by decide +kernel
theorem dX4_readNumber_74 : decode cX4_readNumber 74 = .ok (.caload, 1) := by decide +kernel
theorem dX4_readNumber_75 : decode cX4_readNumber 75 = .ok (.iadd, 1) := by decide +kernel
theorem dX4_readNumber_76 : decode cX4_readNumber 76 = .ok (.bipush 48, 2) := by decide +kernel
theorem dX4_readNumber_78 : decode cX4_readNumber 78 = .ok (.isub, 1) := by decide +kernel
theorem dX4_readNumber_79 : decode cX4_readNumber 79 = .ok (.iload_n 2, 1) := by decide +kernel
theorem dX4_readNumber_80 : decode cX4_readNumber 80 = .ok (.if_icmp .gt 40, 3) := by decide +kernel
theorem dX4_readNumber_83 : decode cX4_readNumber 83 = .ok (.aload_n 0, 1) := by decide +kernel
theorem dX4_readNumber_84 : decode cX4_readNumber 84 = .ok (.bipush 10, 2) := by decide +kernel
theorem dX4_readNumber_86 : decode cX4_readNumber 86 = .ok (.aload_n 0, 1) := by decide +kernel
theorem dX4_readNumber_87 : decode cX4_readNumber 87 = .ok (.getfield 129, 3) := by decide +kernel
theorem dX4_readNumber_90 : decode cX4_readNumber 90 = .ok (.imul, 1) := by decide +kernel
theorem dX4_readNumber_91 : decode cX4_readNumber 91 = .ok (.aload_n 0, 1) := by decide +kernel
theorem dX4_readNumber_92 : decode cX4_readNumber 92 = .ok (.getfield 22, 3) := by decide +kernel
theorem dX4_readNumber_95 : decode cX4_readNumber 95 = .ok (.aload_n 0, 1) := by decide +kernel
theorem dX4_readNumber_96 : decode cX4_readNumber 96 = .ok (.getfield 119, 3) := by decide +kernel
theorem dX4_readNumber_99 : decode cX4_readNumber 99 = .ok (.caload, 1) := by decide +kernel
theorem dX4_readNumber_100 : decode cX4_readNumber 100 = .ok (.iadd, 1) := by decide +kernel
theorem dX4_readNumber_101 : decode cX4_readNumber 101 = .ok (.bipush 48, 2) := by decide +kernel
theorem dX4_readNumber_103 : decode cX4_readNumber 103 = .ok (.isub, 1) := by decide +kernel
theorem dX4_readNumber_104 : decode cX4_readNumber 104 = .ok (.putfield 129, 3) := by decide +kernel
theorem dX4_readNumber_107 : decode cX4_readNumber 107 = .ok (.aload_n 0, 1) := by decide +kernel
theorem dX4_readNumber_108 : decode cX4_readNumber 108 = .ok (.dup, 1) := by decide +kernel
theorem dX4_readNumber_109 : decode cX4_readNumber 109 = .ok (.getfield 119, 3) := by decide +kernel
theorem dX4_readNumber_112 : decode cX4_readNumber 112 = .ok (.iconst 1, 1) := by decide +kernel
theorem dX4_readNumber_113 : decode cX4_readNumber 113 = .ok (.iadd, 1) := by decide +kernel
theorem dX4_readNumber_114 : decode cX4_readNumber 114 = .ok (.putfield 119, 3) := by decide +kernel
theorem dX4_readNumber_117 : decode cX4_readNumber 117 = .ok (.goto (-76), 3) := by decide +kernel
theorem dX4_readNumber_120 : decode cX4_readNumber 120 = .ok (.iconst 1, 1) := by decide +kernel
theorem dX4_readNumber_121 : decode cX4_readNumber 121 = .ok (.ireturn, 1) := by decide +kernel
theorem dX4_readThing_0 : decode cX4_readThing 0 = .ok (.aload_n 0, 1) := by decide +kernel
theorem dX4_readThing_1 : decode cX4_readThing 1 = .ok (.aload_n 0, 1) := by decide +kernel
theorem dX4_readThing_2 : decode cX4_readThing 2 = .ok (.getfield 119, 3) := by decide +kernel
theorem dX4_readThing_5 : decode cX4_readThing 5 = .ok (.aload_n 0, 1) := by decide +kernel
theorem dX4_readThing_6 : decode cX4_readThing 6 = .ok (.getfield 116, 3) := by decide +kernel
theorem dX4_readThing_9 : decode cX4_readThing 9 = .ok (.if_icmp .ge 15, 3) := by decide +kernel
theorem dX4_readThing_12 : decode cX4_readThing 12 = .ok (.aload_n 0, 1) := by decide +kernel
theorem dX4_readThing_13 : decode cX4_readThing 13 = .ok (.getfield 22, 3) := by decide +kernel
theorem dX4_readThing_16 : decode cX4_readThing 16 = .ok (.aload_n 0, 1) := by decide +kernel
theorem dX4_readThing_17 : decode cX4_readThing 17 = .ok (.getfield 119, 3) := by decide +kernel
theorem dX4_readThing_20 : decode cX4_readThing 20 = .ok (.caload, 1) := by decide +kernel
theorem dX4_readThing_21 : decode cX4_readThing 21 = .ok (.goto 4, 3) := by decide +kernel
theorem dX4_readThing_24 : decode cX4_readThing 24 = .ok (.iconst 0, 1) := by decide +kernel
theorem dX4_readThing_25 : decode cX4_readThing 25 = .ok (.putfield 132, 3) := by decide +kernel
theorem dX4_readThing_28 : decode cX4_readThing 28 = .ok (.aload_n 0, 1) := by decide +kernel
theorem dX4_readThing_29 : decode cX4_readThing 29 = .ok (.dup, 1) := by decide +kernel
theorem dX4_readThing_30 : decode cX4_readThing 30 = .ok (.getfield 119, 3) := by decide +kernel
theorem dX4_readThing_33 : decode cX4_readThing 33 = .ok (.iconst 1, 1) := by decide +kernel
theorem dX4_readThing_34 : decode cX4_readThing 34 = .ok (.iadd, 1) := by decide +kernel
theorem dX4_readThing_35 : decode cX4_readThing 35 = .ok (.putfield 119, 3) := by decide +kernel
theorem dX4_readThing_38 : decode cX4_readThing 38 = .ok (.aload_n 0, 1) := by decide +kernel
theorem dX4_readThing_39 : decode cX4_readThing 39 = .ok (.getfield 132, 3) := by decide +kernel
theorem dX4_readThing_42 : decode cX4_readThing 42 = .ok (.lookupswitch 160 #[(46, 152), (102, 115), (103, 147), (104, 50), (115, 83)], 50) := by decide +kernel
theorem dX4_readThing_92 : decode cX4_readThing 92 = .ok (.aload_n 0, 1) := by decide +kernel
theorem dX4_readThing_93 : decode cX4_readThing 93 = .ok (.invokevirtual 135, 3) := by decide +kernel
theorem dX4_readThing_96 : decode cX4_readThing 96 = .ok (.ifCond .eq 27, 3) := by decide +kernel
theorem dX4_readThing_99 : decode cX4_readThing 99 = .ok (.aload_n 0, 1) := by decide +kernel
theorem dX4_readThing_100 : decode cX4_readThing 100 = .ok (.bipush 64, 2) := by decide +kernel
theorem dX4_readThing_102 : decode cX4_readThing 102 = .ok (.invokevirtual 139, 3) := by decide +kernel
theorem dX4_readThing_105 : decode cX4_readThing 105 = .ok (.ifCond .eq 18, 3) := by decide +kernel
theorem dX4_readThing_108 : decode cX4_readThing 108 = .ok (.aload_n 0, 1) := by decide +kernel
theorem dX4_readThing_109 : decode cX4_readThing 109 = .ok (.iconst 0, 1) := by decide +kernel
theorem dX4_readThing_110 : decode cX4_readThing 110 = .ok (.sipush 239, 3) := by decide +kernel
theorem dX4_readThing_113 : decode cX4_readThing 113 = .ok (.invokevirtual 142, 3) := by decide +kernel
theorem dX4_readThing_116 : decode cX4_readThing 116 = .ok (.ifCond .eq 7, 3) := by decide +kernel
theorem dX4_readThing_119 : decode cX4_readThing 119 = .ok (.iconst 1, 1) := by decide +kernel
theorem dX4_readThing_120 : decode cX4_readThing 120 = .ok (.goto 4, 3) := by decide +kernel
theorem dX4_readThing_123 : decode cX4_readThing 123 = .ok (.iconst 0, 1) := by decide +kernel
theorem dX4_readThing_124 : decode cX4_readThing 124 = .ok (.ireturn, 1) := by decide +kernel
theorem dX4_readThing_125 : decode cX4_readThing 125 = .ok (.aload_n 0, 1) := by decide +kernel
theorem dX4_readThing_126 : decode cX4_readThing 126 = .ok (.invokevirtual 135, 3) := by decide +kernel
theorem dX4_readThing_129 : decode cX4_readThing 129 = .ok (.ifCond .eq 26, 3) := by decide +kernel
theorem dX4_readThing_132 : decode cX4_readThing 132 = .ok (.aload_n 0, 1) := by decide +kernel
theorem dX4_readThing_133 : decode cX4_readThing 133 = .ok (.bipush 61, 2) := by decide +kernel
theorem dX4_readThing_135 : decode cX4_readThing 135 = .ok (.invokevirtual 139, 3) := by decide +kernel
theorem dX4_readThing_138 : decode cX4_readThing 138 = .ok (.ifCond .eq 17, 3) := by decide +kernel
theorem dX4_readThing_141 : decode cX4_readThing 141 = .ok (.aload_n 0, 1) := by decide +kernel
theorem dX4_readThing_142 : decode cX4_readThing 142 = .ok (.iconst 1, 1) := by decide +kernel
theorem dX4_readThing_143 : decode cX4_readThing 143 = .ok (.bipush 99, 2) := by decide +kernel
theorem dX4_readThing_145 : decode cX4_readThing 145 = .ok (.invokevirtual 142, 3) := by decide +kernel
theorem dX4_readThing_148 : decode cX4_readThing 148 = .ok (.ifCond .eq 7, 3) := by decide +kernel
theorem dX4_readThing_151 : decode cX4_readThing 151 = .ok (.iconst 1, 1) := by decide +kernel
theorem dX4_readThing_152 : decode cX4_readThing 152 = .ok (.goto 4, 3) := by decide +kernel
theorem dX4_readThing_155 : decode cX4_readThing 155 = .ok (.iconst 0, 1) := by decide +kernel
theorem dX4_readThing_156 : decode cX4_readThing 156 = .ok (.ireturn, 1) := by decide +kernel
theorem dX4_readThing_157 : decode cX4_readThing 157 = .ok (.aload_n 0, 1) := by decide +kernel
theorem dX4_readThing_158 : decode cX4_readThing 158 = .ok (.invokevirtual 135, 3) := by decide +kernel
theorem dX4_readThing_161 : decode cX4_readThing 161 = .ok (.ifCond .eq 26, 3) := by decide +kernel
theorem dX4_readThing_164 : decode cX4_readThing 164 = .ok (.aload_n 0, 1) := by decide +kernel
theorem dX4_readThing_165 : decode cX4_readThing 165 = .ok (.bipush 43, 2) := by decide +kernel
theorem dX4_readThing_167 : decode cX4_readThing 167 = .ok (.invokevirtual 139, 3) := by decide +kernel
theorem dX4_readThing_170 : decode cX4_readThing 170 = .ok (.ifCond .eq 17, 3) := by decide +kernel
theorem dX4_readThing_173 : decode cX4_readThing 173 = .ok (.aload_n 0, 1) := by decide +kernel
theorem dX4_readThing_174 : decode cX4_readThing 174 = .ok (.iconst 1, 1) := by decide +kernel
theorem dX4_readThing_175 : decode cX4_readThing 175 = .ok (.bipush 99, 2) := by decide +kernel
theorem dX4_readThing_177 : decode cX4_readThing 177 = .ok (.invokevirtual 142, 3) := by decide +kernel
theorem dX4_readThing_180 : decode cX4_readThing 180 = .ok (.ifCond .eq 7, 3) := by decide +kernel
theorem dX4_readThing_183 : decode cX4_readThing 183 = .ok (.iconst 1, 1) := by decide +kernel
theorem dX4_readThing_184 : decode cX4_readThing 184 = .ok (.goto 4, 3) := by decide +kernel
theorem dX4_readThing_187 : decode cX4_readThing 187 = .ok (.iconst 0, 1) := by decide +kernel
theorem dX4_readThing_188 : decode cX4_readThing 188 = .ok (.ireturn, 1) := by decide +kernel
theorem dX4_readThing_189 : decode cX4_readThing 189 = .ok (.aload_n 0, 1) := by decide +kernel
theorem dX4_readThing_190 : decode cX4_readThing 190 = .ok (.invokevirtual 135, 3) := by decide +kernel
theorem dX4_readThing_193 : decode cX4_readThing 193 = .ok (.ireturn, 1) := by decide +kernel
theorem dX4_readThing_194 : decode cX4_readThing 194 = .ok (.aload_n 0, 1) := by decide +kernel
theorem dX4_readThing_195 : decode cX4_readThing 195 = .ok (.iconst 1, 1) := by decide +kernel
theorem dX4_readThing_196 : decode cX4_readThing 196 = .ok (.bipush 99, 2) := by decide +kernel
theorem dX4_readThing_198 : decode cX4_readThing 198 = .ok (.invokevirtual 142, 3) := by decide +kernel
theorem dX4_readThing_201 : decode cX4_readThing 201 = .ok (.ireturn, 1) := by decide +kernel
theorem dX4_readThing_202 : decode cX4_readThing 202 = .ok (.aload_n 0, 1) := by decide +kernel
theorem dX4_readThing_203 : decode cX4_readThing 203 = .ok (.dup, 1) := by decide +kernel
theorem dX4_readThing_204 : decode cX4_readThing 204 = .ok (.getfield 119, 3) := by decide +kernel
theorem dX4_readThing_207 : decode cX4_readThing 207 = .ok (.iconst 1, 1) := by decide +kernel
theorem dX4_readThing_208 : decode cX4_readThing 208 = .ok (.isub, 1) := by decide +kernel
theorem dX4_readThing_209 : decode cX4_readThing 209 = .ok (.putfield 119, 3) := by decide +kernel
theorem dX4_readThing_212 : decode cX4_readThing 212 = .ok (.iconst 0, 1) := by decide +kernel
theorem dX4_readThing_213 : decode cX4_readThing 213 = .ok (.ireturn, 1) := by decide +kernel
theorem dX4_does_0 : decode cX4_does 0 = .ok (.aload_n 0, 1) := by decide +kernel
theorem dX4_does_1 : decode cX4_does 1 = .ok (.getfield 132, 3) := by decide +kernel
theorem dX4_does_4 : decode cX4_does 4 = .ok (.lookupswitch 93 #[(102, 71), (103, 84), (104, 44), (115, 57)], 44) := by decide +kernel
theorem dX4_does_48 : decode cX4_does 48 = .ok (.aload_n 0, 1) := by decide +kernel
theorem dX4_does_49 : decode cX4_does 49 = .ok (.aload_n 0, 1) := by decide +kernel
theorem dX4_does_50 : decode cX4_does 50 = .ok (.getfield 126, 3) := by decide +kernel
theorem dX4_does_53 : decode cX4_does 53 = .ok (.aload_n 0, 1) := by decide +kernel
theorem dX4_does_54 : decode cX4_does 54 = .ok (.getfield 129, 3) := by decide +kernel
theorem dX4_does_57 : decode cX4_does 57 = .ok (.invokevirtual 101, 3) := by decide +kernel
theorem dX4_does_60 : decode cX4_does 60 = .ok (.ireturn, 1) := by decide +kernel
theorem dX4_does_61 : decode cX4_does 61 = .ok (.aload_n 0, 1) := by decide +kernel
theorem dX4_does_62 : decode cX4_does 62 = .ok (.aload_n 0, 1) := by decide +kernel
theorem dX4_does_63 : decode cX4_does 63 = .ok (.getfield 126, 3) := by decide +kernel
theorem dX4_does_66 : decode cX4_does 66 = .ok (.iconst 0, 1) := by decide +kernel
theorem dX4_does_67 : decode cX4_does 67 = .ok (.aload_n 0, 1) := by decide +kernel
theorem dX4_does_68 : decode cX4_does 68 = .ok (.getfield 129, 3) := by decide +kernel
theorem dX4_does_71 : decode cX4_does 71 = .ok (.invokevirtual 91, 3) := by decide +kernel
theorem dX4_does_74 : decode cX4_does 74 = .ok (.ireturn, 1) := by decide +kernel
theorem dX4_does_75 : decode cX4_does 75 = .ok (.aload_n 0, 1) := by decide +kernel
theorem dX4_does_76 : decode cX4_does 76 = .ok (.aload_n 0, 1) := by decide +kernel
theorem dX4_does_77 : decode cX4_does 77 = .ok (.getfield 126, 3) := by decide +kernel
theorem dX4_does_80 : decode cX4_does 80 = .ok (.aload_n 0, 1) := by decide +kernel
theorem dX4_does_81 : decode cX4_does 81 = .ok (.getfield 129, 3) := by decide +kernel
theorem dX4_does_84 : decode cX4_does 84 = .ok (.invokevirtual 107, 3) := by decide +kernel
theorem dX4_does_87 : decode cX4_does 87 = .ok (.ireturn, 1) := by decide +kernel
theorem dX4_does_88 : decode cX4_does 88 = .ok (.aload_n 0, 1) := by decide +kernel
theorem dX4_does_89 : decode cX4_does 89 = .ok (.aload_n 0, 1) := by decide +kernel
theorem dX4_does_90 : decode cX4_does 90 = .ok (.getfield 126, 3) := by decide +kernel
theorem dX4_does_93 : decode cX4_does 93 = .ok (.invokevirtual 104, 3) := by decide +kernel
theorem dX4_does_96 : decode cX4_does 96 = .ok (.ireturn, 1) := by decide +kernel
theorem dX4_does_97 : decode cX4_does 97 = .ok (.aload_n 0, 1) := by decide +kernel
theorem dX4_does_98 : decode cX4_does 98 = .ok (.aload_n 0, 1) := by decide +kernel
theorem dX4_does_99 : decode cX4_does 99 = .ok (.getfield 129, 3) := by decide +kernel
theorem dX4_does_102 : decode cX4_does 102 = .ok (.invokevirtual 113, 3) := by decide +kernel
theorem dX4_does_105 : decode cX4_does 105 = .ok (.ireturn, 1) := by decide +kernel
theorem dX4_readText_0 : decode cX4_readText 0 = .ok (.aload_n 0, 1) := by decide +kernel
theorem dX4_readText_1 : decode cX4_readText 1 = .ok (.iconst 0, 1) := by decide +kernel
theorem dX4_readText_2 : decode cX4_readText 2 = .ok (.putfield 119, 3) := by decide +kernel
theorem dX4_readText_5 : decode cX4_readText 5 = .ok (.aload_n 0, 1) := by decide +kernel
theorem dX4_readText_6 : decode cX4_readText 6 = .ok (.iconst 0, 1) := by decide +kernel
theorem dX4_readText_7 : decode cX4_readText 7 = .ok (.putfield 145, 3) := by decide +kernel
theorem dX4_readText_10 : decode cX4_readText 10 = .ok (.aload_n 0, 1) := by decide +kernel
theorem dX4_readText_11 : decode cX4_readText 11 = .ok (.iconst 0, 1) := by decide +kernel
theorem dX4_readText_12 : decode cX4_readText 12 = .ok (.putfield 148, 3) := by decide +kernel
theorem dX4_readText_15 : decode cX4_readText 15 = .ok (.aload_n 0, 1) := by decide +kernel
theorem dX4_readText_16 : decode cX4_readText 16 = .ok (.invokevirtual 151, 3) := by decide +kernel
theorem dX4_readText_19 : decode cX4_readText 19 = .ok (.istore_n 2, 1) := by decide +kernel
theorem dX4_readText_20 : decode cX4_readText 20 = .ok (.iload_n 2, 1) := by decide +kernel
theorem dX4_readText_21 : decode cX4_readText 21 = .ok (.ifCond .eq 81, 3) := by decide +kernel
theorem dX4_readText_24 : decode cX4_readText 24 = .ok (.iload_n 1, 1) := by decide +kernel
theorem dX4_readText_25 : decode cX4_readText 25 = .ok (.ifCond .eq 10, 3) := by decide +kernel
theorem dX4_readText_28 : decode cX4_readText 28 = .ok (.aload_n 0, 1) := by decide +kernel
theorem dX4_readText_29 : decode cX4_readText 29 = .ok (.invokevirtual 154, 3) := by decide +kernel
theorem dX4_readText_32 : decode cX4_readText 32 = .ok (.goto 4, 3) := by decide +kernel
theorem dX4_readText_35 : decode cX4_readText 35 = .ok (.iconst 0, 1) := by decide +kernel
theorem dX4_readText_36 : decode cX4_readText 36 = .ok (.istore_n 3, 1) := by decide +kernel
theorem dX4_readText_37 : decode cX4_readText 37 = .ok (.iload_n 3, 1) := by decide +kernel
theorem dX4_readText_38 : decode cX4_readText 38 = .ok (.ifCond .ge 16, 3) := by decide +kernel
theorem dX4_readText_41 : decode cX4_readText 41 = .ok (.iload_n 3, 1) := by decide +kernel
theorem dX4_readText_42 : decode cX4_readText 42 = .ok (.bipush (-5), 2) := by decide +kernel
theorem dX4_readText_44 : decode cX4_readText 44 = .ok (.if_icmp .eq 10, 3) := by decide +kernel
theorem dX4_readText_47 : decode cX4_readText 47 = .ok (.aload_n 0, 1) := by decide +kernel
theorem dX4_readText_48 : decode cX4_readText 48 = .ok (.iload_n 3, 1) := by decide +kernel
theorem dX4_readText_49 : decode cX4_readText 49 = .ok (.putfield 148, 3) := by decide +kernel
theorem dX4_readText_52 : decode cX4_readText 52 = .ok (.iconst 1, 1) := by decide +kernel
theorem dX4_readText_53 : decode cX4_readText 53 = .ok (.ireturn, 1) := by decide +kernel
theorem dX4_readText_54 : decode cX4_readText 54 = .ok (.aload_n 0, 1) := by decide +kernel
theorem dX4_readText_55 : decode cX4_readText 55 = .ok (.dup, 1) := by decide +kernel
theorem dX4_readText_56 : decode cX4_readText 56 = .ok (.getfield 145, 3) := by decide +kernel
theorem dX4_readText_59 : decode cX4_readText 59 = .ok (.iconst 1, 1) := by decide +kernel
theorem dX4_readText_60 : decode cX4_readText 60 = .ok (.iadd, 1) := by decide +kernel
theorem dX4_readText_61 : decode cX4_readText 61 = .ok (.putfield 145, 3) := by decide +kernel
theorem dX4_readText_64 : decode cX4_readText 64 = .ok (.aload_n 0, 1) := by decide +kernel
theorem dX4_readText_65 : decode cX4_readText 65 = .ok (.getfield 119, 3) := by decide +kernel
theorem dX4_readText_68 : decode cX4_readText 68 = .ok (.aload_n 0, 1) := by decide +kernel
theorem dX4_readText_69 : decode cX4_readText 69 = .ok (.getfield 116, 3) := by decide +kernel
theorem dX4_readText_72 : decode cX4_readText 72 = .ok (.if_icmp .ne 5, 3) := by decide +kernel
theorem dX4_readText_75 : decode cX4_readText 75 = .ok (.iconst 1, 1) := by decide +kernel
theorem dX4_readText_76 : decode cX4_readText 76 = .ok (.ireturn, 1) := by decide +kernel
theorem dX4_readText_77 : decode cX4_readText 77 = .ok (.aload_n 0, 1) := by decide +kernel
theorem dX4_readText_78 : decode cX4_readText 78 = .ok (.bipush 59, 2) := by decide +kernel
theorem dX4_readText_80 : decode cX4_readText 80 = .ok (.invokevirtual 139, 3) := by decide +kernel
theorem dX4_readText_83 : decode cX4_readText 83 = .ok (.ifCond .eq 14, 3) := by decide +kernel
theorem dX4_readText_86 : decode cX4_readText 86 = .ok (.aload_n 0, 1) := by decide +kernel
theorem dX4_readText_87 : decode cX4_readText 87 = .ok (.invokevirtual 151, 3) := by decide +kernel
theorem dX4_readText_90 : decode cX4_readText 90 = .ok (.ifCond .eq 7, 3) := by decide +kernel
theorem dX4_readText_93 : decode cX4_readText 93 = .ok (.iconst 1, 1) := by decide +kernel
theorem dX4_readText_94 : decode cX4_readText 94 = .ok (.goto 4, 3) := by decide +kernel
theorem dX4_readText_97 : decode cX4_readText 97 = .ok (.iconst 0, 1) := by decide +kernel
theorem dX4_readText_98 : decode cX4_readText 98 = .ok (.istore_n 2, 1) := by decide +kernel
theorem dX4_readText_99 : decode cX4_readText 99 = .ok (.goto (-79), 3) := by decide +kernel
theorem dX4_readText_102 : decode cX4_readText 102 = .ok (.iconst 0, 1) := by decide +kernel
theorem dX4_readText_103 : decode cX4_readText 103 = .ok (.ireturn, 1) := by decide +kernel
theorem dX4_perform_0 : decode cX4_perform 0 = .ok (.aload_n 0, 1) := by decide +kernel
theorem dX4_perform_1 : decode cX4_perform 1 = .ok (.iconst 0, 1) := by decide +kernel
theorem dX4_perform_2 : decode cX4_perform 2 = .ok (.invokevirtual 158, 3) := by decide +kernel
theorem dX4_perform_5 : decode cX4_perform 5 = .ok (.ifCond .ne 11, 3) := by decide +kernel
theorem dX4_perform_8 : decode cX4_perform 8 = .ok (.bipush (-100), 2) := by decide +kernel
theorem dX4_perform_10 : decode cX4_perform 10 = .ok (.aload_n 0, 1) := by decide +kernel
theorem dX4_perform_11 : decode cX4_perform 11 = .ok (.getfield 119, 3) := by decide +kernel
theorem dX4_perform_14 : decode cX4_perform 14 = .ok (.isub, 1) := by decide +kernel
theorem dX4_perform_15 : decode cX4_perform 15 = .ok (.ireturn, 1) := by decide +kernel
theorem dX4_perform_16 : decode cX4_perform 16 = .ok (.aload_n 0, 1) := by decide +kernel
theorem dX4_perform_17 : decode cX4_perform 17 = .ok (.invokevirtual 88, 3) := by decide +kernel
theorem dX4_perform_20 : decode cX4_perform 20 = .ok (.aload_n 0, 1) := by decide +kernel
theorem dX4_perform_21 : decode cX4_perform 21 = .ok (.iconst 1, 1) := by decide +kernel
theorem dX4_perform_22 : decode cX4_perform 22 = .ok (.invokevirtual 158, 3) := by decide +kernel
theorem dX4_perform_25 : decode cX4_perform 25 = .ok (.istore_n 1, 1) := by decide +kernel
theorem dX4_perform_26 : decode cX4_perform 26 = .ok (.aload_n 0, 1) := by decide +kernel
theorem dX4_perform_27 : decode cX4_perform 27 = .ok (.getfield 148, 3) := by decide +kernel
theorem dX4_perform_30 : decode cX4_perform 30 = .ok (.ifCond .ge 35, 3) := by decide +kernel
theorem dX4_perform_33 : decode cX4_perform 33 = .ok (.aload_n 0, 1) := by decide +kernel
theorem dX4_perform_34 : decode cX4_perform 34 = .ok (.getfield 19, 3) := by decide +kernel
theorem dX4_perform_37 : decode cX4_perform 37 = .ok (.iconst 0, 1) := by decide +kernel
theorem dX4_perform_38 : decode cX4_perform 38 = .ok (.aload_n 0, 1) := by decide +kernel
theorem dX4_perform_39 : decode cX4_perform 39 = .ok (.getfield 7, 3) := by decide +kernel
theorem dX4_perform_42 : decode cX4_perform 42 = .ok (.iconst 0, 1) := by decide +kernel
theorem dX4_perform_43 : decode cX4_perform 43 = .ok (.invokestatic 45, 3) := by decide +kernel
theorem dX4_perform_46 : decode cX4_perform 46 = .ok (.aload_n 0, 1) := by decide +kernel
theorem dX4_perform_47 : decode cX4_perform 47 = .ok (.aload_n 0, 1) := by decide +kernel
theorem dX4_perform_48 : decode cX4_perform 48 = .ok (.getfield 145, 3) := by decide +kernel
theorem dX4_perform_51 : decode cX4_perform 51 = .ok (.putfield 26, 3) := by decide +kernel
theorem dX4_perform_54 : decode cX4_perform 54 = .ok (.aload_n 0, 1) := by decide +kernel
theorem dX4_perform_55 : decode cX4_perform 55 = .ok (.aload_n 0, 1) := by decide +kernel
theorem dX4_perform_56 : decode cX4_perform 56 = .ok (.getfield 148, 3) := by decide +kernel
theorem dX4_perform_59 : decode cX4_perform 59 = .ok (.putfield 162, 3) := by decide +kernel
theorem dX4_perform_62 : decode cX4_perform 62 = .ok (.bipush (-4), 2) := by decide +kernel
theorem dX4_perform_64 : decode cX4_perform 64 = .ok (.ireturn, 1) := by decide +kernel
theorem dX4_perform_65 : decode cX4_perform 65 = .ok (.aload_n 0, 1) := by decide +kernel
theorem dX4_perform_66 : decode cX4_perform 66 = .ok (.aload_n 0, 1) := by decide +kernel
theorem dX4_perform_67 : decode cX4_perform 67 = .ok (.getfield 19, 3) := by decide +kernel
theorem dX4_perform_70 : decode cX4_perform 70 = .ok (.invokevirtual 84, 3) := by decide +kernel
theorem dX4_perform_73 : decode cX4_perform 73 = .ok (.iload_n 1, 1) := by decide +kernel
theorem dX4_perform_74 : decode cX4_perform 74 = .ok (.ifCond .eq 10, 3) := by decide +kernel
theorem dX4_perform_77 : decode cX4_perform 77 = .ok (.aload_n 0, 1) := by decide +kernel
theorem dX4_perform_78 : decode cX4_perform 78 = .ok (.getfield 145, 3) := by decide +kernel
theorem dX4_perform_81 : decode cX4_perform 81 = .ok (.goto 4, 3) := by decide +kernel
theorem dX4_perform_84 : decode cX4_perform 84 = .ok (.iconst 0, 1) := by decide +kernel
theorem dX4_perform_85 : decode cX4_perform 85 = .ok (.ireturn, 1) := by decide +kernel
theorem dX4_stopped_0 : decode cX4_stopped 0 = .ok (.iload_n 1, 1) := by decide +kernel
theorem dX4_stopped_1 : decode cX4_stopped 1 = .ok (.iconst 0, 1) := by decide +kernel
theorem dX4_stopped_2 : decode cX4_stopped 2 = .ok (.iconst 1, 1) := by decide +kernel
theorem dX4_stopped_3 : decode cX4_stopped 3 = .ok (.invokestatic 38, 3) := by decide +kernel
theorem dX4_stopped_6 : decode cX4_stopped 6 = .ok (.ifCond .ne 6, 3) := by decide +kernel
theorem dX4_stopped_9 : decode cX4_stopped 9 = .ok (.bipush (-2), 2) := by decide +kernel
theorem dX4_stopped_11 : decode cX4_stopped 11 = .ok (.ireturn, 1) := by decide +kernel
theorem dX4_stopped_12 : decode cX4_stopped 12 = .ok (.aload_n 0, 1) := by decide +kernel
theorem dX4_stopped_13 : decode cX4_stopped 13 = .ok (.getfield 26, 3) := by decide +kernel
theorem dX4_stopped_16 : decode cX4_stopped 16 = .ok (.bipush (-5), 2) := by decide +kernel
theorem dX4_stopped_18 : decode cX4_stopped 18 = .ok (.if_icmp .ne 8, 3) := by decide +kernel
theorem dX4_stopped_21 : decode cX4_stopped 21 = .ok (.bipush (-5), 2) := by decide +kernel
theorem dX4_stopped_23 : decode cX4_stopped 23 = .ok (.goto 18, 3) := by decide +kernel
theorem dX4_stopped_26 : decode cX4_stopped 26 = .ok (.iload_n 1, 1) := by decide +kernel
theorem dX4_stopped_27 : decode cX4_stopped 27 = .ok (.ifCond .ne 10, 3) := by decide +kernel
theorem dX4_stopped_30 : decode cX4_stopped 30 = .ok (.aload_n 0, 1) := by decide +kernel
theorem dX4_stopped_31 : decode cX4_stopped 31 = .ok (.getfield 26, 3) := by decide +kernel
theorem dX4_stopped_34 : decode cX4_stopped 34 = .ok (.goto 7, 3) := by decide +kernel
theorem dX4_stopped_37 : decode cX4_stopped 37 = .ok (.aload_n 0, 1) := by decide +kernel
theorem dX4_stopped_38 : decode cX4_stopped 38 = .ok (.getfield 162, 3) := by decide +kernel
theorem dX4_stopped_41 : decode cX4_stopped 41 = .ok (.ireturn, 1) := by decide +kernel
theorem dX4_undo_0 : decode cX4_undo 0 = .ok (.aload_n 0, 1) := by decide +kernel
theorem dX4_undo_1 : decode cX4_undo 1 = .ok (.getfield 42, 3) := by decide +kernel
theorem dX4_undo_4 : decode cX4_undo 4 = .ok (.ifCond .ne 6, 3) := by decide +kernel
theorem dX4_undo_7 : decode cX4_undo 7 = .ok (.bipush (-5), 2) := by decide +kernel
theorem dX4_undo_9 : decode cX4_undo 9 = .ok (.ireturn, 1) := by decide +kernel
theorem dX4_undo_10 : decode cX4_undo 10 = .ok (.aload_n 0, 1) := by decide +kernel
theorem dX4_undo_11 : decode cX4_undo 11 = .ok (.dup, 1) := by decide +kernel
theorem dX4_undo_12 : decode cX4_undo 12 = .ok (.getfield 42, 3) := by decide +kernel
theorem dX4_undo_15 : decode cX4_undo 15 = .ok (.iconst 1, 1) := by decide +kernel
theorem dX4_undo_16 : decode cX4_undo 16 = .ok (.isub, 1) := by decide +kernel
theorem dX4_undo_17 : decode cX4_undo 17 = .ok (.putfield 42, 3) := by decide +kernel
theorem dX4_undo_20 : decode cX4_undo 20 = .ok (.aload_n 0, 1) := by decide +kernel
theorem dX4_undo_21 : decode cX4_undo 21 = .ok (.getfield 13, 3) := by decide +kernel
theorem dX4_undo_24 : decode cX4_undo 24 = .ok (.bipush 104, 2) := by decide +kernel
theorem dX4_undo_26 : decode cX4_undo 26 = .ok (.aload_n 0, 1) := by decide +kernel
theorem dX4_undo_27 : decode cX4_undo 27 = .ok (.getfield 42, 3) := by decide +kernel
theorem dX4_undo_30 : decode cX4_undo 30 = .ok (.imul, 1) := by decide +kernel
theorem dX4_undo_31 : decode cX4_undo 31 = .ok (.aload_n 0, 1) := by decide +kernel
theorem dX4_undo_32 : decode cX4_undo 32 = .ok (.getfield 7, 3) := by decide +kernel
theorem dX4_undo_35 : decode cX4_undo 35 = .ok (.iconst 0, 1) := by decide +kernel
theorem dX4_undo_36 : decode cX4_undo 36 = .ok (.invokestatic 45, 3) := by decide +kernel
theorem dX4_undo_39 : decode cX4_undo 39 = .ok (.aload_n 0, 1) := by decide +kernel
theorem dX4_undo_40 : decode cX4_undo 40 = .ok (.getfield 42, 3) := by decide +kernel
theorem dX4_undo_43 : decode cX4_undo 43 = .ok (.ireturn, 1) := by decide +kernel
theorem dX4_keep_0 : decode cX4_keep 0 = .ok (.aload_n 0, 1) := by decide +kernel
theorem dX4_keep_1 : decode cX4_keep 1 = .ok (.getfield 7, 3) := by decide +kernel
theorem dX4_keep_4 : decode cX4_keep 4 = .ok (.iconst 0, 1) := by decide +kernel
theorem dX4_keep_5 : decode cX4_keep 5 = .ok (.aload_n 0, 1) := by decide +kernel
theorem dX4_keep_6 : decode cX4_keep 6 = .ok (.getfield 16, 3) := by decide +kernel
theorem dX4_keep_9 : decode cX4_keep 9 = .ok (.iconst 0, 1) := by decide +kernel
theorem dX4_keep_10 : decode cX4_keep 10 = .ok (.invokestatic 45, 3) := by decide +kernel
theorem dX4_keep_13 : decode cX4_keep 13 = .ok (.aload_n 0, 1) := by decide +kernel
theorem dX4_keep_14 : decode cX4_keep 14 = .ok (.iconst 1, 1) := by decide +kernel
theorem dX4_keep_15 : decode cX4_keep 15 = .ok (.putfield 165, 3) := by decide +kernel
theorem dX4_keep_18 : decode cX4_keep 18 = .ok (.aload_n 0, 1) := by decide +kernel
theorem dX4_keep_19 : decode cX4_keep 19 = .ok (.getfield 7, 3) := by decide +kernel
theorem dX4_keep_22 : decode cX4_keep 22 = .ok (.iconst 0, 1) := by decide +kernel
theorem dX4_keep_23 : decode cX4_keep 23 = .ok (.iaload, 1) := by decide +kernel
theorem dX4_keep_24 : decode cX4_keep 24 = .ok (.ireturn, 1) := by decide +kernel
theorem dX4_restore_0 : decode cX4_restore 0 = .ok (.aload_n 0, 1) := by decide +kernel
theorem dX4_restore_1 : decode cX4_restore 1 = .ok (.getfield 165, 3) := by decide +kernel
theorem dX4_restore_4 : decode cX4_restore 4 = .ok (.ifCond .ne 6, 3) := by decide +kernel
theorem dX4_restore_7 : decode cX4_restore 7 = .ok (.bipush (-5), 2) := by decide +kernel
theorem dX4_restore_9 : decode cX4_restore 9 = .ok (.ireturn, 1) := by decide +kernel
theorem dX4_restore_10 : decode cX4_restore 10 = .ok (.aload_n 0, 1) := by decide +kernel
theorem dX4_restore_11 : decode cX4_restore 11 = .ok (.aload_n 0, 1) := by decide +kernel
theorem dX4_restore_12 : decode cX4_restore 12 = .ok (.getfield 7, 3) := by decide +kernel
theorem dX4_restore_15 : decode cX4_restore 15 = .ok (.invokevirtual 84, 3) := by decide +kernel
theorem dX4_restore_18 : decode cX4_restore 18 = .ok (.aload_n 0, 1) := by decide +kernel
theorem dX4_restore_19 : decode cX4_restore 19 = .ok (.getfield 16, 3) := by decide +kernel
theorem dX4_restore_22 : decode cX4_restore 22 = .ok (.iconst 0, 1) := by decide +kernel
theorem dX4_restore_23 : decode cX4_restore 23 = .ok (.aload_n 0, 1) := by decide +kernel
theorem dX4_restore_24 : decode cX4_restore 24 = .ok (.getfield 7, 3) := by decide +kernel
theorem dX4_restore_27 : decode cX4_restore 27 = .ok (.iconst 0, 1) := by decide +kernel
theorem dX4_restore_28 : decode cX4_restore 28 = .ok (.invokestatic 45, 3) := by decide +kernel
theorem dX4_restore_31 : decode cX4_restore 31 = .ok (.aload_n 0, 1) := by decide +kernel
theorem dX4_restore_32 : decode cX4_restore 32 = .ok (.getfield 7, 3) := by decide +kernel
theorem dX4_restore_35 : decode cX4_restore 35 = .ok (.iconst 0, 1) := by decide +kernel
theorem dX4_restore_36 : decode cX4_restore 36 = .ok (.iaload, 1) := by decide +kernel
theorem dX4_restore_37 : decode cX4_restore 37 = .ok (.ireturn, 1) := by decide +kernel
theorem dX4_cup_0 : decode cX4_cup 0 = .ok (.iload_n 1, 1) := by decide +kernel
theorem dX4_cup_1 : decode cX4_cup 1 = .ok (.invokestatic 71, 3) := by decide +kernel
theorem dX4_cup_4 : decode cX4_cup 4 = .ok (.ifCond .ne 5, 3) := by decide +kernel
theorem dX4_cup_7 : decode cX4_cup 7 = .ok (.iconst (-1), 1) := by decide +kernel
theorem dX4_cup_8 : decode cX4_cup 8 = .ok (.ireturn, 1) := by decide +kernel
theorem dX4_cup_9 : decode cX4_cup 9 = .ok (.iload_n 2, 1) := by decide +kernel
theorem dX4_cup_10 : decode cX4_cup 10 = .ok (.iconst 0, 1) := by decide +kernel
theorem dX4_cup_11 : decode cX4_cup 11 = .ok (.bipush 11, 2) := by decide +kernel
theorem dX4_cup_13 : decode cX4_cup 13 = .ok (.invokestatic 38, 3) := by decide +kernel
theorem dX4_cup_16 : decode cX4_cup 16 = .ok (.ifCond .ne 6, 3) := by decide +kernel
theorem dX4_cup_19 : decode cX4_cup 19 = .ok (.bipush (-2), 2) := by decide +kernel
theorem dX4_cup_21 : decode cX4_cup 21 = .ok (.ireturn, 1) := by decide +kernel
theorem dX4_cup_22 : decode cX4_cup 22 = .ok (.iload_n 2, 1) := by decide +kernel
theorem dX4_cup_23 : decode cX4_cup 23 = .ok (.iconst 4, 1) := by decide +kernel
theorem dX4_cup_24 : decode cX4_cup 24 = .ok (.if_icmp .ne 18, 3) := by decide +kernel
theorem dX4_cup_27 : decode cX4_cup 27 = .ok (.aload_n 0, 1) := by decide +kernel
theorem dX4_cup_28 : decode cX4_cup 28 = .ok (.iload_n 1, 1) := by decide +kernel
theorem dX4_cup_29 : decode cX4_cup 29 = .ok (.iconst 4, 1) := by decide +kernel
theorem dX4_cup_30 : decode cX4_cup 30 = .ok (.invokevirtual 49, 3) := by decide +kernel
theorem dX4_cup_33 : decode cX4_cup 33 = .ok (.iconst (-1), 1) := by decide +kernel
theorem dX4_cup_34 : decode cX4_cup 34 = .ok (.if_icmp .ne 8, 3) := by decide +kernel
theorem dX4_cup_37 : decode cX4_cup 37 = .ok (.bipush (-5), 2) := by decide +kernel
theorem dX4_cup_39 : decode cX4_cup 39 = .ok (.goto 9, 3) := by decide +kernel
theorem dX4_cup_42 : decode cX4_cup 42 = .ok (.aload_n 0, 1) := by decide +kernel
theorem dX4_cup_43 : decode cX4_cup 43 = .ok (.iload_n 1, 1) := by decide +kernel
theorem dX4_cup_44 : decode cX4_cup 44 = .ok (.iload_n 2, 1) := by decide +kernel
theorem dX4_cup_45 : decode cX4_cup 45 = .ok (.invokevirtual 49, 3) := by decide +kernel
theorem dX4_cup_48 : decode cX4_cup 48 = .ok (.ireturn, 1) := by decide +kernel
theorem dX4_reason_0 : decode cX4_reason 0 = .ok (.iload_n 1, 1) := by decide +kernel
theorem dX4_reason_1 : decode cX4_reason 1 = .ok (.invokestatic 71, 3) := by decide +kernel
theorem dX4_reason_4 : decode cX4_reason 4 = .ok (.ifCond .ne 5, 3) := by decide +kernel
theorem dX4_reason_7 : decode cX4_reason 7 = .ok (.iconst (-1), 1) := by decide +kernel
theorem dX4_reason_8 : decode cX4_reason 8 = .ok (.ireturn, 1) := by decide +kernel
theorem dX4_reason_9 : decode cX4_reason 9 = .ok (.aload_n 0, 1) := by decide +kernel
theorem dX4_reason_10 : decode cX4_reason 10 = .ok (.iload_n 1, 1) := by decide +kernel
theorem dX4_reason_11 : decode cX4_reason 11 = .ok (.bipush 6, 2) := by decide +kernel
theorem dX4_reason_13 : decode cX4_reason 13 = .ok (.invokevirtual 49, 3) := by decide +kernel
theorem dX4_reason_16 : decode cX4_reason 16 = .ok (.iconst 1, 1) := by decide +kernel
theorem dX4_reason_17 : decode cX4_reason 17 = .ok (.if_icmp .ne 24, 3) := by decide +kernel
theorem dX4_reason_20 : decode cX4_reason 20 = .ok (.aload_n 0, 1) := by decide +kernel
theorem dX4_reason_21 : decode cX4_reason 21 = .ok (.aload_n 0, 1) := by decide +kernel
theorem dX4_reason_22 : decode cX4_reason 22 = .ok (.getfield 7, 3) := by decide +kernel
theorem dX4_reason_25 : decode cX4_reason 25 = .ok (.iconst 0, 1) := by decide +kernel
theorem dX4_reason_26 : decode cX4_reason 26 = .ok (.iaload, 1) := by decide +kernel
theorem dX4_reason_27 : decode cX4_reason 27 = .ok (.invokevirtual 64, 3) := by decide +kernel
theorem dX4_reason_30 : decode cX4_reason 30 = .ok (.aload_n 0, 1) := by decide +kernel
theorem dX4_reason_31 : decode cX4_reason 31 = .ok (.iload_n 1, 1) := by decide +kernel
theorem dX4_reason_32 : decode cX4_reason 32 = .ok (.iconst 4, 1) := by decide +kernel
theorem dX4_reason_33 : decode cX4_reason 33 = .ok (.invokevirtual 49, 3) := by decide +kernel
theorem dX4_reason_36 : decode cX4_reason 36 = .ok (.if_icmp .eq 5, 3) := by decide +kernel
theorem dX4_reason_39 : decode cX4_reason 39 = .ok (.iconst 1, 1) := by decide +kernel
theorem dX4_reason_40 : decode cX4_reason 40 = .ok (.ireturn, 1) := by decide +kernel
theorem dX4_reason_41 : decode cX4_reason 41 = .ok (.aload_n 0, 1) := by decide +kernel
theorem dX4_reason_42 : decode cX4_reason 42 = .ok (.iload_n 1, 1) := by decide +kernel
theorem dX4_reason_43 : decode cX4_reason 43 = .ok (.bipush 6, 2) := by decide +kernel
theorem dX4_reason_45 : decode cX4_reason 45 = .ok (.invokevirtual 49, 3) := by decide +kernel
theorem dX4_reason_48 : decode cX4_reason 48 = .ok (.ifCond .ne 16, 3) := by decide +kernel
theorem dX4_reason_51 : decode cX4_reason 51 = .ok (.aload_n 0, 1) := by decide +kernel
theorem dX4_reason_52 : decode cX4_reason 52 = .ok (.iload_n 1, 1) := by decide +kernel
theorem dX4_reason_53 : decode cX4_reason 53 = .ok (.iconst 5, 1) := by decide +kernel
theorem dX4_reason_54 : decode cX4_reason 54 = .ok (.invokevirtual 49, 3) := by decide +kernel
theorem dX4_reason_57 : decode cX4_reason 57 = .ok (.ifCond .ne 7, 3) := by decide +kernel
theorem dX4_reason_60 : decode cX4_reason 60 = .ok (.iconst 2, 1) := by decide +kernel
theorem dX4_reason_61 : decode cX4_reason 61 = .ok (.goto 18, 3) := by decide +kernel
theorem dX4_reason_64 : decode cX4_reason 64 = .ok (.aload_n 0, 1) := by decide +kernel
theorem dX4_reason_65 : decode cX4_reason 65 = .ok (.iload_n 1, 1) := by decide +kernel
theorem dX4_reason_66 : decode cX4_reason 66 = .ok (.iconst 1, 1) := by decide +kernel
theorem dX4_reason_67 : decode cX4_reason 67 = .ok (.invokevirtual 169, 3) := by decide +kernel
theorem dX4_reason_70 : decode cX4_reason 70 = .ok (.iconst 1, 1) := by decide +kernel
theorem dX4_reason_71 : decode cX4_reason 71 = .ok (.if_icmp .ne 7, 3) := by decide +kernel
theorem dX4_reason_74 : decode cX4_reason 74 = .ok (.iconst 0, 1) := by decide +kernel
theorem dX4_reason_75 : decode cX4_reason 75 = .ok (.goto 4, 3) := by decide +kernel
theorem dX4_reason_78 : decode cX4_reason 78 = .ok (.iconst 3, 1) := by decide +kernel
theorem dX4_reason_79 : decode cX4_reason 79 = .ok (.ireturn, 1) := by decide +kernel
theorem dX4_untilTip_0 : decode cX4_untilTip 0 = .ok (.aload_n 0, 1) := by decide +kernel
theorem dX4_untilTip_1 : decode cX4_untilTip 1 = .ok (.invokevirtual 88, 3) := by decide +kernel
theorem dX4_untilTip_4 : decode cX4_untilTip 4 = .ok (.iconst 0, 1) := by decide +kernel
theorem dX4_untilTip_5 : decode cX4_untilTip 5 = .ok (.istore_n 3, 1) := by decide +kernel
theorem dX4_untilTip_6 : decode cX4_untilTip 6 = .ok (.iconst 0, 1) := by decide +kernel
theorem dX4_untilTip_7 : decode cX4_untilTip 7 = .ok (.istore 4, 2) := by decide +kernel
theorem dX4_untilTip_9 : decode cX4_untilTip 9 = .ok (.iload_n 3, 1) := by decide +kernel
theorem dX4_untilTip_10 : decode cX4_untilTip 10 = .ok (.iload_n 2, 1) := by decide +kernel
theorem dX4_untilTip_11 : decode cX4_untilTip 11 = .ok (.if_icmp .ge 26, 3) := by decide +kernel
theorem dX4_untilTip_14 : decode cX4_untilTip 14 = .ok (.iload 4, 2) := by decide +kernel
theorem dX4_untilTip_16 : decode cX4_untilTip 16 = .ok (.ifCond .ne 21, 3) := by decide +kernel
theorem dX4_untilTip_19 : decode cX4_untilTip 19 = .ok (.aload_n 0, 1) := by decide +kernel
theorem dX4_untilTip_20 : decode cX4_untilTip 20 = .ok (.invokevirtual 81, 3) := by decide +kernel
theorem dX4_untilTip_23 : decode cX4_untilTip 23 = .ok (.iinc 3 1, 3) := by decide +kernel
theorem dX4_untilTip_26 : decode cX4_untilTip 26 = .ok (.aload_n 0, 1) := by decide +kernel
theorem dX4_untilTip_27 : decode cX4_untilTip 27 = .ok (.getfield 30, 3) := by decide +kernel
theorem dX4_untilTip_30 : decode cX4_untilTip 30 = .ok (.iload_n 1, 1) := by decide +kernel
theorem dX4_untilTip_31 : decode cX4_untilTip 31 = .ok (.baload, 1) := by decide +kernel
theorem dX4_untilTip_32 : decode cX4_untilTip 32 = .ok (.istore 4, 2) := by decide +kernel
theorem dX4_untilTip_34 : decode cX4_untilTip 34 = .ok (.goto (-25), 3) := by decide +kernel
theorem dX4_untilTip_37 : decode cX4_untilTip 37 = .ok (.aload_n 0, 1) := by decide +kernel
theorem dX4_untilTip_38 : decode cX4_untilTip 38 = .ok (.getfield 19, 3) := by decide +kernel
theorem dX4_untilTip_41 : decode cX4_untilTip 41 = .ok (.iconst 0, 1) := by decide +kernel
theorem dX4_untilTip_42 : decode cX4_untilTip 42 = .ok (.aload_n 0, 1) := by decide +kernel
theorem dX4_untilTip_43 : decode cX4_untilTip 43 = .ok (.getfield 7, 3) := by decide +kernel
theorem dX4_untilTip_46 : decode cX4_untilTip 46 = .ok (.iconst 0, 1) := by decide +kernel
theorem dX4_untilTip_47 : decode cX4_untilTip 47 = .ok (.invokestatic 45, 3) := by decide +kernel
theorem dX4_untilTip_50 : decode cX4_untilTip 50 = .ok (.iload 4, 2) := by decide +kernel
theorem dX4_untilTip_52 : decode cX4_untilTip 52 = .ok (.ifCond .eq 7, 3) := by decide +kernel
theorem dX4_untilTip_55 : decode cX4_untilTip 55 = .ok (.iload_n 3, 1) := by decide +kernel
theorem dX4_untilTip_56 : decode cX4_untilTip 56 = .ok (.goto 5, 3) := by decide +kernel
theorem dX4_untilTip_59 : decode cX4_untilTip 59 = .ok (.bipush (-5), 2) := by decide +kernel
theorem dX4_untilTip_61 : decode cX4_untilTip 61 = .ok (.ireturn, 1) := by decide +kernel
theorem dX4_hourOfTip_0 : decode cX4_hourOfTip 0 = .ok (.aload_n 0, 1) := by decide +kernel
theorem dX4_hourOfTip_1 : decode cX4_hourOfTip 1 = .ok (.iload_n 1, 1) := by decide +kernel
theorem dX4_hourOfTip_2 : decode cX4_hourOfTip 2 = .ok (.sipush 500, 3) := by decide +kernel
theorem dX4_hourOfTip_5 : decode cX4_hourOfTip 5 = .ok (.invokevirtual 169, 3) := by decide +kernel
theorem dX4_hourOfTip_8 : decode cX4_hourOfTip 8 = .ok (.istore_n 2, 1) := by decide +kernel
theorem dX4_hourOfTip_9 : decode cX4_hourOfTip 9 = .ok (.iload_n 2, 1) := by decide +kernel
theorem dX4_hourOfTip_10 : decode cX4_hourOfTip 10 = .ok (.bipush (-5), 2) := by decide +kernel
theorem dX4_hourOfTip_12 : decode cX4_hourOfTip 12 = .ok (.if_icmp .ne 8, 3) := by decide +kernel
theorem dX4_hourOfTip_15 : decode cX4_hourOfTip 15 = .ok (.bipush (-5), 2) := by decide +kernel
theorem dX4_hourOfTip_17 : decode cX4_hourOfTip 17 = .ok (.goto 17, 3) := by decide +kernel
theorem dX4_hourOfTip_20 : decode cX4_hourOfTip 20 = .ok (.aload_n 0, 1) := by decide +kernel
theorem dX4_hourOfTip_21 : decode cX4_hourOfTip 21 = .ok (.aload_n 0, 1) := by decide +kernel
theorem dX4_hourOfTip_22 : decode cX4_hourOfTip 22 = .ok (.getfield 7, 3) := by decide +kernel
theorem dX4_hourOfTip_25 : decode cX4_hourOfTip 25 = .ok (.iconst 0, 1) := by decide +kernel
theorem dX4_hourOfTip_26 : decode cX4_hourOfTip 26 = .ok (.iaload, 1) := by decide +kernel
theorem dX4_hourOfTip_27 : decode cX4_hourOfTip 27 = .ok (.iload_n 2, 1) := by decide +kernel
theorem dX4_hourOfTip_28 : decode cX4_hourOfTip 28 = .ok (.iadd, 1) := by decide +kernel
theorem dX4_hourOfTip_29 : decode cX4_hourOfTip 29 = .ok (.iconst 1, 1) := by decide +kernel
theorem dX4_hourOfTip_30 : decode cX4_hourOfTip 30 = .ok (.isub, 1) := by decide +kernel
theorem dX4_hourOfTip_31 : decode cX4_hourOfTip 31 = .ok (.invokevirtual 64, 3) := by decide +kernel
theorem dX4_hourOfTip_34 : decode cX4_hourOfTip 34 = .ok (.ireturn, 1) := by decide +kernel
theorem dX4_tipsIn_0 : decode cX4_tipsIn 0 = .ok (.iload_n 1, 1) := by decide +kernel
theorem dX4_tipsIn_1 : decode cX4_tipsIn 1 = .ok (.invokestatic 71, 3) := by decide +kernel
theorem dX4_tipsIn_4 : decode cX4_tipsIn 4 = .ok (.ifCond .eq 14, 3) := by decide +kernel
theorem dX4_tipsIn_7 : decode cX4_tipsIn 7 = .ok (.aload_n 0, 1) := by decide +kernel
theorem dX4_tipsIn_8 : decode cX4_tipsIn 8 = .ok (.iload_n 1, 1) := by decide +kernel
theorem dX4_tipsIn_9 : decode cX4_tipsIn 9 = .ok (.sipush 500, 3) := by decide +kernel
theorem dX4_tipsIn_12 : decode cX4_tipsIn 12 = .ok (.invokevirtual 169, 3) := by decide +kernel
theorem dX4_tipsIn_15 : decode cX4_tipsIn 15 = .ok (.goto 4, 3) := by decide +kernel
theorem dX4_tipsIn_18 : decode cX4_tipsIn 18 = .ok (.iconst (-1), 1) := by decide +kernel
theorem dX4_tipsIn_19 : decode cX4_tipsIn 19 = .ok (.ireturn, 1) := by decide +kernel
theorem dX4_tipsAt_0 : decode cX4_tipsAt 0 = .ok (.iload_n 1, 1) := by decide +kernel
theorem dX4_tipsAt_1 : decode cX4_tipsAt 1 = .ok (.invokestatic 71, 3) := by decide +kernel
theorem dX4_tipsAt_4 : decode cX4_tipsAt 4 = .ok (.ifCond .eq 11, 3) := by decide +kernel
theorem dX4_tipsAt_7 : decode cX4_tipsAt 7 = .ok (.aload_n 0, 1) := by decide +kernel
theorem dX4_tipsAt_8 : decode cX4_tipsAt 8 = .ok (.iload_n 1, 1) := by decide +kernel
theorem dX4_tipsAt_9 : decode cX4_tipsAt 9 = .ok (.invokevirtual 172, 3) := by decide +kernel
theorem dX4_tipsAt_12 : decode cX4_tipsAt 12 = .ok (.goto 4, 3) := by decide +kernel
theorem dX4_tipsAt_15 : decode cX4_tipsAt 15 = .ok (.iconst (-1), 1) := by decide +kernel
theorem dX4_tipsAt_16 : decode cX4_tipsAt 16 = .ok (.ireturn, 1) := by decide +kernel
theorem dX4_starving_0 : decode cX4_starving 0 = .ok (.bipush (-5), 2) := by decide +kernel
theorem dX4_starving_2 : decode cX4_starving 2 = .ok (.istore_n 1, 1) := by decide +kernel
theorem dX4_starving_3 : decode cX4_starving 3 = .ok (.bipush 7, 2) := by decide +kernel
theorem dX4_starving_5 : decode cX4_starving 5 = .ok (.istore_n 2, 1) := by decide +kernel
theorem dX4_starving_6 : decode cX4_starving 6 = .ok (.iload_n 2, 1) := by decide +kernel
theorem dX4_starving_7 : decode cX4_starving 7 = .ok (.ifCond .lt 28, 3) := by decide +kernel
theorem dX4_starving_10 : decode cX4_starving 10 = .ok (.aload_n 0, 1) := by decide +kernel
theorem dX4_starving_11 : decode cX4_starving 11 = .ok (.iload_n 2, 1) := by decide +kernel
theorem dX4_starving_12 : decode cX4_starving 12 = .ok (.sipush 500, 3) := by decide +kernel
theorem dX4_starving_15 : decode cX4_starving 15 = .ok (.invokevirtual 169, 3) := by decide +kernel
theorem dX4_starving_18 : decode cX4_starving 18 = .ok (.bipush (-5), 2) := by decide +kernel
theorem dX4_starving_20 : decode cX4_starving 20 = .ok (.if_icmp .ne 7, 3) := by decide +kernel
theorem dX4_starving_23 : decode cX4_starving 23 = .ok (.iload_n 2, 1) := by decide +kernel
theorem dX4_starving_24 : decode cX4_starving 24 = .ok (.goto 4, 3) := by decide +kernel
theorem dX4_starving_27 : decode cX4_starving 27 = .ok (.iload_n 1, 1) := by decide +kernel
theorem dX4_starving_28 : decode cX4_starving 28 = .ok (.istore_n 1, 1) := by decide +kernel
theorem dX4_starving_29 : decode cX4_starving 29 = .ok (.iinc 2 (-1), 3) := by decide +kernel
theorem dX4_starving_32 : decode cX4_starving 32 = .ok (.goto (-26), 3) := by decide +kernel
theorem dX4_starving_35 : decode cX4_starving 35 = .ok (.iload_n 1, 1) := by decide +kernel
theorem dX4_starving_36 : decode cX4_starving 36 = .ok (.ireturn, 1) := by decide +kernel
theorem dX4_bestSize_0 : decode cX4_bestSize 0 = .ok (.iload_n 1, 1) := by decide +kernel
theorem dX4_bestSize_1 : decode cX4_bestSize 1 = .ok (.invokestatic 71, 3) := by decide +kernel
theorem dX4_bestSize_4 : decode cX4_bestSize 4 = .ok (.ifCond .ne 5, 3) := by decide +kernel
theorem dX4_bestSize_7 : decode cX4_bestSize 7 = .ok (.iconst (-1), 1) := by decide +kernel
theorem dX4_bestSize_8 : decode cX4_bestSize 8 = .ok (.ireturn, 1) := by decide +kernel
theorem dX4_bestSize_9 : decode cX4_bestSize 9 = .ok (.aload_n 0, 1) := by decide +kernel
theorem dX4_bestSize_10 : decode cX4_bestSize 10 = .ok (.iload_n 1, 1) := by decide +kernel
theorem dX4_bestSize_11 : decode cX4_bestSize 11 = .ok (.iconst 4, 1) := by decide +kernel
theorem dX4_bestSize_12 : decode cX4_bestSize 12 = .ok (.invokevirtual 49, 3) := by decide +kernel
theorem dX4_bestSize_15 : decode cX4_bestSize 15 = .ok (.iconst (-1), 1) := by decide +kernel
theorem dX4_bestSize_16 : decode cX4_bestSize 16 = .ok (.if_icmp .ne 6, 3) := by decide +kernel
theorem dX4_bestSize_19 : decode cX4_bestSize 19 = .ok (.bipush (-4), 2) := by decide +kernel
theorem dX4_bestSize_21 : decode cX4_bestSize 21 = .ok (.ireturn, 1) := by decide +kernel
theorem dX4_bestSize_22 : decode cX4_bestSize 22 = .ok (.aload_n 0, 1) := by decide +kernel
theorem dX4_bestSize_23 : decode cX4_bestSize 23 = .ok (.iload_n 1, 1) := by decide +kernel
theorem dX4_bestSize_24 : decode cX4_bestSize 24 = .ok (.iconst 0, 1) := by decide +kernel
theorem dX4_bestSize_25 : decode cX4_bestSize 25 = .ok (.invokevirtual 49, 3) := by decide +kernel
theorem dX4_bestSize_28 : decode cX4_bestSize 28 = .ok (.istore_n 2, 1) := by decide +kernel
theorem dX4_bestSize_29 : decode cX4_bestSize 29 = .ok (.bipush (-5), 2) := by decide +kernel
theorem dX4_bestSize_31 : decode cX4_bestSize 31 = .ok (.istore_n 3, 1) := by decide +kernel
theorem dX4_bestSize_32 : decode cX4_bestSize 32 = .ok (.iconst 1, 1) := by decide +kernel
theorem dX4_bestSize_33 : decode cX4_bestSize 33 = .ok (.istore 4, 2) := by decide +kernel
theorem dX4_bestSize_35 : decode cX4_bestSize 35 = .ok (.iload 4, 2) := by decide +kernel
theorem dX4_bestSize_37 : decode cX4_bestSize 37 = .ok (.bipush 99, 2) := by decide +kernel
theorem dX4_bestSize_39 : decode cX4_bestSize 39 = .ok (.if_icmp .gt 45, 3) := by decide +kernel
theorem dX4_bestSize_42 : decode cX4_bestSize 42 = .ok (.iload_n 3, 1) := by decide +kernel
theorem dX4_bestSize_43 : decode cX4_bestSize 43 = .ok (.bipush (-5), 2) := by decide +kernel
theorem dX4_bestSize_45 : decode cX4_bestSize 45 = .ok (.if_icmp .ne 39, 3) := by decide +kernel
theorem dX4_bestSize_48 : decode cX4_bestSize 48 = .ok (.aload_n 0, 1) := by decide +kernel
theorem dX4_bestSize_49 : decode cX4_bestSize 49 = .ok (.iload_n 1, 1) := by decide +kernel
theorem dX4_bestSize_50 : decode cX4_bestSize 50 = .ok (.iconst 0, 1) := by decide +kernel
theorem dX4_bestSize_51 : decode cX4_bestSize 51 = .ok (.iload 4, 2) := by decide +kernel
theorem dX4_bestSize_53 : decode cX4_bestSize 53 = .ok (.invokevirtual 34, 3) := by decide +kernel
theorem dX4_bestSize_56 : decode cX4_bestSize 56 = .ok (.aload_n 0, 1) := by decide +kernel
theorem dX4_bestSize_57 : decode cX4_bestSize 57 = .ok (.iload_n 1, 1) := by decide +kernel
theorem dX4_bestSize_58 : decode cX4_bestSize 58 = .ok (.invokevirtual 172, 3) := by decide +kernel
theorem dX4_bestSize_61 : decode cX4_bestSize 61 = .ok (.aload_n 0, 1) := by decide +kernel
theorem dX4_bestSize_62 : decode cX4_bestSize 62 = .ok (.iload_n 1, 1) := by decide +kernel
theorem dX4_bestSize_63 : decode cX4_bestSize 63 = .ok (.iconst 4, 1) := by decide +kernel
theorem dX4_bestSize_64 : decode cX4_bestSize 64 = .ok (.invokevirtual 49, 3) := by decide +kernel
theorem dX4_bestSize_67 : decode cX4_bestSize 67 = .ok (.if_icmp .ne 8, 3) := by decide +kernel
theorem dX4_bestSize_70 : decode cX4_bestSize 70 = .ok (.iload 4, 2) := by decide +kernel
theorem dX4_bestSize_72 : decode cX4_bestSize 72 = .ok (.goto 5, 3) := by decide +kernel
theorem dX4_bestSize_75 : decode cX4_bestSize 75 = .ok (.bipush (-5), 2) := by decide +kernel
theorem dX4_bestSize_77 : decode cX4_bestSize 77 = .ok (.istore_n 3, 1) := by decide +kernel
theorem dX4_bestSize_78 : decode cX4_bestSize 78 = .ok (.iinc 4 1, 3) := by decide +kernel
theorem dX4_bestSize_81 : decode cX4_bestSize 81 = .ok (.goto (-46), 3) := by decide +kernel
theorem dX4_bestSize_84 : decode cX4_bestSize 84 = .ok (.aload_n 0, 1) := by decide +kernel
theorem dX4_bestSize_85 : decode cX4_bestSize 85 = .ok (.iload_n 1, 1) := by decide +kernel
theorem dX4_bestSize_86 : decode cX4_bestSize 86 = .ok (.iconst 0, 1) := by decide +kernel
theorem dX4_bestSize_87 : decode cX4_bestSize 87 = .ok (.iload_n 2, 1) := by decide +kernel
theorem dX4_bestSize_88 : decode cX4_bestSize 88 = .ok (.invokevirtual 34, 3) := by decide +kernel
theorem dX4_bestSize_91 : decode cX4_bestSize 91 = .ok (.iload_n 3, 1) := by decide +kernel
theorem dX4_bestSize_92 : decode cX4_bestSize 92 = .ok (.ireturn, 1) := by decide +kernel
theorem dX4_ifTicks_0 : decode cX4_ifTicks 0 = .ok (.iload_n 1, 1) := by decide +kernel
theorem dX4_ifTicks_1 : decode cX4_ifTicks 1 = .ok (.iconst 1, 1) := by decide +kernel
theorem dX4_ifTicks_2 : decode cX4_ifTicks 2 = .ok (.sipush 500, 3) := by decide +kernel
theorem dX4_ifTicks_5 : decode cX4_ifTicks 5 = .ok (.invokestatic 38, 3) := by decide +kernel
theorem dX4_ifTicks_8 : decode cX4_ifTicks 8 = .ok (.ifCond .eq 12, 3) := by decide +kernel
theorem dX4_ifTicks_11 : decode cX4_ifTicks 11 = .ok (.iload_n 2, 1) := by decide +kernel
theorem dX4_ifTicks_12 : decode cX4_ifTicks 12 = .ok (.iconst 0, 1) := by decide +kernel
theorem dX4_ifTicks_13 : decode cX4_ifTicks 13 = .ok (.iconst 3, 1) := by decide +kernel
theorem dX4_ifTicks_14 : decode cX4_ifTicks 14 = .ok (.invokestatic 38, 3) := by decide +kernel
theorem dX4_ifTicks_17 : decode cX4_ifTicks 17 = .ok (.ifCond .ne 6, 3) := by decide +kernel
theorem dX4_ifTicks_20 : decode cX4_ifTicks 20 = .ok (.bipush (-2), 2) := by decide +kernel
theorem dX4_ifTicks_22 : decode cX4_ifTicks 22 = .ok (.ireturn, 1) := by decide +kernel
theorem dX4_ifTicks_23 : decode cX4_ifTicks 23 = .ok (.iload_n 2, 1) := by decide +kernel
theorem dX4_ifTicks_24 : decode cX4_ifTicks 24 = .ok (.iconst 3, 1) := by decide +kernel
theorem dX4_ifTicks_25 : decode cX4_ifTicks 25 = .ok (.if_icmp .ne 8, 3) := by decide +kernel
theorem dX4_ifTicks_28 : decode cX4_ifTicks 28 = .ok (.bipush 8, 2) := by decide +kernel
theorem dX4_ifTicks_30 : decode cX4_ifTicks 30 = .ok (.goto 7, 3) := by decide +kernel
theorem dX4_ifTicks_33 : decode cX4_ifTicks 33 = .ok (.bipush 9, 2) := by decide +kernel
theorem dX4_ifTicks_35 : decode cX4_ifTicks 35 = .ok (.iload_n 2, 1) := by decide +kernel
theorem dX4_ifTicks_36 : decode cX4_ifTicks 36 = .ok (.iadd, 1) := by decide +kernel
theorem dX4_ifTicks_37 : decode cX4_ifTicks 37 = .ok (.istore_n 3, 1) := by decide +kernel
theorem dX4_ifTicks_38 : decode cX4_ifTicks 38 = .ok (.aload_n 0, 1) := by decide +kernel
theorem dX4_ifTicks_39 : decode cX4_ifTicks 39 = .ok (.invokevirtual 88, 3) := by decide +kernel
theorem dX4_ifTicks_42 : decode cX4_ifTicks 42 = .ok (.aload_n 0, 1) := by decide +kernel
theorem dX4_ifTicks_43 : decode cX4_ifTicks 43 = .ok (.iload_n 3, 1) := by decide +kernel
theorem dX4_ifTicks_44 : decode cX4_ifTicks 44 = .ok (.invokevirtual 78, 3) := by decide +kernel
theorem dX4_ifTicks_47 : decode cX4_ifTicks 47 = .ok (.istore 4, 2) := by decide +kernel
theorem dX4_ifTicks_49 : decode cX4_ifTicks 49 = .ok (.iconst 0, 1) := by decide +kernel
theorem dX4_ifTicks_50 : decode cX4_ifTicks 50 = .ok (.istore 5, 2) := by decide +kernel
theorem dX4_ifTicks_52 : decode cX4_ifTicks 52 = .ok (.iload 5, 2) := by decide +kernel
theorem dX4_ifTicks_54 : decode cX4_ifTicks 54 = .ok (.iload_n 1, 1) := by decide +kernel
theorem dX4_ifTicks_55 : decode cX4_ifTicks 55 = .ok (.if_icmp .ge 13, 3) := by decide +kernel
theorem dX4_ifTicks_58 : decode cX4_ifTicks 58 = .ok (.aload_n 0, 1) := by decide +kernel
theorem dX4_ifTicks_59 : decode cX4_ifTicks 59 = .ok (.invokevirtual 81, 3) := by decide +kernel
theorem dX4_ifTicks_62 : decode cX4_ifTicks 62 = .ok (.iinc 5 1, 3) := by decide +kernel
theorem dX4_ifTicks_65 : decode cX4_ifTicks 65 = .ok (.goto (-13), 3) := by decide +kernel
theorem dX4_ifTicks_68 : decode cX4_ifTicks 68 = .ok (.aload_n 0, 1) := by decide +kernel
theorem dX4_ifTicks_69 : decode cX4_ifTicks 69 = .ok (.iload_n 3, 1) := by decide +kernel
theorem dX4_ifTicks_70 : decode cX4_ifTicks 70 = .ok (.invokevirtual 78, 3) := by decide +kernel
theorem dX4_ifTicks_73 : decode cX4_ifTicks 73 = .ok (.iload 4, 2) := by decide +kernel
theorem dX4_ifTicks_75 : decode cX4_ifTicks 75 = .ok (.isub, 1) := by decide +kernel
theorem dX4_ifTicks_76 : decode cX4_ifTicks 76 = .ok (.istore 5, 2) := by decide +kernel
theorem dX4_ifTicks_78 : decode cX4_ifTicks 78 = .ok (.aload_n 0, 1) := by decide +kernel
theorem dX4_ifTicks_79 : decode cX4_ifTicks 79 = .ok (.getfield 19, 3) := by decide +kernel
theorem dX4_ifTicks_82 : decode cX4_ifTicks 82 = .ok (.iconst 0, 1) := by decide +kernel
theorem dX4_ifTicks_83 : decode cX4_ifTicks 83 = .ok (.aload_n 0, 1) := by decide +kernel
theorem dX4_ifTicks_84 : decode cX4_ifTicks 84 = .ok (.getfield 7, 3) := by decide +kernel
theorem dX4_ifTicks_87 : decode cX4_ifTicks 87 = .ok (.iconst 0, 1) := by decide +kernel
theorem dX4_ifTicks_88 : decode cX4_ifTicks 88 = .ok (.invokestatic 45, 3) := by decide +kernel
theorem dX4_ifTicks_91 : decode cX4_ifTicks 91 = .ok (.iload 5, 2) := by decide +kernel
theorem dX4_ifTicks_93 : decode cX4_ifTicks 93 = .ok (.ireturn, 1) := by decide +kernel
theorem dX4_highest_0 : decode cX4_highest 0 = .ok (.iconst 0, 1) := by decide +kernel
theorem dX4_highest_1 : decode cX4_highest 1 = .ok (.istore_n 1, 1) := by decide +kernel
theorem dX4_highest_2 : decode cX4_highest 2 = .ok (.iconst 1, 1) := by decide +kernel
theorem dX4_highest_3 : decode cX4_highest 3 = .ok (.istore_n 2, 1) := by decide +kernel
theorem dX4_highest_4 : decode cX4_highest 4 = .ok (.iload_n 2, 1) := by decide +kernel
theorem dX4_highest_5 : decode cX4_highest 5 = .ok (.bipush 8, 2) := by decide +kernel
theorem dX4_highest_7 : decode cX4_highest 7 = .ok (.if_icmp .ge 32, 3) := by decide +kernel
theorem dX4_highest_10 : decode cX4_highest 10 = .ok (.aload_n 0, 1) := by decide +kernel
theorem dX4_highest_11 : decode cX4_highest 11 = .ok (.iload_n 2, 1) := by decide +kernel
theorem dX4_highest_12 : decode cX4_highest 12 = .ok (.bipush 7, 2) := by decide +kernel
theorem dX4_highest_14 : decode cX4_highest 14 = .ok (.invokevirtual 49, 3) := by decide +kernel
theorem dX4_highest_17 : decode cX4_highest 17 = .ok (.aload_n 0, 1) := by decide +kernel
theorem dX4_highest_18 : decode cX4_highest 18 = .ok (.iload_n 1, 1) := by decide +kernel
theorem dX4_highest_19 : decode cX4_highest 19 = .ok (.bipush 7, 2) := by decide +kernel
theorem dX4_highest_21 : decode cX4_highest 21 = .ok (.invokevirtual 49, 3) := by decide +kernel
theorem dX4_highest_24 : decode cX4_highest 24 = .ok (.if_icmp .le 7, 3) := by decide +kernel
theorem dX4_highest_27 : decode cX4_highest 27 = .ok (.iload_n 2, 1) := by decide +kernel
theorem dX4_highest_28 : decode cX4_highest 28 = .ok (.goto 4, 3) := by decide +kernel
theorem dX4_highest_31 : decode cX4_highest 31 = .ok (.iload_n 1, 1) := by decide +kernel
theorem dX4_highest_32 : decode cX4_highest 32 = .ok (.istore_n 1, 1) := by decide +kernel
theorem dX4_highest_33 : decode cX4_highest 33 = .ok (.iinc 2 1, 3) := by decide +kernel
theorem dX4_highest_36 : decode cX4_highest 36 = .ok (.goto (-32), 3) := by decide +kernel
theorem dX4_highest_39 : decode cX4_highest 39 = .ok (.aload_n 0, 1) := by decide +kernel
theorem dX4_highest_40 : decode cX4_highest 40 = .ok (.iload_n 1, 1) := by decide +kernel
theorem dX4_highest_41 : decode cX4_highest 41 = .ok (.bipush 7, 2) := by decide +kernel
theorem dX4_highest_43 : decode cX4_highest 43 = .ok (.invokevirtual 49, 3) := by decide +kernel
theorem dX4_highest_46 : decode cX4_highest 46 = .ok (.ifCond .ne 8, 3) := by decide +kernel
theorem dX4_highest_49 : decode cX4_highest 49 = .ok (.bipush (-5), 2) := by decide +kernel
theorem dX4_highest_51 : decode cX4_highest 51 = .ok (.goto 4, 3) := by decide +kernel
theorem dX4_highest_54 : decode cX4_highest 54 = .ok (.iload_n 1, 1) := by decide +kernel
theorem dX4_highest_55 : decode cX4_highest 55 = .ok (.ireturn, 1) := by decide +kernel
theorem dX4_full_0 : decode cX4_full 0 = .ok (.iconst 0, 1) := by decide +kernel
theorem dX4_full_1 : decode cX4_full 1 = .ok (.istore_n 1, 1) := by decide +kernel
theorem dX4_full_2 : decode cX4_full 2 = .ok (.iconst 0, 1) := by decide +kernel
theorem dX4_full_3 : decode cX4_full 3 = .ok (.istore_n 2, 1) := by decide +kernel
theorem dX4_full_4 : decode cX4_full 4 = .ok (.iload_n 2, 1) := by decide +kernel
theorem dX4_full_5 : decode cX4_full 5 = .ok (.bipush 8, 2) := by decide +kernel
theorem dX4_full_7 : decode cX4_full 7 = .ok (.if_icmp .ge 25, 3) := by decide +kernel
theorem dX4_full_10 : decode cX4_full 10 = .ok (.iload_n 1, 1) := by decide +kernel
theorem dX4_full_11 : decode cX4_full 11 = .ok (.aload_n 0, 1) := by decide +kernel
theorem dX4_full_12 : decode cX4_full 12 = .ok (.iload_n 2, 1) := by decide +kernel
theorem dX4_full_13 : decode cX4_full 13 = .ok (.invokevirtual 53, 3) := by decide +kernel
theorem dX4_full_16 : decode cX4_full 16 = .ok (.ifCond .eq 7, 3) := by decide +kernel
theorem dX4_full_19 : decode cX4_full 19 = .ok (.iconst 1, 1) := by decide +kernel
theorem dX4_full_20 : decode cX4_full 20 = .ok (.goto 4, 3) := by decide +kernel
theorem dX4_full_23 : decode cX4_full 23 = .ok (.iconst 0, 1) := by decide +kernel
theorem dX4_full_24 : decode cX4_full 24 = .ok (.iadd, 1) := by decide +kernel
theorem dX4_full_25 : decode cX4_full 25 = .ok (.istore_n 1, 1) := by decide +kernel
theorem dX4_full_26 : decode cX4_full 26 = .ok (.iinc 2 1, 3) := by decide +kernel
theorem dX4_full_29 : decode cX4_full 29 = .ok (.goto (-25), 3) := by decide +kernel
theorem dX4_full_32 : decode cX4_full 32 = .ok (.iload_n 1, 1) := by decide +kernel
theorem dX4_full_33 : decode cX4_full 33 = .ok (.ireturn, 1) := by decide +kernel
theorem dX4_count_0 : decode cX4_count 0 = .ok (.iload_n 1, 1) := by decide +kernel
theorem dX4_count_1 : decode cX4_count 1 = .ok (.tableswitch 168 0 14 #[75, 82, 93, 99, 106, 113, 120, 127, 134, 141, 146, 146, 146, 158, 163], 75) := by decide +kernel
theorem dX4_count_76 : decode cX4_count 76 = .ok (.aload_n 0, 1) := by decide +kernel
theorem dX4_count_77 : decode cX4_count 77 = .ok (.getfield 7, 3) := by decide +kernel
theorem dX4_count_80 : decode cX4_count 80 = .ok (.iconst 0, 1) := by decide +kernel
theorem dX4_count_81 : decode cX4_count 81 = .ok (.iaload, 1) := by decide +kernel
theorem dX4_count_82 : decode cX4_count 82 = .ok (.ireturn, 1) := by decide +kernel
theorem dX4_count_83 : decode cX4_count 83 = .ok (.aload_n 0, 1) := by decide +kernel
theorem dX4_count_84 : decode cX4_count 84 = .ok (.aload_n 0, 1) := by decide +kernel
theorem dX4_count_85 : decode cX4_count 85 = .ok (.getfield 7, 3) := by decide +kernel
theorem dX4_count_88 : decode cX4_count 88 = .ok (.iconst 0, 1) := by decide +kernel
theorem dX4_count_89 : decode cX4_count 89 = .ok (.iaload, 1) := by decide +kernel
theorem dX4_count_90 : decode cX4_count 90 = .ok (.invokevirtual 64, 3) := by decide +kernel
theorem dX4_count_93 : decode cX4_count 93 = .ok (.ireturn, 1) := by decide +kernel
theorem dX4_count_94 : decode cX4_count 94 = .ok (.aload_n 0, 1) := by decide +kernel
theorem dX4_count_95 : decode cX4_count 95 = .ok (.iconst 3, 1) := by decide +kernel
theorem dX4_count_96 : decode cX4_count 96 = .ok (.invokevirtual 78, 3) := by decide +kernel
theorem dX4_count_99 : decode cX4_count 99 = .ok (.ireturn, 1) := by decide +kernel
theorem dX4_count_100 : decode cX4_count 100 = .ok (.aload_n 0, 1) := by decide +kernel
theorem dX4_count_101 : decode cX4_count 101 = .ok (.getfield 7, 3) := by decide +kernel
theorem dX4_count_104 : decode cX4_count 104 = .ok (.iconst 1, 1) := by decide +kernel
theorem dX4_count_105 : decode cX4_count 105 = .ok (.iaload, 1) := by decide +kernel
theorem dX4_count_106 : decode cX4_count 106 = .ok (.ireturn, 1) := by decide +kernel
theorem dX4_count_107 : decode cX4_count 107 = .ok (.aload_n 0, 1) := by decide +kernel
theorem dX4_count_108 : decode cX4_count 108 = .ok (.getfield 7, 3) := by decide +kernel
theorem dX4_count_111 : decode cX4_count 111 = .ok (.iconst 2, 1) := by decide +kernel
theorem dX4_count_112 : decode cX4_count 112 = .ok (.iaload, 1) := by decide +kernel
theorem dX4_count_113 : decode cX4_count 113 = .ok (.ireturn, 1) := by decide +kernel
theorem dX4_count_114 : decode cX4_count 114 = .ok (.aload_n 0, 1) := by decide +kernel
theorem dX4_count_115 : decode cX4_count 115 = .ok (.getfield 7, 3) := by decide +kernel
theorem dX4_count_118 : decode cX4_count 118 = .ok (.iconst 3, 1) := by decide +kernel
theorem dX4_count_119 : decode cX4_count 119 = .ok (.iaload, 1) := by decide +kernel
theorem dX4_count_120 : decode cX4_count 120 = .ok (.ireturn, 1) := by decide +kernel
theorem dX4_count_121 : decode cX4_count 121 = .ok (.aload_n 0, 1) := by decide +kernel
theorem dX4_count_122 : decode cX4_count 122 = .ok (.getfield 7, 3) := by decide +kernel
theorem dX4_count_125 : decode cX4_count 125 = .ok (.iconst 4, 1) := by decide +kernel
theorem dX4_count_126 : decode cX4_count 126 = .ok (.iaload, 1) := by decide +kernel
theorem dX4_count_127 : decode cX4_count 127 = .ok (.ireturn, 1) := by decide +kernel
theorem dX4_count_128 : decode cX4_count 128 = .ok (.aload_n 0, 1) := by decide +kernel
theorem dX4_count_129 : decode cX4_count 129 = .ok (.bipush 8, 2) := by decide +kernel
theorem dX4_count_131 : decode cX4_count 131 = .ok (.invokevirtual 78, 3) := by decide +kernel
theorem dX4_count_134 : decode cX4_count 134 = .ok (.ireturn, 1) := by decide +kernel
theorem dX4_count_135 : decode cX4_count 135 = .ok (.aload_n 0, 1) := by decide +kernel
theorem dX4_count_136 : decode cX4_count 136 = .ok (.bipush 9, 2) := by decide +kernel
theorem dX4_count_138 : decode cX4_count 138 = .ok (.invokevirtual 78, 3) := by decide +kernel
theorem dX4_count_141 : decode cX4_count 141 = .ok (.ireturn, 1) := by decide +kernel
theorem dX4_count_142 : decode cX4_count 142 = .ok (.aload_n 0, 1) := by decide +kernel
theorem dX4_count_143 : decode cX4_count 143 = .ok (.invokevirtual 175, 3) := by decide +kernel
theorem dX4_count_146 : decode cX4_count 146 = .ok (.ireturn, 1) := by decide +kernel
theorem dX4_count_147 : decode cX4_count 147 = .ok (.aload_n 0, 1) := by decide +kernel
theorem dX4_count_148 : decode cX4_count 148 = .ok (.getfield 7, 3) := by decide +kernel
theorem dX4_count_151 : decode cX4_count 151 = .ok (.iconst 5, 1) := by decide +kernel
theorem dX4_count_152 : decode cX4_count 152 = .ok (.iload_n 1, 1) := by decide +kernel
theorem dX4_count_153 : decode cX4_count 153 = .ok (.iadd, 1) := by decide +kernel
theorem dX4_count_154 : decode cX4_count 154 = .ok (.bipush 10, 2) := by decide +kernel
theorem dX4_count_156 : decode cX4_count 156 = .ok (.isub, 1) := by decide +kernel
theorem dX4_count_157 : decode cX4_count 157 = .ok (.iaload, 1) := by decide +kernel
theorem dX4_count_158 : decode cX4_count 158 = .ok (.ireturn, 1) := by decide +kernel
theorem dX4_count_159 : decode cX4_count 159 = .ok (.aload_n 0, 1) := by decide +kernel
theorem dX4_count_160 : decode cX4_count 160 = .ok (.getfield 42, 3) := by decide +kernel
theorem dX4_count_163 : decode cX4_count 163 = .ok (.ireturn, 1) := by decide +kernel
theorem dX4_count_164 : decode cX4_count 164 = .ok (.aload_n 0, 1) := by decide +kernel
theorem dX4_count_165 : decode cX4_count 165 = .ok (.getfield 116, 3) := by decide +kernel
theorem dX4_count_168 : decode cX4_count 168 = .ok (.ireturn, 1) := by decide +kernel
theorem dX4_count_169 : decode cX4_count 169 = .ok (.bipush (-2), 2) := by decide +kernel
theorem dX4_count_171 : decode cX4_count 171 = .ok (.ireturn, 1) := by decide +kernel
theorem dL_law_0 : decode cL_law 0 = .ok (.new 7, 3) := by decide +kernel
theorem dL_law_3 : decode cL_law 3 = .ok (.dup, 1) := by decide +kernel
theorem dL_law_4 : decode cL_law 4 = .ok (.invokespecial 9, 3) := by decide +kernel
theorem dL_law_7 : decode cL_law 7 = .ok (.astore_n 1, 1) := by decide +kernel
theorem dL_law_8 : decode cL_law 8 = .ok (.new 10, 3) := by decide +kernel
theorem dL_law_11 : decode cL_law 11 = .ok (.dup, 1) := by decide +kernel
theorem dL_law_12 : decode cL_law 12 = .ok (.invokespecial 12, 3) := by decide +kernel
theorem dL_law_15 : decode cL_law 15 = .ok (.astore_n 2, 1) := by decide +kernel
theorem dL_law_16 : decode cL_law 16 = .ok (.iconst 0, 1) := by decide +kernel
theorem dL_law_17 : decode cL_law 17 = .ok (.istore_n 3, 1) := by decide +kernel
theorem dL_law_18 : decode cL_law 18 = .ok (.iload_n 3, 1) := by decide +kernel
theorem dL_law_19 : decode cL_law 19 = .ok (.aload_n 0, 1) := by decide +kernel
theorem dL_law_20 : decode cL_law 20 = .ok (.arraylength, 1) := by decide +kernel
theorem dL_law_21 : decode cL_law 21 = .ok (.iconst 4, 1) := by decide +kernel
theorem dL_law_22 : decode cL_law 22 = .ok (.isub, 1) := by decide +kernel
theorem dL_law_23 : decode cL_law 23 = .ok (.if_icmp .gt 654, 3) := by decide +kernel
theorem dL_law_26 : decode cL_law 26 = .ok (.aload_n 0, 1) := by decide +kernel
theorem dL_law_27 : decode cL_law 27 = .ok (.iload_n 3, 1) := by decide +kernel
theorem dL_law_28 : decode cL_law 28 = .ok (.iaload, 1) := by decide +kernel
theorem dL_law_29 : decode cL_law 29 = .ok (.bipush 31, 2) := by decide +kernel
theorem dL_law_31 : decode cL_law 31 = .ok (.iand, 1) := by decide +kernel
theorem dL_law_32 : decode cL_law 32 = .ok (.tableswitch 639 0 22 #[108, 151, 174, 207, 230, 263, 296, 319, 344, 357, 370, 393, 406, 419, 432, 465, 488, 511, 534, 547, 570, 603, 616], 108) := by decide +kernel
theorem dL_law_140 : decode cL_law 140 = .ok (.aload_n 1, 1) := by decide +kernel
theorem dL_law_141 : decode cL_law 141 = .ok (.aload_n 0, 1) := by decide +kernel
theorem dL_law_142 : decode cL_law 142 = .ok (.iload_n 3, 1) := by decide +kernel
theorem dL_law_143 : decode cL_law 143 = .ok (.iconst 1, 1) := by decide +kernel
theorem dL_law_144 : decode cL_law 144 = .ok (.iadd, 1) := by decide +kernel
theorem dL_law_145 : decode cL_law 145 = .ok (.iaload, 1) := by decide +kernel
theorem dL_law_146 : decode cL_law 146 = .ok (.aload_n 0, 1) := by decide +kernel
theorem dL_law_147 : decode cL_law 147 = .ok (.iload_n 3, 1) := by decide +kernel
theorem dL_law_148 : decode cL_law 148 = .ok (.iconst 2, 1) := by decide +kernel
theorem dL_law_149 : decode cL_law 149 = .ok (.iadd, 1) := by decide +kernel
theorem dL_law_150 : decode cL_law 150 = .ok (.iaload, 1) := by decide +kernel
theorem dL_law_151 : decode cL_law 151 = .ok (.aload_n 0, 1) := by decide +kernel
theorem dL_law_152 : decode cL_law 152 = .ok (.iload_n 3, 1) := by decide +kernel
theorem dL_law_153 : decode cL_law 153 = .ok (.iconst 3, 1) := by decide +kernel
theorem dL_law_154 : decode cL_law 154 = .ok (.iadd, 1) := by decide +kernel
theorem dL_law_155 : decode cL_law 155 = .ok (.iaload, 1) := by decide +kernel
theorem dL_law_156 : decode cL_law 156 = .ok (.invokevirtual 13, 3) := by decide +kernel
theorem dL_law_159 : decode cL_law 159 = .ok (.aload_n 2, 1) := by decide +kernel
theorem dL_law_160 : decode cL_law 160 = .ok (.aload_n 0, 1) := by decide +kernel
theorem dL_law_161 : decode cL_law 161 = .ok (.iload_n 3, 1) := by decide +kernel
theorem dL_law_162 : decode cL_law 162 = .ok (.iconst 1, 1) := by decide +kernel
theorem dL_law_163 : decode cL_law 163 = .ok (.iadd, 1) := by decide +kernel
theorem dL_law_164 : decode cL_law 164 = .ok (.iaload, 1) := by decide +kernel
theorem dL_law_165 : decode cL_law 165 = .ok (.aload_n 0, 1) := by decide +kernel
theorem dL_law_166 : decode cL_law 166 = .ok (.iload_n 3, 1) := by decide +kernel
theorem dL_law_167 : decode cL_law 167 = .ok (.iconst 2, 1) := by decide +kernel
theorem dL_law_168 : decode cL_law 168 = .ok (.iadd, 1) := by decide +kernel
theorem dL_law_169 : decode cL_law 169 = .ok (.iaload, 1) := by decide +kernel
theorem dL_law_170 : decode cL_law 170 = .ok (.aload_n 0, 1) := by decide +kernel
theorem dL_law_171 : decode cL_law 171 = .ok (.iload_n 3, 1) := by decide +kernel
theorem dL_law_172 : decode cL_law 172 = .ok (.iconst 3, 1) := by decide +kernel
theorem dL_law_173 : decode cL_law 173 = .ok (.iadd, 1) := by decide +kernel
theorem dL_law_174 : decode cL_law 174 = .ok (.iaload, 1) := by decide +kernel
theorem dL_law_175 : decode cL_law 175 = .ok (.invokevirtual 17, 3) := by decide +kernel
theorem dL_law_178 : decode cL_law 178 = .ok (.if_icmp .eq 493, 3) := by decide +kernel
theorem dL_law_181 : decode cL_law 181 = .ok (.iconst 0, 1) := by decide +kernel
theorem dL_law_182 : decode cL_law 182 = .ok (.ireturn, 1) := by decide +kernel
theorem dL_law_183 : decode cL_law 183 = .ok (.aload_n 1, 1) := by decide +kernel
theorem dL_law_184 : decode cL_law 184 = .ok (.aload_n 0, 1) := by decide +kernel
theorem dL_law_185 : decode cL_law 185 = .ok (.iload_n 3, 1) := by decide +kernel
theorem dL_law_186 : decode cL_law 186 = .ok (.iconst 1, 1) := by decide +kernel
theorem dL_law_187 : decode cL_law 187 = .ok (.iadd, 1) := by decide +kernel
theorem dL_law_188 : decode cL_law 188 = .ok (.iaload, 1) := by decide +kernel
theorem dL_law_189 : decode cL_law 189 = .ok (.invokevirtual 18, 3) := by decide +kernel
theorem dL_law_192 : decode cL_law 192 = .ok (.aload_n 2, 1) := by decide +kernel
theorem dL_law_193 : decode cL_law 193 = .ok (.aload_n 0, 1) := by decide +kernel
theorem dL_law_194 : decode cL_law 194 = .ok (.iload_n 3, 1) := by decide +kernel
theorem dL_law_195 : decode cL_law 195 = .ok (.iconst 1, 1) := by decide +kernel
theorem dL_law_196 : decode cL_law 196 = .ok (.iadd, 1) := by decide +kernel
theorem dL_law_197 : decode cL_law 197 = .ok (.iaload, 1) := by decide +kernel
theorem dL_law_198 : decode cL_law 198 = .ok (.invokevirtual 22, 3) := by decide +kernel
theorem dL_law_201 : decode cL_law 201 = .ok (.if_icmp .eq 470, 3) := by decide +kernel
theorem dL_law_204 : decode cL_law 204 = .ok (.iconst 0, 1) := by decide +kernel
theorem dL_law_205 : decode cL_law 205 = .ok (.ireturn, 1) := by decide +kernel
theorem dL_law_206 : decode cL_law 206 = .ok (.aload_n 1, 1) := by decide +kernel
theorem dL_law_207 : decode cL_law 207 = .ok (.aload_n 0, 1) := by decide +kernel
theorem dL_law_208 : decode cL_law 208 = .ok (.iload_n 3, 1) := by decide +kernel
theorem dL_law_209 : decode cL_law 209 = .ok (.iconst 1, 1) := by decide +kernel
theorem dL_law_210 : decode cL_law 210 = .ok (.iadd, 1) := by decide +kernel
theorem dL_law_211 : decode cL_law 211 = .ok (.iaload, 1) := by decide +kernel
theorem dL_law_212 : decode cL_law 212 = .ok (.aload_n 0, 1) := by decide +kernel
theorem dL_law_213 : decode cL_law 213 = .ok (.iload_n 3, 1) := by decide +kernel
theorem dL_law_214 : decode cL_law 214 = .ok (.iconst 2, 1) := by decide +kernel
theorem dL_law_215 : decode cL_law 215 = .ok (.iadd, 1) := by decide +kernel
theorem dL_law_216 : decode cL_law 216 = .ok (.iaload, 1) := by decide +kernel
theorem dL_law_217 : decode cL_law 217 = .ok (.invokevirtual 23, 3) := by decide +kernel
theorem dL_law_220 : decode cL_law 220 = .ok (.aload_n 2, 1) := by decide +kernel
theorem dL_law_221 : decode cL_law 221 = .ok (.aload_n 0, 1) := by decide +kernel
theorem dL_law_222 : decode cL_law 222 = .ok (.iload_n 3, 1) := by decide +kernel
theorem dL_law_223 : decode cL_law 223 = .ok (.iconst 1, 1) := by decide +kernel
theorem dL_law_224 : decode cL_law 224 = .ok (.iadd, 1) := by decide +kernel
theorem dL_law_225 : decode cL_law 225 = .ok (.iaload, 1) := by decide +kernel
theorem dL_law_226 : decode cL_law 226 = .ok (.aload_n 0, 1) := by decide +kernel
theorem dL_law_227 : decode cL_law 227 = .ok (.iload_n 3, 1) := by decide +kernel
theorem dL_law_228 : decode cL_law 228 = .ok (.iconst 2, 1) := by decide +kernel
theorem dL_law_229 : decode cL_law 229 = .ok (.iadd, 1) := by decide +kernel
theorem dL_law_230 : decode cL_law 230 = .ok (.iaload, 1) := by decide +kernel
theorem dL_law_231 : decode cL_law 231 = .ok (.invokevirtual 27, 3) := by decide +kernel
theorem dL_law_234 : decode cL_law 234 = .ok (.if_icmp .eq 437, 3) := by decide +kernel
theorem dL_law_237 : decode cL_law 237 = .ok (.iconst 0, 1) := by decide +kernel
theorem dL_law_238 : decode cL_law 238 = .ok (.ireturn, 1) := by decide +kernel
theorem dL_law_239 : decode cL_law 239 = .ok (.aload_n 1, 1) := by decide +kernel
theorem dL_law_240 : decode cL_law 240 = .ok (.aload_n 0, 1) := by decide +kernel
theorem dL_law_241 : decode cL_law 241 = .ok (.iload_n 3, 1) := by decide +kernel
theorem dL_law_242 : decode cL_law 242 = .ok (.iconst 1, 1) := by decide +kernel
theorem dL_law_243 : decode cL_law 243 = .ok (.iadd, 1) := by decide +kernel
theorem dL_law_244 : decode cL_law 244 = .ok (.iaload, 1) := by decide +kernel
theorem dL_law_245 : decode cL_law 245 = .ok (.invokevirtual 28, 3) := by decide +kernel
theorem dL_law_248 : decode cL_law 248 = .ok (.aload_n 2, 1) := by decide +kernel
theorem dL_law_249 : decode cL_law 249 = .ok (.aload_n 0, 1) := by decide +kernel
theorem dL_law_250 : decode cL_law 250 = .ok (.iload_n 3, 1) := by decide +kernel
theorem dL_law_251 : decode cL_law 251 = .ok (.iconst 1, 1) := by decide +kernel
theorem dL_law_252 : decode cL_law 252 = .ok (.iadd, 1) := by decide +kernel
theorem dL_law_253 : decode cL_law 253 = .ok (.iaload, 1) := by decide +kernel
theorem dL_law_254 : decode cL_law 254 = .ok (.invokevirtual 31, 3) := by decide +kernel
theorem dL_law_257 : decode cL_law 257 = .ok (.if_icmp .eq 414, 3) := by decide +kernel
theorem dL_law_260 : decode cL_law 260 = .ok (.iconst 0, 1) := by decide +kernel
theorem dL_law_261 : decode cL_law 261 = .ok (.ireturn, 1) := by decide +kernel
theorem dL_law_262 : decode cL_law 262 = .ok (.aload_n 1, 1) := by decide +kernel
theorem dL_law_263 : decode cL_law 263 = .ok (.aload_n 0, 1) := by decide +kernel
theorem dL_law_264 : decode cL_law 264 = .ok (.iload_n 3, 1) := by decide +kernel
theorem dL_law_265 : decode cL_law 265 = .ok (.iconst 1, 1) := by decide +kernel
theorem dL_law_266 : decode cL_law 266 = .ok (.iadd, 1) := by decide +kernel
theorem dL_law_267 : decode cL_law 267 = .ok (.iaload, 1) := by decide +kernel
theorem dL_law_268 : decode cL_law 268 = .ok (.aload_n 0, 1) := by decide +kernel
theorem dL_law_269 : decode cL_law 269 = .ok (.iload_n 3, 1) := by decide +kernel
theorem dL_law_270 : decode cL_law 270 = .ok (.iconst 2, 1) := by decide +kernel
theorem dL_law_271 : decode cL_law 271 = .ok (.iadd, 1) := by decide +kernel
theorem dL_law_272 : decode cL_law 272 = .ok (.iaload, 1) := by decide +kernel
theorem dL_law_273 : decode cL_law 273 = .ok (.invokevirtual 32, 3) := by decide +kernel
theorem dL_law_276 : decode cL_law 276 = .ok (.aload_n 2, 1) := by decide +kernel
theorem dL_law_277 : decode cL_law 277 = .ok (.aload_n 0, 1) := by decide +kernel
theorem dL_law_278 : decode cL_law 278 = .ok (.iload_n 3, 1) := by decide +kernel
theorem dL_law_279 : decode cL_law 279 = .ok (.iconst 1, 1) := by decide +kernel
theorem dL_law_280 : decode cL_law 280 = .ok (.iadd, 1) := by decide +kernel
theorem dL_law_281 : decode cL_law 281 = .ok (.iaload, 1) := by decide +kernel
theorem dL_law_282 : decode cL_law 282 = .ok (.aload_n 0, 1) := by decide +kernel
theorem dL_law_283 : decode cL_law 283 = .ok (.iload_n 3, 1) := by decide +kernel
theorem dL_law_284 : decode cL_law 284 = .ok (.iconst 2, 1) := by decide +kernel
theorem dL_law_285 : decode cL_law 285 = .ok (.iadd, 1) := by decide +kernel
theorem dL_law_286 : decode cL_law 286 = .ok (.iaload, 1) := by decide +kernel
theorem dL_law_287 : decode cL_law 287 = .ok (.invokevirtual 35, 3) := by decide +kernel
theorem dL_law_290 : decode cL_law 290 = .ok (.if_icmp .eq 381, 3) := by decide +kernel
theorem dL_law_293 : decode cL_law 293 = .ok (.iconst 0, 1) := by decide +kernel
theorem dL_law_294 : decode cL_law 294 = .ok (.ireturn, 1) := by decide +kernel
theorem dL_law_295 : decode cL_law 295 = .ok (.aload_n 1, 1) := by decide +kernel
theorem dL_law_296 : decode cL_law 296 = .ok (.aload_n 0, 1) := by decide +kernel
theorem dL_law_297 : decode cL_law 297 = .ok (.iload_n 3, 1) := by decide +kernel
theorem dL_law_298 : decode cL_law 298 = .ok (.iconst 1, 1) := by decide +kernel
theorem dL_law_299 : decode cL_law 299 = .ok (.iadd, 1) := by decide +kernel
theorem dL_law_300 : decode cL_law 300 = .ok (.iaload, 1) := by decide +kernel
theorem dL_law_301 : decode cL_law 301 = .ok (.aload_n 0, 1) := by decide +kernel
theorem dL_law_302 : decode cL_law 302 = .ok (.iload_n 3, 1) := by decide +kernel
theorem dL_law_303 : decode cL_law 303 = .ok (.iconst 2, 1) := by decide +kernel
theorem dL_law_304 : decode cL_law 304 = .ok (.iadd, 1) := by decide +kernel
theorem dL_law_305 : decode cL_law 305 = .ok (.iaload, 1) := by decide +kernel
theorem dL_law_306 : decode cL_law 306 = .ok (.invokevirtual 36, 3) := by decide +kernel
theorem dL_law_309 : decode cL_law 309 = .ok (.aload_n 2, 1) := by decide +kernel
theorem dL_law_310 : decode cL_law 310 = .ok (.aload_n 0, 1) := by decide +kernel
theorem dL_law_311 : decode cL_law 311 = .ok (.iload_n 3, 1) := by decide +kernel
theorem dL_law_312 : decode cL_law 312 = .ok (.iconst 1, 1) := by decide +kernel
theorem dL_law_313 : decode cL_law 313 = .ok (.iadd, 1) := by decide +kernel
theorem dL_law_314 : decode cL_law 314 = .ok (.iaload, 1) := by decide +kernel
theorem dL_law_315 : decode cL_law 315 = .ok (.aload_n 0, 1) := by decide +kernel
theorem dL_law_316 : decode cL_law 316 = .ok (.iload_n 3, 1) := by decide +kernel
theorem dL_law_317 : decode cL_law 317 = .ok (.iconst 2, 1) := by decide +kernel
theorem dL_law_318 : decode cL_law 318 = .ok (.iadd, 1) := by decide +kernel
theorem dL_law_319 : decode cL_law 319 = .ok (.iaload, 1) := by decide +kernel
theorem dL_law_320 : decode cL_law 320 = .ok (.invokevirtual 39, 3) := by decide +kernel
theorem dL_law_323 : decode cL_law 323 = .ok (.if_icmp .eq 348, 3) := by decide +kernel
theorem dL_law_326 : decode cL_law 326 = .ok (.iconst 0, 1) := by decide +kernel
theorem dL_law_327 : decode cL_law 327 = .ok (.ireturn, 1) := by decide +kernel
theorem dL_law_328 : decode cL_law 328 = .ok (.aload_n 1, 1) := by decide +kernel
theorem dL_law_329 : decode cL_law 329 = .ok (.aload_n 0, 1) := by decide +kernel
theorem dL_law_330 : decode cL_law 330 = .ok (.iload_n 3, 1) := by decide +kernel
theorem dL_law_331 : decode cL_law 331 = .ok (.iconst 1, 1) := by decide +kernel
theorem dL_law_332 : decode cL_law 332 = .ok (.iadd, 1) := by decide +kernel
theorem dL_law_333 : decode cL_law 333 = .ok (.iaload, 1) := by decide +kernel
theorem dL_law_334 : decode cL_law 334 = .ok (.invokevirtual 40, 3) := by decide +kernel
theorem dL_law_337 : decode cL_law 337 = .ok (.aload_n 2, 1) := by decide +kernel
theorem dL_law_338 : decode cL_law 338 = .ok (.aload_n 0, 1) := by decide +kernel
theorem dL_law_339 : decode cL_law 339 = .ok (.iload_n 3, 1) := by decide +kernel
theorem dL_law_340 : decode cL_law 340 = .ok (.iconst 1, 1) := by decide +kernel
theorem dL_law_341 : decode cL_law 341 = .ok (.iadd, 1) := by decide +kernel
theorem dL_law_342 : decode cL_law 342 = .ok (.iaload, 1) := by decide +kernel
theorem dL_law_343 : decode cL_law 343 = .ok (.invokevirtual 43, 3) := by decide +kernel
theorem dL_law_346 : decode cL_law 346 = .ok (.if_icmp .eq 325, 3) := by decide +kernel
theorem dL_law_349 : decode cL_law 349 = .ok (.iconst 0, 1) := by decide +kernel
theorem dL_law_350 : decode cL_law 350 = .ok (.ireturn, 1) := by decide +kernel
theorem dL_law_351 : decode cL_law 351 = .ok (.aload_n 1, 1) := by decide +kernel
theorem dL_law_352 : decode cL_law 352 = .ok (.aload_n 0, 1) := by decide +kernel
theorem dL_law_353 : decode cL_law 353 = .ok (.iload_n 3, 1) := by decide +kernel
theorem dL_law_354 : decode cL_law 354 = .ok (.iconst 1, 1) := by decide +kernel
theorem dL_law_355 : decode cL_law 355 = .ok (.iadd, 1) := by decide +kernel
theorem dL_law_356 : decode cL_law 356 = .ok (.iaload, 1) := by decide +kernel
theorem dL_law_357 : decode cL_law 357 = .ok (.i2c, 1) := by decide +kernel
theorem dL_law_358 : decode cL_law 358 = .ok (.invokevirtual 44, 3) := by decide +kernel
theorem dL_law_361 : decode cL_law 361 = .ok (.aload_n 2, 1) := by decide +kernel
theorem dL_law_362 : decode cL_law 362 = .ok (.aload_n 0, 1) := by decide +kernel
theorem dL_law_363 : decode cL_law 363 = .ok (.iload_n 3, 1) := by decide +kernel
theorem dL_law_364 : decode cL_law 364 = .ok (.iconst 1, 1) := by decide +kernel
theorem dL_law_365 : decode cL_law 365 = .ok (.iadd, 1) := by decide +kernel
theorem dL_law_366 : decode cL_law 366 = .ok (.iaload, 1) := by decide +kernel
theorem dL_law_367 : decode cL_law 367 = .ok (.i2c, 1) := by decide +kernel
theorem dL_law_368 : decode cL_law 368 = .ok (.invokevirtual 48, 3) := by decide +kernel
theorem dL_law_371 : decode cL_law 371 = .ok (.if_icmp .eq 300, 3) := by decide +kernel
theorem dL_law_374 : decode cL_law 374 = .ok (.iconst 0, 1) := by decide +kernel
theorem dL_law_375 : decode cL_law 375 = .ok (.ireturn, 1) := by decide +kernel
theorem dL_law_376 : decode cL_law 376 = .ok (.aload_n 1, 1) := by decide +kernel
theorem dL_law_377 : decode cL_law 377 = .ok (.invokevirtual 49, 3) := by decide +kernel
theorem dL_law_380 : decode cL_law 380 = .ok (.aload_n 2, 1) := by decide +kernel
theorem dL_law_381 : decode cL_law 381 = .ok (.invokevirtual 53, 3) := by decide +kernel
theorem dL_law_384 : decode cL_law 384 = .ok (.if_icmp .eq 287, 3) := by decide +kernel
theorem dL_law_387 : decode cL_law 387 = .ok (.iconst 0, 1) := by decide +kernel
theorem dL_law_388 : decode cL_law 388 = .ok (.ireturn, 1) := by decide +kernel
theorem dL_law_389 : decode cL_law 389 = .ok (.aload_n 1, 1) := by decide +kernel
theorem dL_law_390 : decode cL_law 390 = .ok (.invokevirtual 54, 3) := by decide +kernel
theorem dL_law_393 : decode cL_law 393 = .ok (.aload_n 2, 1) := by decide +kernel
theorem dL_law_394 : decode cL_law 394 = .ok (.invokevirtual 57, 3) := by decide +kernel
theorem dL_law_397 : decode cL_law 397 = .ok (.if_icmp .eq 274, 3) := by decide +kernel
theorem dL_law_400 : decode cL_law 400 = .ok (.iconst 0, 1) := by decide +kernel
theorem dL_law_401 : decode cL_law 401 = .ok (.ireturn, 1) := by decide +kernel
theorem dL_law_402 : decode cL_law 402 = .ok (.aload_n 1, 1) := by decide +kernel
theorem dL_law_403 : decode cL_law 403 = .ok (.aload_n 0, 1) := by decide +kernel
theorem dL_law_404 : decode cL_law 404 = .ok (.iload_n 3, 1) := by decide +kernel
theorem dL_law_405 : decode cL_law 405 = .ok (.iconst 1, 1) := by decide +kernel
theorem dL_law_406 : decode cL_law 406 = .ok (.iadd, 1) := by decide +kernel
theorem dL_law_407 : decode cL_law 407 = .ok (.iaload, 1) := by decide +kernel
theorem dL_law_408 : decode cL_law 408 = .ok (.invokevirtual 58, 3) := by decide +kernel
theorem dL_law_411 : decode cL_law 411 = .ok (.aload_n 2, 1) := by decide +kernel
theorem dL_law_412 : decode cL_law 412 = .ok (.aload_n 0, 1) := by decide +kernel
theorem dL_law_413 : decode cL_law 413 = .ok (.iload_n 3, 1) := by decide +kernel
theorem dL_law_414 : decode cL_law 414 = .ok (.iconst 1, 1) := by decide +kernel
theorem dL_law_415 : decode cL_law 415 = .ok (.iadd, 1) := by decide +kernel
theorem dL_law_416 : decode cL_law 416 = .ok (.iaload, 1) := by decide +kernel
theorem dL_law_417 : decode cL_law 417 = .ok (.invokevirtual 61, 3) := by decide +kernel
theorem dL_law_420 : decode cL_law 420 = .ok (.if_icmp .eq 251, 3) := by decide +kernel
theorem dL_law_423 : decode cL_law 423 = .ok (.iconst 0, 1) := by decide +kernel
theorem dL_law_424 : decode cL_law 424 = .ok (.ireturn, 1) := by decide +kernel
theorem dL_law_425 : decode cL_law 425 = .ok (.aload_n 1, 1) := by decide +kernel
theorem dL_law_426 : decode cL_law 426 = .ok (.invokevirtual 62, 3) := by decide +kernel
theorem dL_law_429 : decode cL_law 429 = .ok (.aload_n 2, 1) := by decide +kernel
theorem dL_law_430 : decode cL_law 430 = .ok (.invokevirtual 65, 3) := by decide +kernel
theorem dL_law_433 : decode cL_law 433 = .ok (.if_icmp .eq 238, 3) := by decide +kernel
theorem dL_law_436 : decode cL_law 436 = .ok (.iconst 0, 1) := by decide +kernel
theorem dL_law_437 : decode cL_law 437 = .ok (.ireturn, 1) := by decide +kernel
theorem dL_law_438 : decode cL_law 438 = .ok (.aload_n 1, 1) := by decide +kernel
theorem dL_law_439 : decode cL_law 439 = .ok (.invokevirtual 66, 3) := by decide +kernel
theorem dL_law_442 : decode cL_law 442 = .ok (.aload_n 2, 1) := by decide +kernel
theorem dL_law_443 : decode cL_law 443 = .ok (.invokevirtual 69, 3) := by decide +kernel
theorem dL_law_446 : decode cL_law 446 = .ok (.if_icmp .eq 225, 3) := by decide +kernel
theorem dL_law_449 : decode cL_law 449 = .ok (.iconst 0, 1) := by decide +kernel
theorem dL_law_450 : decode cL_law 450 = .ok (.ireturn, 1) := by decide +kernel
theorem dL_law_451 : decode cL_law 451 = .ok (.aload_n 1, 1) := by decide +kernel
theorem dL_law_452 : decode cL_law 452 = .ok (.invokevirtual 70, 3) := by decide +kernel
theorem dL_law_455 : decode cL_law 455 = .ok (.aload_n 2, 1) := by decide +kernel
theorem dL_law_456 : decode cL_law 456 = .ok (.invokevirtual 73, 3) := by decide +kernel
theorem dL_law_459 : decode cL_law 459 = .ok (.if_icmp .eq 212, 3) := by decide +kernel
theorem dL_law_462 : decode cL_law 462 = .ok (.iconst 0, 1) := by decide +kernel
theorem dL_law_463 : decode cL_law 463 = .ok (.ireturn, 1) := by decide +kernel
theorem dL_law_464 : decode cL_law 464 = .ok (.aload_n 1, 1) := by decide +kernel
theorem dL_law_465 : decode cL_law 465 = .ok (.aload_n 0, 1) := by decide +kernel
theorem dL_law_466 : decode cL_law 466 = .ok (.iload_n 3, 1) := by decide +kernel
theorem dL_law_467 : decode cL_law 467 = .ok (.iconst 1, 1) := by decide +kernel
theorem dL_law_468 : decode cL_law 468 = .ok (.iadd, 1) := by decide +kernel
theorem dL_law_469 : decode cL_law 469 = .ok (.iaload, 1) := by decide +kernel
theorem dL_law_470 : decode cL_law 470 = .ok (.aload_n 0, 1) := by decide +kernel
theorem dL_law_471 : decode cL_law 471 = .ok (.iload_n 3, 1) := by decide +kernel
theorem dL_law_472 : decode cL_law 472 = .ok (.iconst 2, 1) := by decide +kernel
theorem dL_law_473 : decode cL_law 473 = .ok (.iadd, 1) := by decide +kernel
theorem dL_law_474 : decode cL_law 474 = .ok (.iaload, 1) := by decide +kernel
theorem dL_law_475 : decode cL_law 475 = .ok (.invokevirtual 74, 3) := by decide +kernel
theorem dL_law_478 : decode cL_law 478 = .ok (.aload_n 2, 1) := by decide +kernel
theorem dL_law_479 : decode cL_law 479 = .ok (.aload_n 0, 1) := by decide +kernel
theorem dL_law_480 : decode cL_law 480 = .ok (.iload_n 3, 1) := by decide +kernel
theorem dL_law_481 : decode cL_law 481 = .ok (.iconst 1, 1) := by decide +kernel
theorem dL_law_482 : decode cL_law 482 = .ok (.iadd, 1) := by decide +kernel
theorem dL_law_483 : decode cL_law 483 = .ok (.iaload, 1) := by decide +kernel
theorem dL_law_484 : decode cL_law 484 = .ok (.aload_n 0, 1) := by decide +kernel
theorem dL_law_485 : decode cL_law 485 = .ok (.iload_n 3, 1) := by decide +kernel
theorem dL_law_486 : decode cL_law 486 = .ok (.iconst 2, 1) := by decide +kernel
theorem dL_law_487 : decode cL_law 487 = .ok (.iadd, 1) := by decide +kernel
theorem dL_law_488 : decode cL_law 488 = .ok (.iaload, 1) := by decide +kernel
theorem dL_law_489 : decode cL_law 489 = .ok (.invokevirtual 77, 3) := by decide +kernel
theorem dL_law_492 : decode cL_law 492 = .ok (.if_icmp .eq 179, 3) := by decide +kernel
theorem dL_law_495 : decode cL_law 495 = .ok (.iconst 0, 1) := by decide +kernel
theorem dL_law_496 : decode cL_law 496 = .ok (.ireturn, 1) := by decide +kernel
theorem dL_law_497 : decode cL_law 497 = .ok (.aload_n 1, 1) := by decide +kernel
theorem dL_law_498 : decode cL_law 498 = .ok (.aload_n 0, 1) := by decide +kernel
theorem dL_law_499 : decode cL_law 499 = .ok (.iload_n 3, 1) := by decide +kernel
theorem dL_law_500 : decode cL_law 500 = .ok (.iconst 1, 1) := by decide +kernel
theorem dL_law_501 : decode cL_law 501 = .ok (.iadd, 1) := by decide +kernel
theorem dL_law_502 : decode cL_law 502 = .ok (.iaload, 1) := by decide +kernel
theorem dL_law_503 : decode cL_law 503 = .ok (.invokevirtual 78, 3) := by decide +kernel
theorem dL_law_506 : decode cL_law 506 = .ok (.aload_n 2, 1) := by decide +kernel
theorem dL_law_507 : decode cL_law 507 = .ok (.aload_n 0, 1) := by decide +kernel
theorem dL_law_508 : decode cL_law 508 = .ok (.iload_n 3, 1) := by decide +kernel
theorem dL_law_509 : decode cL_law 509 = .ok (.iconst 1, 1) := by decide +kernel
theorem dL_law_510 : decode cL_law 510 = .ok (.iadd, 1) := by decide +kernel
theorem dL_law_511 : decode cL_law 511 = .ok (.iaload, 1) := by decide +kernel
theorem dL_law_512 : decode cL_law 512 = .ok (.invokevirtual 81, 3) := by decide +kernel
theorem dL_law_515 : decode cL_law 515 = .ok (.if_icmp .eq 156, 3) := by decide +kernel
theorem dL_law_518 : decode cL_law 518 = .ok (.iconst 0, 1) := by decide +kernel
theorem dL_law_519 : decode cL_law 519 = .ok (.ireturn, 1) := by decide +kernel
theorem dL_law_520 : decode cL_law 520 = .ok (.aload_n 1, 1) := by decide +kernel
theorem dL_law_521 : decode cL_law 521 = .ok (.aload_n 0, 1) := by decide +kernel
theorem dL_law_522 : decode cL_law 522 = .ok (.iload_n 3, 1) := by decide +kernel
theorem dL_law_523 : decode cL_law 523 = .ok (.iconst 1, 1) := by decide +kernel
theorem dL_law_524 : decode cL_law 524 = .ok (.iadd, 1) := by decide +kernel
theorem dL_law_525 : decode cL_law 525 = .ok (.iaload, 1) := by decide +kernel
theorem dL_law_526 : decode cL_law 526 = .ok (.invokevirtual 82, 3) := by decide +kernel
theorem dL_law_529 : decode cL_law 529 = .ok (.aload_n 2, 1) := by decide +kernel
theorem dL_law_530 : decode cL_law 530 = .ok (.aload_n 0, 1) := by decide +kernel
theorem dL_law_531 : decode cL_law 531 = .ok (.iload_n 3, 1) := by decide +kernel
theorem dL_law_532 : decode cL_law 532 = .ok (.iconst 1, 1) := by decide +kernel
theorem dL_law_533 : decode cL_law 533 = .ok (.iadd, 1) := by decide +kernel
theorem dL_law_534 : decode cL_law 534 = .ok (.iaload, 1) := by decide +kernel
theorem dL_law_535 : decode cL_law 535 = .ok (.invokevirtual 85, 3) := by decide +kernel
theorem dL_law_538 : decode cL_law 538 = .ok (.if_icmp .eq 133, 3) := by decide +kernel
theorem dL_law_541 : decode cL_law 541 = .ok (.iconst 0, 1) := by decide +kernel
theorem dL_law_542 : decode cL_law 542 = .ok (.ireturn, 1) := by decide +kernel
theorem dL_law_543 : decode cL_law 543 = .ok (.aload_n 1, 1) := by decide +kernel
theorem dL_law_544 : decode cL_law 544 = .ok (.aload_n 0, 1) := by decide +kernel
theorem dL_law_545 : decode cL_law 545 = .ok (.iload_n 3, 1) := by decide +kernel
theorem dL_law_546 : decode cL_law 546 = .ok (.iconst 1, 1) := by decide +kernel
theorem dL_law_547 : decode cL_law 547 = .ok (.iadd, 1) := by decide +kernel
theorem dL_law_548 : decode cL_law 548 = .ok (.iaload, 1) := by decide +kernel
theorem dL_law_549 : decode cL_law 549 = .ok (.invokevirtual 86, 3) := by decide +kernel
theorem dL_law_552 : decode cL_law 552 = .ok (.aload_n 2, 1) := by decide +kernel
theorem dL_law_553 : decode cL_law 553 = .ok (.aload_n 0, 1) := by decide +kernel
theorem dL_law_554 : decode cL_law 554 = .ok (.iload_n 3, 1) := by decide +kernel
theorem dL_law_555 : decode cL_law 555 = .ok (.iconst 1, 1) := by decide +kernel
theorem dL_law_556 : decode cL_law 556 = .ok (.iadd, 1) := by decide +kernel
theorem dL_law_557 : decode cL_law 557 = .ok (.iaload, 1) := by decide +kernel
theorem dL_law_558 : decode cL_law 558 = .ok (.invokevirtual 89, 3) := by decide +kernel
theorem dL_law_561 : decode cL_law 561 = .ok (.if_icmp .eq 110, 3) := by decide +kernel
theorem dL_law_564 : decode cL_law 564 = .ok (.iconst 0, 1) := by decide +kernel
theorem dL_law_565 : decode cL_law 565 = .ok (.ireturn, 1) := by decide +kernel
theorem dL_law_566 : decode cL_law 566 = .ok (.aload_n 1, 1) := by decide +kernel
theorem dL_law_567 : decode cL_law 567 = .ok (.invokevirtual 90, 3) := by decide +kernel
theorem dL_law_570 : decode cL_law 570 = .ok (.aload_n 2, 1) := by decide +kernel
theorem dL_law_571 : decode cL_law 571 = .ok (.invokevirtual 93, 3) := by decide +kernel
theorem dL_law_574 : decode cL_law 574 = .ok (.if_icmp .eq 97, 3) := by decide +kernel
theorem dL_law_577 : decode cL_law 577 = .ok (.iconst 0, 1) := by decide +kernel
theorem dL_law_578 : decode cL_law 578 = .ok (.ireturn, 1) := by decide +kernel
theorem dL_law_579 : decode cL_law 579 = .ok (.aload_n 1, 1) := by decide +kernel
theorem dL_law_580 : decode cL_law 580 = .ok (.aload_n 0, 1) := by decide +kernel
theorem dL_law_581 : decode cL_law 581 = .ok (.iload_n 3, 1) := by decide +kernel
theorem dL_law_582 : decode cL_law 582 = .ok (.iconst 1, 1) := by decide +kernel
theorem dL_law_583 : decode cL_law 583 = .ok (.iadd, 1) := by decide +kernel
theorem dL_law_584 : decode cL_law 584 = .ok (.iaload, 1) := by decide +kernel
theorem dL_law_585 : decode cL_law 585 = .ok (.invokevirtual 94, 3) := by decide +kernel
theorem dL_law_588 : decode cL_law 588 = .ok (.aload_n 2, 1) := by decide +kernel
theorem dL_law_589 : decode cL_law 589 = .ok (.aload_n 0, 1) := by decide +kernel
theorem dL_law_590 : decode cL_law 590 = .ok (.iload_n 3, 1) := by decide +kernel
theorem dL_law_591 : decode cL_law 591 = .ok (.iconst 1, 1) := by decide +kernel
theorem dL_law_592 : decode cL_law 592 = .ok (.iadd, 1) := by decide +kernel
theorem dL_law_593 : decode cL_law 593 = .ok (.iaload, 1) := by decide +kernel
theorem dL_law_594 : decode cL_law 594 = .ok (.invokevirtual 97, 3) := by decide +kernel
theorem dL_law_597 : decode cL_law 597 = .ok (.if_icmp .eq 74, 3) := by decide +kernel
theorem dL_law_600 : decode cL_law 600 = .ok (.iconst 0, 1) := by decide +kernel
theorem dL_law_601 : decode cL_law 601 = .ok (.ireturn, 1) := by decide +kernel
theorem dL_law_602 : decode cL_law 602 = .ok (.aload_n 1, 1) := by decide +kernel
theorem dL_law_603 : decode cL_law 603 = .ok (.aload_n 0, 1) := by decide +kernel
theorem dL_law_604 : decode cL_law 604 = .ok (.iload_n 3, 1) := by decide +kernel
theorem dL_law_605 : decode cL_law 605 = .ok (.iconst 1, 1) := by decide +kernel
theorem dL_law_606 : decode cL_law 606 = .ok (.iadd, 1) := by decide +kernel
theorem dL_law_607 : decode cL_law 607 = .ok (.iaload, 1) := by decide +kernel
theorem dL_law_608 : decode cL_law 608 = .ok (.aload_n 0, 1) := by decide +kernel
theorem dL_law_609 : decode cL_law 609 = .ok (.iload_n 3, 1) := by decide +kernel
theorem dL_law_610 : decode cL_law 610 = .ok (.iconst 2, 1) := by decide +kernel
theorem dL_law_611 : decode cL_law 611 = .ok (.iadd, 1) := by decide +kernel
theorem dL_law_612 : decode cL_law 612 = .ok (.iaload, 1) := by decide +kernel
theorem dL_law_613 : decode cL_law 613 = .ok (.invokevirtual 98, 3) := by decide +kernel
theorem dL_law_616 : decode cL_law 616 = .ok (.aload_n 2, 1) := by decide +kernel
theorem dL_law_617 : decode cL_law 617 = .ok (.aload_n 0, 1) := by decide +kernel
theorem dL_law_618 : decode cL_law 618 = .ok (.iload_n 3, 1) := by decide +kernel
theorem dL_law_619 : decode cL_law 619 = .ok (.iconst 1, 1) := by decide +kernel
theorem dL_law_620 : decode cL_law 620 = .ok (.iadd, 1) := by decide +kernel
theorem dL_law_621 : decode cL_law 621 = .ok (.iaload, 1) := by decide +kernel
theorem dL_law_622 : decode cL_law 622 = .ok (.aload_n 0, 1) := by decide +kernel
theorem dL_law_623 : decode cL_law 623 = .ok (.iload_n 3, 1) := by decide +kernel
theorem dL_law_624 : decode cL_law 624 = .ok (.iconst 2, 1) := by decide +kernel
theorem dL_law_625 : decode cL_law 625 = .ok (.iadd, 1) := by decide +kernel
theorem dL_law_626 : decode cL_law 626 = .ok (.iaload, 1) := by decide +kernel
theorem dL_law_627 : decode cL_law 627 = .ok (.invokevirtual 101, 3) := by decide +kernel
theorem dL_law_630 : decode cL_law 630 = .ok (.if_icmp .eq 41, 3) := by decide +kernel
theorem dL_law_633 : decode cL_law 633 = .ok (.iconst 0, 1) := by decide +kernel
theorem dL_law_634 : decode cL_law 634 = .ok (.ireturn, 1) := by decide +kernel
theorem dL_law_635 : decode cL_law 635 = .ok (.aload_n 1, 1) := by decide +kernel
theorem dL_law_636 : decode cL_law 636 = .ok (.invokevirtual 102, 3) := by decide +kernel
theorem dL_law_639 : decode cL_law 639 = .ok (.aload_n 2, 1) := by decide +kernel
theorem dL_law_640 : decode cL_law 640 = .ok (.invokevirtual 105, 3) := by decide +kernel
theorem dL_law_643 : decode cL_law 643 = .ok (.if_icmp .eq 28, 3) := by decide +kernel
theorem dL_law_646 : decode cL_law 646 = .ok (.iconst 0, 1) := by decide +kernel
theorem dL_law_647 : decode cL_law 647 = .ok (.ireturn, 1) := by decide +kernel
theorem dL_law_648 : decode cL_law 648 = .ok (.aload_n 1, 1) := by decide +kernel
theorem dL_law_649 : decode cL_law 649 = .ok (.aload_n 0, 1) := by decide +kernel
theorem dL_law_650 : decode cL_law 650 = .ok (.iload_n 3, 1) := by decide +kernel
theorem dL_law_651 : decode cL_law 651 = .ok (.iconst 1, 1) := by decide +kernel
theorem dL_law_652 : decode cL_law 652 = .ok (.iadd, 1) := by decide +kernel
theorem dL_law_653 : decode cL_law 653 = .ok (.iaload, 1) := by decide +kernel
theorem dL_law_654 : decode cL_law 654 = .ok (.invokevirtual 106, 3) := by decide +kernel
theorem dL_law_657 : decode cL_law 657 = .ok (.aload_n 2, 1) := by decide +kernel
theorem dL_law_658 : decode cL_law 658 = .ok (.aload_n 0, 1) := by decide +kernel
theorem dL_law_659 : decode cL_law 659 = .ok (.iload_n 3, 1) := by decide +kernel
theorem dL_law_660 : decode cL_law 660 = .ok (.iconst 1, 1) := by decide +kernel
theorem dL_law_661 : decode cL_law 661 = .ok (.iadd, 1) := by decide +kernel
theorem dL_law_662 : decode cL_law 662 = .ok (.iaload, 1) := by decide +kernel
theorem dL_law_663 : decode cL_law 663 = .ok (.invokevirtual 109, 3) := by decide +kernel
theorem dL_law_666 : decode cL_law 666 = .ok (.if_icmp .eq 5, 3) := by decide +kernel
theorem dL_law_669 : decode cL_law 669 = .ok (.iconst 0, 1) := by decide +kernel
theorem dL_law_670 : decode cL_law 670 = .ok (.ireturn, 1) := by decide +kernel
theorem dL_law_671 : decode cL_law 671 = .ok (.iinc 3 4, 3) := by decide +kernel
theorem dL_law_674 : decode cL_law 674 = .ok (.goto (-656), 3) := by decide +kernel
theorem dL_law_677 : decode cL_law 677 = .ok (.iconst 1, 1) := by decide +kernel
theorem dL_law_678 : decode cL_law 678 = .ok (.ireturn, 1) := by decide +kernel
