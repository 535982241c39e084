theorem dX0_init_0 : decode cX0_init 0 = .ok (.aload_n 0, 1) := by decide +kernel
theorem dX0_init_1 : decode cX0_init 1 = .ok (.invokespecial 3, 3) := by decide +kernel
theorem dX0_init_4 : decode cX0_init 4 = .ok (.aload_n 0, 1) := by decide +kernel
theorem dX0_init_5 : decode cX0_init 5 = .ok (.bipush 10, 2) := by decide +kernel
theorem dX0_init_7 : decode cX0_init 7 = .ok (.putfield 9, 3) := by decide +kernel
theorem dX0_init_10 : decode cX0_init 10 = .ok (.aload_n 0, 1) := by decide +kernel
theorem dX0_init_11 : decode cX0_init 11 = .ok (.iconst 0, 1) := by decide +kernel
theorem dX0_init_12 : decode cX0_init 12 = .ok (.putfield 15, 3) := by decide +kernel
theorem dX0_init_15 : decode cX0_init 15 = .ok (.aload_n 0, 1) := by decide +kernel
theorem dX0_init_16 : decode cX0_init 16 = .ok (.iconst 0, 1) := by decide +kernel
theorem dX0_init_17 : decode cX0_init 17 = .ok (.putfield 18, 3) := by decide +kernel
theorem dX0_init_20 : decode cX0_init 20 = .ok (.aload_n 0, 1) := by decide +kernel
theorem dX0_init_21 : decode cX0_init 21 = .ok (.iconst (-1), 1) := by decide +kernel
theorem dX0_init_22 : decode cX0_init 22 = .ok (.putfield 21, 3) := by decide +kernel
theorem dX0_init_25 : decode cX0_init 25 = .ok (.aload_n 0, 1) := by decide +kernel
theorem dX0_init_26 : decode cX0_init 26 = .ok (.iconst 1, 1) := by decide +kernel
theorem dX0_init_27 : decode cX0_init 27 = .ok (.putfield 24, 3) := by decide +kernel
theorem dX0_init_30 : decode cX0_init 30 = .ok (.aload_n 0, 1) := by decide +kernel
theorem dX0_init_31 : decode cX0_init 31 = .ok (.iconst 0, 1) := by decide +kernel
theorem dX0_init_32 : decode cX0_init 32 = .ok (.putfield 28, 3) := by decide +kernel
theorem dX0_init_35 : decode cX0_init 35 = .ok (.aload_n 0, 1) := by decide +kernel
theorem dX0_init_36 : decode cX0_init 36 = .ok (.iconst 0, 1) := by decide +kernel
theorem dX0_init_37 : decode cX0_init 37 = .ok (.putfield 31, 3) := by decide +kernel
theorem dX0_init_40 : decode cX0_init 40 = .ok (.aload_n 0, 1) := by decide +kernel
theorem dX0_init_41 : decode cX0_init 41 = .ok (.iconst 0, 1) := by decide +kernel
theorem dX0_init_42 : decode cX0_init 42 = .ok (.putfield 34, 3) := by decide +kernel
theorem dX0_init_45 : decode cX0_init 45 = .ok (.aload_n 0, 1) := by decide +kernel
theorem dX0_init_46 : decode cX0_init 46 = .ok (.iconst 0, 1) := by decide +kernel
theorem dX0_init_47 : decode cX0_init 47 = .ok (.putfield 37, 3) := by decide +kernel
theorem dX0_init_50 : decode cX0_init 50 = .ok (.aload_n 0, 1) := by decide +kernel
theorem dX0_init_51 : decode cX0_init 51 = .ok (.iconst 0, 1) := by decide +kernel
theorem dX0_init_52 : decode cX0_init 52 = .ok (.putfield 40, 3) := by decide +kernel
theorem dX0_init_55 : decode cX0_init 55 = .ok (.aload_n 0, 1) := by decide +kernel
theorem dX0_init_56 : decode cX0_init 56 = .ok (.iconst 0, 1) := by decide +kernel
theorem dX0_init_57 : decode cX0_init 57 = .ok (.putfield 43, 3) := by decide +kernel
theorem dX0_init_60 : decode cX0_init 60 = .ok (.aload_n 0, 1) := by decide +kernel
theorem dX0_init_61 : decode cX0_init 61 = .ok (.iconst 0, 1) := by decide +kernel
theorem dX0_init_62 : decode cX0_init 62 = .ok (.putfield 46, 3) := by decide +kernel
theorem dX0_init_65 : decode cX0_init 65 = .ok (.aload_n 0, 1) := by decide +kernel
theorem dX0_init_66 : decode cX0_init 66 = .ok (.iload_n 1, 1) := by decide +kernel
theorem dX0_init_67 : decode cX0_init 67 = .ok (.putfield 49, 3) := by decide +kernel
theorem dX0_init_70 : decode cX0_init 70 = .ok (.return_, 1) := by decide +kernel
theorem dX0_copyFrom_0 : decode cX0_copyFrom 0 = .ok (.aload_n 0, 1) := by decide +kernel
theorem dX0_copyFrom_1 : decode cX0_copyFrom 1 = .ok (.aload_n 1, 1) := by decide +kernel
theorem dX0_copyFrom_2 : decode cX0_copyFrom 2 = .ok (.getfield 9, 3) := by decide +kernel
theorem dX0_copyFrom_5 : decode cX0_copyFrom 5 = .ok (.putfield 9, 3) := by decide +kernel
theorem dX0_copyFrom_8 : decode cX0_copyFrom 8 = .ok (.aload_n 0, 1) := by decide +kernel
theorem dX0_copyFrom_9 : decode cX0_copyFrom 9 = .ok (.aload_n 1, 1) := by decide +kernel
theorem dX0_copyFrom_10 : decode cX0_copyFrom 10 = .ok (.getfield 15, 3) := by decide +kernel
theorem dX0_copyFrom_13 : decode cX0_copyFrom 13 = .ok (.putfield 15, 3) := by decide +kernel
theorem dX0_copyFrom_16 : decode cX0_copyFrom 16 = .ok (.aload_n 0, 1) := by decide +kernel
theorem dX0_copyFrom_17 : decode cX0_copyFrom 17 = .ok (.aload_n 1, 1) := by decide +kernel
theorem dX0_copyFrom_18 : decode cX0_copyFrom 18 = .ok (.getfield 49, 3) := by decide +kernel
theorem dX0_copyFrom_21 : decode cX0_copyFrom 21 = .ok (.putfield 49, 3) := by decide +kernel
theorem dX0_copyFrom_24 : decode cX0_copyFrom 24 = .ok (.aload_n 0, 1) := by decide +kernel
theorem dX0_copyFrom_25 : decode cX0_copyFrom 25 = .ok (.aload_n 1, 1) := by decide +kernel
theorem dX0_copyFrom_26 : decode cX0_copyFrom 26 = .ok (.getfield 18, 3) := by decide +kernel
theorem dX0_copyFrom_29 : decode cX0_copyFrom 29 = .ok (.putfield 18, 3) := by decide +kernel
theorem dX0_copyFrom_32 : decode cX0_copyFrom 32 = .ok (.aload_n 0, 1) := by decide +kernel
theorem dX0_copyFrom_33 : decode cX0_copyFrom 33 = .ok (.aload_n 1, 1) := by decide +kernel
theorem dX0_copyFrom_34 : decode cX0_copyFrom 34 = .ok (.getfield 21, 3) := by decide +kernel
theorem dX0_copyFrom_37 : decode cX0_copyFrom 37 = .ok (.putfield 21, 3) := by decide +kernel
theorem dX0_copyFrom_40 : decode cX0_copyFrom 40 = .ok (.aload_n 0, 1) := by decide +kernel
theorem dX0_copyFrom_41 : decode cX0_copyFrom 41 = .ok (.aload_n 1, 1) := by decide +kernel
theorem dX0_copyFrom_42 : decode cX0_copyFrom 42 = .ok (.getfield 24, 3) := by decide +kernel
theorem dX0_copyFrom_45 : decode cX0_copyFrom 45 = .ok (.putfield 24, 3) := by decide +kernel
theorem dX0_copyFrom_48 : decode cX0_copyFrom 48 = .ok (.aload_n 0, 1) := by decide +kernel
theorem dX0_copyFrom_49 : decode cX0_copyFrom 49 = .ok (.aload_n 1, 1) := by decide +kernel
theorem dX0_copyFrom_50 : decode cX0_copyFrom 50 = .ok (.getfield 28, 3) := by decide +kernel
theorem dX0_copyFrom_53 : decode cX0_copyFrom 53 = .ok (.putfield 28, 3) := by decide +kernel
theorem dX0_copyFrom_56 : decode cX0_copyFrom 56 = .ok (.aload_n 0, 1) := by decide +kernel
theorem dX0_copyFrom_57 : decode cX0_copyFrom 57 = .ok (.aload_n 1, 1) := by decide +kernel
theorem dX0_copyFrom_58 : decode cX0_copyFrom 58 = .ok (.getfield 31, 3) := by decide +kernel
theorem dX0_copyFrom_61 : decode cX0_copyFrom 61 = .ok (.putfield 31, 3) := by decide +kernel
theorem dX0_copyFrom_64 : decode cX0_copyFrom 64 = .ok (.aload_n 0, 1) := by decide +kernel
theorem dX0_copyFrom_65 : decode cX0_copyFrom 65 = .ok (.aload_n 1, 1) := by decide +kernel
theorem dX0_copyFrom_66 : decode cX0_copyFrom 66 = .ok (.getfield 34, 3) := by decide +kernel
theorem dX0_copyFrom_69 : decode cX0_copyFrom 69 = .ok (.putfield 34, 3) := by decide +kernel
theorem dX0_copyFrom_72 : decode cX0_copyFrom 72 = .ok (.aload_n 0, 1) := by decide +kernel
theorem dX0_copyFrom_73 : decode cX0_copyFrom 73 = .ok (.aload_n 1, 1) := by decide +kernel
theorem dX0_copyFrom_74 : decode cX0_copyFrom 74 = .ok (.getfield 37, 3) := by decide +kernel
theorem dX0_copyFrom_77 : decode cX0_copyFrom 77 = .ok (.putfield 37, 3) := by decide +kernel
theorem dX0_copyFrom_80 : decode cX0_copyFrom 80 = .ok (.aload_n 0, 1) := by decide +kernel
theorem dX0_copyFrom_81 : decode cX0_copyFrom 81 = .ok (.aload_n 1, 1) := by decide +kernel
theorem dX0_copyFrom_82 : decode cX0_copyFrom 82 = .ok (.getfield 40, 3) := by decide +kernel
theorem dX0_copyFrom_85 : decode cX0_copyFrom 85 = .ok (.putfield 40, 3) := by decide +kernel
theorem dX0_copyFrom_88 : decode cX0_copyFrom 88 = .ok (.aload_n 0, 1) := by decide +kernel
theorem dX0_copyFrom_89 : decode cX0_copyFrom 89 = .ok (.aload_n 1, 1) := by decide +kernel
theorem dX0_copyFrom_90 : decode cX0_copyFrom 90 = .ok (.getfield 43, 3) := by decide +kernel
theorem dX0_copyFrom_93 : decode cX0_copyFrom 93 = .ok (.putfield 43, 3) := by decide +kernel
theorem dX0_copyFrom_96 : decode cX0_copyFrom 96 = .ok (.return_, 1) := by decide +kernel
theorem dX0_isFull_0 : decode cX0_isFull 0 = .ok (.aload_n 0, 1) := by decide +kernel
theorem dX0_isFull_1 : decode cX0_isFull 1 = .ok (.getfield 18, 3) := by decide +kernel
theorem dX0_isFull_4 : decode cX0_isFull 4 = .ok (.aload_n 0, 1) := by decide +kernel
theorem dX0_isFull_5 : decode cX0_isFull 5 = .ok (.getfield 9, 3) := by decide +kernel
theorem dX0_isFull_8 : decode cX0_isFull 8 = .ok (.if_icmp .lt 7, 3) := by decide +kernel
theorem dX0_isFull_11 : decode cX0_isFull 11 = .ok (.iconst 1, 1) := by decide +kernel
theorem dX0_isFull_12 : decode cX0_isFull 12 = .ok (.goto 4, 3) := by decide +kernel
theorem dX0_isFull_15 : decode cX0_isFull 15 = .ok (.iconst 0, 1) := by decide +kernel
theorem dX0_isFull_16 : decode cX0_isFull 16 = .ok (.ireturn, 1) := by decide +kernel
theorem dX0_tip_0 : decode cX0_tip 0 = .ok (.aload_n 0, 1) := by decide +kernel
theorem dX0_tip_1 : decode cX0_tip 1 = .ok (.getfield 18, 3) := by decide +kernel
theorem dX0_tip_4 : decode cX0_tip 4 = .ok (.istore_n 2, 1) := by decide +kernel
theorem dX0_tip_5 : decode cX0_tip 5 = .ok (.aload_n 0, 1) := by decide +kernel
theorem dX0_tip_6 : decode cX0_tip 6 = .ok (.getfield 9, 3) := by decide +kernel
theorem dX0_tip_9 : decode cX0_tip 9 = .ok (.ifCond .le 18, 3) := by decide +kernel
theorem dX0_tip_12 : decode cX0_tip 12 = .ok (.bipush 10, 2) := by decide +kernel
theorem dX0_tip_14 : decode cX0_tip 14 = .ok (.aload_n 0, 1) := by decide +kernel
theorem dX0_tip_15 : decode cX0_tip 15 = .ok (.getfield 18, 3) := by decide +kernel
theorem dX0_tip_18 : decode cX0_tip 18 = .ok (.imul, 1) := by decide +kernel
theorem dX0_tip_19 : decode cX0_tip 19 = .ok (.aload_n 0, 1) := by decide +kernel
theorem dX0_tip_20 : decode cX0_tip 20 = .ok (.getfield 9, 3) := by decide +kernel
theorem dX0_tip_23 : decode cX0_tip 23 = .ok (.idiv, 1) := by decide +kernel
theorem dX0_tip_24 : decode cX0_tip 24 = .ok (.goto 4, 3) := by decide +kernel
theorem dX0_tip_27 : decode cX0_tip 27 = .ok (.iconst 0, 1) := by decide +kernel
theorem dX0_tip_28 : decode cX0_tip 28 = .ok (.istore_n 3, 1) := by decide +kernel
theorem dX0_tip_29 : decode cX0_tip 29 = .ok (.aload_n 0, 1) := by decide +kernel
theorem dX0_tip_30 : decode cX0_tip 30 = .ok (.iload_n 3, 1) := by decide +kernel
theorem dX0_tip_31 : decode cX0_tip 31 = .ok (.bipush 30, 2) := by decide +kernel
theorem dX0_tip_33 : decode cX0_tip 33 = .ok (.if_icmp .ge 7, 3) := by decide +kernel
theorem dX0_tip_36 : decode cX0_tip 36 = .ok (.iload_n 3, 1) := by decide +kernel
theorem dX0_tip_37 : decode cX0_tip 37 = .ok (.goto 5, 3) := by decide +kernel
theorem dX0_tip_40 : decode cX0_tip 40 = .ok (.bipush 30, 2) := by decide +kernel
theorem dX0_tip_42 : decode cX0_tip 42 = .ok (.putfield 31, 3) := by decide +kernel
theorem dX0_tip_45 : decode cX0_tip 45 = .ok (.aload_n 0, 1) := by decide +kernel
theorem dX0_tip_46 : decode cX0_tip 46 = .ok (.iconst 0, 1) := by decide +kernel
theorem dX0_tip_47 : decode cX0_tip 47 = .ok (.putfield 18, 3) := by decide +kernel
theorem dX0_tip_50 : decode cX0_tip 50 = .ok (.aload_n 0, 1) := by decide +kernel
theorem dX0_tip_51 : decode cX0_tip 51 = .ok (.dup, 1) := by decide +kernel
theorem dX0_tip_52 : decode cX0_tip 52 = .ok (.getfield 34, 3) := by decide +kernel
theorem dX0_tip_55 : decode cX0_tip 55 = .ok (.iconst 1, 1) := by decide +kernel
theorem dX0_tip_56 : decode cX0_tip 56 = .ok (.iadd, 1) := by decide +kernel
theorem dX0_tip_57 : decode cX0_tip 57 = .ok (.putfield 34, 3) := by decide +kernel
theorem dX0_tip_60 : decode cX0_tip 60 = .ok (.aload_n 0, 1) := by decide +kernel
theorem dX0_tip_61 : decode cX0_tip 61 = .ok (.getfield 21, 3) := by decide +kernel
theorem dX0_tip_64 : decode cX0_tip 64 = .ok (.iconst (-1), 1) := by decide +kernel
theorem dX0_tip_65 : decode cX0_tip 65 = .ok (.if_icmp .ne 5, 3) := by decide +kernel
theorem dX0_tip_68 : decode cX0_tip 68 = .ok (.iload_n 2, 1) := by decide +kernel
theorem dX0_tip_69 : decode cX0_tip 69 = .ok (.ireturn, 1) := by decide +kernel
theorem dX0_tip_70 : decode cX0_tip 70 = .ok (.iload_n 1, 1) := by decide +kernel
theorem dX0_tip_71 : decode cX0_tip 71 = .ok (.aload_n 0, 1) := by decide +kernel
theorem dX0_tip_72 : decode cX0_tip 72 = .ok (.getfield 21, 3) := by decide +kernel
theorem dX0_tip_75 : decode cX0_tip 75 = .ok (.if_icmp .ne 16, 3) := by decide +kernel
theorem dX0_tip_78 : decode cX0_tip 78 = .ok (.aload_n 0, 1) := by decide +kernel
theorem dX0_tip_79 : decode cX0_tip 79 = .ok (.dup, 1) := by decide +kernel
theorem dX0_tip_80 : decode cX0_tip 80 = .ok (.getfield 37, 3) := by decide +kernel
theorem dX0_tip_83 : decode cX0_tip 83 = .ok (.iconst 1, 1) := by decide +kernel
theorem dX0_tip_84 : decode cX0_tip 84 = .ok (.iadd, 1) := by decide +kernel
theorem dX0_tip_85 : decode cX0_tip 85 = .ok (.putfield 37, 3) := by decide +kernel
theorem dX0_tip_88 : decode cX0_tip 88 = .ok (.goto 34, 3) := by decide +kernel
theorem dX0_tip_91 : decode cX0_tip 91 = .ok (.iload_n 1, 1) := by decide +kernel
theorem dX0_tip_92 : decode cX0_tip 92 = .ok (.aload_n 0, 1) := by decide +kernel
theorem dX0_tip_93 : decode cX0_tip 93 = .ok (.getfield 21, 3) := by decide +kernel
theorem dX0_tip_96 : decode cX0_tip 96 = .ok (.if_icmp .ge 16, 3) := by decide +kernel
theorem dX0_tip_99 : decode cX0_tip 99 = .ok (.aload_n 0, 1) := by decide +kernel
theorem dX0_tip_100 : decode cX0_tip 100 = .ok (.dup, 1) := by decide +kernel
theorem dX0_tip_101 : decode cX0_tip 101 = .ok (.getfield 40, 3) := by decide +kernel
theorem dX0_tip_104 : decode cX0_tip 104 = .ok (.iconst 1, 1) := by decide +kernel
theorem dX0_tip_105 : decode cX0_tip 105 = .ok (.iadd, 1) := by decide +kernel
theorem dX0_tip_106 : decode cX0_tip 106 = .ok (.putfield 40, 3) := by decide +kernel
theorem dX0_tip_109 : decode cX0_tip 109 = .ok (.goto 13, 3) := by decide +kernel
theorem dX0_tip_112 : decode cX0_tip 112 = .ok (.aload_n 0, 1) := by decide +kernel
theorem dX0_tip_113 : decode cX0_tip 113 = .ok (.dup, 1) := by decide +kernel
theorem dX0_tip_114 : decode cX0_tip 114 = .ok (.getfield 43, 3) := by decide +kernel
theorem dX0_tip_117 : decode cX0_tip 117 = .ok (.iconst 1, 1) := by decide +kernel
theorem dX0_tip_118 : decode cX0_tip 118 = .ok (.iadd, 1) := by decide +kernel
theorem dX0_tip_119 : decode cX0_tip 119 = .ok (.putfield 43, 3) := by decide +kernel
theorem dX0_tip_122 : decode cX0_tip 122 = .ok (.iload_n 2, 1) := by decide +kernel
theorem dX0_tip_123 : decode cX0_tip 123 = .ok (.ireturn, 1) := by decide +kernel
theorem dX0_runOver_0 : decode cX0_runOver 0 = .ok (.aload_n 0, 1) := by decide +kernel
theorem dX0_runOver_1 : decode cX0_runOver 1 = .ok (.getfield 18, 3) := by decide +kernel
theorem dX0_runOver_4 : decode cX0_runOver 4 = .ok (.sipush 9999, 3) := by decide +kernel
theorem dX0_runOver_7 : decode cX0_runOver 7 = .ok (.if_icmp .le 14, 3) := by decide +kernel
theorem dX0_runOver_10 : decode cX0_runOver 10 = .ok (.aload_n 0, 1) := by decide +kernel
theorem dX0_runOver_11 : decode cX0_runOver 11 = .ok (.getfield 18, 3) := by decide +kernel
theorem dX0_runOver_14 : decode cX0_runOver 14 = .ok (.sipush 9999, 3) := by decide +kernel
theorem dX0_runOver_17 : decode cX0_runOver 17 = .ok (.isub, 1) := by decide +kernel
theorem dX0_runOver_18 : decode cX0_runOver 18 = .ok (.goto 4, 3) := by decide +kernel
theorem dX0_runOver_21 : decode cX0_runOver 21 = .ok (.iconst 0, 1) := by decide +kernel
theorem dX0_runOver_22 : decode cX0_runOver 22 = .ok (.istore_n 1, 1) := by decide +kernel
theorem dX0_runOver_23 : decode cX0_runOver 23 = .ok (.aload_n 0, 1) := by decide +kernel
theorem dX0_runOver_24 : decode cX0_runOver 24 = .ok (.dup, 1) := by decide +kernel
theorem dX0_runOver_25 : decode cX0_runOver 25 = .ok (.getfield 18, 3) := by decide +kernel
theorem dX0_runOver_28 : decode cX0_runOver 28 = .ok (.iload_n 1, 1) := by decide +kernel
theorem dX0_runOver_29 : decode cX0_runOver 29 = .ok (.isub, 1) := by decide +kernel
theorem dX0_runOver_30 : decode cX0_runOver 30 = .ok (.putfield 18, 3) := by decide +kernel
theorem dX0_runOver_33 : decode cX0_runOver 33 = .ok (.iload_n 1, 1) := by decide +kernel
theorem dX0_runOver_34 : decode cX0_runOver 34 = .ok (.ireturn, 1) := by decide +kernel
theorem dX0_drip_0 : decode cX0_drip 0 = .ok (.aload_n 0, 1) := by decide +kernel
theorem dX0_drip_1 : decode cX0_drip 1 = .ok (.getfield 18, 3) := by decide +kernel
theorem dX0_drip_4 : decode cX0_drip 4 = .ok (.aload_n 0, 1) := by decide +kernel
theorem dX0_drip_5 : decode cX0_drip 5 = .ok (.getfield 15, 3) := by decide +kernel
theorem dX0_drip_8 : decode cX0_drip 8 = .ok (.invokestatic 52, 3) := by decide +kernel
theorem dX0_drip_11 : decode cX0_drip 11 = .ok (.istore_n 1, 1) := by decide +kernel
theorem dX0_drip_12 : decode cX0_drip 12 = .ok (.aload_n 0, 1) := by decide +kernel
theorem dX0_drip_13 : decode cX0_drip 13 = .ok (.dup, 1) := by decide +kernel
theorem dX0_drip_14 : decode cX0_drip 14 = .ok (.getfield 18, 3) := by decide +kernel
theorem dX0_drip_17 : decode cX0_drip 17 = .ok (.iload_n 1, 1) := by decide +kernel
theorem dX0_drip_18 : decode cX0_drip 18 = .ok (.isub, 1) := by decide +kernel
theorem dX0_drip_19 : decode cX0_drip 19 = .ok (.putfield 18, 3) := by decide +kernel
theorem dX0_drip_22 : decode cX0_drip 22 = .ok (.iload_n 1, 1) := by decide +kernel
theorem dX0_drip_23 : decode cX0_drip 23 = .ok (.ireturn, 1) := by decide +kernel
theorem dX0_tell_0 : decode cX0_tell 0 = .ok (.iload_n 1, 1) := by decide +kernel
theorem dX0_tell_1 : decode cX0_tell 1 = .ok (.tableswitch 142 0 11 #[63, 68, 73, 78, 83, 101, 109, 117, 122, 127, 132, 137], 63) := by decide +kernel
theorem dX0_tell_64 : decode cX0_tell 64 = .ok (.aload_n 0, 1) := by decide +kernel
theorem dX0_tell_65 : decode cX0_tell 65 = .ok (.getfield 9, 3) := by decide +kernel
theorem dX0_tell_68 : decode cX0_tell 68 = .ok (.ireturn, 1) := by decide +kernel
theorem dX0_tell_69 : decode cX0_tell 69 = .ok (.aload_n 0, 1) := by decide +kernel
theorem dX0_tell_70 : decode cX0_tell 70 = .ok (.getfield 15, 3) := by decide +kernel
theorem dX0_tell_73 : decode cX0_tell 73 = .ok (.ireturn, 1) := by decide +kernel
theorem dX0_tell_74 : decode cX0_tell 74 = .ok (.aload_n 0, 1) := by decide +kernel
theorem dX0_tell_75 : decode cX0_tell 75 = .ok (.getfield 49, 3) := by decide +kernel
theorem dX0_tell_78 : decode cX0_tell 78 = .ok (.ireturn, 1) := by decide +kernel
theorem dX0_tell_79 : decode cX0_tell 79 = .ok (.aload_n 0, 1) := by decide +kernel
theorem dX0_tell_80 : decode cX0_tell 80 = .ok (.getfield 18, 3) := by decide +kernel
theorem dX0_tell_83 : decode cX0_tell 83 = .ok (.ireturn, 1) := by decide +kernel
theorem dX0_tell_84 : decode cX0_tell 84 = .ok (.aload_n 0, 1) := by decide +kernel
theorem dX0_tell_85 : decode cX0_tell 85 = .ok (.getfield 21, 3) := by decide +kernel
theorem dX0_tell_88 : decode cX0_tell 88 = .ok (.iconst (-1), 1) := by decide +kernel
theorem dX0_tell_89 : decode cX0_tell 89 = .ok (.if_icmp .ne 8, 3) := by decide +kernel
theorem dX0_tell_92 : decode cX0_tell 92 = .ok (.bipush (-5), 2) := by decide +kernel
theorem dX0_tell_94 : decode cX0_tell 94 = .ok (.goto 7, 3) := by decide +kernel
theorem dX0_tell_97 : decode cX0_tell 97 = .ok (.aload_n 0, 1) := by decide +kernel
theorem dX0_tell_98 : decode cX0_tell 98 = .ok (.getfield 21, 3) := by decide +kernel
theorem dX0_tell_101 : decode cX0_tell 101 = .ok (.ireturn, 1) := by decide +kernel
theorem dX0_tell_102 : decode cX0_tell 102 = .ok (.aload_n 0, 1) := by decide +kernel
theorem dX0_tell_103 : decode cX0_tell 103 = .ok (.getfield 24, 3) := by decide +kernel
theorem dX0_tell_106 : decode cX0_tell 106 = .ok (.invokestatic 58, 3) := by decide +kernel
theorem dX0_tell_109 : decode cX0_tell 109 = .ok (.ireturn, 1) := by decide +kernel
theorem dX0_tell_110 : decode cX0_tell 110 = .ok (.aload_n 0, 1) := by decide +kernel
theorem dX0_tell_111 : decode cX0_tell 111 = .ok (.getfield 28, 3) := by decide +kernel
theorem dX0_tell_114 : decode cX0_tell 114 = .ok (.invokestatic 58, 3) := by decide +kernel
theorem dX0_tell_117 : decode cX0_tell 117 = .ok (.ireturn, 1) := by decide +kernel
theorem dX0_tell_118 : decode cX0_tell 118 = .ok (.aload_n 0, 1) := by decide +kernel
theorem dX0_tell_119 : decode cX0_tell 119 = .ok (.getfield 31, 3) := by decide +kernel
theorem dX0_tell_122 : decode cX0_tell 122 = .ok (.ireturn, 1) := by decide +kernel
theorem dX0_tell_123 : decode cX0_tell 123 = .ok (.aload_n 0, 1) := by decide +kernel
theorem dX0_tell_124 : decode cX0_tell 124 = .ok (.getfield 34, 3) := by decide +kernel
theorem dX0_tell_127 : decode cX0_tell 127 = .ok (.ireturn, 1) := by decide +kernel
theorem dX0_tell_128 : decode cX0_tell 128 = .ok (.aload_n 0, 1) := by decide +kernel
theorem dX0_tell_129 : decode cX0_tell 129 = .ok (.getfield 37, 3) := by decide +kernel
theorem dX0_tell_132 : decode cX0_tell 132 = .ok (.ireturn, 1) := by decide +kernel
theorem dX0_tell_133 : decode cX0_tell 133 = .ok (.aload_n 0, 1) := by decide +kernel
theorem dX0_tell_134 : decode cX0_tell 134 = .ok (.getfield 40, 3) := by decide +kernel
theorem dX0_tell_137 : decode cX0_tell 137 = .ok (.ireturn, 1) := by decide +kernel
theorem dX0_tell_138 : decode cX0_tell 138 = .ok (.aload_n 0, 1) := by decide +kernel
theorem dX0_tell_139 : decode cX0_tell 139 = .ok (.getfield 43, 3) := by decide +kernel
theorem dX0_tell_142 : decode cX0_tell 142 = .ok (.ireturn, 1) := by decide +kernel
theorem dX0_tell_143 : decode cX0_tell 143 = .ok (.bipush (-2), 2) := by decide +kernel
theorem dX0_tell_145 : decode cX0_tell 145 = .ok (.ireturn, 1) := by decide +kernel
theorem dX1_init_0 : decode cX1_init 0 = .ok (.aload_n 0, 1) := by decide +kernel
theorem dX1_init_1 : decode cX1_init 1 = .ok (.invokespecial 3, 3) := by decide +kernel
theorem dX1_init_4 : decode cX1_init 4 = .ok (.aload_n 0, 1) := by decide +kernel
theorem dX1_init_5 : decode cX1_init 5 = .ok (.bipush 60, 2) := by decide +kernel
theorem dX1_init_7 : decode cX1_init 7 = .ok (.newarray .char, 2) := by decide +kernel
theorem dX1_init_9 : decode cX1_init 9 = .ok (.putfield 9, 3) := by decide +kernel
theorem dX1_init_12 : decode cX1_init 12 = .ok (.aload_n 0, 1) := by decide +kernel
theorem dX1_init_13 : decode cX1_init 13 = .ok (.iconst 0, 1) := by decide +kernel
theorem dX1_init_14 : decode cX1_init 14 = .ok (.putfield 15, 3) := by decide +kernel
theorem dX1_init_17 : decode cX1_init 17 = .ok (.aload_n 0, 1) := by decide +kernel
theorem dX1_init_18 : decode cX1_init 18 = .ok (.bipush 60, 2) := by decide +kernel
theorem dX1_init_20 : decode cX1_init 20 = .ok (.newarray .int, 2) := by decide +kernel
theorem dX1_init_22 : decode cX1_init 22 = .ok (.putfield 19, 3) := by decide +kernel
theorem dX1_init_25 : decode cX1_init 25 = .ok (.aload_n 0, 1) := by decide +kernel
theorem dX1_init_26 : decode cX1_init 26 = .ok (.bipush 60, 2) := by decide +kernel
theorem dX1_init_28 : decode cX1_init 28 = .ok (.newarray .int, 2) := by decide +kernel
theorem dX1_init_30 : decode cX1_init 30 = .ok (.putfield 23, 3) := by decide +kernel
theorem dX1_init_33 : decode cX1_init 33 = .ok (.aload_n 0, 1) := by decide +kernel
theorem dX1_init_34 : decode cX1_init 34 = .ok (.bipush 60, 2) := by decide +kernel
theorem dX1_init_36 : decode cX1_init 36 = .ok (.newarray .int, 2) := by decide +kernel
theorem dX1_init_38 : decode cX1_init 38 = .ok (.putfield 26, 3) := by decide +kernel
theorem dX1_init_41 : decode cX1_init 41 = .ok (.aload_n 0, 1) := by decide +kernel
theorem dX1_init_42 : decode cX1_init 42 = .ok (.iconst 0, 1) := by decide +kernel
theorem dX1_init_43 : decode cX1_init 43 = .ok (.putfield 29, 3) := by decide +kernel
theorem dX1_init_46 : decode cX1_init 46 = .ok (.aload_n 0, 1) := by decide +kernel
theorem dX1_init_47 : decode cX1_init 47 = .ok (.iconst 0, 1) := by decide +kernel
theorem dX1_init_48 : decode cX1_init 48 = .ok (.putfield 32, 3) := by decide +kernel
theorem dX1_init_51 : decode cX1_init 51 = .ok (.return_, 1) := by decide +kernel
theorem dX2_init_0 : decode cX2_init 0 = .ok (.aload_n 0, 1) := by decide +kernel
theorem dX2_init_1 : decode cX2_init 1 = .ok (.invokespecial 3, 3) := by decide +kernel
theorem dX2_init_4 : decode cX2_init 4 = .ok (.aload_n 0, 1) := by decide +kernel
theorem dX2_init_5 : decode cX2_init 5 = .ok (.bipush 8, 2) := by decide +kernel
theorem dX2_init_7 : decode cX2_init 7 = .ok (.anewarray 9, 3) := by decide +kernel
theorem dX2_init_10 : decode cX2_init 10 = .ok (.putfield 11, 3) := by decide +kernel
theorem dX2_init_13 : decode cX2_init 13 = .ok (.aload_n 0, 1) := by decide +kernel
theorem dX2_init_14 : decode cX2_init 14 = .ok (.iconst 0, 1) := by decide +kernel
theorem dX2_init_15 : decode cX2_init 15 = .ok (.putfield 17, 3) := by decide +kernel
theorem dX2_init_18 : decode cX2_init 18 = .ok (.aload_n 0, 1) := by decide +kernel
theorem dX2_init_19 : decode cX2_init 19 = .ok (.iconst 3, 1) := by decide +kernel
theorem dX2_init_20 : decode cX2_init 20 = .ok (.putfield 21, 3) := by decide +kernel
theorem dX2_init_23 : decode cX2_init 23 = .ok (.aload_n 0, 1) := by decide +kernel
theorem dX2_init_24 : decode cX2_init 24 = .ok (.iconst 0, 1) := by decide +kernel
theorem dX2_init_25 : decode cX2_init 25 = .ok (.putfield 24, 3) := by decide +kernel
theorem dX2_init_28 : decode cX2_init 28 = .ok (.aload_n 0, 1) := by decide +kernel
theorem dX2_init_29 : decode cX2_init 29 = .ok (.bipush 24, 2) := by decide +kernel
theorem dX2_init_31 : decode cX2_init 31 = .ok (.putfield 27, 3) := by decide +kernel
theorem dX2_init_34 : decode cX2_init 34 = .ok (.aload_n 0, 1) := by decide +kernel
theorem dX2_init_35 : decode cX2_init 35 = .ok (.iconst 0, 1) := by decide +kernel
theorem dX2_init_36 : decode cX2_init 36 = .ok (.putfield 30, 3) := by decide +kernel
theorem dX2_init_39 : decode cX2_init 39 = .ok (.aload_n 0, 1) := by decide +kernel
theorem dX2_init_40 : decode cX2_init 40 = .ok (.iconst 0, 1) := by decide +kernel
theorem dX2_init_41 : decode cX2_init 41 = .ok (.putfield 33, 3) := by decide +kernel
theorem dX2_init_44 : decode cX2_init 44 = .ok (.aload_n 0, 1) := by decide +kernel
theorem dX2_init_45 : decode cX2_init 45 = .ok (.iconst 0, 1) := by decide +kernel
theorem dX2_init_46 : decode cX2_init 46 = .ok (.putfield 36, 3) := by decide +kernel
theorem dX2_init_49 : decode cX2_init 49 = .ok (.aload_n 0, 1) := by decide +kernel
theorem dX2_init_50 : decode cX2_init 50 = .ok (.iconst 0, 1) := by decide +kernel
theorem dX2_init_51 : decode cX2_init 51 = .ok (.putfield 39, 3) := by decide +kernel
theorem dX2_init_54 : decode cX2_init 54 = .ok (.iconst 0, 1) := by decide +kernel
theorem dX2_init_55 : decode cX2_init 55 = .ok (.istore_n 1, 1) := by decide +kernel
theorem dX2_init_56 : decode cX2_init 56 = .ok (.iload_n 1, 1) := by decide +kernel
theorem dX2_init_57 : decode cX2_init 57 = .ok (.bipush 8, 2) := by decide +kernel
theorem dX2_init_59 : decode cX2_init 59 = .ok (.if_icmp .ge 25, 3) := by decide +kernel
theorem dX2_init_62 : decode cX2_init 62 = .ok (.aload_n 0, 1) := by decide +kernel
theorem dX2_init_63 : decode cX2_init 63 = .ok (.getfield 11, 3) := by decide +kernel
theorem dX2_init_66 : decode cX2_init 66 = .ok (.iload_n 1, 1) := by decide +kernel
theorem dX2_init_67 : decode cX2_init 67 = .ok (.new 9, 3) := by decide +kernel
theorem dX2_init_70 : decode cX2_init 70 = .ok (.dup, 1) := by decide +kernel
theorem dX2_init_71 : decode cX2_init 71 = .ok (.iload_n 1, 1) := by decide +kernel
theorem dX2_init_72 : decode cX2_init 72 = .ok (.iconst 1, 1) := by decide +kernel
theorem dX2_init_73 : decode cX2_init 73 = .ok (.iadd, 1) := by decide +kernel
theorem dX2_init_74 : decode cX2_init 74 = .ok (.invokespecial 42, 3) := by decide +kernel
theorem dX2_init_77 : decode cX2_init 77 = .ok (.aastore, 1) := by decide +kernel
theorem dX2_init_78 : decode cX2_init 78 = .ok (.iinc 1 1, 3) := by decide +kernel
theorem dX2_init_81 : decode cX2_init 81 = .ok (.goto (-25), 3) := by decide +kernel
theorem dX2_init_84 : decode cX2_init 84 = .ok (.return_, 1) := by decide +kernel
theorem dX2_copyFrom_0 : decode cX2_copyFrom 0 = .ok (.iconst 0, 1) := by decide +kernel
theorem dX2_copyFrom_1 : decode cX2_copyFrom 1 = .ok (.istore_n 2, 1) := by decide +kernel
theorem dX2_copyFrom_2 : decode cX2_copyFrom 2 = .ok (.iload_n 2, 1) := by decide +kernel
theorem dX2_copyFrom_3 : decode cX2_copyFrom 3 = .ok (.bipush 8, 2) := by decide +kernel
theorem dX2_copyFrom_5 : decode cX2_copyFrom 5 = .ok (.if_icmp .ge 24, 3) := by decide +kernel
theorem dX2_copyFrom_8 : decode cX2_copyFrom 8 = .ok (.aload_n 0, 1) := by decide +kernel
theorem dX2_copyFrom_9 : decode cX2_copyFrom 9 = .ok (.getfield 11, 3) := by decide +kernel
theorem dX2_copyFrom_12 : decode cX2_copyFrom 12 = .ok (.iload_n 2, 1) := by decide +kernel
theorem dX2_copyFrom_13 : decode cX2_copyFrom 13 = .ok (.aaload, 1) := by decide +kernel
theorem dX2_copyFrom_14 : decode cX2_copyFrom 14 = .ok (.aload_n 1, 1) := by decide +kernel
theorem dX2_copyFrom_15 : decode cX2_copyFrom 15 = .ok (.getfield 11, 3) := by decide +kernel
theorem dX2_copyFrom_18 : decode cX2_copyFrom 18 = .ok (.iload_n 2, 1) := by decide +kernel
theorem dX2_copyFrom_19 : decode cX2_copyFrom 19 = .ok (.aaload, 1) := by decide +kernel
theorem dX2_copyFrom_20 : decode cX2_copyFrom 20 = .ok (.invokevirtual 45, 3) := by decide +kernel
theorem dX2_copyFrom_23 : decode cX2_copyFrom 23 = .ok (.iinc 2 1, 3) := by decide +kernel
theorem dX2_copyFrom_26 : decode cX2_copyFrom 26 = .ok (.goto (-24), 3) := by decide +kernel
theorem dX2_copyFrom_29 : decode cX2_copyFrom 29 = .ok (.aload_n 0, 1) := by decide +kernel
theorem dX2_copyFrom_30 : decode cX2_copyFrom 30 = .ok (.aload_n 1, 1) := by decide +kernel
theorem dX2_copyFrom_31 : decode cX2_copyFrom 31 = .ok (.getfield 17, 3) := by decide +kernel
theorem dX2_copyFrom_34 : decode cX2_copyFrom 34 = .ok (.putfield 17, 3) := by decide +kernel
theorem dX2_copyFrom_37 : decode cX2_copyFrom 37 = .ok (.aload_n 0, 1) := by decide +kernel
theorem dX2_copyFrom_38 : decode cX2_copyFrom 38 = .ok (.aload_n 1, 1) := by decide +kernel
theorem dX2_copyFrom_39 : decode cX2_copyFrom 39 = .ok (.getfield 21, 3) := by decide +kernel
theorem dX2_copyFrom_42 : decode cX2_copyFrom 42 = .ok (.putfield 21, 3) := by decide +kernel
theorem dX2_copyFrom_45 : decode cX2_copyFrom 45 = .ok (.aload_n 0, 1) := by decide +kernel
theorem dX2_copyFrom_46 : decode cX2_copyFrom 46 = .ok (.aload_n 1, 1) := by decide +kernel
theorem dX2_copyFrom_47 : decode cX2_copyFrom 47 = .ok (.getfield 24, 3) := by decide +kernel
theorem dX2_copyFrom_50 : decode cX2_copyFrom 50 = .ok (.putfield 24, 3) := by decide +kernel
theorem dX2_copyFrom_53 : decode cX2_copyFrom 53 = .ok (.aload_n 0, 1) := by decide +kernel
theorem dX2_copyFrom_54 : decode cX2_copyFrom 54 = .ok (.aload_n 1, 1) := by decide +kernel
theorem dX2_copyFrom_55 : decode cX2_copyFrom 55 = .ok (.getfield 27, 3) := by decide +kernel
theorem dX2_copyFrom_58 : decode cX2_copyFrom 58 = .ok (.putfield 27, 3) := by decide +kernel
theorem dX2_copyFrom_61 : decode cX2_copyFrom 61 = .ok (.aload_n 0, 1) := by decide +kernel
theorem dX2_copyFrom_62 : decode cX2_copyFrom 62 = .ok (.aload_n 1, 1) := by decide +kernel
theorem dX2_copyFrom_63 : decode cX2_copyFrom 63 = .ok (.getfield 30, 3) := by decide +kernel
theorem dX2_copyFrom_66 : decode cX2_copyFrom 66 = .ok (.putfield 30, 3) := by decide +kernel
theorem dX2_copyFrom_69 : decode cX2_copyFrom 69 = .ok (.aload_n 0, 1) := by decide +kernel
theorem dX2_copyFrom_70 : decode cX2_copyFrom 70 = .ok (.aload_n 1, 1) := by decide +kernel
theorem dX2_copyFrom_71 : decode cX2_copyFrom 71 = .ok (.getfield 33, 3) := by decide +kernel
theorem dX2_copyFrom_74 : decode cX2_copyFrom 74 = .ok (.putfield 33, 3) := by decide +kernel
theorem dX2_copyFrom_77 : decode cX2_copyFrom 77 = .ok (.aload_n 0, 1) := by decide +kernel
theorem dX2_copyFrom_78 : decode cX2_copyFrom 78 = .ok (.aload_n 1, 1) := by decide +kernel
theorem dX2_copyFrom_79 : decode cX2_copyFrom 79 = .ok (.getfield 36, 3) := by decide +kernel
theorem dX2_copyFrom_82 : decode cX2_copyFrom 82 = .ok (.putfield 36, 3) := by decide +kernel
theorem dX2_copyFrom_85 : decode cX2_copyFrom 85 = .ok (.aload_n 0, 1) := by decide +kernel
theorem dX2_copyFrom_86 : decode cX2_copyFrom 86 = .ok (.aload_n 1, 1) := by decide +kernel
theorem dX2_copyFrom_87 : decode cX2_copyFrom 87 = .ok (.getfield 39, 3) := by decide +kernel
theorem dX2_copyFrom_90 : decode cX2_copyFrom 90 = .ok (.putfield 39, 3) := by decide +kernel
theorem dX2_copyFrom_93 : decode cX2_copyFrom 93 = .ok (.return_, 1) := by decide +kernel
theorem dX2_find_0 : decode cX2_find 0 = .ok (.iload_n 1, 1) := by decide +kernel
theorem dX2_find_1 : decode cX2_find 1 = .ok (.ifCond .lt 18, 3) := by decide +kernel
theorem dX2_find_4 : decode cX2_find 4 = .ok (.iload_n 1, 1) := by decide +kernel
theorem dX2_find_5 : decode cX2_find 5 = .ok (.bipush 8, 2) := by decide +kernel
theorem dX2_find_7 : decode cX2_find 7 = .ok (.if_icmp .ge 12, 3) := by decide +kernel
theorem dX2_find_10 : decode cX2_find 10 = .ok (.aload_n 0, 1) := by decide +kernel
theorem dX2_find_11 : decode cX2_find 11 = .ok (.getfield 11, 3) := by decide +kernel
theorem dX2_find_14 : decode cX2_find 14 = .ok (.iload_n 1, 1) := by decide +kernel
theorem dX2_find_15 : decode cX2_find 15 = .ok (.aaload, 1) := by decide +kernel
theorem dX2_find_16 : decode cX2_find 16 = .ok (.goto 4, 3) := by decide +kernel
theorem dX2_find_19 : decode cX2_find 19 = .ok (.aconst_null, 1) := by decide +kernel
theorem dX2_find_20 : decode cX2_find 20 = .ok (.areturn, 1) := by decide +kernel
theorem dX2_hourOf_0 : decode cX2_hourOf 0 = .ok (.aload_n 0, 1) := by decide +kernel
theorem dX2_hourOf_1 : decode cX2_hourOf 1 = .ok (.getfield 27, 3) := by decide +kernel
theorem dX2_hourOf_4 : decode cX2_hourOf 4 = .ok (.ifCond .le 12, 3) := by decide +kernel
theorem dX2_hourOf_7 : decode cX2_hourOf 7 = .ok (.iload_n 1, 1) := by decide +kernel
theorem dX2_hourOf_8 : decode cX2_hourOf 8 = .ok (.aload_n 0, 1) := by decide +kernel
theorem dX2_hourOf_9 : decode cX2_hourOf 9 = .ok (.getfield 27, 3) := by decide +kernel
theorem dX2_hourOf_12 : decode cX2_hourOf 12 = .ok (.irem, 1) := by decide +kernel
theorem dX2_hourOf_13 : decode cX2_hourOf 13 = .ok (.goto 4, 3) := by decide +kernel
theorem dX2_hourOf_16 : decode cX2_hourOf 16 = .ok (.iconst 0, 1) := by decide +kernel
theorem dX2_hourOf_17 : decode cX2_hourOf 17 = .ok (.ireturn, 1) := by decide +kernel
theorem dX2_changeCup_0 : decode cX2_changeCup 0 = .ok (.aload_n 0, 1) := by decide +kernel
theorem dX2_changeCup_1 : decode cX2_changeCup 1 = .ok (.iload_n 1, 1) := by decide +kernel
theorem dX2_changeCup_2 : decode cX2_changeCup 2 = .ok (.invokevirtual 49, 3) := by decide +kernel
theorem dX2_changeCup_5 : decode cX2_changeCup 5 = .ok (.astore 4, 2) := by decide +kernel
theorem dX2_changeCup_7 : decode cX2_changeCup 7 = .ok (.aload 4, 2) := by decide +kernel
theorem dX2_changeCup_9 : decode cX2_changeCup 9 = .ok (.ifnonnull 5, 3) := by decide +kernel
theorem dX2_changeCup_12 : decode cX2_changeCup 12 = .ok (.iconst (-1), 1) := by decide +kernel
theorem dX2_changeCup_13 : decode cX2_changeCup 13 = .ok (.ireturn, 1) := by decide +kernel
theorem dX2_changeCup_14 : decode cX2_changeCup 14 = .ok (.iload_n 1, 1) := by decide +kernel
theorem dX2_changeCup_15 : decode cX2_changeCup 15 = .ok (.iload_n 2, 1) := by decide +kernel
theorem dX2_changeCup_16 : decode cX2_changeCup 16 = .ok (.iload_n 3, 1) := by decide +kernel
theorem dX2_changeCup_17 : decode cX2_changeCup 17 = .ok (.invokestatic 53, 3) := by decide +kernel
theorem dX2_changeCup_20 : decode cX2_changeCup 20 = .ok (.ifCond .ne 6, 3) := by decide +kernel
theorem dX2_changeCup_23 : decode cX2_changeCup 23 = .ok (.bipush (-2), 2) := by decide +kernel
theorem dX2_changeCup_25 : decode cX2_changeCup 25 = .ok (.ireturn, 1) := by decide +kernel
theorem dX2_changeCup_26 : decode cX2_changeCup 26 = .ok (.aload 4, 2) := by decide +kernel
theorem dX2_changeCup_28 : decode cX2_changeCup 28 = .ok (.iload_n 2, 1) := by decide +kernel
theorem dX2_changeCup_29 : decode cX2_changeCup 29 = .ok (.invokevirtual 57, 3) := by decide +kernel
theorem dX2_changeCup_32 : decode cX2_changeCup 32 = .ok (.istore 5, 2) := by decide +kernel
theorem dX2_changeCup_34 : decode cX2_changeCup 34 = .ok (.iload 5, 2) := by decide +kernel
theorem dX2_changeCup_36 : decode cX2_changeCup 36 = .ok (.iload_n 3, 1) := by decide +kernel
theorem dX2_changeCup_37 : decode cX2_changeCup 37 = .ok (.if_icmp .ne 6, 3) := by decide +kernel
theorem dX2_changeCup_40 : decode cX2_changeCup 40 = .ok (.bipush (-5), 2) := by decide +kernel
theorem dX2_changeCup_42 : decode cX2_changeCup 42 = .ok (.ireturn, 1) := by decide +kernel
theorem dX2_changeCup_43 : decode cX2_changeCup 43 = .ok (.iload_n 2, 1) := by decide +kernel
theorem dX2_changeCup_44 : decode cX2_changeCup 44 = .ok (.ifCond .ne 12, 3) := by decide +kernel
theorem dX2_changeCup_47 : decode cX2_changeCup 47 = .ok (.aload 4, 2) := by decide +kernel
theorem dX2_changeCup_49 : decode cX2_changeCup 49 = .ok (.iload_n 3, 1) := by decide +kernel
theorem dX2_changeCup_50 : decode cX2_changeCup 50 = .ok (.putfield 61, 3) := by decide +kernel
theorem dX2_changeCup_53 : decode cX2_changeCup 53 = .ok (.goto 23, 3) := by decide +kernel
theorem dX2_changeCup_56 : decode cX2_changeCup 56 = .ok (.iload_n 2, 1) := by decide +kernel
theorem dX2_changeCup_57 : decode cX2_changeCup 57 = .ok (.iconst 1, 1) := by decide +kernel
theorem dX2_changeCup_58 : decode cX2_changeCup 58 = .ok (.if_icmp .ne 12, 3) := by decide +kernel
theorem dX2_changeCup_61 : decode cX2_changeCup 61 = .ok (.aload 4, 2) := by decide +kernel
theorem dX2_changeCup_63 : decode cX2_changeCup 63 = .ok (.iload_n 3, 1) := by decide +kernel
theorem dX2_changeCup_64 : decode cX2_changeCup 64 = .ok (.putfield 64, 3) := by decide +kernel
theorem dX2_changeCup_67 : decode cX2_changeCup 67 = .ok (.goto 9, 3) := by decide +kernel
theorem dX2_changeCup_70 : decode cX2_changeCup 70 = .ok (.aload 4, 2) := by decide +kernel
theorem dX2_changeCup_72 : decode cX2_changeCup 72 = .ok (.iload_n 3, 1) := by decide +kernel
theorem dX2_changeCup_73 : decode cX2_changeCup 73 = .ok (.putfield 67, 3) := by decide +kernel
theorem dX2_changeCup_76 : decode cX2_changeCup 76 = .ok (.iload 5, 2) := by decide +kernel
theorem dX2_changeCup_78 : decode cX2_changeCup 78 = .ok (.ireturn, 1) := by decide +kernel
theorem dX2_isCupValue_0 : decode cX2_isCupValue 0 = .ok (.iload_n 1, 1) := by decide +kernel
theorem dX2_isCupValue_1 : decode cX2_isCupValue 1 = .ok (.tableswitch 53 0 2 #[27, 35, 43], 27) := by decide +kernel
theorem dX2_isCupValue_28 : decode cX2_isCupValue 28 = .ok (.iload_n 2, 1) := by decide +kernel
theorem dX2_isCupValue_29 : decode cX2_isCupValue 29 = .ok (.iconst 1, 1) := by decide +kernel
theorem dX2_isCupValue_30 : decode cX2_isCupValue 30 = .ok (.bipush 99, 2) := by decide +kernel
theorem dX2_isCupValue_32 : decode cX2_isCupValue 32 = .ok (.invokestatic 70, 3) := by decide +kernel
theorem dX2_isCupValue_35 : decode cX2_isCupValue 35 = .ok (.ireturn, 1) := by decide +kernel
theorem dX2_isCupValue_36 : decode cX2_isCupValue 36 = .ok (.iload_n 2, 1) := by decide +kernel
theorem dX2_isCupValue_37 : decode cX2_isCupValue 37 = .ok (.iconst 0, 1) := by decide +kernel
theorem dX2_isCupValue_38 : decode cX2_isCupValue 38 = .ok (.bipush 9, 2) := by decide +kernel
theorem dX2_isCupValue_40 : decode cX2_isCupValue 40 = .ok (.invokestatic 70, 3) := by decide +kernel
theorem dX2_isCupValue_43 : decode cX2_isCupValue 43 = .ok (.ireturn, 1) := by decide +kernel
theorem dX2_isCupValue_44 : decode cX2_isCupValue 44 = .ok (.iload_n 2, 1) := by decide +kernel
theorem dX2_isCupValue_45 : decode cX2_isCupValue 45 = .ok (.iload_n 0, 1) := by decide +kernel
theorem dX2_isCupValue_46 : decode cX2_isCupValue 46 = .ok (.iconst 1, 1) := by decide +kernel
theorem dX2_isCupValue_47 : decode cX2_isCupValue 47 = .ok (.iadd, 1) := by decide +kernel
theorem dX2_isCupValue_48 : decode cX2_isCupValue 48 = .ok (.bipush 8, 2) := by decide +kernel
theorem dX2_isCupValue_50 : decode cX2_isCupValue 50 = .ok (.invokestatic 70, 3) := by decide +kernel
theorem dX2_isCupValue_53 : decode cX2_isCupValue 53 = .ok (.ireturn, 1) := by decide +kernel
theorem dX2_isCupValue_54 : decode cX2_isCupValue 54 = .ok (.iconst 0, 1) := by decide +kernel
theorem dX2_isCupValue_55 : decode cX2_isCupValue 55 = .ok (.ireturn, 1) := by decide +kernel
theorem dX2_changeLock_0 : decode cX2_changeLock 0 = .ok (.aload_n 0, 1) := by decide +kernel
theorem dX2_changeLock_1 : decode cX2_changeLock 1 = .ok (.iload_n 1, 1) := by decide +kernel
theorem dX2_changeLock_2 : decode cX2_changeLock 2 = .ok (.invokevirtual 49, 3) := by decide +kernel
theorem dX2_changeLock_5 : decode cX2_changeLock 5 = .ok (.astore_n 2, 1) := by decide +kernel
theorem dX2_changeLock_6 : decode cX2_changeLock 6 = .ok (.aload_n 2, 1) := by decide +kernel
theorem dX2_changeLock_7 : decode cX2_changeLock 7 = .ok (.ifnonnull 5, 3) := by decide +kernel
theorem dX2_changeLock_10 : decode cX2_changeLock 10 = .ok (.iconst (-1), 1) := by decide +kernel
theorem dX2_changeLock_11 : decode cX2_changeLock 11 = .ok (.ireturn, 1) := by decide +kernel
theorem dX2_changeLock_12 : decode cX2_changeLock 12 = .ok (.aload_n 2, 1) := by decide +kernel
theorem dX2_changeLock_13 : decode cX2_changeLock 13 = .ok (.getfield 73, 3) := by decide +kernel
theorem dX2_changeLock_16 : decode cX2_changeLock 16 = .ok (.ifCond .eq 6, 3) := by decide +kernel
theorem dX2_changeLock_19 : decode cX2_changeLock 19 = .ok (.bipush (-4), 2) := by decide +kernel
theorem dX2_changeLock_21 : decode cX2_changeLock 21 = .ok (.ireturn, 1) := by decide +kernel
theorem dX2_changeLock_22 : decode cX2_changeLock 22 = .ok (.aload_n 2, 1) := by decide +kernel
theorem dX2_changeLock_23 : decode cX2_changeLock 23 = .ok (.aload_n 2, 1) := by decide +kernel
theorem dX2_changeLock_24 : decode cX2_changeLock 24 = .ok (.getfield 77, 3) := by decide +kernel
theorem dX2_changeLock_27 : decode cX2_changeLock 27 = .ok (.ifCond .ne 7, 3) := by decide +kernel
theorem dX2_changeLock_30 : decode cX2_changeLock 30 = .ok (.iconst 1, 1) := by decide +kernel
theorem dX2_changeLock_31 : decode cX2_changeLock 31 = .ok (.goto 4, 3) := by decide +kernel
theorem dX2_changeLock_34 : decode cX2_changeLock 34 = .ok (.iconst 0, 1) := by decide +kernel
theorem dX2_changeLock_35 : decode cX2_changeLock 35 = .ok (.putfield 77, 3) := by decide +kernel
theorem dX2_changeLock_38 : decode cX2_changeLock 38 = .ok (.aload_n 2, 1) := by decide +kernel
theorem dX2_changeLock_39 : decode cX2_changeLock 39 = .ok (.getfield 77, 3) := by decide +kernel
theorem dX2_changeLock_42 : decode cX2_changeLock 42 = .ok (.invokestatic 80, 3) := by decide +kernel
theorem dX2_changeLock_45 : decode cX2_changeLock 45 = .ok (.ireturn, 1) := by decide +kernel
theorem dX2_changeHour_0 : decode cX2_changeHour 0 = .ok (.aload_n 0, 1) := by decide +kernel
theorem dX2_changeHour_1 : decode cX2_changeHour 1 = .ok (.iload_n 1, 1) := by decide +kernel
theorem dX2_changeHour_2 : decode cX2_changeHour 2 = .ok (.invokevirtual 49, 3) := by decide +kernel
theorem dX2_changeHour_5 : decode cX2_changeHour 5 = .ok (.astore_n 3, 1) := by decide +kernel
theorem dX2_changeHour_6 : decode cX2_changeHour 6 = .ok (.aload_n 3, 1) := by decide +kernel
theorem dX2_changeHour_7 : decode cX2_changeHour 7 = .ok (.ifnonnull 5, 3) := by decide +kernel
theorem dX2_changeHour_10 : decode cX2_changeHour 10 = .ok (.iconst (-1), 1) := by decide +kernel
theorem dX2_changeHour_11 : decode cX2_changeHour 11 = .ok (.ireturn, 1) := by decide +kernel
theorem dX2_changeHour_12 : decode cX2_changeHour 12 = .ok (.iload_n 2, 1) := by decide +kernel
theorem dX2_changeHour_13 : decode cX2_changeHour 13 = .ok (.iconst (-1), 1) := by decide +kernel
theorem dX2_changeHour_14 : decode cX2_changeHour 14 = .ok (.sipush 239, 3) := by decide +kernel
theorem dX2_changeHour_17 : decode cX2_changeHour 17 = .ok (.invokestatic 70, 3) := by decide +kernel
theorem dX2_changeHour_20 : decode cX2_changeHour 20 = .ok (.ifCond .ne 6, 3) := by decide +kernel
theorem dX2_changeHour_23 : decode cX2_changeHour 23 = .ok (.bipush (-2), 2) := by decide +kernel
theorem dX2_changeHour_25 : decode cX2_changeHour 25 = .ok (.ireturn, 1) := by decide +kernel
theorem dX2_changeHour_26 : decode cX2_changeHour 26 = .ok (.aload_n 3, 1) := by decide +kernel
theorem dX2_changeHour_27 : decode cX2_changeHour 27 = .ok (.getfield 84, 3) := by decide +kernel
theorem dX2_changeHour_30 : decode cX2_changeHour 30 = .ok (.istore 4, 2) := by decide +kernel
theorem dX2_changeHour_32 : decode cX2_changeHour 32 = .ok (.iload 4, 2) := by decide +kernel
theorem dX2_changeHour_34 : decode cX2_changeHour 34 = .ok (.iload_n 2, 1) := by decide +kernel
theorem dX2_changeHour_35 : decode cX2_changeHour 35 = .ok (.if_icmp .ne 6, 3) := by decide +kernel
theorem dX2_changeHour_38 : decode cX2_changeHour 38 = .ok (.bipush (-5), 2) := by decide +kernel
theorem dX2_changeHour_40 : decode cX2_changeHour 40 = .ok (.ireturn, 1) := by decide +kernel
theorem dX2_changeHour_41 : decode cX2_changeHour 41 = .ok (.aload_n 3, 1) := by decide +kernel
theorem dX2_changeHour_42 : decode cX2_changeHour 42 = .ok (.iload_n 2, 1) := by decide +kernel
theorem dX2_changeHour_43 : decode cX2_changeHour 43 = .ok (.putfield 84, 3) := by decide +kernel
theorem dX2_changeHour_46 : decode cX2_changeHour 46 = .ok (.iload_n 2, 1) := by decide +kernel
theorem dX2_changeHour_47 : decode cX2_changeHour 47 = .ok (.iconst (-1), 1) := by decide +kernel
theorem dX2_changeHour_48 : decode cX2_changeHour 48 = .ok (.if_icmp .ne 13, 3) := by decide +kernel
theorem dX2_changeHour_51 : decode cX2_changeHour 51 = .ok (.aload_n 3, 1) := by decide +kernel
theorem dX2_changeHour_52 : decode cX2_changeHour 52 = .ok (.iconst 0, 1) := by decide +kernel
theorem dX2_changeHour_53 : decode cX2_changeHour 53 = .ok (.putfield 73, 3) := by decide +kernel
theorem dX2_changeHour_56 : decode cX2_changeHour 56 = .ok (.aload_n 3, 1) := by decide +kernel
theorem dX2_changeHour_57 : decode cX2_changeHour 57 = .ok (.iconst 1, 1) := by decide +kernel
theorem dX2_changeHour_58 : decode cX2_changeHour 58 = .ok (.putfield 77, 3) := by decide +kernel
theorem dX2_changeHour_61 : decode cX2_changeHour 61 = .ok (.iload 4, 2) := by decide +kernel
theorem dX2_changeHour_63 : decode cX2_changeHour 63 = .ok (.iconst (-1), 1) := by decide +kernel
theorem dX2_changeHour_64 : decode cX2_changeHour 64 = .ok (.if_icmp .ne 9, 3) := by decide +kernel
theorem dX2_changeHour_67 : decode cX2_changeHour 67 = .ok (.sipush 240, 3) := by decide +kernel
theorem dX2_changeHour_70 : decode cX2_changeHour 70 = .ok (.goto 5, 3) := by decide +kernel
theorem dX2_changeHour_73 : decode cX2_changeHour 73 = .ok (.iload 4, 2) := by decide +kernel
theorem dX2_changeHour_75 : decode cX2_changeHour 75 = .ok (.ireturn, 1) := by decide +kernel
theorem dX2_changeGuard_0 : decode cX2_changeGuard 0 = .ok (.aload_n 0, 1) := by decide +kernel
theorem dX2_changeGuard_1 : decode cX2_changeGuard 1 = .ok (.iload_n 1, 1) := by decide +kernel
theorem dX2_changeGuard_2 : decode cX2_changeGuard 2 = .ok (.invokevirtual 49, 3) := by decide +kernel
theorem dX2_changeGuard_5 : decode cX2_changeGuard 5 = .ok (.astore_n 2, 1) := by decide +kernel
theorem dX2_changeGuard_6 : decode cX2_changeGuard 6 = .ok (.aload_n 2, 1) := by decide +kernel
theorem dX2_changeGuard_7 : decode cX2_changeGuard 7 = .ok (.ifnonnull 5, 3) := by decide +kernel
theorem dX2_changeGuard_10 : decode cX2_changeGuard 10 = .ok (.iconst (-1), 1) := by decide +kernel
theorem dX2_changeGuard_11 : decode cX2_changeGuard 11 = .ok (.ireturn, 1) := by decide +kernel
theorem dX2_changeGuard_12 : decode cX2_changeGuard 12 = .ok (.aload_n 2, 1) := by decide +kernel
theorem dX2_changeGuard_13 : decode cX2_changeGuard 13 = .ok (.getfield 84, 3) := by decide +kernel
theorem dX2_changeGuard_16 : decode cX2_changeGuard 16 = .ok (.iconst (-1), 1) := by decide +kernel
theorem dX2_changeGuard_17 : decode cX2_changeGuard 17 = .ok (.if_icmp .ne 6, 3) := by decide +kernel
theorem dX2_changeGuard_20 : decode cX2_changeGuard 20 = .ok (.bipush (-4), 2) := by decide +kernel
theorem dX2_changeGuard_22 : decode cX2_changeGuard 22 = .ok (.ireturn, 1) := by decide +kernel
theorem dX2_changeGuard_23 : decode cX2_changeGuard 23 = .ok (.aload_n 2, 1) := by decide +kernel
theorem dX2_changeGuard_24 : decode cX2_changeGuard 24 = .ok (.aload_n 2, 1) := by decide +kernel
theorem dX2_changeGuard_25 : decode cX2_changeGuard 25 = .ok (.getfield 73, 3) := by decide +kernel
theorem dX2_changeGuard_28 : decode cX2_changeGuard 28 = .ok (.ifCond .ne 7, 3) := by decide +kernel
theorem dX2_changeGuard_31 : decode cX2_changeGuard 31 = .ok (.iconst 1, 1) := by decide +kernel
theorem dX2_changeGuard_32 : decode cX2_changeGuard 32 = .ok (.goto 4, 3) := by decide +kernel
theorem dX2_changeGuard_35 : decode cX2_changeGuard 35 = .ok (.iconst 0, 1) := by decide +kernel
theorem dX2_changeGuard_36 : decode cX2_changeGuard 36 = .ok (.putfield 73, 3) := by decide +kernel
theorem dX2_changeGuard_39 : decode cX2_changeGuard 39 = .ok (.aload_n 2, 1) := by decide +kernel
theorem dX2_changeGuard_40 : decode cX2_changeGuard 40 = .ok (.aload_n 2, 1) := by decide +kernel
theorem dX2_changeGuard_41 : decode cX2_changeGuard 41 = .ok (.getfield 73, 3) := by decide +kernel
theorem dX2_changeGuard_44 : decode cX2_changeGuard 44 = .ok (.ifCond .ne 7, 3) := by decide +kernel
theorem dX2_changeGuard_47 : decode cX2_changeGuard 47 = .ok (.iconst 1, 1) := by decide +kernel
theorem dX2_changeGuard_48 : decode cX2_changeGuard 48 = .ok (.goto 4, 3) := by decide +kernel
theorem dX2_changeGuard_51 : decode cX2_changeGuard 51 = .ok (.iconst 0, 1) := by decide +kernel
theorem dX2_changeGuard_52 : decode cX2_changeGuard 52 = .ok (.putfield 77, 3) := by decide +kernel
theorem dX2_changeGuard_55 : decode cX2_changeGuard 55 = .ok (.aload_n 2, 1) := by decide +kernel
theorem dX2_changeGuard_56 : decode cX2_changeGuard 56 = .ok (.getfield 73, 3) := by decide +kernel
theorem dX2_changeGuard_59 : decode cX2_changeGuard 59 = .ok (.invokestatic 80, 3) := by decide +kernel
theorem dX2_changeGuard_62 : decode cX2_changeGuard 62 = .ok (.ireturn, 1) := by decide +kernel
theorem dX2_pour_0 : decode cX2_pour 0 = .ok (.aload_n 0, 1) := by decide +kernel
theorem dX2_pour_1 : decode cX2_pour 1 = .ok (.iload_n 1, 1) := by decide +kernel
theorem dX2_pour_2 : decode cX2_pour 2 = .ok (.invokevirtual 49, 3) := by decide +kernel
theorem dX2_pour_5 : decode cX2_pour 5 = .ok (.astore_n 3, 1) := by decide +kernel
theorem dX2_pour_6 : decode cX2_pour 6 = .ok (.aload_n 3, 1) := by decide +kernel
theorem dX2_pour_7 : decode cX2_pour 7 = .ok (.ifnonnull 5, 3) := by decide +kernel
theorem dX2_pour_10 : decode cX2_pour 10 = .ok (.iconst (-1), 1) := by decide +kernel
theorem dX2_pour_11 : decode cX2_pour 11 = .ok (.ireturn, 1) := by decide +kernel
theorem dX2_pour_12 : decode cX2_pour 12 = .ok (.iload_n 2, 1) := by decide +kernel
theorem dX2_pour_13 : decode cX2_pour 13 = .ok (.iconst 1, 1) := by decide +kernel
theorem dX2_pour_14 : decode cX2_pour 14 = .ok (.bipush 99, 2) := by decide +kernel
theorem dX2_pour_16 : decode cX2_pour 16 = .ok (.invokestatic 70, 3) := by decide +kernel
theorem dX2_pour_19 : decode cX2_pour 19 = .ok (.ifCond .ne 6, 3) := by decide +kernel
theorem dX2_pour_22 : decode cX2_pour 22 = .ok (.bipush (-2), 2) := by decide +kernel
theorem dX2_pour_24 : decode cX2_pour 24 = .ok (.ireturn, 1) := by decide +kernel
theorem dX2_pour_25 : decode cX2_pour 25 = .ok (.aload_n 3, 1) := by decide +kernel
theorem dX2_pour_26 : decode cX2_pour 26 = .ok (.getfield 87, 3) := by decide +kernel
theorem dX2_pour_29 : decode cX2_pour 29 = .ok (.iload_n 2, 1) := by decide +kernel
theorem dX2_pour_30 : decode cX2_pour 30 = .ok (.iadd, 1) := by decide +kernel
theorem dX2_pour_31 : decode cX2_pour 31 = .ok (.sipush 9999, 3) := by decide +kernel
theorem dX2_pour_34 : decode cX2_pour 34 = .ok (.if_icmp .le 6, 3) := by decide +kernel
theorem dX2_pour_37 : decode cX2_pour 37 = .ok (.bipush (-3), 2) := by decide +kernel
theorem dX2_pour_39 : decode cX2_pour 39 = .ok (.ireturn, 1) := by decide +kernel
theorem dX2_pour_40 : decode cX2_pour 40 = .ok (.aload_n 3, 1) := by decide +kernel
theorem dX2_pour_41 : decode cX2_pour 41 = .ok (.dup, 1) := by decide +kernel
theorem dX2_pour_42 : decode cX2_pour 42 = .ok (.getfield 87, 3) := by decide +kernel
theorem dX2_pour_45 : decode cX2_pour 45 = .ok (.iload_n 2, 1) := by decide +kernel
theorem dX2_pour_46 : decode cX2_pour 46 = .ok (.iadd, 1) := by decide +kernel
theorem dX2_pour_47 : decode cX2_pour 47 = .ok (.putfield 87, 3) := by decide +kernel
theorem dX2_pour_50 : decode cX2_pour 50 = .ok (.aload_n 0, 1) := by decide +kernel
theorem dX2_pour_51 : decode cX2_pour 51 = .ok (.dup, 1) := by decide +kernel
theorem dX2_pour_52 : decode cX2_pour 52 = .ok (.getfield 39, 3) := by decide +kernel
theorem dX2_pour_55 : decode cX2_pour 55 = .ok (.iload_n 2, 1) := by decide +kernel
theorem dX2_pour_56 : decode cX2_pour 56 = .ok (.iadd, 1) := by decide +kernel
theorem dX2_pour_57 : decode cX2_pour 57 = .ok (.putfield 39, 3) := by decide +kernel
theorem dX2_pour_60 : decode cX2_pour 60 = .ok (.aload_n 3, 1) := by decide +kernel
theorem dX2_pour_61 : decode cX2_pour 61 = .ok (.getfield 87, 3) := by decide +kernel
theorem dX2_pour_64 : decode cX2_pour 64 = .ok (.ireturn, 1) := by decide +kernel
theorem dX2_changeSetting_0 : decode cX2_changeSetting 0 = .ok (.iload_n 1, 1) := by decide +kernel
theorem dX2_changeSetting_1 : decode cX2_changeSetting 1 = .ok (.iconst 0, 1) := by decide +kernel
theorem dX2_changeSetting_2 : decode cX2_changeSetting 2 = .ok (.iconst 2, 1) := by decide +kernel
theorem dX2_changeSetting_3 : decode cX2_changeSetting 3 = .ok (.invokestatic 70, 3) := by decide +kernel
theorem dX2_changeSetting_6 : decode cX2_changeSetting 6 = .ok (.ifCond .ne 5, 3) := by decide +kernel
theorem dX2_changeSetting_9 : decode cX2_changeSetting 9 = .ok (.iconst (-1), 1) := by decide +kernel
theorem dX2_changeSetting_10 : decode cX2_changeSetting 10 = .ok (.ireturn, 1) := by decide +kernel
theorem dX2_changeSetting_11 : decode cX2_changeSetting 11 = .ok (.iload_n 1, 1) := by decide +kernel
theorem dX2_changeSetting_12 : decode cX2_changeSetting 12 = .ok (.iconst 2, 1) := by decide +kernel
theorem dX2_changeSetting_13 : decode cX2_changeSetting 13 = .ok (.if_icmp .ne 17, 3) := by decide +kernel
theorem dX2_changeSetting_16 : decode cX2_changeSetting 16 = .ok (.iload_n 2, 1) := by decide +kernel
theorem dX2_changeSetting_17 : decode cX2_changeSetting 17 = .ok (.iconst 1, 1) := by decide +kernel
theorem dX2_changeSetting_18 : decode cX2_changeSetting 18 = .ok (.sipush 240, 3) := by decide +kernel
theorem dX2_changeSetting_21 : decode cX2_changeSetting 21 = .ok (.invokestatic 70, 3) := by decide +kernel
theorem dX2_changeSetting_24 : decode cX2_changeSetting 24 = .ok (.ifCond .ne 19, 3) := by decide +kernel
theorem dX2_changeSetting_27 : decode cX2_changeSetting 27 = .ok (.goto 13, 3) := by decide +kernel
theorem dX2_changeSetting_30 : decode cX2_changeSetting 30 = .ok (.iload_n 2, 1) := by decide +kernel
theorem dX2_changeSetting_31 : decode cX2_changeSetting 31 = .ok (.iconst 0, 1) := by decide +kernel
theorem dX2_changeSetting_32 : decode cX2_changeSetting 32 = .ok (.bipush 99, 2) := by decide +kernel
theorem dX2_changeSetting_34 : decode cX2_changeSetting 34 = .ok (.invokestatic 70, 3) := by decide +kernel
theorem dX2_changeSetting_37 : decode cX2_changeSetting 37 = .ok (.ifCond .ne 6, 3) := by decide +kernel
theorem dX2_changeSetting_40 : decode cX2_changeSetting 40 = .ok (.bipush (-2), 2) := by decide +kernel
theorem dX2_changeSetting_42 : decode cX2_changeSetting 42 = .ok (.ireturn, 1) := by decide +kernel
theorem dX2_changeSetting_43 : decode cX2_changeSetting 43 = .ok (.aload_n 0, 1) := by decide +kernel
theorem dX2_changeSetting_44 : decode cX2_changeSetting 44 = .ok (.iload_n 1, 1) := by decide +kernel
theorem dX2_changeSetting_45 : decode cX2_changeSetting 45 = .ok (.invokevirtual 90, 3) := by decide +kernel
theorem dX2_changeSetting_48 : decode cX2_changeSetting 48 = .ok (.istore_n 3, 1) := by decide +kernel
theorem dX2_changeSetting_49 : decode cX2_changeSetting 49 = .ok (.iload_n 3, 1) := by decide +kernel
theorem dX2_changeSetting_50 : decode cX2_changeSetting 50 = .ok (.iload_n 2, 1) := by decide +kernel
theorem dX2_changeSetting_51 : decode cX2_changeSetting 51 = .ok (.if_icmp .ne 6, 3) := by decide +kernel
theorem dX2_changeSetting_54 : decode cX2_changeSetting 54 = .ok (.bipush (-5), 2) := by decide +kernel
theorem dX2_changeSetting_56 : decode cX2_changeSetting 56 = .ok (.ireturn, 1) := by decide +kernel
theorem dX2_changeSetting_57 : decode cX2_changeSetting 57 = .ok (.iload_n 1, 1) := by decide +kernel
theorem dX2_changeSetting_58 : decode cX2_changeSetting 58 = .ok (.ifCond .ne 11, 3) := by decide +kernel
theorem dX2_changeSetting_61 : decode cX2_changeSetting 61 = .ok (.aload_n 0, 1) := by decide +kernel
theorem dX2_changeSetting_62 : decode cX2_changeSetting 62 = .ok (.iload_n 2, 1) := by decide +kernel
theorem dX2_changeSetting_63 : decode cX2_changeSetting 63 = .ok (.putfield 21, 3) := by decide +kernel
theorem dX2_changeSetting_66 : decode cX2_changeSetting 66 = .ok (.goto 21, 3) := by decide +kernel
theorem dX2_changeSetting_69 : decode cX2_changeSetting 69 = .ok (.iload_n 1, 1) := by decide +kernel
theorem dX2_changeSetting_70 : decode cX2_changeSetting 70 = .ok (.iconst 1, 1) := by decide +kernel
theorem dX2_changeSetting_71 : decode cX2_changeSetting 71 = .ok (.if_icmp .ne 11, 3) := by decide +kernel
theorem dX2_changeSetting_74 : decode cX2_changeSetting 74 = .ok (.aload_n 0, 1) := by decide +kernel
theorem dX2_changeSetting_75 : decode cX2_changeSetting 75 = .ok (.iload_n 2, 1) := by decide +kernel
theorem dX2_changeSetting_76 : decode cX2_changeSetting 76 = .ok (.putfield 24, 3) := by decide +kernel
theorem dX2_changeSetting_79 : decode cX2_changeSetting 79 = .ok (.goto 8, 3) := by decide +kernel
theorem dX2_changeSetting_82 : decode cX2_changeSetting 82 = .ok (.aload_n 0, 1) := by decide +kernel
theorem dX2_changeSetting_83 : decode cX2_changeSetting 83 = .ok (.iload_n 2, 1) := by decide +kernel
theorem dX2_changeSetting_84 : decode cX2_changeSetting 84 = .ok (.putfield 27, 3) := by decide +kernel
theorem dX2_changeSetting_87 : decode cX2_changeSetting 87 = .ok (.iload_n 3, 1) := by decide +kernel
theorem dX2_changeSetting_88 : decode cX2_changeSetting 88 = .ok (.ireturn, 1) := by decide +kernel
theorem dX2_tellSetting_0 : decode cX2_tellSetting 0 = .ok (.iload_n 1, 1) := by decide +kernel
theorem dX2_tellSetting_1 : decode cX2_tellSetting 1 = .ok (.ifCond .ne 8, 3) := by decide +kernel
theorem dX2_tellSetting_4 : decode cX2_tellSetting 4 = .ok (.aload_n 0, 1) := by decide +kernel
theorem dX2_tellSetting_5 : decode cX2_tellSetting 5 = .ok (.getfield 21, 3) := by decide +kernel
theorem dX2_tellSetting_8 : decode cX2_tellSetting 8 = .ok (.ireturn, 1) := by decide +kernel
theorem dX2_tellSetting_9 : decode cX2_tellSetting 9 = .ok (.iload_n 1, 1) := by decide +kernel
theorem dX2_tellSetting_10 : decode cX2_tellSetting 10 = .ok (.iconst 1, 1) := by decide +kernel
theorem dX2_tellSetting_11 : decode cX2_tellSetting 11 = .ok (.if_icmp .ne 10, 3) := by decide +kernel
theorem dX2_tellSetting_14 : decode cX2_tellSetting 14 = .ok (.aload_n 0, 1) := by decide +kernel
theorem dX2_tellSetting_15 : decode cX2_tellSetting 15 = .ok (.getfield 24, 3) := by decide +kernel
theorem dX2_tellSetting_18 : decode cX2_tellSetting 18 = .ok (.goto 7, 3) := by decide +kernel
theorem dX2_tellSetting_21 : decode cX2_tellSetting 21 = .ok (.aload_n 0, 1) := by decide +kernel
theorem dX2_tellSetting_22 : decode cX2_tellSetting 22 = .ok (.getfield 27, 3) := by decide +kernel
theorem dX2_tellSetting_25 : decode cX2_tellSetting 25 = .ok (.ireturn, 1) := by decide +kernel
theorem dX2_letPass_0 : decode cX2_letPass 0 = .ok (.iload_n 1, 1) := by decide +kernel
theorem dX2_letPass_1 : decode cX2_letPass 1 = .ok (.iconst 1, 1) := by decide +kernel
theorem dX2_letPass_2 : decode cX2_letPass 2 = .ok (.bipush 99, 2) := by decide +kernel
theorem dX2_letPass_4 : decode cX2_letPass 4 = .ok (.invokestatic 70, 3) := by decide +kernel
theorem dX2_letPass_7 : decode cX2_letPass 7 = .ok (.ifCond .ne 6, 3) := by decide +kernel
theorem dX2_letPass_10 : decode cX2_letPass 10 = .ok (.bipush (-2), 2) := by decide +kernel
theorem dX2_letPass_12 : decode cX2_letPass 12 = .ok (.ireturn, 1) := by decide +kernel
theorem dX2_letPass_13 : decode cX2_letPass 13 = .ok (.aload_n 0, 1) := by decide +kernel
theorem dX2_letPass_14 : decode cX2_letPass 14 = .ok (.getfield 17, 3) := by decide +kernel
theorem dX2_letPass_17 : decode cX2_letPass 17 = .ok (.iload_n 1, 1) := by decide +kernel
theorem dX2_letPass_18 : decode cX2_letPass 18 = .ok (.iadd, 1) := by decide +kernel
theorem dX2_letPass_19 : decode cX2_letPass 19 = .ok (.ldc 93, 2) := by decide +kernel
theorem dX2_letPass_21 : decode cX2_letPass 21 = .ok (.if_icmp .le 6, 3) := by decide +kernel
theorem dX2_letPass_24 : decode cX2_letPass 24 = .ok (.bipush (-3), 2) := by decide +kernel
theorem dX2_letPass_26 : decode cX2_letPass 26 = .ok (.ireturn, 1) := by decide +kernel
theorem dX2_letPass_27 : decode cX2_letPass 27 = .ok (.aload_n 0, 1) := by decide +kernel
theorem dX2_letPass_28 : decode cX2_letPass 28 = .ok (.iload_n 1, 1) := by decide +kernel
theorem dX2_letPass_29 : decode cX2_letPass 29 = .ok (.invokevirtual 94, 3) := by decide +kernel
theorem dX2_letPass_32 : decode cX2_letPass 32 = .ok (.ireturn, 1) := by decide +kernel
theorem dX2_tickOn_0 : decode cX2_tickOn 0 = .ok (.iconst 0, 1) := by decide +kernel
theorem dX2_tickOn_1 : decode cX2_tickOn 1 = .ok (.istore_n 2, 1) := by decide +kernel
theorem dX2_tickOn_2 : decode cX2_tickOn 2 = .ok (.iconst 0, 1) := by decide +kernel
theorem dX2_tickOn_3 : decode cX2_tickOn 3 = .ok (.istore_n 3, 1) := by decide +kernel
theorem dX2_tickOn_4 : decode cX2_tickOn 4 = .ok (.iload_n 3, 1) := by decide +kernel
theorem dX2_tickOn_5 : decode cX2_tickOn 5 = .ok (.iload_n 1, 1) := by decide +kernel
theorem dX2_tickOn_6 : decode cX2_tickOn 6 = .ok (.if_icmp .ge 16, 3) := by decide +kernel
theorem dX2_tickOn_9 : decode cX2_tickOn 9 = .ok (.iload_n 2, 1) := by decide +kernel
theorem dX2_tickOn_10 : decode cX2_tickOn 10 = .ok (.aload_n 0, 1) := by decide +kernel
theorem dX2_tickOn_11 : decode cX2_tickOn 11 = .ok (.invokevirtual 97, 3) := by decide +kernel
theorem dX2_tickOn_14 : decode cX2_tickOn 14 = .ok (.iadd, 1) := by decide +kernel
theorem dX2_tickOn_15 : decode cX2_tickOn 15 = .ok (.istore_n 2, 1) := by decide +kernel
theorem dX2_tickOn_16 : decode cX2_tickOn 16 = .ok (.iinc 3 1, 3) := by decide +kernel
theorem dX2_tickOn_19 : decode cX2_tickOn 19 = .ok (.goto (-15), 3) := by decide +kernel
theorem dX2_tickOn_22 : decode cX2_tickOn 22 = .ok (.iload_n 2, 1) := by decide +kernel
theorem dX2_tickOn_23 : decode cX2_tickOn 23 = .ok (.ireturn, 1) := by decide +kernel
theorem dX2_tickOnce_0 : decode cX2_tickOnce 0 = .ok (.aload_n 0, 1) := by decide +kernel
theorem dX2_tickOnce_1 : decode cX2_tickOnce 1 = .ok (.aload_n 0, 1) := by decide +kernel
theorem dX2_tickOnce_2 : decode cX2_tickOnce 2 = .ok (.getfield 17, 3) := by decide +kernel
theorem dX2_tickOnce_5 : decode cX2_tickOnce 5 = .ok (.invokevirtual 101, 3) := by decide +kernel
theorem dX2_tickOnce_8 : decode cX2_tickOnce 8 = .ok (.istore_n 1, 1) := by decide +kernel
theorem dX2_tickOnce_9 : decode cX2_tickOnce 9 = .ok (.aload_n 0, 1) := by decide +kernel
theorem dX2_tickOnce_10 : decode cX2_tickOnce 10 = .ok (.iload_n 1, 1) := by decide +kernel
theorem dX2_tickOnce_11 : decode cX2_tickOnce 11 = .ok (.invokevirtual 104, 3) := by decide +kernel
theorem dX2_tickOnce_14 : decode cX2_tickOnce 14 = .ok (.aload_n 0, 1) := by decide +kernel
theorem dX2_tickOnce_15 : decode cX2_tickOnce 15 = .ok (.invokevirtual 107, 3) := by decide +kernel
theorem dX2_tickOnce_18 : decode cX2_tickOnce 18 = .ok (.iconst 0, 1) := by decide +kernel
theorem dX2_tickOnce_19 : decode cX2_tickOnce 19 = .ok (.istore_n 2, 1) := by decide +kernel
theorem dX2_tickOnce_20 : decode cX2_tickOnce 20 = .ok (.iconst 0, 1) := by decide +kernel
theorem dX2_tickOnce_21 : decode cX2_tickOnce 21 = .ok (.istore_n 3, 1) := by decide +kernel
theorem dX2_tickOnce_22 : decode cX2_tickOnce 22 = .ok (.iload_n 3, 1) := by decide +kernel
theorem dX2_tickOnce_23 : decode cX2_tickOnce 23 = .ok (.bipush 8, 2) := by decide +kernel
theorem dX2_tickOnce_25 : decode cX2_tickOnce 25 = .ok (.if_icmp .ge 23, 3) := by decide +kernel
theorem dX2_tickOnce_28 : decode cX2_tickOnce 28 = .ok (.iload_n 2, 1) := by decide +kernel
theorem dX2_tickOnce_29 : decode cX2_tickOnce 29 = .ok (.aload_n 0, 1) := by decide +kernel
theorem dX2_tickOnce_30 : decode cX2_tickOnce 30 = .ok (.aload_n 0, 1) := by decide +kernel
theorem dX2_tickOnce_31 : decode cX2_tickOnce 31 = .ok (.getfield 11, 3) := by decide +kernel
theorem dX2_tickOnce_34 : decode cX2_tickOnce 34 = .ok (.iload_n 3, 1) := by decide +kernel
theorem dX2_tickOnce_35 : decode cX2_tickOnce 35 = .ok (.aaload, 1) := by decide +kernel
theorem dX2_tickOnce_36 : decode cX2_tickOnce 36 = .ok (.iload_n 1, 1) := by decide +kernel
theorem dX2_tickOnce_37 : decode cX2_tickOnce 37 = .ok (.invokevirtual 110, 3) := by decide +kernel
theorem dX2_tickOnce_40 : decode cX2_tickOnce 40 = .ok (.iadd, 1) := by decide +kernel
theorem dX2_tickOnce_41 : decode cX2_tickOnce 41 = .ok (.istore_n 2, 1) := by decide +kernel
theorem dX2_tickOnce_42 : decode cX2_tickOnce 42 = .ok (.iinc 3 1, 3) := by decide +kernel
theorem dX2_tickOnce_45 : decode cX2_tickOnce 45 = .ok (.goto (-23), 3) := by decide +kernel
theorem dX2_tickOnce_48 : decode cX2_tickOnce 48 = .ok (.iconst 0, 1) := by decide +kernel
theorem dX2_tickOnce_49 : decode cX2_tickOnce 49 = .ok (.istore_n 3, 1) := by decide +kernel
theorem dX2_tickOnce_50 : decode cX2_tickOnce 50 = .ok (.iload_n 3, 1) := by decide +kernel
theorem dX2_tickOnce_51 : decode cX2_tickOnce 51 = .ok (.bipush 8, 2) := by decide +kernel
theorem dX2_tickOnce_53 : decode cX2_tickOnce 53 = .ok (.if_icmp .ge 27, 3) := by decide +kernel
theorem dX2_tickOnce_56 : decode cX2_tickOnce 56 = .ok (.aload_n 0, 1) := by decide +kernel
theorem dX2_tickOnce_57 : decode cX2_tickOnce 57 = .ok (.dup, 1) := by decide +kernel
theorem dX2_tickOnce_58 : decode cX2_tickOnce 58 = .ok (.getfield 33, 3) := by decide +kernel
theorem dX2_tickOnce_61 : decode cX2_tickOnce 61 = .ok (.aload_n 0, 1) := by decide +kernel
theorem dX2_tickOnce_62 : decode cX2_tickOnce 62 = .ok (.getfield 11, 3) := by decide +kernel
theorem dX2_tickOnce_65 : decode cX2_tickOnce 65 = .ok (.iload_n 3, 1) := by decide +kernel
theorem dX2_tickOnce_66 : decode cX2_tickOnce 66 = .ok (.aaload, 1) := by decide +kernel
theorem dX2_tickOnce_67 : decode cX2_tickOnce 67 = .ok (.invokevirtual 114, 3) := by decide +kernel
theorem dX2_tickOnce_70 : decode cX2_tickOnce 70 = .ok (.iadd, 1) := by decide +kernel
theorem dX2_tickOnce_71 : decode cX2_tickOnce 71 = .ok (.putfield 33, 3) := by decide +kernel
theorem dX2_tickOnce_74 : decode cX2_tickOnce 74 = .ok (.iinc 3 1, 3) := by decide +kernel
theorem dX2_tickOnce_77 : decode cX2_tickOnce 77 = .ok (.goto (-27), 3) := by decide +kernel
theorem dX2_tickOnce_80 : decode cX2_tickOnce 80 = .ok (.aload_n 0, 1) := by decide +kernel
theorem dX2_tickOnce_81 : decode cX2_tickOnce 81 = .ok (.invokevirtual 117, 3) := by decide +kernel
theorem dX2_tickOnce_84 : decode cX2_tickOnce 84 = .ok (.aload_n 0, 1) := by decide +kernel
theorem dX2_tickOnce_85 : decode cX2_tickOnce 85 = .ok (.dup, 1) := by decide +kernel
theorem dX2_tickOnce_86 : decode cX2_tickOnce 86 = .ok (.getfield 17, 3) := by decide +kernel
theorem dX2_tickOnce_89 : decode cX2_tickOnce 89 = .ok (.iconst 1, 1) := by decide +kernel
theorem dX2_tickOnce_90 : decode cX2_tickOnce 90 = .ok (.iadd, 1) := by decide +kernel
theorem dX2_tickOnce_91 : decode cX2_tickOnce 91 = .ok (.putfield 17, 3) := by decide +kernel
theorem dX2_tickOnce_94 : decode cX2_tickOnce 94 = .ok (.iload_n 2, 1) := by decide +kernel
theorem dX2_tickOnce_95 : decode cX2_tickOnce 95 = .ok (.ireturn, 1) := by decide +kernel
theorem dX2_openGuarded_0 : decode cX2_openGuarded 0 = .ok (.iconst 0, 1) := by decide +kernel
theorem dX2_openGuarded_1 : decode cX2_openGuarded 1 = .ok (.istore_n 2, 1) := by decide +kernel
theorem dX2_openGuarded_2 : decode cX2_openGuarded 2 = .ok (.iload_n 2, 1) := by decide +kernel
theorem dX2_openGuarded_3 : decode cX2_openGuarded 3 = .ok (.bipush 8, 2) := by decide +kernel
theorem dX2_openGuarded_5 : decode cX2_openGuarded 5 = .ok (.if_icmp .ge 44, 3) := by decide +kernel
theorem dX2_openGuarded_8 : decode cX2_openGuarded 8 = .ok (.aload_n 0, 1) := by decide +kernel
theorem dX2_openGuarded_9 : decode cX2_openGuarded 9 = .ok (.getfield 11, 3) := by decide +kernel
theorem dX2_openGuarded_12 : decode cX2_openGuarded 12 = .ok (.iload_n 2, 1) := by decide +kernel
theorem dX2_openGuarded_13 : decode cX2_openGuarded 13 = .ok (.aaload, 1) := by decide +kernel
theorem dX2_openGuarded_14 : decode cX2_openGuarded 14 = .ok (.getfield 73, 3) := by decide +kernel
theorem dX2_openGuarded_17 : decode cX2_openGuarded 17 = .ok (.ifCond .eq 26, 3) := by decide +kernel
theorem dX2_openGuarded_20 : decode cX2_openGuarded 20 = .ok (.aload_n 0, 1) := by decide +kernel
theorem dX2_openGuarded_21 : decode cX2_openGuarded 21 = .ok (.getfield 11, 3) := by decide +kernel
theorem dX2_openGuarded_24 : decode cX2_openGuarded 24 = .ok (.iload_n 2, 1) := by decide +kernel
theorem dX2_openGuarded_25 : decode cX2_openGuarded 25 = .ok (.aaload, 1) := by decide +kernel
theorem dX2_openGuarded_26 : decode cX2_openGuarded 26 = .ok (.getfield 84, 3) := by decide +kernel
theorem dX2_openGuarded_29 : decode cX2_openGuarded 29 = .ok (.iload_n 1, 1) := by decide +kernel
theorem dX2_openGuarded_30 : decode cX2_openGuarded 30 = .ok (.if_icmp .ne 13, 3) := by decide +kernel
theorem dX2_openGuarded_33 : decode cX2_openGuarded 33 = .ok (.aload_n 0, 1) := by decide +kernel
theorem dX2_openGuarded_34 : decode cX2_openGuarded 34 = .ok (.getfield 11, 3) := by decide +kernel
theorem dX2_openGuarded_37 : decode cX2_openGuarded 37 = .ok (.iload_n 2, 1) := by decide +kernel
theorem dX2_openGuarded_38 : decode cX2_openGuarded 38 = .ok (.aaload, 1) := by decide +kernel
theorem dX2_openGuarded_39 : decode cX2_openGuarded 39 = .ok (.iconst 1, 1) := by decide +kernel
theorem dX2_openGuarded_40 : decode cX2_openGuarded 40 = .ok (.putfield 77, 3) := by decide +kernel
theorem dX2_openGuarded_43 : decode cX2_openGuarded 43 = .ok (.iinc 2 1, 3) := by decide +kernel
theorem dX2_openGuarded_46 : decode cX2_openGuarded 46 = .ok (.goto (-44), 3) := by decide +kernel
theorem dX2_openGuarded_49 : decode cX2_openGuarded 49 = .ok (.return_, 1) := by decide +kernel
theorem dX2_shutGuarded_0 : decode cX2_shutGuarded 0 = .ok (.iconst 0, 1) := by decide +kernel
theorem dX2_shutGuarded_1 : decode cX2_shutGuarded 1 = .ok (.istore_n 1, 1) := by decide +kernel
theorem dX2_shutGuarded_2 : decode cX2_shutGuarded 2 = .ok (.iload_n 1, 1) := by decide +kernel
theorem dX2_shutGuarded_3 : decode cX2_shutGuarded 3 = .ok (.bipush 8, 2) := by decide +kernel
theorem dX2_shutGuarded_5 : decode cX2_shutGuarded 5 = .ok (.if_icmp .ge 31, 3) := by decide +kernel
theorem dX2_shutGuarded_8 : decode cX2_shutGuarded 8 = .ok (.aload_n 0, 1) := by decide +kernel
theorem dX2_shutGuarded_9 : decode cX2_shutGuarded 9 = .ok (.getfield 11, 3) := by decide +kernel
theorem dX2_shutGuarded_12 : decode cX2_shutGuarded 12 = .ok (.iload_n 1, 1) := by decide +kernel
theorem dX2_shutGuarded_13 : decode cX2_shutGuarded 13 = .ok (.aaload, 1) := by decide +kernel
theorem dX2_shutGuarded_14 : decode cX2_shutGuarded 14 = .ok (.getfield 73, 3) := by decide +kernel
theorem dX2_shutGuarded_17 : decode cX2_shutGuarded 17 = .ok (.ifCond .eq 13, 3) := by decide +kernel
theorem dX2_shutGuarded_20 : decode cX2_shutGuarded 20 = .ok (.aload_n 0, 1) := by decide +kernel
theorem dX2_shutGuarded_21 : decode cX2_shutGuarded 21 = .ok (.getfield 11, 3) := by decide +kernel
theorem dX2_shutGuarded_24 : decode cX2_shutGuarded 24 = .ok (.iload_n 1, 1) := by decide +kernel
theorem dX2_shutGuarded_25 : decode cX2_shutGuarded 25 = .ok (.aaload, 1) := by decide +kernel
theorem dX2_shutGuarded_26 : decode cX2_shutGuarded 26 = .ok (.iconst 0, 1) := by decide +kernel
theorem dX2_shutGuarded_27 : decode cX2_shutGuarded 27 = .ok (.putfield 77, 3) := by decide +kernel
theorem dX2_shutGuarded_30 : decode cX2_shutGuarded 30 = .ok (.iinc 1 1, 3) := by decide +kernel
theorem dX2_shutGuarded_33 : decode cX2_shutGuarded 33 = .ok (.goto (-31), 3) := by decide +kernel
theorem dX2_shutGuarded_36 : decode cX2_shutGuarded 36 = .ok (.return_, 1) := by decide +kernel
theorem dX2_springs_0 : decode cX2_springs 0 = .ok (.aload_n 0, 1) := by decide +kernel
theorem dX2_springs_1 : decode cX2_springs 1 = .ok (.getfield 30, 3) := by decide +kernel
theorem dX2_springs_4 : decode cX2_springs 4 = .ok (.aload_n 0, 1) := by decide +kernel
theorem dX2_springs_5 : decode cX2_springs 5 = .ok (.getfield 24, 3) := by decide +kernel
theorem dX2_springs_8 : decode cX2_springs 8 = .ok (.invokestatic 120, 3) := by decide +kernel
theorem dX2_springs_11 : decode cX2_springs 11 = .ok (.istore_n 1, 1) := by decide +kernel
theorem dX2_springs_12 : decode cX2_springs 12 = .ok (.aload_n 0, 1) := by decide +kernel
theorem dX2_springs_13 : decode cX2_springs 13 = .ok (.dup, 1) := by decide +kernel
theorem dX2_springs_14 : decode cX2_springs 14 = .ok (.getfield 30, 3) := by decide +kernel
theorem dX2_springs_17 : decode cX2_springs 17 = .ok (.iload_n 1, 1) := by decide +kernel
theorem dX2_springs_18 : decode cX2_springs 18 = .ok (.isub, 1) := by decide +kernel
theorem dX2_springs_19 : decode cX2_springs 19 = .ok (.putfield 30, 3) := by decide +kernel
theorem dX2_springs_22 : decode cX2_springs 22 = .ok (.aload_n 0, 1) := by decide +kernel
theorem dX2_springs_23 : decode cX2_springs 23 = .ok (.dup, 1) := by decide +kernel
theorem dX2_springs_24 : decode cX2_springs 24 = .ok (.getfield 36, 3) := by decide +kernel
theorem dX2_springs_27 : decode cX2_springs 27 = .ok (.aload_n 0, 1) := by decide +kernel
theorem dX2_springs_28 : decode cX2_springs 28 = .ok (.getfield 21, 3) := by decide +kernel
theorem dX2_springs_31 : decode cX2_springs 31 = .ok (.iadd, 1) := by decide +kernel
theorem dX2_springs_32 : decode cX2_springs 32 = .ok (.putfield 36, 3) := by decide +kernel
theorem dX2_springs_35 : decode cX2_springs 35 = .ok (.aload_n 0, 1) := by decide +kernel
theorem dX2_springs_36 : decode cX2_springs 36 = .ok (.getfield 11, 3) := by decide +kernel
theorem dX2_springs_39 : decode cX2_springs 39 = .ok (.iconst 0, 1) := by decide +kernel
theorem dX2_springs_40 : decode cX2_springs 40 = .ok (.aaload, 1) := by decide +kernel
theorem dX2_springs_41 : decode cX2_springs 41 = .ok (.dup, 1) := by decide +kernel
theorem dX2_springs_42 : decode cX2_springs 42 = .ok (.getfield 87, 3) := by decide +kernel
theorem dX2_springs_45 : decode cX2_springs 45 = .ok (.aload_n 0, 1) := by decide +kernel
theorem dX2_springs_46 : decode cX2_springs 46 = .ok (.getfield 21, 3) := by decide +kernel
theorem dX2_springs_49 : decode cX2_springs 49 = .ok (.iload_n 1, 1) := by decide +kernel
theorem dX2_springs_50 : decode cX2_springs 50 = .ok (.iadd, 1) := by decide +kernel
theorem dX2_springs_51 : decode cX2_springs 51 = .ok (.iadd, 1) := by decide +kernel
theorem dX2_springs_52 : decode cX2_springs 52 = .ok (.putfield 87, 3) := by decide +kernel
theorem dX2_springs_55 : decode cX2_springs 55 = .ok (.return_, 1) := by decide +kernel
theorem dX2_tipOrKeep_0 : decode cX2_tipOrKeep 0 = .ok (.aload_n 1, 1) := by decide +kernel
theorem dX2_tipOrKeep_1 : decode cX2_tipOrKeep 1 = .ok (.aload_n 1, 1) := by decide +kernel
theorem dX2_tipOrKeep_2 : decode cX2_tipOrKeep 2 = .ok (.getfield 77, 3) := by decide +kernel
theorem dX2_tipOrKeep_5 : decode cX2_tipOrKeep 5 = .ok (.ifCond .eq 10, 3) := by decide +kernel
theorem dX2_tipOrKeep_8 : decode cX2_tipOrKeep 8 = .ok (.aload_n 1, 1) := by decide +kernel
theorem dX2_tipOrKeep_9 : decode cX2_tipOrKeep 9 = .ok (.getfield 87, 3) := by decide +kernel
theorem dX2_tipOrKeep_12 : decode cX2_tipOrKeep 12 = .ok (.goto 4, 3) := by decide +kernel
theorem dX2_tipOrKeep_15 : decode cX2_tipOrKeep 15 = .ok (.iconst 0, 1) := by decide +kernel
theorem dX2_tipOrKeep_16 : decode cX2_tipOrKeep 16 = .ok (.putfield 126, 3) := by decide +kernel
theorem dX2_tipOrKeep_19 : decode cX2_tipOrKeep 19 = .ok (.aload_n 1, 1) := by decide +kernel
theorem dX2_tipOrKeep_20 : decode cX2_tipOrKeep 20 = .ok (.getfield 126, 3) := by decide +kernel
theorem dX2_tipOrKeep_23 : decode cX2_tipOrKeep 23 = .ok (.aload_n 1, 1) := by decide +kernel
theorem dX2_tipOrKeep_24 : decode cX2_tipOrKeep 24 = .ok (.getfield 61, 3) := by decide +kernel
theorem dX2_tipOrKeep_27 : decode cX2_tipOrKeep 27 = .ok (.if_icmp .ge 23, 3) := by decide +kernel
theorem dX2_tipOrKeep_30 : decode cX2_tipOrKeep 30 = .ok (.aload_n 1, 1) := by decide +kernel
theorem dX2_tipOrKeep_31 : decode cX2_tipOrKeep 31 = .ok (.iconst 0, 1) := by decide +kernel
theorem dX2_tipOrKeep_32 : decode cX2_tipOrKeep 32 = .ok (.putfield 129, 3) := by decide +kernel
theorem dX2_tipOrKeep_35 : decode cX2_tipOrKeep 35 = .ok (.aload_n 0, 1) := by decide +kernel
theorem dX2_tipOrKeep_36 : decode cX2_tipOrKeep 36 = .ok (.dup, 1) := by decide +kernel
theorem dX2_tipOrKeep_37 : decode cX2_tipOrKeep 37 = .ok (.getfield 30, 3) := by decide +kernel
theorem dX2_tipOrKeep_40 : decode cX2_tipOrKeep 40 = .ok (.aload_n 1, 1) := by decide +kernel
theorem dX2_tipOrKeep_41 : decode cX2_tipOrKeep 41 = .ok (.invokevirtual 132, 3) := by decide +kernel
theorem dX2_tipOrKeep_44 : decode cX2_tipOrKeep 44 = .ok (.iadd, 1) := by decide +kernel
theorem dX2_tipOrKeep_45 : decode cX2_tipOrKeep 45 = .ok (.putfield 30, 3) := by decide +kernel
theorem dX2_tipOrKeep_48 : decode cX2_tipOrKeep 48 = .ok (.iconst 0, 1) := by decide +kernel
theorem dX2_tipOrKeep_49 : decode cX2_tipOrKeep 49 = .ok (.ireturn, 1) := by decide +kernel
theorem dX2_tipOrKeep_50 : decode cX2_tipOrKeep 50 = .ok (.aload_n 1, 1) := by decide +kernel
theorem dX2_tipOrKeep_51 : decode cX2_tipOrKeep 51 = .ok (.iload_n 2, 1) := by decide +kernel
theorem dX2_tipOrKeep_52 : decode cX2_tipOrKeep 52 = .ok (.invokevirtual 135, 3) := by decide +kernel
theorem dX2_tipOrKeep_55 : decode cX2_tipOrKeep 55 = .ok (.istore_n 3, 1) := by decide +kernel
theorem dX2_tipOrKeep_56 : decode cX2_tipOrKeep 56 = .ok (.aload_n 0, 1) := by decide +kernel
theorem dX2_tipOrKeep_57 : decode cX2_tipOrKeep 57 = .ok (.aload_n 1, 1) := by decide +kernel
theorem dX2_tipOrKeep_58 : decode cX2_tipOrKeep 58 = .ok (.getfield 67, 3) := by decide +kernel
theorem dX2_tipOrKeep_61 : decode cX2_tipOrKeep 61 = .ok (.invokevirtual 49, 3) := by decide +kernel
theorem dX2_tipOrKeep_64 : decode cX2_tipOrKeep 64 = .ok (.astore 4, 2) := by decide +kernel
theorem dX2_tipOrKeep_66 : decode cX2_tipOrKeep 66 = .ok (.aload 4, 2) := by decide +kernel
theorem dX2_tipOrKeep_68 : decode cX2_tipOrKeep 68 = .ok (.ifnonnull 16, 3) := by decide +kernel
theorem dX2_tipOrKeep_71 : decode cX2_tipOrKeep 71 = .ok (.aload_n 0, 1) := by decide +kernel
theorem dX2_tipOrKeep_72 : decode cX2_tipOrKeep 72 = .ok (.dup, 1) := by decide +kernel
theorem dX2_tipOrKeep_73 : decode cX2_tipOrKeep 73 = .ok (.getfield 30, 3) := by decide +kernel
theorem dX2_tipOrKeep_76 : decode cX2_tipOrKeep 76 = .ok (.iload_n 3, 1) := by decide +kernel
theorem dX2_tipOrKeep_77 : decode cX2_tipOrKeep 77 = .ok (.iadd, 1) := by decide +kernel
theorem dX2_tipOrKeep_78 : decode cX2_tipOrKeep 78 = .ok (.putfield 30, 3) := by decide +kernel
theorem dX2_tipOrKeep_81 : decode cX2_tipOrKeep 81 = .ok (.goto 14, 3) := by decide +kernel
theorem dX2_tipOrKeep_84 : decode cX2_tipOrKeep 84 = .ok (.aload 4, 2) := by decide +kernel
theorem dX2_tipOrKeep_86 : decode cX2_tipOrKeep 86 = .ok (.dup, 1) := by decide +kernel
theorem dX2_tipOrKeep_87 : decode cX2_tipOrKeep 87 = .ok (.getfield 87, 3) := by decide +kernel
theorem dX2_tipOrKeep_90 : decode cX2_tipOrKeep 90 = .ok (.iload_n 3, 1) := by decide +kernel
theorem dX2_tipOrKeep_91 : decode cX2_tipOrKeep 91 = .ok (.iadd, 1) := by decide +kernel
theorem dX2_tipOrKeep_92 : decode cX2_tipOrKeep 92 = .ok (.putfield 87, 3) := by decide +kernel
theorem dX2_tipOrKeep_95 : decode cX2_tipOrKeep 95 = .ok (.iconst 1, 1) := by decide +kernel
theorem dX2_tipOrKeep_96 : decode cX2_tipOrKeep 96 = .ok (.ireturn, 1) := by decide +kernel
theorem dX2_tell_0 : decode cX2_tell 0 = .ok (.iload_n 1, 1) := by decide +kernel
theorem dX2_tell_1 : decode cX2_tell 1 = .ok (.tableswitch 135 0 12 #[67, 72, 81, 87, 92, 97, 102, 107, 114, 121, 126, 126, 126], 67) := by decide +kernel
theorem dX2_tell_68 : decode cX2_tell 68 = .ok (.aload_n 0, 1) := by decide +kernel
theorem dX2_tell_69 : decode cX2_tell 69 = .ok (.getfield 17, 3) := by decide +kernel
theorem dX2_tell_72 : decode cX2_tell 72 = .ok (.ireturn, 1) := by decide +kernel
theorem dX2_tell_73 : decode cX2_tell 73 = .ok (.aload_n 0, 1) := by decide +kernel
theorem dX2_tell_74 : decode cX2_tell 74 = .ok (.aload_n 0, 1) := by decide +kernel
theorem dX2_tell_75 : decode cX2_tell 75 = .ok (.getfield 17, 3) := by decide +kernel
theorem dX2_tell_78 : decode cX2_tell 78 = .ok (.invokevirtual 101, 3) := by decide +kernel
theorem dX2_tell_81 : decode cX2_tell 81 = .ok (.ireturn, 1) := by decide +kernel
theorem dX2_tell_82 : decode cX2_tell 82 = .ok (.aload_n 0, 1) := by decide +kernel
theorem dX2_tell_83 : decode cX2_tell 83 = .ok (.iconst 3, 1) := by decide +kernel
theorem dX2_tell_84 : decode cX2_tell 84 = .ok (.invokevirtual 138, 3) := by decide +kernel
theorem dX2_tell_87 : decode cX2_tell 87 = .ok (.ireturn, 1) := by decide +kernel
theorem dX2_tell_88 : decode cX2_tell 88 = .ok (.aload_n 0, 1) := by decide +kernel
theorem dX2_tell_89 : decode cX2_tell 89 = .ok (.getfield 30, 3) := by decide +kernel
theorem dX2_tell_92 : decode cX2_tell 92 = .ok (.ireturn, 1) := by decide +kernel
theorem dX2_tell_93 : decode cX2_tell 93 = .ok (.aload_n 0, 1) := by decide +kernel
theorem dX2_tell_94 : decode cX2_tell 94 = .ok (.getfield 33, 3) := by decide +kernel
theorem dX2_tell_97 : decode cX2_tell 97 = .ok (.ireturn, 1) := by decide +kernel
theorem dX2_tell_98 : decode cX2_tell 98 = .ok (.aload_n 0, 1) := by decide +kernel
theorem dX2_tell_99 : decode cX2_tell 99 = .ok (.getfield 36, 3) := by decide +kernel
theorem dX2_tell_102 : decode cX2_tell 102 = .ok (.ireturn, 1) := by decide +kernel
theorem dX2_tell_103 : decode cX2_tell 103 = .ok (.aload_n 0, 1) := by decide +kernel
theorem dX2_tell_104 : decode cX2_tell 104 = .ok (.getfield 39, 3) := by decide +kernel
theorem dX2_tell_107 : decode cX2_tell 107 = .ok (.ireturn, 1) := by decide +kernel
theorem dX2_tell_108 : decode cX2_tell 108 = .ok (.aload_n 0, 1) := by decide +kernel
theorem dX2_tell_109 : decode cX2_tell 109 = .ok (.bipush 8, 2) := by decide +kernel
theorem dX2_tell_111 : decode cX2_tell 111 = .ok (.invokevirtual 138, 3) := by decide +kernel
theorem dX2_tell_114 : decode cX2_tell 114 = .ok (.ireturn, 1) := by decide +kernel
theorem dX2_tell_115 : decode cX2_tell 115 = .ok (.aload_n 0, 1) := by decide +kernel
theorem dX2_tell_116 : decode cX2_tell 116 = .ok (.bipush 9, 2) := by decide +kernel
theorem dX2_tell_118 : decode cX2_tell 118 = .ok (.invokevirtual 138, 3) := by decide +kernel
theorem dX2_tell_121 : decode cX2_tell 121 = .ok (.ireturn, 1) := by decide +kernel
theorem dX2_tell_122 : decode cX2_tell 122 = .ok (.aload_n 0, 1) := by decide +kernel
theorem dX2_tell_123 : decode cX2_tell 123 = .ok (.invokevirtual 141, 3) := by decide +kernel
theorem dX2_tell_126 : decode cX2_tell 126 = .ok (.ireturn, 1) := by decide +kernel
theorem dX2_tell_127 : decode cX2_tell 127 = .ok (.aload_n 0, 1) := by decide +kernel
theorem dX2_tell_128 : decode cX2_tell 128 = .ok (.iload_n 1, 1) := by decide +kernel
theorem dX2_tell_129 : decode cX2_tell 129 = .ok (.bipush 10, 2) := by decide +kernel
theorem dX2_tell_131 : decode cX2_tell 131 = .ok (.isub, 1) := by decide +kernel
theorem dX2_tell_132 : decode cX2_tell 132 = .ok (.invokevirtual 90, 3) := by decide +kernel
theorem dX2_tell_135 : decode cX2_tell 135 = .ok (.ireturn, 1) := by decide +kernel
theorem dX2_tell_136 : decode cX2_tell 136 = .ok (.bipush (-2), 2) := by decide +kernel
theorem dX2_tell_138 : decode cX2_tell 138 = .ok (.ireturn, 1) := by decide +kernel
theorem dX2_sumOf_0 : decode cX2_sumOf 0 = .ok (.iconst 0, 1) := by decide +kernel
theorem dX2_sumOf_1 : decode cX2_sumOf 1 = .ok (.istore_n 2, 1) := by decide +kernel
theorem dX2_sumOf_2 : decode cX2_sumOf 2 = .ok (.iconst 0, 1) := by decide +kernel
theorem dX2_sumOf_3 : decode cX2_sumOf 3 = .ok (.istore_n 3, 1) := by decide +kernel
theorem dX2_sumOf_4 : decode cX2_sumOf 4 = .ok (.iload_n 3, 1) := by decide +kernel
theorem dX2_sumOf_5 : decode cX2_sumOf 5 = .ok (.bipush 8, 2) := by decide +kernel
theorem dX2_sumOf_7 : decode cX2_sumOf 7 = .ok (.if_icmp .ge 22, 3) := by decide +kernel
theorem dX2_sumOf_10 : decode cX2_sumOf 10 = .ok (.iload_n 2, 1) := by decide +kernel
theorem dX2_sumOf_11 : decode cX2_sumOf 11 = .ok (.aload_n 0, 1) := by decide +kernel
theorem dX2_sumOf_12 : decode cX2_sumOf 12 = .ok (.getfield 11, 3) := by decide +kernel
theorem dX2_sumOf_15 : decode cX2_sumOf 15 = .ok (.iload_n 3, 1) := by decide +kernel
theorem dX2_sumOf_16 : decode cX2_sumOf 16 = .ok (.aaload, 1) := by decide +kernel
theorem dX2_sumOf_17 : decode cX2_sumOf 17 = .ok (.iload_n 1, 1) := by decide +kernel
theorem dX2_sumOf_18 : decode cX2_sumOf 18 = .ok (.invokevirtual 57, 3) := by decide +kernel
theorem dX2_sumOf_21 : decode cX2_sumOf 21 = .ok (.iadd, 1) := by decide +kernel
theorem dX2_sumOf_22 : decode cX2_sumOf 22 = .ok (.istore_n 2, 1) := by decide +kernel
theorem dX2_sumOf_23 : decode cX2_sumOf 23 = .ok (.iinc 3 1, 3) := by decide +kernel
theorem dX2_sumOf_26 : decode cX2_sumOf 26 = .ok (.goto (-22), 3) := by decide +kernel
theorem dX2_sumOf_29 : decode cX2_sumOf 29 = .ok (.iload_n 2, 1) := by decide +kernel
theorem dX2_sumOf_30 : decode cX2_sumOf 30 = .ok (.ireturn, 1) := by decide +kernel
theorem dX2_sumFull_0 : decode cX2_sumFull 0 = .ok (.iconst 0, 1) := by decide +kernel
theorem dX2_sumFull_1 : decode cX2_sumFull 1 = .ok (.istore_n 1, 1) := by decide +kernel
theorem dX2_sumFull_2 : decode cX2_sumFull 2 = .ok (.iconst 0, 1) := by decide +kernel
theorem dX2_sumFull_3 : decode cX2_sumFull 3 = .ok (.istore_n 2, 1) := by decide +kernel
theorem dX2_sumFull_4 : decode cX2_sumFull 4 = .ok (.iload_n 2, 1) := by decide +kernel
theorem dX2_sumFull_5 : decode cX2_sumFull 5 = .ok (.bipush 8, 2) := by decide +kernel
theorem dX2_sumFull_7 : decode cX2_sumFull 7 = .ok (.if_icmp .ge 24, 3) := by decide +kernel
theorem dX2_sumFull_10 : decode cX2_sumFull 10 = .ok (.iload_n 1, 1) := by decide +kernel
theorem dX2_sumFull_11 : decode cX2_sumFull 11 = .ok (.aload_n 0, 1) := by decide +kernel
theorem dX2_sumFull_12 : decode cX2_sumFull 12 = .ok (.getfield 11, 3) := by decide +kernel
theorem dX2_sumFull_15 : decode cX2_sumFull 15 = .ok (.iload_n 2, 1) := by decide +kernel
theorem dX2_sumFull_16 : decode cX2_sumFull 16 = .ok (.aaload, 1) := by decide +kernel
theorem dX2_sumFull_17 : decode cX2_sumFull 17 = .ok (.invokevirtual 144, 3) := by decide +kernel
theorem dX2_sumFull_20 : decode cX2_sumFull 20 = .ok (.invokestatic 80, 3) := by decide +kernel
theorem dX2_sumFull_23 : decode cX2_sumFull 23 = .ok (.iadd, 1) := by decide +kernel
theorem dX2_sumFull_24 : decode cX2_sumFull 24 = .ok (.istore_n 1, 1) := by decide +kernel
theorem dX2_sumFull_25 : decode cX2_sumFull 25 = .ok (.iinc 2 1, 3) := by decide +kernel
theorem dX2_sumFull_28 : decode cX2_sumFull 28 = .ok (.goto (-24), 3) := by decide +kernel
theorem dX2_sumFull_31 : decode cX2_sumFull 31 = .ok (.iload_n 1, 1) := by decide +kernel
theorem dX2_sumFull_32 : decode cX2_sumFull 32 = .ok (.ireturn, 1) := by decide +kernel
theorem dX3_init_0 : decode cX3_init 0 = .ok (.aload_n 0, 1) := by decide +kernel
theorem dX3_init_1 : decode cX3_init 1 = .ok (.invokespecial 1, 3) := by decide +kernel
theorem dX3_init_4 : decode cX3_init 4 = .ok (.aload_n 0, 1) := by decide +kernel
theorem dX3_init_5 : decode cX3_init 5 = .ok (.new 7, 3) := by decide +kernel
theorem dX3_init_8 : decode cX3_init 8 = .ok (.dup, 1) := by decide +kernel
theorem dX3_init_9 : decode cX3_init 9 = .ok (.invokespecial 9, 3) := by decide +kernel
theorem dX3_init_12 : decode cX3_init 12 = .ok (.putfield 10, 3) := by decide +kernel
theorem dX3_init_15 : decode cX3_init 15 = .ok (.aload_n 0, 1) := by decide +kernel
theorem dX3_init_16 : decode cX3_init 16 = .ok (.new 7, 3) := by decide +kernel
theorem dX3_init_19 : decode cX3_init 19 = .ok (.dup, 1) := by decide +kernel
theorem dX3_init_20 : decode cX3_init 20 = .ok (.invokespecial 9, 3) := by decide +kernel
theorem dX3_init_23 : decode cX3_init 23 = .ok (.putfield 16, 3) := by decide +kernel
theorem dX3_init_26 : decode cX3_init 26 = .ok (.aload_n 0, 1) := by decide +kernel
theorem dX3_init_27 : decode cX3_init 27 = .ok (.new 7, 3) := by decide +kernel
theorem dX3_init_30 : decode cX3_init 30 = .ok (.dup, 1) := by decide +kernel
theorem dX3_init_31 : decode cX3_init 31 = .ok (.invokespecial 9, 3) := by decide +kernel
theorem dX3_init_34 : decode cX3_init 34 = .ok (.putfield 19, 3) := by decide +kernel
theorem dX3_init_37 : decode cX3_init 37 = .ok (.aload_n 0, 1) := by decide +kernel
theorem dX3_init_38 : decode cX3_init 38 = .ok (.new 7, 3) := by decide +kernel
theorem dX3_init_41 : decode cX3_init 41 = .ok (.dup, 1) := by decide +kernel
theorem dX3_init_42 : decode cX3_init 42 = .ok (.invokespecial 9, 3) := by decide +kernel
theorem dX3_init_45 : decode cX3_init 45 = .ok (.putfield 22, 3) := by decide +kernel
theorem dX3_init_48 : decode cX3_init 48 = .ok (.aload_n 0, 1) := by decide +kernel
theorem dX3_init_49 : decode cX3_init 49 = .ok (.iconst 4, 1) := by decide +kernel
theorem dX3_init_50 : decode cX3_init 50 = .ok (.anewarray 7, 3) := by decide +kernel
theorem dX3_init_53 : decode cX3_init 53 = .ok (.putfield 25, 3) := by decide +kernel
theorem dX3_init_56 : decode cX3_init 56 = .ok (.aload_n 0, 1) := by decide +kernel
theorem dX3_init_57 : decode cX3_init 57 = .ok (.new 29, 3) := by decide +kernel
theorem dX3_init_60 : decode cX3_init 60 = .ok (.dup, 1) := by decide +kernel
theorem dX3_init_61 : decode cX3_init 61 = .ok (.invokespecial 31, 3) := by decide +kernel
theorem dX3_init_64 : decode cX3_init 64 = .ok (.putfield 32, 3) := by decide +kernel
theorem dX3_init_67 : decode cX3_init 67 = .ok (.aload_n 0, 1) := by decide +kernel
theorem dX3_init_68 : decode cX3_init 68 = .ok (.iconst 0, 1) := by decide +kernel
theorem dX3_init_69 : decode cX3_init 69 = .ok (.putfield 36, 3) := by decide +kernel
theorem dX3_init_72 : decode cX3_init 72 = .ok (.aload_n 0, 1) := by decide +kernel
theorem dX3_init_73 : decode cX3_init 73 = .ok (.iconst 0, 1) := by decide +kernel
theorem dX3_init_74 : decode cX3_init 74 = .ok (.putfield 40, 3) := by decide +kernel
theorem dX3_init_77 : decode cX3_init 77 = .ok (.aload_n 0, 1) := by decide +kernel
theorem dX3_init_78 : decode cX3_init 78 = .ok (.iconst (-1), 1) := by decide +kernel
theorem dX3_init_79 : decode cX3_init 79 = .ok (.putfield 44, 3) := by decide +kernel
theorem dX3_init_82 : decode cX3_init 82 = .ok (.aload_n 0, 1) := by decide +kernel
theorem dX3_init_83 : decode cX3_init 83 = .ok (.iconst 0, 1) := by decide +kernel
theorem dX3_init_84 : decode cX3_init 84 = .ok (.putfield 47, 3) := by decide +kernel
theorem dX3_init_87 : decode cX3_init 87 = .ok (.iconst 0, 1) := by decide +kernel
theorem dX3_init_88 : decode cX3_init 88 = .ok (.istore_n 1, 1) := by decide +kernel
theorem dX3_init_89 : decode cX3_init 89 = .ok (.iload_n 1, 1) := by decide +kernel
theorem dX3_init_90 : decode cX3_init 90 = .ok (.iconst 4, 1) := by decide +kernel
theorem dX3_init_91 : decode cX3_init 91 = .ok (.if_icmp .ge 22, 3) := by decide +kernel
theorem dX3_init_94 : decode cX3_init 94 = .ok (.aload_n 0, 1) := by decide +kernel
theorem dX3_init_95 : decode cX3_init 95 = .ok (.getfield 25, 3) := by decide +kernel
theorem dX3_init_98 : decode cX3_init 98 = .ok (.iload_n 1, 1) := by decide +kernel
theorem dX3_init_99 : decode cX3_init 99 = .ok (.new 7, 3) := by decide +kernel
theorem dX3_init_102 : decode cX3_init 102 = .ok (.dup, 1) := by decide +kernel
theorem dX3_init_103 : decode cX3_init 103 = .ok (.invokespecial 9, 3) := by decide +kernel
theorem dX3_init_106 : decode cX3_init 106 = .ok (.aastore, 1) := by decide +kernel
theorem dX3_init_107 : decode cX3_init 107 = .ok (.iinc 1 1, 3) := by decide +kernel
theorem dX3_init_110 : decode cX3_init 110 = .ok (.goto (-21), 3) := by decide +kernel
theorem dX3_init_113 : decode cX3_init 113 = .ok (.return_, 1) := by decide +kernel
theorem dX3_setCup_0 : decode cX3_setCup 0 = .ok (.aload_n 0, 1) := by decide +kernel
theorem dX3_setCup_1 : decode cX3_setCup 1 = .ok (.getfield 19, 3) := by decide +kernel
theorem dX3_setCup_4 : decode cX3_setCup 4 = .ok (.aload_n 0, 1) := by decide +kernel
theorem dX3_setCup_5 : decode cX3_setCup 5 = .ok (.getfield 10, 3) := by decide +kernel
theorem dX3_setCup_8 : decode cX3_setCup 8 = .ok (.invokevirtual 50, 3) := by decide +kernel
theorem dX3_setCup_11 : decode cX3_setCup 11 = .ok (.aload_n 0, 1) := by decide +kernel
theorem dX3_setCup_12 : decode cX3_setCup 12 = .ok (.aload_n 0, 1) := by decide +kernel
theorem dX3_setCup_13 : decode cX3_setCup 13 = .ok (.getfield 10, 3) := by decide +kernel
theorem dX3_setCup_16 : decode cX3_setCup 16 = .ok (.iload_n 1, 1) := by decide +kernel
theorem dX3_setCup_17 : decode cX3_setCup 17 = .ok (.iload_n 2, 1) := by decide +kernel
theorem dX3_setCup_18 : decode cX3_setCup 18 = .ok (.iload_n 3, 1) := by decide +kernel
theorem dX3_setCup_19 : decode cX3_setCup 19 = .ok (.invokevirtual 54, 3) := by decide +kernel
theorem dX3_setCup_22 : decode cX3_setCup 22 = .ok (.invokevirtual 58, 3) := by decide +kernel
theorem dX3_setCup_25 : decode cX3_setCup 25 = .ok (.ireturn, 1) := by decide +kernel
theorem dX3_turnLock_0 : decode cX3_turnLock 0 = .ok (.aload_n 0, 1) := by decide +kernel
theorem dX3_turnLock_1 : decode cX3_turnLock 1 = .ok (.getfield 19, 3) := by decide +kernel
theorem dX3_turnLock_4 : decode cX3_turnLock 4 = .ok (.aload_n 0, 1) := by decide +kernel
theorem dX3_turnLock_5 : decode cX3_turnLock 5 = .ok (.getfield 10, 3) := by decide +kernel
theorem dX3_turnLock_8 : decode cX3_turnLock 8 = .ok (.invokevirtual 50, 3) := by decide +kernel
theorem dX3_turnLock_11 : decode cX3_turnLock 11 = .ok (.aload_n 0, 1) := by decide +kernel
theorem dX3_turnLock_12 : decode cX3_turnLock 12 = .ok (.aload_n 0, 1) := by decide +kernel
theorem dX3_turnLock_13 : decode cX3_turnLock 13 = .ok (.getfield 10, 3) := by decide +kernel
theorem dX3_turnLock_16 : decode cX3_turnLock 16 = .ok (.iload_n 1, 1) := by decide +kernel
theorem dX3_turnLock_17 : decode cX3_turnLock 17 = .ok (.invokevirtual 62, 3) := by decide +kernel
theorem dX3_turnLock_20 : decode cX3_turnLock 20 = .ok (.invokevirtual 58, 3) := by decide +kernel
theorem dX3_turnLock_23 : decode cX3_turnLock 23 = .ok (.ireturn, 1) := by decide +kernel
theorem dX3_setHour_0 : decode cX3_setHour 0 = .ok (.aload_n 0, 1) := by decide +kernel
theorem dX3_setHour_1 : decode cX3_setHour 1 = .ok (.getfield 19, 3) := by decide +kernel
theorem dX3_setHour_4 : decode cX3_setHour 4 = .ok (.aload_n 0, 1) := by decide +kernel
theorem dX3_setHour_5 : decode cX3_setHour 5 = .ok (.getfield 10, 3) := by decide +kernel
theorem dX3_setHour_8 : decode cX3_setHour 8 = .ok (.invokevirtual 50, 3) := by decide +kernel
theorem dX3_setHour_11 : decode cX3_setHour 11 = .ok (.aload_n 0, 1) := by decide +kernel
theorem dX3_setHour_12 : decode cX3_setHour 12 = .ok (.aload_n 0, 1) := by decide +kernel
theorem dX3_setHour_13 : decode cX3_setHour 13 = .ok (.getfield 10, 3) := by decide +kernel
theorem dX3_setHour_16 : decode cX3_setHour 16 = .ok (.iload_n 1, 1) := by decide +kernel
theorem dX3_setHour_17 : decode cX3_setHour 17 = .ok (.iload_n 2, 1) := by decide +kernel
theorem dX3_setHour_18 : decode cX3_setHour 18 = .ok (.invokevirtual 65, 3) := by decide +kernel
theorem dX3_setHour_21 : decode cX3_setHour 21 = .ok (.invokevirtual 58, 3) := by decide +kernel
theorem dX3_setHour_24 : decode cX3_setHour 24 = .ok (.ireturn, 1) := by decide +kernel
theorem dX3_guard_0 : decode cX3_guard 0 = .ok (.aload_n 0, 1) := by decide +kernel
theorem dX3_guard_1 : decode cX3_guard 1 = .ok (.getfield 19, 3) := by decide +kernel
theorem dX3_guard_4 : decode cX3_guard 4 = .ok (.aload_n 0, 1) := by decide +kernel
theorem dX3_guard_5 : decode cX3_guard 5 = .ok (.getfield 10, 3) := by decide +kernel
theorem dX3_guard_8 : decode cX3_guard 8 = .ok (.invokevirtual 50, 3) := by decide +kernel
theorem dX3_guard_11 : decode cX3_guard 11 = .ok (.aload_n 0, 1) := by decide +kernel
theorem dX3_guard_12 : decode cX3_guard 12 = .ok (.aload_n 0, 1) := by decide +kernel
theorem dX3_guard_13 : decode cX3_guard 13 = .ok (.getfield 10, 3) := by decide +kernel
theorem dX3_guard_16 : decode cX3_guard 16 = .ok (.iload_n 1, 1) := by decide +kernel
theorem dX3_guard_17 : decode cX3_guard 17 = .ok (.invokevirtual 69, 3) := by decide +kernel
theorem dX3_guard_20 : decode cX3_guard 20 = .ok (.invokevirtual 58, 3) := by decide +kernel
theorem dX3_guard_23 : decode cX3_guard 23 = .ok (.ireturn, 1) := by decide +kernel
theorem dX3_fill_0 : decode cX3_fill 0 = .ok (.aload_n 0, 1) := by decide +kernel
theorem dX3_fill_1 : decode cX3_fill 1 = .ok (.getfield 19, 3) := by decide +kernel
theorem dX3_fill_4 : decode cX3_fill 4 = .ok (.aload_n 0, 1) := by decide +kernel
theorem dX3_fill_5 : decode cX3_fill 5 = .ok (.getfield 10, 3) := by decide +kernel
theorem dX3_fill_8 : decode cX3_fill 8 = .ok (.invokevirtual 50, 3) := by decide +kernel
theorem dX3_fill_11 : decode cX3_fill 11 = .ok (.aload_n 0, 1) := by decide +kernel
theorem dX3_fill_12 : decode cX3_fill 12 = .ok (.aload_n 0, 1) := by decide +kernel
theorem dX3_fill_13 : decode cX3_fill 13 = .ok (.getfield 10, 3) := by decide +kernel
theorem dX3_fill_16 : decode cX3_fill 16 = .ok (.iload_n 1, 1) := by decide +kernel
theorem dX3_fill_17 : decode cX3_fill 17 = .ok (.iload_n 2, 1) := by decide +kernel
theorem dX3_fill_18 : decode cX3_fill 18 = .ok (.invokevirtual 72, 3) := by decide +kernel
theorem dX3_fill_21 : decode cX3_fill 21 = .ok (.invokevirtual 58, 3) := by decide +kernel
theorem dX3_fill_24 : decode cX3_fill 24 = .ok (.ireturn, 1) := by decide +kernel
theorem dX3_set_0 : decode cX3_set 0 = .ok (.aload_n 0, 1) := by decide +kernel
theorem dX3_set_1 : decode cX3_set 1 = .ok (.getfield 19, 3) := by decide +kernel
theorem dX3_set_4 : decode cX3_set 4 = .ok (.aload_n 0, 1) := by decide +kernel
theorem dX3_set_5 : decode cX3_set 5 = .ok (.getfield 10, 3) := by decide +kernel
theorem dX3_set_8 : decode cX3_set 8 = .ok (.invokevirtual 50, 3) := by decide +kernel
theorem dX3_set_11 : decode cX3_set 11 = .ok (.aload_n 0, 1) := by decide +kernel
theorem dX3_set_12 : decode cX3_set 12 = .ok (.aload_n 0, 1) := by decide +kernel
theorem dX3_set_13 : decode cX3_set 13 = .ok (.getfield 10, 3) := by decide +kernel
theorem dX3_set_16 : decode cX3_set 16 = .ok (.iload_n 1, 1) := by decide +kernel
theorem dX3_set_17 : decode cX3_set 17 = .ok (.iload_n 2, 1) := by decide +kernel
theorem dX3_set_18 : decode cX3_set 18 = .ok (.invokevirtual 75, 3) := by decide +kernel
theorem dX3_set_21 : decode cX3_set 21 = .ok (.invokevirtual 58, 3) := by decide +kernel
theorem dX3_set_24 : decode cX3_set 24 = .ok (.ireturn, 1) := by decide +kernel
theorem dX3_pass_0 : decode cX3_pass 0 = .ok (.aload_n 0, 1) := by decide +kernel
theorem dX3_pass_1 : decode cX3_pass 1 = .ok (.getfield 19, 3) := by decide +kernel
theorem dX3_pass_4 : decode cX3_pass 4 = .ok (.aload_n 0, 1) := by decide +kernel
theorem dX3_pass_5 : decode cX3_pass 5 = .ok (.getfield 10, 3) := by decide +kernel
theorem dX3_pass_8 : decode cX3_pass 8 = .ok (.invokevirtual 50, 3) := by decide +kernel
theorem dX3_pass_11 : decode cX3_pass 11 = .ok (.aload_n 0, 1) := by decide +kernel
theorem dX3_pass_12 : decode cX3_pass 12 = .ok (.aload_n 0, 1) := by decide +kernel
theorem dX3_pass_13 : decode cX3_pass 13 = .ok (.getfield 10, 3) := by decide +kernel
theorem dX3_pass_16 : decode cX3_pass 16 = .ok (.iload_n 1, 1) := by decide +kernel
theorem dX3_pass_17 : decode cX3_pass 17 = .ok (.invokevirtual 78, 3) := by decide +kernel
theorem dX3_pass_20 : decode cX3_pass 20 = .ok (.invokevirtual 58, 3) := by decide +kernel
theorem dX3_pass_23 : decode cX3_pass 23 = .ok (.ireturn, 1) := by decide +kernel
theorem dX3_keep_0 : decode cX3_keep 0 = .ok (.aload_n 0, 1) := by decide +kernel
theorem dX3_keep_1 : decode cX3_keep 1 = .ok (.getfield 22, 3) := by decide +kernel
theorem dX3_keep_4 : decode cX3_keep 4 = .ok (.aload_n 0, 1) := by decide +kernel
theorem dX3_keep_5 : decode cX3_keep 5 = .ok (.getfield 10, 3) := by decide +kernel
theorem dX3_keep_8 : decode cX3_keep 8 = .ok (.invokevirtual 50, 3) := by decide +kernel
theorem dX3_keep_11 : decode cX3_keep 11 = .ok (.aload_n 0, 1) := by decide +kernel
theorem dX3_keep_12 : decode cX3_keep 12 = .ok (.iconst 1, 1) := by decide +kernel
theorem dX3_keep_13 : decode cX3_keep 13 = .ok (.putfield 40, 3) := by decide +kernel
theorem dX3_keep_16 : decode cX3_keep 16 = .ok (.aload_n 0, 1) := by decide +kernel
theorem dX3_keep_17 : decode cX3_keep 17 = .ok (.getfield 10, 3) := by decide +kernel
theorem dX3_keep_20 : decode cX3_keep 20 = .ok (.getfield 107, 3) := by decide +kernel
theorem dX3_keep_23 : decode cX3_keep 23 = .ok (.ireturn, 1) := by decide +kernel
theorem dX3_restore_0 : decode cX3_restore 0 = .ok (.aload_n 0, 1) := by decide +kernel
theorem dX3_restore_1 : decode cX3_restore 1 = .ok (.getfield 40, 3) := by decide +kernel
theorem dX3_restore_4 : decode cX3_restore 4 = .ok (.ifCond .ne 6, 3) := by decide +kernel
theorem dX3_restore_7 : decode cX3_restore 7 = .ok (.bipush (-5), 2) := by decide +kernel
theorem dX3_restore_9 : decode cX3_restore 9 = .ok (.ireturn, 1) := by decide +kernel
theorem dX3_restore_10 : decode cX3_restore 10 = .ok (.aload_n 0, 1) := by decide +kernel
theorem dX3_restore_11 : decode cX3_restore 11 = .ok (.getfield 19, 3) := by decide +kernel
theorem dX3_restore_14 : decode cX3_restore 14 = .ok (.aload_n 0, 1) := by decide +kernel
theorem dX3_restore_15 : decode cX3_restore 15 = .ok (.getfield 10, 3) := by decide +kernel
theorem dX3_restore_18 : decode cX3_restore 18 = .ok (.invokevirtual 50, 3) := by decide +kernel
theorem dX3_restore_21 : decode cX3_restore 21 = .ok (.aload_n 0, 1) := by decide +kernel
theorem dX3_restore_22 : decode cX3_restore 22 = .ok (.getfield 10, 3) := by decide +kernel
theorem dX3_restore_25 : decode cX3_restore 25 = .ok (.aload_n 0, 1) := by decide +kernel
theorem dX3_restore_26 : decode cX3_restore 26 = .ok (.getfield 22, 3) := by decide +kernel
theorem dX3_restore_29 : decode cX3_restore 29 = .ok (.invokevirtual 50, 3) := by decide +kernel
theorem dX3_restore_32 : decode cX3_restore 32 = .ok (.aload_n 0, 1) := by decide +kernel
theorem dX3_restore_33 : decode cX3_restore 33 = .ok (.aload_n 0, 1) := by decide +kernel
theorem dX3_restore_34 : decode cX3_restore 34 = .ok (.getfield 10, 3) := by decide +kernel
theorem dX3_restore_37 : decode cX3_restore 37 = .ok (.getfield 107, 3) := by decide +kernel
theorem dX3_restore_40 : decode cX3_restore 40 = .ok (.invokevirtual 58, 3) := by decide +kernel
theorem dX3_restore_43 : decode cX3_restore 43 = .ok (.ireturn, 1) := by decide +kernel
theorem dX3_cup_0 : decode cX3_cup 0 = .ok (.aload_n 0, 1) := by decide +kernel
theorem dX3_cup_1 : decode cX3_cup 1 = .ok (.getfield 10, 3) := by decide +kernel
theorem dX3_cup_4 : decode cX3_cup 4 = .ok (.iload_n 1, 1) := by decide +kernel
theorem dX3_cup_5 : decode cX3_cup 5 = .ok (.invokevirtual 110, 3) := by decide +kernel
theorem dX3_cup_8 : decode cX3_cup 8 = .ok (.astore_n 3, 1) := by decide +kernel
theorem dX3_cup_9 : decode cX3_cup 9 = .ok (.aload_n 3, 1) := by decide +kernel
theorem dX3_cup_10 : decode cX3_cup 10 = .ok (.ifnonnull 7, 3) := by decide +kernel
theorem dX3_cup_13 : decode cX3_cup 13 = .ok (.iconst (-1), 1) := by decide +kernel
theorem dX3_cup_14 : decode cX3_cup 14 = .ok (.goto 8, 3) := by decide +kernel
theorem dX3_cup_17 : decode cX3_cup 17 = .ok (.aload_n 3, 1) := by decide +kernel
theorem dX3_cup_18 : decode cX3_cup 18 = .ok (.iload_n 2, 1) := by decide +kernel
theorem dX3_cup_19 : decode cX3_cup 19 = .ok (.invokevirtual 114, 3) := by decide +kernel
theorem dX3_cup_22 : decode cX3_cup 22 = .ok (.ireturn, 1) := by decide +kernel
theorem dX3_reason_0 : decode cX3_reason 0 = .ok (.aload_n 0, 1) := by decide +kernel
theorem dX3_reason_1 : decode cX3_reason 1 = .ok (.getfield 10, 3) := by decide +kernel
theorem dX3_reason_4 : decode cX3_reason 4 = .ok (.iload_n 1, 1) := by decide +kernel
theorem dX3_reason_5 : decode cX3_reason 5 = .ok (.invokevirtual 110, 3) := by decide +kernel
theorem dX3_reason_8 : decode cX3_reason 8 = .ok (.astore_n 2, 1) := by decide +kernel
theorem dX3_reason_9 : decode cX3_reason 9 = .ok (.aload_n 2, 1) := by decide +kernel
theorem dX3_reason_10 : decode cX3_reason 10 = .ok (.ifnonnull 5, 3) := by decide +kernel
theorem dX3_reason_13 : decode cX3_reason 13 = .ok (.iconst (-1), 1) := by decide +kernel
theorem dX3_reason_14 : decode cX3_reason 14 = .ok (.ireturn, 1) := by decide +kernel
theorem dX3_reason_15 : decode cX3_reason 15 = .ok (.aload_n 0, 1) := by decide +kernel
theorem dX3_reason_16 : decode cX3_reason 16 = .ok (.getfield 16, 3) := by decide +kernel
theorem dX3_reason_19 : decode cX3_reason 19 = .ok (.aload_n 0, 1) := by decide +kernel
theorem dX3_reason_20 : decode cX3_reason 20 = .ok (.getfield 10, 3) := by decide +kernel
theorem dX3_reason_23 : decode cX3_reason 23 = .ok (.invokevirtual 50, 3) := by decide +kernel
theorem dX3_reason_26 : decode cX3_reason 26 = .ok (.aload_n 0, 1) := by decide +kernel
theorem dX3_reason_27 : decode cX3_reason 27 = .ok (.getfield 16, 3) := by decide +kernel
theorem dX3_reason_30 : decode cX3_reason 30 = .ok (.invokevirtual 119, 3) := by decide +kernel
theorem dX3_reason_33 : decode cX3_reason 33 = .ok (.pop, 1) := by decide +kernel
theorem dX3_reason_34 : decode cX3_reason 34 = .ok (.aload_n 0, 1) := by decide +kernel
theorem dX3_reason_35 : decode cX3_reason 35 = .ok (.getfield 16, 3) := by decide +kernel
theorem dX3_reason_38 : decode cX3_reason 38 = .ok (.iload_n 1, 1) := by decide +kernel
theorem dX3_reason_39 : decode cX3_reason 39 = .ok (.invokevirtual 110, 3) := by decide +kernel
theorem dX3_reason_42 : decode cX3_reason 42 = .ok (.astore_n 3, 1) := by decide +kernel
theorem dX3_reason_43 : decode cX3_reason 43 = .ok (.aload_n 3, 1) := by decide +kernel
theorem dX3_reason_44 : decode cX3_reason 44 = .ok (.ifnull 16, 3) := by decide +kernel
theorem dX3_reason_47 : decode cX3_reason 47 = .ok (.aload_n 3, 1) := by decide +kernel
theorem dX3_reason_48 : decode cX3_reason 48 = .ok (.getfield 122, 3) := by decide +kernel
theorem dX3_reason_51 : decode cX3_reason 51 = .ok (.aload_n 2, 1) := by decide +kernel
theorem dX3_reason_52 : decode cX3_reason 52 = .ok (.getfield 122, 3) := by decide +kernel
theorem dX3_reason_55 : decode cX3_reason 55 = .ok (.if_icmp .le 5, 3) := by decide +kernel
theorem dX3_reason_58 : decode cX3_reason 58 = .ok (.iconst 0, 1) := by decide +kernel
theorem dX3_reason_59 : decode cX3_reason 59 = .ok (.ireturn, 1) := by decide +kernel
theorem dX3_reason_60 : decode cX3_reason 60 = .ok (.aload_n 2, 1) := by decide +kernel
theorem dX3_reason_61 : decode cX3_reason 61 = .ok (.getfield 125, 3) := by decide +kernel
theorem dX3_reason_64 : decode cX3_reason 64 = .ok (.ifCond .eq 30, 3) := by decide +kernel
theorem dX3_reason_67 : decode cX3_reason 67 = .ok (.aload_n 2, 1) := by decide +kernel
theorem dX3_reason_68 : decode cX3_reason 68 = .ok (.getfield 128, 3) := by decide +kernel
theorem dX3_reason_71 : decode cX3_reason 71 = .ok (.aload_n 0, 1) := by decide +kernel
theorem dX3_reason_72 : decode cX3_reason 72 = .ok (.getfield 10, 3) := by decide +kernel
theorem dX3_reason_75 : decode cX3_reason 75 = .ok (.aload_n 0, 1) := by decide +kernel
theorem dX3_reason_76 : decode cX3_reason 76 = .ok (.getfield 10, 3) := by decide +kernel
theorem dX3_reason_79 : decode cX3_reason 79 = .ok (.getfield 107, 3) := by decide +kernel
theorem dX3_reason_82 : decode cX3_reason 82 = .ok (.invokevirtual 131, 3) := by decide +kernel
theorem dX3_reason_85 : decode cX3_reason 85 = .ok (.if_icmp .ne 7, 3) := by decide +kernel
theorem dX3_reason_88 : decode cX3_reason 88 = .ok (.iconst 3, 1) := by decide +kernel
theorem dX3_reason_89 : decode cX3_reason 89 = .ok (.goto 4, 3) := by decide +kernel
theorem dX3_reason_92 : decode cX3_reason 92 = .ok (.iconst 1, 1) := by decide +kernel
theorem dX3_reason_93 : decode cX3_reason 93 = .ok (.ireturn, 1) := by decide +kernel
theorem dX3_reason_94 : decode cX3_reason 94 = .ok (.aload_n 2, 1) := by decide +kernel
theorem dX3_reason_95 : decode cX3_reason 95 = .ok (.getfield 134, 3) := by decide +kernel
theorem dX3_reason_98 : decode cX3_reason 98 = .ok (.ifCond .eq 7, 3) := by decide +kernel
theorem dX3_reason_101 : decode cX3_reason 101 = .ok (.iconst 3, 1) := by decide +kernel
theorem dX3_reason_102 : decode cX3_reason 102 = .ok (.goto 4, 3) := by decide +kernel
theorem dX3_reason_105 : decode cX3_reason 105 = .ok (.iconst 2, 1) := by decide +kernel
theorem dX3_reason_106 : decode cX3_reason 106 = .ok (.ireturn, 1) := by decide +kernel
theorem dX3_tipsIn_0 : decode cX3_tipsIn 0 = .ok (.aload_n 0, 1) := by decide +kernel
theorem dX3_tipsIn_1 : decode cX3_tipsIn 1 = .ok (.getfield 16, 3) := by decide +kernel
theorem dX3_tipsIn_4 : decode cX3_tipsIn 4 = .ok (.aload_n 0, 1) := by decide +kernel
theorem dX3_tipsIn_5 : decode cX3_tipsIn 5 = .ok (.getfield 10, 3) := by decide +kernel
theorem dX3_tipsIn_8 : decode cX3_tipsIn 8 = .ok (.invokevirtual 50, 3) := by decide +kernel
theorem dX3_tipsIn_11 : decode cX3_tipsIn 11 = .ok (.aload_n 0, 1) := by decide +kernel
theorem dX3_tipsIn_12 : decode cX3_tipsIn 12 = .ok (.iload_n 1, 1) := by decide +kernel
theorem dX3_tipsIn_13 : decode cX3_tipsIn 13 = .ok (.invokevirtual 137, 3) := by decide +kernel
theorem dX3_tipsIn_16 : decode cX3_tipsIn 16 = .ok (.ireturn, 1) := by decide +kernel
theorem dX3_tipsAt_0 : decode cX3_tipsAt 0 = .ok (.aload_n 0, 1) := by decide +kernel
theorem dX3_tipsAt_1 : decode cX3_tipsAt 1 = .ok (.getfield 16, 3) := by decide +kernel
theorem dX3_tipsAt_4 : decode cX3_tipsAt 4 = .ok (.aload_n 0, 1) := by decide +kernel
theorem dX3_tipsAt_5 : decode cX3_tipsAt 5 = .ok (.getfield 10, 3) := by decide +kernel
theorem dX3_tipsAt_8 : decode cX3_tipsAt 8 = .ok (.invokevirtual 50, 3) := by decide +kernel
theorem dX3_tipsAt_11 : decode cX3_tipsAt 11 = .ok (.aload_n 0, 1) := by decide +kernel
theorem dX3_tipsAt_12 : decode cX3_tipsAt 12 = .ok (.iload_n 1, 1) := by decide +kernel
theorem dX3_tipsAt_13 : decode cX3_tipsAt 13 = .ok (.invokevirtual 140, 3) := by decide +kernel
theorem dX3_tipsAt_16 : decode cX3_tipsAt 16 = .ok (.ireturn, 1) := by decide +kernel
theorem dX3_starving_0 : decode cX3_starving 0 = .ok (.aload_n 0, 1) := by decide +kernel
theorem dX3_starving_1 : decode cX3_starving 1 = .ok (.getfield 16, 3) := by decide +kernel
theorem dX3_starving_4 : decode cX3_starving 4 = .ok (.aload_n 0, 1) := by decide +kernel
theorem dX3_starving_5 : decode cX3_starving 5 = .ok (.getfield 10, 3) := by decide +kernel
theorem dX3_starving_8 : decode cX3_starving 8 = .ok (.invokevirtual 50, 3) := by decide +kernel
theorem dX3_starving_11 : decode cX3_starving 11 = .ok (.aload_n 0, 1) := by decide +kernel
theorem dX3_starving_12 : decode cX3_starving 12 = .ok (.getfield 16, 3) := by decide +kernel
theorem dX3_starving_15 : decode cX3_starving 15 = .ok (.sipush 500, 3) := by decide +kernel
theorem dX3_starving_18 : decode cX3_starving 18 = .ok (.invokevirtual 143, 3) := by decide +kernel
theorem dX3_starving_21 : decode cX3_starving 21 = .ok (.pop, 1) := by decide +kernel
theorem dX3_starving_22 : decode cX3_starving 22 = .ok (.iconst 0, 1) := by decide +kernel
theorem dX3_starving_23 : decode cX3_starving 23 = .ok (.istore_n 1, 1) := by decide +kernel
theorem dX3_starving_24 : decode cX3_starving 24 = .ok (.iload_n 1, 1) := by decide +kernel
theorem dX3_starving_25 : decode cX3_starving 25 = .ok (.bipush 8, 2) := by decide +kernel
theorem dX3_starving_27 : decode cX3_starving 27 = .ok (.if_icmp .ge 38, 3) := by decide +kernel
theorem dX3_starving_30 : decode cX3_starving 30 = .ok (.aload_n 0, 1) := by decide +kernel
theorem dX3_starving_31 : decode cX3_starving 31 = .ok (.getfield 16, 3) := by decide +kernel
theorem dX3_starving_34 : decode cX3_starving 34 = .ok (.getfield 146, 3) := by decide +kernel
theorem dX3_starving_37 : decode cX3_starving 37 = .ok (.iload_n 1, 1) := by decide +kernel
theorem dX3_starving_38 : decode cX3_starving 38 = .ok (.aaload, 1) := by decide +kernel
theorem dX3_starving_39 : decode cX3_starving 39 = .ok (.getfield 122, 3) := by decide +kernel
theorem dX3_starving_42 : decode cX3_starving 42 = .ok (.aload_n 0, 1) := by decide +kernel
theorem dX3_starving_43 : decode cX3_starving 43 = .ok (.getfield 10, 3) := by decide +kernel
theorem dX3_starving_46 : decode cX3_starving 46 = .ok (.getfield 146, 3) := by decide +kernel
theorem dX3_starving_49 : decode cX3_starving 49 = .ok (.iload_n 1, 1) := by decide +kernel
theorem dX3_starving_50 : decode cX3_starving 50 = .ok (.aaload, 1) := by decide +kernel
theorem dX3_starving_51 : decode cX3_starving 51 = .ok (.getfield 122, 3) := by decide +kernel
theorem dX3_starving_54 : decode cX3_starving 54 = .ok (.if_icmp .ne 5, 3) := by decide +kernel
theorem dX3_starving_57 : decode cX3_starving 57 = .ok (.iload_n 1, 1) := by decide +kernel
theorem dX3_starving_58 : decode cX3_starving 58 = .ok (.ireturn, 1) := by decide +kernel
theorem dX3_starving_59 : decode cX3_starving 59 = .ok (.iinc 1 1, 3) := by decide +kernel
theorem dX3_starving_62 : decode cX3_starving 62 = .ok (.goto (-38), 3) := by decide +kernel
theorem dX3_starving_65 : decode cX3_starving 65 = .ok (.bipush (-5), 2) := by decide +kernel
theorem dX3_starving_67 : decode cX3_starving 67 = .ok (.ireturn, 1) := by decide +kernel
theorem dX3_bestSize_0 : decode cX3_bestSize 0 = .ok (.aload_n 0, 1) := by decide +kernel
theorem dX3_bestSize_1 : decode cX3_bestSize 1 = .ok (.getfield 16, 3) := by decide +kernel
theorem dX3_bestSize_4 : decode cX3_bestSize 4 = .ok (.aload_n 0, 1) := by decide +kernel
theorem dX3_bestSize_5 : decode cX3_bestSize 5 = .ok (.getfield 10, 3) := by decide +kernel
theorem dX3_bestSize_8 : decode cX3_bestSize 8 = .ok (.invokevirtual 50, 3) := by decide +kernel
theorem dX3_bestSize_11 : decode cX3_bestSize 11 = .ok (.aload_n 0, 1) := by decide +kernel
theorem dX3_bestSize_12 : decode cX3_bestSize 12 = .ok (.getfield 16, 3) := by decide +kernel
theorem dX3_bestSize_15 : decode cX3_bestSize 15 = .ok (.iload_n 1, 1) := by decide +kernel
theorem dX3_bestSize_16 : decode cX3_bestSize 16 = .ok (.invokevirtual 110, 3) := by decide +kernel
theorem dX3_bestSize_19 : decode cX3_bestSize 19 = .ok (.astore_n 2, 1) := by decide +kernel
theorem dX3_bestSize_20 : decode cX3_bestSize 20 = .ok (.aload_n 2, 1) := by decide +kernel
theorem dX3_bestSize_21 : decode cX3_bestSize 21 = .ok (.ifnonnull 5, 3) := by decide +kernel
theorem dX3_bestSize_24 : decode cX3_bestSize 24 = .ok (.iconst (-1), 1) := by decide +kernel
theorem dX3_bestSize_25 : decode cX3_bestSize 25 = .ok (.ireturn, 1) := by decide +kernel
theorem dX3_bestSize_26 : decode cX3_bestSize 26 = .ok (.aload_n 2, 1) := by decide +kernel
theorem dX3_bestSize_27 : decode cX3_bestSize 27 = .ok (.getfield 128, 3) := by decide +kernel
theorem dX3_bestSize_30 : decode cX3_bestSize 30 = .ok (.iconst (-1), 1) := by decide +kernel
theorem dX3_bestSize_31 : decode cX3_bestSize 31 = .ok (.if_icmp .ne 6, 3) := by decide +kernel
theorem dX3_bestSize_34 : decode cX3_bestSize 34 = .ok (.bipush (-4), 2) := by decide +kernel
theorem dX3_bestSize_36 : decode cX3_bestSize 36 = .ok (.ireturn, 1) := by decide +kernel
theorem dX3_bestSize_37 : decode cX3_bestSize 37 = .ok (.aload_n 2, 1) := by decide +kernel
theorem dX3_bestSize_38 : decode cX3_bestSize 38 = .ok (.bipush 100, 2) := by decide +kernel
theorem dX3_bestSize_40 : decode cX3_bestSize 40 = .ok (.putfield 150, 3) := by decide +kernel
theorem dX3_bestSize_43 : decode cX3_bestSize 43 = .ok (.iconst 0, 1) := by decide +kernel
theorem dX3_bestSize_44 : decode cX3_bestSize 44 = .ok (.istore_n 3, 1) := by decide +kernel
theorem dX3_bestSize_45 : decode cX3_bestSize 45 = .ok (.iconst 0, 1) := by decide +kernel
theorem dX3_bestSize_46 : decode cX3_bestSize 46 = .ok (.istore 4, 2) := by decide +kernel
theorem dX3_bestSize_48 : decode cX3_bestSize 48 = .ok (.iload 4, 2) := by decide +kernel
theorem dX3_bestSize_50 : decode cX3_bestSize 50 = .ok (.sipush 500, 3) := by decide +kernel
theorem dX3_bestSize_53 : decode cX3_bestSize 53 = .ok (.if_icmp .ge 77, 3) := by decide +kernel
theorem dX3_bestSize_56 : decode cX3_bestSize 56 = .ok (.iload_n 3, 1) := by decide +kernel
theorem dX3_bestSize_57 : decode cX3_bestSize 57 = .ok (.bipush 99, 2) := by decide +kernel
theorem dX3_bestSize_59 : decode cX3_bestSize 59 = .ok (.if_icmp .ge 71, 3) := by decide +kernel
theorem dX3_bestSize_62 : decode cX3_bestSize 62 = .ok (.aload_n 0, 1) := by decide +kernel
theorem dX3_bestSize_63 : decode cX3_bestSize 63 = .ok (.getfield 16, 3) := by decide +kernel
theorem dX3_bestSize_66 : decode cX3_bestSize 66 = .ok (.aload_n 0, 1) := by decide +kernel
theorem dX3_bestSize_67 : decode cX3_bestSize 67 = .ok (.getfield 16, 3) := by decide +kernel
theorem dX3_bestSize_70 : decode cX3_bestSize 70 = .ok (.getfield 107, 3) := by decide +kernel
theorem dX3_bestSize_73 : decode cX3_bestSize 73 = .ok (.invokevirtual 131, 3) := by decide +kernel
theorem dX3_bestSize_76 : decode cX3_bestSize 76 = .ok (.aload_n 2, 1) := by decide +kernel
theorem dX3_bestSize_77 : decode cX3_bestSize 77 = .ok (.getfield 128, 3) := by decide +kernel
theorem dX3_bestSize_80 : decode cX3_bestSize 80 = .ok (.if_icmp .ne 7, 3) := by decide +kernel
theorem dX3_bestSize_83 : decode cX3_bestSize 83 = .ok (.iconst 1, 1) := by decide +kernel
theorem dX3_bestSize_84 : decode cX3_bestSize 84 = .ok (.goto 4, 3) := by decide +kernel
theorem dX3_bestSize_87 : decode cX3_bestSize 87 = .ok (.iconst 0, 1) := by decide +kernel
theorem dX3_bestSize_88 : decode cX3_bestSize 88 = .ok (.istore 5, 2) := by decide +kernel
theorem dX3_bestSize_90 : decode cX3_bestSize 90 = .ok (.aload_n 0, 1) := by decide +kernel
theorem dX3_bestSize_91 : decode cX3_bestSize 91 = .ok (.getfield 16, 3) := by decide +kernel
theorem dX3_bestSize_94 : decode cX3_bestSize 94 = .ok (.invokevirtual 119, 3) := by decide +kernel
theorem dX3_bestSize_97 : decode cX3_bestSize 97 = .ok (.pop, 1) := by decide +kernel
theorem dX3_bestSize_98 : decode cX3_bestSize 98 = .ok (.iload 5, 2) := by decide +kernel
theorem dX3_bestSize_100 : decode cX3_bestSize 100 = .ok (.ifCond .eq 15, 3) := by decide +kernel
theorem dX3_bestSize_103 : decode cX3_bestSize 103 = .ok (.aload_n 2, 1) := by decide +kernel
theorem dX3_bestSize_104 : decode cX3_bestSize 104 = .ok (.getfield 153, 3) := by decide +kernel
theorem dX3_bestSize_107 : decode cX3_bestSize 107 = .ok (.iload_n 3, 1) := by decide +kernel
theorem dX3_bestSize_108 : decode cX3_bestSize 108 = .ok (.if_icmp .le 7, 3) := by decide +kernel
theorem dX3_bestSize_111 : decode cX3_bestSize 111 = .ok (.iload_n 3, 1) := by decide +kernel
theorem dX3_bestSize_112 : decode cX3_bestSize 112 = .ok (.iconst 1, 1) := by decide +kernel
theorem dX3_bestSize_113 : decode cX3_bestSize 113 = .ok (.iadd, 1) := by decide +kernel
theorem dX3_bestSize_114 : decode cX3_bestSize 114 = .ok (.ireturn, 1) := by decide +kernel
theorem dX3_bestSize_115 : decode cX3_bestSize 115 = .ok (.iload_n 3, 1) := by decide +kernel
theorem dX3_bestSize_116 : decode cX3_bestSize 116 = .ok (.aload_n 2, 1) := by decide +kernel
theorem dX3_bestSize_117 : decode cX3_bestSize 117 = .ok (.getfield 153, 3) := by decide +kernel
theorem dX3_bestSize_120 : decode cX3_bestSize 120 = .ok (.invokestatic 156, 3) := by decide +kernel
theorem dX3_bestSize_123 : decode cX3_bestSize 123 = .ok (.istore_n 3, 1) := by decide +kernel
theorem dX3_bestSize_124 : decode cX3_bestSize 124 = .ok (.iinc 4 1, 3) := by decide +kernel
theorem dX3_bestSize_127 : decode cX3_bestSize 127 = .ok (.goto (-79), 3) := by decide +kernel
theorem dX3_bestSize_130 : decode cX3_bestSize 130 = .ok (.bipush (-5), 2) := by decide +kernel
theorem dX3_bestSize_132 : decode cX3_bestSize 132 = .ok (.ireturn, 1) := by decide +kernel
theorem dX3_ifTicks_0 : decode cX3_ifTicks 0 = .ok (.iload_n 1, 1) := by decide +kernel
theorem dX3_ifTicks_1 : decode cX3_ifTicks 1 = .ok (.iconst 1, 1) := by decide +kernel
theorem dX3_ifTicks_2 : decode cX3_ifTicks 2 = .ok (.sipush 500, 3) := by decide +kernel
theorem dX3_ifTicks_5 : decode cX3_ifTicks 5 = .ok (.invokestatic 103, 3) := by decide +kernel
theorem dX3_ifTicks_8 : decode cX3_ifTicks 8 = .ok (.ifCond .eq 12, 3) := by decide +kernel
theorem dX3_ifTicks_11 : decode cX3_ifTicks 11 = .ok (.iload_n 2, 1) := by decide +kernel
theorem dX3_ifTicks_12 : decode cX3_ifTicks 12 = .ok (.iconst 0, 1) := by decide +kernel
theorem dX3_ifTicks_13 : decode cX3_ifTicks 13 = .ok (.iconst 3, 1) := by decide +kernel
theorem dX3_ifTicks_14 : decode cX3_ifTicks 14 = .ok (.invokestatic 103, 3) := by decide +kernel
theorem dX3_ifTicks_17 : decode cX3_ifTicks 17 = .ok (.ifCond .ne 6, 3) := by decide +kernel
theorem dX3_ifTicks_20 : decode cX3_ifTicks 20 = .ok (.bipush (-2), 2) := by decide +kernel
theorem dX3_ifTicks_22 : decode cX3_ifTicks 22 = .ok (.ireturn, 1) := by decide +kernel
theorem dX3_ifTicks_23 : decode cX3_ifTicks 23 = .ok (.aload_n 0, 1) := by decide +kernel
theorem dX3_ifTicks_24 : decode cX3_ifTicks 24 = .ok (.getfield 16, 3) := by decide +kernel
theorem dX3_ifTicks_27 : decode cX3_ifTicks 27 = .ok (.aload_n 0, 1) := by decide +kernel
theorem dX3_ifTicks_28 : decode cX3_ifTicks 28 = .ok (.getfield 10, 3) := by decide +kernel
theorem dX3_ifTicks_31 : decode cX3_ifTicks 31 = .ok (.invokevirtual 50, 3) := by decide +kernel
theorem dX3_ifTicks_34 : decode cX3_ifTicks 34 = .ok (.aload_n 0, 1) := by decide +kernel
theorem dX3_ifTicks_35 : decode cX3_ifTicks 35 = .ok (.getfield 16, 3) := by decide +kernel
theorem dX3_ifTicks_38 : decode cX3_ifTicks 38 = .ok (.iload_n 1, 1) := by decide +kernel
theorem dX3_ifTicks_39 : decode cX3_ifTicks 39 = .ok (.invokevirtual 143, 3) := by decide +kernel
theorem dX3_ifTicks_42 : decode cX3_ifTicks 42 = .ok (.pop, 1) := by decide +kernel
theorem dX3_ifTicks_43 : decode cX3_ifTicks 43 = .ok (.iload_n 2, 1) := by decide +kernel
theorem dX3_ifTicks_44 : decode cX3_ifTicks 44 = .ok (.iconst 3, 1) := by decide +kernel
theorem dX3_ifTicks_45 : decode cX3_ifTicks 45 = .ok (.if_icmp .ne 8, 3) := by decide +kernel
theorem dX3_ifTicks_48 : decode cX3_ifTicks 48 = .ok (.bipush 8, 2) := by decide +kernel
theorem dX3_ifTicks_50 : decode cX3_ifTicks 50 = .ok (.goto 7, 3) := by decide +kernel
theorem dX3_ifTicks_53 : decode cX3_ifTicks 53 = .ok (.bipush 9, 2) := by decide +kernel
theorem dX3_ifTicks_55 : decode cX3_ifTicks 55 = .ok (.iload_n 2, 1) := by decide +kernel
theorem dX3_ifTicks_56 : decode cX3_ifTicks 56 = .ok (.iadd, 1) := by decide +kernel
theorem dX3_ifTicks_57 : decode cX3_ifTicks 57 = .ok (.istore_n 3, 1) := by decide +kernel
theorem dX3_ifTicks_58 : decode cX3_ifTicks 58 = .ok (.aload_n 0, 1) := by decide +kernel
theorem dX3_ifTicks_59 : decode cX3_ifTicks 59 = .ok (.getfield 16, 3) := by decide +kernel
theorem dX3_ifTicks_62 : decode cX3_ifTicks 62 = .ok (.iload_n 3, 1) := by decide +kernel
theorem dX3_ifTicks_63 : decode cX3_ifTicks 63 = .ok (.invokevirtual 161, 3) := by decide +kernel
theorem dX3_ifTicks_66 : decode cX3_ifTicks 66 = .ok (.aload_n 0, 1) := by decide +kernel
theorem dX3_ifTicks_67 : decode cX3_ifTicks 67 = .ok (.getfield 10, 3) := by decide +kernel
theorem dX3_ifTicks_70 : decode cX3_ifTicks 70 = .ok (.iload_n 3, 1) := by decide +kernel
theorem dX3_ifTicks_71 : decode cX3_ifTicks 71 = .ok (.invokevirtual 161, 3) := by decide +kernel
theorem dX3_ifTicks_74 : decode cX3_ifTicks 74 = .ok (.isub, 1) := by decide +kernel
theorem dX3_ifTicks_75 : decode cX3_ifTicks 75 = .ok (.ireturn, 1) := by decide +kernel
theorem dX3_highest_0 : decode cX3_highest 0 = .ok (.bipush (-5), 2) := by decide +kernel
theorem dX3_highest_2 : decode cX3_highest 2 = .ok (.istore_n 1, 1) := by decide +kernel
theorem dX3_highest_3 : decode cX3_highest 3 = .ok (.iconst 0, 1) := by decide +kernel
theorem dX3_highest_4 : decode cX3_highest 4 = .ok (.istore_n 2, 1) := by decide +kernel
theorem dX3_highest_5 : decode cX3_highest 5 = .ok (.iconst 0, 1) := by decide +kernel
theorem dX3_highest_6 : decode cX3_highest 6 = .ok (.istore_n 3, 1) := by decide +kernel
theorem dX3_highest_7 : decode cX3_highest 7 = .ok (.iload_n 3, 1) := by decide +kernel
theorem dX3_highest_8 : decode cX3_highest 8 = .ok (.bipush 8, 2) := by decide +kernel
theorem dX3_highest_10 : decode cX3_highest 10 = .ok (.if_icmp .ge 40, 3) := by decide +kernel
theorem dX3_highest_13 : decode cX3_highest 13 = .ok (.aload_n 0, 1) := by decide +kernel
theorem dX3_highest_14 : decode cX3_highest 14 = .ok (.getfield 10, 3) := by decide +kernel
theorem dX3_highest_17 : decode cX3_highest 17 = .ok (.getfield 146, 3) := by decide +kernel
theorem dX3_highest_20 : decode cX3_highest 20 = .ok (.iload_n 3, 1) := by decide +kernel
theorem dX3_highest_21 : decode cX3_highest 21 = .ok (.aaload, 1) := by decide +kernel
theorem dX3_highest_22 : decode cX3_highest 22 = .ok (.getfield 164, 3) := by decide +kernel
theorem dX3_highest_25 : decode cX3_highest 25 = .ok (.iload_n 2, 1) := by decide +kernel
theorem dX3_highest_26 : decode cX3_highest 26 = .ok (.if_icmp .le 18, 3) := by decide +kernel
theorem dX3_highest_29 : decode cX3_highest 29 = .ok (.iload_n 3, 1) := by decide +kernel
theorem dX3_highest_30 : decode cX3_highest 30 = .ok (.istore_n 1, 1) := by decide +kernel
theorem dX3_highest_31 : decode cX3_highest 31 = .ok (.aload_n 0, 1) := by decide +kernel
theorem dX3_highest_32 : decode cX3_highest 32 = .ok (.getfield 10, 3) := by decide +kernel
theorem dX3_highest_35 : decode cX3_highest 35 = .ok (.getfield 146, 3) := by decide +kernel
theorem dX3_highest_38 : decode cX3_highest 38 = .ok (.iload_n 3, 1) := by decide +kernel
theorem dX3_highest_39 : decode cX3_highest 39 = .ok (.aaload, 1) := by decide +kernel
theorem dX3_highest_40 : decode cX3_highest 40 = .ok (.getfield 164, 3) := by decide +kernel
theorem dX3_highest_43 : decode cX3_highest 43 = .ok (.istore_n 2, 1) := by decide +kernel
theorem dX3_highest_44 : decode cX3_highest 44 = .ok (.iinc 3 1, 3) := by decide +kernel
theorem dX3_highest_47 : decode cX3_highest 47 = .ok (.goto (-40), 3) := by decide +kernel
theorem dX3_highest_50 : decode cX3_highest 50 = .ok (.iload_n 1, 1) := by decide +kernel
theorem dX3_highest_51 : decode cX3_highest 51 = .ok (.ireturn, 1) := by decide +kernel
theorem dX3_count_0 : decode cX3_count 0 = .ok (.iload_n 1, 1) := by decide +kernel
theorem dX3_count_1 : decode cX3_count 1 = .ok (.lookupswitch 40 #[(13, 27), (14, 32)], 27) := by decide +kernel
theorem dX3_count_28 : decode cX3_count 28 = .ok (.aload_n 0, 1) := by decide +kernel
theorem dX3_count_29 : decode cX3_count 29 = .ok (.getfield 36, 3) := by decide +kernel
theorem dX3_count_32 : decode cX3_count 32 = .ok (.ireturn, 1) := by decide +kernel
theorem dX3_count_33 : decode cX3_count 33 = .ok (.aload_n 0, 1) := by decide +kernel
theorem dX3_count_34 : decode cX3_count 34 = .ok (.getfield 32, 3) := by decide +kernel
theorem dX3_count_37 : decode cX3_count 37 = .ok (.getfield 167, 3) := by decide +kernel
theorem dX3_count_40 : decode cX3_count 40 = .ok (.ireturn, 1) := by decide +kernel
theorem dX3_count_41 : decode cX3_count 41 = .ok (.aload_n 0, 1) := by decide +kernel
theorem dX3_count_42 : decode cX3_count 42 = .ok (.getfield 10, 3) := by decide +kernel
theorem dX3_count_45 : decode cX3_count 45 = .ok (.iload_n 1, 1) := by decide +kernel
theorem dX3_count_46 : decode cX3_count 46 = .ok (.invokevirtual 170, 3) := by decide +kernel
theorem dX3_count_49 : decode cX3_count 49 = .ok (.ireturn, 1) := by decide +kernel
theorem dX3_recorded_0 : decode cX3_recorded 0 = .ok (.iload_n 1, 1) := by decide +kernel
theorem dX3_recorded_1 : decode cX3_recorded 1 = .ok (.ifCond .ge 5, 3) := by decide +kernel
theorem dX3_recorded_4 : decode cX3_recorded 4 = .ok (.iload_n 1, 1) := by decide +kernel
theorem dX3_recorded_5 : decode cX3_recorded 5 = .ok (.ireturn, 1) := by decide +kernel
theorem dX3_recorded_6 : decode cX3_recorded 6 = .ok (.aload_n 0, 1) := by decide +kernel
theorem dX3_recorded_7 : decode cX3_recorded 7 = .ok (.getfield 36, 3) := by decide +kernel
theorem dX3_recorded_10 : decode cX3_recorded 10 = .ok (.iconst 4, 1) := by decide +kernel
theorem dX3_recorded_11 : decode cX3_recorded 11 = .ok (.if_icmp .lt 7, 3) := by decide +kernel
theorem dX3_recorded_14 : decode cX3_recorded 14 = .ok (.aload_n 0, 1) := by decide +kernel
theorem dX3_recorded_15 : decode cX3_recorded 15 = .ok (.invokevirtual 171, 3) := by decide +kernel
theorem dX3_recorded_18 : decode cX3_recorded 18 = .ok (.aload_n 0, 1) := by decide +kernel
theorem dX3_recorded_19 : decode cX3_recorded 19 = .ok (.getfield 25, 3) := by decide +kernel
theorem dX3_recorded_22 : decode cX3_recorded 22 = .ok (.aload_n 0, 1) := by decide +kernel
theorem dX3_recorded_23 : decode cX3_recorded 23 = .ok (.getfield 36, 3) := by decide +kernel
theorem dX3_recorded_26 : decode cX3_recorded 26 = .ok (.aaload, 1) := by decide +kernel
theorem dX3_recorded_27 : decode cX3_recorded 27 = .ok (.aload_n 0, 1) := by decide +kernel
theorem dX3_recorded_28 : decode cX3_recorded 28 = .ok (.getfield 19, 3) := by decide +kernel
theorem dX3_recorded_31 : decode cX3_recorded 31 = .ok (.invokevirtual 50, 3) := by decide +kernel
theorem dX3_recorded_34 : decode cX3_recorded 34 = .ok (.aload_n 0, 1) := by decide +kernel
theorem dX3_recorded_35 : decode cX3_recorded 35 = .ok (.dup, 1) := by decide +kernel
theorem dX3_recorded_36 : decode cX3_recorded 36 = .ok (.getfield 36, 3) := by decide +kernel
theorem dX3_recorded_39 : decode cX3_recorded 39 = .ok (.iconst 1, 1) := by decide +kernel
theorem dX3_recorded_40 : decode cX3_recorded 40 = .ok (.iadd, 1) := by decide +kernel
theorem dX3_recorded_41 : decode cX3_recorded 41 = .ok (.putfield 36, 3) := by decide +kernel
theorem dX3_recorded_44 : decode cX3_recorded 44 = .ok (.iload_n 1, 1) := by decide +kernel
theorem dX3_recorded_45 : decode cX3_recorded 45 = .ok (.ireturn, 1) := by decide +kernel
theorem dX3_dropOldest_0 : decode cX3_dropOldest 0 = .ok (.aload_n 0, 1) := by decide +kernel
theorem dX3_dropOldest_1 : decode cX3_dropOldest 1 = .ok (.getfield 25, 3) := by decide +kernel
theorem dX3_dropOldest_4 : decode cX3_dropOldest 4 = .ok (.iconst 0, 1) := by decide +kernel
theorem dX3_dropOldest_5 : decode cX3_dropOldest 5 = .ok (.aaload, 1) := by decide +kernel
theorem dX3_dropOldest_6 : decode cX3_dropOldest 6 = .ok (.astore_n 1, 1) := by decide +kernel
theorem dX3_dropOldest_7 : decode cX3_dropOldest 7 = .ok (.iconst 1, 1) := by decide +kernel
theorem dX3_dropOldest_8 : decode cX3_dropOldest 8 = .ok (.istore_n 2, 1) := by decide +kernel
theorem dX3_dropOldest_9 : decode cX3_dropOldest 9 = .ok (.iload_n 2, 1) := by decide +kernel
theorem dX3_dropOldest_10 : decode cX3_dropOldest 10 = .ok (.iconst 4, 1) := by decide +kernel
theorem dX3_dropOldest_11 : decode cX3_dropOldest 11 = .ok (.if_icmp .ge 23, 3) := by decide +kernel
theorem dX3_dropOldest_14 : decode cX3_dropOldest 14 = .ok (.aload_n 0, 1) := by decide +kernel
theorem dX3_dropOldest_15 : decode cX3_dropOldest 15 = .ok (.getfield 25, 3) := by decide +kernel
theorem dX3_dropOldest_18 : decode cX3_dropOldest 18 = .ok (.iload_n 2, 1) := by decide +kernel
theorem dX3_dropOldest_19 : decode cX3_dropOldest 19 = .ok (.iconst 1, 1) := by decide +kernel
theorem dX3_dropOldest_20 : decode cX3_dropOldest 20 = .ok (.isub, 1) := by decide +kernel
theorem dX3_dropOldest_21 : decode cX3_dropOldest 21 = .ok (.aload_n 0, 1) := by decide +kernel
theorem dX3_dropOldest_22 : decode cX3_dropOldest 22 = .ok (.getfield 25, 3) := by decide +kernel
theorem dX3_dropOldest_25 : decode cX3_dropOldest 25 = .ok (.iload_n 2, 1) := by decide +kernel
theorem dX3_dropOldest_26 : decode cX3_dropOldest 26 = .ok (.aaload, 1) := by decide +kernel
theorem dX3_dropOldest_27 : decode cX3_dropOldest 27 = .ok (.aastore, 1) := by decide +kernel
theorem dX3_dropOldest_28 : decode cX3_dropOldest 28 = .ok (.iinc 2 1, 3) := by decide +kernel
theorem dX3_dropOldest_31 : decode cX3_dropOldest 31 = .ok (.goto (-22), 3) := by decide +kernel
theorem dX3_dropOldest_34 : decode cX3_dropOldest 34 = .ok (.aload_n 0, 1) := by decide +kernel
theorem dX3_dropOldest_35 : decode cX3_dropOldest 35 = .ok (.getfield 25, 3) := by decide +kernel
theorem dX3_dropOldest_38 : decode cX3_dropOldest 38 = .ok (.iconst 3, 1) := by decide +kernel
theorem dX3_dropOldest_39 : decode cX3_dropOldest 39 = .ok (.aload_n 1, 1) := by decide +kernel
theorem dX3_dropOldest_40 : decode cX3_dropOldest 40 = .ok (.aastore, 1) := by decide +kernel
theorem dX3_dropOldest_41 : decode cX3_dropOldest 41 = .ok (.aload_n 0, 1) := by decide +kernel
theorem dX3_dropOldest_42 : decode cX3_dropOldest 42 = .ok (.iconst 3, 1) := by decide +kernel
theorem dX3_dropOldest_43 : decode cX3_dropOldest 43 = .ok (.putfield 36, 3) := by decide +kernel
theorem dX3_dropOldest_46 : decode cX3_dropOldest 46 = .ok (.return_, 1) := by decide +kernel
theorem dX3_ticksTillTip_0 : decode cX3_ticksTillTip 0 = .ok (.aload_n 0, 1) := by decide +kernel
theorem dX3_ticksTillTip_1 : decode cX3_ticksTillTip 1 = .ok (.getfield 16, 3) := by decide +kernel
theorem dX3_ticksTillTip_4 : decode cX3_ticksTillTip 4 = .ok (.iload_n 1, 1) := by decide +kernel
theorem dX3_ticksTillTip_5 : decode cX3_ticksTillTip 5 = .ok (.invokevirtual 110, 3) := by decide +kernel
theorem dX3_ticksTillTip_8 : decode cX3_ticksTillTip 8 = .ok (.astore_n 2, 1) := by decide +kernel
theorem dX3_ticksTillTip_9 : decode cX3_ticksTillTip 9 = .ok (.aload_n 2, 1) := by decide +kernel
theorem dX3_ticksTillTip_10 : decode cX3_ticksTillTip 10 = .ok (.ifnonnull 5, 3) := by decide +kernel
theorem dX3_ticksTillTip_13 : decode cX3_ticksTillTip 13 = .ok (.iconst (-1), 1) := by decide +kernel
theorem dX3_ticksTillTip_14 : decode cX3_ticksTillTip 14 = .ok (.ireturn, 1) := by decide +kernel
theorem dX3_ticksTillTip_15 : decode cX3_ticksTillTip 15 = .ok (.aload_n 2, 1) := by decide +kernel
theorem dX3_ticksTillTip_16 : decode cX3_ticksTillTip 16 = .ok (.getfield 122, 3) := by decide +kernel
theorem dX3_ticksTillTip_19 : decode cX3_ticksTillTip 19 = .ok (.istore_n 3, 1) := by decide +kernel
theorem dX3_ticksTillTip_20 : decode cX3_ticksTillTip 20 = .ok (.iconst 1, 1) := by decide +kernel
theorem dX3_ticksTillTip_21 : decode cX3_ticksTillTip 21 = .ok (.istore 4, 2) := by decide +kernel
theorem dX3_ticksTillTip_23 : decode cX3_ticksTillTip 23 = .ok (.iload 4, 2) := by decide +kernel
theorem dX3_ticksTillTip_25 : decode cX3_ticksTillTip 25 = .ok (.sipush 500, 3) := by decide +kernel
theorem dX3_ticksTillTip_28 : decode cX3_ticksTillTip 28 = .ok (.if_icmp .gt 28, 3) := by decide +kernel
theorem dX3_ticksTillTip_31 : decode cX3_ticksTillTip 31 = .ok (.aload_n 0, 1) := by decide +kernel
theorem dX3_ticksTillTip_32 : decode cX3_ticksTillTip 32 = .ok (.getfield 16, 3) := by decide +kernel
theorem dX3_ticksTillTip_35 : decode cX3_ticksTillTip 35 = .ok (.invokevirtual 119, 3) := by decide +kernel
theorem dX3_ticksTillTip_38 : decode cX3_ticksTillTip 38 = .ok (.pop, 1) := by decide +kernel
theorem dX3_ticksTillTip_39 : decode cX3_ticksTillTip 39 = .ok (.aload_n 2, 1) := by decide +kernel
theorem dX3_ticksTillTip_40 : decode cX3_ticksTillTip 40 = .ok (.getfield 122, 3) := by decide +kernel
theorem dX3_ticksTillTip_43 : decode cX3_ticksTillTip 43 = .ok (.iload_n 3, 1) := by decide +kernel
theorem dX3_ticksTillTip_44 : decode cX3_ticksTillTip 44 = .ok (.if_icmp .le 6, 3) := by decide +kernel
theorem dX3_ticksTillTip_47 : decode cX3_ticksTillTip 47 = .ok (.iload 4, 2) := by decide +kernel
theorem dX3_ticksTillTip_49 : decode cX3_ticksTillTip 49 = .ok (.ireturn, 1) := by decide +kernel
theorem dX3_ticksTillTip_50 : decode cX3_ticksTillTip 50 = .ok (.iinc 4 1, 3) := by decide +kernel
theorem dX3_ticksTillTip_53 : decode cX3_ticksTillTip 53 = .ok (.goto (-30), 3) := by decide +kernel
theorem dX3_ticksTillTip_56 : decode cX3_ticksTillTip 56 = .ok (.bipush (-5), 2) := by decide +kernel
theorem dX3_ticksTillTip_58 : decode cX3_ticksTillTip 58 = .ok (.ireturn, 1) := by decide +kernel
theorem dX3_hourOfTip_0 : decode cX3_hourOfTip 0 = .ok (.aload_n 0, 1) := by decide +kernel
theorem dX3_hourOfTip_1 : decode cX3_hourOfTip 1 = .ok (.iload_n 1, 1) := by decide +kernel
theorem dX3_hourOfTip_2 : decode cX3_hourOfTip 2 = .ok (.invokevirtual 137, 3) := by decide +kernel
theorem dX3_hourOfTip_5 : decode cX3_hourOfTip 5 = .ok (.istore_n 2, 1) := by decide +kernel
theorem dX3_hourOfTip_6 : decode cX3_hourOfTip 6 = .ok (.iload_n 2, 1) := by decide +kernel
theorem dX3_hourOfTip_7 : decode cX3_hourOfTip 7 = .ok (.ifCond .ge 7, 3) := by decide +kernel
theorem dX3_hourOfTip_10 : decode cX3_hourOfTip 10 = .ok (.iload_n 2, 1) := by decide +kernel
theorem dX3_hourOfTip_11 : decode cX3_hourOfTip 11 = .ok (.goto 19, 3) := by decide +kernel
theorem dX3_hourOfTip_14 : decode cX3_hourOfTip 14 = .ok (.aload_n 0, 1) := by decide +kernel
theorem dX3_hourOfTip_15 : decode cX3_hourOfTip 15 = .ok (.getfield 16, 3) := by decide +kernel
theorem dX3_hourOfTip_18 : decode cX3_hourOfTip 18 = .ok (.aload_n 0, 1) := by decide +kernel
theorem dX3_hourOfTip_19 : decode cX3_hourOfTip 19 = .ok (.getfield 16, 3) := by decide +kernel
theorem dX3_hourOfTip_22 : decode cX3_hourOfTip 22 = .ok (.getfield 107, 3) := by decide +kernel
theorem dX3_hourOfTip_25 : decode cX3_hourOfTip 25 = .ok (.iconst 1, 1) := by decide +kernel
theorem dX3_hourOfTip_26 : decode cX3_hourOfTip 26 = .ok (.isub, 1) := by decide +kernel
theorem dX3_hourOfTip_27 : decode cX3_hourOfTip 27 = .ok (.invokevirtual 131, 3) := by decide +kernel
theorem dX3_hourOfTip_30 : decode cX3_hourOfTip 30 = .ok (.ireturn, 1) := by decide +kernel
theorem dX3_isWithin_0 : decode cX3_isWithin 0 = .ok (.iload_n 0, 1) := by decide +kernel
theorem dX3_isWithin_1 : decode cX3_isWithin 1 = .ok (.iload_n 1, 1) := by decide +kernel
theorem dX3_isWithin_2 : decode cX3_isWithin 2 = .ok (.if_icmp .lt 12, 3) := by decide +kernel
theorem dX3_isWithin_5 : decode cX3_isWithin 5 = .ok (.iload_n 0, 1) := by decide +kernel
theorem dX3_isWithin_6 : decode cX3_isWithin 6 = .ok (.iload_n 2, 1) := by decide +kernel
theorem dX3_isWithin_7 : decode cX3_isWithin 7 = .ok (.if_icmp .gt 7, 3) := by decide +kernel
theorem dX3_isWithin_10 : decode cX3_isWithin 10 = .ok (.iconst 1, 1) := by decide +kernel
theorem dX3_isWithin_11 : decode cX3_isWithin 11 = .ok (.goto 4, 3) := by decide +kernel
theorem dX3_isWithin_14 : decode cX3_isWithin 14 = .ok (.iconst 0, 1) := by decide +kernel
theorem dX3_isWithin_15 : decode cX3_isWithin 15 = .ok (.ireturn, 1) := by decide +kernel
theorem dX3_asNumber_0 : decode cX3_asNumber 0 = .ok (.iload_n 0, 1) := by decide +kernel
theorem dX3_asNumber_1 : decode cX3_asNumber 1 = .ok (.ifCond .eq 7, 3) := by decide +kernel
theorem dX3_asNumber_4 : decode cX3_asNumber 4 = .ok (.iconst 1, 1) := by decide +kernel
theorem dX3_asNumber_5 : decode cX3_asNumber 5 = .ok (.goto 4, 3) := by decide +kernel
theorem dX3_asNumber_8 : decode cX3_asNumber 8 = .ok (.iconst 0, 1) := by decide +kernel
theorem dX3_asNumber_9 : decode cX3_asNumber 9 = .ok (.ireturn, 1) := by decide +kernel
