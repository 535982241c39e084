theorem dL_cell_0 : decode cL_cell 0 = .ok (.iload_n 1, 1) := by decide +kernel
theorem dL_cell_1 : decode cL_cell 1 = .ok (.aload_n 0, 1) := by decide +kernel
theorem dL_cell_2 : decode cL_cell 2 = .ok (.arraylength, 1) := by decide +kernel
theorem dL_cell_3 : decode cL_cell 3 = .ok (.if_icmp .ge 9, 3) := by decide +kernel
theorem dL_cell_6 : decode cL_cell 6 = .ok (.aload_n 0, 1) := by decide +kernel
theorem dL_cell_7 : decode cL_cell 7 = .ok (.iload_n 1, 1) := by decide +kernel
theorem dL_cell_8 : decode cL_cell 8 = .ok (.iaload, 1) := by decide +kernel
theorem dL_cell_9 : decode cL_cell 9 = .ok (.goto 12, 3) := by decide +kernel
theorem dL_cell_12 : decode cL_cell 12 = .ok (.ldc 7, 2) := by decide +kernel
theorem dL_cell_14 : decode cL_cell 14 = .ok (.iload_n 1, 1) := by decide +kernel
theorem dL_cell_15 : decode cL_cell 15 = .ok (.iconst 5, 1) := by decide +kernel
theorem dL_cell_16 : decode cL_cell 16 = .ok (.iadd, 1) := by decide +kernel
theorem dL_cell_17 : decode cL_cell 17 = .ok (.imul, 1) := by decide +kernel
theorem dL_cell_18 : decode cL_cell 18 = .ok (.ldc 8, 2) := by decide +kernel
theorem dL_cell_20 : decode cL_cell 20 = .ok (.iadd, 1) := by decide +kernel
theorem dL_cell_21 : decode cL_cell 21 = .ok (.ireturn, 1) := by decide +kernel
theorem dL_low_0 : decode cL_low 0 = .ok (.iload_n 0, 1) := by decide +kernel
theorem dL_low_1 : decode cL_low 1 = .ok (.ldc 9, 2) := by decide +kernel
theorem dL_low_3 : decode cL_low 3 = .ok (.iand, 1) := by decide +kernel
theorem dL_low_4 : decode cL_low 4 = .ok (.iload_n 1, 1) := by decide +kernel
theorem dL_low_5 : decode cL_low 5 = .ok (.irem, 1) := by decide +kernel
theorem dL_low_6 : decode cL_low 6 = .ok (.ireturn, 1) := by decide +kernel
theorem dL_isCup_0 : decode cL_isCup 0 = .ok (.aload_n 0, 1) := by decide +kernel
theorem dL_isCup_1 : decode cL_isCup 1 = .ok (.iload_n 1, 1) := by decide +kernel
theorem dL_isCup_2 : decode cL_isCup 2 = .ok (.iconst 4, 1) := by decide +kernel
theorem dL_isCup_3 : decode cL_isCup 3 = .ok (.invokevirtual 10, 3) := by decide +kernel
theorem dL_isCup_6 : decode cL_isCup 6 = .ok (.istore_n 2, 1) := by decide +kernel
theorem dL_isCup_7 : decode cL_isCup 7 = .ok (.aload_n 0, 1) := by decide +kernel
theorem dL_isCup_8 : decode cL_isCup 8 = .ok (.iload_n 1, 1) := by decide +kernel
theorem dL_isCup_9 : decode cL_isCup 9 = .ok (.bipush 8, 2) := by decide +kernel
theorem dL_isCup_11 : decode cL_isCup 11 = .ok (.invokevirtual 10, 3) := by decide +kernel
theorem dL_isCup_14 : decode cL_isCup 14 = .ok (.istore_n 3, 1) := by decide +kernel
theorem dL_isCup_15 : decode cL_isCup 15 = .ok (.aload_n 0, 1) := by decide +kernel
theorem dL_isCup_16 : decode cL_isCup 16 = .ok (.iload_n 1, 1) := by decide +kernel
theorem dL_isCup_17 : decode cL_isCup 17 = .ok (.bipush 9, 2) := by decide +kernel
theorem dL_isCup_19 : decode cL_isCup 19 = .ok (.invokevirtual 10, 3) := by decide +kernel
theorem dL_isCup_22 : decode cL_isCup 22 = .ok (.aload_n 0, 1) := by decide +kernel
theorem dL_isCup_23 : decode cL_isCup 23 = .ok (.iload_n 1, 1) := by decide +kernel
theorem dL_isCup_24 : decode cL_isCup 24 = .ok (.bipush 10, 2) := by decide +kernel
theorem dL_isCup_26 : decode cL_isCup 26 = .ok (.invokevirtual 10, 3) := by decide +kernel
theorem dL_isCup_29 : decode cL_isCup 29 = .ok (.iadd, 1) := by decide +kernel
theorem dL_isCup_30 : decode cL_isCup 30 = .ok (.aload_n 0, 1) := by decide +kernel
theorem dL_isCup_31 : decode cL_isCup 31 = .ok (.iload_n 1, 1) := by decide +kernel
theorem dL_isCup_32 : decode cL_isCup 32 = .ok (.bipush 11, 2) := by decide +kernel
theorem dL_isCup_34 : decode cL_isCup 34 = .ok (.invokevirtual 10, 3) := by decide +kernel
theorem dL_isCup_37 : decode cL_isCup 37 = .ok (.iadd, 1) := by decide +kernel
theorem dL_isCup_38 : decode cL_isCup 38 = .ok (.istore 4, 2) := by decide +kernel
theorem dL_isCup_40 : decode cL_isCup 40 = .ok (.aload_n 0, 1) := by decide +kernel
theorem dL_isCup_41 : decode cL_isCup 41 = .ok (.iload_n 1, 1) := by decide +kernel
theorem dL_isCup_42 : decode cL_isCup 42 = .ok (.iconst 0, 1) := by decide +kernel
theorem dL_isCup_43 : decode cL_isCup 43 = .ok (.invokevirtual 10, 3) := by decide +kernel
theorem dL_isCup_46 : decode cL_isCup 46 = .ok (.iconst 1, 1) := by decide +kernel
theorem dL_isCup_47 : decode cL_isCup 47 = .ok (.if_icmp .lt 144, 3) := by decide +kernel
theorem dL_isCup_50 : decode cL_isCup 50 = .ok (.aload_n 0, 1) := by decide +kernel
theorem dL_isCup_51 : decode cL_isCup 51 = .ok (.iload_n 1, 1) := by decide +kernel
theorem dL_isCup_52 : decode cL_isCup 52 = .ok (.iconst 0, 1) := by decide +kernel
theorem dL_isCup_53 : decode cL_isCup 53 = .ok (.invokevirtual 10, 3) := by decide +kernel
theorem dL_isCup_56 : decode cL_isCup 56 = .ok (.bipush 99, 2) := by decide +kernel
theorem dL_isCup_58 : decode cL_isCup 58 = .ok (.if_icmp .gt 133, 3) := by decide +kernel
theorem dL_isCup_61 : decode cL_isCup 61 = .ok (.aload_n 0, 1) := by decide +kernel
theorem dL_isCup_62 : decode cL_isCup 62 = .ok (.iload_n 1, 1) := by decide +kernel
theorem dL_isCup_63 : decode cL_isCup 63 = .ok (.iconst 1, 1) := by decide +kernel
theorem dL_isCup_64 : decode cL_isCup 64 = .ok (.invokevirtual 10, 3) := by decide +kernel
theorem dL_isCup_67 : decode cL_isCup 67 = .ok (.ifCond .lt 124, 3) := by decide +kernel
theorem dL_isCup_70 : decode cL_isCup 70 = .ok (.aload_n 0, 1) := by decide +kernel
theorem dL_isCup_71 : decode cL_isCup 71 = .ok (.iload_n 1, 1) := by decide +kernel
theorem dL_isCup_72 : decode cL_isCup 72 = .ok (.iconst 1, 1) := by decide +kernel
theorem dL_isCup_73 : decode cL_isCup 73 = .ok (.invokevirtual 10, 3) := by decide +kernel
theorem dL_isCup_76 : decode cL_isCup 76 = .ok (.bipush 9, 2) := by decide +kernel
theorem dL_isCup_78 : decode cL_isCup 78 = .ok (.if_icmp .gt 113, 3) := by decide +kernel
theorem dL_isCup_81 : decode cL_isCup 81 = .ok (.aload_n 0, 1) := by decide +kernel
theorem dL_isCup_82 : decode cL_isCup 82 = .ok (.iload_n 1, 1) := by decide +kernel
theorem dL_isCup_83 : decode cL_isCup 83 = .ok (.iconst 2, 1) := by decide +kernel
theorem dL_isCup_84 : decode cL_isCup 84 = .ok (.invokevirtual 10, 3) := by decide +kernel
theorem dL_isCup_87 : decode cL_isCup 87 = .ok (.iload_n 1, 1) := by decide +kernel
theorem dL_isCup_88 : decode cL_isCup 88 = .ok (.if_icmp .le 103, 3) := by decide +kernel
theorem dL_isCup_91 : decode cL_isCup 91 = .ok (.aload_n 0, 1) := by decide +kernel
theorem dL_isCup_92 : decode cL_isCup 92 = .ok (.iload_n 1, 1) := by decide +kernel
theorem dL_isCup_93 : decode cL_isCup 93 = .ok (.iconst 2, 1) := by decide +kernel
theorem dL_isCup_94 : decode cL_isCup 94 = .ok (.invokevirtual 10, 3) := by decide +kernel
theorem dL_isCup_97 : decode cL_isCup 97 = .ok (.bipush 8, 2) := by decide +kernel
theorem dL_isCup_99 : decode cL_isCup 99 = .ok (.if_icmp .gt 92, 3) := by decide +kernel
theorem dL_isCup_102 : decode cL_isCup 102 = .ok (.aload_n 0, 1) := by decide +kernel
theorem dL_isCup_103 : decode cL_isCup 103 = .ok (.iload_n 1, 1) := by decide +kernel
theorem dL_isCup_104 : decode cL_isCup 104 = .ok (.iconst 3, 1) := by decide +kernel
theorem dL_isCup_105 : decode cL_isCup 105 = .ok (.invokevirtual 10, 3) := by decide +kernel
theorem dL_isCup_108 : decode cL_isCup 108 = .ok (.ifCond .lt 83, 3) := by decide +kernel
theorem dL_isCup_111 : decode cL_isCup 111 = .ok (.aload_n 0, 1) := by decide +kernel
theorem dL_isCup_112 : decode cL_isCup 112 = .ok (.iload_n 1, 1) := by decide +kernel
theorem dL_isCup_113 : decode cL_isCup 113 = .ok (.iconst 3, 1) := by decide +kernel
theorem dL_isCup_114 : decode cL_isCup 114 = .ok (.invokevirtual 10, 3) := by decide +kernel
theorem dL_isCup_117 : decode cL_isCup 117 = .ok (.sipush 9999, 3) := by decide +kernel
theorem dL_isCup_120 : decode cL_isCup 120 = .ok (.if_icmp .gt 71, 3) := by decide +kernel
theorem dL_isCup_123 : decode cL_isCup 123 = .ok (.aload_n 0, 1) := by decide +kernel
theorem dL_isCup_124 : decode cL_isCup 124 = .ok (.iload_n 1, 1) := by decide +kernel
theorem dL_isCup_125 : decode cL_isCup 125 = .ok (.bipush 7, 2) := by decide +kernel
theorem dL_isCup_127 : decode cL_isCup 127 = .ok (.invokevirtual 10, 3) := by decide +kernel
theorem dL_isCup_130 : decode cL_isCup 130 = .ok (.ifCond .lt 61, 3) := by decide +kernel
theorem dL_isCup_133 : decode cL_isCup 133 = .ok (.aload_n 0, 1) := by decide +kernel
theorem dL_isCup_134 : decode cL_isCup 134 = .ok (.iload_n 1, 1) := by decide +kernel
theorem dL_isCup_135 : decode cL_isCup 135 = .ok (.bipush 7, 2) := by decide +kernel
theorem dL_isCup_137 : decode cL_isCup 137 = .ok (.invokevirtual 10, 3) := by decide +kernel
theorem dL_isCup_140 : decode cL_isCup 140 = .ok (.bipush 30, 2) := by decide +kernel
theorem dL_isCup_142 : decode cL_isCup 142 = .ok (.if_icmp .gt 49, 3) := by decide +kernel
theorem dL_isCup_145 : decode cL_isCup 145 = .ok (.aload_n 0, 1) := by decide +kernel
theorem dL_isCup_146 : decode cL_isCup 146 = .ok (.iload_n 1, 1) := by decide +kernel
theorem dL_isCup_147 : decode cL_isCup 147 = .ok (.bipush 6, 2) := by decide +kernel
theorem dL_isCup_149 : decode cL_isCup 149 = .ok (.invokevirtual 10, 3) := by decide +kernel
theorem dL_isCup_152 : decode cL_isCup 152 = .ok (.ifCond .eq 16, 3) := by decide +kernel
theorem dL_isCup_155 : decode cL_isCup 155 = .ok (.iload_n 2, 1) := by decide +kernel
theorem dL_isCup_156 : decode cL_isCup 156 = .ok (.ifCond .lt 35, 3) := by decide +kernel
theorem dL_isCup_159 : decode cL_isCup 159 = .ok (.aload_n 0, 1) := by decide +kernel
theorem dL_isCup_160 : decode cL_isCup 160 = .ok (.iload_n 1, 1) := by decide +kernel
theorem dL_isCup_161 : decode cL_isCup 161 = .ok (.iconst 5, 1) := by decide +kernel
theorem dL_isCup_162 : decode cL_isCup 162 = .ok (.invokevirtual 10, 3) := by decide +kernel
theorem dL_isCup_165 : decode cL_isCup 165 = .ok (.ifCond .ne 26, 3) := by decide +kernel
theorem dL_isCup_168 : decode cL_isCup 168 = .ok (.iload_n 2, 1) := by decide +kernel
theorem dL_isCup_169 : decode cL_isCup 169 = .ok (.bipush (-5), 2) := by decide +kernel
theorem dL_isCup_171 : decode cL_isCup 171 = .ok (.if_icmp .lt 20, 3) := by decide +kernel
theorem dL_isCup_174 : decode cL_isCup 174 = .ok (.iload_n 2, 1) := by decide +kernel
theorem dL_isCup_175 : decode cL_isCup 175 = .ok (.sipush 240, 3) := by decide +kernel
theorem dL_isCup_178 : decode cL_isCup 178 = .ok (.if_icmp .ge 13, 3) := by decide +kernel
theorem dL_isCup_181 : decode cL_isCup 181 = .ok (.iload 4, 2) := by decide +kernel
theorem dL_isCup_183 : decode cL_isCup 183 = .ok (.iload_n 3, 1) := by decide +kernel
theorem dL_isCup_184 : decode cL_isCup 184 = .ok (.if_icmp .gt 7, 3) := by decide +kernel
theorem dL_isCup_187 : decode cL_isCup 187 = .ok (.iconst 1, 1) := by decide +kernel
theorem dL_isCup_188 : decode cL_isCup 188 = .ok (.goto 4, 3) := by decide +kernel
theorem dL_isCup_191 : decode cL_isCup 191 = .ok (.iconst 0, 1) := by decide +kernel
theorem dL_isCup_192 : decode cL_isCup 192 = .ok (.ireturn, 1) := by decide +kernel
theorem dL_holds_0 : decode cL_holds 0 = .ok (.iconst 0, 1) := by decide +kernel
theorem dL_holds_1 : decode cL_holds 1 = .ok (.istore_n 1, 1) := by decide +kernel
theorem dL_holds_2 : decode cL_holds 2 = .ok (.iconst 0, 1) := by decide +kernel
theorem dL_holds_3 : decode cL_holds 3 = .ok (.istore_n 2, 1) := by decide +kernel
theorem dL_holds_4 : decode cL_holds 4 = .ok (.iconst 0, 1) := by decide +kernel
theorem dL_holds_5 : decode cL_holds 5 = .ok (.istore_n 3, 1) := by decide +kernel
theorem dL_holds_6 : decode cL_holds 6 = .ok (.iconst 0, 1) := by decide +kernel
theorem dL_holds_7 : decode cL_holds 7 = .ok (.istore 4, 2) := by decide +kernel
theorem dL_holds_9 : decode cL_holds 9 = .ok (.aload_n 0, 1) := by decide +kernel
theorem dL_holds_10 : decode cL_holds 10 = .ok (.invokevirtual 16, 3) := by decide +kernel
theorem dL_holds_13 : decode cL_holds 13 = .ok (.istore 5, 2) := by decide +kernel
theorem dL_holds_15 : decode cL_holds 15 = .ok (.iconst 0, 1) := by decide +kernel
theorem dL_holds_16 : decode cL_holds 16 = .ok (.istore 6, 2) := by decide +kernel
theorem dL_holds_18 : decode cL_holds 18 = .ok (.iload 6, 2) := by decide +kernel
theorem dL_holds_20 : decode cL_holds 20 = .ok (.bipush 8, 2) := by decide +kernel
theorem dL_holds_22 : decode cL_holds 22 = .ok (.if_icmp .ge 143, 3) := by decide +kernel
theorem dL_holds_25 : decode cL_holds 25 = .ok (.iload_n 1, 1) := by decide +kernel
theorem dL_holds_26 : decode cL_holds 26 = .ok (.aload_n 0, 1) := by decide +kernel
theorem dL_holds_27 : decode cL_holds 27 = .ok (.iload 6, 2) := by decide +kernel
theorem dL_holds_29 : decode cL_holds 29 = .ok (.iconst 3, 1) := by decide +kernel
theorem dL_holds_30 : decode cL_holds 30 = .ok (.invokevirtual 10, 3) := by decide +kernel
theorem dL_holds_33 : decode cL_holds 33 = .ok (.iadd, 1) := by decide +kernel
theorem dL_holds_34 : decode cL_holds 34 = .ok (.istore_n 1, 1) := by decide +kernel
theorem dL_holds_35 : decode cL_holds 35 = .ok (.iload_n 2, 1) := by decide +kernel
theorem dL_holds_36 : decode cL_holds 36 = .ok (.aload_n 0, 1) := by decide +kernel
theorem dL_holds_37 : decode cL_holds 37 = .ok (.iload 6, 2) := by decide +kernel
theorem dL_holds_39 : decode cL_holds 39 = .ok (.bipush 8, 2) := by decide +kernel
theorem dL_holds_41 : decode cL_holds 41 = .ok (.invokevirtual 10, 3) := by decide +kernel
theorem dL_holds_44 : decode cL_holds 44 = .ok (.iadd, 1) := by decide +kernel
theorem dL_holds_45 : decode cL_holds 45 = .ok (.istore_n 2, 1) := by decide +kernel
theorem dL_holds_46 : decode cL_holds 46 = .ok (.iload_n 3, 1) := by decide +kernel
theorem dL_holds_47 : decode cL_holds 47 = .ok (.aload_n 0, 1) := by decide +kernel
theorem dL_holds_48 : decode cL_holds 48 = .ok (.iload 6, 2) := by decide +kernel
theorem dL_holds_50 : decode cL_holds 50 = .ok (.bipush 9, 2) := by decide +kernel
theorem dL_holds_52 : decode cL_holds 52 = .ok (.invokevirtual 10, 3) := by decide +kernel
theorem dL_holds_55 : decode cL_holds 55 = .ok (.iadd, 1) := by decide +kernel
theorem dL_holds_56 : decode cL_holds 56 = .ok (.istore_n 3, 1) := by decide +kernel
theorem dL_holds_57 : decode cL_holds 57 = .ok (.iload 4, 2) := by decide +kernel
theorem dL_holds_59 : decode cL_holds 59 = .ok (.aload_n 0, 1) := by decide +kernel
theorem dL_holds_60 : decode cL_holds 60 = .ok (.iload 6, 2) := by decide +kernel
theorem dL_holds_62 : decode cL_holds 62 = .ok (.iconst 3, 1) := by decide +kernel
theorem dL_holds_63 : decode cL_holds 63 = .ok (.invokevirtual 10, 3) := by decide +kernel
theorem dL_holds_66 : decode cL_holds 66 = .ok (.aload_n 0, 1) := by decide +kernel
theorem dL_holds_67 : decode cL_holds 67 = .ok (.iload 6, 2) := by decide +kernel
theorem dL_holds_69 : decode cL_holds 69 = .ok (.iconst 0, 1) := by decide +kernel
theorem dL_holds_70 : decode cL_holds 70 = .ok (.invokevirtual 10, 3) := by decide +kernel
theorem dL_holds_73 : decode cL_holds 73 = .ok (.if_icmp .lt 7, 3) := by decide +kernel
theorem dL_holds_76 : decode cL_holds 76 = .ok (.iconst 1, 1) := by decide +kernel
theorem dL_holds_77 : decode cL_holds 77 = .ok (.goto 4, 3) := by decide +kernel
theorem dL_holds_80 : decode cL_holds 80 = .ok (.iconst 0, 1) := by decide +kernel
theorem dL_holds_81 : decode cL_holds 81 = .ok (.iadd, 1) := by decide +kernel
theorem dL_holds_82 : decode cL_holds 82 = .ok (.istore 4, 2) := by decide +kernel
theorem dL_holds_84 : decode cL_holds 84 = .ok (.aload_n 0, 1) := by decide +kernel
theorem dL_holds_85 : decode cL_holds 85 = .ok (.iload 6, 2) := by decide +kernel
theorem dL_holds_87 : decode cL_holds 87 = .ok (.invokestatic 20, 3) := by decide +kernel
theorem dL_holds_90 : decode cL_holds 90 = .ok (.ifCond .eq 67, 3) := by decide +kernel
theorem dL_holds_93 : decode cL_holds 93 = .ok (.iload 5, 2) := by decide +kernel
theorem dL_holds_95 : decode cL_holds 95 = .ok (.ifCond .ge 17, 3) := by decide +kernel
theorem dL_holds_98 : decode cL_holds 98 = .ok (.aload_n 0, 1) := by decide +kernel
theorem dL_holds_99 : decode cL_holds 99 = .ok (.iload 6, 2) := by decide +kernel
theorem dL_holds_101 : decode cL_holds 101 = .ok (.bipush 7, 2) := by decide +kernel
theorem dL_holds_103 : decode cL_holds 103 = .ok (.invokevirtual 10, 3) := by decide +kernel
theorem dL_holds_106 : decode cL_holds 106 = .ok (.ifCond .le 53, 3) := by decide +kernel
theorem dL_holds_109 : decode cL_holds 109 = .ok (.goto 48, 3) := by decide +kernel
theorem dL_holds_112 : decode cL_holds 112 = .ok (.aload_n 0, 1) := by decide +kernel
theorem dL_holds_113 : decode cL_holds 113 = .ok (.iload 6, 2) := by decide +kernel
theorem dL_holds_115 : decode cL_holds 115 = .ok (.bipush 7, 2) := by decide +kernel
theorem dL_holds_117 : decode cL_holds 117 = .ok (.invokevirtual 10, 3) := by decide +kernel
theorem dL_holds_120 : decode cL_holds 120 = .ok (.aload_n 0, 1) := by decide +kernel
theorem dL_holds_121 : decode cL_holds 121 = .ok (.iload 5, 2) := by decide +kernel
theorem dL_holds_123 : decode cL_holds 123 = .ok (.bipush 7, 2) := by decide +kernel
theorem dL_holds_125 : decode cL_holds 125 = .ok (.invokevirtual 10, 3) := by decide +kernel
theorem dL_holds_128 : decode cL_holds 128 = .ok (.if_icmp .gt 29, 3) := by decide +kernel
theorem dL_holds_131 : decode cL_holds 131 = .ok (.iload 6, 2) := by decide +kernel
theorem dL_holds_133 : decode cL_holds 133 = .ok (.iload 5, 2) := by decide +kernel
theorem dL_holds_135 : decode cL_holds 135 = .ok (.if_icmp .ge 24, 3) := by decide +kernel
theorem dL_holds_138 : decode cL_holds 138 = .ok (.aload_n 0, 1) := by decide +kernel
theorem dL_holds_139 : decode cL_holds 139 = .ok (.iload 6, 2) := by decide +kernel
theorem dL_holds_141 : decode cL_holds 141 = .ok (.bipush 7, 2) := by decide +kernel
theorem dL_holds_143 : decode cL_holds 143 = .ok (.invokevirtual 10, 3) := by decide +kernel
theorem dL_holds_146 : decode cL_holds 146 = .ok (.aload_n 0, 1) := by decide +kernel
theorem dL_holds_147 : decode cL_holds 147 = .ok (.iload 5, 2) := by decide +kernel
theorem dL_holds_149 : decode cL_holds 149 = .ok (.bipush 7, 2) := by decide +kernel
theorem dL_holds_151 : decode cL_holds 151 = .ok (.invokevirtual 10, 3) := by decide +kernel
theorem dL_holds_154 : decode cL_holds 154 = .ok (.if_icmp .ne 5, 3) := by decide +kernel
theorem dL_holds_157 : decode cL_holds 157 = .ok (.iconst 0, 1) := by decide +kernel
theorem dL_holds_158 : decode cL_holds 158 = .ok (.ireturn, 1) := by decide +kernel
theorem dL_holds_159 : decode cL_holds 159 = .ok (.iinc 6 1, 3) := by decide +kernel
theorem dL_holds_162 : decode cL_holds 162 = .ok (.goto (-144), 3) := by decide +kernel
theorem dL_holds_165 : decode cL_holds 165 = .ok (.aload_n 0, 1) := by decide +kernel
theorem dL_holds_166 : decode cL_holds 166 = .ok (.iconst 5, 1) := by decide +kernel
theorem dL_holds_167 : decode cL_holds 167 = .ok (.invokevirtual 26, 3) := by decide +kernel
theorem dL_holds_170 : decode cL_holds 170 = .ok (.aload_n 0, 1) := by decide +kernel
theorem dL_holds_171 : decode cL_holds 171 = .ok (.bipush 6, 2) := by decide +kernel
theorem dL_holds_173 : decode cL_holds 173 = .ok (.invokevirtual 26, 3) := by decide +kernel
theorem dL_holds_176 : decode cL_holds 176 = .ok (.iadd, 1) := by decide +kernel
theorem dL_holds_177 : decode cL_holds 177 = .ok (.iload_n 1, 1) := by decide +kernel
theorem dL_holds_178 : decode cL_holds 178 = .ok (.aload_n 0, 1) := by decide +kernel
theorem dL_holds_179 : decode cL_holds 179 = .ok (.iconst 3, 1) := by decide +kernel
theorem dL_holds_180 : decode cL_holds 180 = .ok (.invokevirtual 26, 3) := by decide +kernel
theorem dL_holds_183 : decode cL_holds 183 = .ok (.iadd, 1) := by decide +kernel
theorem dL_holds_184 : decode cL_holds 184 = .ok (.aload_n 0, 1) := by decide +kernel
theorem dL_holds_185 : decode cL_holds 185 = .ok (.iconst 4, 1) := by decide +kernel
theorem dL_holds_186 : decode cL_holds 186 = .ok (.invokevirtual 26, 3) := by decide +kernel
theorem dL_holds_189 : decode cL_holds 189 = .ok (.iadd, 1) := by decide +kernel
theorem dL_holds_190 : decode cL_holds 190 = .ok (.if_icmp .ne 81, 3) := by decide +kernel
theorem dL_holds_193 : decode cL_holds 193 = .ok (.aload_n 0, 1) := by decide +kernel
theorem dL_holds_194 : decode cL_holds 194 = .ok (.iconst 2, 1) := by decide +kernel
theorem dL_holds_195 : decode cL_holds 195 = .ok (.invokevirtual 26, 3) := by decide +kernel
theorem dL_holds_198 : decode cL_holds 198 = .ok (.iload_n 1, 1) := by decide +kernel
theorem dL_holds_199 : decode cL_holds 199 = .ok (.if_icmp .ne 72, 3) := by decide +kernel
theorem dL_holds_202 : decode cL_holds 202 = .ok (.aload_n 0, 1) := by decide +kernel
theorem dL_holds_203 : decode cL_holds 203 = .ok (.bipush 7, 2) := by decide +kernel
theorem dL_holds_205 : decode cL_holds 205 = .ok (.invokevirtual 26, 3) := by decide +kernel
theorem dL_holds_208 : decode cL_holds 208 = .ok (.iload_n 2, 1) := by decide +kernel
theorem dL_holds_209 : decode cL_holds 209 = .ok (.if_icmp .ne 62, 3) := by decide +kernel
theorem dL_holds_212 : decode cL_holds 212 = .ok (.aload_n 0, 1) := by decide +kernel
theorem dL_holds_213 : decode cL_holds 213 = .ok (.bipush 8, 2) := by decide +kernel
theorem dL_holds_215 : decode cL_holds 215 = .ok (.invokevirtual 26, 3) := by decide +kernel
theorem dL_holds_218 : decode cL_holds 218 = .ok (.iload_n 3, 1) := by decide +kernel
theorem dL_holds_219 : decode cL_holds 219 = .ok (.if_icmp .ne 52, 3) := by decide +kernel
theorem dL_holds_222 : decode cL_holds 222 = .ok (.aload_n 0, 1) := by decide +kernel
theorem dL_holds_223 : decode cL_holds 223 = .ok (.bipush 9, 2) := by decide +kernel
theorem dL_holds_225 : decode cL_holds 225 = .ok (.invokevirtual 26, 3) := by decide +kernel
theorem dL_holds_228 : decode cL_holds 228 = .ok (.iload 4, 2) := by decide +kernel
theorem dL_holds_230 : decode cL_holds 230 = .ok (.if_icmp .ne 41, 3) := by decide +kernel
theorem dL_holds_233 : decode cL_holds 233 = .ok (.aload_n 0, 1) := by decide +kernel
theorem dL_holds_234 : decode cL_holds 234 = .ok (.iconst 1, 1) := by decide +kernel
theorem dL_holds_235 : decode cL_holds 235 = .ok (.invokevirtual 26, 3) := by decide +kernel
theorem dL_holds_238 : decode cL_holds 238 = .ok (.aload_n 0, 1) := by decide +kernel
theorem dL_holds_239 : decode cL_holds 239 = .ok (.iconst 0, 1) := by decide +kernel
theorem dL_holds_240 : decode cL_holds 240 = .ok (.invokevirtual 26, 3) := by decide +kernel
theorem dL_holds_243 : decode cL_holds 243 = .ok (.aload_n 0, 1) := by decide +kernel
theorem dL_holds_244 : decode cL_holds 244 = .ok (.bipush 12, 2) := by decide +kernel
theorem dL_holds_246 : decode cL_holds 246 = .ok (.invokevirtual 26, 3) := by decide +kernel
theorem dL_holds_249 : decode cL_holds 249 = .ok (.irem, 1) := by decide +kernel
theorem dL_holds_250 : decode cL_holds 250 = .ok (.if_icmp .ne 21, 3) := by decide +kernel
theorem dL_holds_253 : decode cL_holds 253 = .ok (.aload_n 0, 1) := by decide +kernel
theorem dL_holds_254 : decode cL_holds 254 = .ok (.iconst 1, 1) := by decide +kernel
theorem dL_holds_255 : decode cL_holds 255 = .ok (.invokevirtual 26, 3) := by decide +kernel
theorem dL_holds_258 : decode cL_holds 258 = .ok (.aload_n 0, 1) := by decide +kernel
theorem dL_holds_259 : decode cL_holds 259 = .ok (.bipush 12, 2) := by decide +kernel
theorem dL_holds_261 : decode cL_holds 261 = .ok (.invokevirtual 26, 3) := by decide +kernel
theorem dL_holds_264 : decode cL_holds 264 = .ok (.if_icmp .ge 7, 3) := by decide +kernel
theorem dL_holds_267 : decode cL_holds 267 = .ok (.iconst 1, 1) := by decide +kernel
theorem dL_holds_268 : decode cL_holds 268 = .ok (.goto 4, 3) := by decide +kernel
theorem dL_holds_271 : decode cL_holds 271 = .ok (.iconst 0, 1) := by decide +kernel
theorem dL_holds_272 : decode cL_holds 272 = .ok (.ireturn, 1) := by decide +kernel
theorem dL_ticks_0 : decode cL_ticks 0 = .ok (.bipush 8, 2) := by decide +kernel
theorem dL_ticks_2 : decode cL_ticks 2 = .ok (.newarray .int, 2) := by decide +kernel
theorem dL_ticks_4 : decode cL_ticks 4 = .ok (.astore_n 1, 1) := by decide +kernel
theorem dL_ticks_5 : decode cL_ticks 5 = .ok (.bipush 32, 2) := by decide +kernel
theorem dL_ticks_7 : decode cL_ticks 7 = .ok (.newarray .int, 2) := by decide +kernel
theorem dL_ticks_9 : decode cL_ticks 9 = .ok (.astore_n 2, 1) := by decide +kernel
theorem dL_ticks_10 : decode cL_ticks 10 = .ok (.aload_n 0, 1) := by decide +kernel
theorem dL_ticks_11 : decode cL_ticks 11 = .ok (.iconst 1, 1) := by decide +kernel
theorem dL_ticks_12 : decode cL_ticks 12 = .ok (.invokevirtual 26, 3) := by decide +kernel
theorem dL_ticks_15 : decode cL_ticks 15 = .ok (.istore_n 3, 1) := by decide +kernel
theorem dL_ticks_16 : decode cL_ticks 16 = .ok (.iconst 0, 1) := by decide +kernel
theorem dL_ticks_17 : decode cL_ticks 17 = .ok (.istore 4, 2) := by decide +kernel
theorem dL_ticks_19 : decode cL_ticks 19 = .ok (.iconst 0, 1) := by decide +kernel
theorem dL_ticks_20 : decode cL_ticks 20 = .ok (.istore 5, 2) := by decide +kernel
theorem dL_ticks_22 : decode cL_ticks 22 = .ok (.iload 5, 2) := by decide +kernel
theorem dL_ticks_24 : decode cL_ticks 24 = .ok (.bipush 8, 2) := by decide +kernel
theorem dL_ticks_26 : decode cL_ticks 26 = .ok (.if_icmp .ge 180, 3) := by decide +kernel
theorem dL_ticks_29 : decode cL_ticks 29 = .ok (.aload_n 1, 1) := by decide +kernel
theorem dL_ticks_30 : decode cL_ticks 30 = .ok (.iload 5, 2) := by decide +kernel
theorem dL_ticks_32 : decode cL_ticks 32 = .ok (.aload_n 0, 1) := by decide +kernel
theorem dL_ticks_33 : decode cL_ticks 33 = .ok (.iload 5, 2) := by decide +kernel
theorem dL_ticks_35 : decode cL_ticks 35 = .ok (.invokevirtual 30, 3) := by decide +kernel
theorem dL_ticks_38 : decode cL_ticks 38 = .ok (.iastore, 1) := by decide +kernel
theorem dL_ticks_39 : decode cL_ticks 39 = .ok (.aload_n 0, 1) := by decide +kernel
theorem dL_ticks_40 : decode cL_ticks 40 = .ok (.iload 5, 2) := by decide +kernel
theorem dL_ticks_42 : decode cL_ticks 42 = .ok (.bipush 6, 2) := by decide +kernel
theorem dL_ticks_44 : decode cL_ticks 44 = .ok (.invokevirtual 10, 3) := by decide +kernel
theorem dL_ticks_47 : decode cL_ticks 47 = .ok (.iconst 1, 1) := by decide +kernel
theorem dL_ticks_48 : decode cL_ticks 48 = .ok (.if_icmp .ne 18, 3) := by decide +kernel
theorem dL_ticks_51 : decode cL_ticks 51 = .ok (.aload_n 0, 1) := by decide +kernel
theorem dL_ticks_52 : decode cL_ticks 52 = .ok (.iload 5, 2) := by decide +kernel
theorem dL_ticks_54 : decode cL_ticks 54 = .ok (.iconst 4, 1) := by decide +kernel
theorem dL_ticks_55 : decode cL_ticks 55 = .ok (.invokevirtual 10, 3) := by decide +kernel
theorem dL_ticks_58 : decode cL_ticks 58 = .ok (.iload_n 3, 1) := by decide +kernel
theorem dL_ticks_59 : decode cL_ticks 59 = .ok (.if_icmp .eq 7, 3) := by decide +kernel
theorem dL_ticks_62 : decode cL_ticks 62 = .ok (.iconst 1, 1) := by decide +kernel
theorem dL_ticks_63 : decode cL_ticks 63 = .ok (.goto 4, 3) := by decide +kernel
theorem dL_ticks_66 : decode cL_ticks 66 = .ok (.iconst 0, 1) := by decide +kernel
theorem dL_ticks_67 : decode cL_ticks 67 = .ok (.istore 6, 2) := by decide +kernel
theorem dL_ticks_69 : decode cL_ticks 69 = .ok (.aload_n 0, 1) := by decide +kernel
theorem dL_ticks_70 : decode cL_ticks 70 = .ok (.iload 5, 2) := by decide +kernel
theorem dL_ticks_72 : decode cL_ticks 72 = .ok (.bipush 6, 2) := by decide +kernel
theorem dL_ticks_74 : decode cL_ticks 74 = .ok (.invokevirtual 10, 3) := by decide +kernel
theorem dL_ticks_77 : decode cL_ticks 77 = .ok (.ifCond .ne 17, 3) := by decide +kernel
theorem dL_ticks_80 : decode cL_ticks 80 = .ok (.aload_n 0, 1) := by decide +kernel
theorem dL_ticks_81 : decode cL_ticks 81 = .ok (.iload 5, 2) := by decide +kernel
theorem dL_ticks_83 : decode cL_ticks 83 = .ok (.iconst 5, 1) := by decide +kernel
theorem dL_ticks_84 : decode cL_ticks 84 = .ok (.invokevirtual 10, 3) := by decide +kernel
theorem dL_ticks_87 : decode cL_ticks 87 = .ok (.ifCond .ne 7, 3) := by decide +kernel
theorem dL_ticks_90 : decode cL_ticks 90 = .ok (.iconst 1, 1) := by decide +kernel
theorem dL_ticks_91 : decode cL_ticks 91 = .ok (.goto 4, 3) := by decide +kernel
theorem dL_ticks_94 : decode cL_ticks 94 = .ok (.iconst 0, 1) := by decide +kernel
theorem dL_ticks_95 : decode cL_ticks 95 = .ok (.istore 7, 2) := by decide +kernel
theorem dL_ticks_97 : decode cL_ticks 97 = .ok (.aload_n 1, 1) := by decide +kernel
theorem dL_ticks_98 : decode cL_ticks 98 = .ok (.iload 5, 2) := by decide +kernel
theorem dL_ticks_100 : decode cL_ticks 100 = .ok (.iaload, 1) := by decide +kernel
theorem dL_ticks_101 : decode cL_ticks 101 = .ok (.iconst 1, 1) := by decide +kernel
theorem dL_ticks_102 : decode cL_ticks 102 = .ok (.if_icmp .ne 7, 3) := by decide +kernel
theorem dL_ticks_105 : decode cL_ticks 105 = .ok (.iconst 1, 1) := by decide +kernel
theorem dL_ticks_106 : decode cL_ticks 106 = .ok (.goto 4, 3) := by decide +kernel
theorem dL_ticks_109 : decode cL_ticks 109 = .ok (.iconst 0, 1) := by decide +kernel
theorem dL_ticks_110 : decode cL_ticks 110 = .ok (.iload 6, 2) := by decide +kernel
theorem dL_ticks_112 : decode cL_ticks 112 = .ok (.if_icmp .ne 51, 3) := by decide +kernel
theorem dL_ticks_115 : decode cL_ticks 115 = .ok (.aload_n 1, 1) := by decide +kernel
theorem dL_ticks_116 : decode cL_ticks 116 = .ok (.iload 5, 2) := by decide +kernel
theorem dL_ticks_118 : decode cL_ticks 118 = .ok (.iaload, 1) := by decide +kernel
theorem dL_ticks_119 : decode cL_ticks 119 = .ok (.iconst 2, 1) := by decide +kernel
theorem dL_ticks_120 : decode cL_ticks 120 = .ok (.if_icmp .ne 7, 3) := by decide +kernel
theorem dL_ticks_123 : decode cL_ticks 123 = .ok (.iconst 1, 1) := by decide +kernel
theorem dL_ticks_124 : decode cL_ticks 124 = .ok (.goto 4, 3) := by decide +kernel
theorem dL_ticks_127 : decode cL_ticks 127 = .ok (.iconst 0, 1) := by decide +kernel
theorem dL_ticks_128 : decode cL_ticks 128 = .ok (.iload 7, 2) := by decide +kernel
theorem dL_ticks_130 : decode cL_ticks 130 = .ok (.if_icmp .ne 33, 3) := by decide +kernel
theorem dL_ticks_133 : decode cL_ticks 133 = .ok (.aload_n 1, 1) := by decide +kernel
theorem dL_ticks_134 : decode cL_ticks 134 = .ok (.iload 5, 2) := by decide +kernel
theorem dL_ticks_136 : decode cL_ticks 136 = .ok (.iaload, 1) := by decide +kernel
theorem dL_ticks_137 : decode cL_ticks 137 = .ok (.ifCond .ne 7, 3) := by decide +kernel
theorem dL_ticks_140 : decode cL_ticks 140 = .ok (.iconst 1, 1) := by decide +kernel
theorem dL_ticks_141 : decode cL_ticks 141 = .ok (.goto 4, 3) := by decide +kernel
theorem dL_ticks_144 : decode cL_ticks 144 = .ok (.iconst 0, 1) := by decide +kernel
theorem dL_ticks_145 : decode cL_ticks 145 = .ok (.aload_n 0, 1) := by decide +kernel
theorem dL_ticks_146 : decode cL_ticks 146 = .ok (.iload 5, 2) := by decide +kernel
theorem dL_ticks_148 : decode cL_ticks 148 = .ok (.invokevirtual 33, 3) := by decide +kernel
theorem dL_ticks_151 : decode cL_ticks 151 = .ok (.iconst 1, 1) := by decide +kernel
theorem dL_ticks_152 : decode cL_ticks 152 = .ok (.if_icmp .ne 7, 3) := by decide +kernel
theorem dL_ticks_155 : decode cL_ticks 155 = .ok (.iconst 1, 1) := by decide +kernel
theorem dL_ticks_156 : decode cL_ticks 156 = .ok (.goto 4, 3) := by decide +kernel
theorem dL_ticks_159 : decode cL_ticks 159 = .ok (.iconst 0, 1) := by decide +kernel
theorem dL_ticks_160 : decode cL_ticks 160 = .ok (.if_icmp .eq 5, 3) := by decide +kernel
theorem dL_ticks_163 : decode cL_ticks 163 = .ok (.iconst 0, 1) := by decide +kernel
theorem dL_ticks_164 : decode cL_ticks 164 = .ok (.ireturn, 1) := by decide +kernel
theorem dL_ticks_165 : decode cL_ticks 165 = .ok (.iconst 0, 1) := by decide +kernel
theorem dL_ticks_166 : decode cL_ticks 166 = .ok (.istore 8, 2) := by decide +kernel
theorem dL_ticks_168 : decode cL_ticks 168 = .ok (.iload 8, 2) := by decide +kernel
theorem dL_ticks_170 : decode cL_ticks 170 = .ok (.iconst 4, 1) := by decide +kernel
theorem dL_ticks_171 : decode cL_ticks 171 = .ok (.if_icmp .ge 29, 3) := by decide +kernel
theorem dL_ticks_174 : decode cL_ticks 174 = .ok (.aload_n 2, 1) := by decide +kernel
theorem dL_ticks_175 : decode cL_ticks 175 = .ok (.iconst 4, 1) := by decide +kernel
theorem dL_ticks_176 : decode cL_ticks 176 = .ok (.iload 5, 2) := by decide +kernel
theorem dL_ticks_178 : decode cL_ticks 178 = .ok (.imul, 1) := by decide +kernel
theorem dL_ticks_179 : decode cL_ticks 179 = .ok (.iload 8, 2) := by decide +kernel
theorem dL_ticks_181 : decode cL_ticks 181 = .ok (.iadd, 1) := by decide +kernel
theorem dL_ticks_182 : decode cL_ticks 182 = .ok (.aload_n 0, 1) := by decide +kernel
theorem dL_ticks_183 : decode cL_ticks 183 = .ok (.iload 5, 2) := by decide +kernel
theorem dL_ticks_185 : decode cL_ticks 185 = .ok (.bipush 8, 2) := by decide +kernel
theorem dL_ticks_187 : decode cL_ticks 187 = .ok (.iload 8, 2) := by decide +kernel
theorem dL_ticks_189 : decode cL_ticks 189 = .ok (.iadd, 1) := by decide +kernel
theorem dL_ticks_190 : decode cL_ticks 190 = .ok (.invokevirtual 10, 3) := by decide +kernel
theorem dL_ticks_193 : decode cL_ticks 193 = .ok (.iastore, 1) := by decide +kernel
theorem dL_ticks_194 : decode cL_ticks 194 = .ok (.iinc 8 1, 3) := by decide +kernel
theorem dL_ticks_197 : decode cL_ticks 197 = .ok (.goto (-29), 3) := by decide +kernel
theorem dL_ticks_200 : decode cL_ticks 200 = .ok (.iinc 5 1, 3) := by decide +kernel
theorem dL_ticks_203 : decode cL_ticks 203 = .ok (.goto (-181), 3) := by decide +kernel
theorem dL_ticks_206 : decode cL_ticks 206 = .ok (.aload_n 0, 1) := by decide +kernel
theorem dL_ticks_207 : decode cL_ticks 207 = .ok (.iconst 1, 1) := by decide +kernel
theorem dL_ticks_208 : decode cL_ticks 208 = .ok (.invokevirtual 36, 3) := by decide +kernel
theorem dL_ticks_211 : decode cL_ticks 211 = .ok (.istore 5, 2) := by decide +kernel
theorem dL_ticks_213 : decode cL_ticks 213 = .ok (.iconst 0, 1) := by decide +kernel
theorem dL_ticks_214 : decode cL_ticks 214 = .ok (.istore 6, 2) := by decide +kernel
theorem dL_ticks_216 : decode cL_ticks 216 = .ok (.iload 6, 2) := by decide +kernel
theorem dL_ticks_218 : decode cL_ticks 218 = .ok (.bipush 8, 2) := by decide +kernel
theorem dL_ticks_220 : decode cL_ticks 220 = .ok (.if_icmp .ge 263, 3) := by decide +kernel
theorem dL_ticks_223 : decode cL_ticks 223 = .ok (.aload_n 0, 1) := by decide +kernel
theorem dL_ticks_224 : decode cL_ticks 224 = .ok (.iload 6, 2) := by decide +kernel
theorem dL_ticks_226 : decode cL_ticks 226 = .ok (.iconst 4, 1) := by decide +kernel
theorem dL_ticks_227 : decode cL_ticks 227 = .ok (.invokevirtual 10, 3) := by decide +kernel
theorem dL_ticks_230 : decode cL_ticks 230 = .ok (.istore 7, 2) := by decide +kernel
theorem dL_ticks_232 : decode cL_ticks 232 = .ok (.aload_n 0, 1) := by decide +kernel
theorem dL_ticks_233 : decode cL_ticks 233 = .ok (.iload 6, 2) := by decide +kernel
theorem dL_ticks_235 : decode cL_ticks 235 = .ok (.bipush 8, 2) := by decide +kernel
theorem dL_ticks_237 : decode cL_ticks 237 = .ok (.invokevirtual 10, 3) := by decide +kernel
theorem dL_ticks_240 : decode cL_ticks 240 = .ok (.aload_n 2, 1) := by decide +kernel
theorem dL_ticks_241 : decode cL_ticks 241 = .ok (.iconst 4, 1) := by decide +kernel
theorem dL_ticks_242 : decode cL_ticks 242 = .ok (.iload 6, 2) := by decide +kernel
theorem dL_ticks_244 : decode cL_ticks 244 = .ok (.imul, 1) := by decide +kernel
theorem dL_ticks_245 : decode cL_ticks 245 = .ok (.iaload, 1) := by decide +kernel
theorem dL_ticks_246 : decode cL_ticks 246 = .ok (.isub, 1) := by decide +kernel
theorem dL_ticks_247 : decode cL_ticks 247 = .ok (.istore 8, 2) := by decide +kernel
theorem dL_ticks_249 : decode cL_ticks 249 = .ok (.iload 4, 2) := by decide +kernel
theorem dL_ticks_251 : decode cL_ticks 251 = .ok (.iload 8, 2) := by decide +kernel
theorem dL_ticks_253 : decode cL_ticks 253 = .ok (.iadd, 1) := by decide +kernel
theorem dL_ticks_254 : decode cL_ticks 254 = .ok (.istore 4, 2) := by decide +kernel
theorem dL_ticks_256 : decode cL_ticks 256 = .ok (.iload 8, 2) := by decide +kernel
theorem dL_ticks_258 : decode cL_ticks 258 = .ok (.aload_n 1, 1) := by decide +kernel
theorem dL_ticks_259 : decode cL_ticks 259 = .ok (.iload 6, 2) := by decide +kernel
theorem dL_ticks_261 : decode cL_ticks 261 = .ok (.iaload, 1) := by decide +kernel
theorem dL_ticks_262 : decode cL_ticks 262 = .ok (.ifCond .ne 7, 3) := by decide +kernel
theorem dL_ticks_265 : decode cL_ticks 265 = .ok (.iconst 1, 1) := by decide +kernel
theorem dL_ticks_266 : decode cL_ticks 266 = .ok (.goto 4, 3) := by decide +kernel
theorem dL_ticks_269 : decode cL_ticks 269 = .ok (.iconst 0, 1) := by decide +kernel
theorem dL_ticks_270 : decode cL_ticks 270 = .ok (.if_icmp .ne 173, 3) := by decide +kernel
theorem dL_ticks_273 : decode cL_ticks 273 = .ok (.iload 8, 2) := by decide +kernel
theorem dL_ticks_275 : decode cL_ticks 275 = .ok (.iconst 1, 1) := by decide +kernel
theorem dL_ticks_276 : decode cL_ticks 276 = .ok (.if_icmp .eq 14, 3) := by decide +kernel
theorem dL_ticks_279 : decode cL_ticks 279 = .ok (.aload_n 0, 1) := by decide +kernel
theorem dL_ticks_280 : decode cL_ticks 280 = .ok (.iload 6, 2) := by decide +kernel
theorem dL_ticks_282 : decode cL_ticks 282 = .ok (.bipush 7, 2) := by decide +kernel
theorem dL_ticks_284 : decode cL_ticks 284 = .ok (.invokevirtual 10, 3) := by decide +kernel
theorem dL_ticks_287 : decode cL_ticks 287 = .ok (.ifCond .ne 156, 3) := by decide +kernel
theorem dL_ticks_290 : decode cL_ticks 290 = .ok (.iload 8, 2) := by decide +kernel
theorem dL_ticks_292 : decode cL_ticks 292 = .ok (.ifCond .eq 16, 3) := by decide +kernel
theorem dL_ticks_295 : decode cL_ticks 295 = .ok (.aload_n 0, 1) := by decide +kernel
theorem dL_ticks_296 : decode cL_ticks 296 = .ok (.iload 6, 2) := by decide +kernel
theorem dL_ticks_298 : decode cL_ticks 298 = .ok (.bipush 7, 2) := by decide +kernel
theorem dL_ticks_300 : decode cL_ticks 300 = .ok (.invokevirtual 10, 3) := by decide +kernel
theorem dL_ticks_303 : decode cL_ticks 303 = .ok (.bipush 10, 2) := by decide +kernel
theorem dL_ticks_305 : decode cL_ticks 305 = .ok (.if_icmp .lt 138, 3) := by decide +kernel
theorem dL_ticks_308 : decode cL_ticks 308 = .ok (.iload 8, 2) := by decide +kernel
theorem dL_ticks_310 : decode cL_ticks 310 = .ok (.ifCond .eq 13, 3) := by decide +kernel
theorem dL_ticks_313 : decode cL_ticks 313 = .ok (.aload_n 0, 1) := by decide +kernel
theorem dL_ticks_314 : decode cL_ticks 314 = .ok (.iload 6, 2) := by decide +kernel
theorem dL_ticks_316 : decode cL_ticks 316 = .ok (.iconst 3, 1) := by decide +kernel
theorem dL_ticks_317 : decode cL_ticks 317 = .ok (.invokevirtual 10, 3) := by decide +kernel
theorem dL_ticks_320 : decode cL_ticks 320 = .ok (.ifCond .ne 123, 3) := by decide +kernel
theorem dL_ticks_323 : decode cL_ticks 323 = .ok (.aload_n 0, 1) := by decide +kernel
theorem dL_ticks_324 : decode cL_ticks 324 = .ok (.iload 6, 2) := by decide +kernel
theorem dL_ticks_326 : decode cL_ticks 326 = .ok (.bipush 9, 2) := by decide +kernel
theorem dL_ticks_328 : decode cL_ticks 328 = .ok (.invokevirtual 10, 3) := by decide +kernel
theorem dL_ticks_331 : decode cL_ticks 331 = .ok (.aload_n 2, 1) := by decide +kernel
theorem dL_ticks_332 : decode cL_ticks 332 = .ok (.iconst 4, 1) := by decide +kernel
theorem dL_ticks_333 : decode cL_ticks 333 = .ok (.iload 6, 2) := by decide +kernel
theorem dL_ticks_335 : decode cL_ticks 335 = .ok (.imul, 1) := by decide +kernel
theorem dL_ticks_336 : decode cL_ticks 336 = .ok (.iconst 1, 1) := by decide +kernel
theorem dL_ticks_337 : decode cL_ticks 337 = .ok (.iadd, 1) := by decide +kernel
theorem dL_ticks_338 : decode cL_ticks 338 = .ok (.iaload, 1) := by decide +kernel
theorem dL_ticks_339 : decode cL_ticks 339 = .ok (.isub, 1) := by decide +kernel
theorem dL_ticks_340 : decode cL_ticks 340 = .ok (.iload 8, 2) := by decide +kernel
theorem dL_ticks_342 : decode cL_ticks 342 = .ok (.iconst 1, 1) := by decide +kernel
theorem dL_ticks_343 : decode cL_ticks 343 = .ok (.if_icmp .ne 13, 3) := by decide +kernel
theorem dL_ticks_346 : decode cL_ticks 346 = .ok (.iload 7, 2) := by decide +kernel
theorem dL_ticks_348 : decode cL_ticks 348 = .ok (.iload_n 3, 1) := by decide +kernel
theorem dL_ticks_349 : decode cL_ticks 349 = .ok (.if_icmp .ne 7, 3) := by decide +kernel
theorem dL_ticks_352 : decode cL_ticks 352 = .ok (.iconst 1, 1) := by decide +kernel
theorem dL_ticks_353 : decode cL_ticks 353 = .ok (.goto 4, 3) := by decide +kernel
theorem dL_ticks_356 : decode cL_ticks 356 = .ok (.iconst 0, 1) := by decide +kernel
theorem dL_ticks_357 : decode cL_ticks 357 = .ok (.if_icmp .ne 86, 3) := by decide +kernel
theorem dL_ticks_360 : decode cL_ticks 360 = .ok (.aload_n 0, 1) := by decide +kernel
theorem dL_ticks_361 : decode cL_ticks 361 = .ok (.iload 6, 2) := by decide +kernel
theorem dL_ticks_363 : decode cL_ticks 363 = .ok (.bipush 10, 2) := by decide +kernel
theorem dL_ticks_365 : decode cL_ticks 365 = .ok (.invokevirtual 10, 3) := by decide +kernel
theorem dL_ticks_368 : decode cL_ticks 368 = .ok (.aload_n 2, 1) := by decide +kernel
theorem dL_ticks_369 : decode cL_ticks 369 = .ok (.iconst 4, 1) := by decide +kernel
theorem dL_ticks_370 : decode cL_ticks 370 = .ok (.iload 6, 2) := by decide +kernel
theorem dL_ticks_372 : decode cL_ticks 372 = .ok (.imul, 1) := by decide +kernel
theorem dL_ticks_373 : decode cL_ticks 373 = .ok (.iconst 2, 1) := by decide +kernel
theorem dL_ticks_374 : decode cL_ticks 374 = .ok (.iadd, 1) := by decide +kernel
theorem dL_ticks_375 : decode cL_ticks 375 = .ok (.iaload, 1) := by decide +kernel
theorem dL_ticks_376 : decode cL_ticks 376 = .ok (.isub, 1) := by decide +kernel
theorem dL_ticks_377 : decode cL_ticks 377 = .ok (.iload 8, 2) := by decide +kernel
theorem dL_ticks_379 : decode cL_ticks 379 = .ok (.iconst 1, 1) := by decide +kernel
theorem dL_ticks_380 : decode cL_ticks 380 = .ok (.if_icmp .ne 13, 3) := by decide +kernel
theorem dL_ticks_383 : decode cL_ticks 383 = .ok (.iload 7, 2) := by decide +kernel
theorem dL_ticks_385 : decode cL_ticks 385 = .ok (.iload_n 3, 1) := by decide +kernel
theorem dL_ticks_386 : decode cL_ticks 386 = .ok (.if_icmp .le 7, 3) := by decide +kernel
theorem dL_ticks_389 : decode cL_ticks 389 = .ok (.iconst 1, 1) := by decide +kernel
theorem dL_ticks_390 : decode cL_ticks 390 = .ok (.goto 4, 3) := by decide +kernel
theorem dL_ticks_393 : decode cL_ticks 393 = .ok (.iconst 0, 1) := by decide +kernel
theorem dL_ticks_394 : decode cL_ticks 394 = .ok (.if_icmp .ne 49, 3) := by decide +kernel
theorem dL_ticks_397 : decode cL_ticks 397 = .ok (.aload_n 0, 1) := by decide +kernel
theorem dL_ticks_398 : decode cL_ticks 398 = .ok (.iload 6, 2) := by decide +kernel
theorem dL_ticks_400 : decode cL_ticks 400 = .ok (.bipush 11, 2) := by decide +kernel
theorem dL_ticks_402 : decode cL_ticks 402 = .ok (.invokevirtual 10, 3) := by decide +kernel
theorem dL_ticks_405 : decode cL_ticks 405 = .ok (.aload_n 2, 1) := by decide +kernel
theorem dL_ticks_406 : decode cL_ticks 406 = .ok (.iconst 4, 1) := by decide +kernel
theorem dL_ticks_407 : decode cL_ticks 407 = .ok (.iload 6, 2) := by decide +kernel
theorem dL_ticks_409 : decode cL_ticks 409 = .ok (.imul, 1) := by decide +kernel
theorem dL_ticks_410 : decode cL_ticks 410 = .ok (.iconst 3, 1) := by decide +kernel
theorem dL_ticks_411 : decode cL_ticks 411 = .ok (.iadd, 1) := by decide +kernel
theorem dL_ticks_412 : decode cL_ticks 412 = .ok (.iaload, 1) := by decide +kernel
theorem dL_ticks_413 : decode cL_ticks 413 = .ok (.isub, 1) := by decide +kernel
theorem dL_ticks_414 : decode cL_ticks 414 = .ok (.iload 8, 2) := by decide +kernel
theorem dL_ticks_416 : decode cL_ticks 416 = .ok (.iconst 1, 1) := by decide +kernel
theorem dL_ticks_417 : decode cL_ticks 417 = .ok (.if_icmp .ne 18, 3) := by decide +kernel
theorem dL_ticks_420 : decode cL_ticks 420 = .ok (.iload 7, 2) := by decide +kernel
theorem dL_ticks_422 : decode cL_ticks 422 = .ok (.ifCond .lt 13, 3) := by decide +kernel
theorem dL_ticks_425 : decode cL_ticks 425 = .ok (.iload 7, 2) := by decide +kernel
theorem dL_ticks_427 : decode cL_ticks 427 = .ok (.iload_n 3, 1) := by decide +kernel
theorem dL_ticks_428 : decode cL_ticks 428 = .ok (.if_icmp .ge 7, 3) := by decide +kernel
theorem dL_ticks_431 : decode cL_ticks 431 = .ok (.iconst 1, 1) := by decide +kernel
theorem dL_ticks_432 : decode cL_ticks 432 = .ok (.goto 4, 3) := by decide +kernel
theorem dL_ticks_435 : decode cL_ticks 435 = .ok (.iconst 0, 1) := by decide +kernel
theorem dL_ticks_436 : decode cL_ticks 436 = .ok (.if_icmp .ne 7, 3) := by decide +kernel
theorem dL_ticks_439 : decode cL_ticks 439 = .ok (.iconst 1, 1) := by decide +kernel
theorem dL_ticks_440 : decode cL_ticks 440 = .ok (.goto 4, 3) := by decide +kernel
theorem dL_ticks_443 : decode cL_ticks 443 = .ok (.iconst 0, 1) := by decide +kernel
theorem dL_ticks_444 : decode cL_ticks 444 = .ok (.istore 9, 2) := by decide +kernel
theorem dL_ticks_446 : decode cL_ticks 446 = .ok (.iload 9, 2) := by decide +kernel
theorem dL_ticks_448 : decode cL_ticks 448 = .ok (.ifCond .eq 27, 3) := by decide +kernel
theorem dL_ticks_451 : decode cL_ticks 451 = .ok (.aload_n 0, 1) := by decide +kernel
theorem dL_ticks_452 : decode cL_ticks 452 = .ok (.iload 6, 2) := by decide +kernel
theorem dL_ticks_454 : decode cL_ticks 454 = .ok (.bipush 6, 2) := by decide +kernel
theorem dL_ticks_456 : decode cL_ticks 456 = .ok (.invokevirtual 10, 3) := by decide +kernel
theorem dL_ticks_459 : decode cL_ticks 459 = .ok (.iconst 1, 1) := by decide +kernel
theorem dL_ticks_460 : decode cL_ticks 460 = .ok (.if_icmp .ne 17, 3) := by decide +kernel
theorem dL_ticks_463 : decode cL_ticks 463 = .ok (.iload 8, 2) := by decide +kernel
theorem dL_ticks_465 : decode cL_ticks 465 = .ok (.iconst 1, 1) := by decide +kernel
theorem dL_ticks_466 : decode cL_ticks 466 = .ok (.if_icmp .ne 11, 3) := by decide +kernel
theorem dL_ticks_469 : decode cL_ticks 469 = .ok (.iload 7, 2) := by decide +kernel
theorem dL_ticks_471 : decode cL_ticks 471 = .ok (.iload_n 3, 1) := by decide +kernel
theorem dL_ticks_472 : decode cL_ticks 472 = .ok (.if_icmp .eq 5, 3) := by decide +kernel
theorem dL_ticks_475 : decode cL_ticks 475 = .ok (.iconst 0, 1) := by decide +kernel
theorem dL_ticks_476 : decode cL_ticks 476 = .ok (.ireturn, 1) := by decide +kernel
theorem dL_ticks_477 : decode cL_ticks 477 = .ok (.iinc 6 1, 3) := by decide +kernel
theorem dL_ticks_480 : decode cL_ticks 480 = .ok (.goto (-264), 3) := by decide +kernel
theorem dL_ticks_483 : decode cL_ticks 483 = .ok (.iload 5, 2) := by decide +kernel
theorem dL_ticks_485 : decode cL_ticks 485 = .ok (.iload 4, 2) := by decide +kernel
theorem dL_ticks_487 : decode cL_ticks 487 = .ok (.if_icmp .ne 7, 3) := by decide +kernel
theorem dL_ticks_490 : decode cL_ticks 490 = .ok (.iconst 1, 1) := by decide +kernel
theorem dL_ticks_491 : decode cL_ticks 491 = .ok (.goto 4, 3) := by decide +kernel
theorem dL_ticks_494 : decode cL_ticks 494 = .ok (.iconst 0, 1) := by decide +kernel
theorem dL_ticks_495 : decode cL_ticks 495 = .ok (.ireturn, 1) := by decide +kernel
theorem dL_waits_0 : decode cL_waits 0 = .ok (.aload_n 0, 1) := by decide +kernel
theorem dL_waits_1 : decode cL_waits 1 = .ok (.iload_n 1, 1) := by decide +kernel
theorem dL_waits_2 : decode cL_waits 2 = .ok (.invokevirtual 33, 3) := by decide +kernel
theorem dL_waits_5 : decode cL_waits 5 = .ok (.istore_n 2, 1) := by decide +kernel
theorem dL_waits_6 : decode cL_waits 6 = .ok (.aload_n 0, 1) := by decide +kernel
theorem dL_waits_7 : decode cL_waits 7 = .ok (.iload_n 1, 1) := by decide +kernel
theorem dL_waits_8 : decode cL_waits 8 = .ok (.invokevirtual 39, 3) := by decide +kernel
theorem dL_waits_11 : decode cL_waits 11 = .ok (.istore_n 3, 1) := by decide +kernel
theorem dL_waits_12 : decode cL_waits 12 = .ok (.aload_n 0, 1) := by decide +kernel
theorem dL_waits_13 : decode cL_waits 13 = .ok (.invokevirtual 42, 3) := by decide +kernel
theorem dL_waits_16 : decode cL_waits 16 = .ok (.istore 4, 2) := by decide +kernel
theorem dL_waits_18 : decode cL_waits 18 = .ok (.aload_n 0, 1) := by decide +kernel
theorem dL_waits_19 : decode cL_waits 19 = .ok (.iload_n 1, 1) := by decide +kernel
theorem dL_waits_20 : decode cL_waits 20 = .ok (.bipush 8, 2) := by decide +kernel
theorem dL_waits_22 : decode cL_waits 22 = .ok (.invokevirtual 10, 3) := by decide +kernel
theorem dL_waits_25 : decode cL_waits 25 = .ok (.istore 5, 2) := by decide +kernel
theorem dL_waits_27 : decode cL_waits 27 = .ok (.aload_n 0, 1) := by decide +kernel
theorem dL_waits_28 : decode cL_waits 28 = .ok (.bipush 12, 2) := by decide +kernel
theorem dL_waits_30 : decode cL_waits 30 = .ok (.invokevirtual 26, 3) := by decide +kernel
theorem dL_waits_33 : decode cL_waits 33 = .ok (.istore 6, 2) := by decide +kernel
theorem dL_waits_35 : decode cL_waits 35 = .ok (.iload_n 2, 1) := by decide +kernel
theorem dL_waits_36 : decode cL_waits 36 = .ok (.ifCond .ge 36, 3) := by decide +kernel
theorem dL_waits_39 : decode cL_waits 39 = .ok (.iload_n 2, 1) := by decide +kernel
theorem dL_waits_40 : decode cL_waits 40 = .ok (.bipush (-5), 2) := by decide +kernel
theorem dL_waits_42 : decode cL_waits 42 = .ok (.if_icmp .ne 28, 3) := by decide +kernel
theorem dL_waits_45 : decode cL_waits 45 = .ok (.iload_n 3, 1) := by decide +kernel
theorem dL_waits_46 : decode cL_waits 46 = .ok (.bipush (-5), 2) := by decide +kernel
theorem dL_waits_48 : decode cL_waits 48 = .ok (.if_icmp .ne 22, 3) := by decide +kernel
theorem dL_waits_51 : decode cL_waits 51 = .ok (.aload_n 0, 1) := by decide +kernel
theorem dL_waits_52 : decode cL_waits 52 = .ok (.invokevirtual 45, 3) := by decide +kernel
theorem dL_waits_55 : decode cL_waits 55 = .ok (.ifCond .lt 15, 3) := by decide +kernel
theorem dL_waits_58 : decode cL_waits 58 = .ok (.aload_n 0, 1) := by decide +kernel
theorem dL_waits_59 : decode cL_waits 59 = .ok (.invokevirtual 45, 3) := by decide +kernel
theorem dL_waits_62 : decode cL_waits 62 = .ok (.iload_n 1, 1) := by decide +kernel
theorem dL_waits_63 : decode cL_waits 63 = .ok (.if_icmp .gt 7, 3) := by decide +kernel
theorem dL_waits_66 : decode cL_waits 66 = .ok (.iconst 1, 1) := by decide +kernel
theorem dL_waits_67 : decode cL_waits 67 = .ok (.goto 4, 3) := by decide +kernel
theorem dL_waits_70 : decode cL_waits 70 = .ok (.iconst 0, 1) := by decide +kernel
theorem dL_waits_71 : decode cL_waits 71 = .ok (.ireturn, 1) := by decide +kernel
theorem dL_waits_72 : decode cL_waits 72 = .ok (.iload_n 2, 1) := by decide +kernel
theorem dL_waits_73 : decode cL_waits 73 = .ok (.iconst 1, 1) := by decide +kernel
theorem dL_waits_74 : decode cL_waits 74 = .ok (.isub, 1) := by decide +kernel
theorem dL_waits_75 : decode cL_waits 75 = .ok (.istore 7, 2) := by decide +kernel
theorem dL_waits_77 : decode cL_waits 77 = .ok (.iload 7, 2) := by decide +kernel
theorem dL_waits_79 : decode cL_waits 79 = .ok (.ifCond .le 52, 3) := by decide +kernel
theorem dL_waits_82 : decode cL_waits 82 = .ok (.iload 7, 2) := by decide +kernel
theorem dL_waits_84 : decode cL_waits 84 = .ok (.bipush 99, 2) := by decide +kernel
theorem dL_waits_86 : decode cL_waits 86 = .ok (.if_icmp .le 8, 3) := by decide +kernel
theorem dL_waits_89 : decode cL_waits 89 = .ok (.bipush 99, 2) := by decide +kernel
theorem dL_waits_91 : decode cL_waits 91 = .ok (.goto 5, 3) := by decide +kernel
theorem dL_waits_94 : decode cL_waits 94 = .ok (.iload 7, 2) := by decide +kernel
theorem dL_waits_96 : decode cL_waits 96 = .ok (.istore 8, 2) := by decide +kernel
theorem dL_waits_98 : decode cL_waits 98 = .ok (.aload_n 0, 1) := by decide +kernel
theorem dL_waits_99 : decode cL_waits 99 = .ok (.iload 8, 2) := by decide +kernel
theorem dL_waits_101 : decode cL_waits 101 = .ok (.invokevirtual 36, 3) := by decide +kernel
theorem dL_waits_104 : decode cL_waits 104 = .ok (.ifCond .lt 15, 3) := by decide +kernel
theorem dL_waits_107 : decode cL_waits 107 = .ok (.aload_n 0, 1) := by decide +kernel
theorem dL_waits_108 : decode cL_waits 108 = .ok (.iload_n 1, 1) := by decide +kernel
theorem dL_waits_109 : decode cL_waits 109 = .ok (.bipush 8, 2) := by decide +kernel
theorem dL_waits_111 : decode cL_waits 111 = .ok (.invokevirtual 10, 3) := by decide +kernel
theorem dL_waits_114 : decode cL_waits 114 = .ok (.iload 5, 2) := by decide +kernel
theorem dL_waits_116 : decode cL_waits 116 = .ok (.if_icmp .eq 5, 3) := by decide +kernel
theorem dL_waits_119 : decode cL_waits 119 = .ok (.iconst 0, 1) := by decide +kernel
theorem dL_waits_120 : decode cL_waits 120 = .ok (.ireturn, 1) := by decide +kernel
theorem dL_waits_121 : decode cL_waits 121 = .ok (.iload 7, 2) := by decide +kernel
theorem dL_waits_123 : decode cL_waits 123 = .ok (.iload 8, 2) := by decide +kernel
theorem dL_waits_125 : decode cL_waits 125 = .ok (.isub, 1) := by decide +kernel
theorem dL_waits_126 : decode cL_waits 126 = .ok (.istore 7, 2) := by decide +kernel
theorem dL_waits_128 : decode cL_waits 128 = .ok (.goto (-51), 3) := by decide +kernel
theorem dL_waits_131 : decode cL_waits 131 = .ok (.iload_n 3, 1) := by decide +kernel
theorem dL_waits_132 : decode cL_waits 132 = .ok (.iload 4, 2) := by decide +kernel
theorem dL_waits_134 : decode cL_waits 134 = .ok (.iload_n 2, 1) := by decide +kernel
theorem dL_waits_135 : decode cL_waits 135 = .ok (.iadd, 1) := by decide +kernel
theorem dL_waits_136 : decode cL_waits 136 = .ok (.iconst 1, 1) := by decide +kernel
theorem dL_waits_137 : decode cL_waits 137 = .ok (.isub, 1) := by decide +kernel
theorem dL_waits_138 : decode cL_waits 138 = .ok (.iload 6, 2) := by decide +kernel
theorem dL_waits_140 : decode cL_waits 140 = .ok (.irem, 1) := by decide +kernel
theorem dL_waits_141 : decode cL_waits 141 = .ok (.if_icmp .ne 54, 3) := by decide +kernel
theorem dL_waits_144 : decode cL_waits 144 = .ok (.aload_n 0, 1) := by decide +kernel
theorem dL_waits_145 : decode cL_waits 145 = .ok (.iconst 1, 1) := by decide +kernel
theorem dL_waits_146 : decode cL_waits 146 = .ok (.invokevirtual 26, 3) := by decide +kernel
theorem dL_waits_149 : decode cL_waits 149 = .ok (.iload_n 3, 1) := by decide +kernel
theorem dL_waits_150 : decode cL_waits 150 = .ok (.if_icmp .ne 45, 3) := by decide +kernel
theorem dL_waits_153 : decode cL_waits 153 = .ok (.aload_n 0, 1) := by decide +kernel
theorem dL_waits_154 : decode cL_waits 154 = .ok (.iload_n 1, 1) := by decide +kernel
theorem dL_waits_155 : decode cL_waits 155 = .ok (.invokevirtual 33, 3) := by decide +kernel
theorem dL_waits_158 : decode cL_waits 158 = .ok (.iconst 1, 1) := by decide +kernel
theorem dL_waits_159 : decode cL_waits 159 = .ok (.if_icmp .ne 36, 3) := by decide +kernel
theorem dL_waits_162 : decode cL_waits 162 = .ok (.aload_n 0, 1) := by decide +kernel
theorem dL_waits_163 : decode cL_waits 163 = .ok (.iconst 1, 1) := by decide +kernel
theorem dL_waits_164 : decode cL_waits 164 = .ok (.invokevirtual 36, 3) := by decide +kernel
theorem dL_waits_167 : decode cL_waits 167 = .ok (.ifCond .le 28, 3) := by decide +kernel
theorem dL_waits_170 : decode cL_waits 170 = .ok (.aload_n 0, 1) := by decide +kernel
theorem dL_waits_171 : decode cL_waits 171 = .ok (.iload_n 1, 1) := by decide +kernel
theorem dL_waits_172 : decode cL_waits 172 = .ok (.bipush 8, 2) := by decide +kernel
theorem dL_waits_174 : decode cL_waits 174 = .ok (.invokevirtual 10, 3) := by decide +kernel
theorem dL_waits_177 : decode cL_waits 177 = .ok (.iload 5, 2) := by decide +kernel
theorem dL_waits_179 : decode cL_waits 179 = .ok (.iconst 1, 1) := by decide +kernel
theorem dL_waits_180 : decode cL_waits 180 = .ok (.iadd, 1) := by decide +kernel
theorem dL_waits_181 : decode cL_waits 181 = .ok (.if_icmp .ne 14, 3) := by decide +kernel
theorem dL_waits_184 : decode cL_waits 184 = .ok (.iload_n 2, 1) := by decide +kernel
theorem dL_waits_185 : decode cL_waits 185 = .ok (.sipush 500, 3) := by decide +kernel
theorem dL_waits_188 : decode cL_waits 188 = .ok (.if_icmp .gt 7, 3) := by decide +kernel
theorem dL_waits_191 : decode cL_waits 191 = .ok (.iconst 1, 1) := by decide +kernel
theorem dL_waits_192 : decode cL_waits 192 = .ok (.goto 4, 3) := by decide +kernel
theorem dL_waits_195 : decode cL_waits 195 = .ok (.iconst 0, 1) := by decide +kernel
theorem dL_waits_196 : decode cL_waits 196 = .ok (.istore 8, 2) := by decide +kernel
theorem dL_waits_198 : decode cL_waits 198 = .ok (.iload 8, 2) := by decide +kernel
theorem dL_waits_200 : decode cL_waits 200 = .ok (.ifCond .eq 16, 3) := by decide +kernel
theorem dL_waits_203 : decode cL_waits 203 = .ok (.aload_n 0, 1) := by decide +kernel
theorem dL_waits_204 : decode cL_waits 204 = .ok (.invokevirtual 48, 3) := by decide +kernel
theorem dL_waits_207 : decode cL_waits 207 = .ok (.iload 4, 2) := by decide +kernel
theorem dL_waits_209 : decode cL_waits 209 = .ok (.if_icmp .ne 7, 3) := by decide +kernel
theorem dL_waits_212 : decode cL_waits 212 = .ok (.iconst 1, 1) := by decide +kernel
theorem dL_waits_213 : decode cL_waits 213 = .ok (.goto 4, 3) := by decide +kernel
theorem dL_waits_216 : decode cL_waits 216 = .ok (.iconst 0, 1) := by decide +kernel
theorem dL_waits_217 : decode cL_waits 217 = .ok (.ireturn, 1) := by decide +kernel
theorem dL_starves_0 : decode cL_starves 0 = .ok (.aload_n 0, 1) := by decide +kernel
theorem dL_starves_1 : decode cL_starves 1 = .ok (.invokevirtual 45, 3) := by decide +kernel
theorem dL_starves_4 : decode cL_starves 4 = .ok (.istore_n 1, 1) := by decide +kernel
theorem dL_starves_5 : decode cL_starves 5 = .ok (.iload_n 1, 1) := by decide +kernel
theorem dL_starves_6 : decode cL_starves 6 = .ok (.bipush (-5), 2) := by decide +kernel
theorem dL_starves_8 : decode cL_starves 8 = .ok (.if_icmp .eq 13, 3) := by decide +kernel
theorem dL_starves_11 : decode cL_starves 11 = .ok (.aload_n 0, 1) := by decide +kernel
theorem dL_starves_12 : decode cL_starves 12 = .ok (.iload_n 1, 1) := by decide +kernel
theorem dL_starves_13 : decode cL_starves 13 = .ok (.invokevirtual 33, 3) := by decide +kernel
theorem dL_starves_16 : decode cL_starves 16 = .ok (.bipush (-5), 2) := by decide +kernel
theorem dL_starves_18 : decode cL_starves 18 = .ok (.if_icmp .ne 7, 3) := by decide +kernel
theorem dL_starves_21 : decode cL_starves 21 = .ok (.iconst 1, 1) := by decide +kernel
theorem dL_starves_22 : decode cL_starves 22 = .ok (.goto 4, 3) := by decide +kernel
theorem dL_starves_25 : decode cL_starves 25 = .ok (.iconst 0, 1) := by decide +kernel
theorem dL_starves_26 : decode cL_starves 26 = .ok (.istore_n 2, 1) := by decide +kernel
theorem dL_starves_27 : decode cL_starves 27 = .ok (.iconst 0, 1) := by decide +kernel
theorem dL_starves_28 : decode cL_starves 28 = .ok (.istore_n 3, 1) := by decide +kernel
theorem dL_starves_29 : decode cL_starves 29 = .ok (.iload_n 3, 1) := by decide +kernel
theorem dL_starves_30 : decode cL_starves 30 = .ok (.iload_n 1, 1) := by decide +kernel
theorem dL_starves_31 : decode cL_starves 31 = .ok (.ifCond .ge 8, 3) := by decide +kernel
theorem dL_starves_34 : decode cL_starves 34 = .ok (.bipush 8, 2) := by decide +kernel
theorem dL_starves_36 : decode cL_starves 36 = .ok (.goto 4, 3) := by decide +kernel
theorem dL_starves_39 : decode cL_starves 39 = .ok (.iload_n 1, 1) := by decide +kernel
theorem dL_starves_40 : decode cL_starves 40 = .ok (.if_icmp .ge 27, 3) := by decide +kernel
theorem dL_starves_43 : decode cL_starves 43 = .ok (.iload_n 2, 1) := by decide +kernel
theorem dL_starves_44 : decode cL_starves 44 = .ok (.ifCond .eq 23, 3) := by decide +kernel
theorem dL_starves_47 : decode cL_starves 47 = .ok (.aload_n 0, 1) := by decide +kernel
theorem dL_starves_48 : decode cL_starves 48 = .ok (.iload_n 3, 1) := by decide +kernel
theorem dL_starves_49 : decode cL_starves 49 = .ok (.invokevirtual 33, 3) := by decide +kernel
theorem dL_starves_52 : decode cL_starves 52 = .ok (.ifCond .le 7, 3) := by decide +kernel
theorem dL_starves_55 : decode cL_starves 55 = .ok (.iconst 1, 1) := by decide +kernel
theorem dL_starves_56 : decode cL_starves 56 = .ok (.goto 4, 3) := by decide +kernel
theorem dL_starves_59 : decode cL_starves 59 = .ok (.iconst 0, 1) := by decide +kernel
theorem dL_starves_60 : decode cL_starves 60 = .ok (.istore_n 2, 1) := by decide +kernel
theorem dL_starves_61 : decode cL_starves 61 = .ok (.iinc 3 1, 3) := by decide +kernel
theorem dL_starves_64 : decode cL_starves 64 = .ok (.goto (-35), 3) := by decide +kernel
theorem dL_starves_67 : decode cL_starves 67 = .ok (.iload_n 2, 1) := by decide +kernel
theorem dL_starves_68 : decode cL_starves 68 = .ok (.ireturn, 1) := by decide +kernel
theorem dL_bestSo_0 : decode cL_bestSo 0 = .ok (.aload_n 0, 1) := by decide +kernel
theorem dL_bestSo_1 : decode cL_bestSo 1 = .ok (.iload_n 1, 1) := by decide +kernel
theorem dL_bestSo_2 : decode cL_bestSo 2 = .ok (.invokevirtual 51, 3) := by decide +kernel
theorem dL_bestSo_5 : decode cL_bestSo 5 = .ok (.istore_n 2, 1) := by decide +kernel
theorem dL_bestSo_6 : decode cL_bestSo 6 = .ok (.aload_n 0, 1) := by decide +kernel
theorem dL_bestSo_7 : decode cL_bestSo 7 = .ok (.iload_n 1, 1) := by decide +kernel
theorem dL_bestSo_8 : decode cL_bestSo 8 = .ok (.iconst 4, 1) := by decide +kernel
theorem dL_bestSo_9 : decode cL_bestSo 9 = .ok (.invokevirtual 10, 3) := by decide +kernel
theorem dL_bestSo_12 : decode cL_bestSo 12 = .ok (.istore_n 3, 1) := by decide +kernel
theorem dL_bestSo_13 : decode cL_bestSo 13 = .ok (.iload_n 3, 1) := by decide +kernel
theorem dL_bestSo_14 : decode cL_bestSo 14 = .ok (.ifCond .ge 15, 3) := by decide +kernel
theorem dL_bestSo_17 : decode cL_bestSo 17 = .ok (.iload_n 2, 1) := by decide +kernel
theorem dL_bestSo_18 : decode cL_bestSo 18 = .ok (.bipush (-4), 2) := by decide +kernel
theorem dL_bestSo_20 : decode cL_bestSo 20 = .ok (.if_icmp .ne 7, 3) := by decide +kernel
theorem dL_bestSo_23 : decode cL_bestSo 23 = .ok (.iconst 1, 1) := by decide +kernel
theorem dL_bestSo_24 : decode cL_bestSo 24 = .ok (.goto 4, 3) := by decide +kernel
theorem dL_bestSo_27 : decode cL_bestSo 27 = .ok (.iconst 0, 1) := by decide +kernel
theorem dL_bestSo_28 : decode cL_bestSo 28 = .ok (.ireturn, 1) := by decide +kernel
theorem dL_bestSo_29 : decode cL_bestSo 29 = .ok (.aload_n 0, 1) := by decide +kernel
theorem dL_bestSo_30 : decode cL_bestSo 30 = .ok (.iload_n 1, 1) := by decide +kernel
theorem dL_bestSo_31 : decode cL_bestSo 31 = .ok (.iconst 0, 1) := by decide +kernel
theorem dL_bestSo_32 : decode cL_bestSo 32 = .ok (.invokevirtual 10, 3) := by decide +kernel
theorem dL_bestSo_35 : decode cL_bestSo 35 = .ok (.istore 4, 2) := by decide +kernel
theorem dL_bestSo_37 : decode cL_bestSo 37 = .ok (.aload_n 0, 1) := by decide +kernel
theorem dL_bestSo_38 : decode cL_bestSo 38 = .ok (.invokevirtual 42, 3) := by decide +kernel
theorem dL_bestSo_41 : decode cL_bestSo 41 = .ok (.istore 5, 2) := by decide +kernel
theorem dL_bestSo_43 : decode cL_bestSo 43 = .ok (.iload_n 2, 1) := by decide +kernel
theorem dL_bestSo_44 : decode cL_bestSo 44 = .ok (.bipush (-5), 2) := by decide +kernel
theorem dL_bestSo_46 : decode cL_bestSo 46 = .ok (.if_icmp .eq 14, 3) := by decide +kernel
theorem dL_bestSo_49 : decode cL_bestSo 49 = .ok (.iload_n 2, 1) := by decide +kernel
theorem dL_bestSo_50 : decode cL_bestSo 50 = .ok (.iconst 1, 1) := by decide +kernel
theorem dL_bestSo_51 : decode cL_bestSo 51 = .ok (.if_icmp .lt 13, 3) := by decide +kernel
theorem dL_bestSo_54 : decode cL_bestSo 54 = .ok (.iload_n 2, 1) := by decide +kernel
theorem dL_bestSo_55 : decode cL_bestSo 55 = .ok (.bipush 99, 2) := by decide +kernel
theorem dL_bestSo_57 : decode cL_bestSo 57 = .ok (.if_icmp .gt 7, 3) := by decide +kernel
theorem dL_bestSo_60 : decode cL_bestSo 60 = .ok (.iconst 1, 1) := by decide +kernel
theorem dL_bestSo_61 : decode cL_bestSo 61 = .ok (.goto 4, 3) := by decide +kernel
theorem dL_bestSo_64 : decode cL_bestSo 64 = .ok (.iconst 0, 1) := by decide +kernel
theorem dL_bestSo_65 : decode cL_bestSo 65 = .ok (.istore 6, 2) := by decide +kernel
theorem dL_bestSo_67 : decode cL_bestSo 67 = .ok (.iconst 1, 1) := by decide +kernel
theorem dL_bestSo_68 : decode cL_bestSo 68 = .ok (.istore 7, 2) := by decide +kernel
theorem dL_bestSo_70 : decode cL_bestSo 70 = .ok (.iload 7, 2) := by decide +kernel
theorem dL_bestSo_72 : decode cL_bestSo 72 = .ok (.iload_n 2, 1) := by decide +kernel
theorem dL_bestSo_73 : decode cL_bestSo 73 = .ok (.ifCond .ge 8, 3) := by decide +kernel
theorem dL_bestSo_76 : decode cL_bestSo 76 = .ok (.bipush 100, 2) := by decide +kernel
theorem dL_bestSo_78 : decode cL_bestSo 78 = .ok (.goto 6, 3) := by decide +kernel
theorem dL_bestSo_81 : decode cL_bestSo 81 = .ok (.iload_n 2, 1) := by decide +kernel
theorem dL_bestSo_82 : decode cL_bestSo 82 = .ok (.iconst 1, 1) := by decide +kernel
theorem dL_bestSo_83 : decode cL_bestSo 83 = .ok (.iadd, 1) := by decide +kernel
theorem dL_bestSo_84 : decode cL_bestSo 84 = .ok (.if_icmp .ge 59, 3) := by decide +kernel
theorem dL_bestSo_87 : decode cL_bestSo 87 = .ok (.iload 6, 2) := by decide +kernel
theorem dL_bestSo_89 : decode cL_bestSo 89 = .ok (.ifCond .eq 54, 3) := by decide +kernel
theorem dL_bestSo_92 : decode cL_bestSo 92 = .ok (.aload_n 0, 1) := by decide +kernel
theorem dL_bestSo_93 : decode cL_bestSo 93 = .ok (.iload_n 1, 1) := by decide +kernel
theorem dL_bestSo_94 : decode cL_bestSo 94 = .ok (.iconst 0, 1) := by decide +kernel
theorem dL_bestSo_95 : decode cL_bestSo 95 = .ok (.iload 7, 2) := by decide +kernel
theorem dL_bestSo_97 : decode cL_bestSo 97 = .ok (.invokevirtual 54, 3) := by decide +kernel
theorem dL_bestSo_100 : decode cL_bestSo 100 = .ok (.istore 8, 2) := by decide +kernel
theorem dL_bestSo_102 : decode cL_bestSo 102 = .ok (.aload_n 0, 1) := by decide +kernel
theorem dL_bestSo_103 : decode cL_bestSo 103 = .ok (.iload_n 1, 1) := by decide +kernel
theorem dL_bestSo_104 : decode cL_bestSo 104 = .ok (.invokevirtual 39, 3) := by decide +kernel
theorem dL_bestSo_107 : decode cL_bestSo 107 = .ok (.iload_n 3, 1) := by decide +kernel
theorem dL_bestSo_108 : decode cL_bestSo 108 = .ok (.if_icmp .ne 7, 3) := by decide +kernel
theorem dL_bestSo_111 : decode cL_bestSo 111 = .ok (.iconst 1, 1) := by decide +kernel
theorem dL_bestSo_112 : decode cL_bestSo 112 = .ok (.goto 4, 3) := by decide +kernel
theorem dL_bestSo_115 : decode cL_bestSo 115 = .ok (.iconst 0, 1) := by decide +kernel
theorem dL_bestSo_116 : decode cL_bestSo 116 = .ok (.iload 7, 2) := by decide +kernel
theorem dL_bestSo_118 : decode cL_bestSo 118 = .ok (.iload_n 2, 1) := by decide +kernel
theorem dL_bestSo_119 : decode cL_bestSo 119 = .ok (.if_icmp .ne 7, 3) := by decide +kernel
theorem dL_bestSo_122 : decode cL_bestSo 122 = .ok (.iconst 1, 1) := by decide +kernel
theorem dL_bestSo_123 : decode cL_bestSo 123 = .ok (.goto 4, 3) := by decide +kernel
theorem dL_bestSo_126 : decode cL_bestSo 126 = .ok (.iconst 0, 1) := by decide +kernel
theorem dL_bestSo_127 : decode cL_bestSo 127 = .ok (.if_icmp .ne 7, 3) := by decide +kernel
theorem dL_bestSo_130 : decode cL_bestSo 130 = .ok (.iconst 1, 1) := by decide +kernel
theorem dL_bestSo_131 : decode cL_bestSo 131 = .ok (.goto 4, 3) := by decide +kernel
theorem dL_bestSo_134 : decode cL_bestSo 134 = .ok (.iconst 0, 1) := by decide +kernel
theorem dL_bestSo_135 : decode cL_bestSo 135 = .ok (.istore 6, 2) := by decide +kernel
theorem dL_bestSo_137 : decode cL_bestSo 137 = .ok (.iinc 7 1, 3) := by decide +kernel
theorem dL_bestSo_140 : decode cL_bestSo 140 = .ok (.goto (-70), 3) := by decide +kernel
theorem dL_bestSo_143 : decode cL_bestSo 143 = .ok (.iload 6, 2) := by decide +kernel
theorem dL_bestSo_145 : decode cL_bestSo 145 = .ok (.ifCond .eq 27, 3) := by decide +kernel
theorem dL_bestSo_148 : decode cL_bestSo 148 = .ok (.aload_n 0, 1) := by decide +kernel
theorem dL_bestSo_149 : decode cL_bestSo 149 = .ok (.invokevirtual 48, 3) := by decide +kernel
theorem dL_bestSo_152 : decode cL_bestSo 152 = .ok (.iload 5, 2) := by decide +kernel
theorem dL_bestSo_154 : decode cL_bestSo 154 = .ok (.if_icmp .ne 18, 3) := by decide +kernel
theorem dL_bestSo_157 : decode cL_bestSo 157 = .ok (.aload_n 0, 1) := by decide +kernel
theorem dL_bestSo_158 : decode cL_bestSo 158 = .ok (.iload_n 1, 1) := by decide +kernel
theorem dL_bestSo_159 : decode cL_bestSo 159 = .ok (.iconst 0, 1) := by decide +kernel
theorem dL_bestSo_160 : decode cL_bestSo 160 = .ok (.invokevirtual 10, 3) := by decide +kernel
theorem dL_bestSo_163 : decode cL_bestSo 163 = .ok (.iload 4, 2) := by decide +kernel
theorem dL_bestSo_165 : decode cL_bestSo 165 = .ok (.if_icmp .ne 7, 3) := by decide +kernel
theorem dL_bestSo_168 : decode cL_bestSo 168 = .ok (.iconst 1, 1) := by decide +kernel
theorem dL_bestSo_169 : decode cL_bestSo 169 = .ok (.goto 4, 3) := by decide +kernel
theorem dL_bestSo_172 : decode cL_bestSo 172 = .ok (.iconst 0, 1) := by decide +kernel
theorem dL_bestSo_173 : decode cL_bestSo 173 = .ok (.ireturn, 1) := by decide +kernel
theorem dL_ifs_0 : decode cL_ifs 0 = .ok (.iconst 1, 1) := by decide +kernel
theorem dL_ifs_1 : decode cL_ifs 1 = .ok (.iload_n 1, 1) := by decide +kernel
theorem dL_ifs_2 : decode cL_ifs 2 = .ok (.bipush 99, 2) := by decide +kernel
theorem dL_ifs_4 : decode cL_ifs 4 = .ok (.invokestatic 58, 3) := by decide +kernel
theorem dL_ifs_7 : decode cL_ifs 7 = .ok (.iadd, 1) := by decide +kernel
theorem dL_ifs_8 : decode cL_ifs 8 = .ok (.istore_n 2, 1) := by decide +kernel
theorem dL_ifs_9 : decode cL_ifs 9 = .ok (.iconst 4, 1) := by decide +kernel
theorem dL_ifs_10 : decode cL_ifs 10 = .ok (.newarray .int, 2) := by decide +kernel
theorem dL_ifs_12 : decode cL_ifs 12 = .ok (.astore_n 3, 1) := by decide +kernel
theorem dL_ifs_13 : decode cL_ifs 13 = .ok (.iconst 4, 1) := by decide +kernel
theorem dL_ifs_14 : decode cL_ifs 14 = .ok (.newarray .int, 2) := by decide +kernel
theorem dL_ifs_16 : decode cL_ifs 16 = .ok (.astore 4, 2) := by decide +kernel
theorem dL_ifs_18 : decode cL_ifs 18 = .ok (.iconst 0, 1) := by decide +kernel
theorem dL_ifs_19 : decode cL_ifs 19 = .ok (.istore 5, 2) := by decide +kernel
theorem dL_ifs_21 : decode cL_ifs 21 = .ok (.iload 5, 2) := by decide +kernel
theorem dL_ifs_23 : decode cL_ifs 23 = .ok (.iconst 4, 1) := by decide +kernel
theorem dL_ifs_24 : decode cL_ifs 24 = .ok (.if_icmp .ge 59, 3) := by decide +kernel
theorem dL_ifs_27 : decode cL_ifs 27 = .ok (.aload_n 3, 1) := by decide +kernel
theorem dL_ifs_28 : decode cL_ifs 28 = .ok (.iload 5, 2) := by decide +kernel
theorem dL_ifs_30 : decode cL_ifs 30 = .ok (.aload_n 0, 1) := by decide +kernel
theorem dL_ifs_31 : decode cL_ifs 31 = .ok (.iload_n 2, 1) := by decide +kernel
theorem dL_ifs_32 : decode cL_ifs 32 = .ok (.iload 5, 2) := by decide +kernel
theorem dL_ifs_34 : decode cL_ifs 34 = .ok (.invokevirtual 61, 3) := by decide +kernel
theorem dL_ifs_37 : decode cL_ifs 37 = .ok (.iastore, 1) := by decide +kernel
theorem dL_ifs_38 : decode cL_ifs 38 = .ok (.iconst 0, 1) := by decide +kernel
theorem dL_ifs_39 : decode cL_ifs 39 = .ok (.istore 6, 2) := by decide +kernel
theorem dL_ifs_41 : decode cL_ifs 41 = .ok (.iload 6, 2) := by decide +kernel
theorem dL_ifs_43 : decode cL_ifs 43 = .ok (.bipush 8, 2) := by decide +kernel
theorem dL_ifs_45 : decode cL_ifs 45 = .ok (.if_icmp .ge 32, 3) := by decide +kernel
theorem dL_ifs_48 : decode cL_ifs 48 = .ok (.aload 4, 2) := by decide +kernel
theorem dL_ifs_50 : decode cL_ifs 50 = .ok (.iload 5, 2) := by decide +kernel
theorem dL_ifs_52 : decode cL_ifs 52 = .ok (.dup2, 1) := by decide +kernel
theorem dL_ifs_53 : decode cL_ifs 53 = .ok (.iaload, 1) := by decide +kernel
theorem dL_ifs_54 : decode cL_ifs 54 = .ok (.aload_n 0, 1) := by decide +kernel
theorem dL_ifs_55 : decode cL_ifs 55 = .ok (.iload 6, 2) := by decide +kernel
theorem dL_ifs_57 : decode cL_ifs 57 = .ok (.bipush 8, 2) := by decide +kernel
theorem dL_ifs_59 : decode cL_ifs 59 = .ok (.iload 5, 2) := by decide +kernel
theorem dL_ifs_61 : decode cL_ifs 61 = .ok (.iconst 1, 1) := by decide +kernel
theorem dL_ifs_62 : decode cL_ifs 62 = .ok (.iadd, 1) := by decide +kernel
theorem dL_ifs_63 : decode cL_ifs 63 = .ok (.iconst 4, 1) := by decide +kernel
theorem dL_ifs_64 : decode cL_ifs 64 = .ok (.irem, 1) := by decide +kernel
theorem dL_ifs_65 : decode cL_ifs 65 = .ok (.iadd, 1) := by decide +kernel
theorem dL_ifs_66 : decode cL_ifs 66 = .ok (.invokevirtual 10, 3) := by decide +kernel
theorem dL_ifs_69 : decode cL_ifs 69 = .ok (.iadd, 1) := by decide +kernel
theorem dL_ifs_70 : decode cL_ifs 70 = .ok (.iastore, 1) := by decide +kernel
theorem dL_ifs_71 : decode cL_ifs 71 = .ok (.iinc 6 1, 3) := by decide +kernel
theorem dL_ifs_74 : decode cL_ifs 74 = .ok (.goto (-33), 3) := by decide +kernel
theorem dL_ifs_77 : decode cL_ifs 77 = .ok (.iinc 5 1, 3) := by decide +kernel
theorem dL_ifs_80 : decode cL_ifs 80 = .ok (.goto (-59), 3) := by decide +kernel
theorem dL_ifs_83 : decode cL_ifs 83 = .ok (.aload_n 0, 1) := by decide +kernel
theorem dL_ifs_84 : decode cL_ifs 84 = .ok (.iload_n 2, 1) := by decide +kernel
theorem dL_ifs_85 : decode cL_ifs 85 = .ok (.invokevirtual 36, 3) := by decide +kernel
theorem dL_ifs_88 : decode cL_ifs 88 = .ok (.istore 5, 2) := by decide +kernel
theorem dL_ifs_90 : decode cL_ifs 90 = .ok (.iconst 0, 1) := by decide +kernel
theorem dL_ifs_91 : decode cL_ifs 91 = .ok (.istore 6, 2) := by decide +kernel
theorem dL_ifs_93 : decode cL_ifs 93 = .ok (.iload 6, 2) := by decide +kernel
theorem dL_ifs_95 : decode cL_ifs 95 = .ok (.iconst 4, 1) := by decide +kernel
theorem dL_ifs_96 : decode cL_ifs 96 = .ok (.if_icmp .ge 65, 3) := by decide +kernel
theorem dL_ifs_99 : decode cL_ifs 99 = .ok (.iconst 0, 1) := by decide +kernel
theorem dL_ifs_100 : decode cL_ifs 100 = .ok (.istore 7, 2) := by decide +kernel
theorem dL_ifs_102 : decode cL_ifs 102 = .ok (.iconst 0, 1) := by decide +kernel
theorem dL_ifs_103 : decode cL_ifs 103 = .ok (.istore 8, 2) := by decide +kernel
theorem dL_ifs_105 : decode cL_ifs 105 = .ok (.iload 8, 2) := by decide +kernel
theorem dL_ifs_107 : decode cL_ifs 107 = .ok (.bipush 8, 2) := by decide +kernel
theorem dL_ifs_109 : decode cL_ifs 109 = .ok (.if_icmp .ge 29, 3) := by decide +kernel
theorem dL_ifs_112 : decode cL_ifs 112 = .ok (.iload 7, 2) := by decide +kernel
theorem dL_ifs_114 : decode cL_ifs 114 = .ok (.aload_n 0, 1) := by decide +kernel
theorem dL_ifs_115 : decode cL_ifs 115 = .ok (.iload 8, 2) := by decide +kernel
theorem dL_ifs_117 : decode cL_ifs 117 = .ok (.bipush 8, 2) := by decide +kernel
theorem dL_ifs_119 : decode cL_ifs 119 = .ok (.iload 6, 2) := by decide +kernel
theorem dL_ifs_121 : decode cL_ifs 121 = .ok (.iconst 1, 1) := by decide +kernel
theorem dL_ifs_122 : decode cL_ifs 122 = .ok (.iadd, 1) := by decide +kernel
theorem dL_ifs_123 : decode cL_ifs 123 = .ok (.iconst 4, 1) := by decide +kernel
theorem dL_ifs_124 : decode cL_ifs 124 = .ok (.irem, 1) := by decide +kernel
theorem dL_ifs_125 : decode cL_ifs 125 = .ok (.iadd, 1) := by decide +kernel
theorem dL_ifs_126 : decode cL_ifs 126 = .ok (.invokevirtual 10, 3) := by decide +kernel
theorem dL_ifs_129 : decode cL_ifs 129 = .ok (.iadd, 1) := by decide +kernel
theorem dL_ifs_130 : decode cL_ifs 130 = .ok (.istore 7, 2) := by decide +kernel
theorem dL_ifs_132 : decode cL_ifs 132 = .ok (.iinc 8 1, 3) := by decide +kernel
theorem dL_ifs_135 : decode cL_ifs 135 = .ok (.goto (-30), 3) := by decide +kernel
theorem dL_ifs_138 : decode cL_ifs 138 = .ok (.iload 7, 2) := by decide +kernel
theorem dL_ifs_140 : decode cL_ifs 140 = .ok (.aload 4, 2) := by decide +kernel
theorem dL_ifs_142 : decode cL_ifs 142 = .ok (.iload 6, 2) := by decide +kernel
theorem dL_ifs_144 : decode cL_ifs 144 = .ok (.iaload, 1) := by decide +kernel
theorem dL_ifs_145 : decode cL_ifs 145 = .ok (.isub, 1) := by decide +kernel
theorem dL_ifs_146 : decode cL_ifs 146 = .ok (.aload_n 3, 1) := by decide +kernel
theorem dL_ifs_147 : decode cL_ifs 147 = .ok (.iload 6, 2) := by decide +kernel
theorem dL_ifs_149 : decode cL_ifs 149 = .ok (.iaload, 1) := by decide +kernel
theorem dL_ifs_150 : decode cL_ifs 150 = .ok (.if_icmp .eq 5, 3) := by decide +kernel
theorem dL_ifs_153 : decode cL_ifs 153 = .ok (.iconst 0, 1) := by decide +kernel
theorem dL_ifs_154 : decode cL_ifs 154 = .ok (.ireturn, 1) := by decide +kernel
theorem dL_ifs_155 : decode cL_ifs 155 = .ok (.iinc 6 1, 3) := by decide +kernel
theorem dL_ifs_158 : decode cL_ifs 158 = .ok (.goto (-65), 3) := by decide +kernel
theorem dL_ifs_161 : decode cL_ifs 161 = .ok (.iload 5, 2) := by decide +kernel
theorem dL_ifs_163 : decode cL_ifs 163 = .ok (.aload_n 3, 1) := by decide +kernel
theorem dL_ifs_164 : decode cL_ifs 164 = .ok (.iconst 3, 1) := by decide +kernel
theorem dL_ifs_165 : decode cL_ifs 165 = .ok (.iaload, 1) := by decide +kernel
theorem dL_ifs_166 : decode cL_ifs 166 = .ok (.if_icmp .ne 7, 3) := by decide +kernel
theorem dL_ifs_169 : decode cL_ifs 169 = .ok (.iconst 1, 1) := by decide +kernel
theorem dL_ifs_170 : decode cL_ifs 170 = .ok (.goto 4, 3) := by decide +kernel
theorem dL_ifs_173 : decode cL_ifs 173 = .ok (.iconst 0, 1) := by decide +kernel
theorem dL_ifs_174 : decode cL_ifs 174 = .ok (.ireturn, 1) := by decide +kernel
theorem dL_act_0 : decode cL_act 0 = .ok (.iload_n 1, 1) := by decide +kernel
theorem dL_act_1 : decode cL_act 1 = .ok (.bipush 24, 2) := by decide +kernel
theorem dL_act_3 : decode cL_act 3 = .ok (.invokestatic 58, 3) := by decide +kernel
theorem dL_act_6 : decode cL_act 6 = .ok (.istore_n 3, 1) := by decide +kernel
theorem dL_act_7 : decode cL_act 7 = .ok (.iload_n 2, 1) := by decide +kernel
theorem dL_act_8 : decode cL_act 8 = .ok (.bipush 8, 2) := by decide +kernel
theorem dL_act_10 : decode cL_act 10 = .ok (.invokestatic 58, 3) := by decide +kernel
theorem dL_act_13 : decode cL_act 13 = .ok (.istore 4, 2) := by decide +kernel
theorem dL_act_15 : decode cL_act 15 = .ok (.iload_n 3, 1) := by decide +kernel
theorem dL_act_16 : decode cL_act 16 = .ok (.iconst 3, 1) := by decide +kernel
theorem dL_act_17 : decode cL_act 17 = .ok (.if_icmp .ge 9, 3) := by decide +kernel
theorem dL_act_20 : decode cL_act 20 = .ok (.aload_n 0, 1) := by decide +kernel
theorem dL_act_21 : decode cL_act 21 = .ok (.iload_n 2, 1) := by decide +kernel
theorem dL_act_22 : decode cL_act 22 = .ok (.invokestatic 64, 3) := by decide +kernel
theorem dL_act_25 : decode cL_act 25 = .ok (.ireturn, 1) := by decide +kernel
theorem dL_act_26 : decode cL_act 26 = .ok (.iload_n 3, 1) := by decide +kernel
theorem dL_act_27 : decode cL_act 27 = .ok (.bipush 7, 2) := by decide +kernel
theorem dL_act_29 : decode cL_act 29 = .ok (.if_icmp .ge 23, 3) := by decide +kernel
theorem dL_act_32 : decode cL_act 32 = .ok (.aload_n 0, 1) := by decide +kernel
theorem dL_act_33 : decode cL_act 33 = .ok (.invokestatic 67, 3) := by decide +kernel
theorem dL_act_36 : decode cL_act 36 = .ok (.ifCond .eq 14, 3) := by decide +kernel
theorem dL_act_39 : decode cL_act 39 = .ok (.aload_n 0, 1) := by decide +kernel
theorem dL_act_40 : decode cL_act 40 = .ok (.invokestatic 67, 3) := by decide +kernel
theorem dL_act_43 : decode cL_act 43 = .ok (.ifCond .eq 7, 3) := by decide +kernel
theorem dL_act_46 : decode cL_act 46 = .ok (.iconst 1, 1) := by decide +kernel
theorem dL_act_47 : decode cL_act 47 = .ok (.goto 4, 3) := by decide +kernel
theorem dL_act_50 : decode cL_act 50 = .ok (.iconst 0, 1) := by decide +kernel
theorem dL_act_51 : decode cL_act 51 = .ok (.ireturn, 1) := by decide +kernel
theorem dL_act_52 : decode cL_act 52 = .ok (.iload_n 3, 1) := by decide +kernel
theorem dL_act_53 : decode cL_act 53 = .ok (.bipush 7, 2) := by decide +kernel
theorem dL_act_55 : decode cL_act 55 = .ok (.if_icmp .ne 10, 3) := by decide +kernel
theorem dL_act_58 : decode cL_act 58 = .ok (.aload_n 0, 1) := by decide +kernel
theorem dL_act_59 : decode cL_act 59 = .ok (.iload 4, 2) := by decide +kernel
theorem dL_act_61 : decode cL_act 61 = .ok (.invokestatic 71, 3) := by decide +kernel
theorem dL_act_64 : decode cL_act 64 = .ok (.ireturn, 1) := by decide +kernel
theorem dL_act_65 : decode cL_act 65 = .ok (.iload_n 3, 1) := by decide +kernel
theorem dL_act_66 : decode cL_act 66 = .ok (.bipush 8, 2) := by decide +kernel
theorem dL_act_68 : decode cL_act 68 = .ok (.if_icmp .ne 25, 3) := by decide +kernel
theorem dL_act_71 : decode cL_act 71 = .ok (.aload_n 0, 1) := by decide +kernel
theorem dL_act_72 : decode cL_act 72 = .ok (.iload 4, 2) := by decide +kernel
theorem dL_act_74 : decode cL_act 74 = .ok (.invokestatic 74, 3) := by decide +kernel
theorem dL_act_77 : decode cL_act 77 = .ok (.ifCond .eq 14, 3) := by decide +kernel
theorem dL_act_80 : decode cL_act 80 = .ok (.aload_n 0, 1) := by decide +kernel
theorem dL_act_81 : decode cL_act 81 = .ok (.invokestatic 77, 3) := by decide +kernel
theorem dL_act_84 : decode cL_act 84 = .ok (.ifCond .eq 7, 3) := by decide +kernel
theorem dL_act_87 : decode cL_act 87 = .ok (.iconst 1, 1) := by decide +kernel
theorem dL_act_88 : decode cL_act 88 = .ok (.goto 4, 3) := by decide +kernel
theorem dL_act_91 : decode cL_act 91 = .ok (.iconst 0, 1) := by decide +kernel
theorem dL_act_92 : decode cL_act 92 = .ok (.ireturn, 1) := by decide +kernel
theorem dL_act_93 : decode cL_act 93 = .ok (.iload_n 3, 1) := by decide +kernel
theorem dL_act_94 : decode cL_act 94 = .ok (.bipush 12, 2) := by decide +kernel
theorem dL_act_96 : decode cL_act 96 = .ok (.if_icmp .ge 152, 3) := by decide +kernel
theorem dL_act_99 : decode cL_act 99 = .ok (.iload_n 2, 1) := by decide +kernel
theorem dL_act_100 : decode cL_act 100 = .ok (.iconst 3, 1) := by decide +kernel
theorem dL_act_101 : decode cL_act 101 = .ok (.ishr, 1) := by decide +kernel
theorem dL_act_102 : decode cL_act 102 = .ok (.iconst 3, 1) := by decide +kernel
theorem dL_act_103 : decode cL_act 103 = .ok (.invokestatic 58, 3) := by decide +kernel
theorem dL_act_106 : decode cL_act 106 = .ok (.istore 5, 2) := by decide +kernel
theorem dL_act_108 : decode cL_act 108 = .ok (.iload 5, 2) := by decide +kernel
theorem dL_act_110 : decode cL_act 110 = .ok (.ifCond .ne 32, 3) := by decide +kernel
theorem dL_act_113 : decode cL_act 113 = .ok (.iconst 1, 1) := by decide +kernel
theorem dL_act_114 : decode cL_act 114 = .ok (.iload_n 2, 1) := by decide +kernel
theorem dL_act_115 : decode cL_act 115 = .ok (.iconst 5, 1) := by decide +kernel
theorem dL_act_116 : decode cL_act 116 = .ok (.ishr, 1) := by decide +kernel
theorem dL_act_117 : decode cL_act 117 = .ok (.iload_n 2, 1) := by decide +kernel
theorem dL_act_118 : decode cL_act 118 = .ok (.bipush 14, 2) := by decide +kernel
theorem dL_act_120 : decode cL_act 120 = .ok (.ishr, 1) := by decide +kernel
theorem dL_act_121 : decode cL_act 121 = .ok (.iconst 2, 1) := by decide +kernel
theorem dL_act_122 : decode cL_act 122 = .ok (.invokestatic 58, 3) := by decide +kernel
theorem dL_act_125 : decode cL_act 125 = .ok (.ifCond .ne 8, 3) := by decide +kernel
theorem dL_act_128 : decode cL_act 128 = .ok (.bipush 99, 2) := by decide +kernel
theorem dL_act_130 : decode cL_act 130 = .ok (.goto 5, 3) := by decide +kernel
theorem dL_act_133 : decode cL_act 133 = .ok (.bipush 20, 2) := by decide +kernel
theorem dL_act_135 : decode cL_act 135 = .ok (.invokestatic 58, 3) := by decide +kernel
theorem dL_act_138 : decode cL_act 138 = .ok (.iadd, 1) := by decide +kernel
theorem dL_act_139 : decode cL_act 139 = .ok (.goto 51, 3) := by decide +kernel
theorem dL_act_142 : decode cL_act 142 = .ok (.iload 5, 2) := by decide +kernel
theorem dL_act_144 : decode cL_act 144 = .ok (.iconst 1, 1) := by decide +kernel
theorem dL_act_145 : decode cL_act 145 = .ok (.if_icmp .ne 29, 3) := by decide +kernel
theorem dL_act_148 : decode cL_act 148 = .ok (.iload_n 2, 1) := by decide +kernel
theorem dL_act_149 : decode cL_act 149 = .ok (.iconst 5, 1) := by decide +kernel
theorem dL_act_150 : decode cL_act 150 = .ok (.ishr, 1) := by decide +kernel
theorem dL_act_151 : decode cL_act 151 = .ok (.iload_n 2, 1) := by decide +kernel
theorem dL_act_152 : decode cL_act 152 = .ok (.bipush 14, 2) := by decide +kernel
theorem dL_act_154 : decode cL_act 154 = .ok (.ishr, 1) := by decide +kernel
theorem dL_act_155 : decode cL_act 155 = .ok (.iconst 2, 1) := by decide +kernel
theorem dL_act_156 : decode cL_act 156 = .ok (.invokestatic 58, 3) := by decide +kernel
theorem dL_act_159 : decode cL_act 159 = .ok (.ifCond .ne 8, 3) := by decide +kernel
theorem dL_act_162 : decode cL_act 162 = .ok (.bipush 10, 2) := by decide +kernel
theorem dL_act_164 : decode cL_act 164 = .ok (.goto 4, 3) := by decide +kernel
theorem dL_act_167 : decode cL_act 167 = .ok (.iconst 2, 1) := by decide +kernel
theorem dL_act_168 : decode cL_act 168 = .ok (.invokestatic 58, 3) := by decide +kernel
theorem dL_act_171 : decode cL_act 171 = .ok (.goto 19, 3) := by decide +kernel
theorem dL_act_174 : decode cL_act 174 = .ok (.iload 4, 2) := by decide +kernel
theorem dL_act_176 : decode cL_act 176 = .ok (.iconst 1, 1) := by decide +kernel
theorem dL_act_177 : decode cL_act 177 = .ok (.iadd, 1) := by decide +kernel
theorem dL_act_178 : decode cL_act 178 = .ok (.iload_n 2, 1) := by decide +kernel
theorem dL_act_179 : decode cL_act 179 = .ok (.iconst 5, 1) := by decide +kernel
theorem dL_act_180 : decode cL_act 180 = .ok (.ishr, 1) := by decide +kernel
theorem dL_act_181 : decode cL_act 181 = .ok (.bipush 8, 2) := by decide +kernel
theorem dL_act_183 : decode cL_act 183 = .ok (.iload 4, 2) := by decide +kernel
theorem dL_act_185 : decode cL_act 185 = .ok (.isub, 1) := by decide +kernel
theorem dL_act_186 : decode cL_act 186 = .ok (.invokestatic 58, 3) := by decide +kernel
theorem dL_act_189 : decode cL_act 189 = .ok (.iadd, 1) := by decide +kernel
theorem dL_act_190 : decode cL_act 190 = .ok (.istore 6, 2) := by decide +kernel
theorem dL_act_192 : decode cL_act 192 = .ok (.aload_n 0, 1) := by decide +kernel
theorem dL_act_193 : decode cL_act 193 = .ok (.iload 4, 2) := by decide +kernel
theorem dL_act_195 : decode cL_act 195 = .ok (.iload 5, 2) := by decide +kernel
theorem dL_act_197 : decode cL_act 197 = .ok (.invokevirtual 10, 3) := by decide +kernel
theorem dL_act_200 : decode cL_act 200 = .ok (.istore 7, 2) := by decide +kernel
theorem dL_act_202 : decode cL_act 202 = .ok (.aload_n 0, 1) := by decide +kernel
theorem dL_act_203 : decode cL_act 203 = .ok (.iload 4, 2) := by decide +kernel
theorem dL_act_205 : decode cL_act 205 = .ok (.iload 5, 2) := by decide +kernel
theorem dL_act_207 : decode cL_act 207 = .ok (.iload 6, 2) := by decide +kernel
theorem dL_act_209 : decode cL_act 209 = .ok (.invokevirtual 54, 3) := by decide +kernel
theorem dL_act_212 : decode cL_act 212 = .ok (.iload 7, 2) := by decide +kernel
theorem dL_act_214 : decode cL_act 214 = .ok (.iload 6, 2) := by decide +kernel
theorem dL_act_216 : decode cL_act 216 = .ok (.if_icmp .ne 8, 3) := by decide +kernel
theorem dL_act_219 : decode cL_act 219 = .ok (.bipush (-5), 2) := by decide +kernel
theorem dL_act_221 : decode cL_act 221 = .ok (.goto 5, 3) := by decide +kernel
theorem dL_act_224 : decode cL_act 224 = .ok (.iload 7, 2) := by decide +kernel
theorem dL_act_226 : decode cL_act 226 = .ok (.if_icmp .ne 20, 3) := by decide +kernel
theorem dL_act_229 : decode cL_act 229 = .ok (.aload_n 0, 1) := by decide +kernel
theorem dL_act_230 : decode cL_act 230 = .ok (.iload 4, 2) := by decide +kernel
theorem dL_act_232 : decode cL_act 232 = .ok (.iload 5, 2) := by decide +kernel
theorem dL_act_234 : decode cL_act 234 = .ok (.invokevirtual 10, 3) := by decide +kernel
theorem dL_act_237 : decode cL_act 237 = .ok (.iload 6, 2) := by decide +kernel
theorem dL_act_239 : decode cL_act 239 = .ok (.if_icmp .ne 7, 3) := by decide +kernel
theorem dL_act_242 : decode cL_act 242 = .ok (.iconst 1, 1) := by decide +kernel
theorem dL_act_243 : decode cL_act 243 = .ok (.goto 4, 3) := by decide +kernel
theorem dL_act_246 : decode cL_act 246 = .ok (.iconst 0, 1) := by decide +kernel
theorem dL_act_247 : decode cL_act 247 = .ok (.ireturn, 1) := by decide +kernel
theorem dL_act_248 : decode cL_act 248 = .ok (.iload_n 3, 1) := by decide +kernel
theorem dL_act_249 : decode cL_act 249 = .ok (.bipush 14, 2) := by decide +kernel
theorem dL_act_251 : decode cL_act 251 = .ok (.if_icmp .ge 76, 3) := by decide +kernel
theorem dL_act_254 : decode cL_act 254 = .ok (.aload_n 0, 1) := by decide +kernel
theorem dL_act_255 : decode cL_act 255 = .ok (.iload 4, 2) := by decide +kernel
theorem dL_act_257 : decode cL_act 257 = .ok (.iconst 5, 1) := by decide +kernel
theorem dL_act_258 : decode cL_act 258 = .ok (.invokevirtual 10, 3) := by decide +kernel
theorem dL_act_261 : decode cL_act 261 = .ok (.istore 5, 2) := by decide +kernel
theorem dL_act_263 : decode cL_act 263 = .ok (.aload_n 0, 1) := by decide +kernel
theorem dL_act_264 : decode cL_act 264 = .ok (.iload 4, 2) := by decide +kernel
theorem dL_act_266 : decode cL_act 266 = .ok (.bipush 6, 2) := by decide +kernel
theorem dL_act_268 : decode cL_act 268 = .ok (.invokevirtual 10, 3) := by decide +kernel
theorem dL_act_271 : decode cL_act 271 = .ok (.iconst 1, 1) := by decide +kernel
theorem dL_act_272 : decode cL_act 272 = .ok (.if_icmp .ne 22, 3) := by decide +kernel
theorem dL_act_275 : decode cL_act 275 = .ok (.aload_n 0, 1) := by decide +kernel
theorem dL_act_276 : decode cL_act 276 = .ok (.iload 4, 2) := by decide +kernel
theorem dL_act_278 : decode cL_act 278 = .ok (.invokevirtual 80, 3) := by decide +kernel
theorem dL_act_281 : decode cL_act 281 = .ok (.bipush (-4), 2) := by decide +kernel
theorem dL_act_283 : decode cL_act 283 = .ok (.if_icmp .ne 7, 3) := by decide +kernel
theorem dL_act_286 : decode cL_act 286 = .ok (.iconst 1, 1) := by decide +kernel
theorem dL_act_287 : decode cL_act 287 = .ok (.goto 39, 3) := by decide +kernel
theorem dL_act_290 : decode cL_act 290 = .ok (.iconst 0, 1) := by decide +kernel
theorem dL_act_291 : decode cL_act 291 = .ok (.goto 35, 3) := by decide +kernel
theorem dL_act_294 : decode cL_act 294 = .ok (.aload_n 0, 1) := by decide +kernel
theorem dL_act_295 : decode cL_act 295 = .ok (.iload 4, 2) := by decide +kernel
theorem dL_act_297 : decode cL_act 297 = .ok (.invokevirtual 80, 3) := by decide +kernel
theorem dL_act_300 : decode cL_act 300 = .ok (.iconst 1, 1) := by decide +kernel
theorem dL_act_301 : decode cL_act 301 = .ok (.iload 5, 2) := by decide +kernel
theorem dL_act_303 : decode cL_act 303 = .ok (.isub, 1) := by decide +kernel
theorem dL_act_304 : decode cL_act 304 = .ok (.if_icmp .ne 21, 3) := by decide +kernel
theorem dL_act_307 : decode cL_act 307 = .ok (.aload_n 0, 1) := by decide +kernel
theorem dL_act_308 : decode cL_act 308 = .ok (.iload 4, 2) := by decide +kernel
theorem dL_act_310 : decode cL_act 310 = .ok (.iconst 5, 1) := by decide +kernel
theorem dL_act_311 : decode cL_act 311 = .ok (.invokevirtual 10, 3) := by decide +kernel
theorem dL_act_314 : decode cL_act 314 = .ok (.iconst 1, 1) := by decide +kernel
theorem dL_act_315 : decode cL_act 315 = .ok (.iload 5, 2) := by decide +kernel
theorem dL_act_317 : decode cL_act 317 = .ok (.isub, 1) := by decide +kernel
theorem dL_act_318 : decode cL_act 318 = .ok (.if_icmp .ne 7, 3) := by decide +kernel
theorem dL_act_321 : decode cL_act 321 = .ok (.iconst 1, 1) := by decide +kernel
theorem dL_act_322 : decode cL_act 322 = .ok (.goto 4, 3) := by decide +kernel
theorem dL_act_325 : decode cL_act 325 = .ok (.iconst 0, 1) := by decide +kernel
theorem dL_act_326 : decode cL_act 326 = .ok (.ireturn, 1) := by decide +kernel
theorem dL_act_327 : decode cL_act 327 = .ok (.iload_n 3, 1) := by decide +kernel
theorem dL_act_328 : decode cL_act 328 = .ok (.bipush 18, 2) := by decide +kernel
theorem dL_act_330 : decode cL_act 330 = .ok (.if_icmp .ge 160, 3) := by decide +kernel
theorem dL_act_333 : decode cL_act 333 = .ok (.iload_n 2, 1) := by decide +kernel
theorem dL_act_334 : decode cL_act 334 = .ok (.iconst 3, 1) := by decide +kernel
theorem dL_act_335 : decode cL_act 335 = .ok (.ishr, 1) := by decide +kernel
theorem dL_act_336 : decode cL_act 336 = .ok (.bipush 6, 2) := by decide +kernel
theorem dL_act_338 : decode cL_act 338 = .ok (.invokestatic 58, 3) := by decide +kernel
theorem dL_act_341 : decode cL_act 341 = .ok (.ifCond .ne 7, 3) := by decide +kernel
theorem dL_act_344 : decode cL_act 344 = .ok (.iconst (-1), 1) := by decide +kernel
theorem dL_act_345 : decode cL_act 345 = .ok (.goto 34, 3) := by decide +kernel
theorem dL_act_348 : decode cL_act 348 = .ok (.iload_n 2, 1) := by decide +kernel
theorem dL_act_349 : decode cL_act 349 = .ok (.bipush 6, 2) := by decide +kernel
theorem dL_act_351 : decode cL_act 351 = .ok (.ishr, 1) := by decide +kernel
theorem dL_act_352 : decode cL_act 352 = .ok (.iload_n 2, 1) := by decide +kernel
theorem dL_act_353 : decode cL_act 353 = .ok (.bipush 15, 2) := by decide +kernel
theorem dL_act_355 : decode cL_act 355 = .ok (.ishr, 1) := by decide +kernel
theorem dL_act_356 : decode cL_act 356 = .ok (.bipush 8, 2) := by decide +kernel
theorem dL_act_358 : decode cL_act 358 = .ok (.invokestatic 58, 3) := by decide +kernel
theorem dL_act_361 : decode cL_act 361 = .ok (.ifCond .ne 9, 3) := by decide +kernel
theorem dL_act_364 : decode cL_act 364 = .ok (.sipush 240, 3) := by decide +kernel
theorem dL_act_367 : decode cL_act 367 = .ok (.goto 9, 3) := by decide +kernel
theorem dL_act_370 : decode cL_act 370 = .ok (.aload_n 0, 1) := by decide +kernel
theorem dL_act_371 : decode cL_act 371 = .ok (.bipush 12, 2) := by decide +kernel
theorem dL_act_373 : decode cL_act 373 = .ok (.invokevirtual 26, 3) := by decide +kernel
theorem dL_act_376 : decode cL_act 376 = .ok (.invokestatic 58, 3) := by decide +kernel
theorem dL_act_379 : decode cL_act 379 = .ok (.istore 5, 2) := by decide +kernel
theorem dL_act_381 : decode cL_act 381 = .ok (.aload_n 0, 1) := by decide +kernel
theorem dL_act_382 : decode cL_act 382 = .ok (.iload 4, 2) := by decide +kernel
theorem dL_act_384 : decode cL_act 384 = .ok (.iconst 4, 1) := by decide +kernel
theorem dL_act_385 : decode cL_act 385 = .ok (.invokevirtual 10, 3) := by decide +kernel
theorem dL_act_388 : decode cL_act 388 = .ok (.istore 6, 2) := by decide +kernel
theorem dL_act_390 : decode cL_act 390 = .ok (.aload_n 0, 1) := by decide +kernel
theorem dL_act_391 : decode cL_act 391 = .ok (.iload 4, 2) := by decide +kernel
theorem dL_act_393 : decode cL_act 393 = .ok (.iload 5, 2) := by decide +kernel
theorem dL_act_395 : decode cL_act 395 = .ok (.invokevirtual 83, 3) := by decide +kernel
theorem dL_act_398 : decode cL_act 398 = .ok (.istore 7, 2) := by decide +kernel
theorem dL_act_400 : decode cL_act 400 = .ok (.iload 7, 2) := by decide +kernel
theorem dL_act_402 : decode cL_act 402 = .ok (.iload 6, 2) := by decide +kernel
theorem dL_act_404 : decode cL_act 404 = .ok (.iload 5, 2) := by decide +kernel
theorem dL_act_406 : decode cL_act 406 = .ok (.if_icmp .eq 16, 3) := by decide +kernel
theorem dL_act_409 : decode cL_act 409 = .ok (.iload 6, 2) := by decide +kernel
theorem dL_act_411 : decode cL_act 411 = .ok (.bipush (-5), 2) := by decide +kernel
theorem dL_act_413 : decode cL_act 413 = .ok (.if_icmp .ne 14, 3) := by decide +kernel
theorem dL_act_416 : decode cL_act 416 = .ok (.iload 5, 2) := by decide +kernel
theorem dL_act_418 : decode cL_act 418 = .ok (.iconst (-1), 1) := by decide +kernel
theorem dL_act_419 : decode cL_act 419 = .ok (.if_icmp .ne 8, 3) := by decide +kernel
theorem dL_act_422 : decode cL_act 422 = .ok (.bipush (-5), 2) := by decide +kernel
theorem dL_act_424 : decode cL_act 424 = .ok (.goto 18, 3) := by decide +kernel
theorem dL_act_427 : decode cL_act 427 = .ok (.iload 6, 2) := by decide +kernel
theorem dL_act_429 : decode cL_act 429 = .ok (.bipush (-5), 2) := by decide +kernel
theorem dL_act_431 : decode cL_act 431 = .ok (.if_icmp .ne 9, 3) := by decide +kernel
theorem dL_act_434 : decode cL_act 434 = .ok (.sipush 240, 3) := by decide +kernel
theorem dL_act_437 : decode cL_act 437 = .ok (.goto 5, 3) := by decide +kernel
theorem dL_act_440 : decode cL_act 440 = .ok (.iload 6, 2) := by decide +kernel
theorem dL_act_442 : decode cL_act 442 = .ok (.if_icmp .ne 46, 3) := by decide +kernel
theorem dL_act_445 : decode cL_act 445 = .ok (.aload_n 0, 1) := by decide +kernel
theorem dL_act_446 : decode cL_act 446 = .ok (.iload 4, 2) := by decide +kernel
theorem dL_act_448 : decode cL_act 448 = .ok (.iconst 4, 1) := by decide +kernel
theorem dL_act_449 : decode cL_act 449 = .ok (.invokevirtual 10, 3) := by decide +kernel
theorem dL_act_452 : decode cL_act 452 = .ok (.iload 5, 2) := by decide +kernel
theorem dL_act_454 : decode cL_act 454 = .ok (.iconst (-1), 1) := by decide +kernel
theorem dL_act_455 : decode cL_act 455 = .ok (.if_icmp .ne 8, 3) := by decide +kernel
theorem dL_act_458 : decode cL_act 458 = .ok (.bipush (-5), 2) := by decide +kernel
theorem dL_act_460 : decode cL_act 460 = .ok (.goto 5, 3) := by decide +kernel
theorem dL_act_463 : decode cL_act 463 = .ok (.iload 5, 2) := by decide +kernel
theorem dL_act_465 : decode cL_act 465 = .ok (.if_icmp .ne 23, 3) := by decide +kernel
theorem dL_act_468 : decode cL_act 468 = .ok (.iload 5, 2) := by decide +kernel
theorem dL_act_470 : decode cL_act 470 = .ok (.ifCond .ge 14, 3) := by decide +kernel
theorem dL_act_473 : decode cL_act 473 = .ok (.aload_n 0, 1) := by decide +kernel
theorem dL_act_474 : decode cL_act 474 = .ok (.iload 4, 2) := by decide +kernel
theorem dL_act_476 : decode cL_act 476 = .ok (.bipush 6, 2) := by decide +kernel
theorem dL_act_478 : decode cL_act 478 = .ok (.invokevirtual 10, 3) := by decide +kernel
theorem dL_act_481 : decode cL_act 481 = .ok (.ifCond .ne 7, 3) := by decide +kernel
theorem dL_act_484 : decode cL_act 484 = .ok (.iconst 1, 1) := by decide +kernel
theorem dL_act_485 : decode cL_act 485 = .ok (.goto 4, 3) := by decide +kernel
theorem dL_act_488 : decode cL_act 488 = .ok (.iconst 0, 1) := by decide +kernel
theorem dL_act_489 : decode cL_act 489 = .ok (.ireturn, 1) := by decide +kernel
theorem dL_act_490 : decode cL_act 490 = .ok (.iload_n 3, 1) := by decide +kernel
theorem dL_act_491 : decode cL_act 491 = .ok (.bipush 21, 2) := by decide +kernel
theorem dL_act_493 : decode cL_act 493 = .ok (.if_icmp .ge 88, 3) := by decide +kernel
theorem dL_act_496 : decode cL_act 496 = .ok (.aload_n 0, 1) := by decide +kernel
theorem dL_act_497 : decode cL_act 497 = .ok (.iload 4, 2) := by decide +kernel
theorem dL_act_499 : decode cL_act 499 = .ok (.bipush 6, 2) := by decide +kernel
theorem dL_act_501 : decode cL_act 501 = .ok (.invokevirtual 10, 3) := by decide +kernel
theorem dL_act_504 : decode cL_act 504 = .ok (.istore 5, 2) := by decide +kernel
theorem dL_act_506 : decode cL_act 506 = .ok (.aload_n 0, 1) := by decide +kernel
theorem dL_act_507 : decode cL_act 507 = .ok (.iload 4, 2) := by decide +kernel
theorem dL_act_509 : decode cL_act 509 = .ok (.iconst 4, 1) := by decide +kernel
theorem dL_act_510 : decode cL_act 510 = .ok (.invokevirtual 10, 3) := by decide +kernel
theorem dL_act_513 : decode cL_act 513 = .ok (.ifCond .ge 22, 3) := by decide +kernel
theorem dL_act_516 : decode cL_act 516 = .ok (.aload_n 0, 1) := by decide +kernel
theorem dL_act_517 : decode cL_act 517 = .ok (.iload 4, 2) := by decide +kernel
theorem dL_act_519 : decode cL_act 519 = .ok (.invokevirtual 86, 3) := by decide +kernel
theorem dL_act_522 : decode cL_act 522 = .ok (.bipush (-4), 2) := by decide +kernel
theorem dL_act_524 : decode cL_act 524 = .ok (.if_icmp .ne 7, 3) := by decide +kernel
theorem dL_act_527 : decode cL_act 527 = .ok (.iconst 1, 1) := by decide +kernel
theorem dL_act_528 : decode cL_act 528 = .ok (.goto 52, 3) := by decide +kernel
theorem dL_act_531 : decode cL_act 531 = .ok (.iconst 0, 1) := by decide +kernel
theorem dL_act_532 : decode cL_act 532 = .ok (.goto 48, 3) := by decide +kernel
theorem dL_act_535 : decode cL_act 535 = .ok (.aload_n 0, 1) := by decide +kernel
theorem dL_act_536 : decode cL_act 536 = .ok (.iload 4, 2) := by decide +kernel
theorem dL_act_538 : decode cL_act 538 = .ok (.invokevirtual 86, 3) := by decide +kernel
theorem dL_act_541 : decode cL_act 541 = .ok (.iconst 1, 1) := by decide +kernel
theorem dL_act_542 : decode cL_act 542 = .ok (.iload 5, 2) := by decide +kernel
theorem dL_act_544 : decode cL_act 544 = .ok (.isub, 1) := by decide +kernel
theorem dL_act_545 : decode cL_act 545 = .ok (.if_icmp .ne 34, 3) := by decide +kernel
theorem dL_act_548 : decode cL_act 548 = .ok (.aload_n 0, 1) := by decide +kernel
theorem dL_act_549 : decode cL_act 549 = .ok (.iload 4, 2) := by decide +kernel
theorem dL_act_551 : decode cL_act 551 = .ok (.bipush 6, 2) := by decide +kernel
theorem dL_act_553 : decode cL_act 553 = .ok (.invokevirtual 10, 3) := by decide +kernel
theorem dL_act_556 : decode cL_act 556 = .ok (.iconst 1, 1) := by decide +kernel
theorem dL_act_557 : decode cL_act 557 = .ok (.iload 5, 2) := by decide +kernel
theorem dL_act_559 : decode cL_act 559 = .ok (.isub, 1) := by decide +kernel
theorem dL_act_560 : decode cL_act 560 = .ok (.if_icmp .ne 19, 3) := by decide +kernel
theorem dL_act_563 : decode cL_act 563 = .ok (.aload_n 0, 1) := by decide +kernel
theorem dL_act_564 : decode cL_act 564 = .ok (.iload 4, 2) := by decide +kernel
theorem dL_act_566 : decode cL_act 566 = .ok (.iconst 5, 1) := by decide +kernel
theorem dL_act_567 : decode cL_act 567 = .ok (.invokevirtual 10, 3) := by decide +kernel
theorem dL_act_570 : decode cL_act 570 = .ok (.iload 5, 2) := by decide +kernel
theorem dL_act_572 : decode cL_act 572 = .ok (.if_icmp .ne 7, 3) := by decide +kernel
theorem dL_act_575 : decode cL_act 575 = .ok (.iconst 1, 1) := by decide +kernel
theorem dL_act_576 : decode cL_act 576 = .ok (.goto 4, 3) := by decide +kernel
theorem dL_act_579 : decode cL_act 579 = .ok (.iconst 0, 1) := by decide +kernel
theorem dL_act_580 : decode cL_act 580 = .ok (.ireturn, 1) := by decide +kernel
theorem dL_act_581 : decode cL_act 581 = .ok (.iload_n 3, 1) := by decide +kernel
theorem dL_act_582 : decode cL_act 582 = .ok (.bipush 21, 2) := by decide +kernel
theorem dL_act_584 : decode cL_act 584 = .ok (.if_icmp .ne 100, 3) := by decide +kernel
theorem dL_act_587 : decode cL_act 587 = .ok (.aload_n 0, 1) := by decide +kernel
theorem dL_act_588 : decode cL_act 588 = .ok (.iload 4, 2) := by decide +kernel
theorem dL_act_590 : decode cL_act 590 = .ok (.iconst 3, 1) := by decide +kernel
theorem dL_act_591 : decode cL_act 591 = .ok (.invokevirtual 10, 3) := by decide +kernel
theorem dL_act_594 : decode cL_act 594 = .ok (.istore 5, 2) := by decide +kernel
theorem dL_act_596 : decode cL_act 596 = .ok (.iconst 1, 1) := by decide +kernel
theorem dL_act_597 : decode cL_act 597 = .ok (.iload_n 2, 1) := by decide +kernel
theorem dL_act_598 : decode cL_act 598 = .ok (.iconst 3, 1) := by decide +kernel
theorem dL_act_599 : decode cL_act 599 = .ok (.ishr, 1) := by decide +kernel
theorem dL_act_600 : decode cL_act 600 = .ok (.bipush 99, 2) := by decide +kernel
theorem dL_act_602 : decode cL_act 602 = .ok (.invokestatic 58, 3) := by decide +kernel
theorem dL_act_605 : decode cL_act 605 = .ok (.iadd, 1) := by decide +kernel
theorem dL_act_606 : decode cL_act 606 = .ok (.istore 6, 2) := by decide +kernel
theorem dL_act_608 : decode cL_act 608 = .ok (.aload_n 0, 1) := by decide +kernel
theorem dL_act_609 : decode cL_act 609 = .ok (.iload 4, 2) := by decide +kernel
theorem dL_act_611 : decode cL_act 611 = .ok (.iload 6, 2) := by decide +kernel
theorem dL_act_613 : decode cL_act 613 = .ok (.invokevirtual 89, 3) := by decide +kernel
theorem dL_act_616 : decode cL_act 616 = .ok (.istore 7, 2) := by decide +kernel
theorem dL_act_618 : decode cL_act 618 = .ok (.iload 5, 2) := by decide +kernel
theorem dL_act_620 : decode cL_act 620 = .ok (.iload 6, 2) := by decide +kernel
theorem dL_act_622 : decode cL_act 622 = .ok (.iadd, 1) := by decide +kernel
theorem dL_act_623 : decode cL_act 623 = .ok (.sipush 9999, 3) := by decide +kernel
theorem dL_act_626 : decode cL_act 626 = .ok (.if_icmp .le 30, 3) := by decide +kernel
theorem dL_act_629 : decode cL_act 629 = .ok (.iload 7, 2) := by decide +kernel
theorem dL_act_631 : decode cL_act 631 = .ok (.bipush (-3), 2) := by decide +kernel
theorem dL_act_633 : decode cL_act 633 = .ok (.if_icmp .ne 19, 3) := by decide +kernel
theorem dL_act_636 : decode cL_act 636 = .ok (.aload_n 0, 1) := by decide +kernel
theorem dL_act_637 : decode cL_act 637 = .ok (.iload 4, 2) := by decide +kernel
theorem dL_act_639 : decode cL_act 639 = .ok (.iconst 3, 1) := by decide +kernel
theorem dL_act_640 : decode cL_act 640 = .ok (.invokevirtual 10, 3) := by decide +kernel
theorem dL_act_643 : decode cL_act 643 = .ok (.iload 5, 2) := by decide +kernel
theorem dL_act_645 : decode cL_act 645 = .ok (.if_icmp .ne 7, 3) := by decide +kernel
theorem dL_act_648 : decode cL_act 648 = .ok (.iconst 1, 1) := by decide +kernel
theorem dL_act_649 : decode cL_act 649 = .ok (.goto 34, 3) := by decide +kernel
theorem dL_act_652 : decode cL_act 652 = .ok (.iconst 0, 1) := by decide +kernel
theorem dL_act_653 : decode cL_act 653 = .ok (.goto 30, 3) := by decide +kernel
theorem dL_act_656 : decode cL_act 656 = .ok (.iload 7, 2) := by decide +kernel
theorem dL_act_658 : decode cL_act 658 = .ok (.iload 5, 2) := by decide +kernel
theorem dL_act_660 : decode cL_act 660 = .ok (.iload 6, 2) := by decide +kernel
theorem dL_act_662 : decode cL_act 662 = .ok (.iadd, 1) := by decide +kernel
theorem dL_act_663 : decode cL_act 663 = .ok (.if_icmp .ne 19, 3) := by decide +kernel
theorem dL_act_666 : decode cL_act 666 = .ok (.aload_n 0, 1) := by decide +kernel
theorem dL_act_667 : decode cL_act 667 = .ok (.iload 4, 2) := by decide +kernel
theorem dL_act_669 : decode cL_act 669 = .ok (.iconst 3, 1) := by decide +kernel
theorem dL_act_670 : decode cL_act 670 = .ok (.invokevirtual 10, 3) := by decide +kernel
theorem dL_act_673 : decode cL_act 673 = .ok (.iload 7, 2) := by decide +kernel
theorem dL_act_675 : decode cL_act 675 = .ok (.if_icmp .ne 7, 3) := by decide +kernel
theorem dL_act_678 : decode cL_act 678 = .ok (.iconst 1, 1) := by decide +kernel
theorem dL_act_679 : decode cL_act 679 = .ok (.goto 4, 3) := by decide +kernel
theorem dL_act_682 : decode cL_act 682 = .ok (.iconst 0, 1) := by decide +kernel
theorem dL_act_683 : decode cL_act 683 = .ok (.ireturn, 1) := by decide +kernel
theorem dL_act_684 : decode cL_act 684 = .ok (.iload_n 2, 1) := by decide +kernel
theorem dL_act_685 : decode cL_act 685 = .ok (.iconst 3, 1) := by decide +kernel
theorem dL_act_686 : decode cL_act 686 = .ok (.invokestatic 58, 3) := by decide +kernel
theorem dL_act_689 : decode cL_act 689 = .ok (.istore 5, 2) := by decide +kernel
theorem dL_act_691 : decode cL_act 691 = .ok (.aload_n 0, 1) := by decide +kernel
theorem dL_act_692 : decode cL_act 692 = .ok (.bipush 10, 2) := by decide +kernel
theorem dL_act_694 : decode cL_act 694 = .ok (.iload 5, 2) := by decide +kernel
theorem dL_act_696 : decode cL_act 696 = .ok (.iadd, 1) := by decide +kernel
theorem dL_act_697 : decode cL_act 697 = .ok (.invokevirtual 26, 3) := by decide +kernel
theorem dL_act_700 : decode cL_act 700 = .ok (.istore 6, 2) := by decide +kernel
theorem dL_act_702 : decode cL_act 702 = .ok (.iload 5, 2) := by decide +kernel
theorem dL_act_704 : decode cL_act 704 = .ok (.iconst 2, 1) := by decide +kernel
theorem dL_act_705 : decode cL_act 705 = .ok (.if_icmp .ne 33, 3) := by decide +kernel
theorem dL_act_708 : decode cL_act 708 = .ok (.iconst 1, 1) := by decide +kernel
theorem dL_act_709 : decode cL_act 709 = .ok (.iload_n 2, 1) := by decide +kernel
theorem dL_act_710 : decode cL_act 710 = .ok (.iconst 2, 1) := by decide +kernel
theorem dL_act_711 : decode cL_act 711 = .ok (.ishr, 1) := by decide +kernel
theorem dL_act_712 : decode cL_act 712 = .ok (.iload_n 2, 1) := by decide +kernel
theorem dL_act_713 : decode cL_act 713 = .ok (.bipush 12, 2) := by decide +kernel
theorem dL_act_715 : decode cL_act 715 = .ok (.ishr, 1) := by decide +kernel
theorem dL_act_716 : decode cL_act 716 = .ok (.iconst 2, 1) := by decide +kernel
theorem dL_act_717 : decode cL_act 717 = .ok (.invokestatic 58, 3) := by decide +kernel
theorem dL_act_720 : decode cL_act 720 = .ok (.ifCond .ne 9, 3) := by decide +kernel
theorem dL_act_723 : decode cL_act 723 = .ok (.sipush 240, 3) := by decide +kernel
theorem dL_act_726 : decode cL_act 726 = .ok (.goto 5, 3) := by decide +kernel
theorem dL_act_729 : decode cL_act 729 = .ok (.bipush 24, 2) := by decide +kernel
theorem dL_act_731 : decode cL_act 731 = .ok (.invokestatic 58, 3) := by decide +kernel
theorem dL_act_734 : decode cL_act 734 = .ok (.iadd, 1) := by decide +kernel
theorem dL_act_735 : decode cL_act 735 = .ok (.goto 27, 3) := by decide +kernel
theorem dL_act_738 : decode cL_act 738 = .ok (.iload_n 2, 1) := by decide +kernel
theorem dL_act_739 : decode cL_act 739 = .ok (.iconst 2, 1) := by decide +kernel
theorem dL_act_740 : decode cL_act 740 = .ok (.ishr, 1) := by decide +kernel
theorem dL_act_741 : decode cL_act 741 = .ok (.iload_n 2, 1) := by decide +kernel
theorem dL_act_742 : decode cL_act 742 = .ok (.bipush 12, 2) := by decide +kernel
theorem dL_act_744 : decode cL_act 744 = .ok (.ishr, 1) := by decide +kernel
theorem dL_act_745 : decode cL_act 745 = .ok (.iconst 3, 1) := by decide +kernel
theorem dL_act_746 : decode cL_act 746 = .ok (.invokestatic 58, 3) := by decide +kernel
theorem dL_act_749 : decode cL_act 749 = .ok (.ifCond .ne 8, 3) := by decide +kernel
theorem dL_act_752 : decode cL_act 752 = .ok (.bipush 100, 2) := by decide +kernel
theorem dL_act_754 : decode cL_act 754 = .ok (.goto 5, 3) := by decide +kernel
theorem dL_act_757 : decode cL_act 757 = .ok (.bipush 15, 2) := by decide +kernel
theorem dL_act_759 : decode cL_act 759 = .ok (.invokestatic 58, 3) := by decide +kernel
theorem dL_act_762 : decode cL_act 762 = .ok (.istore 7, 2) := by decide +kernel
theorem dL_act_764 : decode cL_act 764 = .ok (.aload_n 0, 1) := by decide +kernel
theorem dL_act_765 : decode cL_act 765 = .ok (.iload 5, 2) := by decide +kernel
theorem dL_act_767 : decode cL_act 767 = .ok (.iload 7, 2) := by decide +kernel
theorem dL_act_769 : decode cL_act 769 = .ok (.invokevirtual 92, 3) := by decide +kernel
theorem dL_act_772 : decode cL_act 772 = .ok (.iload 7, 2) := by decide +kernel
theorem dL_act_774 : decode cL_act 774 = .ok (.iload 6, 2) := by decide +kernel
theorem dL_act_776 : decode cL_act 776 = .ok (.if_icmp .ne 8, 3) := by decide +kernel
theorem dL_act_779 : decode cL_act 779 = .ok (.bipush (-5), 2) := by decide +kernel
theorem dL_act_781 : decode cL_act 781 = .ok (.goto 5, 3) := by decide +kernel
theorem dL_act_784 : decode cL_act 784 = .ok (.iload 6, 2) := by decide +kernel
theorem dL_act_786 : decode cL_act 786 = .ok (.if_icmp .ne 21, 3) := by decide +kernel
theorem dL_act_789 : decode cL_act 789 = .ok (.aload_n 0, 1) := by decide +kernel
theorem dL_act_790 : decode cL_act 790 = .ok (.bipush 10, 2) := by decide +kernel
theorem dL_act_792 : decode cL_act 792 = .ok (.iload 5, 2) := by decide +kernel
theorem dL_act_794 : decode cL_act 794 = .ok (.iadd, 1) := by decide +kernel
theorem dL_act_795 : decode cL_act 795 = .ok (.invokevirtual 26, 3) := by decide +kernel
theorem dL_act_798 : decode cL_act 798 = .ok (.iload 7, 2) := by decide +kernel
theorem dL_act_800 : decode cL_act 800 = .ok (.if_icmp .ne 7, 3) := by decide +kernel
theorem dL_act_803 : decode cL_act 803 = .ok (.iconst 1, 1) := by decide +kernel
theorem dL_act_804 : decode cL_act 804 = .ok (.goto 4, 3) := by decide +kernel
theorem dL_act_807 : decode cL_act 807 = .ok (.iconst 0, 1) := by decide +kernel
theorem dL_act_808 : decode cL_act 808 = .ok (.ireturn, 1) := by decide +kernel
theorem dL_law_0 : decode cL_law 0 = .ok (.new 11, 3) := by decide +kernel
theorem dL_law_3 : decode cL_law 3 = .ok (.dup, 1) := by decide +kernel
theorem dL_law_4 : decode cL_law 4 = .ok (.invokespecial 95, 3) := by decide +kernel
theorem dL_law_7 : decode cL_law 7 = .ok (.astore_n 1, 1) := by decide +kernel
theorem dL_law_8 : decode cL_law 8 = .ok (.aload_n 1, 1) := by decide +kernel
theorem dL_law_9 : decode cL_law 9 = .ok (.invokestatic 96, 3) := by decide +kernel
theorem dL_law_12 : decode cL_law 12 = .ok (.ifCond .eq 21, 3) := by decide +kernel
theorem dL_law_15 : decode cL_law 15 = .ok (.aload_n 1, 1) := by decide +kernel
theorem dL_law_16 : decode cL_law 16 = .ok (.invokevirtual 16, 3) := by decide +kernel
theorem dL_law_19 : decode cL_law 19 = .ok (.bipush (-5), 2) := by decide +kernel
theorem dL_law_21 : decode cL_law 21 = .ok (.if_icmp .ne 12, 3) := by decide +kernel
theorem dL_law_24 : decode cL_law 24 = .ok (.aload_n 1, 1) := by decide +kernel
theorem dL_law_25 : decode cL_law 25 = .ok (.invokevirtual 45, 3) := by decide +kernel
theorem dL_law_28 : decode cL_law 28 = .ok (.bipush (-5), 2) := by decide +kernel
theorem dL_law_30 : decode cL_law 30 = .ok (.if_icmp .eq 5, 3) := by decide +kernel
theorem dL_law_33 : decode cL_law 33 = .ok (.iconst 0, 1) := by decide +kernel
theorem dL_law_34 : decode cL_law 34 = .ok (.ireturn, 1) := by decide +kernel
theorem dL_law_35 : decode cL_law 35 = .ok (.iconst 0, 1) := by decide +kernel
theorem dL_law_36 : decode cL_law 36 = .ok (.istore_n 2, 1) := by decide +kernel
theorem dL_law_37 : decode cL_law 37 = .ok (.iload_n 2, 1) := by decide +kernel
theorem dL_law_38 : decode cL_law 38 = .ok (.bipush 48, 2) := by decide +kernel
theorem dL_law_40 : decode cL_law 40 = .ok (.if_icmp .ge 41, 3) := by decide +kernel
theorem dL_law_43 : decode cL_law 43 = .ok (.aload_n 1, 1) := by decide +kernel
theorem dL_law_44 : decode cL_law 44 = .ok (.aload_n 0, 1) := by decide +kernel
theorem dL_law_45 : decode cL_law 45 = .ok (.iconst 2, 1) := by decide +kernel
theorem dL_law_46 : decode cL_law 46 = .ok (.iload_n 2, 1) := by decide +kernel
theorem dL_law_47 : decode cL_law 47 = .ok (.imul, 1) := by decide +kernel
theorem dL_law_48 : decode cL_law 48 = .ok (.invokestatic 99, 3) := by decide +kernel
theorem dL_law_51 : decode cL_law 51 = .ok (.aload_n 0, 1) := by decide +kernel
theorem dL_law_52 : decode cL_law 52 = .ok (.iconst 2, 1) := by decide +kernel
theorem dL_law_53 : decode cL_law 53 = .ok (.iload_n 2, 1) := by decide +kernel
theorem dL_law_54 : decode cL_law 54 = .ok (.imul, 1) := by decide +kernel
theorem dL_law_55 : decode cL_law 55 = .ok (.iconst 1, 1) := by decide +kernel
theorem dL_law_56 : decode cL_law 56 = .ok (.iadd, 1) := by decide +kernel
theorem dL_law_57 : decode cL_law 57 = .ok (.invokestatic 99, 3) := by decide +kernel
theorem dL_law_60 : decode cL_law 60 = .ok (.invokestatic 103, 3) := by decide +kernel
theorem dL_law_63 : decode cL_law 63 = .ok (.ifCond .eq 10, 3) := by decide +kernel
theorem dL_law_66 : decode cL_law 66 = .ok (.aload_n 1, 1) := by decide +kernel
theorem dL_law_67 : decode cL_law 67 = .ok (.invokestatic 96, 3) := by decide +kernel
theorem dL_law_70 : decode cL_law 70 = .ok (.ifCond .ne 5, 3) := by decide +kernel
theorem dL_law_73 : decode cL_law 73 = .ok (.iconst 0, 1) := by decide +kernel
theorem dL_law_74 : decode cL_law 74 = .ok (.ireturn, 1) := by decide +kernel
theorem dL_law_75 : decode cL_law 75 = .ok (.iinc 2 1, 3) := by decide +kernel
theorem dL_law_78 : decode cL_law 78 = .ok (.goto (-41), 3) := by decide +kernel
theorem dL_law_81 : decode cL_law 81 = .ok (.aload_n 1, 1) := by decide +kernel
theorem dL_law_82 : decode cL_law 82 = .ok (.invokestatic 77, 3) := by decide +kernel
theorem dL_law_85 : decode cL_law 85 = .ok (.ifCond .eq 32, 3) := by decide +kernel
theorem dL_law_88 : decode cL_law 88 = .ok (.aload_n 1, 1) := by decide +kernel
theorem dL_law_89 : decode cL_law 89 = .ok (.invokestatic 67, 3) := by decide +kernel
theorem dL_law_92 : decode cL_law 92 = .ok (.ifCond .eq 25, 3) := by decide +kernel
theorem dL_law_95 : decode cL_law 95 = .ok (.aload_n 1, 1) := by decide +kernel
theorem dL_law_96 : decode cL_law 96 = .ok (.aload_n 0, 1) := by decide +kernel
theorem dL_law_97 : decode cL_law 97 = .ok (.bipush 97, 2) := by decide +kernel
theorem dL_law_99 : decode cL_law 99 = .ok (.invokestatic 99, 3) := by decide +kernel
theorem dL_law_102 : decode cL_law 102 = .ok (.bipush 8, 2) := by decide +kernel
theorem dL_law_104 : decode cL_law 104 = .ok (.invokestatic 58, 3) := by decide +kernel
theorem dL_law_107 : decode cL_law 107 = .ok (.invokestatic 71, 3) := by decide +kernel
theorem dL_law_110 : decode cL_law 110 = .ok (.ifCond .eq 7, 3) := by decide +kernel
theorem dL_law_113 : decode cL_law 113 = .ok (.iconst 1, 1) := by decide +kernel
theorem dL_law_114 : decode cL_law 114 = .ok (.goto 4, 3) := by decide +kernel
theorem dL_law_117 : decode cL_law 117 = .ok (.iconst 0, 1) := by decide +kernel
theorem dL_law_118 : decode cL_law 118 = .ok (.ireturn, 1) := by decide +kernel
