theorem dX7_init_0 : decode cX7_init 0 = .ok (.aload_n 0, 1) := by decide +kernel
theorem dX7_init_1 : decode cX7_init 1 = .ok (.invokespecial 3, 3) := by decide +kernel
theorem dX7_init_4 : decode cX7_init 4 = .ok (.aload_n 0, 1) := by decide +kernel
theorem dX7_init_5 : decode cX7_init 5 = .ok (.bipush 8, 2) := by decide +kernel
theorem dX7_init_7 : decode cX7_init 7 = .ok (.newarray .int, 2) := by decide +kernel
theorem dX7_init_9 : decode cX7_init 9 = .ok (.dup, 1) := by decide +kernel
theorem dX7_init_10 : decode cX7_init 10 = .ok (.iconst 0, 1) := by decide +kernel
theorem dX7_init_11 : decode cX7_init 11 = .ok (.iconst (-1), 1) := by decide +kernel
theorem dX7_init_12 : decode cX7_init 12 = .ok (.iastore, 1) := by decide +kernel
theorem dX7_init_13 : decode cX7_init 13 = .ok (.dup, 1) := by decide +kernel
theorem dX7_init_14 : decode cX7_init 14 = .ok (.iconst 1, 1) := by decide +kernel
theorem dX7_init_15 : decode cX7_init 15 = .ok (.iconst (-1), 1) := by decide +kernel
theorem dX7_init_16 : decode cX7_init 16 = .ok (.iastore, 1) := by decide +kernel
theorem dX7_init_17 : decode cX7_init 17 = .ok (.dup, 1) := by decide +kernel
theorem dX7_init_18 : decode cX7_init 18 = .ok (.iconst 2, 1) := by decide +kernel
theorem dX7_init_19 : decode cX7_init 19 = .ok (.iconst (-1), 1) := by decide +kernel
theorem dX7_init_20 : decode cX7_init 20 = .ok (.iastore, 1) := by decide +kernel
theorem dX7_init_21 : decode cX7_init 21 = .ok (.dup, 1) := by decide +kernel
theorem dX7_init_22 : decode cX7_init 22 = .ok (.iconst 3, 1) := by decide +kernel
theorem dX7_init_23 : decode cX7_init 23 = .ok (.iconst (-1), 1) := by decide +kernel
theorem dX7_init_24 : decode cX7_init 24 = .ok (.iastore, 1) := by decide +kernel
theorem dX7_init_25 : decode cX7_init 25 = .ok (.dup, 1) := by decide +kernel
theorem dX7_init_26 : decode cX7_init 26 = .ok (.iconst 4, 1) := by decide +kernel
theorem dX7_init_27 : decode cX7_init 27 = .ok (.iconst (-1), 1) := by decide +kernel
theorem dX7_init_28 : decode cX7_init 28 = .ok (.iastore, 1) := by decide +kernel
theorem dX7_init_29 : decode cX7_init 29 = .ok (.dup, 1) := by decide +kernel
theorem dX7_init_30 : decode cX7_init 30 = .ok (.iconst 5, 1) := by decide +kernel
theorem dX7_init_31 : decode cX7_init 31 = .ok (.iconst (-1), 1) := by decide +kernel
theorem dX7_init_32 : decode cX7_init 32 = .ok (.iastore, 1) := by decide +kernel
theorem dX7_init_33 : decode cX7_init 33 = .ok (.dup, 1) := by decide +kernel
theorem dX7_init_34 : decode cX7_init 34 = .ok (.bipush 6, 2) := by decide +kernel
theorem dX7_init_36 : decode cX7_init 36 = .ok (.iconst (-1), 1) := by decide +kernel
theorem dX7_init_37 : decode cX7_init 37 = .ok (.iastore, 1) := by decide +kernel
theorem dX7_init_38 : decode cX7_init 38 = .ok (.dup, 1) := by decide +kernel
theorem dX7_init_39 : decode cX7_init 39 = .ok (.bipush 7, 2) := by decide +kernel
theorem dX7_init_41 : decode cX7_init 41 = .ok (.iconst (-1), 1) := by decide +kernel
theorem dX7_init_42 : decode cX7_init 42 = .ok (.iastore, 1) := by decide +kernel
theorem dX7_init_43 : decode cX7_init 43 = .ok (.putfield 9, 3) := by decide +kernel
theorem dX7_init_46 : decode cX7_init 46 = .ok (.aload_n 0, 1) := by decide +kernel
theorem dX7_init_47 : decode cX7_init 47 = .ok (.bipush 8, 2) := by decide +kernel
theorem dX7_init_49 : decode cX7_init 49 = .ok (.newarray .int, 2) := by decide +kernel
theorem dX7_init_51 : decode cX7_init 51 = .ok (.putfield 13, 3) := by decide +kernel
theorem dX7_init_54 : decode cX7_init 54 = .ok (.aload_n 0, 1) := by decide +kernel
theorem dX7_init_55 : decode cX7_init 55 = .ok (.sipush 320, 3) := by decide +kernel
theorem dX7_init_58 : decode cX7_init 58 = .ok (.newarray .int, 2) := by decide +kernel
theorem dX7_init_60 : decode cX7_init 60 = .ok (.putfield 16, 3) := by decide +kernel
theorem dX7_init_63 : decode cX7_init 63 = .ok (.aload_n 0, 1) := by decide +kernel
theorem dX7_init_64 : decode cX7_init 64 = .ok (.bipush 6, 2) := by decide +kernel
theorem dX7_init_66 : decode cX7_init 66 = .ok (.newarray .int, 2) := by decide +kernel
theorem dX7_init_68 : decode cX7_init 68 = .ok (.putfield 19, 3) := by decide +kernel
theorem dX7_init_71 : decode cX7_init 71 = .ok (.aload_n 0, 1) := by decide +kernel
theorem dX7_init_72 : decode cX7_init 72 = .ok (.iconst 3, 1) := by decide +kernel
theorem dX7_init_73 : decode cX7_init 73 = .ok (.newarray .int, 2) := by decide +kernel
theorem dX7_init_75 : decode cX7_init 75 = .ok (.putfield 22, 3) := by decide +kernel
theorem dX7_init_78 : decode cX7_init 78 = .ok (.aload_n 0, 1) := by decide +kernel
theorem dX7_init_79 : decode cX7_init 79 = .ok (.bipush 18, 2) := by decide +kernel
theorem dX7_init_81 : decode cX7_init 81 = .ok (.newarray .int, 2) := by decide +kernel
theorem dX7_init_83 : decode cX7_init 83 = .ok (.putfield 25, 3) := by decide +kernel
theorem dX7_init_86 : decode cX7_init 86 = .ok (.aload_n 0, 1) := by decide +kernel
theorem dX7_init_87 : decode cX7_init 87 = .ok (.bipush 6, 2) := by decide +kernel
theorem dX7_init_89 : decode cX7_init 89 = .ok (.newarray .int, 2) := by decide +kernel
theorem dX7_init_91 : decode cX7_init 91 = .ok (.putfield 28, 3) := by decide +kernel
theorem dX7_init_94 : decode cX7_init 94 = .ok (.aload_n 0, 1) := by decide +kernel
theorem dX7_init_95 : decode cX7_init 95 = .ok (.iconst 3, 1) := by decide +kernel
theorem dX7_init_96 : decode cX7_init 96 = .ok (.newarray .int, 2) := by decide +kernel
theorem dX7_init_98 : decode cX7_init 98 = .ok (.putfield 31, 3) := by decide +kernel
theorem dX7_init_101 : decode cX7_init 101 = .ok (.aload_n 0, 1) := by decide +kernel
theorem dX7_init_102 : decode cX7_init 102 = .ok (.bipush 18, 2) := by decide +kernel
theorem dX7_init_104 : decode cX7_init 104 = .ok (.newarray .int, 2) := by decide +kernel
theorem dX7_init_106 : decode cX7_init 106 = .ok (.putfield 34, 3) := by decide +kernel
theorem dX7_init_109 : decode cX7_init 109 = .ok (.aload_n 0, 1) := by decide +kernel
theorem dX7_init_110 : decode cX7_init 110 = .ok (.sipush 400, 3) := by decide +kernel
theorem dX7_init_113 : decode cX7_init 113 = .ok (.newarray .int, 2) := by decide +kernel
theorem dX7_init_115 : decode cX7_init 115 = .ok (.putfield 37, 3) := by decide +kernel
theorem dX7_init_118 : decode cX7_init 118 = .ok (.aload_n 0, 1) := by decide +kernel
theorem dX7_init_119 : decode cX7_init 119 = .ok (.iconst 3, 1) := by decide +kernel
theorem dX7_init_120 : decode cX7_init 120 = .ok (.newarray .long, 2) := by decide +kernel
theorem dX7_init_122 : decode cX7_init 122 = .ok (.putfield 40, 3) := by decide +kernel
theorem dX7_init_125 : decode cX7_init 125 = .ok (.aload_n 0, 1) := by decide +kernel
theorem dX7_init_126 : decode cX7_init 126 = .ok (.bipush 6, 2) := by decide +kernel
theorem dX7_init_128 : decode cX7_init 128 = .ok (.newarray .int, 2) := by decide +kernel
theorem dX7_init_130 : decode cX7_init 130 = .ok (.putfield 44, 3) := by decide +kernel
theorem dX7_init_133 : decode cX7_init 133 = .ok (.aload_n 0, 1) := by decide +kernel
theorem dX7_init_134 : decode cX7_init 134 = .ok (.iconst 3, 1) := by decide +kernel
theorem dX7_init_135 : decode cX7_init 135 = .ok (.newarray .long, 2) := by decide +kernel
theorem dX7_init_137 : decode cX7_init 137 = .ok (.putfield 47, 3) := by decide +kernel
theorem dX7_init_140 : decode cX7_init 140 = .ok (.aload_n 0, 1) := by decide +kernel
theorem dX7_init_141 : decode cX7_init 141 = .ok (.iconst 3, 1) := by decide +kernel
theorem dX7_init_142 : decode cX7_init 142 = .ok (.newarray .long, 2) := by decide +kernel
theorem dX7_init_144 : decode cX7_init 144 = .ok (.putfield 50, 3) := by decide +kernel
theorem dX7_init_147 : decode cX7_init 147 = .ok (.aload_n 0, 1) := by decide +kernel
theorem dX7_init_148 : decode cX7_init 148 = .ok (.bipush 18, 2) := by decide +kernel
theorem dX7_init_150 : decode cX7_init 150 = .ok (.newarray .long, 2) := by decide +kernel
theorem dX7_init_152 : decode cX7_init 152 = .ok (.putfield 53, 3) := by decide +kernel
theorem dX7_init_155 : decode cX7_init 155 = .ok (.aload_n 0, 1) := by decide +kernel
theorem dX7_init_156 : decode cX7_init 156 = .ok (.bipush 18, 2) := by decide +kernel
theorem dX7_init_158 : decode cX7_init 158 = .ok (.newarray .long, 2) := by decide +kernel
theorem dX7_init_160 : decode cX7_init 160 = .ok (.putfield 56, 3) := by decide +kernel
theorem dX7_init_163 : decode cX7_init 163 = .ok (.aload_n 0, 1) := by decide +kernel
theorem dX7_init_164 : decode cX7_init 164 = .ok (.bipush 16, 2) := by decide +kernel
theorem dX7_init_166 : decode cX7_init 166 = .ok (.newarray .int, 2) := by decide +kernel
theorem dX7_init_168 : decode cX7_init 168 = .ok (.putfield 59, 3) := by decide +kernel
theorem dX7_init_171 : decode cX7_init 171 = .ok (.return_, 1) := by decide +kernel
theorem dX7_in_0 : decode cX7_in 0 = .ok (.lload_n 0, 1) := by decide +kernel
theorem dX7_in_1 : decode cX7_in 1 = .ok (.lload_n 2, 1) := by decide +kernel
theorem dX7_in_2 : decode cX7_in 2 = .ok (.lcmp, 1) := by decide +kernel
theorem dX7_in_3 : decode cX7_in 3 = .ok (.ifCond .lt 14, 3) := by decide +kernel
theorem dX7_in_6 : decode cX7_in 6 = .ok (.lload_n 0, 1) := by decide +kernel
theorem dX7_in_7 : decode cX7_in 7 = .ok (.lload 4, 2) := by decide +kernel
theorem dX7_in_9 : decode cX7_in 9 = .ok (.lcmp, 1) := by decide +kernel
theorem dX7_in_10 : decode cX7_in 10 = .ok (.ifCond .gt 7, 3) := by decide +kernel
theorem dX7_in_13 : decode cX7_in 13 = .ok (.iconst 1, 1) := by decide +kernel
theorem dX7_in_14 : decode cX7_in 14 = .ok (.goto 4, 3) := by decide +kernel
theorem dX7_in_17 : decode cX7_in 17 = .ok (.iconst 0, 1) := by decide +kernel
theorem dX7_in_18 : decode cX7_in 18 = .ok (.ireturn, 1) := by decide +kernel
theorem dX7_finding_0 : decode cX7_finding 0 = .ok (.aload_n 0, 1) := by decide +kernel
theorem dX7_finding_1 : decode cX7_finding 1 = .ok (.iload_n 1, 1) := by decide +kernel
theorem dX7_finding_2 : decode cX7_finding 2 = .ok (.putfield 66, 3) := by decide +kernel
theorem dX7_finding_5 : decode cX7_finding 5 = .ok (.ldc2_w 69, 3) := by decide +kernel
theorem dX7_finding_8 : decode cX7_finding 8 = .ok (.iload_n 1, 1) := by decide +kernel
theorem dX7_finding_9 : decode cX7_finding 9 = .ok (.i2l, 1) := by decide +kernel
theorem dX7_finding_10 : decode cX7_finding 10 = .ok (.lsub, 1) := by decide +kernel
theorem dX7_finding_11 : decode cX7_finding 11 = .ok (.lreturn, 1) := by decide +kernel
theorem dX7_isRow_0 : decode cX7_isRow 0 = .ok (.iload_n 0, 1) := by decide +kernel
theorem dX7_isRow_1 : decode cX7_isRow 1 = .ok (.i2l, 1) := by decide +kernel
theorem dX7_isRow_2 : decode cX7_isRow 2 = .ok (.lconst 0, 1) := by decide +kernel
theorem dX7_isRow_3 : decode cX7_isRow 3 = .ok (.ldc2_w 71, 3) := by decide +kernel
theorem dX7_isRow_6 : decode cX7_isRow 6 = .ok (.invokestatic 73, 3) := by decide +kernel
theorem dX7_isRow_9 : decode cX7_isRow 9 = .ok (.ireturn, 1) := by decide +kernel
theorem dX7_row_0 : decode cX7_row 0 = .ok (.aload_n 0, 1) := by decide +kernel
theorem dX7_row_1 : decode cX7_row 1 = .ok (.iconst 0, 1) := by decide +kernel
theorem dX7_row_2 : decode cX7_row 2 = .ok (.putfield 62, 3) := by decide +kernel
theorem dX7_row_5 : decode cX7_row 5 = .ok (.iload_n 1, 1) := by decide +kernel
theorem dX7_row_6 : decode cX7_row 6 = .ok (.invokestatic 77, 3) := by decide +kernel
theorem dX7_row_9 : decode cX7_row 9 = .ok (.ifCond .eq 21, 3) := by decide +kernel
theorem dX7_row_12 : decode cX7_row 12 = .ok (.iload_n 2, 1) := by decide +kernel
theorem dX7_row_13 : decode cX7_row 13 = .ok (.i2l, 1) := by decide +kernel
theorem dX7_row_14 : decode cX7_row 14 = .ok (.lconst 0, 1) := by decide +kernel
theorem dX7_row_15 : decode cX7_row 15 = .ok (.ldc2_w 81, 3) := by decide +kernel
theorem dX7_row_18 : decode cX7_row 18 = .ok (.invokestatic 73, 3) := by decide +kernel
theorem dX7_row_21 : decode cX7_row 21 = .ok (.ifCond .eq 9, 3) := by decide +kernel
theorem dX7_row_24 : decode cX7_row 24 = .ok (.iload_n 3, 1) := by decide +kernel
theorem dX7_row_25 : decode cX7_row 25 = .ok (.bipush 40, 2) := by decide +kernel
theorem dX7_row_27 : decode cX7_row 27 = .ok (.if_icmp .le 7, 3) := by decide +kernel
theorem dX7_row_30 : decode cX7_row 30 = .ok (.ldc2_w 83, 3) := by decide +kernel
theorem dX7_row_33 : decode cX7_row 33 = .ok (.lreturn, 1) := by decide +kernel
theorem dX7_row_34 : decode cX7_row 34 = .ok (.aload_n 0, 1) := by decide +kernel
theorem dX7_row_35 : decode cX7_row 35 = .ok (.iconst 0, 1) := by decide +kernel
theorem dX7_row_36 : decode cX7_row 36 = .ok (.putfield 66, 3) := by decide +kernel
theorem dX7_row_39 : decode cX7_row 39 = .ok (.iload_n 3, 1) := by decide +kernel
theorem dX7_row_40 : decode cX7_row 40 = .ok (.ifCond .ge 9, 3) := by decide +kernel
theorem dX7_row_43 : decode cX7_row 43 = .ok (.aload_n 0, 1) := by decide +kernel
theorem dX7_row_44 : decode cX7_row 44 = .ok (.iconst 4, 1) := by decide +kernel
theorem dX7_row_45 : decode cX7_row 45 = .ok (.invokevirtual 85, 3) := by decide +kernel
theorem dX7_row_48 : decode cX7_row 48 = .ok (.lreturn, 1) := by decide +kernel
theorem dX7_row_49 : decode cX7_row 49 = .ok (.aload_n 0, 1) := by decide +kernel
theorem dX7_row_50 : decode cX7_row 50 = .ok (.getfield 9, 3) := by decide +kernel
theorem dX7_row_53 : decode cX7_row 53 = .ok (.iload_n 1, 1) := by decide +kernel
theorem dX7_row_54 : decode cX7_row 54 = .ok (.iload_n 2, 1) := by decide +kernel
theorem dX7_row_55 : decode cX7_row 55 = .ok (.iastore, 1) := by decide +kernel
theorem dX7_row_56 : decode cX7_row 56 = .ok (.aload_n 0, 1) := by decide +kernel
theorem dX7_row_57 : decode cX7_row 57 = .ok (.getfield 13, 3) := by decide +kernel
theorem dX7_row_60 : decode cX7_row 60 = .ok (.iload_n 1, 1) := by decide +kernel
theorem dX7_row_61 : decode cX7_row 61 = .ok (.iload_n 3, 1) := by decide +kernel
theorem dX7_row_62 : decode cX7_row 62 = .ok (.iastore, 1) := by decide +kernel
theorem dX7_row_63 : decode cX7_row 63 = .ok (.iconst 0, 1) := by decide +kernel
theorem dX7_row_64 : decode cX7_row 64 = .ok (.istore 4, 2) := by decide +kernel
theorem dX7_row_66 : decode cX7_row 66 = .ok (.iload 4, 2) := by decide +kernel
theorem dX7_row_68 : decode cX7_row 68 = .ok (.bipush 40, 2) := by decide +kernel
theorem dX7_row_70 : decode cX7_row 70 = .ok (.if_icmp .ge 22, 3) := by decide +kernel
theorem dX7_row_73 : decode cX7_row 73 = .ok (.aload_n 0, 1) := by decide +kernel
theorem dX7_row_74 : decode cX7_row 74 = .ok (.getfield 16, 3) := by decide +kernel
theorem dX7_row_77 : decode cX7_row 77 = .ok (.bipush 40, 2) := by decide +kernel
theorem dX7_row_79 : decode cX7_row 79 = .ok (.iload_n 1, 1) := by decide +kernel
theorem dX7_row_80 : decode cX7_row 80 = .ok (.imul, 1) := by decide +kernel
theorem dX7_row_81 : decode cX7_row 81 = .ok (.iload 4, 2) := by decide +kernel
theorem dX7_row_83 : decode cX7_row 83 = .ok (.iadd, 1) := by decide +kernel
theorem dX7_row_84 : decode cX7_row 84 = .ok (.iconst 0, 1) := by decide +kernel
theorem dX7_row_85 : decode cX7_row 85 = .ok (.iastore, 1) := by decide +kernel
theorem dX7_row_86 : decode cX7_row 86 = .ok (.iinc 4 1, 3) := by decide +kernel
theorem dX7_row_89 : decode cX7_row 89 = .ok (.goto (-23), 3) := by decide +kernel
theorem dX7_row_92 : decode cX7_row 92 = .ok (.iload_n 3, 1) := by decide +kernel
theorem dX7_row_93 : decode cX7_row 93 = .ok (.i2l, 1) := by decide +kernel
theorem dX7_row_94 : decode cX7_row 94 = .ok (.lreturn, 1) := by decide +kernel
theorem dX7_set_0 : decode cX7_set 0 = .ok (.aload_n 0, 1) := by decide +kernel
theorem dX7_set_1 : decode cX7_set 1 = .ok (.iconst 0, 1) := by decide +kernel
theorem dX7_set_2 : decode cX7_set 2 = .ok (.putfield 62, 3) := by decide +kernel
theorem dX7_set_5 : decode cX7_set 5 = .ok (.iload_n 1, 1) := by decide +kernel
theorem dX7_set_6 : decode cX7_set 6 = .ok (.invokestatic 77, 3) := by decide +kernel
theorem dX7_set_9 : decode cX7_set 9 = .ok (.ifCond .ne 7, 3) := by decide +kernel
theorem dX7_set_12 : decode cX7_set 12 = .ok (.ldc2_w 83, 3) := by decide +kernel
theorem dX7_set_15 : decode cX7_set 15 = .ok (.lreturn, 1) := by decide +kernel
theorem dX7_set_16 : decode cX7_set 16 = .ok (.aload_n 0, 1) := by decide +kernel
theorem dX7_set_17 : decode cX7_set 17 = .ok (.iconst 0, 1) := by decide +kernel
theorem dX7_set_18 : decode cX7_set 18 = .ok (.putfield 66, 3) := by decide +kernel
theorem dX7_set_21 : decode cX7_set 21 = .ok (.aload_n 0, 1) := by decide +kernel
theorem dX7_set_22 : decode cX7_set 22 = .ok (.getfield 9, 3) := by decide +kernel
theorem dX7_set_25 : decode cX7_set 25 = .ok (.iload_n 1, 1) := by decide +kernel
theorem dX7_set_26 : decode cX7_set 26 = .ok (.iaload, 1) := by decide +kernel
theorem dX7_set_27 : decode cX7_set 27 = .ok (.ifCond .ge 9, 3) := by decide +kernel
theorem dX7_set_30 : decode cX7_set 30 = .ok (.aload_n 0, 1) := by decide +kernel
theorem dX7_set_31 : decode cX7_set 31 = .ok (.iconst 1, 1) := by decide +kernel
theorem dX7_set_32 : decode cX7_set 32 = .ok (.invokevirtual 85, 3) := by decide +kernel
theorem dX7_set_35 : decode cX7_set 35 = .ok (.lreturn, 1) := by decide +kernel
theorem dX7_set_36 : decode cX7_set 36 = .ok (.iload_n 2, 1) := by decide +kernel
theorem dX7_set_37 : decode cX7_set 37 = .ok (.i2l, 1) := by decide +kernel
theorem dX7_set_38 : decode cX7_set 38 = .ok (.lconst 0, 1) := by decide +kernel
theorem dX7_set_39 : decode cX7_set 39 = .ok (.aload_n 0, 1) := by decide +kernel
theorem dX7_set_40 : decode cX7_set 40 = .ok (.getfield 13, 3) := by decide +kernel
theorem dX7_set_43 : decode cX7_set 43 = .ok (.iload_n 1, 1) := by decide +kernel
theorem dX7_set_44 : decode cX7_set 44 = .ok (.iaload, 1) := by decide +kernel
theorem dX7_set_45 : decode cX7_set 45 = .ok (.iconst 1, 1) := by decide +kernel
theorem dX7_set_46 : decode cX7_set 46 = .ok (.isub, 1) := by decide +kernel
theorem dX7_set_47 : decode cX7_set 47 = .ok (.i2l, 1) := by decide +kernel
theorem dX7_set_48 : decode cX7_set 48 = .ok (.invokestatic 73, 3) := by decide +kernel
theorem dX7_set_51 : decode cX7_set 51 = .ok (.ifCond .ne 9, 3) := by decide +kernel
theorem dX7_set_54 : decode cX7_set 54 = .ok (.aload_n 0, 1) := by decide +kernel
theorem dX7_set_55 : decode cX7_set 55 = .ok (.iconst 2, 1) := by decide +kernel
theorem dX7_set_56 : decode cX7_set 56 = .ok (.invokevirtual 85, 3) := by decide +kernel
theorem dX7_set_59 : decode cX7_set 59 = .ok (.lreturn, 1) := by decide +kernel
theorem dX7_set_60 : decode cX7_set 60 = .ok (.aload_n 0, 1) := by decide +kernel
theorem dX7_set_61 : decode cX7_set 61 = .ok (.getfield 16, 3) := by decide +kernel
theorem dX7_set_64 : decode cX7_set 64 = .ok (.bipush 40, 2) := by decide +kernel
theorem dX7_set_66 : decode cX7_set 66 = .ok (.iload_n 1, 1) := by decide +kernel
theorem dX7_set_67 : decode cX7_set 67 = .ok (.imul, 1) := by decide +kernel
theorem dX7_set_68 : decode cX7_set 68 = .ok (.iload_n 2, 1) := by decide +kernel
theorem dX7_set_69 : decode cX7_set 69 = .ok (.iadd, 1) := by decide +kernel
theorem dX7_set_70 : decode cX7_set 70 = .ok (.aload_n 0, 1) := by decide +kernel
theorem dX7_set_71 : decode cX7_set 71 = .ok (.getfield 9, 3) := by decide +kernel
theorem dX7_set_74 : decode cX7_set 74 = .ok (.iload_n 1, 1) := by decide +kernel
theorem dX7_set_75 : decode cX7_set 75 = .ok (.iaload, 1) := by decide +kernel
theorem dX7_set_76 : decode cX7_set 76 = .ok (.ifCond .ne 8, 3) := by decide +kernel
theorem dX7_set_79 : decode cX7_set 79 = .ok (.iload_n 3, 1) := by decide +kernel
theorem dX7_set_80 : decode cX7_set 80 = .ok (.i2b, 1) := by decide +kernel
theorem dX7_set_81 : decode cX7_set 81 = .ok (.goto 19, 3) := by decide +kernel
theorem dX7_set_84 : decode cX7_set 84 = .ok (.aload_n 0, 1) := by decide +kernel
theorem dX7_set_85 : decode cX7_set 85 = .ok (.getfield 9, 3) := by decide +kernel
theorem dX7_set_88 : decode cX7_set 88 = .ok (.iload_n 1, 1) := by decide +kernel
theorem dX7_set_89 : decode cX7_set 89 = .ok (.iaload, 1) := by decide +kernel
theorem dX7_set_90 : decode cX7_set 90 = .ok (.iconst 1, 1) := by decide +kernel
theorem dX7_set_91 : decode cX7_set 91 = .ok (.if_icmp .ne 8, 3) := by decide +kernel
theorem dX7_set_94 : decode cX7_set 94 = .ok (.iload_n 3, 1) := by decide +kernel
theorem dX7_set_95 : decode cX7_set 95 = .ok (.i2s, 1) := by decide +kernel
theorem dX7_set_96 : decode cX7_set 96 = .ok (.goto 4, 3) := by decide +kernel
theorem dX7_set_99 : decode cX7_set 99 = .ok (.iload_n 3, 1) := by decide +kernel
theorem dX7_set_100 : decode cX7_set 100 = .ok (.iastore, 1) := by decide +kernel
theorem dX7_set_101 : decode cX7_set 101 = .ok (.aload_n 0, 1) := by decide +kernel
theorem dX7_set_102 : decode cX7_set 102 = .ok (.getfield 16, 3) := by decide +kernel
theorem dX7_set_105 : decode cX7_set 105 = .ok (.bipush 40, 2) := by decide +kernel
theorem dX7_set_107 : decode cX7_set 107 = .ok (.iload_n 1, 1) := by decide +kernel
theorem dX7_set_108 : decode cX7_set 108 = .ok (.imul, 1) := by decide +kernel
theorem dX7_set_109 : decode cX7_set 109 = .ok (.iload_n 2, 1) := by decide +kernel
theorem dX7_set_110 : decode cX7_set 110 = .ok (.iadd, 1) := by decide +kernel
theorem dX7_set_111 : decode cX7_set 111 = .ok (.iaload, 1) := by decide +kernel
theorem dX7_set_112 : decode cX7_set 112 = .ok (.i2l, 1) := by decide +kernel
theorem dX7_set_113 : decode cX7_set 113 = .ok (.lreturn, 1) := by decide +kernel
theorem dX7_copy_0 : decode cX7_copy 0 = .ok (.aload_n 0, 1) := by decide +kernel
theorem dX7_copy_1 : decode cX7_copy 1 = .ok (.iconst 0, 1) := by decide +kernel
theorem dX7_copy_2 : decode cX7_copy 2 = .ok (.putfield 62, 3) := by decide +kernel
theorem dX7_copy_5 : decode cX7_copy 5 = .ok (.iload_n 1, 1) := by decide +kernel
theorem dX7_copy_6 : decode cX7_copy 6 = .ok (.invokestatic 77, 3) := by decide +kernel
theorem dX7_copy_9 : decode cX7_copy 9 = .ok (.ifCond .eq 10, 3) := by decide +kernel
theorem dX7_copy_12 : decode cX7_copy 12 = .ok (.iload_n 3, 1) := by decide +kernel
theorem dX7_copy_13 : decode cX7_copy 13 = .ok (.invokestatic 77, 3) := by decide +kernel
theorem dX7_copy_16 : decode cX7_copy 16 = .ok (.ifCond .ne 7, 3) := by decide +kernel
theorem dX7_copy_19 : decode cX7_copy 19 = .ok (.ldc2_w 83, 3) := by decide +kernel
theorem dX7_copy_22 : decode cX7_copy 22 = .ok (.lreturn, 1) := by decide +kernel
theorem dX7_copy_23 : decode cX7_copy 23 = .ok (.aload_n 0, 1) := by decide +kernel
theorem dX7_copy_24 : decode cX7_copy 24 = .ok (.iconst 0, 1) := by decide +kernel
theorem dX7_copy_25 : decode cX7_copy 25 = .ok (.putfield 66, 3) := by decide +kernel
theorem dX7_copy_28 : decode cX7_copy 28 = .ok (.aload_n 0, 1) := by decide +kernel
theorem dX7_copy_29 : decode cX7_copy 29 = .ok (.getfield 9, 3) := by decide +kernel
theorem dX7_copy_32 : decode cX7_copy 32 = .ok (.iload_n 1, 1) := by decide +kernel
theorem dX7_copy_33 : decode cX7_copy 33 = .ok (.iaload, 1) := by decide +kernel
theorem dX7_copy_34 : decode cX7_copy 34 = .ok (.ifCond .lt 12, 3) := by decide +kernel
theorem dX7_copy_37 : decode cX7_copy 37 = .ok (.aload_n 0, 1) := by decide +kernel
theorem dX7_copy_38 : decode cX7_copy 38 = .ok (.getfield 9, 3) := by decide +kernel
theorem dX7_copy_41 : decode cX7_copy 41 = .ok (.iload_n 3, 1) := by decide +kernel
theorem dX7_copy_42 : decode cX7_copy 42 = .ok (.iaload, 1) := by decide +kernel
theorem dX7_copy_43 : decode cX7_copy 43 = .ok (.ifCond .ge 9, 3) := by decide +kernel
theorem dX7_copy_46 : decode cX7_copy 46 = .ok (.aload_n 0, 1) := by decide +kernel
theorem dX7_copy_47 : decode cX7_copy 47 = .ok (.iconst 1, 1) := by decide +kernel
theorem dX7_copy_48 : decode cX7_copy 48 = .ok (.invokevirtual 85, 3) := by decide +kernel
theorem dX7_copy_51 : decode cX7_copy 51 = .ok (.lreturn, 1) := by decide +kernel
theorem dX7_copy_52 : decode cX7_copy 52 = .ok (.aload_n 0, 1) := by decide +kernel
theorem dX7_copy_53 : decode cX7_copy 53 = .ok (.getfield 9, 3) := by decide +kernel
theorem dX7_copy_56 : decode cX7_copy 56 = .ok (.iload_n 1, 1) := by decide +kernel
theorem dX7_copy_57 : decode cX7_copy 57 = .ok (.iaload, 1) := by decide +kernel
theorem dX7_copy_58 : decode cX7_copy 58 = .ok (.aload_n 0, 1) := by decide +kernel
theorem dX7_copy_59 : decode cX7_copy 59 = .ok (.getfield 9, 3) := by decide +kernel
theorem dX7_copy_62 : decode cX7_copy 62 = .ok (.iload_n 3, 1) := by decide +kernel
theorem dX7_copy_63 : decode cX7_copy 63 = .ok (.iaload, 1) := by decide +kernel
theorem dX7_copy_64 : decode cX7_copy 64 = .ok (.if_icmp .eq 9, 3) := by decide +kernel
theorem dX7_copy_67 : decode cX7_copy 67 = .ok (.aload_n 0, 1) := by decide +kernel
theorem dX7_copy_68 : decode cX7_copy 68 = .ok (.iconst 5, 1) := by decide +kernel
theorem dX7_copy_69 : decode cX7_copy 69 = .ok (.invokevirtual 85, 3) := by decide +kernel
theorem dX7_copy_72 : decode cX7_copy 72 = .ok (.lreturn, 1) := by decide +kernel
theorem dX7_copy_73 : decode cX7_copy 73 = .ok (.iload_n 2, 1) := by decide +kernel
theorem dX7_copy_74 : decode cX7_copy 74 = .ok (.ifCond .lt 48, 3) := by decide +kernel
theorem dX7_copy_77 : decode cX7_copy 77 = .ok (.iload 4, 2) := by decide +kernel
theorem dX7_copy_79 : decode cX7_copy 79 = .ok (.ifCond .lt 43, 3) := by decide +kernel
theorem dX7_copy_82 : decode cX7_copy 82 = .ok (.iload 5, 2) := by decide +kernel
theorem dX7_copy_84 : decode cX7_copy 84 = .ok (.ifCond .lt 38, 3) := by decide +kernel
theorem dX7_copy_87 : decode cX7_copy 87 = .ok (.iload_n 2, 1) := by decide +kernel
theorem dX7_copy_88 : decode cX7_copy 88 = .ok (.i2l, 1) := by decide +kernel
theorem dX7_copy_89 : decode cX7_copy 89 = .ok (.iload 5, 2) := by decide +kernel
theorem dX7_copy_91 : decode cX7_copy 91 = .ok (.i2l, 1) := by decide +kernel
theorem dX7_copy_92 : decode cX7_copy 92 = .ok (.ladd, 1) := by decide +kernel
theorem dX7_copy_93 : decode cX7_copy 93 = .ok (.aload_n 0, 1) := by decide +kernel
theorem dX7_copy_94 : decode cX7_copy 94 = .ok (.getfield 13, 3) := by decide +kernel
theorem dX7_copy_97 : decode cX7_copy 97 = .ok (.iload_n 1, 1) := by decide +kernel
theorem dX7_copy_98 : decode cX7_copy 98 = .ok (.iaload, 1) := by decide +kernel
theorem dX7_copy_99 : decode cX7_copy 99 = .ok (.i2l, 1) := by decide +kernel
theorem dX7_copy_100 : decode cX7_copy 100 = .ok (.lcmp, 1) := by decide +kernel
theorem dX7_copy_101 : decode cX7_copy 101 = .ok (.ifCond .gt 21, 3) := by decide +kernel
theorem dX7_copy_104 : decode cX7_copy 104 = .ok (.iload 4, 2) := by decide +kernel
theorem dX7_copy_106 : decode cX7_copy 106 = .ok (.i2l, 1) := by decide +kernel
theorem dX7_copy_107 : decode cX7_copy 107 = .ok (.iload 5, 2) := by decide +kernel
theorem dX7_copy_109 : decode cX7_copy 109 = .ok (.i2l, 1) := by decide +kernel
theorem dX7_copy_110 : decode cX7_copy 110 = .ok (.ladd, 1) := by decide +kernel
theorem dX7_copy_111 : decode cX7_copy 111 = .ok (.aload_n 0, 1) := by decide +kernel
theorem dX7_copy_112 : decode cX7_copy 112 = .ok (.getfield 13, 3) := by decide +kernel
theorem dX7_copy_115 : decode cX7_copy 115 = .ok (.iload_n 3, 1) := by decide +kernel
theorem dX7_copy_116 : decode cX7_copy 116 = .ok (.iaload, 1) := by decide +kernel
theorem dX7_copy_117 : decode cX7_copy 117 = .ok (.i2l, 1) := by decide +kernel
theorem dX7_copy_118 : decode cX7_copy 118 = .ok (.lcmp, 1) := by decide +kernel
theorem dX7_copy_119 : decode cX7_copy 119 = .ok (.ifCond .le 9, 3) := by decide +kernel
theorem dX7_copy_122 : decode cX7_copy 122 = .ok (.aload_n 0, 1) := by decide +kernel
theorem dX7_copy_123 : decode cX7_copy 123 = .ok (.iconst 2, 1) := by decide +kernel
theorem dX7_copy_124 : decode cX7_copy 124 = .ok (.invokevirtual 85, 3) := by decide +kernel
theorem dX7_copy_127 : decode cX7_copy 127 = .ok (.lreturn, 1) := by decide +kernel
theorem dX7_copy_128 : decode cX7_copy 128 = .ok (.iload_n 2, 1) := by decide +kernel
theorem dX7_copy_129 : decode cX7_copy 129 = .ok (.iload 4, 2) := by decide +kernel
theorem dX7_copy_131 : decode cX7_copy 131 = .ok (.if_icmp .lt 7, 3) := by decide +kernel
theorem dX7_copy_134 : decode cX7_copy 134 = .ok (.iconst 1, 1) := by decide +kernel
theorem dX7_copy_135 : decode cX7_copy 135 = .ok (.goto 4, 3) := by decide +kernel
theorem dX7_copy_138 : decode cX7_copy 138 = .ok (.iconst 0, 1) := by decide +kernel
theorem dX7_copy_139 : decode cX7_copy 139 = .ok (.istore 6, 2) := by decide +kernel
theorem dX7_copy_141 : decode cX7_copy 141 = .ok (.iconst 0, 1) := by decide +kernel
theorem dX7_copy_142 : decode cX7_copy 142 = .ok (.istore 7, 2) := by decide +kernel
theorem dX7_copy_144 : decode cX7_copy 144 = .ok (.iload 7, 2) := by decide +kernel
theorem dX7_copy_146 : decode cX7_copy 146 = .ok (.iload 5, 2) := by decide +kernel
theorem dX7_copy_148 : decode cX7_copy 148 = .ok (.if_icmp .ge 57, 3) := by decide +kernel
theorem dX7_copy_151 : decode cX7_copy 151 = .ok (.iload 6, 2) := by decide +kernel
theorem dX7_copy_153 : decode cX7_copy 153 = .ok (.ifCond .eq 8, 3) := by decide +kernel
theorem dX7_copy_156 : decode cX7_copy 156 = .ok (.iload 7, 2) := by decide +kernel
theorem dX7_copy_158 : decode cX7_copy 158 = .ok (.goto 10, 3) := by decide +kernel
theorem dX7_copy_161 : decode cX7_copy 161 = .ok (.iload 5, 2) := by decide +kernel
theorem dX7_copy_163 : decode cX7_copy 163 = .ok (.iconst 1, 1) := by decide +kernel
theorem dX7_copy_164 : decode cX7_copy 164 = .ok (.isub, 1) := by decide +kernel
theorem dX7_copy_165 : decode cX7_copy 165 = .ok (.iload 7, 2) := by decide +kernel
theorem dX7_copy_167 : decode cX7_copy 167 = .ok (.isub, 1) := by decide +kernel
theorem dX7_copy_168 : decode cX7_copy 168 = .ok (.istore 8, 2) := by decide +kernel
theorem dX7_copy_170 : decode cX7_copy 170 = .ok (.aload_n 0, 1) := by decide +kernel
theorem dX7_copy_171 : decode cX7_copy 171 = .ok (.getfield 16, 3) := by decide +kernel
theorem dX7_copy_174 : decode cX7_copy 174 = .ok (.bipush 40, 2) := by decide +kernel
theorem dX7_copy_176 : decode cX7_copy 176 = .ok (.iload_n 3, 1) := by decide +kernel
theorem dX7_copy_177 : decode cX7_copy 177 = .ok (.imul, 1) := by decide +kernel
theorem dX7_copy_178 : decode cX7_copy 178 = .ok (.iload 4, 2) := by decide +kernel
theorem dX7_copy_180 : decode cX7_copy 180 = .ok (.iadd, 1) := by decide +kernel
theorem dX7_copy_181 : decode cX7_copy 181 = .ok (.iload 8, 2) := by decide +kernel
theorem dX7_copy_183 : decode cX7_copy 183 = .ok (.iadd, 1) := by decide +kernel
theorem dX7_copy_184 : decode cX7_copy 184 = .ok (.aload_n 0, 1) := by decide +kernel
theorem dX7_copy_185 : decode cX7_copy 185 = .ok (.getfield 16, 3) := by decide +kernel
theorem dX7_copy_188 : decode cX7_copy 188 = .ok (.bipush 40, 2) := by decide +kernel
theorem dX7_copy_190 : decode cX7_copy 190 = .ok (.iload_n 1, 1) := by decide +kernel
theorem dX7_copy_191 : decode cX7_copy 191 = .ok (.imul, 1) := by decide +kernel
theorem dX7_copy_192 : decode cX7_copy 192 = .ok (.iload_n 2, 1) := by decide +kernel
theorem dX7_copy_193 : decode cX7_copy 193 = .ok (.iadd, 1) := by decide +kernel
theorem dX7_copy_194 : decode cX7_copy 194 = .ok (.iload 8, 2) := by decide +kernel
theorem dX7_copy_196 : decode cX7_copy 196 = .ok (.iadd, 1) := by decide +kernel
theorem dX7_copy_197 : decode cX7_copy 197 = .ok (.iaload, 1) := by decide +kernel
theorem dX7_copy_198 : decode cX7_copy 198 = .ok (.iastore, 1) := by decide +kernel
theorem dX7_copy_199 : decode cX7_copy 199 = .ok (.iinc 7 1, 3) := by decide +kernel
theorem dX7_copy_202 : decode cX7_copy 202 = .ok (.goto (-58), 3) := by decide +kernel
theorem dX7_copy_205 : decode cX7_copy 205 = .ok (.iload 5, 2) := by decide +kernel
theorem dX7_copy_207 : decode cX7_copy 207 = .ok (.i2l, 1) := by decide +kernel
theorem dX7_copy_208 : decode cX7_copy 208 = .ok (.lreturn, 1) := by decide +kernel
theorem dX7_drop_0 : decode cX7_drop 0 = .ok (.aload_n 0, 1) := by decide +kernel
theorem dX7_drop_1 : decode cX7_drop 1 = .ok (.iconst 0, 1) := by decide +kernel
theorem dX7_drop_2 : decode cX7_drop 2 = .ok (.putfield 62, 3) := by decide +kernel
theorem dX7_drop_5 : decode cX7_drop 5 = .ok (.iload_n 1, 1) := by decide +kernel
theorem dX7_drop_6 : decode cX7_drop 6 = .ok (.invokestatic 77, 3) := by decide +kernel
theorem dX7_drop_9 : decode cX7_drop 9 = .ok (.ifCond .ne 7, 3) := by decide +kernel
theorem dX7_drop_12 : decode cX7_drop 12 = .ok (.ldc2_w 83, 3) := by decide +kernel
theorem dX7_drop_15 : decode cX7_drop 15 = .ok (.lreturn, 1) := by decide +kernel
theorem dX7_drop_16 : decode cX7_drop 16 = .ok (.aload_n 0, 1) := by decide +kernel
theorem dX7_drop_17 : decode cX7_drop 17 = .ok (.iconst 0, 1) := by decide +kernel
theorem dX7_drop_18 : decode cX7_drop 18 = .ok (.putfield 66, 3) := by decide +kernel
theorem dX7_drop_21 : decode cX7_drop 21 = .ok (.aload_n 0, 1) := by decide +kernel
theorem dX7_drop_22 : decode cX7_drop 22 = .ok (.getfield 9, 3) := by decide +kernel
theorem dX7_drop_25 : decode cX7_drop 25 = .ok (.iload_n 1, 1) := by decide +kernel
theorem dX7_drop_26 : decode cX7_drop 26 = .ok (.iaload, 1) := by decide +kernel
theorem dX7_drop_27 : decode cX7_drop 27 = .ok (.ifCond .ge 9, 3) := by decide +kernel
theorem dX7_drop_30 : decode cX7_drop 30 = .ok (.aload_n 0, 1) := by decide +kernel
theorem dX7_drop_31 : decode cX7_drop 31 = .ok (.iconst 1, 1) := by decide +kernel
theorem dX7_drop_32 : decode cX7_drop 32 = .ok (.invokevirtual 85, 3) := by decide +kernel
theorem dX7_drop_35 : decode cX7_drop 35 = .ok (.lreturn, 1) := by decide +kernel
theorem dX7_drop_36 : decode cX7_drop 36 = .ok (.aload_n 0, 1) := by decide +kernel
theorem dX7_drop_37 : decode cX7_drop 37 = .ok (.getfield 9, 3) := by decide +kernel
theorem dX7_drop_40 : decode cX7_drop 40 = .ok (.iload_n 1, 1) := by decide +kernel
theorem dX7_drop_41 : decode cX7_drop 41 = .ok (.iconst (-1), 1) := by decide +kernel
theorem dX7_drop_42 : decode cX7_drop 42 = .ok (.iastore, 1) := by decide +kernel
theorem dX7_drop_43 : decode cX7_drop 43 = .ok (.aload_n 0, 1) := by decide +kernel
theorem dX7_drop_44 : decode cX7_drop 44 = .ok (.getfield 13, 3) := by decide +kernel
theorem dX7_drop_47 : decode cX7_drop 47 = .ok (.iload_n 1, 1) := by decide +kernel
theorem dX7_drop_48 : decode cX7_drop 48 = .ok (.iaload, 1) := by decide +kernel
theorem dX7_drop_49 : decode cX7_drop 49 = .ok (.i2l, 1) := by decide +kernel
theorem dX7_drop_50 : decode cX7_drop 50 = .ok (.lreturn, 1) := by decide +kernel
theorem dX7_lookItems_0 : decode cX7_lookItems 0 = .ok (.aload_n 0, 1) := by decide +kernel
theorem dX7_lookItems_1 : decode cX7_lookItems 1 = .ok (.getfield 9, 3) := by decide +kernel
theorem dX7_lookItems_4 : decode cX7_lookItems 4 = .ok (.iload_n 1, 1) := by decide +kernel
theorem dX7_lookItems_5 : decode cX7_lookItems 5 = .ok (.iaload, 1) := by decide +kernel
theorem dX7_lookItems_6 : decode cX7_lookItems 6 = .ok (.ifCond .ge 9, 3) := by decide +kernel
theorem dX7_lookItems_9 : decode cX7_lookItems 9 = .ok (.aload_n 0, 1) := by decide +kernel
theorem dX7_lookItems_10 : decode cX7_lookItems 10 = .ok (.iconst 1, 1) := by decide +kernel
theorem dX7_lookItems_11 : decode cX7_lookItems 11 = .ok (.invokevirtual 85, 3) := by decide +kernel
theorem dX7_lookItems_14 : decode cX7_lookItems 14 = .ok (.lreturn, 1) := by decide +kernel
theorem dX7_lookItems_15 : decode cX7_lookItems 15 = .ok (.iload_n 2, 1) := by decide +kernel
theorem dX7_lookItems_16 : decode cX7_lookItems 16 = .ok (.ifCond .lt 19, 3) := by decide +kernel
theorem dX7_lookItems_19 : decode cX7_lookItems 19 = .ok (.iload_n 2, 1) := by decide +kernel
theorem dX7_lookItems_20 : decode cX7_lookItems 20 = .ok (.i2l, 1) := by decide +kernel
theorem dX7_lookItems_21 : decode cX7_lookItems 21 = .ok (.iload_n 3, 1) := by decide +kernel
theorem dX7_lookItems_22 : decode cX7_lookItems 22 = .ok (.i2l, 1) := by decide +kernel
theorem dX7_lookItems_23 : decode cX7_lookItems 23 = .ok (.ladd, 1) := by decide +kernel
theorem dX7_lookItems_24 : decode cX7_lookItems 24 = .ok (.aload_n 0, 1) := by decide +kernel
theorem dX7_lookItems_25 : decode cX7_lookItems 25 = .ok (.getfield 13, 3) := by decide +kernel
theorem dX7_lookItems_28 : decode cX7_lookItems 28 = .ok (.iload_n 1, 1) := by decide +kernel
theorem dX7_lookItems_29 : decode cX7_lookItems 29 = .ok (.iaload, 1) := by decide +kernel
theorem dX7_lookItems_30 : decode cX7_lookItems 30 = .ok (.i2l, 1) := by decide +kernel
theorem dX7_lookItems_31 : decode cX7_lookItems 31 = .ok (.lcmp, 1) := by decide +kernel
theorem dX7_lookItems_32 : decode cX7_lookItems 32 = .ok (.ifCond .le 11, 3) := by decide +kernel
theorem dX7_lookItems_35 : decode cX7_lookItems 35 = .ok (.aload_n 0, 1) := by decide +kernel
theorem dX7_lookItems_36 : decode cX7_lookItems 36 = .ok (.iconst 2, 1) := by decide +kernel
theorem dX7_lookItems_37 : decode cX7_lookItems 37 = .ok (.invokevirtual 85, 3) := by decide +kernel
theorem dX7_lookItems_40 : decode cX7_lookItems 40 = .ok (.goto 4, 3) := by decide +kernel
theorem dX7_lookItems_43 : decode cX7_lookItems 43 = .ok (.lconst 0, 1) := by decide +kernel
theorem dX7_lookItems_44 : decode cX7_lookItems 44 = .ok (.lreturn, 1) := by decide +kernel
theorem dX7_feed_0 : decode cX7_feed 0 = .ok (.aload_n 0, 1) := by decide +kernel
theorem dX7_feed_1 : decode cX7_feed 1 = .ok (.iconst 0, 1) := by decide +kernel
theorem dX7_feed_2 : decode cX7_feed 2 = .ok (.putfield 62, 3) := by decide +kernel
theorem dX7_feed_5 : decode cX7_feed 5 = .ok (.iload_n 3, 1) := by decide +kernel
theorem dX7_feed_6 : decode cX7_feed 6 = .ok (.i2l, 1) := by decide +kernel
theorem dX7_feed_7 : decode cX7_feed 7 = .ok (.lconst 1, 1) := by decide +kernel
theorem dX7_feed_8 : decode cX7_feed 8 = .ok (.ldc2_w 89, 3) := by decide +kernel
theorem dX7_feed_11 : decode cX7_feed 11 = .ok (.invokestatic 73, 3) := by decide +kernel
theorem dX7_feed_14 : decode cX7_feed 14 = .ok (.ifCond .ne 7, 3) := by decide +kernel
theorem dX7_feed_17 : decode cX7_feed 17 = .ok (.ldc2_w 83, 3) := by decide +kernel
theorem dX7_feed_20 : decode cX7_feed 20 = .ok (.lreturn, 1) := by decide +kernel
theorem dX7_feed_21 : decode cX7_feed 21 = .ok (.aload_n 0, 1) := by decide +kernel
theorem dX7_feed_22 : decode cX7_feed 22 = .ok (.getfield 91, 3) := by decide +kernel
theorem dX7_feed_25 : decode cX7_feed 25 = .ok (.iload_n 3, 1) := by decide +kernel
theorem dX7_feed_26 : decode cX7_feed 26 = .ok (.iadd, 1) := by decide +kernel
theorem dX7_feed_27 : decode cX7_feed 27 = .ok (.sipush 400, 3) := by decide +kernel
theorem dX7_feed_30 : decode cX7_feed 30 = .ok (.if_icmp .le 7, 3) := by decide +kernel
theorem dX7_feed_33 : decode cX7_feed 33 = .ok (.ldc2_w 94, 3) := by decide +kernel
theorem dX7_feed_36 : decode cX7_feed 36 = .ok (.lreturn, 1) := by decide +kernel
theorem dX7_feed_37 : decode cX7_feed 37 = .ok (.iload_n 3, 1) := by decide +kernel
theorem dX7_feed_38 : decode cX7_feed 38 = .ok (.iconst 1, 1) := by decide +kernel
theorem dX7_feed_39 : decode cX7_feed 39 = .ok (.isub, 1) := by decide +kernel
theorem dX7_feed_40 : decode cX7_feed 40 = .ok (.istore 4, 2) := by decide +kernel
theorem dX7_feed_42 : decode cX7_feed 42 = .ok (.iload 4, 2) := by decide +kernel
theorem dX7_feed_44 : decode cX7_feed 44 = .ok (.ifCond .lt 40, 3) := by decide +kernel
theorem dX7_feed_47 : decode cX7_feed 47 = .ok (.aload_n 0, 1) := by decide +kernel
theorem dX7_feed_48 : decode cX7_feed 48 = .ok (.getfield 37, 3) := by decide +kernel
theorem dX7_feed_51 : decode cX7_feed 51 = .ok (.aload_n 0, 1) := by decide +kernel
theorem dX7_feed_52 : decode cX7_feed 52 = .ok (.getfield 91, 3) := by decide +kernel
theorem dX7_feed_55 : decode cX7_feed 55 = .ok (.lload_n 1, 1) := by decide +kernel
theorem dX7_feed_56 : decode cX7_feed 56 = .ok (.bipush 8, 2) := by decide +kernel
theorem dX7_feed_58 : decode cX7_feed 58 = .ok (.iload 4, 2) := by decide +kernel
theorem dX7_feed_60 : decode cX7_feed 60 = .ok (.imul, 1) := by decide +kernel
theorem dX7_feed_61 : decode cX7_feed 61 = .ok (.lshr, 1) := by decide +kernel
theorem dX7_feed_62 : decode cX7_feed 62 = .ok (.ldc2_w 96, 3) := by decide +kernel
theorem dX7_feed_65 : decode cX7_feed 65 = .ok (.land, 1) := by decide +kernel
theorem dX7_feed_66 : decode cX7_feed 66 = .ok (.l2i, 1) := by decide +kernel
theorem dX7_feed_67 : decode cX7_feed 67 = .ok (.iastore, 1) := by decide +kernel
theorem dX7_feed_68 : decode cX7_feed 68 = .ok (.aload_n 0, 1) := by decide +kernel
theorem dX7_feed_69 : decode cX7_feed 69 = .ok (.dup, 1) := by decide +kernel
theorem dX7_feed_70 : decode cX7_feed 70 = .ok (.getfield 91, 3) := by decide +kernel
theorem dX7_feed_73 : decode cX7_feed 73 = .ok (.iconst 1, 1) := by decide +kernel
theorem dX7_feed_74 : decode cX7_feed 74 = .ok (.iadd, 1) := by decide +kernel
theorem dX7_feed_75 : decode cX7_feed 75 = .ok (.putfield 91, 3) := by decide +kernel
theorem dX7_feed_78 : decode cX7_feed 78 = .ok (.iinc 4 (-1), 3) := by decide +kernel
theorem dX7_feed_81 : decode cX7_feed 81 = .ok (.goto (-39), 3) := by decide +kernel
theorem dX7_feed_84 : decode cX7_feed 84 = .ok (.aload_n 0, 1) := by decide +kernel
theorem dX7_feed_85 : decode cX7_feed 85 = .ok (.getfield 91, 3) := by decide +kernel
theorem dX7_feed_88 : decode cX7_feed 88 = .ok (.i2l, 1) := by decide +kernel
theorem dX7_feed_89 : decode cX7_feed 89 = .ok (.lreturn, 1) := by decide +kernel
theorem dX7_byteAt_0 : decode cX7_byteAt 0 = .ok (.iload_n 1, 1) := by decide +kernel
theorem dX7_byteAt_1 : decode cX7_byteAt 1 = .ok (.aload_n 0, 1) := by decide +kernel
theorem dX7_byteAt_2 : decode cX7_byteAt 2 = .ok (.getfield 98, 3) := by decide +kernel
theorem dX7_byteAt_5 : decode cX7_byteAt 5 = .ok (.if_icmp .ge 12, 3) := by decide +kernel
theorem dX7_byteAt_8 : decode cX7_byteAt 8 = .ok (.aload_n 0, 1) := by decide +kernel
theorem dX7_byteAt_9 : decode cX7_byteAt 9 = .ok (.getfield 37, 3) := by decide +kernel
theorem dX7_byteAt_12 : decode cX7_byteAt 12 = .ok (.iload_n 1, 1) := by decide +kernel
theorem dX7_byteAt_13 : decode cX7_byteAt 13 = .ok (.iaload, 1) := by decide +kernel
theorem dX7_byteAt_14 : decode cX7_byteAt 14 = .ok (.goto 5, 3) := by decide +kernel
theorem dX7_byteAt_17 : decode cX7_byteAt 17 = .ok (.ldc 101, 2) := by decide +kernel
theorem dX7_byteAt_19 : decode cX7_byteAt 19 = .ok (.ireturn, 1) := by decide +kernel
theorem dX7_isLetter_0 : decode cX7_isLetter 0 = .ok (.iload_n 0, 1) := by decide +kernel
theorem dX7_isLetter_1 : decode cX7_isLetter 1 = .ok (.bipush 97, 2) := by decide +kernel
theorem dX7_isLetter_3 : decode cX7_isLetter 3 = .ok (.if_icmp .lt 13, 3) := by decide +kernel
theorem dX7_isLetter_6 : decode cX7_isLetter 6 = .ok (.iload_n 0, 1) := by decide +kernel
theorem dX7_isLetter_7 : decode cX7_isLetter 7 = .ok (.bipush 122, 2) := by decide +kernel
theorem dX7_isLetter_9 : decode cX7_isLetter 9 = .ok (.if_icmp .gt 7, 3) := by decide +kernel
theorem dX7_isLetter_12 : decode cX7_isLetter 12 = .ok (.iconst 1, 1) := by decide +kernel
theorem dX7_isLetter_13 : decode cX7_isLetter 13 = .ok (.goto 4, 3) := by decide +kernel
theorem dX7_isLetter_16 : decode cX7_isLetter 16 = .ok (.iconst 0, 1) := by decide +kernel
theorem dX7_isLetter_17 : decode cX7_isLetter 17 = .ok (.ireturn, 1) := by decide +kernel
theorem dX7_isFigure_0 : decode cX7_isFigure 0 = .ok (.iload_n 0, 1) := by decide +kernel
theorem dX7_isFigure_1 : decode cX7_isFigure 1 = .ok (.bipush 48, 2) := by decide +kernel
theorem dX7_isFigure_3 : decode cX7_isFigure 3 = .ok (.if_icmp .lt 13, 3) := by decide +kernel
theorem dX7_isFigure_6 : decode cX7_isFigure 6 = .ok (.iload_n 0, 1) := by decide +kernel
theorem dX7_isFigure_7 : decode cX7_isFigure 7 = .ok (.bipush 57, 2) := by decide +kernel
theorem dX7_isFigure_9 : decode cX7_isFigure 9 = .ok (.if_icmp .gt 7, 3) := by decide +kernel
theorem dX7_isFigure_12 : decode cX7_isFigure 12 = .ok (.iconst 1, 1) := by decide +kernel
theorem dX7_isFigure_13 : decode cX7_isFigure 13 = .ok (.goto 4, 3) := by decide +kernel
theorem dX7_isFigure_16 : decode cX7_isFigure 16 = .ok (.iconst 0, 1) := by decide +kernel
theorem dX7_isFigure_17 : decode cX7_isFigure 17 = .ok (.ireturn, 1) := by decide +kernel
theorem dX7_next_0 : decode cX7_next 0 = .ok (.aload_n 0, 1) := by decide +kernel
theorem dX7_next_1 : decode cX7_next 1 = .ok (.aload_n 0, 1) := by decide +kernel
theorem dX7_next_2 : decode cX7_next 2 = .ok (.getfield 102, 3) := by decide +kernel
theorem dX7_next_5 : decode cX7_next 5 = .ok (.invokevirtual 105, 3) := by decide +kernel
theorem dX7_next_8 : decode cX7_next 8 = .ok (.bipush 32, 2) := by decide +kernel
theorem dX7_next_10 : decode cX7_next 10 = .ok (.if_icmp .eq 16, 3) := by decide +kernel
theorem dX7_next_13 : decode cX7_next 13 = .ok (.aload_n 0, 1) := by decide +kernel
theorem dX7_next_14 : decode cX7_next 14 = .ok (.aload_n 0, 1) := by decide +kernel
theorem dX7_next_15 : decode cX7_next 15 = .ok (.getfield 102, 3) := by decide +kernel
theorem dX7_next_18 : decode cX7_next 18 = .ok (.invokevirtual 105, 3) := by decide +kernel
theorem dX7_next_21 : decode cX7_next 21 = .ok (.bipush 10, 2) := by decide +kernel
theorem dX7_next_23 : decode cX7_next 23 = .ok (.if_icmp .ne 16, 3) := by decide +kernel
theorem dX7_next_26 : decode cX7_next 26 = .ok (.aload_n 0, 1) := by decide +kernel
theorem dX7_next_27 : decode cX7_next 27 = .ok (.dup, 1) := by decide +kernel
theorem dX7_next_28 : decode cX7_next 28 = .ok (.getfield 102, 3) := by decide +kernel
theorem dX7_next_31 : decode cX7_next 31 = .ok (.iconst 1, 1) := by decide +kernel
theorem dX7_next_32 : decode cX7_next 32 = .ok (.iadd, 1) := by decide +kernel
theorem dX7_next_33 : decode cX7_next 33 = .ok (.putfield 102, 3) := by decide +kernel
theorem dX7_next_36 : decode cX7_next 36 = .ok (.goto (-36), 3) := by decide +kernel
theorem dX7_next_39 : decode cX7_next 39 = .ok (.aload_n 0, 1) := by decide +kernel
theorem dX7_next_40 : decode cX7_next 40 = .ok (.aload_n 0, 1) := by decide +kernel
theorem dX7_next_41 : decode cX7_next 41 = .ok (.getfield 102, 3) := by decide +kernel
theorem dX7_next_44 : decode cX7_next 44 = .ok (.putfield 109, 3) := by decide +kernel
theorem dX7_next_47 : decode cX7_next 47 = .ok (.aload_n 0, 1) := by decide +kernel
theorem dX7_next_48 : decode cX7_next 48 = .ok (.aload_n 0, 1) := by decide +kernel
theorem dX7_next_49 : decode cX7_next 49 = .ok (.getfield 102, 3) := by decide +kernel
theorem dX7_next_52 : decode cX7_next 52 = .ok (.invokevirtual 105, 3) := by decide +kernel
theorem dX7_next_55 : decode cX7_next 55 = .ok (.istore_n 1, 1) := by decide +kernel
theorem dX7_next_56 : decode cX7_next 56 = .ok (.iload_n 1, 1) := by decide +kernel
theorem dX7_next_57 : decode cX7_next 57 = .ok (.ldc 101, 2) := by decide +kernel
theorem dX7_next_59 : decode cX7_next 59 = .ok (.if_icmp .ne 11, 3) := by decide +kernel
theorem dX7_next_62 : decode cX7_next 62 = .ok (.aload_n 0, 1) := by decide +kernel
theorem dX7_next_63 : decode cX7_next 63 = .ok (.iconst 1, 1) := by decide +kernel
theorem dX7_next_64 : decode cX7_next 64 = .ok (.putfield 112, 3) := by decide +kernel
theorem dX7_next_67 : decode cX7_next 67 = .ok (.goto 129, 3) := by decide +kernel
theorem dX7_next_70 : decode cX7_next 70 = .ok (.iload_n 1, 1) := by decide +kernel
theorem dX7_next_71 : decode cX7_next 71 = .ok (.invokestatic 115, 3) := by decide +kernel
theorem dX7_next_74 : decode cX7_next 74 = .ok (.ifCond .eq 38, 3) := by decide +kernel
theorem dX7_next_77 : decode cX7_next 77 = .ok (.aload_n 0, 1) := by decide +kernel
theorem dX7_next_78 : decode cX7_next 78 = .ok (.aload_n 0, 1) := by decide +kernel
theorem dX7_next_79 : decode cX7_next 79 = .ok (.getfield 102, 3) := by decide +kernel
theorem dX7_next_82 : decode cX7_next 82 = .ok (.invokevirtual 105, 3) := by decide +kernel
theorem dX7_next_85 : decode cX7_next 85 = .ok (.invokestatic 115, 3) := by decide +kernel
theorem dX7_next_88 : decode cX7_next 88 = .ok (.ifCond .eq 16, 3) := by decide +kernel
theorem dX7_next_91 : decode cX7_next 91 = .ok (.aload_n 0, 1) := by decide +kernel
theorem dX7_next_92 : decode cX7_next 92 = .ok (.dup, 1) := by decide +kernel
theorem dX7_next_93 : decode cX7_next 93 = .ok (.getfield 102, 3) := by decide +kernel
theorem dX7_next_96 : decode cX7_next 96 = .ok (.iconst 1, 1) := by decide +kernel
theorem dX7_next_97 : decode cX7_next 97 = .ok (.iadd, 1) := by decide +kernel
theorem dX7_next_98 : decode cX7_next 98 = .ok (.putfield 102, 3) := by decide +kernel
theorem dX7_next_101 : decode cX7_next 101 = .ok (.goto (-24), 3) := by decide +kernel
theorem dX7_next_104 : decode cX7_next 104 = .ok (.aload_n 0, 1) := by decide +kernel
theorem dX7_next_105 : decode cX7_next 105 = .ok (.iconst 2, 1) := by decide +kernel
theorem dX7_next_106 : decode cX7_next 106 = .ok (.putfield 112, 3) := by decide +kernel
theorem dX7_next_109 : decode cX7_next 109 = .ok (.goto 87, 3) := by decide +kernel
theorem dX7_next_112 : decode cX7_next 112 = .ok (.iload_n 1, 1) := by decide +kernel
theorem dX7_next_113 : decode cX7_next 113 = .ok (.invokestatic 118, 3) := by decide +kernel
theorem dX7_next_116 : decode cX7_next 116 = .ok (.ifCond .eq 55, 3) := by decide +kernel
theorem dX7_next_119 : decode cX7_next 119 = .ok (.aload_n 0, 1) := by decide +kernel
theorem dX7_next_120 : decode cX7_next 120 = .ok (.aload_n 0, 1) := by decide +kernel
theorem dX7_next_121 : decode cX7_next 121 = .ok (.getfield 102, 3) := by decide +kernel
theorem dX7_next_124 : decode cX7_next 124 = .ok (.invokevirtual 105, 3) := by decide +kernel
theorem dX7_next_127 : decode cX7_next 127 = .ok (.invokestatic 118, 3) := by decide +kernel
theorem dX7_next_130 : decode cX7_next 130 = .ok (.ifCond .eq 16, 3) := by decide +kernel
theorem dX7_next_133 : decode cX7_next 133 = .ok (.aload_n 0, 1) := by decide +kernel
theorem dX7_next_134 : decode cX7_next 134 = .ok (.dup, 1) := by decide +kernel
theorem dX7_next_135 : decode cX7_next 135 = .ok (.getfield 102, 3) := by decide +kernel
theorem dX7_next_138 : decode cX7_next 138 = .ok (.iconst 1, 1) := by decide +kernel
theorem dX7_next_139 : decode cX7_next 139 = .ok (.iadd, 1) := by decide +kernel
theorem dX7_next_140 : decode cX7_next 140 = .ok (.putfield 102, 3) := by decide +kernel
theorem dX7_next_143 : decode cX7_next 143 = .ok (.goto (-24), 3) := by decide +kernel
theorem dX7_next_146 : decode cX7_next 146 = .ok (.aload_n 0, 1) := by decide +kernel
theorem dX7_next_147 : decode cX7_next 147 = .ok (.aload_n 0, 1) := by decide +kernel
theorem dX7_next_148 : decode cX7_next 148 = .ok (.getfield 102, 3) := by decide +kernel
theorem dX7_next_151 : decode cX7_next 151 = .ok (.aload_n 0, 1) := by decide +kernel
theorem dX7_next_152 : decode cX7_next 152 = .ok (.getfield 109, 3) := by decide +kernel
theorem dX7_next_155 : decode cX7_next 155 = .ok (.isub, 1) := by decide +kernel
theorem dX7_next_156 : decode cX7_next 156 = .ok (.iconst 2, 1) := by decide +kernel
theorem dX7_next_157 : decode cX7_next 157 = .ok (.if_icmp .le 7, 3) := by decide +kernel
theorem dX7_next_160 : decode cX7_next 160 = .ok (.iconst 0, 1) := by decide +kernel
theorem dX7_next_161 : decode cX7_next 161 = .ok (.goto 4, 3) := by decide +kernel
theorem dX7_next_164 : decode cX7_next 164 = .ok (.iconst 3, 1) := by decide +kernel
theorem dX7_next_165 : decode cX7_next 165 = .ok (.putfield 112, 3) := by decide +kernel
theorem dX7_next_168 : decode cX7_next 168 = .ok (.goto 28, 3) := by decide +kernel
theorem dX7_next_171 : decode cX7_next 171 = .ok (.aload_n 0, 1) := by decide +kernel
theorem dX7_next_172 : decode cX7_next 172 = .ok (.dup, 1) := by decide +kernel
theorem dX7_next_173 : decode cX7_next 173 = .ok (.getfield 102, 3) := by decide +kernel
theorem dX7_next_176 : decode cX7_next 176 = .ok (.iconst 1, 1) := by decide +kernel
theorem dX7_next_177 : decode cX7_next 177 = .ok (.iadd, 1) := by decide +kernel
theorem dX7_next_178 : decode cX7_next 178 = .ok (.putfield 102, 3) := by decide +kernel
theorem dX7_next_181 : decode cX7_next 181 = .ok (.aload_n 0, 1) := by decide +kernel
theorem dX7_next_182 : decode cX7_next 182 = .ok (.iload_n 1, 1) := by decide +kernel
theorem dX7_next_183 : decode cX7_next 183 = .ok (.bipush 59, 2) := by decide +kernel
theorem dX7_next_185 : decode cX7_next 185 = .ok (.if_icmp .ne 7, 3) := by decide +kernel
theorem dX7_next_188 : decode cX7_next 188 = .ok (.iconst 4, 1) := by decide +kernel
theorem dX7_next_189 : decode cX7_next 189 = .ok (.goto 4, 3) := by decide +kernel
theorem dX7_next_192 : decode cX7_next 192 = .ok (.iconst 0, 1) := by decide +kernel
theorem dX7_next_193 : decode cX7_next 193 = .ok (.putfield 112, 3) := by decide +kernel
theorem dX7_next_196 : decode cX7_next 196 = .ok (.aload_n 0, 1) := by decide +kernel
theorem dX7_next_197 : decode cX7_next 197 = .ok (.aload_n 0, 1) := by decide +kernel
theorem dX7_next_198 : decode cX7_next 198 = .ok (.getfield 102, 3) := by decide +kernel
theorem dX7_next_201 : decode cX7_next 201 = .ok (.putfield 121, 3) := by decide +kernel
theorem dX7_next_204 : decode cX7_next 204 = .ok (.return_, 1) := by decide +kernel
theorem dX7_bad_0 : decode cX7_bad 0 = .ok (.aload_n 0, 1) := by decide +kernel
theorem dX7_bad_1 : decode cX7_bad 1 = .ok (.getfield 124, 3) := by decide +kernel
theorem dX7_bad_4 : decode cX7_bad 4 = .ok (.ifCond .ne 16, 3) := by decide +kernel
theorem dX7_bad_7 : decode cX7_bad 7 = .ok (.aload_n 0, 1) := by decide +kernel
theorem dX7_bad_8 : decode cX7_bad 8 = .ok (.iload_n 1, 1) := by decide +kernel
theorem dX7_bad_9 : decode cX7_bad 9 = .ok (.putfield 124, 3) := by decide +kernel
theorem dX7_bad_12 : decode cX7_bad 12 = .ok (.aload_n 0, 1) := by decide +kernel
theorem dX7_bad_13 : decode cX7_bad 13 = .ok (.aload_n 0, 1) := by decide +kernel
theorem dX7_bad_14 : decode cX7_bad 14 = .ok (.getfield 109, 3) := by decide +kernel
theorem dX7_bad_17 : decode cX7_bad 17 = .ok (.putfield 127, 3) := by decide +kernel
theorem dX7_bad_20 : decode cX7_bad 20 = .ok (.return_, 1) := by decide +kernel
theorem dX7_must_0 : decode cX7_must 0 = .ok (.iload_n 1, 1) := by decide +kernel
theorem dX7_must_1 : decode cX7_must 1 = .ok (.ifCond .ne 8, 3) := by decide +kernel
theorem dX7_must_4 : decode cX7_must 4 = .ok (.aload_n 0, 1) := by decide +kernel
theorem dX7_must_5 : decode cX7_must 5 = .ok (.iconst 1, 1) := by decide +kernel
theorem dX7_must_6 : decode cX7_must 6 = .ok (.invokevirtual 130, 3) := by decide +kernel
theorem dX7_must_9 : decode cX7_must 9 = .ok (.aload_n 0, 1) := by decide +kernel
theorem dX7_must_10 : decode cX7_must 10 = .ok (.getfield 124, 3) := by decide +kernel
theorem dX7_must_13 : decode cX7_must 13 = .ok (.ifCond .ne 7, 3) := by decide +kernel
theorem dX7_must_16 : decode cX7_must 16 = .ok (.aload_n 0, 1) := by decide +kernel
theorem dX7_must_17 : decode cX7_must 17 = .ok (.invokevirtual 134, 3) := by decide +kernel
theorem dX7_must_20 : decode cX7_must 20 = .ok (.return_, 1) := by decide +kernel
theorem dX7_word_0 : decode cX7_word 0 = .ok (.lconst 0, 1) := by decide +kernel
theorem dX7_word_1 : decode cX7_word 1 = .ok (.lstore_n 1, 1) := by decide +kernel
theorem dX7_word_2 : decode cX7_word 2 = .ok (.aload_n 0, 1) := by decide +kernel
theorem dX7_word_3 : decode cX7_word 3 = .ok (.getfield 109, 3) := by decide +kernel
theorem dX7_word_6 : decode cX7_word 6 = .ok (.istore_n 3, 1) := by decide +kernel
theorem dX7_word_7 : decode cX7_word 7 = .ok (.iload_n 3, 1) := by decide +kernel
theorem dX7_word_8 : decode cX7_word 8 = .ok (.aload_n 0, 1) := by decide +kernel
theorem dX7_word_9 : decode cX7_word 9 = .ok (.getfield 121, 3) := by decide +kernel
theorem dX7_word_12 : decode cX7_word 12 = .ok (.if_icmp .ge 44, 3) := by decide +kernel
theorem dX7_word_15 : decode cX7_word 15 = .ok (.aload_n 0, 1) := by decide +kernel
theorem dX7_word_16 : decode cX7_word 16 = .ok (.getfield 112, 3) := by decide +kernel
theorem dX7_word_19 : decode cX7_word 19 = .ok (.iconst 2, 1) := by decide +kernel
theorem dX7_word_20 : decode cX7_word 20 = .ok (.if_icmp .ne 36, 3) := by decide +kernel
theorem dX7_word_23 : decode cX7_word 23 = .ok (.aload_n 0, 1) := by decide +kernel
theorem dX7_word_24 : decode cX7_word 24 = .ok (.getfield 121, 3) := by decide +kernel
theorem dX7_word_27 : decode cX7_word 27 = .ok (.aload_n 0, 1) := by decide +kernel
theorem dX7_word_28 : decode cX7_word 28 = .ok (.getfield 109, 3) := by decide +kernel
theorem dX7_word_31 : decode cX7_word 31 = .ok (.isub, 1) := by decide +kernel
theorem dX7_word_32 : decode cX7_word 32 = .ok (.bipush 8, 2) := by decide +kernel
theorem dX7_word_34 : decode cX7_word 34 = .ok (.if_icmp .ge 22, 3) := by decide +kernel
theorem dX7_word_37 : decode cX7_word 37 = .ok (.lload_n 1, 1) := by decide +kernel
theorem dX7_word_38 : decode cX7_word 38 = .ok (.bipush 8, 2) := by decide +kernel
theorem dX7_word_40 : decode cX7_word 40 = .ok (.lshl, 1) := by decide +kernel
theorem dX7_word_41 : decode cX7_word 41 = .ok (.aload_n 0, 1) := by decide +kernel
theorem dX7_word_42 : decode cX7_word 42 = .ok (.getfield 37, 3) := by decide +kernel
theorem dX7_word_45 : decode cX7_word 45 = .ok (.iload_n 3, 1) := by decide +kernel
theorem dX7_word_46 : decode cX7_word 46 = .ok (.iaload, 1) := by decide +kernel
theorem dX7_word_47 : decode cX7_word 47 = .ok (.i2l, 1) := by decide +kernel
theorem dX7_word_48 : decode cX7_word 48 = .ok (.lor, 1) := by decide +kernel
theorem dX7_word_49 : decode cX7_word 49 = .ok (.lstore_n 1, 1) := by decide +kernel
theorem dX7_word_50 : decode cX7_word 50 = .ok (.iinc 3 1, 3) := by decide +kernel
theorem dX7_word_53 : decode cX7_word 53 = .ok (.goto (-46), 3) := by decide +kernel
theorem dX7_word_56 : decode cX7_word 56 = .ok (.lload_n 1, 1) := by decide +kernel
theorem dX7_word_57 : decode cX7_word 57 = .ok (.lreturn, 1) := by decide +kernel
theorem dX7_numberTo_0 : decode cX7_numberTo 0 = .ok (.aload_n 0, 1) := by decide +kernel
theorem dX7_numberTo_1 : decode cX7_numberTo 1 = .ok (.getfield 124, 3) := by decide +kernel
theorem dX7_numberTo_4 : decode cX7_numberTo 4 = .ok (.ifCond .le 5, 3) := by decide +kernel
theorem dX7_numberTo_7 : decode cX7_numberTo 7 = .ok (.iconst 0, 1) := by decide +kernel
theorem dX7_numberTo_8 : decode cX7_numberTo 8 = .ok (.ireturn, 1) := by decide +kernel
theorem dX7_numberTo_9 : decode cX7_numberTo 9 = .ok (.iconst 0, 1) := by decide +kernel
theorem dX7_numberTo_10 : decode cX7_numberTo 10 = .ok (.istore_n 2, 1) := by decide +kernel
theorem dX7_numberTo_11 : decode cX7_numberTo 11 = .ok (.aload_n 0, 1) := by decide +kernel
theorem dX7_numberTo_12 : decode cX7_numberTo 12 = .ok (.getfield 109, 3) := by decide +kernel
theorem dX7_numberTo_15 : decode cX7_numberTo 15 = .ok (.istore_n 3, 1) := by decide +kernel
theorem dX7_numberTo_16 : decode cX7_numberTo 16 = .ok (.iload_n 3, 1) := by decide +kernel
theorem dX7_numberTo_17 : decode cX7_numberTo 17 = .ok (.aload_n 0, 1) := by decide +kernel
theorem dX7_numberTo_18 : decode cX7_numberTo 18 = .ok (.getfield 121, 3) := by decide +kernel
theorem dX7_numberTo_21 : decode cX7_numberTo 21 = .ok (.if_icmp .ge 32, 3) := by decide +kernel
theorem dX7_numberTo_24 : decode cX7_numberTo 24 = .ok (.aload_n 0, 1) := by decide +kernel
theorem dX7_numberTo_25 : decode cX7_numberTo 25 = .ok (.getfield 112, 3) := by decide +kernel
theorem dX7_numberTo_28 : decode cX7_numberTo 28 = .ok (.iconst 3, 1) := by decide +kernel
theorem dX7_numberTo_29 : decode cX7_numberTo 29 = .ok (.if_icmp .ne 24, 3) := by decide +kernel
theorem dX7_numberTo_32 : decode cX7_numberTo 32 = .ok (.bipush 10, 2) := by decide +kernel
theorem dX7_numberTo_34 : decode cX7_numberTo 34 = .ok (.iload_n 2, 1) := by decide +kernel
theorem dX7_numberTo_35 : decode cX7_numberTo 35 = .ok (.imul, 1) := by decide +kernel
theorem dX7_numberTo_36 : decode cX7_numberTo 36 = .ok (.aload_n 0, 1) := by decide +kernel
theorem dX7_numberTo_37 : decode cX7_numberTo 37 = .ok (.getfield 37, 3) := by decide +kernel
theorem dX7_numberTo_40 : decode cX7_numberTo 40 = .ok (.iload_n 3, 1) := by decide +kernel
theorem dX7_numberTo_41 : decode cX7_numberTo 41 = .ok (.iaload, 1) := by decide +kernel
theorem dX7_numberTo_42 : decode cX7_numberTo 42 = .ok (.iadd, 1) := by decide +kernel
theorem dX7_numberTo_43 : decode cX7_numberTo 43 = .ok (.bipush 48, 2) := by decide +kernel
theorem dX7_numberTo_45 : decode cX7_numberTo 45 = .ok (.isub, 1) := by decide +kernel
theorem dX7_numberTo_46 : decode cX7_numberTo 46 = .ok (.istore_n 2, 1) := by decide +kernel
theorem dX7_numberTo_47 : decode cX7_numberTo 47 = .ok (.iinc 3 1, 3) := by decide +kernel
theorem dX7_numberTo_50 : decode cX7_numberTo 50 = .ok (.goto (-34), 3) := by decide +kernel
theorem dX7_numberTo_53 : decode cX7_numberTo 53 = .ok (.aload_n 0, 1) := by decide +kernel
theorem dX7_numberTo_54 : decode cX7_numberTo 54 = .ok (.getfield 112, 3) := by decide +kernel
theorem dX7_numberTo_57 : decode cX7_numberTo 57 = .ok (.iconst 3, 1) := by decide +kernel
theorem dX7_numberTo_58 : decode cX7_numberTo 58 = .ok (.if_icmp .ne 19, 3) := by decide +kernel
theorem dX7_numberTo_61 : decode cX7_numberTo 61 = .ok (.iload_n 2, 1) := by decide +kernel
theorem dX7_numberTo_62 : decode cX7_numberTo 62 = .ok (.i2l, 1) := by decide +kernel
theorem dX7_numberTo_63 : decode cX7_numberTo 63 = .ok (.lconst 1, 1) := by decide +kernel
theorem dX7_numberTo_64 : decode cX7_numberTo 64 = .ok (.iload_n 1, 1) := by decide +kernel
theorem dX7_numberTo_65 : decode cX7_numberTo 65 = .ok (.i2l, 1) := by decide +kernel
theorem dX7_numberTo_66 : decode cX7_numberTo 66 = .ok (.invokestatic 73, 3) := by decide +kernel
theorem dX7_numberTo_69 : decode cX7_numberTo 69 = .ok (.ifCond .ne 8, 3) := by decide +kernel
theorem dX7_numberTo_72 : decode cX7_numberTo 72 = .ok (.aload_n 0, 1) := by decide +kernel
theorem dX7_numberTo_73 : decode cX7_numberTo 73 = .ok (.iconst 2, 1) := by decide +kernel
theorem dX7_numberTo_74 : decode cX7_numberTo 74 = .ok (.invokevirtual 130, 3) := by decide +kernel
theorem dX7_numberTo_77 : decode cX7_numberTo 77 = .ok (.aload_n 0, 1) := by decide +kernel
theorem dX7_numberTo_78 : decode cX7_numberTo 78 = .ok (.aload_n 0, 1) := by decide +kernel
theorem dX7_numberTo_79 : decode cX7_numberTo 79 = .ok (.getfield 112, 3) := by decide +kernel
theorem dX7_numberTo_82 : decode cX7_numberTo 82 = .ok (.iconst 3, 1) := by decide +kernel
theorem dX7_numberTo_83 : decode cX7_numberTo 83 = .ok (.if_icmp .ne 7, 3) := by decide +kernel
theorem dX7_numberTo_86 : decode cX7_numberTo 86 = .ok (.iconst 1, 1) := by decide +kernel
theorem dX7_numberTo_87 : decode cX7_numberTo 87 = .ok (.goto 4, 3) := by decide +kernel
theorem dX7_numberTo_90 : decode cX7_numberTo 90 = .ok (.iconst 0, 1) := by decide +kernel
theorem dX7_numberTo_91 : decode cX7_numberTo 91 = .ok (.invokevirtual 137, 3) := by decide +kernel
theorem dX7_numberTo_94 : decode cX7_numberTo 94 = .ok (.iload_n 2, 1) := by decide +kernel
theorem dX7_numberTo_95 : decode cX7_numberTo 95 = .ok (.ireturn, 1) := by decide +kernel
theorem dX7_isWord_0 : decode cX7_isWord 0 = .ok (.aload_n 0, 1) := by decide +kernel
theorem dX7_isWord_1 : decode cX7_isWord 1 = .ok (.getfield 124, 3) := by decide +kernel
theorem dX7_isWord_4 : decode cX7_isWord 4 = .ok (.ifCond .ne 16, 3) := by decide +kernel
theorem dX7_isWord_7 : decode cX7_isWord 7 = .ok (.aload_n 0, 1) := by decide +kernel
theorem dX7_isWord_8 : decode cX7_isWord 8 = .ok (.invokevirtual 141, 3) := by decide +kernel
theorem dX7_isWord_11 : decode cX7_isWord 11 = .ok (.lload_n 1, 1) := by decide +kernel
theorem dX7_isWord_12 : decode cX7_isWord 12 = .ok (.lcmp, 1) := by decide +kernel
theorem dX7_isWord_13 : decode cX7_isWord 13 = .ok (.ifCond .ne 7, 3) := by decide +kernel
theorem dX7_isWord_16 : decode cX7_isWord 16 = .ok (.iconst 1, 1) := by decide +kernel
theorem dX7_isWord_17 : decode cX7_isWord 17 = .ok (.goto 4, 3) := by decide +kernel
theorem dX7_isWord_20 : decode cX7_isWord 20 = .ok (.iconst 0, 1) := by decide +kernel
theorem dX7_isWord_21 : decode cX7_isWord 21 = .ok (.ireturn, 1) := by decide +kernel
theorem dX7_mustEnd_0 : decode cX7_mustEnd 0 = .ok (.aload_n 0, 1) := by decide +kernel
theorem dX7_mustEnd_1 : decode cX7_mustEnd 1 = .ok (.getfield 124, 3) := by decide +kernel
theorem dX7_mustEnd_4 : decode cX7_mustEnd 4 = .ok (.ifCond .ne 20, 3) := by decide +kernel
theorem dX7_mustEnd_7 : decode cX7_mustEnd 7 = .ok (.aload_n 0, 1) := by decide +kernel
theorem dX7_mustEnd_8 : decode cX7_mustEnd 8 = .ok (.aload_n 0, 1) := by decide +kernel
theorem dX7_mustEnd_9 : decode cX7_mustEnd 9 = .ok (.getfield 112, 3) := by decide +kernel
theorem dX7_mustEnd_12 : decode cX7_mustEnd 12 = .ok (.iconst 4, 1) := by decide +kernel
theorem dX7_mustEnd_13 : decode cX7_mustEnd 13 = .ok (.if_icmp .ne 7, 3) := by decide +kernel
theorem dX7_mustEnd_16 : decode cX7_mustEnd 16 = .ok (.iconst 1, 1) := by decide +kernel
theorem dX7_mustEnd_17 : decode cX7_mustEnd 17 = .ok (.goto 4, 3) := by decide +kernel
theorem dX7_mustEnd_20 : decode cX7_mustEnd 20 = .ok (.iconst 0, 1) := by decide +kernel
theorem dX7_mustEnd_21 : decode cX7_mustEnd 21 = .ok (.invokevirtual 137, 3) := by decide +kernel
theorem dX7_mustEnd_24 : decode cX7_mustEnd 24 = .ok (.return_, 1) := by decide +kernel
theorem dX7_readGood_0 : decode cX7_readGood 0 = .ok (.aload_n 0, 1) := by decide +kernel
theorem dX7_readGood_1 : decode cX7_readGood 1 = .ok (.ldc2_w 145, 3) := by decide +kernel
theorem dX7_readGood_4 : decode cX7_readGood 4 = .ok (.invokevirtual 147, 3) := by decide +kernel
theorem dX7_readGood_7 : decode cX7_readGood 7 = .ok (.ifCond .eq 17, 3) := by decide +kernel
theorem dX7_readGood_10 : decode cX7_readGood 10 = .ok (.aload_n 0, 1) := by decide +kernel
theorem dX7_readGood_11 : decode cX7_readGood 11 = .ok (.getfield 151, 3) := by decide +kernel
theorem dX7_readGood_14 : decode cX7_readGood 14 = .ok (.bipush 6, 2) := by decide +kernel
theorem dX7_readGood_16 : decode cX7_readGood 16 = .ok (.if_icmp .ne 8, 3) := by decide +kernel
theorem dX7_readGood_19 : decode cX7_readGood 19 = .ok (.aload_n 0, 1) := by decide +kernel
theorem dX7_readGood_20 : decode cX7_readGood 20 = .ok (.iconst 3, 1) := by decide +kernel
theorem dX7_readGood_21 : decode cX7_readGood 21 = .ok (.invokevirtual 130, 3) := by decide +kernel
theorem dX7_readGood_24 : decode cX7_readGood 24 = .ok (.aload_n 0, 1) := by decide +kernel
theorem dX7_readGood_25 : decode cX7_readGood 25 = .ok (.aload_n 0, 1) := by decide +kernel
theorem dX7_readGood_26 : decode cX7_readGood 26 = .ok (.ldc2_w 145, 3) := by decide +kernel
theorem dX7_readGood_29 : decode cX7_readGood 29 = .ok (.invokevirtual 147, 3) := by decide +kernel
theorem dX7_readGood_32 : decode cX7_readGood 32 = .ok (.invokevirtual 137, 3) := by decide +kernel
theorem dX7_readGood_35 : decode cX7_readGood 35 = .ok (.aload_n 0, 1) := by decide +kernel
theorem dX7_readGood_36 : decode cX7_readGood 36 = .ok (.bipush 20, 2) := by decide +kernel
theorem dX7_readGood_38 : decode cX7_readGood 38 = .ok (.invokevirtual 154, 3) := by decide +kernel
theorem dX7_readGood_41 : decode cX7_readGood 41 = .ok (.istore_n 1, 1) := by decide +kernel
theorem dX7_readGood_42 : decode cX7_readGood 42 = .ok (.aload_n 0, 1) := by decide +kernel
theorem dX7_readGood_43 : decode cX7_readGood 43 = .ok (.getfield 124, 3) := by decide +kernel
theorem dX7_readGood_46 : decode cX7_readGood 46 = .ok (.ifCond .ne 23, 3) := by decide +kernel
theorem dX7_readGood_49 : decode cX7_readGood 49 = .ok (.aload_n 0, 1) := by decide +kernel
theorem dX7_readGood_50 : decode cX7_readGood 50 = .ok (.getfield 28, 3) := by decide +kernel
theorem dX7_readGood_53 : decode cX7_readGood 53 = .ok (.aload_n 0, 1) := by decide +kernel
theorem dX7_readGood_54 : decode cX7_readGood 54 = .ok (.getfield 151, 3) := by decide +kernel
theorem dX7_readGood_57 : decode cX7_readGood 57 = .ok (.iload_n 1, 1) := by decide +kernel
theorem dX7_readGood_58 : decode cX7_readGood 58 = .ok (.iastore, 1) := by decide +kernel
theorem dX7_readGood_59 : decode cX7_readGood 59 = .ok (.aload_n 0, 1) := by decide +kernel
theorem dX7_readGood_60 : decode cX7_readGood 60 = .ok (.dup, 1) := by decide +kernel
theorem dX7_readGood_61 : decode cX7_readGood 61 = .ok (.getfield 151, 3) := by decide +kernel
theorem dX7_readGood_64 : decode cX7_readGood 64 = .ok (.iconst 1, 1) := by decide +kernel
theorem dX7_readGood_65 : decode cX7_readGood 65 = .ok (.iadd, 1) := by decide +kernel
theorem dX7_readGood_66 : decode cX7_readGood 66 = .ok (.putfield 151, 3) := by decide +kernel
theorem dX7_readGood_69 : decode cX7_readGood 69 = .ok (.aload_n 0, 1) := by decide +kernel
theorem dX7_readGood_70 : decode cX7_readGood 70 = .ok (.invokevirtual 157, 3) := by decide +kernel
theorem dX7_readGood_73 : decode cX7_readGood 73 = .ok (.return_, 1) := by decide +kernel
theorem dX7_readLand_0 : decode cX7_readLand 0 = .ok (.aload_n 0, 1) := by decide +kernel
theorem dX7_readLand_1 : decode cX7_readLand 1 = .ok (.ldc2_w 160, 3) := by decide +kernel
theorem dX7_readLand_4 : decode cX7_readLand 4 = .ok (.invokevirtual 147, 3) := by decide +kernel
theorem dX7_readLand_7 : decode cX7_readLand 7 = .ok (.ifCond .eq 16, 3) := by decide +kernel
theorem dX7_readLand_10 : decode cX7_readLand 10 = .ok (.aload_n 0, 1) := by decide +kernel
theorem dX7_readLand_11 : decode cX7_readLand 11 = .ok (.getfield 162, 3) := by decide +kernel
theorem dX7_readLand_14 : decode cX7_readLand 14 = .ok (.iconst 3, 1) := by decide +kernel
theorem dX7_readLand_15 : decode cX7_readLand 15 = .ok (.if_icmp .ne 8, 3) := by decide +kernel
theorem dX7_readLand_18 : decode cX7_readLand 18 = .ok (.aload_n 0, 1) := by decide +kernel
theorem dX7_readLand_19 : decode cX7_readLand 19 = .ok (.iconst 3, 1) := by decide +kernel
theorem dX7_readLand_20 : decode cX7_readLand 20 = .ok (.invokevirtual 130, 3) := by decide +kernel
theorem dX7_readLand_23 : decode cX7_readLand 23 = .ok (.aload_n 0, 1) := by decide +kernel
theorem dX7_readLand_24 : decode cX7_readLand 24 = .ok (.aload_n 0, 1) := by decide +kernel
theorem dX7_readLand_25 : decode cX7_readLand 25 = .ok (.ldc2_w 160, 3) := by decide +kernel
theorem dX7_readLand_28 : decode cX7_readLand 28 = .ok (.invokevirtual 147, 3) := by decide +kernel
theorem dX7_readLand_31 : decode cX7_readLand 31 = .ok (.invokevirtual 137, 3) := by decide +kernel
theorem dX7_readLand_34 : decode cX7_readLand 34 = .ok (.aload_n 0, 1) := by decide +kernel
theorem dX7_readLand_35 : decode cX7_readLand 35 = .ok (.bipush 99, 2) := by decide +kernel
theorem dX7_readLand_37 : decode cX7_readLand 37 = .ok (.invokevirtual 154, 3) := by decide +kernel
theorem dX7_readLand_40 : decode cX7_readLand 40 = .ok (.istore_n 1, 1) := by decide +kernel
theorem dX7_readLand_41 : decode cX7_readLand 41 = .ok (.iconst 0, 1) := by decide +kernel
theorem dX7_readLand_42 : decode cX7_readLand 42 = .ok (.istore_n 2, 1) := by decide +kernel
theorem dX7_readLand_43 : decode cX7_readLand 43 = .ok (.iload_n 2, 1) := by decide +kernel
theorem dX7_readLand_44 : decode cX7_readLand 44 = .ok (.aload_n 0, 1) := by decide +kernel
theorem dX7_readLand_45 : decode cX7_readLand 45 = .ok (.getfield 151, 3) := by decide +kernel
theorem dX7_readLand_48 : decode cX7_readLand 48 = .ok (.if_icmp .ge 38, 3) := by decide +kernel
theorem dX7_readLand_51 : decode cX7_readLand 51 = .ok (.aload_n 0, 1) := by decide +kernel
theorem dX7_readLand_52 : decode cX7_readLand 52 = .ok (.bipush 20, 2) := by decide +kernel
theorem dX7_readLand_54 : decode cX7_readLand 54 = .ok (.invokevirtual 154, 3) := by decide +kernel
theorem dX7_readLand_57 : decode cX7_readLand 57 = .ok (.istore_n 3, 1) := by decide +kernel
theorem dX7_readLand_58 : decode cX7_readLand 58 = .ok (.aload_n 0, 1) := by decide +kernel
theorem dX7_readLand_59 : decode cX7_readLand 59 = .ok (.getfield 124, 3) := by decide +kernel
theorem dX7_readLand_62 : decode cX7_readLand 62 = .ok (.ifCond .ne 18, 3) := by decide +kernel
theorem dX7_readLand_65 : decode cX7_readLand 65 = .ok (.aload_n 0, 1) := by decide +kernel
theorem dX7_readLand_66 : decode cX7_readLand 66 = .ok (.getfield 34, 3) := by decide +kernel
theorem dX7_readLand_69 : decode cX7_readLand 69 = .ok (.bipush 6, 2) := by decide +kernel
theorem dX7_readLand_71 : decode cX7_readLand 71 = .ok (.aload_n 0, 1) := by decide +kernel
theorem dX7_readLand_72 : decode cX7_readLand 72 = .ok (.getfield 162, 3) := by decide +kernel
theorem dX7_readLand_75 : decode cX7_readLand 75 = .ok (.imul, 1) := by decide +kernel
theorem dX7_readLand_76 : decode cX7_readLand 76 = .ok (.iload_n 2, 1) := by decide +kernel
theorem dX7_readLand_77 : decode cX7_readLand 77 = .ok (.iadd, 1) := by decide +kernel
theorem dX7_readLand_78 : decode cX7_readLand 78 = .ok (.iload_n 3, 1) := by decide +kernel
theorem dX7_readLand_79 : decode cX7_readLand 79 = .ok (.iastore, 1) := by decide +kernel
theorem dX7_readLand_80 : decode cX7_readLand 80 = .ok (.iinc 2 1, 3) := by decide +kernel
theorem dX7_readLand_83 : decode cX7_readLand 83 = .ok (.goto (-40), 3) := by decide +kernel
theorem dX7_readLand_86 : decode cX7_readLand 86 = .ok (.aload_n 0, 1) := by decide +kernel
theorem dX7_readLand_87 : decode cX7_readLand 87 = .ok (.getfield 124, 3) := by decide +kernel
theorem dX7_readLand_90 : decode cX7_readLand 90 = .ok (.ifCond .ne 23, 3) := by decide +kernel
theorem dX7_readLand_93 : decode cX7_readLand 93 = .ok (.aload_n 0, 1) := by decide +kernel
theorem dX7_readLand_94 : decode cX7_readLand 94 = .ok (.getfield 31, 3) := by decide +kernel
theorem dX7_readLand_97 : decode cX7_readLand 97 = .ok (.aload_n 0, 1) := by decide +kernel
theorem dX7_readLand_98 : decode cX7_readLand 98 = .ok (.getfield 162, 3) := by decide +kernel
theorem dX7_readLand_101 : decode cX7_readLand 101 = .ok (.iload_n 1, 1) := by decide +kernel
theorem dX7_readLand_102 : decode cX7_readLand 102 = .ok (.iastore, 1) := by decide +kernel
theorem dX7_readLand_103 : decode cX7_readLand 103 = .ok (.aload_n 0, 1) := by decide +kernel
theorem dX7_readLand_104 : decode cX7_readLand 104 = .ok (.dup, 1) := by decide +kernel
theorem dX7_readLand_105 : decode cX7_readLand 105 = .ok (.getfield 162, 3) := by decide +kernel
theorem dX7_readLand_108 : decode cX7_readLand 108 = .ok (.iconst 1, 1) := by decide +kernel
theorem dX7_readLand_109 : decode cX7_readLand 109 = .ok (.iadd, 1) := by decide +kernel
theorem dX7_readLand_110 : decode cX7_readLand 110 = .ok (.putfield 162, 3) := by decide +kernel
theorem dX7_readLand_113 : decode cX7_readLand 113 = .ok (.aload_n 0, 1) := by decide +kernel
theorem dX7_readLand_114 : decode cX7_readLand 114 = .ok (.invokevirtual 157, 3) := by decide +kernel
theorem dX7_readLand_117 : decode cX7_readLand 117 = .ok (.return_, 1) := by decide +kernel
theorem dX7_world_0 : decode cX7_world 0 = .ok (.aload_n 0, 1) := by decide +kernel
theorem dX7_world_1 : decode cX7_world 1 = .ok (.iconst 0, 1) := by decide +kernel
theorem dX7_world_2 : decode cX7_world 2 = .ok (.putfield 62, 3) := by decide +kernel
theorem dX7_world_5 : decode cX7_world 5 = .ok (.aload_n 0, 1) := by decide +kernel
theorem dX7_world_6 : decode cX7_world 6 = .ok (.aload_n 0, 1) := by decide +kernel
theorem dX7_world_7 : decode cX7_world 7 = .ok (.getfield 91, 3) := by decide +kernel
theorem dX7_world_10 : decode cX7_world 10 = .ok (.putfield 98, 3) := by decide +kernel
theorem dX7_world_13 : decode cX7_world 13 = .ok (.aload_n 0, 1) := by decide +kernel
theorem dX7_world_14 : decode cX7_world 14 = .ok (.iconst 0, 1) := by decide +kernel
theorem dX7_world_15 : decode cX7_world 15 = .ok (.putfield 91, 3) := by decide +kernel
theorem dX7_world_18 : decode cX7_world 18 = .ok (.aload_n 0, 1) := by decide +kernel
theorem dX7_world_19 : decode cX7_world 19 = .ok (.iconst 0, 1) := by decide +kernel
theorem dX7_world_20 : decode cX7_world 20 = .ok (.putfield 102, 3) := by decide +kernel
theorem dX7_world_23 : decode cX7_world 23 = .ok (.aload_n 0, 1) := by decide +kernel
theorem dX7_world_24 : decode cX7_world 24 = .ok (.iconst 0, 1) := by decide +kernel
theorem dX7_world_25 : decode cX7_world 25 = .ok (.putfield 124, 3) := by decide +kernel
theorem dX7_world_28 : decode cX7_world 28 = .ok (.aload_n 0, 1) := by decide +kernel
theorem dX7_world_29 : decode cX7_world 29 = .ok (.iconst 0, 1) := by decide +kernel
theorem dX7_world_30 : decode cX7_world 30 = .ok (.putfield 162, 3) := by decide +kernel
theorem dX7_world_33 : decode cX7_world 33 = .ok (.aload_n 0, 1) := by decide +kernel
theorem dX7_world_34 : decode cX7_world 34 = .ok (.iconst 0, 1) := by decide +kernel
theorem dX7_world_35 : decode cX7_world 35 = .ok (.putfield 151, 3) := by decide +kernel
theorem dX7_world_38 : decode cX7_world 38 = .ok (.aload_n 0, 1) := by decide +kernel
theorem dX7_world_39 : decode cX7_world 39 = .ok (.invokevirtual 134, 3) := by decide +kernel
theorem dX7_world_42 : decode cX7_world 42 = .ok (.aload_n 0, 1) := by decide +kernel
theorem dX7_world_43 : decode cX7_world 43 = .ok (.invokevirtual 165, 3) := by decide +kernel
theorem dX7_world_46 : decode cX7_world 46 = .ok (.aload_n 0, 1) := by decide +kernel
theorem dX7_world_47 : decode cX7_world 47 = .ok (.ldc2_w 145, 3) := by decide +kernel
theorem dX7_world_50 : decode cX7_world 50 = .ok (.invokevirtual 147, 3) := by decide +kernel
theorem dX7_world_53 : decode cX7_world 53 = .ok (.ifCond .eq 10, 3) := by decide +kernel
theorem dX7_world_56 : decode cX7_world 56 = .ok (.aload_n 0, 1) := by decide +kernel
theorem dX7_world_57 : decode cX7_world 57 = .ok (.invokevirtual 165, 3) := by decide +kernel
theorem dX7_world_60 : decode cX7_world 60 = .ok (.goto (-14), 3) := by decide +kernel
theorem dX7_world_63 : decode cX7_world 63 = .ok (.aload_n 0, 1) := by decide +kernel
theorem dX7_world_64 : decode cX7_world 64 = .ok (.getfield 124, 3) := by decide +kernel
theorem dX7_world_67 : decode cX7_world 67 = .ok (.ifCond .ne 7, 3) := by decide +kernel
theorem dX7_world_70 : decode cX7_world 70 = .ok (.aload_n 0, 1) := by decide +kernel
theorem dX7_world_71 : decode cX7_world 71 = .ok (.invokevirtual 168, 3) := by decide +kernel
theorem dX7_world_74 : decode cX7_world 74 = .ok (.aload_n 0, 1) := by decide +kernel
theorem dX7_world_75 : decode cX7_world 75 = .ok (.getfield 124, 3) := by decide +kernel
theorem dX7_world_78 : decode cX7_world 78 = .ok (.ifCond .ne 18, 3) := by decide +kernel
theorem dX7_world_81 : decode cX7_world 81 = .ok (.aload_n 0, 1) := by decide +kernel
theorem dX7_world_82 : decode cX7_world 82 = .ok (.getfield 112, 3) := by decide +kernel
theorem dX7_world_85 : decode cX7_world 85 = .ok (.iconst 1, 1) := by decide +kernel
theorem dX7_world_86 : decode cX7_world 86 = .ok (.if_icmp .eq 10, 3) := by decide +kernel
theorem dX7_world_89 : decode cX7_world 89 = .ok (.aload_n 0, 1) := by decide +kernel
theorem dX7_world_90 : decode cX7_world 90 = .ok (.invokevirtual 168, 3) := by decide +kernel
theorem dX7_world_93 : decode cX7_world 93 = .ok (.goto (-19), 3) := by decide +kernel
theorem dX7_world_96 : decode cX7_world 96 = .ok (.aload_n 0, 1) := by decide +kernel
theorem dX7_world_97 : decode cX7_world 97 = .ok (.getfield 124, 3) := by decide +kernel
theorem dX7_world_100 : decode cX7_world 100 = .ok (.ifCond .le 21, 3) := by decide +kernel
theorem dX7_world_103 : decode cX7_world 103 = .ok (.aload_n 0, 1) := by decide +kernel
theorem dX7_world_104 : decode cX7_world 104 = .ok (.aload_n 0, 1) := by decide +kernel
theorem dX7_world_105 : decode cX7_world 105 = .ok (.getfield 124, 3) := by decide +kernel
theorem dX7_world_108 : decode cX7_world 108 = .ok (.putfield 171, 3) := by decide +kernel
theorem dX7_world_111 : decode cX7_world 111 = .ok (.ldc2_w 174, 3) := by decide +kernel
theorem dX7_world_114 : decode cX7_world 114 = .ok (.aload_n 0, 1) := by decide +kernel
theorem dX7_world_115 : decode cX7_world 115 = .ok (.getfield 127, 3) := by decide +kernel
theorem dX7_world_118 : decode cX7_world 118 = .ok (.i2l, 1) := by decide +kernel
theorem dX7_world_119 : decode cX7_world 119 = .ok (.lsub, 1) := by decide +kernel
theorem dX7_world_120 : decode cX7_world 120 = .ok (.lreturn, 1) := by decide +kernel
theorem dX7_world_121 : decode cX7_world 121 = .ok (.aload_n 0, 1) := by decide +kernel
theorem dX7_world_122 : decode cX7_world 122 = .ok (.aload_n 0, 1) := by decide +kernel
theorem dX7_world_123 : decode cX7_world 123 = .ok (.getfield 162, 3) := by decide +kernel
theorem dX7_world_126 : decode cX7_world 126 = .ok (.putfield 176, 3) := by decide +kernel
theorem dX7_world_129 : decode cX7_world 129 = .ok (.aload_n 0, 1) := by decide +kernel
theorem dX7_world_130 : decode cX7_world 130 = .ok (.aload_n 0, 1) := by decide +kernel
theorem dX7_world_131 : decode cX7_world 131 = .ok (.getfield 151, 3) := by decide +kernel
theorem dX7_world_134 : decode cX7_world 134 = .ok (.putfield 179, 3) := by decide +kernel
theorem dX7_world_137 : decode cX7_world 137 = .ok (.iconst 0, 1) := by decide +kernel
theorem dX7_world_138 : decode cX7_world 138 = .ok (.istore_n 1, 1) := by decide +kernel
theorem dX7_world_139 : decode cX7_world 139 = .ok (.iload_n 1, 1) := by decide +kernel
theorem dX7_world_140 : decode cX7_world 140 = .ok (.bipush 18, 2) := by decide +kernel
theorem dX7_world_142 : decode cX7_world 142 = .ok (.if_icmp .ge 55, 3) := by decide +kernel
theorem dX7_world_145 : decode cX7_world 145 = .ok (.aload_n 0, 1) := by decide +kernel
theorem dX7_world_146 : decode cX7_world 146 = .ok (.getfield 25, 3) := by decide +kernel
theorem dX7_world_149 : decode cX7_world 149 = .ok (.iload_n 1, 1) := by decide +kernel
theorem dX7_world_150 : decode cX7_world 150 = .ok (.aload_n 0, 1) := by decide +kernel
theorem dX7_world_151 : decode cX7_world 151 = .ok (.getfield 34, 3) := by decide +kernel
theorem dX7_world_154 : decode cX7_world 154 = .ok (.iload_n 1, 1) := by decide +kernel
theorem dX7_world_155 : decode cX7_world 155 = .ok (.iaload, 1) := by decide +kernel
theorem dX7_world_156 : decode cX7_world 156 = .ok (.iastore, 1) := by decide +kernel
theorem dX7_world_157 : decode cX7_world 157 = .ok (.aload_n 0, 1) := by decide +kernel
theorem dX7_world_158 : decode cX7_world 158 = .ok (.getfield 19, 3) := by decide +kernel
theorem dX7_world_161 : decode cX7_world 161 = .ok (.iload_n 1, 1) := by decide +kernel
theorem dX7_world_162 : decode cX7_world 162 = .ok (.bipush 6, 2) := by decide +kernel
theorem dX7_world_164 : decode cX7_world 164 = .ok (.irem, 1) := by decide +kernel
theorem dX7_world_165 : decode cX7_world 165 = .ok (.aload_n 0, 1) := by decide +kernel
theorem dX7_world_166 : decode cX7_world 166 = .ok (.getfield 28, 3) := by decide +kernel
theorem dX7_world_169 : decode cX7_world 169 = .ok (.iload_n 1, 1) := by decide +kernel
theorem dX7_world_170 : decode cX7_world 170 = .ok (.bipush 6, 2) := by decide +kernel
theorem dX7_world_172 : decode cX7_world 172 = .ok (.irem, 1) := by decide +kernel
theorem dX7_world_173 : decode cX7_world 173 = .ok (.iaload, 1) := by decide +kernel
theorem dX7_world_174 : decode cX7_world 174 = .ok (.iastore, 1) := by decide +kernel
theorem dX7_world_175 : decode cX7_world 175 = .ok (.aload_n 0, 1) := by decide +kernel
theorem dX7_world_176 : decode cX7_world 176 = .ok (.getfield 22, 3) := by decide +kernel
theorem dX7_world_179 : decode cX7_world 179 = .ok (.iload_n 1, 1) := by decide +kernel
theorem dX7_world_180 : decode cX7_world 180 = .ok (.iconst 3, 1) := by decide +kernel
theorem dX7_world_181 : decode cX7_world 181 = .ok (.irem, 1) := by decide +kernel
theorem dX7_world_182 : decode cX7_world 182 = .ok (.aload_n 0, 1) := by decide +kernel
theorem dX7_world_183 : decode cX7_world 183 = .ok (.getfield 31, 3) := by decide +kernel
theorem dX7_world_186 : decode cX7_world 186 = .ok (.iload_n 1, 1) := by decide +kernel
theorem dX7_world_187 : decode cX7_world 187 = .ok (.iconst 3, 1) := by decide +kernel
theorem dX7_world_188 : decode cX7_world 188 = .ok (.irem, 1) := by decide +kernel
theorem dX7_world_189 : decode cX7_world 189 = .ok (.iaload, 1) := by decide +kernel
theorem dX7_world_190 : decode cX7_world 190 = .ok (.iastore, 1) := by decide +kernel
theorem dX7_world_191 : decode cX7_world 191 = .ok (.iinc 1 1, 3) := by decide +kernel
theorem dX7_world_194 : decode cX7_world 194 = .ok (.goto (-55), 3) := by decide +kernel
theorem dX7_world_197 : decode cX7_world 197 = .ok (.aload_n 0, 1) := by decide +kernel
theorem dX7_world_198 : decode cX7_world 198 = .ok (.iconst 0, 1) := by decide +kernel
theorem dX7_world_199 : decode cX7_world 199 = .ok (.putfield 182, 3) := by decide +kernel
theorem dX7_world_202 : decode cX7_world 202 = .ok (.aload_n 0, 1) := by decide +kernel
theorem dX7_world_203 : decode cX7_world 203 = .ok (.iconst 0, 1) := by decide +kernel
theorem dX7_world_204 : decode cX7_world 204 = .ok (.putfield 186, 3) := by decide +kernel
theorem dX7_world_207 : decode cX7_world 207 = .ok (.aload_n 0, 1) := by decide +kernel
theorem dX7_world_208 : decode cX7_world 208 = .ok (.getfield 176, 3) := by decide +kernel
theorem dX7_world_211 : decode cX7_world 211 = .ok (.i2l, 1) := by decide +kernel
theorem dX7_world_212 : decode cX7_world 212 = .ok (.lreturn, 1) := by decide +kernel
theorem dX7_fault_0 : decode cX7_fault 0 = .ok (.aload_n 0, 1) := by decide +kernel
theorem dX7_fault_1 : decode cX7_fault 1 = .ok (.iconst 0, 1) := by decide +kernel
theorem dX7_fault_2 : decode cX7_fault 2 = .ok (.putfield 62, 3) := by decide +kernel
theorem dX7_fault_5 : decode cX7_fault 5 = .ok (.aload_n 0, 1) := by decide +kernel
theorem dX7_fault_6 : decode cX7_fault 6 = .ok (.getfield 171, 3) := by decide +kernel
theorem dX7_fault_9 : decode cX7_fault 9 = .ok (.ireturn, 1) := by decide +kernel
theorem dX7_isLand_0 : decode cX7_isLand 0 = .ok (.iload_n 1, 1) := by decide +kernel
theorem dX7_isLand_1 : decode cX7_isLand 1 = .ok (.i2l, 1) := by decide +kernel
theorem dX7_isLand_2 : decode cX7_isLand 2 = .ok (.lconst 0, 1) := by decide +kernel
theorem dX7_isLand_3 : decode cX7_isLand 3 = .ok (.aload_n 0, 1) := by decide +kernel
theorem dX7_isLand_4 : decode cX7_isLand 4 = .ok (.getfield 176, 3) := by decide +kernel
theorem dX7_isLand_7 : decode cX7_isLand 7 = .ok (.iconst 1, 1) := by decide +kernel
theorem dX7_isLand_8 : decode cX7_isLand 8 = .ok (.isub, 1) := by decide +kernel
theorem dX7_isLand_9 : decode cX7_isLand 9 = .ok (.i2l, 1) := by decide +kernel
theorem dX7_isLand_10 : decode cX7_isLand 10 = .ok (.invokestatic 73, 3) := by decide +kernel
theorem dX7_isLand_13 : decode cX7_isLand 13 = .ok (.ireturn, 1) := by decide +kernel
theorem dX7_isGood_0 : decode cX7_isGood 0 = .ok (.iload_n 1, 1) := by decide +kernel
theorem dX7_isGood_1 : decode cX7_isGood 1 = .ok (.i2l, 1) := by decide +kernel
theorem dX7_isGood_2 : decode cX7_isGood 2 = .ok (.lconst 0, 1) := by decide +kernel
theorem dX7_isGood_3 : decode cX7_isGood 3 = .ok (.aload_n 0, 1) := by decide +kernel
theorem dX7_isGood_4 : decode cX7_isGood 4 = .ok (.getfield 179, 3) := by decide +kernel
theorem dX7_isGood_7 : decode cX7_isGood 7 = .ok (.iconst 1, 1) := by decide +kernel
theorem dX7_isGood_8 : decode cX7_isGood 8 = .ok (.isub, 1) := by decide +kernel
theorem dX7_isGood_9 : decode cX7_isGood 9 = .ok (.i2l, 1) := by decide +kernel
theorem dX7_isGood_10 : decode cX7_isGood 10 = .ok (.invokestatic 73, 3) := by decide +kernel
theorem dX7_isGood_13 : decode cX7_isGood 13 = .ok (.ireturn, 1) := by decide +kernel
theorem dX7_told_0 : decode cX7_told 0 = .ok (.aload_n 0, 1) := by decide +kernel
theorem dX7_told_1 : decode cX7_told 1 = .ok (.iconst 0, 1) := by decide +kernel
theorem dX7_told_2 : decode cX7_told 2 = .ok (.putfield 62, 3) := by decide +kernel
theorem dX7_told_5 : decode cX7_told 5 = .ok (.aload_n 0, 1) := by decide +kernel
theorem dX7_told_6 : decode cX7_told 6 = .ok (.iload_n 1, 1) := by decide +kernel
theorem dX7_told_7 : decode cX7_told 7 = .ok (.invokevirtual 189, 3) := by decide +kernel
theorem dX7_told_10 : decode cX7_told 10 = .ok (.ifCond .eq 23, 3) := by decide +kernel
theorem dX7_told_13 : decode cX7_told 13 = .ok (.aload_n 0, 1) := by decide +kernel
theorem dX7_told_14 : decode cX7_told 14 = .ok (.iload_n 2, 1) := by decide +kernel
theorem dX7_told_15 : decode cX7_told 15 = .ok (.invokevirtual 192, 3) := by decide +kernel
theorem dX7_told_18 : decode cX7_told 18 = .ok (.ifCond .eq 15, 3) := by decide +kernel
theorem dX7_told_21 : decode cX7_told 21 = .ok (.iload_n 3, 1) := by decide +kernel
theorem dX7_told_22 : decode cX7_told 22 = .ok (.i2l, 1) := by decide +kernel
theorem dX7_told_23 : decode cX7_told 23 = .ok (.lconst 0, 1) := by decide +kernel
theorem dX7_told_24 : decode cX7_told 24 = .ok (.ldc2_w 81, 3) := by decide +kernel
theorem dX7_told_27 : decode cX7_told 27 = .ok (.invokestatic 73, 3) := by decide +kernel
theorem dX7_told_30 : decode cX7_told 30 = .ok (.ifCond .ne 9, 3) := by decide +kernel
theorem dX7_told_33 : decode cX7_told 33 = .ok (.ldc2_w 83, 3) := by decide +kernel
theorem dX7_told_36 : decode cX7_told 36 = .ok (.goto 44, 3) := by decide +kernel
theorem dX7_told_39 : decode cX7_told 39 = .ok (.iload_n 3, 1) := by decide +kernel
theorem dX7_told_40 : decode cX7_told 40 = .ok (.ifCond .ne 18, 3) := by decide +kernel
theorem dX7_told_43 : decode cX7_told 43 = .ok (.aload_n 0, 1) := by decide +kernel
theorem dX7_told_44 : decode cX7_told 44 = .ok (.getfield 25, 3) := by decide +kernel
theorem dX7_told_47 : decode cX7_told 47 = .ok (.bipush 6, 2) := by decide +kernel
theorem dX7_told_49 : decode cX7_told 49 = .ok (.iload_n 1, 1) := by decide +kernel
theorem dX7_told_50 : decode cX7_told 50 = .ok (.imul, 1) := by decide +kernel
theorem dX7_told_51 : decode cX7_told 51 = .ok (.iload_n 2, 1) := by decide +kernel
theorem dX7_told_52 : decode cX7_told 52 = .ok (.iadd, 1) := by decide +kernel
theorem dX7_told_53 : decode cX7_told 53 = .ok (.iaload, 1) := by decide +kernel
theorem dX7_told_54 : decode cX7_told 54 = .ok (.i2l, 1) := by decide +kernel
theorem dX7_told_55 : decode cX7_told 55 = .ok (.goto 25, 3) := by decide +kernel
theorem dX7_told_58 : decode cX7_told 58 = .ok (.iload_n 3, 1) := by decide +kernel
theorem dX7_told_59 : decode cX7_told 59 = .ok (.iconst 1, 1) := by decide +kernel
theorem dX7_told_60 : decode cX7_told 60 = .ok (.if_icmp .ne 13, 3) := by decide +kernel
theorem dX7_told_63 : decode cX7_told 63 = .ok (.aload_n 0, 1) := by decide +kernel
theorem dX7_told_64 : decode cX7_told 64 = .ok (.getfield 22, 3) := by decide +kernel
theorem dX7_told_67 : decode cX7_told 67 = .ok (.iload_n 1, 1) := by decide +kernel
theorem dX7_told_68 : decode cX7_told 68 = .ok (.iaload, 1) := by decide +kernel
theorem dX7_told_69 : decode cX7_told 69 = .ok (.i2l, 1) := by decide +kernel
theorem dX7_told_70 : decode cX7_told 70 = .ok (.goto 10, 3) := by decide +kernel
theorem dX7_told_73 : decode cX7_told 73 = .ok (.aload_n 0, 1) := by decide +kernel
theorem dX7_told_74 : decode cX7_told 74 = .ok (.getfield 19, 3) := by decide +kernel
theorem dX7_told_77 : decode cX7_told 77 = .ok (.iload_n 2, 1) := by decide +kernel
theorem dX7_told_78 : decode cX7_told 78 = .ok (.iaload, 1) := by decide +kernel
theorem dX7_told_79 : decode cX7_told 79 = .ok (.i2l, 1) := by decide +kernel
theorem dX7_told_80 : decode cX7_told 80 = .ok (.lreturn, 1) := by decide +kernel
theorem dX7_counts_0 : decode cX7_counts 0 = .ok (.iload_n 1, 1) := by decide +kernel
theorem dX7_counts_1 : decode cX7_counts 1 = .ok (.iload_n 2, 1) := by decide +kernel
theorem dX7_counts_2 : decode cX7_counts 2 = .ok (.ishr, 1) := by decide +kernel
theorem dX7_counts_3 : decode cX7_counts 3 = .ok (.iconst 1, 1) := by decide +kernel
theorem dX7_counts_4 : decode cX7_counts 4 = .ok (.iand, 1) := by decide +kernel
theorem dX7_counts_5 : decode cX7_counts 5 = .ok (.iconst 1, 1) := by decide +kernel
theorem dX7_counts_6 : decode cX7_counts 6 = .ok (.if_icmp .ne 7, 3) := by decide +kernel
theorem dX7_counts_9 : decode cX7_counts 9 = .ok (.iconst 1, 1) := by decide +kernel
theorem dX7_counts_10 : decode cX7_counts 10 = .ok (.goto 4, 3) := by decide +kernel
theorem dX7_counts_13 : decode cX7_counts 13 = .ok (.iconst 0, 1) := by decide +kernel
theorem dX7_counts_14 : decode cX7_counts 14 = .ok (.ireturn, 1) := by decide +kernel
theorem dX7_costOf_0 : decode cX7_costOf 0 = .ok (.aload_n 0, 1) := by decide +kernel
theorem dX7_costOf_1 : decode cX7_costOf 1 = .ok (.getfield 25, 3) := by decide +kernel
theorem dX7_costOf_4 : decode cX7_costOf 4 = .ok (.bipush 6, 2) := by decide +kernel
theorem dX7_costOf_6 : decode cX7_costOf 6 = .ok (.iload_n 1, 1) := by decide +kernel
theorem dX7_costOf_7 : decode cX7_costOf 7 = .ok (.imul, 1) := by decide +kernel
theorem dX7_costOf_8 : decode cX7_costOf 8 = .ok (.iload_n 2, 1) := by decide +kernel
theorem dX7_costOf_9 : decode cX7_costOf 9 = .ok (.iadd, 1) := by decide +kernel
theorem dX7_costOf_10 : decode cX7_costOf 10 = .ok (.iaload, 1) := by decide +kernel
theorem dX7_costOf_11 : decode cX7_costOf 11 = .ok (.i2l, 1) := by decide +kernel
theorem dX7_costOf_12 : decode cX7_costOf 12 = .ok (.aload_n 0, 1) := by decide +kernel
theorem dX7_costOf_13 : decode cX7_costOf 13 = .ok (.getfield 40, 3) := by decide +kernel
theorem dX7_costOf_16 : decode cX7_costOf 16 = .ok (.iload_n 1, 1) := by decide +kernel
theorem dX7_costOf_17 : decode cX7_costOf 17 = .ok (.laload, 1) := by decide +kernel
theorem dX7_costOf_18 : decode cX7_costOf 18 = .ok (.lmul, 1) := by decide +kernel
theorem dX7_costOf_19 : decode cX7_costOf 19 = .ok (.lreturn, 1) := by decide +kernel
theorem dX7_priceOf_0 : decode cX7_priceOf 0 = .ok (.ldc2_w 195, 3) := by decide +kernel
theorem dX7_priceOf_3 : decode cX7_priceOf 3 = .ok (.lstore_n 3, 1) := by decide +kernel
theorem dX7_priceOf_4 : decode cX7_priceOf 4 = .ok (.iconst 0, 1) := by decide +kernel
theorem dX7_priceOf_5 : decode cX7_priceOf 5 = .ok (.istore 5, 2) := by decide +kernel
theorem dX7_priceOf_7 : decode cX7_priceOf 7 = .ok (.iload 5, 2) := by decide +kernel
theorem dX7_priceOf_9 : decode cX7_priceOf 9 = .ok (.aload_n 0, 1) := by decide +kernel
theorem dX7_priceOf_10 : decode cX7_priceOf 10 = .ok (.getfield 176, 3) := by decide +kernel
theorem dX7_priceOf_13 : decode cX7_priceOf 13 = .ok (.if_icmp .ge 49, 3) := by decide +kernel
theorem dX7_priceOf_16 : decode cX7_priceOf 16 = .ok (.aload_n 0, 1) := by decide +kernel
theorem dX7_priceOf_17 : decode cX7_priceOf 17 = .ok (.iload_n 1, 1) := by decide +kernel
theorem dX7_priceOf_18 : decode cX7_priceOf 18 = .ok (.iload 5, 2) := by decide +kernel
theorem dX7_priceOf_20 : decode cX7_priceOf 20 = .ok (.invokevirtual 197, 3) := by decide +kernel
theorem dX7_priceOf_23 : decode cX7_priceOf 23 = .ok (.ifCond .eq 31, 3) := by decide +kernel
theorem dX7_priceOf_26 : decode cX7_priceOf 26 = .ok (.lload_n 3, 1) := by decide +kernel
theorem dX7_priceOf_27 : decode cX7_priceOf 27 = .ok (.lconst 0, 1) := by decide +kernel
theorem dX7_priceOf_28 : decode cX7_priceOf 28 = .ok (.lcmp, 1) := by decide +kernel
theorem dX7_priceOf_29 : decode cX7_priceOf 29 = .ok (.ifCond .lt 15, 3) := by decide +kernel
theorem dX7_priceOf_32 : decode cX7_priceOf 32 = .ok (.aload_n 0, 1) := by decide +kernel
theorem dX7_priceOf_33 : decode cX7_priceOf 33 = .ok (.iload 5, 2) := by decide +kernel
theorem dX7_priceOf_35 : decode cX7_priceOf 35 = .ok (.iload_n 2, 1) := by decide +kernel
theorem dX7_priceOf_36 : decode cX7_priceOf 36 = .ok (.invokevirtual 201, 3) := by decide +kernel
theorem dX7_priceOf_39 : decode cX7_priceOf 39 = .ok (.lload_n 3, 1) := by decide +kernel
theorem dX7_priceOf_40 : decode cX7_priceOf 40 = .ok (.lcmp, 1) := by decide +kernel
theorem dX7_priceOf_41 : decode cX7_priceOf 41 = .ok (.ifCond .ge 13, 3) := by decide +kernel
theorem dX7_priceOf_44 : decode cX7_priceOf 44 = .ok (.aload_n 0, 1) := by decide +kernel
theorem dX7_priceOf_45 : decode cX7_priceOf 45 = .ok (.iload 5, 2) := by decide +kernel
theorem dX7_priceOf_47 : decode cX7_priceOf 47 = .ok (.iload_n 2, 1) := by decide +kernel
theorem dX7_priceOf_48 : decode cX7_priceOf 48 = .ok (.invokevirtual 201, 3) := by decide +kernel
theorem dX7_priceOf_51 : decode cX7_priceOf 51 = .ok (.goto 4, 3) := by decide +kernel
theorem dX7_priceOf_54 : decode cX7_priceOf 54 = .ok (.lload_n 3, 1) := by decide +kernel
theorem dX7_priceOf_55 : decode cX7_priceOf 55 = .ok (.lstore_n 3, 1) := by decide +kernel
theorem dX7_priceOf_56 : decode cX7_priceOf 56 = .ok (.iinc 5 1, 3) := by decide +kernel
theorem dX7_priceOf_59 : decode cX7_priceOf 59 = .ok (.goto (-52), 3) := by decide +kernel
theorem dX7_priceOf_62 : decode cX7_priceOf 62 = .ok (.lload_n 3, 1) := by decide +kernel
theorem dX7_priceOf_63 : decode cX7_priceOf 63 = .ok (.lreturn, 1) := by decide +kernel
theorem dX7_makersOf_0 : decode cX7_makersOf 0 = .ok (.aload_n 0, 1) := by decide +kernel
theorem dX7_makersOf_1 : decode cX7_makersOf 1 = .ok (.iload_n 1, 1) := by decide +kernel
theorem dX7_makersOf_2 : decode cX7_makersOf 2 = .ok (.iload_n 2, 1) := by decide +kernel
theorem dX7_makersOf_3 : decode cX7_makersOf 3 = .ok (.invokevirtual 205, 3) := by decide +kernel
theorem dX7_makersOf_6 : decode cX7_makersOf 6 = .ok (.lstore_n 3, 1) := by decide +kernel
theorem dX7_makersOf_7 : decode cX7_makersOf 7 = .ok (.iconst 0, 1) := by decide +kernel
theorem dX7_makersOf_8 : decode cX7_makersOf 8 = .ok (.istore 5, 2) := by decide +kernel
theorem dX7_makersOf_10 : decode cX7_makersOf 10 = .ok (.iconst 0, 1) := by decide +kernel
theorem dX7_makersOf_11 : decode cX7_makersOf 11 = .ok (.istore 6, 2) := by decide +kernel
theorem dX7_makersOf_13 : decode cX7_makersOf 13 = .ok (.iload 6, 2) := by decide +kernel
theorem dX7_makersOf_15 : decode cX7_makersOf 15 = .ok (.aload_n 0, 1) := by decide +kernel
theorem dX7_makersOf_16 : decode cX7_makersOf 16 = .ok (.getfield 176, 3) := by decide +kernel
theorem dX7_makersOf_19 : decode cX7_makersOf 19 = .ok (.if_icmp .ge 44, 3) := by decide +kernel
theorem dX7_makersOf_22 : decode cX7_makersOf 22 = .ok (.iload 5, 2) := by decide +kernel
theorem dX7_makersOf_24 : decode cX7_makersOf 24 = .ok (.aload_n 0, 1) := by decide +kernel
theorem dX7_makersOf_25 : decode cX7_makersOf 25 = .ok (.iload_n 1, 1) := by decide +kernel
theorem dX7_makersOf_26 : decode cX7_makersOf 26 = .ok (.iload 6, 2) := by decide +kernel
theorem dX7_makersOf_28 : decode cX7_makersOf 28 = .ok (.invokevirtual 197, 3) := by decide +kernel
theorem dX7_makersOf_31 : decode cX7_makersOf 31 = .ok (.ifCond .eq 22, 3) := by decide +kernel
theorem dX7_makersOf_34 : decode cX7_makersOf 34 = .ok (.aload_n 0, 1) := by decide +kernel
theorem dX7_makersOf_35 : decode cX7_makersOf 35 = .ok (.iload 6, 2) := by decide +kernel
theorem dX7_makersOf_37 : decode cX7_makersOf 37 = .ok (.iload_n 2, 1) := by decide +kernel
theorem dX7_makersOf_38 : decode cX7_makersOf 38 = .ok (.invokevirtual 201, 3) := by decide +kernel
theorem dX7_makersOf_41 : decode cX7_makersOf 41 = .ok (.lload_n 3, 1) := by decide +kernel
theorem dX7_makersOf_42 : decode cX7_makersOf 42 = .ok (.lcmp, 1) := by decide +kernel
theorem dX7_makersOf_43 : decode cX7_makersOf 43 = .ok (.ifCond .ne 10, 3) := by decide +kernel
theorem dX7_makersOf_46 : decode cX7_makersOf 46 = .ok (.iconst 1, 1) := by decide +kernel
theorem dX7_makersOf_47 : decode cX7_makersOf 47 = .ok (.iload 6, 2) := by decide +kernel
theorem dX7_makersOf_49 : decode cX7_makersOf 49 = .ok (.ishl, 1) := by decide +kernel
theorem dX7_makersOf_50 : decode cX7_makersOf 50 = .ok (.goto 4, 3) := by decide +kernel
theorem dX7_makersOf_53 : decode cX7_makersOf 53 = .ok (.iconst 0, 1) := by decide +kernel
theorem dX7_makersOf_54 : decode cX7_makersOf 54 = .ok (.ior, 1) := by decide +kernel
theorem dX7_makersOf_55 : decode cX7_makersOf 55 = .ok (.istore 5, 2) := by decide +kernel
theorem dX7_makersOf_57 : decode cX7_makersOf 57 = .ok (.iinc 6 1, 3) := by decide +kernel
theorem dX7_makersOf_60 : decode cX7_makersOf 60 = .ok (.goto (-47), 3) := by decide +kernel
theorem dX7_makersOf_63 : decode cX7_makersOf 63 = .ok (.iload 5, 2) := by decide +kernel
theorem dX7_makersOf_65 : decode cX7_makersOf 65 = .ok (.ireturn, 1) := by decide +kernel
theorem dX7_allShares_0 : decode cX7_allShares 0 = .ok (.iconst 0, 1) := by decide +kernel
theorem dX7_allShares_1 : decode cX7_allShares 1 = .ok (.istore_n 1, 1) := by decide +kernel
theorem dX7_allShares_2 : decode cX7_allShares 2 = .ok (.iconst 0, 1) := by decide +kernel
theorem dX7_allShares_3 : decode cX7_allShares 3 = .ok (.istore_n 2, 1) := by decide +kernel
theorem dX7_allShares_4 : decode cX7_allShares 4 = .ok (.iload_n 2, 1) := by decide +kernel
theorem dX7_allShares_5 : decode cX7_allShares 5 = .ok (.aload_n 0, 1) := by decide +kernel
theorem dX7_allShares_6 : decode cX7_allShares 6 = .ok (.getfield 179, 3) := by decide +kernel
theorem dX7_allShares_9 : decode cX7_allShares 9 = .ok (.if_icmp .ge 18, 3) := by decide +kernel
theorem dX7_allShares_12 : decode cX7_allShares 12 = .ok (.iload_n 1, 1) := by decide +kernel
theorem dX7_allShares_13 : decode cX7_allShares 13 = .ok (.aload_n 0, 1) := by decide +kernel
theorem dX7_allShares_14 : decode cX7_allShares 14 = .ok (.getfield 19, 3) := by decide +kernel
theorem dX7_allShares_17 : decode cX7_allShares 17 = .ok (.iload_n 2, 1) := by decide +kernel
theorem dX7_allShares_18 : decode cX7_allShares 18 = .ok (.iaload, 1) := by decide +kernel
theorem dX7_allShares_19 : decode cX7_allShares 19 = .ok (.iadd, 1) := by decide +kernel
theorem dX7_allShares_20 : decode cX7_allShares 20 = .ok (.istore_n 1, 1) := by decide +kernel
theorem dX7_allShares_21 : decode cX7_allShares 21 = .ok (.iinc 2 1, 3) := by decide +kernel
theorem dX7_allShares_24 : decode cX7_allShares 24 = .ok (.goto (-20), 3) := by decide +kernel
theorem dX7_allShares_27 : decode cX7_allShares 27 = .ok (.iload_n 1, 1) := by decide +kernel
theorem dX7_allShares_28 : decode cX7_allShares 28 = .ok (.ireturn, 1) := by decide +kernel
theorem dX7_incomeOf_0 : decode cX7_incomeOf 0 = .ok (.lconst 0, 1) := by decide +kernel
theorem dX7_incomeOf_1 : decode cX7_incomeOf 1 = .ok (.lstore_n 2, 1) := by decide +kernel
theorem dX7_incomeOf_2 : decode cX7_incomeOf 2 = .ok (.iconst 0, 1) := by decide +kernel
theorem dX7_incomeOf_3 : decode cX7_incomeOf 3 = .ok (.istore 4, 2) := by decide +kernel
theorem dX7_incomeOf_5 : decode cX7_incomeOf 5 = .ok (.iload 4, 2) := by decide +kernel
theorem dX7_incomeOf_7 : decode cX7_incomeOf 7 = .ok (.aload_n 0, 1) := by decide +kernel
theorem dX7_incomeOf_8 : decode cX7_incomeOf 8 = .ok (.getfield 176, 3) := by decide +kernel
theorem dX7_incomeOf_11 : decode cX7_incomeOf 11 = .ok (.if_icmp .ge 42, 3) := by decide +kernel
theorem dX7_incomeOf_14 : decode cX7_incomeOf 14 = .ok (.lload_n 2, 1) := by decide +kernel
theorem dX7_incomeOf_15 : decode cX7_incomeOf 15 = .ok (.aload_n 0, 1) := by decide +kernel
theorem dX7_incomeOf_16 : decode cX7_incomeOf 16 = .ok (.iload_n 1, 1) := by decide +kernel
theorem dX7_incomeOf_17 : decode cX7_incomeOf 17 = .ok (.iload 4, 2) := by decide +kernel
theorem dX7_incomeOf_19 : decode cX7_incomeOf 19 = .ok (.invokevirtual 197, 3) := by decide +kernel
theorem dX7_incomeOf_22 : decode cX7_incomeOf 22 = .ok (.ifCond .eq 22, 3) := by decide +kernel
theorem dX7_incomeOf_25 : decode cX7_incomeOf 25 = .ok (.aload_n 0, 1) := by decide +kernel
theorem dX7_incomeOf_26 : decode cX7_incomeOf 26 = .ok (.getfield 22, 3) := by decide +kernel
theorem dX7_incomeOf_29 : decode cX7_incomeOf 29 = .ok (.iload 4, 2) := by decide +kernel
theorem dX7_incomeOf_31 : decode cX7_incomeOf 31 = .ok (.iaload, 1) := by decide +kernel
theorem dX7_incomeOf_32 : decode cX7_incomeOf 32 = .ok (.i2l, 1) := by decide +kernel
theorem dX7_incomeOf_33 : decode cX7_incomeOf 33 = .ok (.aload_n 0, 1) := by decide +kernel
theorem dX7_incomeOf_34 : decode cX7_incomeOf 34 = .ok (.getfield 40, 3) := by decide +kernel
theorem dX7_incomeOf_37 : decode cX7_incomeOf 37 = .ok (.iload 4, 2) := by decide +kernel
theorem dX7_incomeOf_39 : decode cX7_incomeOf 39 = .ok (.laload, 1) := by decide +kernel
theorem dX7_incomeOf_40 : decode cX7_incomeOf 40 = .ok (.lmul, 1) := by decide +kernel
theorem dX7_incomeOf_41 : decode cX7_incomeOf 41 = .ok (.goto 4, 3) := by decide +kernel
theorem dX7_incomeOf_44 : decode cX7_incomeOf 44 = .ok (.lconst 0, 1) := by decide +kernel
theorem dX7_incomeOf_45 : decode cX7_incomeOf 45 = .ok (.ladd, 1) := by decide +kernel
theorem dX7_incomeOf_46 : decode cX7_incomeOf 46 = .ok (.lstore_n 2, 1) := by decide +kernel
theorem dX7_incomeOf_47 : decode cX7_incomeOf 47 = .ok (.iinc 4 1, 3) := by decide +kernel
theorem dX7_incomeOf_50 : decode cX7_incomeOf 50 = .ok (.goto (-45), 3) := by decide +kernel
theorem dX7_incomeOf_53 : decode cX7_incomeOf 53 = .ok (.lload_n 2, 1) := by decide +kernel
theorem dX7_incomeOf_54 : decode cX7_incomeOf 54 = .ok (.lreturn, 1) := by decide +kernel
theorem dX7_idleOf_0 : decode cX7_idleOf 0 = .ok (.aload_n 0, 1) := by decide +kernel
theorem dX7_idleOf_1 : decode cX7_idleOf 1 = .ok (.iload_n 1, 1) := by decide +kernel
theorem dX7_idleOf_2 : decode cX7_idleOf 2 = .ok (.invokevirtual 208, 3) := by decide +kernel
theorem dX7_idleOf_5 : decode cX7_idleOf 5 = .ok (.lstore_n 2, 1) := by decide +kernel
theorem dX7_idleOf_6 : decode cX7_idleOf 6 = .ok (.iconst 0, 1) := by decide +kernel
theorem dX7_idleOf_7 : decode cX7_idleOf 7 = .ok (.istore 4, 2) := by decide +kernel
theorem dX7_idleOf_9 : decode cX7_idleOf 9 = .ok (.iload 4, 2) := by decide +kernel
theorem dX7_idleOf_11 : decode cX7_idleOf 11 = .ok (.aload_n 0, 1) := by decide +kernel
theorem dX7_idleOf_12 : decode cX7_idleOf 12 = .ok (.getfield 179, 3) := by decide +kernel
theorem dX7_idleOf_15 : decode cX7_idleOf 15 = .ok (.if_icmp .ge 23, 3) := by decide +kernel
theorem dX7_idleOf_18 : decode cX7_idleOf 18 = .ok (.aload_n 0, 1) := by decide +kernel
theorem dX7_idleOf_19 : decode cX7_idleOf 19 = .ok (.getfield 44, 3) := by decide +kernel
theorem dX7_idleOf_22 : decode cX7_idleOf 22 = .ok (.iload 4, 2) := by decide +kernel
theorem dX7_idleOf_24 : decode cX7_idleOf 24 = .ok (.aload_n 0, 1) := by decide +kernel
theorem dX7_idleOf_25 : decode cX7_idleOf 25 = .ok (.iload_n 1, 1) := by decide +kernel
theorem dX7_idleOf_26 : decode cX7_idleOf 26 = .ok (.iload 4, 2) := by decide +kernel
theorem dX7_idleOf_28 : decode cX7_idleOf 28 = .ok (.invokevirtual 211, 3) := by decide +kernel
theorem dX7_idleOf_31 : decode cX7_idleOf 31 = .ok (.iastore, 1) := by decide +kernel
theorem dX7_idleOf_32 : decode cX7_idleOf 32 = .ok (.iinc 4 1, 3) := by decide +kernel
theorem dX7_idleOf_35 : decode cX7_idleOf 35 = .ok (.goto (-26), 3) := by decide +kernel
theorem dX7_idleOf_38 : decode cX7_idleOf 38 = .ok (.iconst 1, 1) := by decide +kernel
theorem dX7_idleOf_39 : decode cX7_idleOf 39 = .ok (.istore 4, 2) := by decide +kernel
theorem dX7_idleOf_41 : decode cX7_idleOf 41 = .ok (.iload 4, 2) := by decide +kernel
theorem dX7_idleOf_43 : decode cX7_idleOf 43 = .ok (.iload_n 1, 1) := by decide +kernel
theorem dX7_idleOf_44 : decode cX7_idleOf 44 = .ok (.if_icmp .gt 92, 3) := by decide +kernel
theorem dX7_idleOf_47 : decode cX7_idleOf 47 = .ok (.iload 4, 2) := by decide +kernel
theorem dX7_idleOf_49 : decode cX7_idleOf 49 = .ok (.iload_n 1, 1) := by decide +kernel
theorem dX7_idleOf_50 : decode cX7_idleOf 50 = .ok (.iconst (-1), 1) := by decide +kernel
theorem dX7_idleOf_51 : decode cX7_idleOf 51 = .ok (.ixor, 1) := by decide +kernel
theorem dX7_idleOf_52 : decode cX7_idleOf 52 = .ok (.iand, 1) := by decide +kernel
theorem dX7_idleOf_53 : decode cX7_idleOf 53 = .ok (.ifCond .ne 77, 3) := by decide +kernel
theorem dX7_idleOf_56 : decode cX7_idleOf 56 = .ok (.iconst 0, 1) := by decide +kernel
theorem dX7_idleOf_57 : decode cX7_idleOf 57 = .ok (.istore 5, 2) := by decide +kernel
theorem dX7_idleOf_59 : decode cX7_idleOf 59 = .ok (.iconst 0, 1) := by decide +kernel
theorem dX7_idleOf_60 : decode cX7_idleOf 60 = .ok (.istore 6, 2) := by decide +kernel
theorem dX7_idleOf_62 : decode cX7_idleOf 62 = .ok (.iload 6, 2) := by decide +kernel
theorem dX7_idleOf_64 : decode cX7_idleOf 64 = .ok (.aload_n 0, 1) := by decide +kernel
theorem dX7_idleOf_65 : decode cX7_idleOf 65 = .ok (.getfield 179, 3) := by decide +kernel
theorem dX7_idleOf_68 : decode cX7_idleOf 68 = .ok (.if_icmp .ge 38, 3) := by decide +kernel
theorem dX7_idleOf_71 : decode cX7_idleOf 71 = .ok (.iload 5, 2) := by decide +kernel
theorem dX7_idleOf_73 : decode cX7_idleOf 73 = .ok (.aload_n 0, 1) := by decide +kernel
theorem dX7_idleOf_74 : decode cX7_idleOf 74 = .ok (.getfield 44, 3) := by decide +kernel
theorem dX7_idleOf_77 : decode cX7_idleOf 77 = .ok (.iload 6, 2) := by decide +kernel
theorem dX7_idleOf_79 : decode cX7_idleOf 79 = .ok (.iaload, 1) := by decide +kernel
theorem dX7_idleOf_80 : decode cX7_idleOf 80 = .ok (.iload 4, 2) := by decide +kernel
theorem dX7_idleOf_82 : decode cX7_idleOf 82 = .ok (.iand, 1) := by decide +kernel
theorem dX7_idleOf_83 : decode cX7_idleOf 83 = .ok (.ifCond .ne 7, 3) := by decide +kernel
theorem dX7_idleOf_86 : decode cX7_idleOf 86 = .ok (.iconst 0, 1) := by decide +kernel
theorem dX7_idleOf_87 : decode cX7_idleOf 87 = .ok (.goto 10, 3) := by decide +kernel
theorem dX7_idleOf_90 : decode cX7_idleOf 90 = .ok (.aload_n 0, 1) := by decide +kernel
theorem dX7_idleOf_91 : decode cX7_idleOf 91 = .ok (.getfield 19, 3) := by decide +kernel
theorem dX7_idleOf_94 : decode cX7_idleOf 94 = .ok (.iload 6, 2) := by decide +kernel
theorem dX7_idleOf_96 : decode cX7_idleOf 96 = .ok (.iaload, 1) := by decide +kernel
theorem dX7_idleOf_97 : decode cX7_idleOf 97 = .ok (.iadd, 1) := by decide +kernel
theorem dX7_idleOf_98 : decode cX7_idleOf 98 = .ok (.istore 5, 2) := by decide +kernel
theorem dX7_idleOf_100 : decode cX7_idleOf 100 = .ok (.iinc 6 1, 3) := by decide +kernel
theorem dX7_idleOf_103 : decode cX7_idleOf 103 = .ok (.goto (-41), 3) := by decide +kernel
theorem dX7_idleOf_106 : decode cX7_idleOf 106 = .ok (.aload_n 0, 1) := by decide +kernel
theorem dX7_idleOf_107 : decode cX7_idleOf 107 = .ok (.iload 4, 2) := by decide +kernel
theorem dX7_idleOf_109 : decode cX7_idleOf 109 = .ok (.invokevirtual 208, 3) := by decide +kernel
theorem dX7_idleOf_112 : decode cX7_idleOf 112 = .ok (.aload_n 0, 1) := by decide +kernel
theorem dX7_idleOf_113 : decode cX7_idleOf 113 = .ok (.invokevirtual 215, 3) := by decide +kernel
theorem dX7_idleOf_116 : decode cX7_idleOf 116 = .ok (.i2l, 1) := by decide +kernel
theorem dX7_idleOf_117 : decode cX7_idleOf 117 = .ok (.lmul, 1) := by decide +kernel
theorem dX7_idleOf_118 : decode cX7_idleOf 118 = .ok (.lload_n 2, 1) := by decide +kernel
theorem dX7_idleOf_119 : decode cX7_idleOf 119 = .ok (.iload 5, 2) := by decide +kernel
theorem dX7_idleOf_121 : decode cX7_idleOf 121 = .ok (.i2l, 1) := by decide +kernel
theorem dX7_idleOf_122 : decode cX7_idleOf 122 = .ok (.lmul, 1) := by decide +kernel
theorem dX7_idleOf_123 : decode cX7_idleOf 123 = .ok (.lcmp, 1) := by decide +kernel
theorem dX7_idleOf_124 : decode cX7_idleOf 124 = .ok (.ifCond .le 6, 3) := by decide +kernel
theorem dX7_idleOf_127 : decode cX7_idleOf 127 = .ok (.iload 4, 2) := by decide +kernel
theorem dX7_idleOf_129 : decode cX7_idleOf 129 = .ok (.ireturn, 1) := by decide +kernel
theorem dX7_idleOf_130 : decode cX7_idleOf 130 = .ok (.iinc 4 1, 3) := by decide +kernel
theorem dX7_idleOf_133 : decode cX7_idleOf 133 = .ok (.goto (-92), 3) := by decide +kernel
theorem dX7_idleOf_136 : decode cX7_idleOf 136 = .ok (.iconst 0, 1) := by decide +kernel
theorem dX7_idleOf_137 : decode cX7_idleOf 137 = .ok (.ireturn, 1) := by decide +kernel
theorem dX7_isRest_0 : decode cX7_isRest 0 = .ok (.aload_n 0, 1) := by decide +kernel
theorem dX7_isRest_1 : decode cX7_isRest 1 = .ok (.getfield 40, 3) := by decide +kernel
theorem dX7_isRest_4 : decode cX7_isRest 4 = .ok (.iconst 0, 1) := by decide +kernel
theorem dX7_isRest_5 : decode cX7_isRest 5 = .ok (.lload_n 2, 1) := by decide +kernel
theorem dX7_isRest_6 : decode cX7_isRest 6 = .ok (.lastore, 1) := by decide +kernel
theorem dX7_isRest_7 : decode cX7_isRest 7 = .ok (.aload_n 0, 1) := by decide +kernel
theorem dX7_isRest_8 : decode cX7_isRest 8 = .ok (.getfield 40, 3) := by decide +kernel
theorem dX7_isRest_11 : decode cX7_isRest 11 = .ok (.iconst 1, 1) := by decide +kernel
theorem dX7_isRest_12 : decode cX7_isRest 12 = .ok (.lload 4, 2) := by decide +kernel
theorem dX7_isRest_14 : decode cX7_isRest 14 = .ok (.lastore, 1) := by decide +kernel
theorem dX7_isRest_15 : decode cX7_isRest 15 = .ok (.aload_n 0, 1) := by decide +kernel
theorem dX7_isRest_16 : decode cX7_isRest 16 = .ok (.getfield 40, 3) := by decide +kernel
theorem dX7_isRest_19 : decode cX7_isRest 19 = .ok (.iconst 2, 1) := by decide +kernel
theorem dX7_isRest_20 : decode cX7_isRest 20 = .ok (.lload 6, 2) := by decide +kernel
theorem dX7_isRest_22 : decode cX7_isRest 22 = .ok (.lastore, 1) := by decide +kernel
theorem dX7_isRest_23 : decode cX7_isRest 23 = .ok (.lload_n 2, 1) := by decide +kernel
theorem dX7_isRest_24 : decode cX7_isRest 24 = .ok (.lconst 0, 1) := by decide +kernel
theorem dX7_isRest_25 : decode cX7_isRest 25 = .ok (.lcmp, 1) := by decide +kernel
theorem dX7_isRest_26 : decode cX7_isRest 26 = .ok (.ifCond .le 29, 3) := by decide +kernel
theorem dX7_isRest_29 : decode cX7_isRest 29 = .ok (.lload 4, 2) := by decide +kernel
theorem dX7_isRest_31 : decode cX7_isRest 31 = .ok (.lconst 0, 1) := by decide +kernel
theorem dX7_isRest_32 : decode cX7_isRest 32 = .ok (.lcmp, 1) := by decide +kernel
theorem dX7_isRest_33 : decode cX7_isRest 33 = .ok (.ifCond .le 22, 3) := by decide +kernel
theorem dX7_isRest_36 : decode cX7_isRest 36 = .ok (.lload 6, 2) := by decide +kernel
theorem dX7_isRest_38 : decode cX7_isRest 38 = .ok (.lconst 0, 1) := by decide +kernel
theorem dX7_isRest_39 : decode cX7_isRest 39 = .ok (.lcmp, 1) := by decide +kernel
theorem dX7_isRest_40 : decode cX7_isRest 40 = .ok (.ifCond .le 15, 3) := by decide +kernel
theorem dX7_isRest_43 : decode cX7_isRest 43 = .ok (.aload_n 0, 1) := by decide +kernel
theorem dX7_isRest_44 : decode cX7_isRest 44 = .ok (.iload_n 1, 1) := by decide +kernel
theorem dX7_isRest_45 : decode cX7_isRest 45 = .ok (.invokevirtual 219, 3) := by decide +kernel
theorem dX7_isRest_48 : decode cX7_isRest 48 = .ok (.ifCond .ne 7, 3) := by decide +kernel
theorem dX7_isRest_51 : decode cX7_isRest 51 = .ok (.iconst 1, 1) := by decide +kernel
theorem dX7_isRest_52 : decode cX7_isRest 52 = .ok (.goto 4, 3) := by decide +kernel
theorem dX7_isRest_55 : decode cX7_isRest 55 = .ok (.iconst 0, 1) := by decide +kernel
theorem dX7_isRest_56 : decode cX7_isRest 56 = .ok (.ireturn, 1) := by decide +kernel
theorem dX7_isRowAtRest_0 : decode cX7_isRowAtRest 0 = .ok (.aload_n 0, 1) := by decide +kernel
theorem dX7_isRowAtRest_1 : decode cX7_isRowAtRest 1 = .ok (.iload_n 1, 1) := by decide +kernel
theorem dX7_isRowAtRest_2 : decode cX7_isRowAtRest 2 = .ok (.aload_n 0, 1) := by decide +kernel
theorem dX7_isRowAtRest_3 : decode cX7_isRowAtRest 3 = .ok (.getfield 47, 3) := by decide +kernel
theorem dX7_isRowAtRest_6 : decode cX7_isRowAtRest 6 = .ok (.iconst 0, 1) := by decide +kernel
theorem dX7_isRowAtRest_7 : decode cX7_isRowAtRest 7 = .ok (.laload, 1) := by decide +kernel
theorem dX7_isRowAtRest_8 : decode cX7_isRowAtRest 8 = .ok (.aload_n 0, 1) := by decide +kernel
theorem dX7_isRowAtRest_9 : decode cX7_isRowAtRest 9 = .ok (.getfield 47, 3) := by decide +kernel
theorem dX7_isRowAtRest_12 : decode cX7_isRowAtRest 12 = .ok (.iconst 1, 1) := by decide +kernel
theorem dX7_isRowAtRest_13 : decode cX7_isRowAtRest 13 = .ok (.laload, 1) := by decide +kernel
theorem dX7_isRowAtRest_14 : decode cX7_isRowAtRest 14 = .ok (.aload_n 0, 1) := by decide +kernel
theorem dX7_isRowAtRest_15 : decode cX7_isRowAtRest 15 = .ok (.getfield 47, 3) := by decide +kernel
theorem dX7_isRowAtRest_18 : decode cX7_isRowAtRest 18 = .ok (.iconst 2, 1) := by decide +kernel
theorem dX7_isRowAtRest_19 : decode cX7_isRowAtRest 19 = .ok (.laload, 1) := by decide +kernel
theorem dX7_isRowAtRest_20 : decode cX7_isRowAtRest 20 = .ok (.invokevirtual 222, 3) := by decide +kernel
theorem dX7_isRowAtRest_23 : decode cX7_isRowAtRest 23 = .ok (.ireturn, 1) := by decide +kernel
theorem dX7_bind_0 : decode cX7_bind 0 = .ok (.aload_n 0, 1) := by decide +kernel
theorem dX7_bind_1 : decode cX7_bind 1 = .ok (.getfield 47, 3) := by decide +kernel
theorem dX7_bind_4 : decode cX7_bind 4 = .ok (.iload_n 1, 1) := by decide +kernel
theorem dX7_bind_5 : decode cX7_bind 5 = .ok (.aload_n 0, 1) := by decide +kernel
theorem dX7_bind_6 : decode cX7_bind 6 = .ok (.getfield 25, 3) := by decide +kernel
theorem dX7_bind_9 : decode cX7_bind 9 = .ok (.bipush 6, 2) := by decide +kernel
theorem dX7_bind_11 : decode cX7_bind 11 = .ok (.iload_n 2, 1) := by decide +kernel
theorem dX7_bind_12 : decode cX7_bind 12 = .ok (.imul, 1) := by decide +kernel
theorem dX7_bind_13 : decode cX7_bind 13 = .ok (.iload_n 3, 1) := by decide +kernel
theorem dX7_bind_14 : decode cX7_bind 14 = .ok (.iadd, 1) := by decide +kernel
theorem dX7_bind_15 : decode cX7_bind 15 = .ok (.iaload, 1) := by decide +kernel
theorem dX7_bind_16 : decode cX7_bind 16 = .ok (.i2l, 1) := by decide +kernel
theorem dX7_bind_17 : decode cX7_bind 17 = .ok (.lload 4, 2) := by decide +kernel
theorem dX7_bind_19 : decode cX7_bind 19 = .ok (.lmul, 1) := by decide +kernel
theorem dX7_bind_20 : decode cX7_bind 20 = .ok (.lastore, 1) := by decide +kernel
theorem dX7_bind_21 : decode cX7_bind 21 = .ok (.aload_n 0, 1) := by decide +kernel
theorem dX7_bind_22 : decode cX7_bind 22 = .ok (.getfield 47, 3) := by decide +kernel
theorem dX7_bind_25 : decode cX7_bind 25 = .ok (.iload_n 2, 1) := by decide +kernel
theorem dX7_bind_26 : decode cX7_bind 26 = .ok (.aload_n 0, 1) := by decide +kernel
theorem dX7_bind_27 : decode cX7_bind 27 = .ok (.getfield 25, 3) := by decide +kernel
theorem dX7_bind_30 : decode cX7_bind 30 = .ok (.bipush 6, 2) := by decide +kernel
theorem dX7_bind_32 : decode cX7_bind 32 = .ok (.iload_n 1, 1) := by decide +kernel
theorem dX7_bind_33 : decode cX7_bind 33 = .ok (.imul, 1) := by decide +kernel
theorem dX7_bind_34 : decode cX7_bind 34 = .ok (.iload_n 3, 1) := by decide +kernel
theorem dX7_bind_35 : decode cX7_bind 35 = .ok (.iadd, 1) := by decide +kernel
theorem dX7_bind_36 : decode cX7_bind 36 = .ok (.iaload, 1) := by decide +kernel
theorem dX7_bind_37 : decode cX7_bind 37 = .ok (.i2l, 1) := by decide +kernel
theorem dX7_bind_38 : decode cX7_bind 38 = .ok (.lload 4, 2) := by decide +kernel
theorem dX7_bind_40 : decode cX7_bind 40 = .ok (.lmul, 1) := by decide +kernel
theorem dX7_bind_41 : decode cX7_bind 41 = .ok (.lastore, 1) := by decide +kernel
theorem dX7_bind_42 : decode cX7_bind 42 = .ok (.return_, 1) := by decide +kernel
theorem dX7_isPairBound_0 : decode cX7_isPairBound 0 = .ok (.aload_n 0, 1) := by decide +kernel
theorem dX7_isPairBound_1 : decode cX7_isPairBound 1 = .ok (.getfield 47, 3) := by decide +kernel
theorem dX7_isPairBound_4 : decode cX7_isPairBound 4 = .ok (.iconst 3, 1) := by decide +kernel
theorem dX7_isPairBound_5 : decode cX7_isPairBound 5 = .ok (.iload_n 2, 1) := by decide +kernel
theorem dX7_isPairBound_6 : decode cX7_isPairBound 6 = .ok (.isub, 1) := by decide +kernel
theorem dX7_isPairBound_7 : decode cX7_isPairBound 7 = .ok (.iload_n 3, 1) := by decide +kernel
theorem dX7_isPairBound_8 : decode cX7_isPairBound 8 = .ok (.isub, 1) := by decide +kernel
theorem dX7_isPairBound_9 : decode cX7_isPairBound 9 = .ok (.lconst 1, 1) := by decide +kernel
theorem dX7_isPairBound_10 : decode cX7_isPairBound 10 = .ok (.lastore, 1) := by decide +kernel
theorem dX7_isPairBound_11 : decode cX7_isPairBound 11 = .ok (.iconst 0, 1) := by decide +kernel
theorem dX7_isPairBound_12 : decode cX7_isPairBound 12 = .ok (.istore 4, 2) := by decide +kernel
theorem dX7_isPairBound_14 : decode cX7_isPairBound 14 = .ok (.iload 4, 2) := by decide +kernel
theorem dX7_isPairBound_16 : decode cX7_isPairBound 16 = .ok (.aload_n 0, 1) := by decide +kernel
theorem dX7_isPairBound_17 : decode cX7_isPairBound 17 = .ok (.getfield 179, 3) := by decide +kernel
theorem dX7_isPairBound_20 : decode cX7_isPairBound 20 = .ok (.if_icmp .ge 28, 3) := by decide +kernel
theorem dX7_isPairBound_23 : decode cX7_isPairBound 23 = .ok (.aload_n 0, 1) := by decide +kernel
theorem dX7_isPairBound_24 : decode cX7_isPairBound 24 = .ok (.iload_n 2, 1) := by decide +kernel
theorem dX7_isPairBound_25 : decode cX7_isPairBound 25 = .ok (.iload_n 3, 1) := by decide +kernel
theorem dX7_isPairBound_26 : decode cX7_isPairBound 26 = .ok (.iload 4, 2) := by decide +kernel
theorem dX7_isPairBound_28 : decode cX7_isPairBound 28 = .ok (.lconst 1, 1) := by decide +kernel
theorem dX7_isPairBound_29 : decode cX7_isPairBound 29 = .ok (.invokevirtual 226, 3) := by decide +kernel
theorem dX7_isPairBound_32 : decode cX7_isPairBound 32 = .ok (.aload_n 0, 1) := by decide +kernel
theorem dX7_isPairBound_33 : decode cX7_isPairBound 33 = .ok (.iload_n 1, 1) := by decide +kernel
theorem dX7_isPairBound_34 : decode cX7_isPairBound 34 = .ok (.invokevirtual 230, 3) := by decide +kernel
theorem dX7_isPairBound_37 : decode cX7_isPairBound 37 = .ok (.ifCond .eq 5, 3) := by decide +kernel
theorem dX7_isPairBound_40 : decode cX7_isPairBound 40 = .ok (.iconst 1, 1) := by decide +kernel
theorem dX7_isPairBound_41 : decode cX7_isPairBound 41 = .ok (.ireturn, 1) := by decide +kernel
theorem dX7_isPairBound_42 : decode cX7_isPairBound 42 = .ok (.iinc 4 1, 3) := by decide +kernel
theorem dX7_isPairBound_45 : decode cX7_isPairBound 45 = .ok (.goto (-31), 3) := by decide +kernel
theorem dX7_isPairBound_48 : decode cX7_isPairBound 48 = .ok (.iconst 0, 1) := by decide +kernel
theorem dX7_isPairBound_49 : decode cX7_isPairBound 49 = .ok (.ireturn, 1) := by decide +kernel
theorem dX7_isParted_0 : decode cX7_isParted 0 = .ok (.iconst 1, 1) := by decide +kernel
theorem dX7_isParted_1 : decode cX7_isParted 1 = .ok (.istore 5, 2) := by decide +kernel
theorem dX7_isParted_3 : decode cX7_isParted 3 = .ok (.iload 4, 2) := by decide +kernel
theorem dX7_isParted_5 : decode cX7_isParted 5 = .ok (.ifCond .ge 7, 3) := by decide +kernel
theorem dX7_isParted_8 : decode cX7_isParted 8 = .ok (.iconst 2, 1) := by decide +kernel
theorem dX7_isParted_9 : decode cX7_isParted 9 = .ok (.goto 4, 3) := by decide +kernel
theorem dX7_isParted_12 : decode cX7_isParted 12 = .ok (.iconst 3, 1) := by decide +kernel
theorem dX7_isParted_13 : decode cX7_isParted 13 = .ok (.istore 6, 2) := by decide +kernel
theorem dX7_isParted_15 : decode cX7_isParted 15 = .ok (.iconst 0, 1) := by decide +kernel
theorem dX7_isParted_16 : decode cX7_isParted 16 = .ok (.istore 7, 2) := by decide +kernel
theorem dX7_isParted_18 : decode cX7_isParted 18 = .ok (.iload 7, 2) := by decide +kernel
theorem dX7_isParted_20 : decode cX7_isParted 20 = .ok (.aload_n 0, 1) := by decide +kernel
theorem dX7_isParted_21 : decode cX7_isParted 21 = .ok (.getfield 179, 3) := by decide +kernel
theorem dX7_isParted_24 : decode cX7_isParted 24 = .ok (.if_icmp .ge 16, 3) := by decide +kernel
theorem dX7_isParted_27 : decode cX7_isParted 27 = .ok (.iload 5, 2) := by decide +kernel
theorem dX7_isParted_29 : decode cX7_isParted 29 = .ok (.iload 6, 2) := by decide +kernel
theorem dX7_isParted_31 : decode cX7_isParted 31 = .ok (.imul, 1) := by decide +kernel
theorem dX7_isParted_32 : decode cX7_isParted 32 = .ok (.istore 5, 2) := by decide +kernel
theorem dX7_isParted_34 : decode cX7_isParted 34 = .ok (.iinc 7 1, 3) := by decide +kernel
theorem dX7_isParted_37 : decode cX7_isParted 37 = .ok (.goto (-19), 3) := by decide +kernel
theorem dX7_isParted_40 : decode cX7_isParted 40 = .ok (.iconst 0, 1) := by decide +kernel
theorem dX7_isParted_41 : decode cX7_isParted 41 = .ok (.istore 7, 2) := by decide +kernel
theorem dX7_isParted_43 : decode cX7_isParted 43 = .ok (.iload 7, 2) := by decide +kernel
theorem dX7_isParted_45 : decode cX7_isParted 45 = .ok (.iload 5, 2) := by decide +kernel
theorem dX7_isParted_47 : decode cX7_isParted 47 = .ok (.if_icmp .ge 238, 3) := by decide +kernel
theorem dX7_isParted_50 : decode cX7_isParted 50 = .ok (.aload_n 0, 1) := by decide +kernel
theorem dX7_isParted_51 : decode cX7_isParted 51 = .ok (.getfield 47, 3) := by decide +kernel
theorem dX7_isParted_54 : decode cX7_isParted 54 = .ok (.iconst 0, 1) := by decide +kernel
theorem dX7_isParted_55 : decode cX7_isParted 55 = .ok (.lconst 0, 1) := by decide +kernel
theorem dX7_isParted_56 : decode cX7_isParted 56 = .ok (.lastore, 1) := by decide +kernel
theorem dX7_isParted_57 : decode cX7_isParted 57 = .ok (.aload_n 0, 1) := by decide +kernel
theorem dX7_isParted_58 : decode cX7_isParted 58 = .ok (.getfield 47, 3) := by decide +kernel
theorem dX7_isParted_61 : decode cX7_isParted 61 = .ok (.iconst 1, 1) := by decide +kernel
theorem dX7_isParted_62 : decode cX7_isParted 62 = .ok (.lconst 0, 1) := by decide +kernel
theorem dX7_isParted_63 : decode cX7_isParted 63 = .ok (.lastore, 1) := by decide +kernel
theorem dX7_isParted_64 : decode cX7_isParted 64 = .ok (.aload_n 0, 1) := by decide +kernel
theorem dX7_isParted_65 : decode cX7_isParted 65 = .ok (.getfield 47, 3) := by decide +kernel
theorem dX7_isParted_68 : decode cX7_isParted 68 = .ok (.iconst 2, 1) := by decide +kernel
theorem dX7_isParted_69 : decode cX7_isParted 69 = .ok (.lconst 0, 1) := by decide +kernel
theorem dX7_isParted_70 : decode cX7_isParted 70 = .ok (.lastore, 1) := by decide +kernel
theorem dX7_isParted_71 : decode cX7_isParted 71 = .ok (.iload 7, 2) := by decide +kernel
theorem dX7_isParted_73 : decode cX7_isParted 73 = .ok (.istore 8, 2) := by decide +kernel
theorem dX7_isParted_75 : decode cX7_isParted 75 = .ok (.iconst 0, 1) := by decide +kernel
theorem dX7_isParted_76 : decode cX7_isParted 76 = .ok (.istore 9, 2) := by decide +kernel
theorem dX7_isParted_78 : decode cX7_isParted 78 = .ok (.iload 9, 2) := by decide +kernel
theorem dX7_isParted_80 : decode cX7_isParted 80 = .ok (.aload_n 0, 1) := by decide +kernel
theorem dX7_isParted_81 : decode cX7_isParted 81 = .ok (.getfield 179, 3) := by decide +kernel
theorem dX7_isParted_84 : decode cX7_isParted 84 = .ok (.if_icmp .ge 59, 3) := by decide +kernel
theorem dX7_isParted_87 : decode cX7_isParted 87 = .ok (.aload_n 0, 1) := by decide +kernel
theorem dX7_isParted_88 : decode cX7_isParted 88 = .ok (.getfield 47, 3) := by decide +kernel
theorem dX7_isParted_91 : decode cX7_isParted 91 = .ok (.iload 8, 2) := by decide +kernel
theorem dX7_isParted_93 : decode cX7_isParted 93 = .ok (.iload 6, 2) := by decide +kernel
theorem dX7_isParted_95 : decode cX7_isParted 95 = .ok (.irem, 1) := by decide +kernel
theorem dX7_isParted_96 : decode cX7_isParted 96 = .ok (.ifCond .ne 7, 3) := by decide +kernel
theorem dX7_isParted_99 : decode cX7_isParted 99 = .ok (.iload_n 2, 1) := by decide +kernel
theorem dX7_isParted_100 : decode cX7_isParted 100 = .ok (.goto 18, 3) := by decide +kernel
theorem dX7_isParted_103 : decode cX7_isParted 103 = .ok (.iload 8, 2) := by decide +kernel
theorem dX7_isParted_105 : decode cX7_isParted 105 = .ok (.iload 6, 2) := by decide +kernel
theorem dX7_isParted_107 : decode cX7_isParted 107 = .ok (.irem, 1) := by decide +kernel
theorem dX7_isParted_108 : decode cX7_isParted 108 = .ok (.iconst 1, 1) := by decide +kernel
theorem dX7_isParted_109 : decode cX7_isParted 109 = .ok (.if_icmp .ne 7, 3) := by decide +kernel
theorem dX7_isParted_112 : decode cX7_isParted 112 = .ok (.iload_n 3, 1) := by decide +kernel
theorem dX7_isParted_113 : decode cX7_isParted 113 = .ok (.goto 5, 3) := by decide +kernel
theorem dX7_isParted_116 : decode cX7_isParted 116 = .ok (.iload 4, 2) := by decide +kernel
theorem dX7_isParted_118 : decode cX7_isParted 118 = .ok (.dup2, 1) := by decide +kernel
theorem dX7_isParted_119 : decode cX7_isParted 119 = .ok (.laload, 1) := by decide +kernel
theorem dX7_isParted_120 : decode cX7_isParted 120 = .ok (.aload_n 0, 1) := by decide +kernel
theorem dX7_isParted_121 : decode cX7_isParted 121 = .ok (.getfield 19, 3) := by decide +kernel
theorem dX7_isParted_124 : decode cX7_isParted 124 = .ok (.iload 9, 2) := by decide +kernel
theorem dX7_isParted_126 : decode cX7_isParted 126 = .ok (.iaload, 1) := by decide +kernel
theorem dX7_isParted_127 : decode cX7_isParted 127 = .ok (.i2l, 1) := by decide +kernel
theorem dX7_isParted_128 : decode cX7_isParted 128 = .ok (.ladd, 1) := by decide +kernel
theorem dX7_isParted_129 : decode cX7_isParted 129 = .ok (.lastore, 1) := by decide +kernel
theorem dX7_isParted_130 : decode cX7_isParted 130 = .ok (.iload 8, 2) := by decide +kernel
theorem dX7_isParted_132 : decode cX7_isParted 132 = .ok (.iload 6, 2) := by decide +kernel
theorem dX7_isParted_134 : decode cX7_isParted 134 = .ok (.idiv, 1) := by decide +kernel
theorem dX7_isParted_135 : decode cX7_isParted 135 = .ok (.istore 8, 2) := by decide +kernel
theorem dX7_isParted_137 : decode cX7_isParted 137 = .ok (.iinc 9 1, 3) := by decide +kernel
theorem dX7_isParted_140 : decode cX7_isParted 140 = .ok (.goto (-62), 3) := by decide +kernel
theorem dX7_isParted_143 : decode cX7_isParted 143 = .ok (.aload_n 0, 1) := by decide +kernel
theorem dX7_isParted_144 : decode cX7_isParted 144 = .ok (.getfield 22, 3) := by decide +kernel
theorem dX7_isParted_147 : decode cX7_isParted 147 = .ok (.iload_n 2, 1) := by decide +kernel
theorem dX7_isParted_148 : decode cX7_isParted 148 = .ok (.iaload, 1) := by decide +kernel
theorem dX7_isParted_149 : decode cX7_isParted 149 = .ok (.i2l, 1) := by decide +kernel
theorem dX7_isParted_150 : decode cX7_isParted 150 = .ok (.aload_n 0, 1) := by decide +kernel
theorem dX7_isParted_151 : decode cX7_isParted 151 = .ok (.getfield 22, 3) := by decide +kernel
theorem dX7_isParted_154 : decode cX7_isParted 154 = .ok (.iload_n 3, 1) := by decide +kernel
theorem dX7_isParted_155 : decode cX7_isParted 155 = .ok (.iaload, 1) := by decide +kernel
theorem dX7_isParted_156 : decode cX7_isParted 156 = .ok (.i2l, 1) := by decide +kernel
theorem dX7_isParted_157 : decode cX7_isParted 157 = .ok (.lmul, 1) := by decide +kernel
theorem dX7_isParted_158 : decode cX7_isParted 158 = .ok (.iload 4, 2) := by decide +kernel
theorem dX7_isParted_160 : decode cX7_isParted 160 = .ok (.ifCond .ge 7, 3) := by decide +kernel
theorem dX7_isParted_163 : decode cX7_isParted 163 = .ok (.iconst 1, 1) := by decide +kernel
theorem dX7_isParted_164 : decode cX7_isParted 164 = .ok (.goto 10, 3) := by decide +kernel
theorem dX7_isParted_167 : decode cX7_isParted 167 = .ok (.aload_n 0, 1) := by decide +kernel
theorem dX7_isParted_168 : decode cX7_isParted 168 = .ok (.getfield 22, 3) := by decide +kernel
theorem dX7_isParted_171 : decode cX7_isParted 171 = .ok (.iload 4, 2) := by decide +kernel
theorem dX7_isParted_173 : decode cX7_isParted 173 = .ok (.iaload, 1) := by decide +kernel
theorem dX7_isParted_174 : decode cX7_isParted 174 = .ok (.i2l, 1) := by decide +kernel
theorem dX7_isParted_175 : decode cX7_isParted 175 = .ok (.lmul, 1) := by decide +kernel
theorem dX7_isParted_176 : decode cX7_isParted 176 = .ok (.lstore 9, 2) := by decide +kernel
theorem dX7_isParted_178 : decode cX7_isParted 178 = .ok (.aload_n 0, 1) := by decide +kernel
theorem dX7_isParted_179 : decode cX7_isParted 179 = .ok (.getfield 47, 3) := by decide +kernel
theorem dX7_isParted_182 : decode cX7_isParted 182 = .ok (.iload_n 2, 1) := by decide +kernel
theorem dX7_isParted_183 : decode cX7_isParted 183 = .ok (.aload_n 0, 1) := by decide +kernel
theorem dX7_isParted_184 : decode cX7_isParted 184 = .ok (.getfield 47, 3) := by decide +kernel
theorem dX7_isParted_187 : decode cX7_isParted 187 = .ok (.iload_n 2, 1) := by decide +kernel
theorem dX7_isParted_188 : decode cX7_isParted 188 = .ok (.laload, 1) := by decide +kernel
theorem dX7_isParted_189 : decode cX7_isParted 189 = .ok (.lload 9, 2) := by decide +kernel
theorem dX7_isParted_191 : decode cX7_isParted 191 = .ok (.aload_n 0, 1) := by decide +kernel
theorem dX7_isParted_192 : decode cX7_isParted 192 = .ok (.getfield 22, 3) := by decide +kernel
theorem dX7_isParted_195 : decode cX7_isParted 195 = .ok (.iload_n 2, 1) := by decide +kernel
theorem dX7_isParted_196 : decode cX7_isParted 196 = .ok (.iaload, 1) := by decide +kernel
theorem dX7_isParted_197 : decode cX7_isParted 197 = .ok (.i2l, 1) := by decide +kernel
theorem dX7_isParted_198 : decode cX7_isParted 198 = .ok (.ldiv, 1) := by decide +kernel
theorem dX7_isParted_199 : decode cX7_isParted 199 = .ok (.lmul, 1) := by decide +kernel
theorem dX7_isParted_200 : decode cX7_isParted 200 = .ok (.lastore, 1) := by decide +kernel
theorem dX7_isParted_201 : decode cX7_isParted 201 = .ok (.aload_n 0, 1) := by decide +kernel
theorem dX7_isParted_202 : decode cX7_isParted 202 = .ok (.getfield 47, 3) := by decide +kernel
theorem dX7_isParted_205 : decode cX7_isParted 205 = .ok (.iload_n 3, 1) := by decide +kernel
theorem dX7_isParted_206 : decode cX7_isParted 206 = .ok (.aload_n 0, 1) := by decide +kernel
theorem dX7_isParted_207 : decode cX7_isParted 207 = .ok (.getfield 47, 3) := by decide +kernel
theorem dX7_isParted_210 : decode cX7_isParted 210 = .ok (.iload_n 3, 1) := by decide +kernel
theorem dX7_isParted_211 : decode cX7_isParted 211 = .ok (.laload, 1) := by decide +kernel
theorem dX7_isParted_212 : decode cX7_isParted 212 = .ok (.lload 9, 2) := by decide +kernel
theorem dX7_isParted_214 : decode cX7_isParted 214 = .ok (.aload_n 0, 1) := by decide +kernel
theorem dX7_isParted_215 : decode cX7_isParted 215 = .ok (.getfield 22, 3) := by decide +kernel
theorem dX7_isParted_218 : decode cX7_isParted 218 = .ok (.iload_n 3, 1) := by decide +kernel
theorem dX7_isParted_219 : decode cX7_isParted 219 = .ok (.iaload, 1) := by decide +kernel
theorem dX7_isParted_220 : decode cX7_isParted 220 = .ok (.i2l, 1) := by decide +kernel
theorem dX7_isParted_221 : decode cX7_isParted 221 = .ok (.ldiv, 1) := by decide +kernel
theorem dX7_isParted_222 : decode cX7_isParted 222 = .ok (.lmul, 1) := by decide +kernel
theorem dX7_isParted_223 : decode cX7_isParted 223 = .ok (.lastore, 1) := by decide +kernel
theorem dX7_isParted_224 : decode cX7_isParted 224 = .ok (.iload 4, 2) := by decide +kernel
theorem dX7_isParted_226 : decode cX7_isParted 226 = .ok (.ifCond .ge 17, 3) := by decide +kernel
theorem dX7_isParted_229 : decode cX7_isParted 229 = .ok (.aload_n 0, 1) := by decide +kernel
theorem dX7_isParted_230 : decode cX7_isParted 230 = .ok (.getfield 47, 3) := by decide +kernel
theorem dX7_isParted_233 : decode cX7_isParted 233 = .ok (.iconst 3, 1) := by decide +kernel
theorem dX7_isParted_234 : decode cX7_isParted 234 = .ok (.iload_n 2, 1) := by decide +kernel
theorem dX7_isParted_235 : decode cX7_isParted 235 = .ok (.isub, 1) := by decide +kernel
theorem dX7_isParted_236 : decode cX7_isParted 236 = .ok (.iload_n 3, 1) := by decide +kernel
theorem dX7_isParted_237 : decode cX7_isParted 237 = .ok (.isub, 1) := by decide +kernel
theorem dX7_isParted_238 : decode cX7_isParted 238 = .ok (.lconst 1, 1) := by decide +kernel
theorem dX7_isParted_239 : decode cX7_isParted 239 = .ok (.lastore, 1) := by decide +kernel
theorem dX7_isParted_240 : decode cX7_isParted 240 = .ok (.goto 29, 3) := by decide +kernel
theorem dX7_isParted_243 : decode cX7_isParted 243 = .ok (.aload_n 0, 1) := by decide +kernel
theorem dX7_isParted_244 : decode cX7_isParted 244 = .ok (.getfield 47, 3) := by decide +kernel
theorem dX7_isParted_247 : decode cX7_isParted 247 = .ok (.iload 4, 2) := by decide +kernel
theorem dX7_isParted_249 : decode cX7_isParted 249 = .ok (.aload_n 0, 1) := by decide +kernel
theorem dX7_isParted_250 : decode cX7_isParted 250 = .ok (.getfield 47, 3) := by decide +kernel
theorem dX7_isParted_253 : decode cX7_isParted 253 = .ok (.iload 4, 2) := by decide +kernel
theorem dX7_isParted_255 : decode cX7_isParted 255 = .ok (.laload, 1) := by decide +kernel
theorem dX7_isParted_256 : decode cX7_isParted 256 = .ok (.lload 9, 2) := by decide +kernel
theorem dX7_isParted_258 : decode cX7_isParted 258 = .ok (.aload_n 0, 1) := by decide +kernel
theorem dX7_isParted_259 : decode cX7_isParted 259 = .ok (.getfield 22, 3) := by decide +kernel
theorem dX7_isParted_262 : decode cX7_isParted 262 = .ok (.iload 4, 2) := by decide +kernel
theorem dX7_isParted_264 : decode cX7_isParted 264 = .ok (.iaload, 1) := by decide +kernel
theorem dX7_isParted_265 : decode cX7_isParted 265 = .ok (.i2l, 1) := by decide +kernel
theorem dX7_isParted_266 : decode cX7_isParted 266 = .ok (.ldiv, 1) := by decide +kernel
theorem dX7_isParted_267 : decode cX7_isParted 267 = .ok (.lmul, 1) := by decide +kernel
theorem dX7_isParted_268 : decode cX7_isParted 268 = .ok (.lastore, 1) := by decide +kernel
theorem dX7_isParted_269 : decode cX7_isParted 269 = .ok (.aload_n 0, 1) := by decide +kernel
theorem dX7_isParted_270 : decode cX7_isParted 270 = .ok (.iload_n 1, 1) := by decide +kernel
theorem dX7_isParted_271 : decode cX7_isParted 271 = .ok (.invokevirtual 230, 3) := by decide +kernel
theorem dX7_isParted_274 : decode cX7_isParted 274 = .ok (.ifCond .eq 5, 3) := by decide +kernel
theorem dX7_isParted_277 : decode cX7_isParted 277 = .ok (.iconst 1, 1) := by decide +kernel
theorem dX7_isParted_278 : decode cX7_isParted 278 = .ok (.ireturn, 1) := by decide +kernel
theorem dX7_isParted_279 : decode cX7_isParted 279 = .ok (.iinc 7 1, 3) := by decide +kernel
theorem dX7_isParted_282 : decode cX7_isParted 282 = .ok (.goto (-239), 3) := by decide +kernel
theorem dX7_isParted_285 : decode cX7_isParted 285 = .ok (.iconst 0, 1) := by decide +kernel
theorem dX7_isParted_286 : decode cX7_isParted 286 = .ok (.ireturn, 1) := by decide +kernel
theorem dX7_isPartBound_0 : decode cX7_isPartBound 0 = .ok (.iconst 0, 1) := by decide +kernel
theorem dX7_isPartBound_1 : decode cX7_isPartBound 1 = .ok (.istore 4, 2) := by decide +kernel
theorem dX7_isPartBound_3 : decode cX7_isPartBound 3 = .ok (.iload 4, 2) := by decide +kernel
theorem dX7_isPartBound_5 : decode cX7_isPartBound 5 = .ok (.aload_n 0, 1) := by decide +kernel
theorem dX7_isPartBound_6 : decode cX7_isPartBound 6 = .ok (.getfield 179, 3) := by decide +kernel
theorem dX7_isPartBound_9 : decode cX7_isPartBound 9 = .ok (.if_icmp .ge 286, 3) := by decide +kernel
theorem dX7_isPartBound_12 : decode cX7_isPartBound 12 = .ok (.iconst 1, 1) := by decide +kernel
theorem dX7_isPartBound_13 : decode cX7_isPartBound 13 = .ok (.istore 5, 2) := by decide +kernel
theorem dX7_isPartBound_15 : decode cX7_isPartBound 15 = .ok (.iload 5, 2) := by decide +kernel
theorem dX7_isPartBound_17 : decode cX7_isPartBound 17 = .ok (.iconst 1, 1) := by decide +kernel
theorem dX7_isPartBound_18 : decode cX7_isPartBound 18 = .ok (.aload_n 0, 1) := by decide +kernel
theorem dX7_isPartBound_19 : decode cX7_isPartBound 19 = .ok (.getfield 179, 3) := by decide +kernel
theorem dX7_isPartBound_22 : decode cX7_isPartBound 22 = .ok (.ishl, 1) := by decide +kernel
theorem dX7_isPartBound_23 : decode cX7_isPartBound 23 = .ok (.if_icmp .ge 138, 3) := by decide +kernel
theorem dX7_isPartBound_26 : decode cX7_isPartBound 26 = .ok (.iconst 0, 1) := by decide +kernel
theorem dX7_isPartBound_27 : decode cX7_isPartBound 27 = .ok (.istore 6, 2) := by decide +kernel
theorem dX7_isPartBound_29 : decode cX7_isPartBound 29 = .ok (.iconst 0, 1) := by decide +kernel
theorem dX7_isPartBound_30 : decode cX7_isPartBound 30 = .ok (.istore 7, 2) := by decide +kernel
theorem dX7_isPartBound_32 : decode cX7_isPartBound 32 = .ok (.iload 7, 2) := by decide +kernel
theorem dX7_isPartBound_34 : decode cX7_isPartBound 34 = .ok (.aload_n 0, 1) := by decide +kernel
theorem dX7_isPartBound_35 : decode cX7_isPartBound 35 = .ok (.getfield 179, 3) := by decide +kernel
theorem dX7_isPartBound_38 : decode cX7_isPartBound 38 = .ok (.if_icmp .ge 29, 3) := by decide +kernel
theorem dX7_isPartBound_41 : decode cX7_isPartBound 41 = .ok (.iload 6, 2) := by decide +kernel
theorem dX7_isPartBound_43 : decode cX7_isPartBound 43 = .ok (.iload 5, 2) := by decide +kernel
theorem dX7_isPartBound_45 : decode cX7_isPartBound 45 = .ok (.iload 7, 2) := by decide +kernel
theorem dX7_isPartBound_47 : decode cX7_isPartBound 47 = .ok (.ishr, 1) := by decide +kernel
theorem dX7_isPartBound_48 : decode cX7_isPartBound 48 = .ok (.iconst 1, 1) := by decide +kernel
theorem dX7_isPartBound_49 : decode cX7_isPartBound 49 = .ok (.iand, 1) := by decide +kernel
theorem dX7_isPartBound_50 : decode cX7_isPartBound 50 = .ok (.aload_n 0, 1) := by decide +kernel
theorem dX7_isPartBound_51 : decode cX7_isPartBound 51 = .ok (.getfield 19, 3) := by decide +kernel
theorem dX7_isPartBound_54 : decode cX7_isPartBound 54 = .ok (.iload 7, 2) := by decide +kernel
theorem dX7_isPartBound_56 : decode cX7_isPartBound 56 = .ok (.iaload, 1) := by decide +kernel
theorem dX7_isPartBound_57 : decode cX7_isPartBound 57 = .ok (.imul, 1) := by decide +kernel
theorem dX7_isPartBound_58 : decode cX7_isPartBound 58 = .ok (.iadd, 1) := by decide +kernel
theorem dX7_isPartBound_59 : decode cX7_isPartBound 59 = .ok (.istore 6, 2) := by decide +kernel
theorem dX7_isPartBound_61 : decode cX7_isPartBound 61 = .ok (.iinc 7 1, 3) := by decide +kernel
theorem dX7_isPartBound_64 : decode cX7_isPartBound 64 = .ok (.goto (-32), 3) := by decide +kernel
theorem dX7_isPartBound_67 : decode cX7_isPartBound 67 = .ok (.aload_n 0, 1) := by decide +kernel
theorem dX7_isPartBound_68 : decode cX7_isPartBound 68 = .ok (.iload_n 1, 1) := by decide +kernel
theorem dX7_isPartBound_69 : decode cX7_isPartBound 69 = .ok (.iload_n 2, 1) := by decide +kernel
theorem dX7_isPartBound_70 : decode cX7_isPartBound 70 = .ok (.iload 4, 2) := by decide +kernel
theorem dX7_isPartBound_72 : decode cX7_isPartBound 72 = .ok (.aload_n 0, 1) := by decide +kernel
theorem dX7_isPartBound_73 : decode cX7_isPartBound 73 = .ok (.invokevirtual 215, 3) := by decide +kernel
theorem dX7_isPartBound_76 : decode cX7_isPartBound 76 = .ok (.iload 6, 2) := by decide +kernel
theorem dX7_isPartBound_78 : decode cX7_isPartBound 78 = .ok (.isub, 1) := by decide +kernel
theorem dX7_isPartBound_79 : decode cX7_isPartBound 79 = .ok (.i2l, 1) := by decide +kernel
theorem dX7_isPartBound_80 : decode cX7_isPartBound 80 = .ok (.aload_n 0, 1) := by decide +kernel
theorem dX7_isPartBound_81 : decode cX7_isPartBound 81 = .ok (.getfield 22, 3) := by decide +kernel
theorem dX7_isPartBound_84 : decode cX7_isPartBound 84 = .ok (.iload_n 3, 1) := by decide +kernel
theorem dX7_isPartBound_85 : decode cX7_isPartBound 85 = .ok (.iaload, 1) := by decide +kernel
theorem dX7_isPartBound_86 : decode cX7_isPartBound 86 = .ok (.i2l, 1) := by decide +kernel
theorem dX7_isPartBound_87 : decode cX7_isPartBound 87 = .ok (.lmul, 1) := by decide +kernel
theorem dX7_isPartBound_88 : decode cX7_isPartBound 88 = .ok (.invokevirtual 226, 3) := by decide +kernel
theorem dX7_isPartBound_91 : decode cX7_isPartBound 91 = .ok (.aload_n 0, 1) := by decide +kernel
theorem dX7_isPartBound_92 : decode cX7_isPartBound 92 = .ok (.getfield 47, 3) := by decide +kernel
theorem dX7_isPartBound_95 : decode cX7_isPartBound 95 = .ok (.iload_n 3, 1) := by decide +kernel
theorem dX7_isPartBound_96 : decode cX7_isPartBound 96 = .ok (.aload_n 0, 1) := by decide +kernel
theorem dX7_isPartBound_97 : decode cX7_isPartBound 97 = .ok (.getfield 22, 3) := by decide +kernel
theorem dX7_isPartBound_100 : decode cX7_isPartBound 100 = .ok (.iload_n 1, 1) := by decide +kernel
theorem dX7_isPartBound_101 : decode cX7_isPartBound 101 = .ok (.iaload, 1) := by decide +kernel
theorem dX7_isPartBound_102 : decode cX7_isPartBound 102 = .ok (.i2l, 1) := by decide +kernel
theorem dX7_isPartBound_103 : decode cX7_isPartBound 103 = .ok (.aload_n 0, 1) := by decide +kernel
theorem dX7_isPartBound_104 : decode cX7_isPartBound 104 = .ok (.getfield 25, 3) := by decide +kernel
theorem dX7_isPartBound_107 : decode cX7_isPartBound 107 = .ok (.bipush 6, 2) := by decide +kernel
theorem dX7_isPartBound_109 : decode cX7_isPartBound 109 = .ok (.iload_n 2, 1) := by decide +kernel
theorem dX7_isPartBound_110 : decode cX7_isPartBound 110 = .ok (.imul, 1) := by decide +kernel
theorem dX7_isPartBound_111 : decode cX7_isPartBound 111 = .ok (.iload 4, 2) := by decide +kernel
theorem dX7_isPartBound_113 : decode cX7_isPartBound 113 = .ok (.iadd, 1) := by decide +kernel
theorem dX7_isPartBound_114 : decode cX7_isPartBound 114 = .ok (.iaload, 1) := by decide +kernel
theorem dX7_isPartBound_115 : decode cX7_isPartBound 115 = .ok (.i2l, 1) := by decide +kernel
theorem dX7_isPartBound_116 : decode cX7_isPartBound 116 = .ok (.lmul, 1) := by decide +kernel
theorem dX7_isPartBound_117 : decode cX7_isPartBound 117 = .ok (.aload_n 0, 1) := by decide +kernel
theorem dX7_isPartBound_118 : decode cX7_isPartBound 118 = .ok (.getfield 22, 3) := by decide +kernel
theorem dX7_isPartBound_121 : decode cX7_isPartBound 121 = .ok (.iload_n 2, 1) := by decide +kernel
theorem dX7_isPartBound_122 : decode cX7_isPartBound 122 = .ok (.iaload, 1) := by decide +kernel
theorem dX7_isPartBound_123 : decode cX7_isPartBound 123 = .ok (.i2l, 1) := by decide +kernel
theorem dX7_isPartBound_124 : decode cX7_isPartBound 124 = .ok (.aload_n 0, 1) := by decide +kernel
theorem dX7_isPartBound_125 : decode cX7_isPartBound 125 = .ok (.getfield 25, 3) := by decide +kernel
theorem dX7_isPartBound_128 : decode cX7_isPartBound 128 = .ok (.bipush 6, 2) := by decide +kernel
theorem dX7_isPartBound_130 : decode cX7_isPartBound 130 = .ok (.iload_n 1, 1) := by decide +kernel
theorem dX7_isPartBound_131 : decode cX7_isPartBound 131 = .ok (.imul, 1) := by decide +kernel
theorem dX7_isPartBound_132 : decode cX7_isPartBound 132 = .ok (.iload 4, 2) := by decide +kernel
theorem dX7_isPartBound_134 : decode cX7_isPartBound 134 = .ok (.iadd, 1) := by decide +kernel
theorem dX7_isPartBound_135 : decode cX7_isPartBound 135 = .ok (.iaload, 1) := by decide +kernel
theorem dX7_isPartBound_136 : decode cX7_isPartBound 136 = .ok (.i2l, 1) := by decide +kernel
theorem dX7_isPartBound_137 : decode cX7_isPartBound 137 = .ok (.lmul, 1) := by decide +kernel
theorem dX7_isPartBound_138 : decode cX7_isPartBound 138 = .ok (.ladd, 1) := by decide +kernel
theorem dX7_isPartBound_139 : decode cX7_isPartBound 139 = .ok (.iload 6, 2) := by decide +kernel
theorem dX7_isPartBound_141 : decode cX7_isPartBound 141 = .ok (.i2l, 1) := by decide +kernel
theorem dX7_isPartBound_142 : decode cX7_isPartBound 142 = .ok (.lmul, 1) := by decide +kernel
theorem dX7_isPartBound_143 : decode cX7_isPartBound 143 = .ok (.lastore, 1) := by decide +kernel
theorem dX7_isPartBound_144 : decode cX7_isPartBound 144 = .ok (.aload_n 0, 1) := by decide +kernel
theorem dX7_isPartBound_145 : decode cX7_isPartBound 145 = .ok (.bipush 7, 2) := by decide +kernel
theorem dX7_isPartBound_147 : decode cX7_isPartBound 147 = .ok (.invokevirtual 230, 3) := by decide +kernel
theorem dX7_isPartBound_150 : decode cX7_isPartBound 150 = .ok (.ifCond .eq 5, 3) := by decide +kernel
theorem dX7_isPartBound_153 : decode cX7_isPartBound 153 = .ok (.iconst 1, 1) := by decide +kernel
theorem dX7_isPartBound_154 : decode cX7_isPartBound 154 = .ok (.ireturn, 1) := by decide +kernel
theorem dX7_isPartBound_155 : decode cX7_isPartBound 155 = .ok (.iinc 5 1, 3) := by decide +kernel
theorem dX7_isPartBound_158 : decode cX7_isPartBound 158 = .ok (.goto (-143), 3) := by decide +kernel
theorem dX7_isPartBound_161 : decode cX7_isPartBound 161 = .ok (.iconst 0, 1) := by decide +kernel
theorem dX7_isPartBound_162 : decode cX7_isPartBound 162 = .ok (.istore 5, 2) := by decide +kernel
theorem dX7_isPartBound_164 : decode cX7_isPartBound 164 = .ok (.iload 5, 2) := by decide +kernel
theorem dX7_isPartBound_166 : decode cX7_isPartBound 166 = .ok (.aload_n 0, 1) := by decide +kernel
theorem dX7_isPartBound_167 : decode cX7_isPartBound 167 = .ok (.getfield 179, 3) := by decide +kernel
theorem dX7_isPartBound_170 : decode cX7_isPartBound 170 = .ok (.if_icmp .ge 119, 3) := by decide +kernel
theorem dX7_isPartBound_173 : decode cX7_isPartBound 173 = .ok (.aload_n 0, 1) := by decide +kernel
theorem dX7_isPartBound_174 : decode cX7_isPartBound 174 = .ok (.getfield 47, 3) := by decide +kernel
theorem dX7_isPartBound_177 : decode cX7_isPartBound 177 = .ok (.iload_n 1, 1) := by decide +kernel
theorem dX7_isPartBound_178 : decode cX7_isPartBound 178 = .ok (.aload_n 0, 1) := by decide +kernel
theorem dX7_isPartBound_179 : decode cX7_isPartBound 179 = .ok (.getfield 25, 3) := by decide +kernel
theorem dX7_isPartBound_182 : decode cX7_isPartBound 182 = .ok (.bipush 6, 2) := by decide +kernel
theorem dX7_isPartBound_184 : decode cX7_isPartBound 184 = .ok (.iload_n 2, 1) := by decide +kernel
theorem dX7_isPartBound_185 : decode cX7_isPartBound 185 = .ok (.imul, 1) := by decide +kernel
theorem dX7_isPartBound_186 : decode cX7_isPartBound 186 = .ok (.iload 4, 2) := by decide +kernel
theorem dX7_isPartBound_188 : decode cX7_isPartBound 188 = .ok (.iadd, 1) := by decide +kernel
theorem dX7_isPartBound_189 : decode cX7_isPartBound 189 = .ok (.iaload, 1) := by decide +kernel
theorem dX7_isPartBound_190 : decode cX7_isPartBound 190 = .ok (.i2l, 1) := by decide +kernel
theorem dX7_isPartBound_191 : decode cX7_isPartBound 191 = .ok (.aload_n 0, 1) := by decide +kernel
theorem dX7_isPartBound_192 : decode cX7_isPartBound 192 = .ok (.getfield 25, 3) := by decide +kernel
theorem dX7_isPartBound_195 : decode cX7_isPartBound 195 = .ok (.bipush 6, 2) := by decide +kernel
theorem dX7_isPartBound_197 : decode cX7_isPartBound 197 = .ok (.iload_n 3, 1) := by decide +kernel
theorem dX7_isPartBound_198 : decode cX7_isPartBound 198 = .ok (.imul, 1) := by decide +kernel
theorem dX7_isPartBound_199 : decode cX7_isPartBound 199 = .ok (.iload 5, 2) := by decide +kernel
theorem dX7_isPartBound_201 : decode cX7_isPartBound 201 = .ok (.iadd, 1) := by decide +kernel
theorem dX7_isPartBound_202 : decode cX7_isPartBound 202 = .ok (.iaload, 1) := by decide +kernel
theorem dX7_isPartBound_203 : decode cX7_isPartBound 203 = .ok (.i2l, 1) := by decide +kernel
theorem dX7_isPartBound_204 : decode cX7_isPartBound 204 = .ok (.lmul, 1) := by decide +kernel
theorem dX7_isPartBound_205 : decode cX7_isPartBound 205 = .ok (.lastore, 1) := by decide +kernel
theorem dX7_isPartBound_206 : decode cX7_isPartBound 206 = .ok (.aload_n 0, 1) := by decide +kernel
theorem dX7_isPartBound_207 : decode cX7_isPartBound 207 = .ok (.getfield 47, 3) := by decide +kernel
theorem dX7_isPartBound_210 : decode cX7_isPartBound 210 = .ok (.iload_n 2, 1) := by decide +kernel
theorem dX7_isPartBound_211 : decode cX7_isPartBound 211 = .ok (.aload_n 0, 1) := by decide +kernel
theorem dX7_isPartBound_212 : decode cX7_isPartBound 212 = .ok (.getfield 25, 3) := by decide +kernel
theorem dX7_isPartBound_215 : decode cX7_isPartBound 215 = .ok (.bipush 6, 2) := by decide +kernel
theorem dX7_isPartBound_217 : decode cX7_isPartBound 217 = .ok (.iload_n 1, 1) := by decide +kernel
theorem dX7_isPartBound_218 : decode cX7_isPartBound 218 = .ok (.imul, 1) := by decide +kernel
theorem dX7_isPartBound_219 : decode cX7_isPartBound 219 = .ok (.iload 4, 2) := by decide +kernel
theorem dX7_isPartBound_221 : decode cX7_isPartBound 221 = .ok (.iadd, 1) := by decide +kernel
theorem dX7_isPartBound_222 : decode cX7_isPartBound 222 = .ok (.iaload, 1) := by decide +kernel
theorem dX7_isPartBound_223 : decode cX7_isPartBound 223 = .ok (.i2l, 1) := by decide +kernel
theorem dX7_isPartBound_224 : decode cX7_isPartBound 224 = .ok (.aload_n 0, 1) := by decide +kernel
theorem dX7_isPartBound_225 : decode cX7_isPartBound 225 = .ok (.getfield 25, 3) := by decide +kernel
theorem dX7_isPartBound_228 : decode cX7_isPartBound 228 = .ok (.bipush 6, 2) := by decide +kernel
theorem dX7_isPartBound_230 : decode cX7_isPartBound 230 = .ok (.iload_n 3, 1) := by decide +kernel
theorem dX7_isPartBound_231 : decode cX7_isPartBound 231 = .ok (.imul, 1) := by decide +kernel
theorem dX7_isPartBound_232 : decode cX7_isPartBound 232 = .ok (.iload 5, 2) := by decide +kernel
theorem dX7_isPartBound_234 : decode cX7_isPartBound 234 = .ok (.iadd, 1) := by decide +kernel
theorem dX7_isPartBound_235 : decode cX7_isPartBound 235 = .ok (.iaload, 1) := by decide +kernel
theorem dX7_isPartBound_236 : decode cX7_isPartBound 236 = .ok (.i2l, 1) := by decide +kernel
theorem dX7_isPartBound_237 : decode cX7_isPartBound 237 = .ok (.lmul, 1) := by decide +kernel
theorem dX7_isPartBound_238 : decode cX7_isPartBound 238 = .ok (.lastore, 1) := by decide +kernel
theorem dX7_isPartBound_239 : decode cX7_isPartBound 239 = .ok (.aload_n 0, 1) := by decide +kernel
theorem dX7_isPartBound_240 : decode cX7_isPartBound 240 = .ok (.getfield 47, 3) := by decide +kernel
theorem dX7_isPartBound_243 : decode cX7_isPartBound 243 = .ok (.iload_n 3, 1) := by decide +kernel
theorem dX7_isPartBound_244 : decode cX7_isPartBound 244 = .ok (.aload_n 0, 1) := by decide +kernel
theorem dX7_isPartBound_245 : decode cX7_isPartBound 245 = .ok (.getfield 25, 3) := by decide +kernel
theorem dX7_isPartBound_248 : decode cX7_isPartBound 248 = .ok (.bipush 6, 2) := by decide +kernel
theorem dX7_isPartBound_250 : decode cX7_isPartBound 250 = .ok (.iload_n 1, 1) := by decide +kernel
theorem dX7_isPartBound_251 : decode cX7_isPartBound 251 = .ok (.imul, 1) := by decide +kernel
theorem dX7_isPartBound_252 : decode cX7_isPartBound 252 = .ok (.iload 4, 2) := by decide +kernel
theorem dX7_isPartBound_254 : decode cX7_isPartBound 254 = .ok (.iadd, 1) := by decide +kernel
theorem dX7_isPartBound_255 : decode cX7_isPartBound 255 = .ok (.iaload, 1) := by decide +kernel
theorem dX7_isPartBound_256 : decode cX7_isPartBound 256 = .ok (.i2l, 1) := by decide +kernel
theorem dX7_isPartBound_257 : decode cX7_isPartBound 257 = .ok (.aload_n 0, 1) := by decide +kernel
theorem dX7_isPartBound_258 : decode cX7_isPartBound 258 = .ok (.getfield 25, 3) := by decide +kernel
theorem dX7_isPartBound_261 : decode cX7_isPartBound 261 = .ok (.bipush 6, 2) := by decide +kernel
theorem dX7_isPartBound_263 : decode cX7_isPartBound 263 = .ok (.iload_n 2, 1) := by decide +kernel
theorem dX7_isPartBound_264 : decode cX7_isPartBound 264 = .ok (.imul, 1) := by decide +kernel
theorem dX7_isPartBound_265 : decode cX7_isPartBound 265 = .ok (.iload 5, 2) := by decide +kernel
theorem dX7_isPartBound_267 : decode cX7_isPartBound 267 = .ok (.iadd, 1) := by decide +kernel
theorem dX7_isPartBound_268 : decode cX7_isPartBound 268 = .ok (.iaload, 1) := by decide +kernel
theorem dX7_isPartBound_269 : decode cX7_isPartBound 269 = .ok (.i2l, 1) := by decide +kernel
theorem dX7_isPartBound_270 : decode cX7_isPartBound 270 = .ok (.lmul, 1) := by decide +kernel
theorem dX7_isPartBound_271 : decode cX7_isPartBound 271 = .ok (.lastore, 1) := by decide +kernel
theorem dX7_isPartBound_272 : decode cX7_isPartBound 272 = .ok (.aload_n 0, 1) := by decide +kernel
theorem dX7_isPartBound_273 : decode cX7_isPartBound 273 = .ok (.bipush 7, 2) := by decide +kernel
theorem dX7_isPartBound_275 : decode cX7_isPartBound 275 = .ok (.invokevirtual 230, 3) := by decide +kernel
theorem dX7_isPartBound_278 : decode cX7_isPartBound 278 = .ok (.ifCond .eq 5, 3) := by decide +kernel
theorem dX7_isPartBound_281 : decode cX7_isPartBound 281 = .ok (.iconst 1, 1) := by decide +kernel
theorem dX7_isPartBound_282 : decode cX7_isPartBound 282 = .ok (.ireturn, 1) := by decide +kernel
theorem dX7_isPartBound_283 : decode cX7_isPartBound 283 = .ok (.iinc 5 1, 3) := by decide +kernel
theorem dX7_isPartBound_286 : decode cX7_isPartBound 286 = .ok (.goto (-122), 3) := by decide +kernel
theorem dX7_isPartBound_289 : decode cX7_isPartBound 289 = .ok (.iinc 4 1, 3) := by decide +kernel
theorem dX7_isPartBound_292 : decode cX7_isPartBound 292 = .ok (.goto (-289), 3) := by decide +kernel
theorem dX7_isPartBound_295 : decode cX7_isPartBound 295 = .ok (.iconst 0, 1) := by decide +kernel
theorem dX7_isPartBound_296 : decode cX7_isPartBound 296 = .ok (.ireturn, 1) := by decide +kernel
theorem dX7_rest_0 : decode cX7_rest 0 = .ok (.iload_n 1, 1) := by decide +kernel
theorem dX7_rest_1 : decode cX7_rest 1 = .ok (.bipush 7, 2) := by decide +kernel
theorem dX7_rest_3 : decode cX7_rest 3 = .ok (.if_icmp .ne 54, 3) := by decide +kernel
theorem dX7_rest_6 : decode cX7_rest 6 = .ok (.aload_n 0, 1) := by decide +kernel
theorem dX7_rest_7 : decode cX7_rest 7 = .ok (.iconst 0, 1) := by decide +kernel
theorem dX7_rest_8 : decode cX7_rest 8 = .ok (.iconst 1, 1) := by decide +kernel
theorem dX7_rest_9 : decode cX7_rest 9 = .ok (.iconst 2, 1) := by decide +kernel
theorem dX7_rest_10 : decode cX7_rest 10 = .ok (.invokevirtual 233, 3) := by decide +kernel
theorem dX7_rest_13 : decode cX7_rest 13 = .ok (.ifCond .ne 35, 3) := by decide +kernel
theorem dX7_rest_16 : decode cX7_rest 16 = .ok (.aload_n 0, 1) := by decide +kernel
theorem dX7_rest_17 : decode cX7_rest 17 = .ok (.iconst 1, 1) := by decide +kernel
theorem dX7_rest_18 : decode cX7_rest 18 = .ok (.iconst 2, 1) := by decide +kernel
theorem dX7_rest_19 : decode cX7_rest 19 = .ok (.iconst 0, 1) := by decide +kernel
theorem dX7_rest_20 : decode cX7_rest 20 = .ok (.invokevirtual 233, 3) := by decide +kernel
theorem dX7_rest_23 : decode cX7_rest 23 = .ok (.ifCond .ne 25, 3) := by decide +kernel
theorem dX7_rest_26 : decode cX7_rest 26 = .ok (.aload_n 0, 1) := by decide +kernel
theorem dX7_rest_27 : decode cX7_rest 27 = .ok (.iconst 2, 1) := by decide +kernel
