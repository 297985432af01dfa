theorem dX7_rest_28 : decode cX7_rest 28 = .ok (.iconst 0, 1) := by decide +kernel
theorem dX7_rest_29 : decode cX7_rest 29 = .ok (.iconst 1, 1) := by decide +kernel
theorem dX7_rest_30 : decode cX7_rest 30 = .ok (.invokevirtual 233, 3) := by decide +kernel
theorem dX7_rest_33 : decode cX7_rest 33 = .ok (.ifCond .ne 15, 3) := by decide +kernel
theorem dX7_rest_36 : decode cX7_rest 36 = .ok (.aload_n 0, 1) := by decide +kernel
theorem dX7_rest_37 : decode cX7_rest 37 = .ok (.bipush 7, 2) := by decide +kernel
theorem dX7_rest_39 : decode cX7_rest 39 = .ok (.iconst 0, 1) := by decide +kernel
theorem dX7_rest_40 : decode cX7_rest 40 = .ok (.iconst 1, 1) := by decide +kernel
theorem dX7_rest_41 : decode cX7_rest 41 = .ok (.iconst 2, 1) := by decide +kernel
theorem dX7_rest_42 : decode cX7_rest 42 = .ok (.invokevirtual 237, 3) := by decide +kernel
theorem dX7_rest_45 : decode cX7_rest 45 = .ok (.ifCond .eq 7, 3) := by decide +kernel
theorem dX7_rest_48 : decode cX7_rest 48 = .ok (.iconst 1, 1) := by decide +kernel
theorem dX7_rest_49 : decode cX7_rest 49 = .ok (.goto 4, 3) := by decide +kernel
theorem dX7_rest_52 : decode cX7_rest 52 = .ok (.iconst 0, 1) := by decide +kernel
theorem dX7_rest_53 : decode cX7_rest 53 = .ok (.istore_n 2, 1) := by decide +kernel
theorem dX7_rest_54 : decode cX7_rest 54 = .ok (.goto 82, 3) := by decide +kernel
theorem dX7_rest_57 : decode cX7_rest 57 = .ok (.iload_n 1, 1) := by decide +kernel
theorem dX7_rest_58 : decode cX7_rest 58 = .ok (.iconst 3, 1) := by decide +kernel
theorem dX7_rest_59 : decode cX7_rest 59 = .ok (.if_icmp .eq 14, 3) := by decide +kernel
theorem dX7_rest_62 : decode cX7_rest 62 = .ok (.iload_n 1, 1) := by decide +kernel
theorem dX7_rest_63 : decode cX7_rest 63 = .ok (.iconst 5, 1) := by decide +kernel
theorem dX7_rest_64 : decode cX7_rest 64 = .ok (.if_icmp .eq 9, 3) := by decide +kernel
theorem dX7_rest_67 : decode cX7_rest 67 = .ok (.iload_n 1, 1) := by decide +kernel
theorem dX7_rest_68 : decode cX7_rest 68 = .ok (.bipush 6, 2) := by decide +kernel
theorem dX7_rest_70 : decode cX7_rest 70 = .ok (.if_icmp .ne 57, 3) := by decide +kernel
theorem dX7_rest_73 : decode cX7_rest 73 = .ok (.iload_n 1, 1) := by decide +kernel
theorem dX7_rest_74 : decode cX7_rest 74 = .ok (.bipush 6, 2) := by decide +kernel
theorem dX7_rest_76 : decode cX7_rest 76 = .ok (.if_icmp .ne 7, 3) := by decide +kernel
theorem dX7_rest_79 : decode cX7_rest 79 = .ok (.iconst 1, 1) := by decide +kernel
theorem dX7_rest_80 : decode cX7_rest 80 = .ok (.goto 4, 3) := by decide +kernel
theorem dX7_rest_83 : decode cX7_rest 83 = .ok (.iconst 0, 1) := by decide +kernel
theorem dX7_rest_84 : decode cX7_rest 84 = .ok (.istore_n 2, 1) := by decide +kernel
theorem dX7_rest_85 : decode cX7_rest 85 = .ok (.iload_n 1, 1) := by decide +kernel
theorem dX7_rest_86 : decode cX7_rest 86 = .ok (.iconst 3, 1) := by decide +kernel
theorem dX7_rest_87 : decode cX7_rest 87 = .ok (.if_icmp .ne 7, 3) := by decide +kernel
theorem dX7_rest_90 : decode cX7_rest 90 = .ok (.iconst 1, 1) := by decide +kernel
theorem dX7_rest_91 : decode cX7_rest 91 = .ok (.goto 4, 3) := by decide +kernel
theorem dX7_rest_94 : decode cX7_rest 94 = .ok (.iconst 2, 1) := by decide +kernel
theorem dX7_rest_95 : decode cX7_rest 95 = .ok (.istore_n 3, 1) := by decide +kernel
theorem dX7_rest_96 : decode cX7_rest 96 = .ok (.aload_n 0, 1) := by decide +kernel
theorem dX7_rest_97 : decode cX7_rest 97 = .ok (.iload_n 1, 1) := by decide +kernel
theorem dX7_rest_98 : decode cX7_rest 98 = .ok (.iload_n 2, 1) := by decide +kernel
theorem dX7_rest_99 : decode cX7_rest 99 = .ok (.iload_n 3, 1) := by decide +kernel
theorem dX7_rest_100 : decode cX7_rest 100 = .ok (.invokevirtual 241, 3) := by decide +kernel
theorem dX7_rest_103 : decode cX7_rest 103 = .ok (.ifCond .ne 14, 3) := by decide +kernel
theorem dX7_rest_106 : decode cX7_rest 106 = .ok (.aload_n 0, 1) := by decide +kernel
theorem dX7_rest_107 : decode cX7_rest 107 = .ok (.iload_n 1, 1) := by decide +kernel
theorem dX7_rest_108 : decode cX7_rest 108 = .ok (.iload_n 2, 1) := by decide +kernel
theorem dX7_rest_109 : decode cX7_rest 109 = .ok (.iload_n 3, 1) := by decide +kernel
theorem dX7_rest_110 : decode cX7_rest 110 = .ok (.iconst (-1), 1) := by decide +kernel
theorem dX7_rest_111 : decode cX7_rest 111 = .ok (.invokevirtual 237, 3) := by decide +kernel
theorem dX7_rest_114 : decode cX7_rest 114 = .ok (.ifCond .eq 7, 3) := by decide +kernel
theorem dX7_rest_117 : decode cX7_rest 117 = .ok (.iconst 1, 1) := by decide +kernel
theorem dX7_rest_118 : decode cX7_rest 118 = .ok (.goto 4, 3) := by decide +kernel
theorem dX7_rest_121 : decode cX7_rest 121 = .ok (.iconst 0, 1) := by decide +kernel
theorem dX7_rest_122 : decode cX7_rest 122 = .ok (.istore 4, 2) := by decide +kernel
theorem dX7_rest_124 : decode cX7_rest 124 = .ok (.goto 12, 3) := by decide +kernel
theorem dX7_rest_127 : decode cX7_rest 127 = .ok (.aload_n 0, 1) := by decide +kernel
theorem dX7_rest_128 : decode cX7_rest 128 = .ok (.iload_n 1, 1) := by decide +kernel
theorem dX7_rest_129 : decode cX7_rest 129 = .ok (.lconst 1, 1) := by decide +kernel
theorem dX7_rest_130 : decode cX7_rest 130 = .ok (.lconst 1, 1) := by decide +kernel
theorem dX7_rest_131 : decode cX7_rest 131 = .ok (.lconst 1, 1) := by decide +kernel
theorem dX7_rest_132 : decode cX7_rest 132 = .ok (.invokevirtual 222, 3) := by decide +kernel
theorem dX7_rest_135 : decode cX7_rest 135 = .ok (.pop, 1) := by decide +kernel
theorem dX7_rest_136 : decode cX7_rest 136 = .ok (.return_, 1) := by decide +kernel
theorem dX7_every_0 : decode cX7_every 0 = .ok (.iconst 1, 1) := by decide +kernel
theorem dX7_every_1 : decode cX7_every 1 = .ok (.aload_n 0, 1) := by decide +kernel
theorem dX7_every_2 : decode cX7_every 2 = .ok (.getfield 176, 3) := by decide +kernel
theorem dX7_every_5 : decode cX7_every 5 = .ok (.ishl, 1) := by decide +kernel
theorem dX7_every_6 : decode cX7_every 6 = .ok (.iconst 1, 1) := by decide +kernel
theorem dX7_every_7 : decode cX7_every 7 = .ok (.isub, 1) := by decide +kernel
theorem dX7_every_8 : decode cX7_every 8 = .ok (.ireturn, 1) := by decide +kernel
theorem dX7_restAll_0 : decode cX7_restAll 0 = .ok (.aload_n 0, 1) := by decide +kernel
theorem dX7_restAll_1 : decode cX7_restAll 1 = .ok (.getfield 186, 3) := by decide +kernel
theorem dX7_restAll_4 : decode cX7_restAll 4 = .ok (.ifCond .ne 11, 3) := by decide +kernel
theorem dX7_restAll_7 : decode cX7_restAll 7 = .ok (.aload_n 0, 1) := by decide +kernel
theorem dX7_restAll_8 : decode cX7_restAll 8 = .ok (.aload_n 0, 1) := by decide +kernel
theorem dX7_restAll_9 : decode cX7_restAll 9 = .ok (.invokevirtual 244, 3) := by decide +kernel
theorem dX7_restAll_12 : decode cX7_restAll 12 = .ok (.invokevirtual 247, 3) := by decide +kernel
theorem dX7_restAll_15 : decode cX7_restAll 15 = .ok (.iconst 0, 1) := by decide +kernel
theorem dX7_restAll_16 : decode cX7_restAll 16 = .ok (.istore_n 1, 1) := by decide +kernel
theorem dX7_restAll_17 : decode cX7_restAll 17 = .ok (.iload_n 1, 1) := by decide +kernel
theorem dX7_restAll_18 : decode cX7_restAll 18 = .ok (.iconst 3, 1) := by decide +kernel
theorem dX7_restAll_19 : decode cX7_restAll 19 = .ok (.if_icmp .ge 49, 3) := by decide +kernel
theorem dX7_restAll_22 : decode cX7_restAll 22 = .ok (.aload_n 0, 1) := by decide +kernel
theorem dX7_restAll_23 : decode cX7_restAll 23 = .ok (.getfield 40, 3) := by decide +kernel
theorem dX7_restAll_26 : decode cX7_restAll 26 = .ok (.iload_n 1, 1) := by decide +kernel
theorem dX7_restAll_27 : decode cX7_restAll 27 = .ok (.aload_n 0, 1) := by decide +kernel
theorem dX7_restAll_28 : decode cX7_restAll 28 = .ok (.getfield 186, 3) := by decide +kernel
theorem dX7_restAll_31 : decode cX7_restAll 31 = .ok (.ifCond .eq 12, 3) := by decide +kernel
theorem dX7_restAll_34 : decode cX7_restAll 34 = .ok (.aload_n 0, 1) := by decide +kernel
theorem dX7_restAll_35 : decode cX7_restAll 35 = .ok (.getfield 50, 3) := by decide +kernel
theorem dX7_restAll_38 : decode cX7_restAll 38 = .ok (.iload_n 1, 1) := by decide +kernel
theorem dX7_restAll_39 : decode cX7_restAll 39 = .ok (.laload, 1) := by decide +kernel
theorem dX7_restAll_40 : decode cX7_restAll 40 = .ok (.goto 9, 3) := by decide +kernel
theorem dX7_restAll_43 : decode cX7_restAll 43 = .ok (.aload_n 0, 1) := by decide +kernel
theorem dX7_restAll_44 : decode cX7_restAll 44 = .ok (.getfield 40, 3) := by decide +kernel
theorem dX7_restAll_47 : decode cX7_restAll 47 = .ok (.iload_n 1, 1) := by decide +kernel
theorem dX7_restAll_48 : decode cX7_restAll 48 = .ok (.laload, 1) := by decide +kernel
theorem dX7_restAll_49 : decode cX7_restAll 49 = .ok (.lastore, 1) := by decide +kernel
theorem dX7_restAll_50 : decode cX7_restAll 50 = .ok (.aload_n 0, 1) := by decide +kernel
theorem dX7_restAll_51 : decode cX7_restAll 51 = .ok (.getfield 50, 3) := by decide +kernel
theorem dX7_restAll_54 : decode cX7_restAll 54 = .ok (.iload_n 1, 1) := by decide +kernel
theorem dX7_restAll_55 : decode cX7_restAll 55 = .ok (.aload_n 0, 1) := by decide +kernel
theorem dX7_restAll_56 : decode cX7_restAll 56 = .ok (.getfield 40, 3) := by decide +kernel
theorem dX7_restAll_59 : decode cX7_restAll 59 = .ok (.iload_n 1, 1) := by decide +kernel
theorem dX7_restAll_60 : decode cX7_restAll 60 = .ok (.laload, 1) := by decide +kernel
theorem dX7_restAll_61 : decode cX7_restAll 61 = .ok (.lastore, 1) := by decide +kernel
theorem dX7_restAll_62 : decode cX7_restAll 62 = .ok (.iinc 1 1, 3) := by decide +kernel
theorem dX7_restAll_65 : decode cX7_restAll 65 = .ok (.goto (-48), 3) := by decide +kernel
theorem dX7_restAll_68 : decode cX7_restAll 68 = .ok (.aload_n 0, 1) := by decide +kernel
theorem dX7_restAll_69 : decode cX7_restAll 69 = .ok (.iconst 1, 1) := by decide +kernel
theorem dX7_restAll_70 : decode cX7_restAll 70 = .ok (.putfield 186, 3) := by decide +kernel
theorem dX7_restAll_73 : decode cX7_restAll 73 = .ok (.return_, 1) := by decide +kernel
theorem dX7_common_0 : decode cX7_common 0 = .ok (.lload_n 0, 1) := by decide +kernel
theorem dX7_common_1 : decode cX7_common 1 = .ok (.lstore 4, 2) := by decide +kernel
theorem dX7_common_3 : decode cX7_common 3 = .ok (.lload_n 2, 1) := by decide +kernel
theorem dX7_common_4 : decode cX7_common 4 = .ok (.lstore 6, 2) := by decide +kernel
theorem dX7_common_6 : decode cX7_common 6 = .ok (.lload 6, 2) := by decide +kernel
theorem dX7_common_8 : decode cX7_common 8 = .ok (.lconst 0, 1) := by decide +kernel
theorem dX7_common_9 : decode cX7_common 9 = .ok (.lcmp, 1) := by decide +kernel
theorem dX7_common_10 : decode cX7_common 10 = .ok (.ifCond .eq 21, 3) := by decide +kernel
theorem dX7_common_13 : decode cX7_common 13 = .ok (.lload 4, 2) := by decide +kernel
theorem dX7_common_15 : decode cX7_common 15 = .ok (.lload 6, 2) := by decide +kernel
theorem dX7_common_17 : decode cX7_common 17 = .ok (.lrem, 1) := by decide +kernel
theorem dX7_common_18 : decode cX7_common 18 = .ok (.lstore 8, 2) := by decide +kernel
theorem dX7_common_20 : decode cX7_common 20 = .ok (.lload 6, 2) := by decide +kernel
theorem dX7_common_22 : decode cX7_common 22 = .ok (.lstore 4, 2) := by decide +kernel
theorem dX7_common_24 : decode cX7_common 24 = .ok (.lload 8, 2) := by decide +kernel
theorem dX7_common_26 : decode cX7_common 26 = .ok (.lstore 6, 2) := by decide +kernel
theorem dX7_common_28 : decode cX7_common 28 = .ok (.goto (-22), 3) := by decide +kernel
theorem dX7_common_31 : decode cX7_common 31 = .ok (.lload 4, 2) := by decide +kernel
theorem dX7_common_33 : decode cX7_common 33 = .ok (.lreturn, 1) := by decide +kernel
theorem dX7_partOf_0 : decode cX7_partOf 0 = .ok (.iload 4, 2) := by decide +kernel
theorem dX7_partOf_2 : decode cX7_partOf 2 = .ok (.ifCond .ne 7, 3) := by decide +kernel
theorem dX7_partOf_5 : decode cX7_partOf 5 = .ok (.lload_n 0, 1) := by decide +kernel
theorem dX7_partOf_6 : decode cX7_partOf 6 = .ok (.goto 4, 3) := by decide +kernel
theorem dX7_partOf_9 : decode cX7_partOf 9 = .ok (.lload_n 2, 1) := by decide +kernel
theorem dX7_partOf_10 : decode cX7_partOf 10 = .ok (.lload_n 0, 1) := by decide +kernel
theorem dX7_partOf_11 : decode cX7_partOf 11 = .ok (.lload_n 2, 1) := by decide +kernel
theorem dX7_partOf_12 : decode cX7_partOf 12 = .ok (.invokestatic 250, 3) := by decide +kernel
theorem dX7_partOf_15 : decode cX7_partOf 15 = .ok (.ldiv, 1) := by decide +kernel
theorem dX7_partOf_16 : decode cX7_partOf 16 = .ok (.lreturn, 1) := by decide +kernel
theorem dX7_wage_0 : decode cX7_wage 0 = .ok (.aload_n 0, 1) := by decide +kernel
theorem dX7_wage_1 : decode cX7_wage 1 = .ok (.iconst 0, 1) := by decide +kernel
theorem dX7_wage_2 : decode cX7_wage 2 = .ok (.putfield 62, 3) := by decide +kernel
theorem dX7_wage_5 : decode cX7_wage 5 = .ok (.aload_n 0, 1) := by decide +kernel
theorem dX7_wage_6 : decode cX7_wage 6 = .ok (.iload_n 1, 1) := by decide +kernel
theorem dX7_wage_7 : decode cX7_wage 7 = .ok (.invokevirtual 189, 3) := by decide +kernel
theorem dX7_wage_10 : decode cX7_wage 10 = .ok (.ifCond .eq 13, 3) := by decide +kernel
theorem dX7_wage_13 : decode cX7_wage 13 = .ok (.iload_n 2, 1) := by decide +kernel
theorem dX7_wage_14 : decode cX7_wage 14 = .ok (.i2l, 1) := by decide +kernel
theorem dX7_wage_15 : decode cX7_wage 15 = .ok (.lconst 0, 1) := by decide +kernel
theorem dX7_wage_16 : decode cX7_wage 16 = .ok (.lconst 1, 1) := by decide +kernel
theorem dX7_wage_17 : decode cX7_wage 17 = .ok (.invokestatic 73, 3) := by decide +kernel
theorem dX7_wage_20 : decode cX7_wage 20 = .ok (.ifCond .ne 7, 3) := by decide +kernel
theorem dX7_wage_23 : decode cX7_wage 23 = .ok (.ldc2_w 83, 3) := by decide +kernel
theorem dX7_wage_26 : decode cX7_wage 26 = .ok (.lreturn, 1) := by decide +kernel
theorem dX7_wage_27 : decode cX7_wage 27 = .ok (.aload_n 0, 1) := by decide +kernel
theorem dX7_wage_28 : decode cX7_wage 28 = .ok (.invokevirtual 254, 3) := by decide +kernel
theorem dX7_wage_31 : decode cX7_wage 31 = .ok (.aload_n 0, 1) := by decide +kernel
theorem dX7_wage_32 : decode cX7_wage 32 = .ok (.getfield 40, 3) := by decide +kernel
theorem dX7_wage_35 : decode cX7_wage 35 = .ok (.iload_n 1, 1) := by decide +kernel
theorem dX7_wage_36 : decode cX7_wage 36 = .ok (.laload, 1) := by decide +kernel
theorem dX7_wage_37 : decode cX7_wage 37 = .ok (.aload_n 0, 1) := by decide +kernel
theorem dX7_wage_38 : decode cX7_wage 38 = .ok (.getfield 40, 3) := by decide +kernel
theorem dX7_wage_41 : decode cX7_wage 41 = .ok (.iconst 0, 1) := by decide +kernel
theorem dX7_wage_42 : decode cX7_wage 42 = .ok (.laload, 1) := by decide +kernel
theorem dX7_wage_43 : decode cX7_wage 43 = .ok (.iload_n 2, 1) := by decide +kernel
theorem dX7_wage_44 : decode cX7_wage 44 = .ok (.invokestatic 257, 3) := by decide +kernel
theorem dX7_wage_47 : decode cX7_wage 47 = .ok (.lreturn, 1) := by decide +kernel
theorem dX7_price_0 : decode cX7_price 0 = .ok (.aload_n 0, 1) := by decide +kernel
theorem dX7_price_1 : decode cX7_price 1 = .ok (.iconst 0, 1) := by decide +kernel
theorem dX7_price_2 : decode cX7_price 2 = .ok (.putfield 62, 3) := by decide +kernel
theorem dX7_price_5 : decode cX7_price 5 = .ok (.aload_n 0, 1) := by decide +kernel
theorem dX7_price_6 : decode cX7_price 6 = .ok (.iload_n 1, 1) := by decide +kernel
theorem dX7_price_7 : decode cX7_price 7 = .ok (.invokevirtual 192, 3) := by decide +kernel
theorem dX7_price_10 : decode cX7_price 10 = .ok (.ifCond .eq 15, 3) := by decide +kernel
theorem dX7_price_13 : decode cX7_price 13 = .ok (.iload_n 2, 1) := by decide +kernel
theorem dX7_price_14 : decode cX7_price 14 = .ok (.i2l, 1) := by decide +kernel
theorem dX7_price_15 : decode cX7_price 15 = .ok (.lconst 0, 1) := by decide +kernel
theorem dX7_price_16 : decode cX7_price 16 = .ok (.ldc2_w 81, 3) := by decide +kernel
theorem dX7_price_19 : decode cX7_price 19 = .ok (.invokestatic 73, 3) := by decide +kernel
theorem dX7_price_22 : decode cX7_price 22 = .ok (.ifCond .ne 7, 3) := by decide +kernel
theorem dX7_price_25 : decode cX7_price 25 = .ok (.ldc2_w 83, 3) := by decide +kernel
theorem dX7_price_28 : decode cX7_price 28 = .ok (.lreturn, 1) := by decide +kernel
theorem dX7_price_29 : decode cX7_price 29 = .ok (.aload_n 0, 1) := by decide +kernel
theorem dX7_price_30 : decode cX7_price 30 = .ok (.invokevirtual 254, 3) := by decide +kernel
theorem dX7_price_33 : decode cX7_price 33 = .ok (.iload_n 2, 1) := by decide +kernel
theorem dX7_price_34 : decode cX7_price 34 = .ok (.iconst 2, 1) := by decide +kernel
theorem dX7_price_35 : decode cX7_price 35 = .ok (.if_icmp .ne 16, 3) := by decide +kernel
theorem dX7_price_38 : decode cX7_price 38 = .ok (.aload_n 0, 1) := by decide +kernel
theorem dX7_price_39 : decode cX7_price 39 = .ok (.aload_n 0, 1) := by decide +kernel
theorem dX7_price_40 : decode cX7_price 40 = .ok (.invokevirtual 244, 3) := by decide +kernel
theorem dX7_price_43 : decode cX7_price 43 = .ok (.iload_n 1, 1) := by decide +kernel
theorem dX7_price_44 : decode cX7_price 44 = .ok (.invokevirtual 211, 3) := by decide +kernel
theorem dX7_price_47 : decode cX7_price 47 = .ok (.i2l, 1) := by decide +kernel
theorem dX7_price_48 : decode cX7_price 48 = .ok (.goto 22, 3) := by decide +kernel
theorem dX7_price_51 : decode cX7_price 51 = .ok (.aload_n 0, 1) := by decide +kernel
theorem dX7_price_52 : decode cX7_price 52 = .ok (.aload_n 0, 1) := by decide +kernel
theorem dX7_price_53 : decode cX7_price 53 = .ok (.invokevirtual 244, 3) := by decide +kernel
theorem dX7_price_56 : decode cX7_price 56 = .ok (.iload_n 1, 1) := by decide +kernel
theorem dX7_price_57 : decode cX7_price 57 = .ok (.invokevirtual 205, 3) := by decide +kernel
theorem dX7_price_60 : decode cX7_price 60 = .ok (.aload_n 0, 1) := by decide +kernel
theorem dX7_price_61 : decode cX7_price 61 = .ok (.getfield 40, 3) := by decide +kernel
theorem dX7_price_64 : decode cX7_price 64 = .ok (.iconst 0, 1) := by decide +kernel
theorem dX7_price_65 : decode cX7_price 65 = .ok (.laload, 1) := by decide +kernel
theorem dX7_price_66 : decode cX7_price 66 = .ok (.iload_n 2, 1) := by decide +kernel
theorem dX7_price_67 : decode cX7_price 67 = .ok (.invokestatic 257, 3) := by decide +kernel
theorem dX7_price_70 : decode cX7_price 70 = .ok (.lreturn, 1) := by decide +kernel
theorem dX7_gain_0 : decode cX7_gain 0 = .ok (.aload_n 0, 1) := by decide +kernel
theorem dX7_gain_1 : decode cX7_gain 1 = .ok (.iconst 0, 1) := by decide +kernel
theorem dX7_gain_2 : decode cX7_gain 2 = .ok (.putfield 62, 3) := by decide +kernel
theorem dX7_gain_5 : decode cX7_gain 5 = .ok (.aload_n 0, 1) := by decide +kernel
theorem dX7_gain_6 : decode cX7_gain 6 = .ok (.iload_n 1, 1) := by decide +kernel
theorem dX7_gain_7 : decode cX7_gain 7 = .ok (.invokevirtual 189, 3) := by decide +kernel
theorem dX7_gain_10 : decode cX7_gain 10 = .ok (.ifCond .eq 21, 3) := by decide +kernel
theorem dX7_gain_13 : decode cX7_gain 13 = .ok (.aload_n 0, 1) := by decide +kernel
theorem dX7_gain_14 : decode cX7_gain 14 = .ok (.iload_n 2, 1) := by decide +kernel
theorem dX7_gain_15 : decode cX7_gain 15 = .ok (.invokevirtual 192, 3) := by decide +kernel
theorem dX7_gain_18 : decode cX7_gain 18 = .ok (.ifCond .eq 13, 3) := by decide +kernel
theorem dX7_gain_21 : decode cX7_gain 21 = .ok (.iload_n 3, 1) := by decide +kernel
theorem dX7_gain_22 : decode cX7_gain 22 = .ok (.i2l, 1) := by decide +kernel
theorem dX7_gain_23 : decode cX7_gain 23 = .ok (.lconst 0, 1) := by decide +kernel
theorem dX7_gain_24 : decode cX7_gain 24 = .ok (.lconst 1, 1) := by decide +kernel
theorem dX7_gain_25 : decode cX7_gain 25 = .ok (.invokestatic 73, 3) := by decide +kernel
theorem dX7_gain_28 : decode cX7_gain 28 = .ok (.ifCond .ne 7, 3) := by decide +kernel
theorem dX7_gain_31 : decode cX7_gain 31 = .ok (.ldc2_w 83, 3) := by decide +kernel
theorem dX7_gain_34 : decode cX7_gain 34 = .ok (.lreturn, 1) := by decide +kernel
theorem dX7_gain_35 : decode cX7_gain 35 = .ok (.aload_n 0, 1) := by decide +kernel
theorem dX7_gain_36 : decode cX7_gain 36 = .ok (.invokevirtual 254, 3) := by decide +kernel
theorem dX7_gain_39 : decode cX7_gain 39 = .ok (.aload_n 0, 1) := by decide +kernel
theorem dX7_gain_40 : decode cX7_gain 40 = .ok (.iload_n 1, 1) := by decide +kernel
theorem dX7_gain_41 : decode cX7_gain 41 = .ok (.iload_n 2, 1) := by decide +kernel
theorem dX7_gain_42 : decode cX7_gain 42 = .ok (.invokevirtual 201, 3) := by decide +kernel
theorem dX7_gain_45 : decode cX7_gain 45 = .ok (.aload_n 0, 1) := by decide +kernel
theorem dX7_gain_46 : decode cX7_gain 46 = .ok (.aload_n 0, 1) := by decide +kernel
theorem dX7_gain_47 : decode cX7_gain 47 = .ok (.invokevirtual 244, 3) := by decide +kernel
theorem dX7_gain_50 : decode cX7_gain 50 = .ok (.iload_n 2, 1) := by decide +kernel
theorem dX7_gain_51 : decode cX7_gain 51 = .ok (.invokevirtual 205, 3) := by decide +kernel
theorem dX7_gain_54 : decode cX7_gain 54 = .ok (.iload_n 3, 1) := by decide +kernel
theorem dX7_gain_55 : decode cX7_gain 55 = .ok (.invokestatic 257, 3) := by decide +kernel
theorem dX7_gain_58 : decode cX7_gain 58 = .ok (.lreturn, 1) := by decide +kernel
theorem dX7_judge_0 : decode cX7_judge 0 = .ok (.aload_n 0, 1) := by decide +kernel
theorem dX7_judge_1 : decode cX7_judge 1 = .ok (.iconst 0, 1) := by decide +kernel
theorem dX7_judge_2 : decode cX7_judge 2 = .ok (.putfield 62, 3) := by decide +kernel
theorem dX7_judge_5 : decode cX7_judge 5 = .ok (.iload_n 1, 1) := by decide +kernel
theorem dX7_judge_6 : decode cX7_judge 6 = .ok (.invokestatic 77, 3) := by decide +kernel
theorem dX7_judge_9 : decode cX7_judge 9 = .ok (.ifCond .ne 7, 3) := by decide +kernel
theorem dX7_judge_12 : decode cX7_judge 12 = .ok (.ldc2_w 83, 3) := by decide +kernel
theorem dX7_judge_15 : decode cX7_judge 15 = .ok (.lreturn, 1) := by decide +kernel
theorem dX7_judge_16 : decode cX7_judge 16 = .ok (.aload_n 0, 1) := by decide +kernel
theorem dX7_judge_17 : decode cX7_judge 17 = .ok (.getfield 176, 3) := by decide +kernel
theorem dX7_judge_20 : decode cX7_judge 20 = .ok (.ifCond .ne 7, 3) := by decide +kernel
theorem dX7_judge_23 : decode cX7_judge 23 = .ok (.ldc2_w 261, 3) := by decide +kernel
theorem dX7_judge_26 : decode cX7_judge 26 = .ok (.lreturn, 1) := by decide +kernel
theorem dX7_judge_27 : decode cX7_judge 27 = .ok (.aload_n 0, 1) := by decide +kernel
theorem dX7_judge_28 : decode cX7_judge 28 = .ok (.iload_n 1, 1) := by decide +kernel
theorem dX7_judge_29 : decode cX7_judge 29 = .ok (.iload_n 2, 1) := by decide +kernel
theorem dX7_judge_30 : decode cX7_judge 30 = .ok (.aload_n 0, 1) := by decide +kernel
theorem dX7_judge_31 : decode cX7_judge 31 = .ok (.getfield 176, 3) := by decide +kernel
theorem dX7_judge_34 : decode cX7_judge 34 = .ok (.invokevirtual 263, 3) := by decide +kernel
theorem dX7_judge_37 : decode cX7_judge 37 = .ok (.lstore_n 3, 1) := by decide +kernel
theorem dX7_judge_38 : decode cX7_judge 38 = .ok (.lload_n 3, 1) := by decide +kernel
theorem dX7_judge_39 : decode cX7_judge 39 = .ok (.lconst 0, 1) := by decide +kernel
theorem dX7_judge_40 : decode cX7_judge 40 = .ok (.lcmp, 1) := by decide +kernel
theorem dX7_judge_41 : decode cX7_judge 41 = .ok (.ifCond .ge 5, 3) := by decide +kernel
theorem dX7_judge_44 : decode cX7_judge 44 = .ok (.lload_n 3, 1) := by decide +kernel
theorem dX7_judge_45 : decode cX7_judge 45 = .ok (.lreturn, 1) := by decide +kernel
theorem dX7_judge_46 : decode cX7_judge 46 = .ok (.iconst 0, 1) := by decide +kernel
theorem dX7_judge_47 : decode cX7_judge 47 = .ok (.istore 5, 2) := by decide +kernel
theorem dX7_judge_49 : decode cX7_judge 49 = .ok (.iload 5, 2) := by decide +kernel
theorem dX7_judge_51 : decode cX7_judge 51 = .ok (.aload_n 0, 1) := by decide +kernel
theorem dX7_judge_52 : decode cX7_judge 52 = .ok (.getfield 176, 3) := by decide +kernel
theorem dX7_judge_55 : decode cX7_judge 55 = .ok (.if_icmp .ge 38, 3) := by decide +kernel
theorem dX7_judge_58 : decode cX7_judge 58 = .ok (.aload_n 0, 1) := by decide +kernel
theorem dX7_judge_59 : decode cX7_judge 59 = .ok (.getfield 16, 3) := by decide +kernel
theorem dX7_judge_62 : decode cX7_judge 62 = .ok (.bipush 40, 2) := by decide +kernel
theorem dX7_judge_64 : decode cX7_judge 64 = .ok (.iload_n 1, 1) := by decide +kernel
theorem dX7_judge_65 : decode cX7_judge 65 = .ok (.imul, 1) := by decide +kernel
theorem dX7_judge_66 : decode cX7_judge 66 = .ok (.iload_n 2, 1) := by decide +kernel
theorem dX7_judge_67 : decode cX7_judge 67 = .ok (.iadd, 1) := by decide +kernel
theorem dX7_judge_68 : decode cX7_judge 68 = .ok (.iload 5, 2) := by decide +kernel
theorem dX7_judge_70 : decode cX7_judge 70 = .ok (.iadd, 1) := by decide +kernel
theorem dX7_judge_71 : decode cX7_judge 71 = .ok (.iaload, 1) := by decide +kernel
theorem dX7_judge_72 : decode cX7_judge 72 = .ok (.i2l, 1) := by decide +kernel
theorem dX7_judge_73 : decode cX7_judge 73 = .ok (.lconst 1, 1) := by decide +kernel
theorem dX7_judge_74 : decode cX7_judge 74 = .ok (.ldc2_w 267, 3) := by decide +kernel
theorem dX7_judge_77 : decode cX7_judge 77 = .ok (.invokestatic 73, 3) := by decide +kernel
theorem dX7_judge_80 : decode cX7_judge 80 = .ok (.ifCond .ne 7, 3) := by decide +kernel
theorem dX7_judge_83 : decode cX7_judge 83 = .ok (.ldc2_w 83, 3) := by decide +kernel
theorem dX7_judge_86 : decode cX7_judge 86 = .ok (.lreturn, 1) := by decide +kernel
theorem dX7_judge_87 : decode cX7_judge 87 = .ok (.iinc 5 1, 3) := by decide +kernel
theorem dX7_judge_90 : decode cX7_judge 90 = .ok (.goto (-41), 3) := by decide +kernel
theorem dX7_judge_93 : decode cX7_judge 93 = .ok (.aload_n 0, 1) := by decide +kernel
theorem dX7_judge_94 : decode cX7_judge 94 = .ok (.iconst 0, 1) := by decide +kernel
theorem dX7_judge_95 : decode cX7_judge 95 = .ok (.putfield 66, 3) := by decide +kernel
theorem dX7_judge_98 : decode cX7_judge 98 = .ok (.iconst 0, 1) := by decide +kernel
theorem dX7_judge_99 : decode cX7_judge 99 = .ok (.istore 5, 2) := by decide +kernel
theorem dX7_judge_101 : decode cX7_judge 101 = .ok (.iload 5, 2) := by decide +kernel
theorem dX7_judge_103 : decode cX7_judge 103 = .ok (.aload_n 0, 1) := by decide +kernel
theorem dX7_judge_104 : decode cX7_judge 104 = .ok (.getfield 176, 3) := by decide +kernel
theorem dX7_judge_107 : decode cX7_judge 107 = .ok (.if_icmp .ge 31, 3) := by decide +kernel
theorem dX7_judge_110 : decode cX7_judge 110 = .ok (.aload_n 0, 1) := by decide +kernel
theorem dX7_judge_111 : decode cX7_judge 111 = .ok (.getfield 40, 3) := by decide +kernel
theorem dX7_judge_114 : decode cX7_judge 114 = .ok (.iload 5, 2) := by decide +kernel
theorem dX7_judge_116 : decode cX7_judge 116 = .ok (.aload_n 0, 1) := by decide +kernel
theorem dX7_judge_117 : decode cX7_judge 117 = .ok (.getfield 16, 3) := by decide +kernel
theorem dX7_judge_120 : decode cX7_judge 120 = .ok (.bipush 40, 2) := by decide +kernel
theorem dX7_judge_122 : decode cX7_judge 122 = .ok (.iload_n 1, 1) := by decide +kernel
theorem dX7_judge_123 : decode cX7_judge 123 = .ok (.imul, 1) := by decide +kernel
theorem dX7_judge_124 : decode cX7_judge 124 = .ok (.iload_n 2, 1) := by decide +kernel
theorem dX7_judge_125 : decode cX7_judge 125 = .ok (.iadd, 1) := by decide +kernel
theorem dX7_judge_126 : decode cX7_judge 126 = .ok (.iload 5, 2) := by decide +kernel
theorem dX7_judge_128 : decode cX7_judge 128 = .ok (.iadd, 1) := by decide +kernel
theorem dX7_judge_129 : decode cX7_judge 129 = .ok (.iaload, 1) := by decide +kernel
theorem dX7_judge_130 : decode cX7_judge 130 = .ok (.i2l, 1) := by decide +kernel
theorem dX7_judge_131 : decode cX7_judge 131 = .ok (.lastore, 1) := by decide +kernel
theorem dX7_judge_132 : decode cX7_judge 132 = .ok (.iinc 5 1, 3) := by decide +kernel
theorem dX7_judge_135 : decode cX7_judge 135 = .ok (.goto (-34), 3) := by decide +kernel
theorem dX7_judge_138 : decode cX7_judge 138 = .ok (.aload_n 0, 1) := by decide +kernel
theorem dX7_judge_139 : decode cX7_judge 139 = .ok (.aload_n 0, 1) := by decide +kernel
theorem dX7_judge_140 : decode cX7_judge 140 = .ok (.invokevirtual 244, 3) := by decide +kernel
theorem dX7_judge_143 : decode cX7_judge 143 = .ok (.invokevirtual 219, 3) := by decide +kernel
theorem dX7_judge_146 : decode cX7_judge 146 = .ok (.i2l, 1) := by decide +kernel
theorem dX7_judge_147 : decode cX7_judge 147 = .ok (.lreturn, 1) := by decide +kernel
theorem dX7_isAhead_0 : decode cX7_isAhead 0 = .ok (.aload_n 0, 1) := by decide +kernel
theorem dX7_isAhead_1 : decode cX7_isAhead 1 = .ok (.getfield 25, 3) := by decide +kernel
theorem dX7_isAhead_4 : decode cX7_isAhead 4 = .ok (.bipush 6, 2) := by decide +kernel
theorem dX7_isAhead_6 : decode cX7_isAhead 6 = .ok (.iload_n 1, 1) := by decide +kernel
theorem dX7_isAhead_7 : decode cX7_isAhead 7 = .ok (.imul, 1) := by decide +kernel
theorem dX7_isAhead_8 : decode cX7_isAhead 8 = .ok (.iload_n 3, 1) := by decide +kernel
theorem dX7_isAhead_9 : decode cX7_isAhead 9 = .ok (.iadd, 1) := by decide +kernel
theorem dX7_isAhead_10 : decode cX7_isAhead 10 = .ok (.iaload, 1) := by decide +kernel
theorem dX7_isAhead_11 : decode cX7_isAhead 11 = .ok (.aload_n 0, 1) := by decide +kernel
theorem dX7_isAhead_12 : decode cX7_isAhead 12 = .ok (.getfield 25, 3) := by decide +kernel
theorem dX7_isAhead_15 : decode cX7_isAhead 15 = .ok (.bipush 6, 2) := by decide +kernel
theorem dX7_isAhead_17 : decode cX7_isAhead 17 = .ok (.iload_n 2, 1) := by decide +kernel
theorem dX7_isAhead_18 : decode cX7_isAhead 18 = .ok (.imul, 1) := by decide +kernel
theorem dX7_isAhead_19 : decode cX7_isAhead 19 = .ok (.iload 4, 2) := by decide +kernel
theorem dX7_isAhead_21 : decode cX7_isAhead 21 = .ok (.iadd, 1) := by decide +kernel
theorem dX7_isAhead_22 : decode cX7_isAhead 22 = .ok (.iaload, 1) := by decide +kernel
theorem dX7_isAhead_23 : decode cX7_isAhead 23 = .ok (.imul, 1) := by decide +kernel
theorem dX7_isAhead_24 : decode cX7_isAhead 24 = .ok (.istore 5, 2) := by decide +kernel
theorem dX7_isAhead_26 : decode cX7_isAhead 26 = .ok (.aload_n 0, 1) := by decide +kernel
theorem dX7_isAhead_27 : decode cX7_isAhead 27 = .ok (.getfield 25, 3) := by decide +kernel
theorem dX7_isAhead_30 : decode cX7_isAhead 30 = .ok (.bipush 6, 2) := by decide +kernel
theorem dX7_isAhead_32 : decode cX7_isAhead 32 = .ok (.iload_n 1, 1) := by decide +kernel
theorem dX7_isAhead_33 : decode cX7_isAhead 33 = .ok (.imul, 1) := by decide +kernel
theorem dX7_isAhead_34 : decode cX7_isAhead 34 = .ok (.iload 4, 2) := by decide +kernel
theorem dX7_isAhead_36 : decode cX7_isAhead 36 = .ok (.iadd, 1) := by decide +kernel
theorem dX7_isAhead_37 : decode cX7_isAhead 37 = .ok (.iaload, 1) := by decide +kernel
theorem dX7_isAhead_38 : decode cX7_isAhead 38 = .ok (.aload_n 0, 1) := by decide +kernel
theorem dX7_isAhead_39 : decode cX7_isAhead 39 = .ok (.getfield 25, 3) := by decide +kernel
theorem dX7_isAhead_42 : decode cX7_isAhead 42 = .ok (.bipush 6, 2) := by decide +kernel
theorem dX7_isAhead_44 : decode cX7_isAhead 44 = .ok (.iload_n 2, 1) := by decide +kernel
theorem dX7_isAhead_45 : decode cX7_isAhead 45 = .ok (.imul, 1) := by decide +kernel
theorem dX7_isAhead_46 : decode cX7_isAhead 46 = .ok (.iload_n 3, 1) := by decide +kernel
theorem dX7_isAhead_47 : decode cX7_isAhead 47 = .ok (.iadd, 1) := by decide +kernel
theorem dX7_isAhead_48 : decode cX7_isAhead 48 = .ok (.iaload, 1) := by decide +kernel
theorem dX7_isAhead_49 : decode cX7_isAhead 49 = .ok (.imul, 1) := by decide +kernel
theorem dX7_isAhead_50 : decode cX7_isAhead 50 = .ok (.istore 6, 2) := by decide +kernel
theorem dX7_isAhead_52 : decode cX7_isAhead 52 = .ok (.iload 5, 2) := by decide +kernel
theorem dX7_isAhead_54 : decode cX7_isAhead 54 = .ok (.iload 6, 2) := by decide +kernel
theorem dX7_isAhead_56 : decode cX7_isAhead 56 = .ok (.if_icmp .lt 16, 3) := by decide +kernel
theorem dX7_isAhead_59 : decode cX7_isAhead 59 = .ok (.iload 5, 2) := by decide +kernel
theorem dX7_isAhead_61 : decode cX7_isAhead 61 = .ok (.iload 6, 2) := by decide +kernel
theorem dX7_isAhead_63 : decode cX7_isAhead 63 = .ok (.if_icmp .ne 13, 3) := by decide +kernel
theorem dX7_isAhead_66 : decode cX7_isAhead 66 = .ok (.iload_n 3, 1) := by decide +kernel
theorem dX7_isAhead_67 : decode cX7_isAhead 67 = .ok (.iload 4, 2) := by decide +kernel
theorem dX7_isAhead_69 : decode cX7_isAhead 69 = .ok (.if_icmp .ge 7, 3) := by decide +kernel
theorem dX7_isAhead_72 : decode cX7_isAhead 72 = .ok (.iconst 1, 1) := by decide +kernel
theorem dX7_isAhead_73 : decode cX7_isAhead 73 = .ok (.goto 4, 3) := by decide +kernel
theorem dX7_isAhead_76 : decode cX7_isAhead 76 = .ok (.iconst 0, 1) := by decide +kernel
theorem dX7_isAhead_77 : decode cX7_isAhead 77 = .ok (.ireturn, 1) := by decide +kernel
theorem dX7_chain_0 : decode cX7_chain 0 = .ok (.aload_n 0, 1) := by decide +kernel
theorem dX7_chain_1 : decode cX7_chain 1 = .ok (.iconst 0, 1) := by decide +kernel
theorem dX7_chain_2 : decode cX7_chain 2 = .ok (.putfield 62, 3) := by decide +kernel
theorem dX7_chain_5 : decode cX7_chain 5 = .ok (.aload_n 0, 1) := by decide +kernel
theorem dX7_chain_6 : decode cX7_chain 6 = .ok (.iload_n 1, 1) := by decide +kernel
theorem dX7_chain_7 : decode cX7_chain 7 = .ok (.invokevirtual 189, 3) := by decide +kernel
theorem dX7_chain_10 : decode cX7_chain 10 = .ok (.ifCond .eq 21, 3) := by decide +kernel
theorem dX7_chain_13 : decode cX7_chain 13 = .ok (.aload_n 0, 1) := by decide +kernel
theorem dX7_chain_14 : decode cX7_chain 14 = .ok (.iload_n 2, 1) := by decide +kernel
theorem dX7_chain_15 : decode cX7_chain 15 = .ok (.invokevirtual 189, 3) := by decide +kernel
theorem dX7_chain_18 : decode cX7_chain 18 = .ok (.ifCond .eq 13, 3) := by decide +kernel
theorem dX7_chain_21 : decode cX7_chain 21 = .ok (.iload_n 1, 1) := by decide +kernel
theorem dX7_chain_22 : decode cX7_chain 22 = .ok (.iload_n 2, 1) := by decide +kernel
theorem dX7_chain_23 : decode cX7_chain 23 = .ok (.if_icmp .eq 8, 3) := by decide +kernel
theorem dX7_chain_26 : decode cX7_chain 26 = .ok (.iload_n 3, 1) := by decide +kernel
theorem dX7_chain_27 : decode cX7_chain 27 = .ok (.iconst (-1), 1) := by decide +kernel
theorem dX7_chain_28 : decode cX7_chain 28 = .ok (.if_icmp .ge 7, 3) := by decide +kernel
theorem dX7_chain_31 : decode cX7_chain 31 = .ok (.ldc2_w 83, 3) := by decide +kernel
theorem dX7_chain_34 : decode cX7_chain 34 = .ok (.lreturn, 1) := by decide +kernel
theorem dX7_chain_35 : decode cX7_chain 35 = .ok (.iload_n 3, 1) := by decide +kernel
theorem dX7_chain_36 : decode cX7_chain 36 = .ok (.iconst (-1), 1) := by decide +kernel
theorem dX7_chain_37 : decode cX7_chain 37 = .ok (.if_icmp .ne 104, 3) := by decide +kernel
theorem dX7_chain_40 : decode cX7_chain 40 = .ok (.iconst 1, 1) := by decide +kernel
theorem dX7_chain_41 : decode cX7_chain 41 = .ok (.iload_n 1, 1) := by decide +kernel
theorem dX7_chain_42 : decode cX7_chain 42 = .ok (.ishl, 1) := by decide +kernel
theorem dX7_chain_43 : decode cX7_chain 43 = .ok (.iconst 1, 1) := by decide +kernel
theorem dX7_chain_44 : decode cX7_chain 44 = .ok (.iload_n 2, 1) := by decide +kernel
theorem dX7_chain_45 : decode cX7_chain 45 = .ok (.ishl, 1) := by decide +kernel
theorem dX7_chain_46 : decode cX7_chain 46 = .ok (.ior, 1) := by decide +kernel
theorem dX7_chain_47 : decode cX7_chain 47 = .ok (.istore 4, 2) := by decide +kernel
theorem dX7_chain_49 : decode cX7_chain 49 = .ok (.aload_n 0, 1) := by decide +kernel
theorem dX7_chain_50 : decode cX7_chain 50 = .ok (.iload 4, 2) := by decide +kernel
theorem dX7_chain_52 : decode cX7_chain 52 = .ok (.invokevirtual 247, 3) := by decide +kernel
theorem dX7_chain_55 : decode cX7_chain 55 = .ok (.iconst 0, 1) := by decide +kernel
theorem dX7_chain_56 : decode cX7_chain 56 = .ok (.istore 5, 2) := by decide +kernel
theorem dX7_chain_58 : decode cX7_chain 58 = .ok (.iconst 0, 1) := by decide +kernel
theorem dX7_chain_59 : decode cX7_chain 59 = .ok (.istore 6, 2) := by decide +kernel
theorem dX7_chain_61 : decode cX7_chain 61 = .ok (.iconst 0, 1) := by decide +kernel
theorem dX7_chain_62 : decode cX7_chain 62 = .ok (.istore 7, 2) := by decide +kernel
theorem dX7_chain_64 : decode cX7_chain 64 = .ok (.iload 7, 2) := by decide +kernel
theorem dX7_chain_66 : decode cX7_chain 66 = .ok (.aload_n 0, 1) := by decide +kernel
theorem dX7_chain_67 : decode cX7_chain 67 = .ok (.getfield 179, 3) := by decide +kernel
theorem dX7_chain_70 : decode cX7_chain 70 = .ok (.if_icmp .ge 54, 3) := by decide +kernel
theorem dX7_chain_73 : decode cX7_chain 73 = .ok (.aload_n 0, 1) := by decide +kernel
theorem dX7_chain_74 : decode cX7_chain 74 = .ok (.iload 4, 2) := by decide +kernel
theorem dX7_chain_76 : decode cX7_chain 76 = .ok (.iload 7, 2) := by decide +kernel
theorem dX7_chain_78 : decode cX7_chain 78 = .ok (.invokevirtual 211, 3) := by decide +kernel
theorem dX7_chain_81 : decode cX7_chain 81 = .ok (.istore 8, 2) := by decide +kernel
theorem dX7_chain_83 : decode cX7_chain 83 = .ok (.iload 5, 2) := by decide +kernel
theorem dX7_chain_85 : decode cX7_chain 85 = .ok (.iload 8, 2) := by decide +kernel
theorem dX7_chain_87 : decode cX7_chain 87 = .ok (.iconst 1, 1) := by decide +kernel
theorem dX7_chain_88 : decode cX7_chain 88 = .ok (.iload_n 1, 1) := by decide +kernel
theorem dX7_chain_89 : decode cX7_chain 89 = .ok (.ishl, 1) := by decide +kernel
theorem dX7_chain_90 : decode cX7_chain 90 = .ok (.if_icmp .ne 7, 3) := by decide +kernel
theorem dX7_chain_93 : decode cX7_chain 93 = .ok (.iconst 1, 1) := by decide +kernel
theorem dX7_chain_94 : decode cX7_chain 94 = .ok (.goto 4, 3) := by decide +kernel
theorem dX7_chain_97 : decode cX7_chain 97 = .ok (.iconst 0, 1) := by decide +kernel
theorem dX7_chain_98 : decode cX7_chain 98 = .ok (.iadd, 1) := by decide +kernel
theorem dX7_chain_99 : decode cX7_chain 99 = .ok (.istore 5, 2) := by decide +kernel
theorem dX7_chain_101 : decode cX7_chain 101 = .ok (.iload 6, 2) := by decide +kernel
theorem dX7_chain_103 : decode cX7_chain 103 = .ok (.iload 8, 2) := by decide +kernel
theorem dX7_chain_105 : decode cX7_chain 105 = .ok (.iload 4, 2) := by decide +kernel
theorem dX7_chain_107 : decode cX7_chain 107 = .ok (.if_icmp .ne 7, 3) := by decide +kernel
theorem dX7_chain_110 : decode cX7_chain 110 = .ok (.iconst 1, 1) := by decide +kernel
theorem dX7_chain_111 : decode cX7_chain 111 = .ok (.goto 4, 3) := by decide +kernel
theorem dX7_chain_114 : decode cX7_chain 114 = .ok (.iconst 0, 1) := by decide +kernel
theorem dX7_chain_115 : decode cX7_chain 115 = .ok (.iadd, 1) := by decide +kernel
theorem dX7_chain_116 : decode cX7_chain 116 = .ok (.istore 6, 2) := by decide +kernel
theorem dX7_chain_118 : decode cX7_chain 118 = .ok (.iinc 7 1, 3) := by decide +kernel
theorem dX7_chain_121 : decode cX7_chain 121 = .ok (.goto (-57), 3) := by decide +kernel
theorem dX7_chain_124 : decode cX7_chain 124 = .ok (.iconst 2, 1) := by decide +kernel
theorem dX7_chain_125 : decode cX7_chain 125 = .ok (.iload 5, 2) := by decide +kernel
theorem dX7_chain_127 : decode cX7_chain 127 = .ok (.imul, 1) := by decide +kernel
theorem dX7_chain_128 : decode cX7_chain 128 = .ok (.iload 6, 2) := by decide +kernel
theorem dX7_chain_130 : decode cX7_chain 130 = .ok (.ifCond .le 7, 3) := by decide +kernel
theorem dX7_chain_133 : decode cX7_chain 133 = .ok (.iconst 1, 1) := by decide +kernel
theorem dX7_chain_134 : decode cX7_chain 134 = .ok (.goto 4, 3) := by decide +kernel
theorem dX7_chain_137 : decode cX7_chain 137 = .ok (.iconst 0, 1) := by decide +kernel
theorem dX7_chain_138 : decode cX7_chain 138 = .ok (.iadd, 1) := by decide +kernel
theorem dX7_chain_139 : decode cX7_chain 139 = .ok (.i2l, 1) := by decide +kernel
theorem dX7_chain_140 : decode cX7_chain 140 = .ok (.lreturn, 1) := by decide +kernel
theorem dX7_chain_141 : decode cX7_chain 141 = .ok (.iconst 0, 1) := by decide +kernel
theorem dX7_chain_142 : decode cX7_chain 142 = .ok (.istore 4, 2) := by decide +kernel
theorem dX7_chain_144 : decode cX7_chain 144 = .ok (.iload 4, 2) := by decide +kernel
theorem dX7_chain_146 : decode cX7_chain 146 = .ok (.aload_n 0, 1) := by decide +kernel
theorem dX7_chain_147 : decode cX7_chain 147 = .ok (.getfield 179, 3) := by decide +kernel
theorem dX7_chain_150 : decode cX7_chain 150 = .ok (.if_icmp .ge 70, 3) := by decide +kernel
theorem dX7_chain_153 : decode cX7_chain 153 = .ok (.iconst 0, 1) := by decide +kernel
theorem dX7_chain_154 : decode cX7_chain 154 = .ok (.istore 5, 2) := by decide +kernel
theorem dX7_chain_156 : decode cX7_chain 156 = .ok (.iconst 0, 1) := by decide +kernel
theorem dX7_chain_157 : decode cX7_chain 157 = .ok (.istore 6, 2) := by decide +kernel
theorem dX7_chain_159 : decode cX7_chain 159 = .ok (.iload 6, 2) := by decide +kernel
theorem dX7_chain_161 : decode cX7_chain 161 = .ok (.aload_n 0, 1) := by decide +kernel
theorem dX7_chain_162 : decode cX7_chain 162 = .ok (.getfield 179, 3) := by decide +kernel
theorem dX7_chain_165 : decode cX7_chain 165 = .ok (.if_icmp .ge 39, 3) := by decide +kernel
theorem dX7_chain_168 : decode cX7_chain 168 = .ok (.iload 5, 2) := by decide +kernel
theorem dX7_chain_170 : decode cX7_chain 170 = .ok (.iload 6, 2) := by decide +kernel
theorem dX7_chain_172 : decode cX7_chain 172 = .ok (.iload 4, 2) := by decide +kernel
theorem dX7_chain_174 : decode cX7_chain 174 = .ok (.if_icmp .eq 20, 3) := by decide +kernel
theorem dX7_chain_177 : decode cX7_chain 177 = .ok (.aload_n 0, 1) := by decide +kernel
theorem dX7_chain_178 : decode cX7_chain 178 = .ok (.iload_n 1, 1) := by decide +kernel
theorem dX7_chain_179 : decode cX7_chain 179 = .ok (.iload_n 2, 1) := by decide +kernel
theorem dX7_chain_180 : decode cX7_chain 180 = .ok (.iload 6, 2) := by decide +kernel
theorem dX7_chain_182 : decode cX7_chain 182 = .ok (.iload 4, 2) := by decide +kernel
theorem dX7_chain_184 : decode cX7_chain 184 = .ok (.invokevirtual 269, 3) := by decide +kernel
theorem dX7_chain_187 : decode cX7_chain 187 = .ok (.ifCond .eq 7, 3) := by decide +kernel
theorem dX7_chain_190 : decode cX7_chain 190 = .ok (.iconst 1, 1) := by decide +kernel
theorem dX7_chain_191 : decode cX7_chain 191 = .ok (.goto 4, 3) := by decide +kernel
theorem dX7_chain_194 : decode cX7_chain 194 = .ok (.iconst 0, 1) := by decide +kernel
theorem dX7_chain_195 : decode cX7_chain 195 = .ok (.iadd, 1) := by decide +kernel
theorem dX7_chain_196 : decode cX7_chain 196 = .ok (.istore 5, 2) := by decide +kernel
theorem dX7_chain_198 : decode cX7_chain 198 = .ok (.iinc 6 1, 3) := by decide +kernel
theorem dX7_chain_201 : decode cX7_chain 201 = .ok (.goto (-42), 3) := by decide +kernel
theorem dX7_chain_204 : decode cX7_chain 204 = .ok (.iload 5, 2) := by decide +kernel
theorem dX7_chain_206 : decode cX7_chain 206 = .ok (.iload_n 3, 1) := by decide +kernel
theorem dX7_chain_207 : decode cX7_chain 207 = .ok (.if_icmp .ne 7, 3) := by decide +kernel
theorem dX7_chain_210 : decode cX7_chain 210 = .ok (.iload 4, 2) := by decide +kernel
theorem dX7_chain_212 : decode cX7_chain 212 = .ok (.i2l, 1) := by decide +kernel
theorem dX7_chain_213 : decode cX7_chain 213 = .ok (.lreturn, 1) := by decide +kernel
theorem dX7_chain_214 : decode cX7_chain 214 = .ok (.iinc 4 1, 3) := by decide +kernel
theorem dX7_chain_217 : decode cX7_chain 217 = .ok (.goto (-73), 3) := by decide +kernel
theorem dX7_chain_220 : decode cX7_chain 220 = .ok (.ldc2_w 272, 3) := by decide +kernel
theorem dX7_chain_223 : decode cX7_chain 223 = .ok (.lreturn, 1) := by decide +kernel
theorem dX7_gives_0 : decode cX7_gives 0 = .ok (.ldc 101, 2) := by decide +kernel
theorem dX7_gives_2 : decode cX7_gives 2 = .ok (.istore 4, 2) := by decide +kernel
theorem dX7_gives_4 : decode cX7_gives 4 = .ok (.iconst 0, 1) := by decide +kernel
theorem dX7_gives_5 : decode cX7_gives 5 = .ok (.istore 5, 2) := by decide +kernel
theorem dX7_gives_7 : decode cX7_gives 7 = .ok (.iload 5, 2) := by decide +kernel
theorem dX7_gives_9 : decode cX7_gives 9 = .ok (.aload_n 0, 1) := by decide +kernel
theorem dX7_gives_10 : decode cX7_gives 10 = .ok (.getfield 179, 3) := by decide +kernel
theorem dX7_gives_13 : decode cX7_gives 13 = .ok (.if_icmp .ge 95, 3) := by decide +kernel
theorem dX7_gives_16 : decode cX7_gives 16 = .ok (.aload_n 0, 1) := by decide +kernel
theorem dX7_gives_17 : decode cX7_gives 17 = .ok (.aload_n 0, 1) := by decide +kernel
theorem dX7_gives_18 : decode cX7_gives 18 = .ok (.getfield 16, 3) := by decide +kernel
theorem dX7_gives_21 : decode cX7_gives 21 = .ok (.iload_n 1, 1) := by decide +kernel
theorem dX7_gives_22 : decode cX7_gives 22 = .ok (.iload 5, 2) := by decide +kernel
theorem dX7_gives_24 : decode cX7_gives 24 = .ok (.iadd, 1) := by decide +kernel
theorem dX7_gives_25 : decode cX7_gives 25 = .ok (.iaload, 1) := by decide +kernel
theorem dX7_gives_26 : decode cX7_gives 26 = .ok (.iload_n 2, 1) := by decide +kernel
theorem dX7_gives_27 : decode cX7_gives 27 = .ok (.invokevirtual 197, 3) := by decide +kernel
theorem dX7_gives_30 : decode cX7_gives 30 = .ok (.ifCond .eq 72, 3) := by decide +kernel
theorem dX7_gives_33 : decode cX7_gives 33 = .ok (.iload 4, 2) := by decide +kernel
theorem dX7_gives_35 : decode cX7_gives 35 = .ok (.ldc 101, 2) := by decide +kernel
theorem dX7_gives_37 : decode cX7_gives 37 = .ok (.if_icmp .eq 56, 3) := by decide +kernel
theorem dX7_gives_40 : decode cX7_gives 40 = .ok (.aload_n 0, 1) := by decide +kernel
theorem dX7_gives_41 : decode cX7_gives 41 = .ok (.getfield 25, 3) := by decide +kernel
theorem dX7_gives_44 : decode cX7_gives 44 = .ok (.bipush 6, 2) := by decide +kernel
theorem dX7_gives_46 : decode cX7_gives 46 = .ok (.iload_n 3, 1) := by decide +kernel
theorem dX7_gives_47 : decode cX7_gives 47 = .ok (.imul, 1) := by decide +kernel
theorem dX7_gives_48 : decode cX7_gives 48 = .ok (.iload 5, 2) := by decide +kernel
theorem dX7_gives_50 : decode cX7_gives 50 = .ok (.iadd, 1) := by decide +kernel
theorem dX7_gives_51 : decode cX7_gives 51 = .ok (.iaload, 1) := by decide +kernel
theorem dX7_gives_52 : decode cX7_gives 52 = .ok (.aload_n 0, 1) := by decide +kernel
theorem dX7_gives_53 : decode cX7_gives 53 = .ok (.getfield 25, 3) := by decide +kernel
theorem dX7_gives_56 : decode cX7_gives 56 = .ok (.bipush 6, 2) := by decide +kernel
theorem dX7_gives_58 : decode cX7_gives 58 = .ok (.iload_n 2, 1) := by decide +kernel
theorem dX7_gives_59 : decode cX7_gives 59 = .ok (.imul, 1) := by decide +kernel
theorem dX7_gives_60 : decode cX7_gives 60 = .ok (.iload 4, 2) := by decide +kernel
theorem dX7_gives_62 : decode cX7_gives 62 = .ok (.iadd, 1) := by decide +kernel
theorem dX7_gives_63 : decode cX7_gives 63 = .ok (.iaload, 1) := by decide +kernel
theorem dX7_gives_64 : decode cX7_gives 64 = .ok (.imul, 1) := by decide +kernel
theorem dX7_gives_65 : decode cX7_gives 65 = .ok (.aload_n 0, 1) := by decide +kernel
theorem dX7_gives_66 : decode cX7_gives 66 = .ok (.getfield 25, 3) := by decide +kernel
theorem dX7_gives_69 : decode cX7_gives 69 = .ok (.bipush 6, 2) := by decide +kernel
theorem dX7_gives_71 : decode cX7_gives 71 = .ok (.iload_n 3, 1) := by decide +kernel
theorem dX7_gives_72 : decode cX7_gives 72 = .ok (.imul, 1) := by decide +kernel
theorem dX7_gives_73 : decode cX7_gives 73 = .ok (.iload 4, 2) := by decide +kernel
theorem dX7_gives_75 : decode cX7_gives 75 = .ok (.iadd, 1) := by decide +kernel
theorem dX7_gives_76 : decode cX7_gives 76 = .ok (.iaload, 1) := by decide +kernel
theorem dX7_gives_77 : decode cX7_gives 77 = .ok (.aload_n 0, 1) := by decide +kernel
theorem dX7_gives_78 : decode cX7_gives 78 = .ok (.getfield 25, 3) := by decide +kernel
theorem dX7_gives_81 : decode cX7_gives 81 = .ok (.bipush 6, 2) := by decide +kernel
theorem dX7_gives_83 : decode cX7_gives 83 = .ok (.iload_n 2, 1) := by decide +kernel
theorem dX7_gives_84 : decode cX7_gives 84 = .ok (.imul, 1) := by decide +kernel
theorem dX7_gives_85 : decode cX7_gives 85 = .ok (.iload 5, 2) := by decide +kernel
theorem dX7_gives_87 : decode cX7_gives 87 = .ok (.iadd, 1) := by decide +kernel
theorem dX7_gives_88 : decode cX7_gives 88 = .ok (.iaload, 1) := by decide +kernel
theorem dX7_gives_89 : decode cX7_gives 89 = .ok (.imul, 1) := by decide +kernel
theorem dX7_gives_90 : decode cX7_gives 90 = .ok (.if_icmp .ge 8, 3) := by decide +kernel
theorem dX7_gives_93 : decode cX7_gives 93 = .ok (.iload 5, 2) := by decide +kernel
theorem dX7_gives_95 : decode cX7_gives 95 = .ok (.goto 5, 3) := by decide +kernel
theorem dX7_gives_98 : decode cX7_gives 98 = .ok (.iload 4, 2) := by decide +kernel
theorem dX7_gives_100 : decode cX7_gives 100 = .ok (.istore 4, 2) := by decide +kernel
theorem dX7_gives_102 : decode cX7_gives 102 = .ok (.iinc 5 1, 3) := by decide +kernel
theorem dX7_gives_105 : decode cX7_gives 105 = .ok (.goto (-98), 3) := by decide +kernel
theorem dX7_gives_108 : decode cX7_gives 108 = .ok (.iload 4, 2) := by decide +kernel
theorem dX7_gives_110 : decode cX7_gives 110 = .ok (.ldc 101, 2) := by decide +kernel
theorem dX7_gives_112 : decode cX7_gives 112 = .ok (.if_icmp .ne 5, 3) := by decide +kernel
theorem dX7_gives_115 : decode cX7_gives 115 = .ok (.iconst 0, 1) := by decide +kernel
theorem dX7_gives_116 : decode cX7_gives 116 = .ok (.ireturn, 1) := by decide +kernel
theorem dX7_gives_117 : decode cX7_gives 117 = .ok (.aload_n 0, 1) := by decide +kernel
theorem dX7_gives_118 : decode cX7_gives 118 = .ok (.dup, 1) := by decide +kernel
theorem dX7_gives_119 : decode cX7_gives 119 = .ok (.getfield 274, 3) := by decide +kernel
theorem dX7_gives_122 : decode cX7_gives 122 = .ok (.aload_n 0, 1) := by decide +kernel
theorem dX7_gives_123 : decode cX7_gives 123 = .ok (.getfield 25, 3) := by decide +kernel
theorem dX7_gives_126 : decode cX7_gives 126 = .ok (.bipush 6, 2) := by decide +kernel
theorem dX7_gives_128 : decode cX7_gives 128 = .ok (.iload_n 3, 1) := by decide +kernel
theorem dX7_gives_129 : decode cX7_gives 129 = .ok (.imul, 1) := by decide +kernel
theorem dX7_gives_130 : decode cX7_gives 130 = .ok (.iload 4, 2) := by decide +kernel
theorem dX7_gives_132 : decode cX7_gives 132 = .ok (.iadd, 1) := by decide +kernel
theorem dX7_gives_133 : decode cX7_gives 133 = .ok (.iaload, 1) := by decide +kernel
theorem dX7_gives_134 : decode cX7_gives 134 = .ok (.i2l, 1) := by decide +kernel
theorem dX7_gives_135 : decode cX7_gives 135 = .ok (.lmul, 1) := by decide +kernel
theorem dX7_gives_136 : decode cX7_gives 136 = .ok (.putfield 274, 3) := by decide +kernel
theorem dX7_gives_139 : decode cX7_gives 139 = .ok (.aload_n 0, 1) := by decide +kernel
theorem dX7_gives_140 : decode cX7_gives 140 = .ok (.dup, 1) := by decide +kernel
theorem dX7_gives_141 : decode cX7_gives 141 = .ok (.getfield 278, 3) := by decide +kernel
theorem dX7_gives_144 : decode cX7_gives 144 = .ok (.aload_n 0, 1) := by decide +kernel
theorem dX7_gives_145 : decode cX7_gives 145 = .ok (.getfield 25, 3) := by decide +kernel
theorem dX7_gives_148 : decode cX7_gives 148 = .ok (.bipush 6, 2) := by decide +kernel
theorem dX7_gives_150 : decode cX7_gives 150 = .ok (.iload_n 2, 1) := by decide +kernel
theorem dX7_gives_151 : decode cX7_gives 151 = .ok (.imul, 1) := by decide +kernel
theorem dX7_gives_152 : decode cX7_gives 152 = .ok (.iload 4, 2) := by decide +kernel
theorem dX7_gives_154 : decode cX7_gives 154 = .ok (.iadd, 1) := by decide +kernel
theorem dX7_gives_155 : decode cX7_gives 155 = .ok (.iaload, 1) := by decide +kernel
theorem dX7_gives_156 : decode cX7_gives 156 = .ok (.i2l, 1) := by decide +kernel
theorem dX7_gives_157 : decode cX7_gives 157 = .ok (.lmul, 1) := by decide +kernel
theorem dX7_gives_158 : decode cX7_gives 158 = .ok (.putfield 278, 3) := by decide +kernel
theorem dX7_gives_161 : decode cX7_gives 161 = .ok (.iconst 1, 1) := by decide +kernel
theorem dX7_gives_162 : decode cX7_gives 162 = .ok (.ireturn, 1) := by decide +kernel
theorem dX7_isRing_0 : decode cX7_isRing 0 = .ok (.aload_n 0, 1) := by decide +kernel
theorem dX7_isRing_1 : decode cX7_isRing 1 = .ok (.lconst 1, 1) := by decide +kernel
theorem dX7_isRing_2 : decode cX7_isRing 2 = .ok (.putfield 274, 3) := by decide +kernel
theorem dX7_isRing_5 : decode cX7_isRing 5 = .ok (.aload_n 0, 1) := by decide +kernel
theorem dX7_isRing_6 : decode cX7_isRing 6 = .ok (.lconst 1, 1) := by decide +kernel
theorem dX7_isRing_7 : decode cX7_isRing 7 = .ok (.putfield 278, 3) := by decide +kernel
theorem dX7_isRing_10 : decode cX7_isRing 10 = .ok (.aload_n 0, 1) := by decide +kernel
theorem dX7_isRing_11 : decode cX7_isRing 11 = .ok (.iload_n 1, 1) := by decide +kernel
theorem dX7_isRing_12 : decode cX7_isRing 12 = .ok (.iload_n 2, 1) := by decide +kernel
theorem dX7_isRing_13 : decode cX7_isRing 13 = .ok (.iload_n 3, 1) := by decide +kernel
theorem dX7_isRing_14 : decode cX7_isRing 14 = .ok (.invokevirtual 281, 3) := by decide +kernel
theorem dX7_isRing_17 : decode cX7_isRing 17 = .ok (.ifCond .eq 49, 3) := by decide +kernel
theorem dX7_isRing_20 : decode cX7_isRing 20 = .ok (.iload 4, 2) := by decide +kernel
theorem dX7_isRing_22 : decode cX7_isRing 22 = .ok (.ldc 101, 2) := by decide +kernel
theorem dX7_isRing_24 : decode cX7_isRing 24 = .ok (.if_icmp .ne 16, 3) := by decide +kernel
theorem dX7_isRing_27 : decode cX7_isRing 27 = .ok (.aload_n 0, 1) := by decide +kernel
theorem dX7_isRing_28 : decode cX7_isRing 28 = .ok (.iload_n 1, 1) := by decide +kernel
theorem dX7_isRing_29 : decode cX7_isRing 29 = .ok (.iload_n 3, 1) := by decide +kernel
theorem dX7_isRing_30 : decode cX7_isRing 30 = .ok (.iload_n 2, 1) := by decide +kernel
theorem dX7_isRing_31 : decode cX7_isRing 31 = .ok (.invokevirtual 281, 3) := by decide +kernel
theorem dX7_isRing_34 : decode cX7_isRing 34 = .ok (.ifCond .eq 32, 3) := by decide +kernel
theorem dX7_isRing_37 : decode cX7_isRing 37 = .ok (.goto 25, 3) := by decide +kernel
theorem dX7_isRing_40 : decode cX7_isRing 40 = .ok (.aload_n 0, 1) := by decide +kernel
theorem dX7_isRing_41 : decode cX7_isRing 41 = .ok (.iload_n 1, 1) := by decide +kernel
theorem dX7_isRing_42 : decode cX7_isRing 42 = .ok (.iload_n 3, 1) := by decide +kernel
theorem dX7_isRing_43 : decode cX7_isRing 43 = .ok (.iload 4, 2) := by decide +kernel
theorem dX7_isRing_45 : decode cX7_isRing 45 = .ok (.invokevirtual 281, 3) := by decide +kernel
theorem dX7_isRing_48 : decode cX7_isRing 48 = .ok (.ifCond .eq 18, 3) := by decide +kernel
theorem dX7_isRing_51 : decode cX7_isRing 51 = .ok (.aload_n 0, 1) := by decide +kernel
theorem dX7_isRing_52 : decode cX7_isRing 52 = .ok (.iload_n 1, 1) := by decide +kernel
theorem dX7_isRing_53 : decode cX7_isRing 53 = .ok (.iload 4, 2) := by decide +kernel
theorem dX7_isRing_55 : decode cX7_isRing 55 = .ok (.iload_n 2, 1) := by decide +kernel
theorem dX7_isRing_56 : decode cX7_isRing 56 = .ok (.invokevirtual 281, 3) := by decide +kernel
theorem dX7_isRing_59 : decode cX7_isRing 59 = .ok (.ifCond .eq 7, 3) := by decide +kernel
theorem dX7_isRing_62 : decode cX7_isRing 62 = .ok (.iconst 1, 1) := by decide +kernel
theorem dX7_isRing_63 : decode cX7_isRing 63 = .ok (.goto 4, 3) := by decide +kernel
theorem dX7_isRing_66 : decode cX7_isRing 66 = .ok (.iconst 0, 1) := by decide +kernel
theorem dX7_isRing_67 : decode cX7_isRing 67 = .ok (.istore 5, 2) := by decide +kernel
theorem dX7_isRing_69 : decode cX7_isRing 69 = .ok (.iload 5, 2) := by decide +kernel
theorem dX7_isRing_71 : decode cX7_isRing 71 = .ok (.ifCond .eq 19, 3) := by decide +kernel
theorem dX7_isRing_74 : decode cX7_isRing 74 = .ok (.aload_n 0, 1) := by decide +kernel
theorem dX7_isRing_75 : decode cX7_isRing 75 = .ok (.getfield 274, 3) := by decide +kernel
theorem dX7_isRing_78 : decode cX7_isRing 78 = .ok (.aload_n 0, 1) := by decide +kernel
theorem dX7_isRing_79 : decode cX7_isRing 79 = .ok (.getfield 278, 3) := by decide +kernel
theorem dX7_isRing_82 : decode cX7_isRing 82 = .ok (.lcmp, 1) := by decide +kernel
theorem dX7_isRing_83 : decode cX7_isRing 83 = .ok (.ifCond .ge 7, 3) := by decide +kernel
theorem dX7_isRing_86 : decode cX7_isRing 86 = .ok (.iconst 1, 1) := by decide +kernel
theorem dX7_isRing_87 : decode cX7_isRing 87 = .ok (.goto 4, 3) := by decide +kernel
theorem dX7_isRing_90 : decode cX7_isRing 90 = .ok (.iconst 0, 1) := by decide +kernel
theorem dX7_isRing_91 : decode cX7_isRing 91 = .ok (.ireturn, 1) := by decide +kernel
theorem dX7_more_0 : decode cX7_more 0 = .ok (.aload_n 0, 1) := by decide +kernel
theorem dX7_more_1 : decode cX7_more 1 = .ok (.iconst 0, 1) := by decide +kernel
theorem dX7_more_2 : decode cX7_more 2 = .ok (.putfield 62, 3) := by decide +kernel
theorem dX7_more_5 : decode cX7_more 5 = .ok (.iload_n 1, 1) := by decide +kernel
theorem dX7_more_6 : decode cX7_more 6 = .ok (.invokestatic 77, 3) := by decide +kernel
theorem dX7_more_9 : decode cX7_more 9 = .ok (.ifCond .ne 7, 3) := by decide +kernel
theorem dX7_more_12 : decode cX7_more 12 = .ok (.ldc2_w 83, 3) := by decide +kernel
theorem dX7_more_15 : decode cX7_more 15 = .ok (.lreturn, 1) := by decide +kernel
theorem dX7_more_16 : decode cX7_more 16 = .ok (.aload_n 0, 1) := by decide +kernel
theorem dX7_more_17 : decode cX7_more 17 = .ok (.getfield 176, 3) := by decide +kernel
theorem dX7_more_20 : decode cX7_more 20 = .ok (.ifCond .ne 7, 3) := by decide +kernel
theorem dX7_more_23 : decode cX7_more 23 = .ok (.ldc2_w 261, 3) := by decide +kernel
theorem dX7_more_26 : decode cX7_more 26 = .ok (.lreturn, 1) := by decide +kernel
theorem dX7_more_27 : decode cX7_more 27 = .ok (.aload_n 0, 1) := by decide +kernel
theorem dX7_more_28 : decode cX7_more 28 = .ok (.iload_n 1, 1) := by decide +kernel
theorem dX7_more_29 : decode cX7_more 29 = .ok (.iload_n 2, 1) := by decide +kernel
theorem dX7_more_30 : decode cX7_more 30 = .ok (.aload_n 0, 1) := by decide +kernel
theorem dX7_more_31 : decode cX7_more 31 = .ok (.getfield 179, 3) := by decide +kernel
theorem dX7_more_34 : decode cX7_more 34 = .ok (.invokevirtual 263, 3) := by decide +kernel
theorem dX7_more_37 : decode cX7_more 37 = .ok (.lstore_n 3, 1) := by decide +kernel
theorem dX7_more_38 : decode cX7_more 38 = .ok (.lload_n 3, 1) := by decide +kernel
theorem dX7_more_39 : decode cX7_more 39 = .ok (.lconst 0, 1) := by decide +kernel
theorem dX7_more_40 : decode cX7_more 40 = .ok (.lcmp, 1) := by decide +kernel
theorem dX7_more_41 : decode cX7_more 41 = .ok (.ifCond .ge 5, 3) := by decide +kernel
theorem dX7_more_44 : decode cX7_more 44 = .ok (.lload_n 3, 1) := by decide +kernel
theorem dX7_more_45 : decode cX7_more 45 = .ok (.lreturn, 1) := by decide +kernel
theorem dX7_more_46 : decode cX7_more 46 = .ok (.bipush 40, 2) := by decide +kernel
theorem dX7_more_48 : decode cX7_more 48 = .ok (.iload_n 1, 1) := by decide +kernel
theorem dX7_more_49 : decode cX7_more 49 = .ok (.imul, 1) := by decide +kernel
theorem dX7_more_50 : decode cX7_more 50 = .ok (.iload_n 2, 1) := by decide +kernel
theorem dX7_more_51 : decode cX7_more 51 = .ok (.iadd, 1) := by decide +kernel
theorem dX7_more_52 : decode cX7_more 52 = .ok (.istore 5, 2) := by decide +kernel
theorem dX7_more_54 : decode cX7_more 54 = .ok (.iconst 0, 1) := by decide +kernel
theorem dX7_more_55 : decode cX7_more 55 = .ok (.istore 6, 2) := by decide +kernel
theorem dX7_more_57 : decode cX7_more 57 = .ok (.iload 6, 2) := by decide +kernel
theorem dX7_more_59 : decode cX7_more 59 = .ok (.aload_n 0, 1) := by decide +kernel
theorem dX7_more_60 : decode cX7_more 60 = .ok (.getfield 179, 3) := by decide +kernel
theorem dX7_more_63 : decode cX7_more 63 = .ok (.if_icmp .ge 36, 3) := by decide +kernel
theorem dX7_more_66 : decode cX7_more 66 = .ok (.aload_n 0, 1) := by decide +kernel
theorem dX7_more_67 : decode cX7_more 67 = .ok (.getfield 16, 3) := by decide +kernel
theorem dX7_more_70 : decode cX7_more 70 = .ok (.iload 5, 2) := by decide +kernel
theorem dX7_more_72 : decode cX7_more 72 = .ok (.iload 6, 2) := by decide +kernel
theorem dX7_more_74 : decode cX7_more 74 = .ok (.iadd, 1) := by decide +kernel
theorem dX7_more_75 : decode cX7_more 75 = .ok (.iaload, 1) := by decide +kernel
theorem dX7_more_76 : decode cX7_more 76 = .ok (.i2l, 1) := by decide +kernel
theorem dX7_more_77 : decode cX7_more 77 = .ok (.lconst 1, 1) := by decide +kernel
theorem dX7_more_78 : decode cX7_more 78 = .ok (.aload_n 0, 1) := by decide +kernel
theorem dX7_more_79 : decode cX7_more 79 = .ok (.invokevirtual 244, 3) := by decide +kernel
theorem dX7_more_82 : decode cX7_more 82 = .ok (.i2l, 1) := by decide +kernel
theorem dX7_more_83 : decode cX7_more 83 = .ok (.invokestatic 73, 3) := by decide +kernel
theorem dX7_more_86 : decode cX7_more 86 = .ok (.ifCond .ne 7, 3) := by decide +kernel
theorem dX7_more_89 : decode cX7_more 89 = .ok (.ldc2_w 83, 3) := by decide +kernel
theorem dX7_more_92 : decode cX7_more 92 = .ok (.lreturn, 1) := by decide +kernel
theorem dX7_more_93 : decode cX7_more 93 = .ok (.iinc 6 1, 3) := by decide +kernel
theorem dX7_more_96 : decode cX7_more 96 = .ok (.goto (-39), 3) := by decide +kernel
theorem dX7_more_99 : decode cX7_more 99 = .ok (.aload_n 0, 1) := by decide +kernel
theorem dX7_more_100 : decode cX7_more 100 = .ok (.iconst 0, 1) := by decide +kernel
theorem dX7_more_101 : decode cX7_more 101 = .ok (.putfield 66, 3) := by decide +kernel
theorem dX7_more_104 : decode cX7_more 104 = .ok (.iconst 1, 1) := by decide +kernel
theorem dX7_more_105 : decode cX7_more 105 = .ok (.istore 6, 2) := by decide +kernel
theorem dX7_more_107 : decode cX7_more 107 = .ok (.iload 6, 2) := by decide +kernel
theorem dX7_more_109 : decode cX7_more 109 = .ok (.aload_n 0, 1) := by decide +kernel
theorem dX7_more_110 : decode cX7_more 110 = .ok (.getfield 176, 3) := by decide +kernel
theorem dX7_more_113 : decode cX7_more 113 = .ok (.if_icmp .ge 54, 3) := by decide +kernel
theorem dX7_more_116 : decode cX7_more 116 = .ok (.iconst 0, 1) := by decide +kernel
theorem dX7_more_117 : decode cX7_more 117 = .ok (.istore 7, 2) := by decide +kernel
theorem dX7_more_119 : decode cX7_more 119 = .ok (.iload 7, 2) := by decide +kernel
theorem dX7_more_121 : decode cX7_more 121 = .ok (.iload 6, 2) := by decide +kernel
theorem dX7_more_123 : decode cX7_more 123 = .ok (.if_icmp .ge 38, 3) := by decide +kernel
theorem dX7_more_126 : decode cX7_more 126 = .ok (.aload_n 0, 1) := by decide +kernel
theorem dX7_more_127 : decode cX7_more 127 = .ok (.iload 5, 2) := by decide +kernel
theorem dX7_more_129 : decode cX7_more 129 = .ok (.iload 7, 2) := by decide +kernel
theorem dX7_more_131 : decode cX7_more 131 = .ok (.iload 6, 2) := by decide +kernel
theorem dX7_more_133 : decode cX7_more 133 = .ok (.ldc 101, 2) := by decide +kernel
theorem dX7_more_135 : decode cX7_more 135 = .ok (.invokevirtual 284, 3) := by decide +kernel
theorem dX7_more_138 : decode cX7_more 138 = .ok (.ifCond .eq 17, 3) := by decide +kernel
theorem dX7_more_141 : decode cX7_more 141 = .ok (.iload 7, 2) := by decide +kernel
theorem dX7_more_143 : decode cX7_more 143 = .ok (.iconst 1, 1) := by decide +kernel
theorem dX7_more_144 : decode cX7_more 144 = .ok (.iadd, 1) := by decide +kernel
theorem dX7_more_145 : decode cX7_more 145 = .ok (.bipush 8, 2) := by decide +kernel
theorem dX7_more_147 : decode cX7_more 147 = .ok (.iload 6, 2) := by decide +kernel
theorem dX7_more_149 : decode cX7_more 149 = .ok (.iconst 1, 1) := by decide +kernel
theorem dX7_more_150 : decode cX7_more 150 = .ok (.iadd, 1) := by decide +kernel
theorem dX7_more_151 : decode cX7_more 151 = .ok (.imul, 1) := by decide +kernel
theorem dX7_more_152 : decode cX7_more 152 = .ok (.iadd, 1) := by decide +kernel
theorem dX7_more_153 : decode cX7_more 153 = .ok (.i2l, 1) := by decide +kernel
theorem dX7_more_154 : decode cX7_more 154 = .ok (.lreturn, 1) := by decide +kernel
theorem dX7_more_155 : decode cX7_more 155 = .ok (.iinc 7 1, 3) := by decide +kernel
theorem dX7_more_158 : decode cX7_more 158 = .ok (.goto (-39), 3) := by decide +kernel
theorem dX7_more_161 : decode cX7_more 161 = .ok (.iinc 6 1, 3) := by decide +kernel
theorem dX7_more_164 : decode cX7_more 164 = .ok (.goto (-57), 3) := by decide +kernel
theorem dX7_more_167 : decode cX7_more 167 = .ok (.aload_n 0, 1) := by decide +kernel
theorem dX7_more_168 : decode cX7_more 168 = .ok (.getfield 176, 3) := by decide +kernel
theorem dX7_more_171 : decode cX7_more 171 = .ok (.iconst 3, 1) := by decide +kernel
theorem dX7_more_172 : decode cX7_more 172 = .ok (.if_icmp .ne 19, 3) := by decide +kernel
theorem dX7_more_175 : decode cX7_more 175 = .ok (.aload_n 0, 1) := by decide +kernel
theorem dX7_more_176 : decode cX7_more 176 = .ok (.iload 5, 2) := by decide +kernel
theorem dX7_more_178 : decode cX7_more 178 = .ok (.iconst 0, 1) := by decide +kernel
theorem dX7_more_179 : decode cX7_more 179 = .ok (.iconst 2, 1) := by decide +kernel
theorem dX7_more_180 : decode cX7_more 180 = .ok (.iconst 1, 1) := by decide +kernel
theorem dX7_more_181 : decode cX7_more 181 = .ok (.invokevirtual 284, 3) := by decide +kernel
theorem dX7_more_184 : decode cX7_more 184 = .ok (.ifCond .eq 7, 3) := by decide +kernel
theorem dX7_more_187 : decode cX7_more 187 = .ok (.ldc2_w 287, 3) := by decide +kernel
theorem dX7_more_190 : decode cX7_more 190 = .ok (.lreturn, 1) := by decide +kernel
theorem dX7_more_191 : decode cX7_more 191 = .ok (.aload_n 0, 1) := by decide +kernel
theorem dX7_more_192 : decode cX7_more 192 = .ok (.getfield 176, 3) := by decide +kernel
theorem dX7_more_195 : decode cX7_more 195 = .ok (.iconst 3, 1) := by decide +kernel
theorem dX7_more_196 : decode cX7_more 196 = .ok (.if_icmp .ne 21, 3) := by decide +kernel
theorem dX7_more_199 : decode cX7_more 199 = .ok (.aload_n 0, 1) := by decide +kernel
theorem dX7_more_200 : decode cX7_more 200 = .ok (.iload 5, 2) := by decide +kernel
theorem dX7_more_202 : decode cX7_more 202 = .ok (.iconst 0, 1) := by decide +kernel
theorem dX7_more_203 : decode cX7_more 203 = .ok (.iconst 1, 1) := by decide +kernel
theorem dX7_more_204 : decode cX7_more 204 = .ok (.iconst 2, 1) := by decide +kernel
theorem dX7_more_205 : decode cX7_more 205 = .ok (.invokevirtual 284, 3) := by decide +kernel
theorem dX7_more_208 : decode cX7_more 208 = .ok (.ifCond .eq 9, 3) := by decide +kernel
theorem dX7_more_211 : decode cX7_more 211 = .ok (.ldc2_w 289, 3) := by decide +kernel
theorem dX7_more_214 : decode cX7_more 214 = .ok (.goto 4, 3) := by decide +kernel
theorem dX7_more_217 : decode cX7_more 217 = .ok (.lconst 0, 1) := by decide +kernel
theorem dX7_more_218 : decode cX7_more 218 = .ok (.lreturn, 1) := by decide +kernel
theorem dX7_stays_0 : decode cX7_stays 0 = .ok (.aload_n 0, 1) := by decide +kernel
theorem dX7_stays_1 : decode cX7_stays 1 = .ok (.iconst 0, 1) := by decide +kernel
theorem dX7_stays_2 : decode cX7_stays 2 = .ok (.putfield 62, 3) := by decide +kernel
theorem dX7_stays_5 : decode cX7_stays 5 = .ok (.aload_n 0, 1) := by decide +kernel
theorem dX7_stays_6 : decode cX7_stays 6 = .ok (.iload_n 1, 1) := by decide +kernel
theorem dX7_stays_7 : decode cX7_stays 7 = .ok (.invokevirtual 189, 3) := by decide +kernel
theorem dX7_stays_10 : decode cX7_stays 10 = .ok (.ifCond .eq 23, 3) := by decide +kernel
theorem dX7_stays_13 : decode cX7_stays 13 = .ok (.aload_n 0, 1) := by decide +kernel
theorem dX7_stays_14 : decode cX7_stays 14 = .ok (.iload_n 2, 1) := by decide +kernel
theorem dX7_stays_15 : decode cX7_stays 15 = .ok (.invokevirtual 192, 3) := by decide +kernel
theorem dX7_stays_18 : decode cX7_stays 18 = .ok (.ifCond .eq 15, 3) := by decide +kernel
theorem dX7_stays_21 : decode cX7_stays 21 = .ok (.iload_n 3, 1) := by decide +kernel
theorem dX7_stays_22 : decode cX7_stays 22 = .ok (.i2l, 1) := by decide +kernel
theorem dX7_stays_23 : decode cX7_stays 23 = .ok (.lconst 0, 1) := by decide +kernel
theorem dX7_stays_24 : decode cX7_stays 24 = .ok (.ldc2_w 291, 3) := by decide +kernel
theorem dX7_stays_27 : decode cX7_stays 27 = .ok (.invokestatic 73, 3) := by decide +kernel
theorem dX7_stays_30 : decode cX7_stays 30 = .ok (.ifCond .ne 7, 3) := by decide +kernel
theorem dX7_stays_33 : decode cX7_stays 33 = .ok (.ldc2_w 83, 3) := by decide +kernel
theorem dX7_stays_36 : decode cX7_stays 36 = .ok (.lreturn, 1) := by decide +kernel
theorem dX7_stays_37 : decode cX7_stays 37 = .ok (.aload_n 0, 1) := by decide +kernel
theorem dX7_stays_38 : decode cX7_stays 38 = .ok (.invokevirtual 254, 3) := by decide +kernel
theorem dX7_stays_41 : decode cX7_stays 41 = .ok (.ldc2_w 293, 3) := by decide +kernel
theorem dX7_stays_44 : decode cX7_stays 44 = .ok (.aload_n 0, 1) := by decide +kernel
theorem dX7_stays_45 : decode cX7_stays 45 = .ok (.iload_n 1, 1) := by decide +kernel
theorem dX7_stays_46 : decode cX7_stays 46 = .ok (.iload_n 2, 1) := by decide +kernel
theorem dX7_stays_47 : decode cX7_stays 47 = .ok (.invokevirtual 201, 3) := by decide +kernel
theorem dX7_stays_50 : decode cX7_stays 50 = .ok (.lmul, 1) := by decide +kernel
theorem dX7_stays_51 : decode cX7_stays 51 = .ok (.ldc2_w 293, 3) := by decide +kernel
theorem dX7_stays_54 : decode cX7_stays 54 = .ok (.iload_n 3, 1) := by decide +kernel
theorem dX7_stays_55 : decode cX7_stays 55 = .ok (.i2l, 1) := by decide +kernel
theorem dX7_stays_56 : decode cX7_stays 56 = .ok (.ladd, 1) := by decide +kernel
theorem dX7_stays_57 : decode cX7_stays 57 = .ok (.aload_n 0, 1) := by decide +kernel
theorem dX7_stays_58 : decode cX7_stays 58 = .ok (.aload_n 0, 1) := by decide +kernel
theorem dX7_stays_59 : decode cX7_stays 59 = .ok (.invokevirtual 244, 3) := by decide +kernel
theorem dX7_stays_62 : decode cX7_stays 62 = .ok (.iload_n 2, 1) := by decide +kernel
theorem dX7_stays_63 : decode cX7_stays 63 = .ok (.invokevirtual 205, 3) := by decide +kernel
theorem dX7_stays_66 : decode cX7_stays 66 = .ok (.lmul, 1) := by decide +kernel
theorem dX7_stays_67 : decode cX7_stays 67 = .ok (.lcmp, 1) := by decide +kernel
theorem dX7_stays_68 : decode cX7_stays 68 = .ok (.ifCond .gt 7, 3) := by decide +kernel
theorem dX7_stays_71 : decode cX7_stays 71 = .ok (.lconst 1, 1) := by decide +kernel
theorem dX7_stays_72 : decode cX7_stays 72 = .ok (.goto 4, 3) := by decide +kernel
theorem dX7_stays_75 : decode cX7_stays 75 = .ok (.lconst 0, 1) := by decide +kernel
theorem dX7_stays_76 : decode cX7_stays 76 = .ok (.lreturn, 1) := by decide +kernel
theorem dX7_note_0 : decode cX7_note 0 = .ok (.aload_n 0, 1) := by decide +kernel
theorem dX7_note_1 : decode cX7_note 1 = .ok (.invokevirtual 254, 3) := by decide +kernel
theorem dX7_note_4 : decode cX7_note 4 = .ok (.iconst 0, 1) := by decide +kernel
theorem dX7_note_5 : decode cX7_note 5 = .ok (.istore_n 1, 1) := by decide +kernel
theorem dX7_note_6 : decode cX7_note 6 = .ok (.iload_n 1, 1) := by decide +kernel
theorem dX7_note_7 : decode cX7_note 7 = .ok (.aload_n 0, 1) := by decide +kernel
theorem dX7_note_8 : decode cX7_note 8 = .ok (.getfield 176, 3) := by decide +kernel
theorem dX7_note_11 : decode cX7_note 11 = .ok (.if_icmp .ge 79, 3) := by decide +kernel
theorem dX7_note_14 : decode cX7_note 14 = .ok (.iconst 0, 1) := by decide +kernel
theorem dX7_note_15 : decode cX7_note 15 = .ok (.istore_n 2, 1) := by decide +kernel
theorem dX7_note_16 : decode cX7_note 16 = .ok (.iload_n 2, 1) := by decide +kernel
theorem dX7_note_17 : decode cX7_note 17 = .ok (.aload_n 0, 1) := by decide +kernel
theorem dX7_note_18 : decode cX7_note 18 = .ok (.getfield 179, 3) := by decide +kernel
theorem dX7_note_21 : decode cX7_note 21 = .ok (.if_icmp .ge 63, 3) := by decide +kernel
theorem dX7_note_24 : decode cX7_note 24 = .ok (.aload_n 0, 1) := by decide +kernel
theorem dX7_note_25 : decode cX7_note 25 = .ok (.aload_n 0, 1) := by decide +kernel
theorem dX7_note_26 : decode cX7_note 26 = .ok (.invokevirtual 244, 3) := by decide +kernel
theorem dX7_note_29 : decode cX7_note 29 = .ok (.iload_n 2, 1) := by decide +kernel
theorem dX7_note_30 : decode cX7_note 30 = .ok (.invokevirtual 205, 3) := by decide +kernel
theorem dX7_note_33 : decode cX7_note 33 = .ok (.lstore_n 3, 1) := by decide +kernel
theorem dX7_note_34 : decode cX7_note 34 = .ok (.aload_n 0, 1) := by decide +kernel
theorem dX7_note_35 : decode cX7_note 35 = .ok (.getfield 53, 3) := by decide +kernel
theorem dX7_note_38 : decode cX7_note 38 = .ok (.bipush 6, 2) := by decide +kernel
theorem dX7_note_40 : decode cX7_note 40 = .ok (.iload_n 1, 1) := by decide +kernel
theorem dX7_note_41 : decode cX7_note 41 = .ok (.imul, 1) := by decide +kernel
theorem dX7_note_42 : decode cX7_note 42 = .ok (.iload_n 2, 1) := by decide +kernel
theorem dX7_note_43 : decode cX7_note 43 = .ok (.iadd, 1) := by decide +kernel
theorem dX7_note_44 : decode cX7_note 44 = .ok (.aload_n 0, 1) := by decide +kernel
theorem dX7_note_45 : decode cX7_note 45 = .ok (.getfield 40, 3) := by decide +kernel
theorem dX7_note_48 : decode cX7_note 48 = .ok (.iload_n 1, 1) := by decide +kernel
theorem dX7_note_49 : decode cX7_note 49 = .ok (.laload, 1) := by decide +kernel
theorem dX7_note_50 : decode cX7_note 50 = .ok (.lload_n 3, 1) := by decide +kernel
theorem dX7_note_51 : decode cX7_note 51 = .ok (.iconst 0, 1) := by decide +kernel
theorem dX7_note_52 : decode cX7_note 52 = .ok (.invokestatic 257, 3) := by decide +kernel
theorem dX7_note_55 : decode cX7_note 55 = .ok (.lastore, 1) := by decide +kernel
theorem dX7_note_56 : decode cX7_note 56 = .ok (.aload_n 0, 1) := by decide +kernel
theorem dX7_note_57 : decode cX7_note 57 = .ok (.getfield 56, 3) := by decide +kernel
theorem dX7_note_60 : decode cX7_note 60 = .ok (.bipush 6, 2) := by decide +kernel
theorem dX7_note_62 : decode cX7_note 62 = .ok (.iload_n 1, 1) := by decide +kernel
theorem dX7_note_63 : decode cX7_note 63 = .ok (.imul, 1) := by decide +kernel
theorem dX7_note_64 : decode cX7_note 64 = .ok (.iload_n 2, 1) := by decide +kernel
theorem dX7_note_65 : decode cX7_note 65 = .ok (.iadd, 1) := by decide +kernel
theorem dX7_note_66 : decode cX7_note 66 = .ok (.aload_n 0, 1) := by decide +kernel
theorem dX7_note_67 : decode cX7_note 67 = .ok (.getfield 40, 3) := by decide +kernel
theorem dX7_note_70 : decode cX7_note 70 = .ok (.iload_n 1, 1) := by decide +kernel
theorem dX7_note_71 : decode cX7_note 71 = .ok (.laload, 1) := by decide +kernel
theorem dX7_note_72 : decode cX7_note 72 = .ok (.lload_n 3, 1) := by decide +kernel
theorem dX7_note_73 : decode cX7_note 73 = .ok (.iconst 1, 1) := by decide +kernel
theorem dX7_note_74 : decode cX7_note 74 = .ok (.invokestatic 257, 3) := by decide +kernel
theorem dX7_note_77 : decode cX7_note 77 = .ok (.lastore, 1) := by decide +kernel
theorem dX7_note_78 : decode cX7_note 78 = .ok (.iinc 2 1, 3) := by decide +kernel
theorem dX7_note_81 : decode cX7_note 81 = .ok (.goto (-65), 3) := by decide +kernel
theorem dX7_note_84 : decode cX7_note 84 = .ok (.iinc 1 1, 3) := by decide +kernel
theorem dX7_note_87 : decode cX7_note 87 = .ok (.goto (-81), 3) := by decide +kernel
theorem dX7_note_90 : decode cX7_note 90 = .ok (.aload_n 0, 1) := by decide +kernel
theorem dX7_note_91 : decode cX7_note 91 = .ok (.iconst 1, 1) := by decide +kernel
theorem dX7_note_92 : decode cX7_note 92 = .ok (.putfield 182, 3) := by decide +kernel
theorem dX7_note_95 : decode cX7_note 95 = .ok (.return_, 1) := by decide +kernel
theorem dX7_learn_0 : decode cX7_learn 0 = .ok (.aload_n 0, 1) := by decide +kernel
theorem dX7_learn_1 : decode cX7_learn 1 = .ok (.iconst 0, 1) := by decide +kernel
theorem dX7_learn_2 : decode cX7_learn 2 = .ok (.putfield 62, 3) := by decide +kernel
theorem dX7_learn_5 : decode cX7_learn 5 = .ok (.aload_n 0, 1) := by decide +kernel
theorem dX7_learn_6 : decode cX7_learn 6 = .ok (.iload_n 1, 1) := by decide +kernel
theorem dX7_learn_7 : decode cX7_learn 7 = .ok (.invokevirtual 189, 3) := by decide +kernel
theorem dX7_learn_10 : decode cX7_learn 10 = .ok (.ifCond .eq 24, 3) := by decide +kernel
theorem dX7_learn_13 : decode cX7_learn 13 = .ok (.aload_n 0, 1) := by decide +kernel
theorem dX7_learn_14 : decode cX7_learn 14 = .ok (.iload_n 2, 1) := by decide +kernel
theorem dX7_learn_15 : decode cX7_learn 15 = .ok (.invokevirtual 189, 3) := by decide +kernel
theorem dX7_learn_18 : decode cX7_learn 18 = .ok (.ifCond .eq 16, 3) := by decide +kernel
theorem dX7_learn_21 : decode cX7_learn 21 = .ok (.iload_n 1, 1) := by decide +kernel
theorem dX7_learn_22 : decode cX7_learn 22 = .ok (.iload_n 2, 1) := by decide +kernel
theorem dX7_learn_23 : decode cX7_learn 23 = .ok (.if_icmp .eq 11, 3) := by decide +kernel
theorem dX7_learn_26 : decode cX7_learn 26 = .ok (.aload_n 0, 1) := by decide +kernel
theorem dX7_learn_27 : decode cX7_learn 27 = .ok (.iload_n 3, 1) := by decide +kernel
theorem dX7_learn_28 : decode cX7_learn 28 = .ok (.invokevirtual 192, 3) := by decide +kernel
theorem dX7_learn_31 : decode cX7_learn 31 = .ok (.ifCond .ne 7, 3) := by decide +kernel
theorem dX7_learn_34 : decode cX7_learn 34 = .ok (.ldc2_w 83, 3) := by decide +kernel
theorem dX7_learn_37 : decode cX7_learn 37 = .ok (.lreturn, 1) := by decide +kernel
theorem dX7_learn_38 : decode cX7_learn 38 = .ok (.aload_n 0, 1) := by decide +kernel
theorem dX7_learn_39 : decode cX7_learn 39 = .ok (.invokevirtual 295, 3) := by decide +kernel
theorem dX7_learn_42 : decode cX7_learn 42 = .ok (.aload_n 0, 1) := by decide +kernel
theorem dX7_learn_43 : decode cX7_learn 43 = .ok (.getfield 25, 3) := by decide +kernel
theorem dX7_learn_46 : decode cX7_learn 46 = .ok (.bipush 6, 2) := by decide +kernel
theorem dX7_learn_48 : decode cX7_learn 48 = .ok (.iload_n 1, 1) := by decide +kernel
theorem dX7_learn_49 : decode cX7_learn 49 = .ok (.imul, 1) := by decide +kernel
theorem dX7_learn_50 : decode cX7_learn 50 = .ok (.iload_n 3, 1) := by decide +kernel
theorem dX7_learn_51 : decode cX7_learn 51 = .ok (.iadd, 1) := by decide +kernel
theorem dX7_learn_52 : decode cX7_learn 52 = .ok (.iaload, 1) := by decide +kernel
theorem dX7_learn_53 : decode cX7_learn 53 = .ok (.aload_n 0, 1) := by decide +kernel
theorem dX7_learn_54 : decode cX7_learn 54 = .ok (.getfield 25, 3) := by decide +kernel
theorem dX7_learn_57 : decode cX7_learn 57 = .ok (.bipush 6, 2) := by decide +kernel
theorem dX7_learn_59 : decode cX7_learn 59 = .ok (.iload_n 2, 1) := by decide +kernel
theorem dX7_learn_60 : decode cX7_learn 60 = .ok (.imul, 1) := by decide +kernel
theorem dX7_learn_61 : decode cX7_learn 61 = .ok (.iload_n 3, 1) := by decide +kernel
theorem dX7_learn_62 : decode cX7_learn 62 = .ok (.iadd, 1) := by decide +kernel
theorem dX7_learn_63 : decode cX7_learn 63 = .ok (.iaload, 1) := by decide +kernel
theorem dX7_learn_64 : decode cX7_learn 64 = .ok (.isub, 1) := by decide +kernel
theorem dX7_learn_65 : decode cX7_learn 65 = .ok (.istore 4, 2) := by decide +kernel
theorem dX7_learn_67 : decode cX7_learn 67 = .ok (.iload 4, 2) := by decide +kernel
theorem dX7_learn_69 : decode cX7_learn 69 = .ok (.ifCond .ge 7, 3) := by decide +kernel
theorem dX7_learn_72 : decode cX7_learn 72 = .ok (.iconst 0, 1) := by decide +kernel
theorem dX7_learn_73 : decode cX7_learn 73 = .ok (.goto 5, 3) := by decide +kernel
theorem dX7_learn_76 : decode cX7_learn 76 = .ok (.iload 4, 2) := by decide +kernel
theorem dX7_learn_78 : decode cX7_learn 78 = .ok (.istore 4, 2) := by decide +kernel
theorem dX7_learn_80 : decode cX7_learn 80 = .ok (.aload_n 0, 1) := by decide +kernel
theorem dX7_learn_81 : decode cX7_learn 81 = .ok (.getfield 25, 3) := by decide +kernel
theorem dX7_learn_84 : decode cX7_learn 84 = .ok (.bipush 6, 2) := by decide +kernel
theorem dX7_learn_86 : decode cX7_learn 86 = .ok (.iload_n 1, 1) := by decide +kernel
theorem dX7_learn_87 : decode cX7_learn 87 = .ok (.imul, 1) := by decide +kernel
theorem dX7_learn_88 : decode cX7_learn 88 = .ok (.iload_n 3, 1) := by decide +kernel
theorem dX7_learn_89 : decode cX7_learn 89 = .ok (.iadd, 1) := by decide +kernel
theorem dX7_learn_90 : decode cX7_learn 90 = .ok (.dup2, 1) := by decide +kernel
theorem dX7_learn_91 : decode cX7_learn 91 = .ok (.iaload, 1) := by decide +kernel
theorem dX7_learn_92 : decode cX7_learn 92 = .ok (.iload 4, 2) := by decide +kernel
theorem dX7_learn_94 : decode cX7_learn 94 = .ok (.isub, 1) := by decide +kernel
theorem dX7_learn_95 : decode cX7_learn 95 = .ok (.iastore, 1) := by decide +kernel
theorem dX7_learn_96 : decode cX7_learn 96 = .ok (.aload_n 0, 1) := by decide +kernel
theorem dX7_learn_97 : decode cX7_learn 97 = .ok (.iconst 0, 1) := by decide +kernel
theorem dX7_learn_98 : decode cX7_learn 98 = .ok (.putfield 186, 3) := by decide +kernel
theorem dX7_learn_101 : decode cX7_learn 101 = .ok (.iload 4, 2) := by decide +kernel
theorem dX7_learn_103 : decode cX7_learn 103 = .ok (.i2l, 1) := by decide +kernel
theorem dX7_learn_104 : decode cX7_learn 104 = .ok (.lreturn, 1) := by decide +kernel
theorem dX7_on_0 : decode cX7_on 0 = .ok (.aload_n 0, 1) := by decide +kernel
theorem dX7_on_1 : decode cX7_on 1 = .ok (.iconst 0, 1) := by decide +kernel
theorem dX7_on_2 : decode cX7_on 2 = .ok (.putfield 62, 3) := by decide +kernel
theorem dX7_on_5 : decode cX7_on 5 = .ok (.aload_n 0, 1) := by decide +kernel
theorem dX7_on_6 : decode cX7_on 6 = .ok (.iload_n 1, 1) := by decide +kernel
theorem dX7_on_7 : decode cX7_on 7 = .ok (.invokevirtual 189, 3) := by decide +kernel
theorem dX7_on_10 : decode cX7_on 10 = .ok (.ifCond .ne 7, 3) := by decide +kernel
theorem dX7_on_13 : decode cX7_on 13 = .ok (.ldc2_w 83, 3) := by decide +kernel
theorem dX7_on_16 : decode cX7_on 16 = .ok (.lreturn, 1) := by decide +kernel
theorem dX7_on_17 : decode cX7_on 17 = .ok (.aload_n 0, 1) := by decide +kernel
theorem dX7_on_18 : decode cX7_on 18 = .ok (.getfield 182, 3) := by decide +kernel
theorem dX7_on_21 : decode cX7_on 21 = .ok (.ifCond .ne 7, 3) := by decide +kernel
theorem dX7_on_24 : decode cX7_on 24 = .ok (.ldc2_w 261, 3) := by decide +kernel
theorem dX7_on_27 : decode cX7_on 27 = .ok (.lreturn, 1) := by decide +kernel
theorem dX7_on_28 : decode cX7_on 28 = .ok (.aload_n 0, 1) := by decide +kernel
theorem dX7_on_29 : decode cX7_on 29 = .ok (.invokevirtual 254, 3) := by decide +kernel
theorem dX7_on_32 : decode cX7_on 32 = .ok (.iconst 0, 1) := by decide +kernel
theorem dX7_on_33 : decode cX7_on 33 = .ok (.istore_n 2, 1) := by decide +kernel
theorem dX7_on_34 : decode cX7_on 34 = .ok (.iconst 0, 1) := by decide +kernel
theorem dX7_on_35 : decode cX7_on 35 = .ok (.istore_n 3, 1) := by decide +kernel
theorem dX7_on_36 : decode cX7_on 36 = .ok (.iconst 0, 1) := by decide +kernel
theorem dX7_on_37 : decode cX7_on 37 = .ok (.istore 4, 2) := by decide +kernel
theorem dX7_on_39 : decode cX7_on 39 = .ok (.iload 4, 2) := by decide +kernel
theorem dX7_on_41 : decode cX7_on 41 = .ok (.aload_n 0, 1) := by decide +kernel
theorem dX7_on_42 : decode cX7_on 42 = .ok (.getfield 179, 3) := by decide +kernel
theorem dX7_on_45 : decode cX7_on 45 = .ok (.if_icmp .ge 111, 3) := by decide +kernel
theorem dX7_on_48 : decode cX7_on 48 = .ok (.aload_n 0, 1) := by decide +kernel
theorem dX7_on_49 : decode cX7_on 49 = .ok (.aload_n 0, 1) := by decide +kernel
theorem dX7_on_50 : decode cX7_on 50 = .ok (.invokevirtual 244, 3) := by decide +kernel
theorem dX7_on_53 : decode cX7_on 53 = .ok (.iload 4, 2) := by decide +kernel
theorem dX7_on_55 : decode cX7_on 55 = .ok (.invokevirtual 205, 3) := by decide +kernel
theorem dX7_on_58 : decode cX7_on 58 = .ok (.lstore 5, 2) := by decide +kernel
theorem dX7_on_60 : decode cX7_on 60 = .ok (.aload_n 0, 1) := by decide +kernel
theorem dX7_on_61 : decode cX7_on 61 = .ok (.getfield 40, 3) := by decide +kernel
theorem dX7_on_64 : decode cX7_on 64 = .ok (.iload_n 1, 1) := by decide +kernel
theorem dX7_on_65 : decode cX7_on 65 = .ok (.laload, 1) := by decide +kernel
theorem dX7_on_66 : decode cX7_on 66 = .ok (.lload 5, 2) := by decide +kernel
theorem dX7_on_68 : decode cX7_on 68 = .ok (.iconst 0, 1) := by decide +kernel
theorem dX7_on_69 : decode cX7_on 69 = .ok (.invokestatic 257, 3) := by decide +kernel
theorem dX7_on_72 : decode cX7_on 72 = .ok (.aload_n 0, 1) := by decide +kernel
theorem dX7_on_73 : decode cX7_on 73 = .ok (.getfield 56, 3) := by decide +kernel
theorem dX7_on_76 : decode cX7_on 76 = .ok (.bipush 6, 2) := by decide +kernel
theorem dX7_on_78 : decode cX7_on 78 = .ok (.iload_n 1, 1) := by decide +kernel
theorem dX7_on_79 : decode cX7_on 79 = .ok (.imul, 1) := by decide +kernel
theorem dX7_on_80 : decode cX7_on 80 = .ok (.iload 4, 2) := by decide +kernel
theorem dX7_on_82 : decode cX7_on 82 = .ok (.iadd, 1) := by decide +kernel
theorem dX7_on_83 : decode cX7_on 83 = .ok (.laload, 1) := by decide +kernel
theorem dX7_on_84 : decode cX7_on 84 = .ok (.lmul, 1) := by decide +kernel
theorem dX7_on_85 : decode cX7_on 85 = .ok (.lstore 7, 2) := by decide +kernel
theorem dX7_on_87 : decode cX7_on 87 = .ok (.aload_n 0, 1) := by decide +kernel
theorem dX7_on_88 : decode cX7_on 88 = .ok (.getfield 53, 3) := by decide +kernel
theorem dX7_on_91 : decode cX7_on 91 = .ok (.bipush 6, 2) := by decide +kernel
theorem dX7_on_93 : decode cX7_on 93 = .ok (.iload_n 1, 1) := by decide +kernel
theorem dX7_on_94 : decode cX7_on 94 = .ok (.imul, 1) := by decide +kernel
theorem dX7_on_95 : decode cX7_on 95 = .ok (.iload 4, 2) := by decide +kernel
theorem dX7_on_97 : decode cX7_on 97 = .ok (.iadd, 1) := by decide +kernel
theorem dX7_on_98 : decode cX7_on 98 = .ok (.laload, 1) := by decide +kernel
theorem dX7_on_99 : decode cX7_on 99 = .ok (.aload_n 0, 1) := by decide +kernel
theorem dX7_on_100 : decode cX7_on 100 = .ok (.getfield 40, 3) := by decide +kernel
theorem dX7_on_103 : decode cX7_on 103 = .ok (.iload_n 1, 1) := by decide +kernel
theorem dX7_on_104 : decode cX7_on 104 = .ok (.laload, 1) := by decide +kernel
theorem dX7_on_105 : decode cX7_on 105 = .ok (.lload 5, 2) := by decide +kernel
theorem dX7_on_107 : decode cX7_on 107 = .ok (.iconst 1, 1) := by decide +kernel
theorem dX7_on_108 : decode cX7_on 108 = .ok (.invokestatic 257, 3) := by decide +kernel
theorem dX7_on_111 : decode cX7_on 111 = .ok (.lmul, 1) := by decide +kernel
theorem dX7_on_112 : decode cX7_on 112 = .ok (.lstore 9, 2) := by decide +kernel
theorem dX7_on_114 : decode cX7_on 114 = .ok (.iload_n 2, 1) := by decide +kernel
theorem dX7_on_115 : decode cX7_on 115 = .ok (.ifCond .ne 11, 3) := by decide +kernel
theorem dX7_on_118 : decode cX7_on 118 = .ok (.lload 7, 2) := by decide +kernel
theorem dX7_on_120 : decode cX7_on 120 = .ok (.lload 9, 2) := by decide +kernel
theorem dX7_on_122 : decode cX7_on 122 = .ok (.lcmp, 1) := by decide +kernel
theorem dX7_on_123 : decode cX7_on 123 = .ok (.ifCond .le 7, 3) := by decide +kernel
theorem dX7_on_126 : decode cX7_on 126 = .ok (.iconst 1, 1) := by decide +kernel
theorem dX7_on_127 : decode cX7_on 127 = .ok (.goto 4, 3) := by decide +kernel
theorem dX7_on_130 : decode cX7_on 130 = .ok (.iconst 0, 1) := by decide +kernel
theorem dX7_on_131 : decode cX7_on 131 = .ok (.istore_n 2, 1) := by decide +kernel
theorem dX7_on_132 : decode cX7_on 132 = .ok (.iload_n 3, 1) := by decide +kernel
theorem dX7_on_133 : decode cX7_on 133 = .ok (.ifCond .ne 11, 3) := by decide +kernel
theorem dX7_on_136 : decode cX7_on 136 = .ok (.lload 7, 2) := by decide +kernel
theorem dX7_on_138 : decode cX7_on 138 = .ok (.lload 9, 2) := by decide +kernel
theorem dX7_on_140 : decode cX7_on 140 = .ok (.lcmp, 1) := by decide +kernel
theorem dX7_on_141 : decode cX7_on 141 = .ok (.ifCond .ge 7, 3) := by decide +kernel
theorem dX7_on_144 : decode cX7_on 144 = .ok (.iconst 1, 1) := by decide +kernel
theorem dX7_on_145 : decode cX7_on 145 = .ok (.goto 4, 3) := by decide +kernel
theorem dX7_on_148 : decode cX7_on 148 = .ok (.iconst 0, 1) := by decide +kernel
theorem dX7_on_149 : decode cX7_on 149 = .ok (.istore_n 3, 1) := by decide +kernel
theorem dX7_on_150 : decode cX7_on 150 = .ok (.iinc 4 1, 3) := by decide +kernel
theorem dX7_on_153 : decode cX7_on 153 = .ok (.goto (-114), 3) := by decide +kernel
theorem dX7_on_156 : decode cX7_on 156 = .ok (.iload_n 2, 1) := by decide +kernel
theorem dX7_on_157 : decode cX7_on 157 = .ok (.ifCond .eq 17, 3) := by decide +kernel
theorem dX7_on_160 : decode cX7_on 160 = .ok (.iload_n 3, 1) := by decide +kernel
theorem dX7_on_161 : decode cX7_on 161 = .ok (.ifCond .eq 9, 3) := by decide +kernel
theorem dX7_on_164 : decode cX7_on 164 = .ok (.ldc2_w 81, 3) := by decide +kernel
theorem dX7_on_167 : decode cX7_on 167 = .ok (.goto 18, 3) := by decide +kernel
theorem dX7_on_170 : decode cX7_on 170 = .ok (.lconst 1, 1) := by decide +kernel
theorem dX7_on_171 : decode cX7_on 171 = .ok (.goto 14, 3) := by decide +kernel
theorem dX7_on_174 : decode cX7_on 174 = .ok (.iload_n 3, 1) := by decide +kernel
theorem dX7_on_175 : decode cX7_on 175 = .ok (.ifCond .eq 9, 3) := by decide +kernel
theorem dX7_on_178 : decode cX7_on 178 = .ok (.ldc2_w 195, 3) := by decide +kernel
theorem dX7_on_181 : decode cX7_on 181 = .ok (.goto 4, 3) := by decide +kernel
theorem dX7_on_184 : decode cX7_on 184 = .ok (.lconst 0, 1) := by decide +kernel
theorem dX7_on_185 : decode cX7_on 185 = .ok (.lreturn, 1) := by decide +kernel
theorem dX7_isOther_0 : decode cX7_isOther 0 = .ok (.iload_n 3, 1) := by decide +kernel
theorem dX7_isOther_1 : decode cX7_isOther 1 = .ok (.i2l, 1) := by decide +kernel
theorem dX7_isOther_2 : decode cX7_isOther 2 = .ok (.lconst 1, 1) := by decide +kernel
theorem dX7_isOther_3 : decode cX7_isOther 3 = .ok (.ldc2_w 298, 3) := by decide +kernel
theorem dX7_isOther_6 : decode cX7_isOther 6 = .ok (.invokestatic 73, 3) := by decide +kernel
theorem dX7_isOther_9 : decode cX7_isOther 9 = .ok (.ifCond .ne 5, 3) := by decide +kernel
theorem dX7_isOther_12 : decode cX7_isOther 12 = .ok (.iconst 0, 1) := by decide +kernel
theorem dX7_isOther_13 : decode cX7_isOther 13 = .ok (.ireturn, 1) := by decide +kernel
theorem dX7_isOther_14 : decode cX7_isOther 14 = .ok (.aload_n 0, 1) := by decide +kernel
theorem dX7_isOther_15 : decode cX7_isOther 15 = .ok (.getfield 25, 3) := by decide +kernel
theorem dX7_isOther_18 : decode cX7_isOther 18 = .ok (.bipush 6, 2) := by decide +kernel
theorem dX7_isOther_20 : decode cX7_isOther 20 = .ok (.iload_n 1, 1) := by decide +kernel
theorem dX7_isOther_21 : decode cX7_isOther 21 = .ok (.imul, 1) := by decide +kernel
theorem dX7_isOther_22 : decode cX7_isOther 22 = .ok (.iload_n 2, 1) := by decide +kernel
theorem dX7_isOther_23 : decode cX7_isOther 23 = .ok (.iadd, 1) := by decide +kernel
theorem dX7_isOther_24 : decode cX7_isOther 24 = .ok (.iaload, 1) := by decide +kernel
theorem dX7_isOther_25 : decode cX7_isOther 25 = .ok (.istore 5, 2) := by decide +kernel
theorem dX7_isOther_27 : decode cX7_isOther 27 = .ok (.aload_n 0, 1) := by decide +kernel
theorem dX7_isOther_28 : decode cX7_isOther 28 = .ok (.getfield 25, 3) := by decide +kernel
theorem dX7_isOther_31 : decode cX7_isOther 31 = .ok (.bipush 6, 2) := by decide +kernel
theorem dX7_isOther_33 : decode cX7_isOther 33 = .ok (.iload_n 1, 1) := by decide +kernel
theorem dX7_isOther_34 : decode cX7_isOther 34 = .ok (.imul, 1) := by decide +kernel
theorem dX7_isOther_35 : decode cX7_isOther 35 = .ok (.iload_n 2, 1) := by decide +kernel
theorem dX7_isOther_36 : decode cX7_isOther 36 = .ok (.iadd, 1) := by decide +kernel
theorem dX7_isOther_37 : decode cX7_isOther 37 = .ok (.iload_n 3, 1) := by decide +kernel
theorem dX7_isOther_38 : decode cX7_isOther 38 = .ok (.iastore, 1) := by decide +kernel
theorem dX7_isOther_39 : decode cX7_isOther 39 = .ok (.aload_n 0, 1) := by decide +kernel
theorem dX7_isOther_40 : decode cX7_isOther 40 = .ok (.aload_n 0, 1) := by decide +kernel
theorem dX7_isOther_41 : decode cX7_isOther 41 = .ok (.invokevirtual 244, 3) := by decide +kernel
theorem dX7_isOther_44 : decode cX7_isOther 44 = .ok (.invokevirtual 247, 3) := by decide +kernel
theorem dX7_isOther_47 : decode cX7_isOther 47 = .ok (.aload_n 0, 1) := by decide +kernel
theorem dX7_isOther_48 : decode cX7_isOther 48 = .ok (.aload_n 0, 1) := by decide +kernel
theorem dX7_isOther_49 : decode cX7_isOther 49 = .ok (.invokevirtual 244, 3) := by decide +kernel
theorem dX7_isOther_52 : decode cX7_isOther 52 = .ok (.iload_n 2, 1) := by decide +kernel
theorem dX7_isOther_53 : decode cX7_isOther 53 = .ok (.invokevirtual 211, 3) := by decide +kernel
theorem dX7_isOther_56 : decode cX7_isOther 56 = .ok (.iload 4, 2) := by decide +kernel
theorem dX7_isOther_58 : decode cX7_isOther 58 = .ok (.if_icmp .eq 7, 3) := by decide +kernel
theorem dX7_isOther_61 : decode cX7_isOther 61 = .ok (.iconst 1, 1) := by decide +kernel
theorem dX7_isOther_62 : decode cX7_isOther 62 = .ok (.goto 4, 3) := by decide +kernel
theorem dX7_isOther_65 : decode cX7_isOther 65 = .ok (.iconst 0, 1) := by decide +kernel
theorem dX7_isOther_66 : decode cX7_isOther 66 = .ok (.istore 6, 2) := by decide +kernel
theorem dX7_isOther_68 : decode cX7_isOther 68 = .ok (.aload_n 0, 1) := by decide +kernel
theorem dX7_isOther_69 : decode cX7_isOther 69 = .ok (.getfield 25, 3) := by decide +kernel
theorem dX7_isOther_72 : decode cX7_isOther 72 = .ok (.bipush 6, 2) := by decide +kernel
theorem dX7_isOther_74 : decode cX7_isOther 74 = .ok (.iload_n 1, 1) := by decide +kernel
theorem dX7_isOther_75 : decode cX7_isOther 75 = .ok (.imul, 1) := by decide +kernel
theorem dX7_isOther_76 : decode cX7_isOther 76 = .ok (.iload_n 2, 1) := by decide +kernel
theorem dX7_isOther_77 : decode cX7_isOther 77 = .ok (.iadd, 1) := by decide +kernel
theorem dX7_isOther_78 : decode cX7_isOther 78 = .ok (.iload 5, 2) := by decide +kernel
theorem dX7_isOther_80 : decode cX7_isOther 80 = .ok (.iastore, 1) := by decide +kernel
theorem dX7_isOther_81 : decode cX7_isOther 81 = .ok (.iload 6, 2) := by decide +kernel
theorem dX7_isOther_83 : decode cX7_isOther 83 = .ok (.ireturn, 1) := by decide +kernel
theorem dX7_edge_0 : decode cX7_edge 0 = .ok (.aload_n 0, 1) := by decide +kernel
theorem dX7_edge_1 : decode cX7_edge 1 = .ok (.iconst 0, 1) := by decide +kernel
theorem dX7_edge_2 : decode cX7_edge 2 = .ok (.putfield 62, 3) := by decide +kernel
theorem dX7_edge_5 : decode cX7_edge 5 = .ok (.aload_n 0, 1) := by decide +kernel
theorem dX7_edge_6 : decode cX7_edge 6 = .ok (.iload_n 1, 1) := by decide +kernel
theorem dX7_edge_7 : decode cX7_edge 7 = .ok (.invokevirtual 189, 3) := by decide +kernel
theorem dX7_edge_10 : decode cX7_edge 10 = .ok (.ifCond .eq 11, 3) := by decide +kernel
theorem dX7_edge_13 : decode cX7_edge 13 = .ok (.aload_n 0, 1) := by decide +kernel
theorem dX7_edge_14 : decode cX7_edge 14 = .ok (.iload_n 2, 1) := by decide +kernel
theorem dX7_edge_15 : decode cX7_edge 15 = .ok (.invokevirtual 192, 3) := by decide +kernel
theorem dX7_edge_18 : decode cX7_edge 18 = .ok (.ifCond .ne 7, 3) := by decide +kernel
theorem dX7_edge_21 : decode cX7_edge 21 = .ok (.ldc2_w 83, 3) := by decide +kernel
theorem dX7_edge_24 : decode cX7_edge 24 = .ok (.lreturn, 1) := by decide +kernel
theorem dX7_edge_25 : decode cX7_edge 25 = .ok (.aload_n 0, 1) := by decide +kernel
theorem dX7_edge_26 : decode cX7_edge 26 = .ok (.invokevirtual 254, 3) := by decide +kernel
theorem dX7_edge_29 : decode cX7_edge 29 = .ok (.aload_n 0, 1) := by decide +kernel
theorem dX7_edge_30 : decode cX7_edge 30 = .ok (.aload_n 0, 1) := by decide +kernel
theorem dX7_edge_31 : decode cX7_edge 31 = .ok (.invokevirtual 244, 3) := by decide +kernel
theorem dX7_edge_34 : decode cX7_edge 34 = .ok (.iload_n 2, 1) := by decide +kernel
theorem dX7_edge_35 : decode cX7_edge 35 = .ok (.invokevirtual 211, 3) := by decide +kernel
theorem dX7_edge_38 : decode cX7_edge 38 = .ok (.istore_n 3, 1) := by decide +kernel
theorem dX7_edge_39 : decode cX7_edge 39 = .ok (.aload_n 0, 1) := by decide +kernel
theorem dX7_edge_40 : decode cX7_edge 40 = .ok (.getfield 25, 3) := by decide +kernel
theorem dX7_edge_43 : decode cX7_edge 43 = .ok (.bipush 6, 2) := by decide +kernel
theorem dX7_edge_45 : decode cX7_edge 45 = .ok (.iload_n 1, 1) := by decide +kernel
theorem dX7_edge_46 : decode cX7_edge 46 = .ok (.imul, 1) := by decide +kernel
theorem dX7_edge_47 : decode cX7_edge 47 = .ok (.iload_n 2, 1) := by decide +kernel
theorem dX7_edge_48 : decode cX7_edge 48 = .ok (.iadd, 1) := by decide +kernel
theorem dX7_edge_49 : decode cX7_edge 49 = .ok (.iaload, 1) := by decide +kernel
theorem dX7_edge_50 : decode cX7_edge 50 = .ok (.istore 4, 2) := by decide +kernel
theorem dX7_edge_52 : decode cX7_edge 52 = .ok (.iconst 1, 1) := by decide +kernel
theorem dX7_edge_53 : decode cX7_edge 53 = .ok (.istore 5, 2) := by decide +kernel
theorem dX7_edge_55 : decode cX7_edge 55 = .ok (.iload 5, 2) := by decide +kernel
theorem dX7_edge_57 : decode cX7_edge 57 = .ok (.bipush 20, 2) := by decide +kernel
theorem dX7_edge_59 : decode cX7_edge 59 = .ok (.if_icmp .ge 48, 3) := by decide +kernel
theorem dX7_edge_62 : decode cX7_edge 62 = .ok (.aload_n 0, 1) := by decide +kernel
theorem dX7_edge_63 : decode cX7_edge 63 = .ok (.iload_n 1, 1) := by decide +kernel
theorem dX7_edge_64 : decode cX7_edge 64 = .ok (.iload_n 2, 1) := by decide +kernel
theorem dX7_edge_65 : decode cX7_edge 65 = .ok (.iload 4, 2) := by decide +kernel
theorem dX7_edge_67 : decode cX7_edge 67 = .ok (.iload 5, 2) := by decide +kernel
theorem dX7_edge_69 : decode cX7_edge 69 = .ok (.iadd, 1) := by decide +kernel
theorem dX7_edge_70 : decode cX7_edge 70 = .ok (.iload_n 3, 1) := by decide +kernel
theorem dX7_edge_71 : decode cX7_edge 71 = .ok (.invokevirtual 300, 3) := by decide +kernel
theorem dX7_edge_74 : decode cX7_edge 74 = .ok (.ifCond .eq 7, 3) := by decide +kernel
theorem dX7_edge_77 : decode cX7_edge 77 = .ok (.iload 5, 2) := by decide +kernel
theorem dX7_edge_79 : decode cX7_edge 79 = .ok (.i2l, 1) := by decide +kernel
theorem dX7_edge_80 : decode cX7_edge 80 = .ok (.lreturn, 1) := by decide +kernel
theorem dX7_edge_81 : decode cX7_edge 81 = .ok (.aload_n 0, 1) := by decide +kernel
theorem dX7_edge_82 : decode cX7_edge 82 = .ok (.iload_n 1, 1) := by decide +kernel
theorem dX7_edge_83 : decode cX7_edge 83 = .ok (.iload_n 2, 1) := by decide +kernel
theorem dX7_edge_84 : decode cX7_edge 84 = .ok (.iload 4, 2) := by decide +kernel
theorem dX7_edge_86 : decode cX7_edge 86 = .ok (.iload 5, 2) := by decide +kernel
theorem dX7_edge_88 : decode cX7_edge 88 = .ok (.isub, 1) := by decide +kernel
theorem dX7_edge_89 : decode cX7_edge 89 = .ok (.iload_n 3, 1) := by decide +kernel
theorem dX7_edge_90 : decode cX7_edge 90 = .ok (.invokevirtual 300, 3) := by decide +kernel
theorem dX7_edge_93 : decode cX7_edge 93 = .ok (.ifCond .eq 8, 3) := by decide +kernel
theorem dX7_edge_96 : decode cX7_edge 96 = .ok (.iload 5, 2) := by decide +kernel
theorem dX7_edge_98 : decode cX7_edge 98 = .ok (.ineg, 1) := by decide +kernel
theorem dX7_edge_99 : decode cX7_edge 99 = .ok (.i2l, 1) := by decide +kernel
theorem dX7_edge_100 : decode cX7_edge 100 = .ok (.lreturn, 1) := by decide +kernel
theorem dX7_edge_101 : decode cX7_edge 101 = .ok (.iinc 5 1, 3) := by decide +kernel
theorem dX7_edge_104 : decode cX7_edge 104 = .ok (.goto (-49), 3) := by decide +kernel
theorem dX7_edge_107 : decode cX7_edge 107 = .ok (.ldc2_w 272, 3) := by decide +kernel
theorem dX7_edge_110 : decode cX7_edge 110 = .ok (.lreturn, 1) := by decide +kernel
theorem dX7_movesOne_0 : decode cX7_movesOne 0 = .ok (.aload_n 0, 1) := by decide +kernel
theorem dX7_movesOne_1 : decode cX7_movesOne 1 = .ok (.invokevirtual 254, 3) := by decide +kernel
theorem dX7_movesOne_4 : decode cX7_movesOne 4 = .ok (.iconst 0, 1) := by decide +kernel
theorem dX7_movesOne_5 : decode cX7_movesOne 5 = .ok (.istore_n 1, 1) := by decide +kernel
theorem dX7_movesOne_6 : decode cX7_movesOne 6 = .ok (.iconst 0, 1) := by decide +kernel
theorem dX7_movesOne_7 : decode cX7_movesOne 7 = .ok (.istore_n 2, 1) := by decide +kernel
theorem dX7_movesOne_8 : decode cX7_movesOne 8 = .ok (.iconst 1, 1) := by decide +kernel
theorem dX7_movesOne_9 : decode cX7_movesOne 9 = .ok (.istore_n 3, 1) := by decide +kernel
theorem dX7_movesOne_10 : decode cX7_movesOne 10 = .ok (.iload_n 3, 1) := by decide +kernel
theorem dX7_movesOne_11 : decode cX7_movesOne 11 = .ok (.aload_n 0, 1) := by decide +kernel
theorem dX7_movesOne_12 : decode cX7_movesOne 12 = .ok (.getfield 176, 3) := by decide +kernel
theorem dX7_movesOne_15 : decode cX7_movesOne 15 = .ok (.if_icmp .ge 53, 3) := by decide +kernel
theorem dX7_movesOne_18 : decode cX7_movesOne 18 = .ok (.aload_n 0, 1) := by decide +kernel
theorem dX7_movesOne_19 : decode cX7_movesOne 19 = .ok (.getfield 40, 3) := by decide +kernel
theorem dX7_movesOne_22 : decode cX7_movesOne 22 = .ok (.iload_n 3, 1) := by decide +kernel
theorem dX7_movesOne_23 : decode cX7_movesOne 23 = .ok (.laload, 1) := by decide +kernel
theorem dX7_movesOne_24 : decode cX7_movesOne 24 = .ok (.aload_n 0, 1) := by decide +kernel
theorem dX7_movesOne_25 : decode cX7_movesOne 25 = .ok (.getfield 40, 3) := by decide +kernel
theorem dX7_movesOne_28 : decode cX7_movesOne 28 = .ok (.iload_n 1, 1) := by decide +kernel
theorem dX7_movesOne_29 : decode cX7_movesOne 29 = .ok (.laload, 1) := by decide +kernel
theorem dX7_movesOne_30 : decode cX7_movesOne 30 = .ok (.lcmp, 1) := by decide +kernel
theorem dX7_movesOne_31 : decode cX7_movesOne 31 = .ok (.ifCond .ge 7, 3) := by decide +kernel
theorem dX7_movesOne_34 : decode cX7_movesOne 34 = .ok (.iload_n 3, 1) := by decide +kernel
theorem dX7_movesOne_35 : decode cX7_movesOne 35 = .ok (.goto 4, 3) := by decide +kernel
theorem dX7_movesOne_38 : decode cX7_movesOne 38 = .ok (.iload_n 1, 1) := by decide +kernel
theorem dX7_movesOne_39 : decode cX7_movesOne 39 = .ok (.istore_n 1, 1) := by decide +kernel
theorem dX7_movesOne_40 : decode cX7_movesOne 40 = .ok (.aload_n 0, 1) := by decide +kernel
theorem dX7_movesOne_41 : decode cX7_movesOne 41 = .ok (.getfield 40, 3) := by decide +kernel
theorem dX7_movesOne_44 : decode cX7_movesOne 44 = .ok (.iload_n 3, 1) := by decide +kernel
theorem dX7_movesOne_45 : decode cX7_movesOne 45 = .ok (.laload, 1) := by decide +kernel
theorem dX7_movesOne_46 : decode cX7_movesOne 46 = .ok (.aload_n 0, 1) := by decide +kernel
theorem dX7_movesOne_47 : decode cX7_movesOne 47 = .ok (.getfield 40, 3) := by decide +kernel
theorem dX7_movesOne_50 : decode cX7_movesOne 50 = .ok (.iload_n 2, 1) := by decide +kernel
theorem dX7_movesOne_51 : decode cX7_movesOne 51 = .ok (.laload, 1) := by decide +kernel
theorem dX7_movesOne_52 : decode cX7_movesOne 52 = .ok (.lcmp, 1) := by decide +kernel
theorem dX7_movesOne_53 : decode cX7_movesOne 53 = .ok (.ifCond .le 7, 3) := by decide +kernel
theorem dX7_movesOne_56 : decode cX7_movesOne 56 = .ok (.iload_n 3, 1) := by decide +kernel
theorem dX7_movesOne_57 : decode cX7_movesOne 57 = .ok (.goto 4, 3) := by decide +kernel
theorem dX7_movesOne_60 : decode cX7_movesOne 60 = .ok (.iload_n 2, 1) := by decide +kernel
theorem dX7_movesOne_61 : decode cX7_movesOne 61 = .ok (.istore_n 2, 1) := by decide +kernel
theorem dX7_movesOne_62 : decode cX7_movesOne 62 = .ok (.iinc 3 1, 3) := by decide +kernel
theorem dX7_movesOne_65 : decode cX7_movesOne 65 = .ok (.goto (-55), 3) := by decide +kernel
theorem dX7_movesOne_68 : decode cX7_movesOne 68 = .ok (.iload_n 1, 1) := by decide +kernel
theorem dX7_movesOne_69 : decode cX7_movesOne 69 = .ok (.iload_n 2, 1) := by decide +kernel
theorem dX7_movesOne_70 : decode cX7_movesOne 70 = .ok (.if_icmp .eq 24, 3) := by decide +kernel
theorem dX7_movesOne_73 : decode cX7_movesOne 73 = .ok (.aload_n 0, 1) := by decide +kernel
theorem dX7_movesOne_74 : decode cX7_movesOne 74 = .ok (.getfield 22, 3) := by decide +kernel
theorem dX7_movesOne_77 : decode cX7_movesOne 77 = .ok (.iload_n 1, 1) := by decide +kernel
theorem dX7_movesOne_78 : decode cX7_movesOne 78 = .ok (.iaload, 1) := by decide +kernel
theorem dX7_movesOne_79 : decode cX7_movesOne 79 = .ok (.iconst 2, 1) := by decide +kernel
theorem dX7_movesOne_80 : decode cX7_movesOne 80 = .ok (.if_icmp .lt 14, 3) := by decide +kernel
theorem dX7_movesOne_83 : decode cX7_movesOne 83 = .ok (.aload_n 0, 1) := by decide +kernel
theorem dX7_movesOne_84 : decode cX7_movesOne 84 = .ok (.getfield 22, 3) := by decide +kernel
theorem dX7_movesOne_87 : decode cX7_movesOne 87 = .ok (.iload_n 2, 1) := by decide +kernel
theorem dX7_movesOne_88 : decode cX7_movesOne 88 = .ok (.iaload, 1) := by decide +kernel
theorem dX7_movesOne_89 : decode cX7_movesOne 89 = .ok (.bipush 98, 2) := by decide +kernel
theorem dX7_movesOne_91 : decode cX7_movesOne 91 = .ok (.if_icmp .le 5, 3) := by decide +kernel
theorem dX7_movesOne_94 : decode cX7_movesOne 94 = .ok (.iconst 0, 1) := by decide +kernel
theorem dX7_movesOne_95 : decode cX7_movesOne 95 = .ok (.ireturn, 1) := by decide +kernel
theorem dX7_movesOne_96 : decode cX7_movesOne 96 = .ok (.aload_n 0, 1) := by decide +kernel
theorem dX7_movesOne_97 : decode cX7_movesOne 97 = .ok (.getfield 22, 3) := by decide +kernel
theorem dX7_movesOne_100 : decode cX7_movesOne 100 = .ok (.iload_n 1, 1) := by decide +kernel
theorem dX7_movesOne_101 : decode cX7_movesOne 101 = .ok (.dup2, 1) := by decide +kernel
theorem dX7_movesOne_102 : decode cX7_movesOne 102 = .ok (.iaload, 1) := by decide +kernel
theorem dX7_movesOne_103 : decode cX7_movesOne 103 = .ok (.iconst 1, 1) := by decide +kernel
theorem dX7_movesOne_104 : decode cX7_movesOne 104 = .ok (.isub, 1) := by decide +kernel
theorem dX7_movesOne_105 : decode cX7_movesOne 105 = .ok (.iastore, 1) := by decide +kernel
theorem dX7_movesOne_106 : decode cX7_movesOne 106 = .ok (.aload_n 0, 1) := by decide +kernel
theorem dX7_movesOne_107 : decode cX7_movesOne 107 = .ok (.getfield 22, 3) := by decide +kernel
theorem dX7_movesOne_110 : decode cX7_movesOne 110 = .ok (.iload_n 2, 1) := by decide +kernel
theorem dX7_movesOne_111 : decode cX7_movesOne 111 = .ok (.dup2, 1) := by decide +kernel
theorem dX7_movesOne_112 : decode cX7_movesOne 112 = .ok (.iaload, 1) := by decide +kernel
theorem dX7_movesOne_113 : decode cX7_movesOne 113 = .ok (.iconst 1, 1) := by decide +kernel
theorem dX7_movesOne_114 : decode cX7_movesOne 114 = .ok (.iadd, 1) := by decide +kernel
theorem dX7_movesOne_115 : decode cX7_movesOne 115 = .ok (.iastore, 1) := by decide +kernel
theorem dX7_movesOne_116 : decode cX7_movesOne 116 = .ok (.aload_n 0, 1) := by decide +kernel
theorem dX7_movesOne_117 : decode cX7_movesOne 117 = .ok (.iconst 0, 1) := by decide +kernel
theorem dX7_movesOne_118 : decode cX7_movesOne 118 = .ok (.putfield 186, 3) := by decide +kernel
theorem dX7_movesOne_121 : decode cX7_movesOne 121 = .ok (.aload_n 0, 1) := by decide +kernel
theorem dX7_movesOne_122 : decode cX7_movesOne 122 = .ok (.invokevirtual 254, 3) := by decide +kernel
theorem dX7_movesOne_125 : decode cX7_movesOne 125 = .ok (.aload_n 0, 1) := by decide +kernel
theorem dX7_movesOne_126 : decode cX7_movesOne 126 = .ok (.getfield 40, 3) := by decide +kernel
theorem dX7_movesOne_129 : decode cX7_movesOne 129 = .ok (.iload_n 2, 1) := by decide +kernel
theorem dX7_movesOne_130 : decode cX7_movesOne 130 = .ok (.laload, 1) := by decide +kernel
theorem dX7_movesOne_131 : decode cX7_movesOne 131 = .ok (.aload_n 0, 1) := by decide +kernel
theorem dX7_movesOne_132 : decode cX7_movesOne 132 = .ok (.getfield 40, 3) := by decide +kernel
theorem dX7_movesOne_135 : decode cX7_movesOne 135 = .ok (.iload_n 1, 1) := by decide +kernel
theorem dX7_movesOne_136 : decode cX7_movesOne 136 = .ok (.laload, 1) := by decide +kernel
theorem dX7_movesOne_137 : decode cX7_movesOne 137 = .ok (.lcmp, 1) := by decide +kernel
theorem dX7_movesOne_138 : decode cX7_movesOne 138 = .ok (.ifCond .lt 5, 3) := by decide +kernel
theorem dX7_movesOne_141 : decode cX7_movesOne 141 = .ok (.iconst 1, 1) := by decide +kernel
theorem dX7_movesOne_142 : decode cX7_movesOne 142 = .ok (.ireturn, 1) := by decide +kernel
theorem dX7_movesOne_143 : decode cX7_movesOne 143 = .ok (.aload_n 0, 1) := by decide +kernel
theorem dX7_movesOne_144 : decode cX7_movesOne 144 = .ok (.getfield 22, 3) := by decide +kernel
theorem dX7_movesOne_147 : decode cX7_movesOne 147 = .ok (.iload_n 1, 1) := by decide +kernel
theorem dX7_movesOne_148 : decode cX7_movesOne 148 = .ok (.dup2, 1) := by decide +kernel
theorem dX7_movesOne_149 : decode cX7_movesOne 149 = .ok (.iaload, 1) := by decide +kernel
theorem dX7_movesOne_150 : decode cX7_movesOne 150 = .ok (.iconst 1, 1) := by decide +kernel
theorem dX7_movesOne_151 : decode cX7_movesOne 151 = .ok (.iadd, 1) := by decide +kernel
theorem dX7_movesOne_152 : decode cX7_movesOne 152 = .ok (.iastore, 1) := by decide +kernel
theorem dX7_movesOne_153 : decode cX7_movesOne 153 = .ok (.aload_n 0, 1) := by decide +kernel
theorem dX7_movesOne_154 : decode cX7_movesOne 154 = .ok (.getfield 22, 3) := by decide +kernel
theorem dX7_movesOne_157 : decode cX7_movesOne 157 = .ok (.iload_n 2, 1) := by decide +kernel
theorem dX7_movesOne_158 : decode cX7_movesOne 158 = .ok (.dup2, 1) := by decide +kernel
theorem dX7_movesOne_159 : decode cX7_movesOne 159 = .ok (.iaload, 1) := by decide +kernel
theorem dX7_movesOne_160 : decode cX7_movesOne 160 = .ok (.iconst 1, 1) := by decide +kernel
theorem dX7_movesOne_161 : decode cX7_movesOne 161 = .ok (.isub, 1) := by decide +kernel
theorem dX7_movesOne_162 : decode cX7_movesOne 162 = .ok (.iastore, 1) := by decide +kernel
theorem dX7_movesOne_163 : decode cX7_movesOne 163 = .ok (.aload_n 0, 1) := by decide +kernel
theorem dX7_movesOne_164 : decode cX7_movesOne 164 = .ok (.iconst 0, 1) := by decide +kernel
theorem dX7_movesOne_165 : decode cX7_movesOne 165 = .ok (.putfield 186, 3) := by decide +kernel
theorem dX7_movesOne_168 : decode cX7_movesOne 168 = .ok (.iconst 0, 1) := by decide +kernel
theorem dX7_movesOne_169 : decode cX7_movesOne 169 = .ok (.ireturn, 1) := by decide +kernel
theorem dX7_move_0 : decode cX7_move 0 = .ok (.aload_n 0, 1) := by decide +kernel
theorem dX7_move_1 : decode cX7_move 1 = .ok (.iconst 0, 1) := by decide +kernel
theorem dX7_move_2 : decode cX7_move 2 = .ok (.putfield 62, 3) := by decide +kernel
theorem dX7_move_5 : decode cX7_move 5 = .ok (.iload_n 1, 1) := by decide +kernel
theorem dX7_move_6 : decode cX7_move 6 = .ok (.i2l, 1) := by decide +kernel
theorem dX7_move_7 : decode cX7_move 7 = .ok (.lconst 1, 1) := by decide +kernel
theorem dX7_move_8 : decode cX7_move 8 = .ok (.ldc2_w 303, 3) := by decide +kernel
theorem dX7_move_11 : decode cX7_move 11 = .ok (.invokestatic 73, 3) := by decide +kernel
theorem dX7_move_14 : decode cX7_move 14 = .ok (.ifCond .ne 7, 3) := by decide +kernel
theorem dX7_move_17 : decode cX7_move 17 = .ok (.ldc2_w 83, 3) := by decide +kernel
theorem dX7_move_20 : decode cX7_move 20 = .ok (.lreturn, 1) := by decide +kernel
theorem dX7_move_21 : decode cX7_move 21 = .ok (.aload_n 0, 1) := by decide +kernel
theorem dX7_move_22 : decode cX7_move 22 = .ok (.getfield 176, 3) := by decide +kernel
theorem dX7_move_25 : decode cX7_move 25 = .ok (.ifCond .ne 7, 3) := by decide +kernel
theorem dX7_move_28 : decode cX7_move 28 = .ok (.ldc2_w 261, 3) := by decide +kernel
theorem dX7_move_31 : decode cX7_move 31 = .ok (.lreturn, 1) := by decide +kernel
theorem dX7_move_32 : decode cX7_move 32 = .ok (.aload_n 0, 1) := by decide +kernel
theorem dX7_move_33 : decode cX7_move 33 = .ok (.invokevirtual 295, 3) := by decide +kernel
theorem dX7_move_36 : decode cX7_move 36 = .ok (.iconst 0, 1) := by decide +kernel
theorem dX7_move_37 : decode cX7_move 37 = .ok (.istore_n 2, 1) := by decide +kernel
theorem dX7_move_38 : decode cX7_move 38 = .ok (.iload_n 2, 1) := by decide +kernel
theorem dX7_move_39 : decode cX7_move 39 = .ok (.iload_n 1, 1) := by decide +kernel
theorem dX7_move_40 : decode cX7_move 40 = .ok (.if_icmp .ge 16, 3) := by decide +kernel
theorem dX7_move_43 : decode cX7_move 43 = .ok (.aload_n 0, 1) := by decide +kernel
theorem dX7_move_44 : decode cX7_move 44 = .ok (.invokevirtual 305, 3) := by decide +kernel
theorem dX7_move_47 : decode cX7_move 47 = .ok (.ifCond .eq 9, 3) := by decide +kernel
theorem dX7_move_50 : decode cX7_move 50 = .ok (.iinc 2 1, 3) := by decide +kernel
theorem dX7_move_53 : decode cX7_move 53 = .ok (.goto (-15), 3) := by decide +kernel
theorem dX7_move_56 : decode cX7_move 56 = .ok (.iload_n 2, 1) := by decide +kernel
theorem dX7_move_57 : decode cX7_move 57 = .ok (.i2l, 1) := by decide +kernel
theorem dX7_move_58 : decode cX7_move 58 = .ok (.lreturn, 1) := by decide +kernel
theorem dX7_bits_0 : decode cX7_bits 0 = .ok (.iload_n 0, 1) := by decide +kernel
theorem dX7_bits_1 : decode cX7_bits 1 = .ok (.iconst 1, 1) := by decide +kernel
theorem dX7_bits_2 : decode cX7_bits 2 = .ok (.iand, 1) := by decide +kernel
theorem dX7_bits_3 : decode cX7_bits 3 = .ok (.iload_n 0, 1) := by decide +kernel
theorem dX7_bits_4 : decode cX7_bits 4 = .ok (.iconst 1, 1) := by decide +kernel
theorem dX7_bits_5 : decode cX7_bits 5 = .ok (.ishr, 1) := by decide +kernel
theorem dX7_bits_6 : decode cX7_bits 6 = .ok (.iconst 1, 1) := by decide +kernel
theorem dX7_bits_7 : decode cX7_bits 7 = .ok (.iand, 1) := by decide +kernel
theorem dX7_bits_8 : decode cX7_bits 8 = .ok (.iadd, 1) := by decide +kernel
theorem dX7_bits_9 : decode cX7_bits 9 = .ok (.iload_n 0, 1) := by decide +kernel
theorem dX7_bits_10 : decode cX7_bits 10 = .ok (.iconst 2, 1) := by decide +kernel
theorem dX7_bits_11 : decode cX7_bits 11 = .ok (.ishr, 1) := by decide +kernel
theorem dX7_bits_12 : decode cX7_bits 12 = .ok (.iconst 1, 1) := by decide +kernel
theorem dX7_bits_13 : decode cX7_bits 13 = .ok (.iand, 1) := by decide +kernel
theorem dX7_bits_14 : decode cX7_bits 14 = .ok (.iadd, 1) := by decide +kernel
theorem dX7_bits_15 : decode cX7_bits 15 = .ok (.ireturn, 1) := by decide +kernel
theorem dX7_kindOf_0 : decode cX7_kindOf 0 = .ok (.aload_n 0, 1) := by decide +kernel
theorem dX7_kindOf_1 : decode cX7_kindOf 1 = .ok (.invokevirtual 254, 3) := by decide +kernel
theorem dX7_kindOf_4 : decode cX7_kindOf 4 = .ok (.aload_n 0, 1) := by decide +kernel
theorem dX7_kindOf_5 : decode cX7_kindOf 5 = .ok (.aload_n 0, 1) := by decide +kernel
theorem dX7_kindOf_6 : decode cX7_kindOf 6 = .ok (.invokevirtual 244, 3) := by decide +kernel
theorem dX7_kindOf_9 : decode cX7_kindOf 9 = .ok (.iload_n 1, 1) := by decide +kernel
theorem dX7_kindOf_10 : decode cX7_kindOf 10 = .ok (.invokevirtual 211, 3) := by decide +kernel
theorem dX7_kindOf_13 : decode cX7_kindOf 13 = .ok (.istore_n 2, 1) := by decide +kernel
theorem dX7_kindOf_14 : decode cX7_kindOf 14 = .ok (.iload_n 2, 1) := by decide +kernel
theorem dX7_kindOf_15 : decode cX7_kindOf 15 = .ok (.invokestatic 309, 3) := by decide +kernel
theorem dX7_kindOf_18 : decode cX7_kindOf 18 = .ok (.iconst 1, 1) := by decide +kernel
theorem dX7_kindOf_19 : decode cX7_kindOf 19 = .ok (.if_icmp .le 17, 3) := by decide +kernel
theorem dX7_kindOf_22 : decode cX7_kindOf 22 = .ok (.iload_n 2, 1) := by decide +kernel
theorem dX7_kindOf_23 : decode cX7_kindOf 23 = .ok (.aload_n 0, 1) := by decide +kernel
theorem dX7_kindOf_24 : decode cX7_kindOf 24 = .ok (.invokevirtual 244, 3) := by decide +kernel
theorem dX7_kindOf_27 : decode cX7_kindOf 27 = .ok (.if_icmp .ne 7, 3) := by decide +kernel
theorem dX7_kindOf_30 : decode cX7_kindOf 30 = .ok (.iconst 3, 1) := by decide +kernel
theorem dX7_kindOf_31 : decode cX7_kindOf 31 = .ok (.goto 4, 3) := by decide +kernel
theorem dX7_kindOf_34 : decode cX7_kindOf 34 = .ok (.iconst 2, 1) := by decide +kernel
theorem dX7_kindOf_35 : decode cX7_kindOf 35 = .ok (.ireturn, 1) := by decide +kernel
theorem dX7_kindOf_36 : decode cX7_kindOf 36 = .ok (.iload_n 2, 1) := by decide +kernel
theorem dX7_kindOf_37 : decode cX7_kindOf 37 = .ok (.iconst 1, 1) := by decide +kernel
theorem dX7_kindOf_38 : decode cX7_kindOf 38 = .ok (.if_icmp .eq 7, 3) := by decide +kernel
theorem dX7_kindOf_41 : decode cX7_kindOf 41 = .ok (.iconst 1, 1) := by decide +kernel
theorem dX7_kindOf_42 : decode cX7_kindOf 42 = .ok (.goto 31, 3) := by decide +kernel
theorem dX7_kindOf_45 : decode cX7_kindOf 45 = .ok (.aload_n 0, 1) := by decide +kernel
theorem dX7_kindOf_46 : decode cX7_kindOf 46 = .ok (.aload_n 0, 1) := by decide +kernel
theorem dX7_kindOf_47 : decode cX7_kindOf 47 = .ok (.invokevirtual 244, 3) := by decide +kernel
theorem dX7_kindOf_50 : decode cX7_kindOf 50 = .ok (.iload_n 1, 1) := by decide +kernel
theorem dX7_kindOf_51 : decode cX7_kindOf 51 = .ok (.invokevirtual 205, 3) := by decide +kernel
theorem dX7_kindOf_54 : decode cX7_kindOf 54 = .ok (.ldc2_w 312, 3) := by decide +kernel
theorem dX7_kindOf_57 : decode cX7_kindOf 57 = .ok (.aload_n 0, 1) := by decide +kernel
theorem dX7_kindOf_58 : decode cX7_kindOf 58 = .ok (.getfield 40, 3) := by decide +kernel
theorem dX7_kindOf_61 : decode cX7_kindOf 61 = .ok (.iconst 0, 1) := by decide +kernel
theorem dX7_kindOf_62 : decode cX7_kindOf 62 = .ok (.laload, 1) := by decide +kernel
theorem dX7_kindOf_63 : decode cX7_kindOf 63 = .ok (.lmul, 1) := by decide +kernel
theorem dX7_kindOf_64 : decode cX7_kindOf 64 = .ok (.lcmp, 1) := by decide +kernel
theorem dX7_kindOf_65 : decode cX7_kindOf 65 = .ok (.ifCond .lt 7, 3) := by decide +kernel
theorem dX7_kindOf_68 : decode cX7_kindOf 68 = .ok (.iconst 5, 1) := by decide +kernel
theorem dX7_kindOf_69 : decode cX7_kindOf 69 = .ok (.goto 4, 3) := by decide +kernel
theorem dX7_kindOf_72 : decode cX7_kindOf 72 = .ok (.iconst 4, 1) := by decide +kernel
theorem dX7_kindOf_73 : decode cX7_kindOf 73 = .ok (.ireturn, 1) := by decide +kernel
theorem dX7_isOf_0 : decode cX7_isOf 0 = .ok (.iload_n 1, 1) := by decide +kernel
theorem dX7_isOf_1 : decode cX7_isOf 1 = .ok (.ifCond .eq 43, 3) := by decide +kernel
theorem dX7_isOf_4 : decode cX7_isOf 4 = .ok (.iload_n 0, 1) := by decide +kernel
theorem dX7_isOf_5 : decode cX7_isOf 5 = .ok (.iload_n 1, 1) := by decide +kernel
theorem dX7_isOf_6 : decode cX7_isOf 6 = .ok (.if_icmp .eq 38, 3) := by decide +kernel
theorem dX7_isOf_9 : decode cX7_isOf 9 = .ok (.iload_n 1, 1) := by decide +kernel
theorem dX7_isOf_10 : decode cX7_isOf 10 = .ok (.iconst 2, 1) := by decide +kernel
theorem dX7_isOf_11 : decode cX7_isOf 11 = .ok (.if_icmp .ne 8, 3) := by decide +kernel
theorem dX7_isOf_14 : decode cX7_isOf 14 = .ok (.iload_n 0, 1) := by decide +kernel
theorem dX7_isOf_15 : decode cX7_isOf 15 = .ok (.iconst 3, 1) := by decide +kernel
theorem dX7_isOf_16 : decode cX7_isOf 16 = .ok (.if_icmp .eq 28, 3) := by decide +kernel
theorem dX7_isOf_19 : decode cX7_isOf 19 = .ok (.iload_n 1, 1) := by decide +kernel
theorem dX7_isOf_20 : decode cX7_isOf 20 = .ok (.iconst 1, 1) := by decide +kernel
theorem dX7_isOf_21 : decode cX7_isOf 21 = .ok (.if_icmp .ne 13, 3) := by decide +kernel
theorem dX7_isOf_24 : decode cX7_isOf 24 = .ok (.iload_n 0, 1) := by decide +kernel
theorem dX7_isOf_25 : decode cX7_isOf 25 = .ok (.iconst 2, 1) := by decide +kernel
theorem dX7_isOf_26 : decode cX7_isOf 26 = .ok (.if_icmp .le 8, 3) := by decide +kernel
theorem dX7_isOf_29 : decode cX7_isOf 29 = .ok (.iload_n 0, 1) := by decide +kernel
theorem dX7_isOf_30 : decode cX7_isOf 30 = .ok (.iconst 3, 1) := by decide +kernel
theorem dX7_isOf_31 : decode cX7_isOf 31 = .ok (.if_icmp .ne 13, 3) := by decide +kernel
theorem dX7_isOf_34 : decode cX7_isOf 34 = .ok (.iload_n 1, 1) := by decide +kernel
theorem dX7_isOf_35 : decode cX7_isOf 35 = .ok (.iconst 4, 1) := by decide +kernel
theorem dX7_isOf_36 : decode cX7_isOf 36 = .ok (.if_icmp .ne 12, 3) := by decide +kernel
theorem dX7_isOf_39 : decode cX7_isOf 39 = .ok (.iload_n 0, 1) := by decide +kernel
theorem dX7_isOf_40 : decode cX7_isOf 40 = .ok (.iconst 5, 1) := by decide +kernel
theorem dX7_isOf_41 : decode cX7_isOf 41 = .ok (.if_icmp .ne 7, 3) := by decide +kernel
theorem dX7_isOf_44 : decode cX7_isOf 44 = .ok (.iconst 1, 1) := by decide +kernel
theorem dX7_isOf_45 : decode cX7_isOf 45 = .ok (.goto 4, 3) := by decide +kernel
theorem dX7_isOf_48 : decode cX7_isOf 48 = .ok (.iconst 0, 1) := by decide +kernel
theorem dX7_isOf_49 : decode cX7_isOf 49 = .ok (.ireturn, 1) := by decide +kernel
theorem dX7_kind_0 : decode cX7_kind 0 = .ok (.aload_n 0, 1) := by decide +kernel
theorem dX7_kind_1 : decode cX7_kind 1 = .ok (.iconst 0, 1) := by decide +kernel
theorem dX7_kind_2 : decode cX7_kind 2 = .ok (.putfield 62, 3) := by decide +kernel
theorem dX7_kind_5 : decode cX7_kind 5 = .ok (.aload_n 0, 1) := by decide +kernel
theorem dX7_kind_6 : decode cX7_kind 6 = .ok (.iload_n 1, 1) := by decide +kernel
theorem dX7_kind_7 : decode cX7_kind 7 = .ok (.invokevirtual 192, 3) := by decide +kernel
theorem dX7_kind_10 : decode cX7_kind 10 = .ok (.ifCond .eq 12, 3) := by decide +kernel
theorem dX7_kind_13 : decode cX7_kind 13 = .ok (.aload_n 0, 1) := by decide +kernel
theorem dX7_kind_14 : decode cX7_kind 14 = .ok (.iload_n 1, 1) := by decide +kernel
theorem dX7_kind_15 : decode cX7_kind 15 = .ok (.invokevirtual 314, 3) := by decide +kernel
theorem dX7_kind_18 : decode cX7_kind 18 = .ok (.i2l, 1) := by decide +kernel
theorem dX7_kind_19 : decode cX7_kind 19 = .ok (.goto 6, 3) := by decide +kernel
theorem dX7_kind_22 : decode cX7_kind 22 = .ok (.ldc2_w 83, 3) := by decide +kernel
theorem dX7_kind_25 : decode cX7_kind 25 = .ok (.lreturn, 1) := by decide +kernel
theorem dX7_as_0 : decode cX7_as 0 = .ok (.aload_n 0, 1) := by decide +kernel
theorem dX7_as_1 : decode cX7_as 1 = .ok (.iconst 0, 1) := by decide +kernel
theorem dX7_as_2 : decode cX7_as 2 = .ok (.putfield 62, 3) := by decide +kernel
theorem dX7_as_5 : decode cX7_as 5 = .ok (.aload_n 0, 1) := by decide +kernel
theorem dX7_as_6 : decode cX7_as 6 = .ok (.iload_n 1, 1) := by decide +kernel
theorem dX7_as_7 : decode cX7_as 7 = .ok (.invokevirtual 192, 3) := by decide +kernel
theorem dX7_as_10 : decode cX7_as 10 = .ok (.ifCond .eq 15, 3) := by decide +kernel
theorem dX7_as_13 : decode cX7_as 13 = .ok (.iload_n 2, 1) := by decide +kernel
theorem dX7_as_14 : decode cX7_as 14 = .ok (.i2l, 1) := by decide +kernel
theorem dX7_as_15 : decode cX7_as 15 = .ok (.lconst 0, 1) := by decide +kernel
theorem dX7_as_16 : decode cX7_as 16 = .ok (.ldc2_w 303, 3) := by decide +kernel
theorem dX7_as_19 : decode cX7_as 19 = .ok (.invokestatic 73, 3) := by decide +kernel
theorem dX7_as_22 : decode cX7_as 22 = .ok (.ifCond .ne 7, 3) := by decide +kernel
theorem dX7_as_25 : decode cX7_as 25 = .ok (.ldc2_w 83, 3) := by decide +kernel
theorem dX7_as_28 : decode cX7_as 28 = .ok (.lreturn, 1) := by decide +kernel
theorem dX7_as_29 : decode cX7_as 29 = .ok (.aload_n 0, 1) := by decide +kernel
theorem dX7_as_30 : decode cX7_as 30 = .ok (.iconst 0, 1) := by decide +kernel
theorem dX7_as_31 : decode cX7_as 31 = .ok (.putfield 66, 3) := by decide +kernel
theorem dX7_as_34 : decode cX7_as 34 = .ok (.aload_n 0, 1) := by decide +kernel
theorem dX7_as_35 : decode cX7_as 35 = .ok (.iload_n 1, 1) := by decide +kernel
theorem dX7_as_36 : decode cX7_as 36 = .ok (.invokevirtual 314, 3) := by decide +kernel
theorem dX7_as_39 : decode cX7_as 39 = .ok (.iload_n 2, 1) := by decide +kernel
theorem dX7_as_40 : decode cX7_as 40 = .ok (.invokestatic 317, 3) := by decide +kernel
theorem dX7_as_43 : decode cX7_as 43 = .ok (.ifCond .eq 8, 3) := by decide +kernel
theorem dX7_as_46 : decode cX7_as 46 = .ok (.iload_n 1, 1) := by decide +kernel
theorem dX7_as_47 : decode cX7_as 47 = .ok (.i2l, 1) := by decide +kernel
theorem dX7_as_48 : decode cX7_as 48 = .ok (.goto 8, 3) := by decide +kernel
theorem dX7_as_51 : decode cX7_as 51 = .ok (.aload_n 0, 1) := by decide +kernel
theorem dX7_as_52 : decode cX7_as 52 = .ok (.iconst 3, 1) := by decide +kernel
theorem dX7_as_53 : decode cX7_as 53 = .ok (.invokevirtual 85, 3) := by decide +kernel
theorem dX7_as_56 : decode cX7_as 56 = .ok (.lreturn, 1) := by decide +kernel
theorem dX7_began_0 : decode cX7_began 0 = .ok (.aload_n 0, 1) := by decide +kernel
theorem dX7_began_1 : decode cX7_began 1 = .ok (.getfield 320, 3) := by decide +kernel
theorem dX7_began_4 : decode cX7_began 4 = .ok (.bipush 16, 2) := by decide +kernel
theorem dX7_began_6 : decode cX7_began 6 = .ok (.if_icmp .ge 23, 3) := by decide +kernel
theorem dX7_began_9 : decode cX7_began 9 = .ok (.aload_n 0, 1) := by decide +kernel
theorem dX7_began_10 : decode cX7_began 10 = .ok (.getfield 59, 3) := by decide +kernel
theorem dX7_began_13 : decode cX7_began 13 = .ok (.aload_n 0, 1) := by decide +kernel
theorem dX7_began_14 : decode cX7_began 14 = .ok (.getfield 320, 3) := by decide +kernel
theorem dX7_began_17 : decode cX7_began 17 = .ok (.iload_n 1, 1) := by decide +kernel
theorem dX7_began_18 : decode cX7_began 18 = .ok (.iastore, 1) := by decide +kernel
theorem dX7_began_19 : decode cX7_began 19 = .ok (.aload_n 0, 1) := by decide +kernel
theorem dX7_began_20 : decode cX7_began 20 = .ok (.dup, 1) := by decide +kernel
theorem dX7_began_21 : decode cX7_began 21 = .ok (.getfield 320, 3) := by decide +kernel
theorem dX7_began_24 : decode cX7_began 24 = .ok (.iconst 1, 1) := by decide +kernel
theorem dX7_began_25 : decode cX7_began 25 = .ok (.iadd, 1) := by decide +kernel
theorem dX7_began_26 : decode cX7_began 26 = .ok (.putfield 320, 3) := by decide +kernel
theorem dX7_began_29 : decode cX7_began 29 = .ok (.return_, 1) := by decide +kernel
theorem dX7_shareOf_0 : decode cX7_shareOf 0 = .ok (.aload_n 0, 1) := by decide +kernel
theorem dX7_shareOf_1 : decode cX7_shareOf 1 = .ok (.bipush 10, 2) := by decide +kernel
theorem dX7_shareOf_3 : decode cX7_shareOf 3 = .ok (.invokevirtual 323, 3) := by decide +kernel
theorem dX7_shareOf_6 : decode cX7_shareOf 6 = .ok (.aload_n 0, 1) := by decide +kernel
theorem dX7_shareOf_7 : decode cX7_shareOf 7 = .ok (.getfield 19, 3) := by decide +kernel
theorem dX7_shareOf_10 : decode cX7_shareOf 10 = .ok (.iload_n 1, 1) := by decide +kernel
theorem dX7_shareOf_11 : decode cX7_shareOf 11 = .ok (.iaload, 1) := by decide +kernel
theorem dX7_shareOf_12 : decode cX7_shareOf 12 = .ok (.ireturn, 1) := by decide +kernel
theorem dX7_aloneMark_0 : decode cX7_aloneMark 0 = .ok (.iload_n 2, 1) := by decide +kernel
theorem dX7_aloneMark_1 : decode cX7_aloneMark 1 = .ok (.iconst 4, 1) := by decide +kernel
theorem dX7_aloneMark_2 : decode cX7_aloneMark 2 = .ok (.invokestatic 317, 3) := by decide +kernel
theorem dX7_aloneMark_5 : decode cX7_aloneMark 5 = .ok (.ifCond .eq 9, 3) := by decide +kernel
theorem dX7_aloneMark_8 : decode cX7_aloneMark 8 = .ok (.aload_n 0, 1) := by decide +kernel
theorem dX7_aloneMark_9 : decode cX7_aloneMark 9 = .ok (.bipush 23, 2) := by decide +kernel
theorem dX7_aloneMark_11 : decode cX7_aloneMark 11 = .ok (.invokevirtual 323, 3) := by decide +kernel
theorem dX7_aloneMark_14 : decode cX7_aloneMark 14 = .ok (.aload_n 0, 1) := by decide +kernel
theorem dX7_aloneMark_15 : decode cX7_aloneMark 15 = .ok (.bipush 21, 2) := by decide +kernel
theorem dX7_aloneMark_17 : decode cX7_aloneMark 17 = .ok (.invokevirtual 323, 3) := by decide +kernel
theorem dX7_aloneMark_20 : decode cX7_aloneMark 20 = .ok (.aload_n 0, 1) := by decide +kernel
theorem dX7_aloneMark_21 : decode cX7_aloneMark 21 = .ok (.bipush 20, 2) := by decide +kernel
theorem dX7_aloneMark_23 : decode cX7_aloneMark 23 = .ok (.invokevirtual 323, 3) := by decide +kernel
theorem dX7_aloneMark_26 : decode cX7_aloneMark 26 = .ok (.aload_n 0, 1) := by decide +kernel
theorem dX7_aloneMark_27 : decode cX7_aloneMark 27 = .ok (.aload_n 0, 1) := by decide +kernel
theorem dX7_aloneMark_28 : decode cX7_aloneMark 28 = .ok (.invokevirtual 244, 3) := by decide +kernel
theorem dX7_aloneMark_31 : decode cX7_aloneMark 31 = .ok (.iload_n 1, 1) := by decide +kernel
theorem dX7_aloneMark_32 : decode cX7_aloneMark 32 = .ok (.invokevirtual 211, 3) := by decide +kernel
theorem dX7_aloneMark_35 : decode cX7_aloneMark 35 = .ok (.istore_n 3, 1) := by decide +kernel
theorem dX7_aloneMark_36 : decode cX7_aloneMark 36 = .ok (.iload_n 3, 1) := by decide +kernel
theorem dX7_aloneMark_37 : decode cX7_aloneMark 37 = .ok (.iconst 1, 1) := by decide +kernel
theorem dX7_aloneMark_38 : decode cX7_aloneMark 38 = .ok (.if_icmp .ne 7, 3) := by decide +kernel
theorem dX7_aloneMark_41 : decode cX7_aloneMark 41 = .ok (.iconst 0, 1) := by decide +kernel
theorem dX7_aloneMark_42 : decode cX7_aloneMark 42 = .ok (.goto 13, 3) := by decide +kernel
theorem dX7_aloneMark_45 : decode cX7_aloneMark 45 = .ok (.iload_n 3, 1) := by decide +kernel
theorem dX7_aloneMark_46 : decode cX7_aloneMark 46 = .ok (.iconst 2, 1) := by decide +kernel
theorem dX7_aloneMark_47 : decode cX7_aloneMark 47 = .ok (.if_icmp .ne 7, 3) := by decide +kernel
theorem dX7_aloneMark_50 : decode cX7_aloneMark 50 = .ok (.iconst 1, 1) := by decide +kernel
theorem dX7_aloneMark_51 : decode cX7_aloneMark 51 = .ok (.goto 4, 3) := by decide +kernel
theorem dX7_aloneMark_54 : decode cX7_aloneMark 54 = .ok (.iconst 2, 1) := by decide +kernel
theorem dX7_aloneMark_55 : decode cX7_aloneMark 55 = .ok (.istore 4, 2) := by decide +kernel
theorem dX7_aloneMark_57 : decode cX7_aloneMark 57 = .ok (.iload_n 1, 1) := by decide +kernel
theorem dX7_aloneMark_58 : decode cX7_aloneMark 58 = .ok (.bipush 10, 2) := by decide +kernel
theorem dX7_aloneMark_60 : decode cX7_aloneMark 60 = .ok (.iload 4, 2) := by decide +kernel
theorem dX7_aloneMark_62 : decode cX7_aloneMark 62 = .ok (.imul, 1) := by decide +kernel
theorem dX7_aloneMark_63 : decode cX7_aloneMark 63 = .ok (.iadd, 1) := by decide +kernel
theorem dX7_aloneMark_64 : decode cX7_aloneMark 64 = .ok (.iload_n 2, 1) := by decide +kernel
theorem dX7_aloneMark_65 : decode cX7_aloneMark 65 = .ok (.iconst 4, 1) := by decide +kernel
theorem dX7_aloneMark_66 : decode cX7_aloneMark 66 = .ok (.invokestatic 317, 3) := by decide +kernel
theorem dX7_aloneMark_69 : decode cX7_aloneMark 69 = .ok (.ifCond .eq 8, 3) := by decide +kernel
theorem dX7_aloneMark_72 : decode cX7_aloneMark 72 = .ok (.bipush 100, 2) := by decide +kernel
theorem dX7_aloneMark_74 : decode cX7_aloneMark 74 = .ok (.goto 4, 3) := by decide +kernel
theorem dX7_aloneMark_77 : decode cX7_aloneMark 77 = .ok (.iconst 0, 1) := by decide +kernel
theorem dX7_aloneMark_78 : decode cX7_aloneMark 78 = .ok (.iadd, 1) := by decide +kernel
theorem dX7_aloneMark_79 : decode cX7_aloneMark 79 = .ok (.ireturn, 1) := by decide +kernel
theorem dX7_commonSize_0 : decode cX7_commonSize 0 = .ok (.iload_n 2, 1) := by decide +kernel
theorem dX7_commonSize_1 : decode cX7_commonSize 1 = .ok (.iconst 3, 1) := by decide +kernel
theorem dX7_commonSize_2 : decode cX7_commonSize 2 = .ok (.if_icmp .ne 9, 3) := by decide +kernel
theorem dX7_commonSize_5 : decode cX7_commonSize 5 = .ok (.aload_n 0, 1) := by decide +kernel
theorem dX7_commonSize_6 : decode cX7_commonSize 6 = .ok (.bipush 13, 2) := by decide +kernel
theorem dX7_commonSize_8 : decode cX7_commonSize 8 = .ok (.invokevirtual 323, 3) := by decide +kernel
theorem dX7_commonSize_11 : decode cX7_commonSize 11 = .ok (.aload_n 0, 1) := by decide +kernel
theorem dX7_commonSize_12 : decode cX7_commonSize 12 = .ok (.bipush 12, 2) := by decide +kernel
theorem dX7_commonSize_14 : decode cX7_commonSize 14 = .ok (.invokevirtual 323, 3) := by decide +kernel
theorem dX7_commonSize_17 : decode cX7_commonSize 17 = .ok (.aload_n 0, 1) := by decide +kernel
theorem dX7_commonSize_18 : decode cX7_commonSize 18 = .ok (.iload_n 1, 1) := by decide +kernel
theorem dX7_commonSize_19 : decode cX7_commonSize 19 = .ok (.invokevirtual 326, 3) := by decide +kernel
theorem dX7_commonSize_22 : decode cX7_commonSize 22 = .ok (.aload_n 0, 1) := by decide +kernel
theorem dX7_commonSize_23 : decode cX7_commonSize 23 = .ok (.aload_n 0, 1) := by decide +kernel
theorem dX7_commonSize_24 : decode cX7_commonSize 24 = .ok (.invokevirtual 244, 3) := by decide +kernel
theorem dX7_commonSize_27 : decode cX7_commonSize 27 = .ok (.iload_n 1, 1) := by decide +kernel
theorem dX7_commonSize_28 : decode cX7_commonSize 28 = .ok (.invokevirtual 211, 3) := by decide +kernel
theorem dX7_commonSize_31 : decode cX7_commonSize 31 = .ok (.invokestatic 309, 3) := by decide +kernel
theorem dX7_commonSize_34 : decode cX7_commonSize 34 = .ok (.imul, 1) := by decide +kernel
theorem dX7_commonSize_35 : decode cX7_commonSize 35 = .ok (.istore_n 3, 1) := by decide +kernel
theorem dX7_commonSize_36 : decode cX7_commonSize 36 = .ok (.iload_n 2, 1) := by decide +kernel
theorem dX7_commonSize_37 : decode cX7_commonSize 37 = .ok (.iconst 3, 1) := by decide +kernel
theorem dX7_commonSize_38 : decode cX7_commonSize 38 = .ok (.if_icmp .ne 9, 3) := by decide +kernel
theorem dX7_commonSize_41 : decode cX7_commonSize 41 = .ok (.iload_n 3, 1) := by decide +kernel
theorem dX7_commonSize_42 : decode cX7_commonSize 42 = .ok (.iconst 1, 1) := by decide +kernel
theorem dX7_commonSize_43 : decode cX7_commonSize 43 = .ok (.isub, 1) := by decide +kernel
theorem dX7_commonSize_44 : decode cX7_commonSize 44 = .ok (.goto 4, 3) := by decide +kernel
theorem dX7_commonSize_47 : decode cX7_commonSize 47 = .ok (.iload_n 3, 1) := by decide +kernel
theorem dX7_commonSize_48 : decode cX7_commonSize 48 = .ok (.ireturn, 1) := by decide +kernel
theorem dX7_sizeOf_0 : decode cX7_sizeOf 0 = .ok (.iload_n 2, 1) := by decide +kernel
theorem dX7_sizeOf_1 : decode cX7_sizeOf 1 = .ok (.iconst 2, 1) := by decide +kernel
theorem dX7_sizeOf_2 : decode cX7_sizeOf 2 = .ok (.invokestatic 317, 3) := by decide +kernel
theorem dX7_sizeOf_5 : decode cX7_sizeOf 5 = .ok (.ifCond .eq 10, 3) := by decide +kernel
theorem dX7_sizeOf_8 : decode cX7_sizeOf 8 = .ok (.aload_n 0, 1) := by decide +kernel
theorem dX7_sizeOf_9 : decode cX7_sizeOf 9 = .ok (.iload_n 1, 1) := by decide +kernel
theorem dX7_sizeOf_10 : decode cX7_sizeOf 10 = .ok (.iload_n 2, 1) := by decide +kernel
theorem dX7_sizeOf_11 : decode cX7_sizeOf 11 = .ok (.invokevirtual 329, 3) := by decide +kernel
theorem dX7_sizeOf_14 : decode cX7_sizeOf 14 = .ok (.ireturn, 1) := by decide +kernel
theorem dX7_sizeOf_15 : decode cX7_sizeOf 15 = .ok (.iload_n 2, 1) := by decide +kernel
theorem dX7_sizeOf_16 : decode cX7_sizeOf 16 = .ok (.iconst 5, 1) := by decide +kernel
theorem dX7_sizeOf_17 : decode cX7_sizeOf 17 = .ok (.if_icmp .ne 9, 3) := by decide +kernel
theorem dX7_sizeOf_20 : decode cX7_sizeOf 20 = .ok (.aload_n 0, 1) := by decide +kernel
theorem dX7_sizeOf_21 : decode cX7_sizeOf 21 = .ok (.bipush 15, 2) := by decide +kernel
theorem dX7_sizeOf_23 : decode cX7_sizeOf 23 = .ok (.invokevirtual 323, 3) := by decide +kernel
theorem dX7_sizeOf_26 : decode cX7_sizeOf 26 = .ok (.iload_n 2, 1) := by decide +kernel
theorem dX7_sizeOf_27 : decode cX7_sizeOf 27 = .ok (.iconst 4, 1) := by decide +kernel
theorem dX7_sizeOf_28 : decode cX7_sizeOf 28 = .ok (.invokestatic 317, 3) := by decide +kernel
theorem dX7_sizeOf_31 : decode cX7_sizeOf 31 = .ok (.ifCond .eq 9, 3) := by decide +kernel
theorem dX7_sizeOf_34 : decode cX7_sizeOf 34 = .ok (.aload_n 0, 1) := by decide +kernel
theorem dX7_sizeOf_35 : decode cX7_sizeOf 35 = .ok (.bipush 14, 2) := by decide +kernel
theorem dX7_sizeOf_37 : decode cX7_sizeOf 37 = .ok (.invokevirtual 323, 3) := by decide +kernel
theorem dX7_sizeOf_40 : decode cX7_sizeOf 40 = .ok (.aload_n 0, 1) := by decide +kernel
theorem dX7_sizeOf_41 : decode cX7_sizeOf 41 = .ok (.bipush 11, 2) := by decide +kernel
theorem dX7_sizeOf_43 : decode cX7_sizeOf 43 = .ok (.invokevirtual 323, 3) := by decide +kernel
theorem dX7_sizeOf_46 : decode cX7_sizeOf 46 = .ok (.aload_n 0, 1) := by decide +kernel
theorem dX7_sizeOf_47 : decode cX7_sizeOf 47 = .ok (.iload_n 1, 1) := by decide +kernel
theorem dX7_sizeOf_48 : decode cX7_sizeOf 48 = .ok (.invokevirtual 326, 3) := by decide +kernel
theorem dX7_sizeOf_51 : decode cX7_sizeOf 51 = .ok (.istore_n 3, 1) := by decide +kernel
theorem dX7_sizeOf_52 : decode cX7_sizeOf 52 = .ok (.iload_n 3, 1) := by decide +kernel
theorem dX7_sizeOf_53 : decode cX7_sizeOf 53 = .ok (.aload_n 0, 1) := by decide +kernel
theorem dX7_sizeOf_54 : decode cX7_sizeOf 54 = .ok (.iload_n 1, 1) := by decide +kernel
theorem dX7_sizeOf_55 : decode cX7_sizeOf 55 = .ok (.iload_n 2, 1) := by decide +kernel
theorem dX7_sizeOf_56 : decode cX7_sizeOf 56 = .ok (.invokevirtual 332, 3) := by decide +kernel
theorem dX7_sizeOf_59 : decode cX7_sizeOf 59 = .ok (.iadd, 1) := by decide +kernel
theorem dX7_sizeOf_60 : decode cX7_sizeOf 60 = .ok (.istore_n 3, 1) := by decide +kernel
theorem dX7_sizeOf_61 : decode cX7_sizeOf 61 = .ok (.iload_n 2, 1) := by decide +kernel
theorem dX7_sizeOf_62 : decode cX7_sizeOf 62 = .ok (.iconst 4, 1) := by decide +kernel
theorem dX7_sizeOf_63 : decode cX7_sizeOf 63 = .ok (.invokestatic 317, 3) := by decide +kernel
theorem dX7_sizeOf_66 : decode cX7_sizeOf 66 = .ok (.ifCond .eq 9, 3) := by decide +kernel
theorem dX7_sizeOf_69 : decode cX7_sizeOf 69 = .ok (.iconst 2, 1) := by decide +kernel
theorem dX7_sizeOf_70 : decode cX7_sizeOf 70 = .ok (.iload_n 3, 1) := by decide +kernel
theorem dX7_sizeOf_71 : decode cX7_sizeOf 71 = .ok (.imul, 1) := by decide +kernel
theorem dX7_sizeOf_72 : decode cX7_sizeOf 72 = .ok (.goto 4, 3) := by decide +kernel
theorem dX7_sizeOf_75 : decode cX7_sizeOf 75 = .ok (.iload_n 3, 1) := by decide +kernel
theorem dX7_sizeOf_76 : decode cX7_sizeOf 76 = .ok (.istore_n 3, 1) := by decide +kernel
theorem dX7_sizeOf_77 : decode cX7_sizeOf 77 = .ok (.iload_n 2, 1) := by decide +kernel
theorem dX7_sizeOf_78 : decode cX7_sizeOf 78 = .ok (.iconst 5, 1) := by decide +kernel
theorem dX7_sizeOf_79 : decode cX7_sizeOf 79 = .ok (.if_icmp .ne 14, 3) := by decide +kernel
theorem dX7_sizeOf_82 : decode cX7_sizeOf 82 = .ok (.iload_n 3, 1) := by decide +kernel
theorem dX7_sizeOf_83 : decode cX7_sizeOf 83 = .ok (.aload_n 0, 1) := by decide +kernel
theorem dX7_sizeOf_84 : decode cX7_sizeOf 84 = .ok (.iload_n 1, 1) := by decide +kernel
theorem dX7_sizeOf_85 : decode cX7_sizeOf 85 = .ok (.iload_n 2, 1) := by decide +kernel
theorem dX7_sizeOf_86 : decode cX7_sizeOf 86 = .ok (.invokevirtual 332, 3) := by decide +kernel
theorem dX7_sizeOf_89 : decode cX7_sizeOf 89 = .ok (.isub, 1) := by decide +kernel
theorem dX7_sizeOf_90 : decode cX7_sizeOf 90 = .ok (.goto 4, 3) := by decide +kernel
theorem dX7_sizeOf_93 : decode cX7_sizeOf 93 = .ok (.iload_n 3, 1) := by decide +kernel
theorem dX7_sizeOf_94 : decode cX7_sizeOf 94 = .ok (.ireturn, 1) := by decide +kernel
theorem dX7_markOf_0 : decode cX7_markOf 0 = .ok (.iload_n 2, 1) := by decide +kernel
theorem dX7_markOf_1 : decode cX7_markOf 1 = .ok (.iconst 2, 1) := by decide +kernel
theorem dX7_markOf_2 : decode cX7_markOf 2 = .ok (.invokestatic 317, 3) := by decide +kernel
theorem dX7_markOf_5 : decode cX7_markOf 5 = .ok (.ifCond .ne 10, 3) := by decide +kernel
theorem dX7_markOf_8 : decode cX7_markOf 8 = .ok (.aload_n 0, 1) := by decide +kernel
theorem dX7_markOf_9 : decode cX7_markOf 9 = .ok (.iload_n 1, 1) := by decide +kernel
theorem dX7_markOf_10 : decode cX7_markOf 10 = .ok (.iload_n 2, 1) := by decide +kernel
theorem dX7_markOf_11 : decode cX7_markOf 11 = .ok (.invokevirtual 332, 3) := by decide +kernel
theorem dX7_markOf_14 : decode cX7_markOf 14 = .ok (.ireturn, 1) := by decide +kernel
theorem dX7_markOf_15 : decode cX7_markOf 15 = .ok (.iload_n 2, 1) := by decide +kernel
theorem dX7_markOf_16 : decode cX7_markOf 16 = .ok (.iconst 3, 1) := by decide +kernel
theorem dX7_markOf_17 : decode cX7_markOf 17 = .ok (.if_icmp .ne 9, 3) := by decide +kernel
theorem dX7_markOf_20 : decode cX7_markOf 20 = .ok (.aload_n 0, 1) := by decide +kernel
theorem dX7_markOf_21 : decode cX7_markOf 21 = .ok (.bipush 22, 2) := by decide +kernel
theorem dX7_markOf_23 : decode cX7_markOf 23 = .ok (.invokevirtual 323, 3) := by decide +kernel
theorem dX7_markOf_26 : decode cX7_markOf 26 = .ok (.aload_n 0, 1) := by decide +kernel
theorem dX7_markOf_27 : decode cX7_markOf 27 = .ok (.bipush 20, 2) := by decide +kernel
theorem dX7_markOf_29 : decode cX7_markOf 29 = .ok (.invokevirtual 323, 3) := by decide +kernel
theorem dX7_markOf_32 : decode cX7_markOf 32 = .ok (.iload_n 2, 1) := by decide +kernel
theorem dX7_markOf_33 : decode cX7_markOf 33 = .ok (.iconst 3, 1) := by decide +kernel
theorem dX7_markOf_34 : decode cX7_markOf 34 = .ok (.if_icmp .ne 14, 3) := by decide +kernel
theorem dX7_markOf_37 : decode cX7_markOf 37 = .ok (.iload_n 1, 1) := by decide +kernel
theorem dX7_markOf_38 : decode cX7_markOf 38 = .ok (.aload_n 0, 1) := by decide +kernel
theorem dX7_markOf_39 : decode cX7_markOf 39 = .ok (.iload_n 1, 1) := by decide +kernel
theorem dX7_markOf_40 : decode cX7_markOf 40 = .ok (.iload_n 2, 1) := by decide +kernel
theorem dX7_markOf_41 : decode cX7_markOf 41 = .ok (.invokevirtual 329, 3) := by decide +kernel
theorem dX7_markOf_44 : decode cX7_markOf 44 = .ok (.iadd, 1) := by decide +kernel
theorem dX7_markOf_45 : decode cX7_markOf 45 = .ok (.goto 4, 3) := by decide +kernel
theorem dX7_markOf_48 : decode cX7_markOf 48 = .ok (.iload_n 1, 1) := by decide +kernel
theorem dX7_markOf_49 : decode cX7_markOf 49 = .ok (.ireturn, 1) := by decide +kernel
theorem dX7_ask_0 : decode cX7_ask 0 = .ok (.aload_n 0, 1) := by decide +kernel
theorem dX7_ask_1 : decode cX7_ask 1 = .ok (.iconst 0, 1) := by decide +kernel
theorem dX7_ask_2 : decode cX7_ask 2 = .ok (.putfield 62, 3) := by decide +kernel
theorem dX7_ask_5 : decode cX7_ask 5 = .ok (.aload_n 0, 1) := by decide +kernel
theorem dX7_ask_6 : decode cX7_ask 6 = .ok (.iload_n 1, 1) := by decide +kernel
theorem dX7_ask_7 : decode cX7_ask 7 = .ok (.invokevirtual 192, 3) := by decide +kernel
theorem dX7_ask_10 : decode cX7_ask 10 = .ok (.ifCond .eq 13, 3) := by decide +kernel
theorem dX7_ask_13 : decode cX7_ask 13 = .ok (.iload_n 2, 1) := by decide +kernel
theorem dX7_ask_14 : decode cX7_ask 14 = .ok (.i2l, 1) := by decide +kernel
theorem dX7_ask_15 : decode cX7_ask 15 = .ok (.lconst 0, 1) := by decide +kernel
theorem dX7_ask_16 : decode cX7_ask 16 = .ok (.lconst 1, 1) := by decide +kernel
theorem dX7_ask_17 : decode cX7_ask 17 = .ok (.invokestatic 73, 3) := by decide +kernel
theorem dX7_ask_20 : decode cX7_ask 20 = .ok (.ifCond .ne 7, 3) := by decide +kernel
theorem dX7_ask_23 : decode cX7_ask 23 = .ok (.ldc2_w 83, 3) := by decide +kernel
theorem dX7_ask_26 : decode cX7_ask 26 = .ok (.lreturn, 1) := by decide +kernel
theorem dX7_ask_27 : decode cX7_ask 27 = .ok (.aload_n 0, 1) := by decide +kernel
theorem dX7_ask_28 : decode cX7_ask 28 = .ok (.iconst 0, 1) := by decide +kernel
theorem dX7_ask_29 : decode cX7_ask 29 = .ok (.putfield 320, 3) := by decide +kernel
theorem dX7_ask_32 : decode cX7_ask 32 = .ok (.aload_n 0, 1) := by decide +kernel
theorem dX7_ask_33 : decode cX7_ask 33 = .ok (.iload_n 1, 1) := by decide +kernel
theorem dX7_ask_34 : decode cX7_ask 34 = .ok (.invokevirtual 314, 3) := by decide +kernel
theorem dX7_ask_37 : decode cX7_ask 37 = .ok (.istore_n 3, 1) := by decide +kernel
theorem dX7_ask_38 : decode cX7_ask 38 = .ok (.iload_n 2, 1) := by decide +kernel
theorem dX7_ask_39 : decode cX7_ask 39 = .ok (.ifCond .ne 13, 3) := by decide +kernel
theorem dX7_ask_42 : decode cX7_ask 42 = .ok (.aload_n 0, 1) := by decide +kernel
theorem dX7_ask_43 : decode cX7_ask 43 = .ok (.iload_n 1, 1) := by decide +kernel
theorem dX7_ask_44 : decode cX7_ask 44 = .ok (.iload_n 3, 1) := by decide +kernel
theorem dX7_ask_45 : decode cX7_ask 45 = .ok (.invokevirtual 335, 3) := by decide +kernel
theorem dX7_ask_48 : decode cX7_ask 48 = .ok (.i2l, 1) := by decide +kernel
theorem dX7_ask_49 : decode cX7_ask 49 = .ok (.goto 10, 3) := by decide +kernel
theorem dX7_ask_52 : decode cX7_ask 52 = .ok (.aload_n 0, 1) := by decide +kernel
theorem dX7_ask_53 : decode cX7_ask 53 = .ok (.iload_n 1, 1) := by decide +kernel
theorem dX7_ask_54 : decode cX7_ask 54 = .ok (.iload_n 3, 1) := by decide +kernel
theorem dX7_ask_55 : decode cX7_ask 55 = .ok (.invokevirtual 338, 3) := by decide +kernel
theorem dX7_ask_58 : decode cX7_ask 58 = .ok (.i2l, 1) := by decide +kernel
theorem dX7_ask_59 : decode cX7_ask 59 = .ok (.lreturn, 1) := by decide +kernel
theorem dX7_trace_0 : decode cX7_trace 0 = .ok (.aload_n 0, 1) := by decide +kernel
theorem dX7_trace_1 : decode cX7_trace 1 = .ok (.iconst 0, 1) := by decide +kernel
theorem dX7_trace_2 : decode cX7_trace 2 = .ok (.putfield 62, 3) := by decide +kernel
theorem dX7_trace_5 : decode cX7_trace 5 = .ok (.iload_n 1, 1) := by decide +kernel
theorem dX7_trace_6 : decode cX7_trace 6 = .ok (.i2l, 1) := by decide +kernel
theorem dX7_trace_7 : decode cX7_trace 7 = .ok (.lconst 0, 1) := by decide +kernel
theorem dX7_trace_8 : decode cX7_trace 8 = .ok (.aload_n 0, 1) := by decide +kernel
theorem dX7_trace_9 : decode cX7_trace 9 = .ok (.getfield 320, 3) := by decide +kernel
theorem dX7_trace_12 : decode cX7_trace 12 = .ok (.iconst 1, 1) := by decide +kernel
theorem dX7_trace_13 : decode cX7_trace 13 = .ok (.isub, 1) := by decide +kernel
theorem dX7_trace_14 : decode cX7_trace 14 = .ok (.i2l, 1) := by decide +kernel
theorem dX7_trace_15 : decode cX7_trace 15 = .ok (.invokestatic 73, 3) := by decide +kernel
theorem dX7_trace_18 : decode cX7_trace 18 = .ok (.ifCond .eq 12, 3) := by decide +kernel
theorem dX7_trace_21 : decode cX7_trace 21 = .ok (.aload_n 0, 1) := by decide +kernel
theorem dX7_trace_22 : decode cX7_trace 22 = .ok (.getfield 59, 3) := by decide +kernel
theorem dX7_trace_25 : decode cX7_trace 25 = .ok (.iload_n 1, 1) := by decide +kernel
theorem dX7_trace_26 : decode cX7_trace 26 = .ok (.iaload, 1) := by decide +kernel
theorem dX7_trace_27 : decode cX7_trace 27 = .ok (.goto 5, 3) := by decide +kernel
theorem dX7_trace_30 : decode cX7_trace 30 = .ok (.ldc 101, 2) := by decide +kernel
theorem dX7_trace_32 : decode cX7_trace 32 = .ok (.ireturn, 1) := by decide +kernel
theorem dX7_count_0 : decode cX7_count 0 = .ok (.aload_n 0, 1) := by decide +kernel
theorem dX7_count_1 : decode cX7_count 1 = .ok (.iconst 0, 1) := by decide +kernel
theorem dX7_count_2 : decode cX7_count 2 = .ok (.putfield 62, 3) := by decide +kernel
theorem dX7_count_5 : decode cX7_count 5 = .ok (.iconst 0, 1) := by decide +kernel
theorem dX7_count_6 : decode cX7_count 6 = .ok (.istore_n 2, 1) := by decide +kernel
theorem dX7_count_7 : decode cX7_count 7 = .ok (.iload_n 1, 1) := by decide +kernel
theorem dX7_count_8 : decode cX7_count 8 = .ok (.tableswitch 174 0 5 #[40, 74, 80, 86, 114, 168], 40) := by decide +kernel
theorem dX7_count_48 : decode cX7_count 48 = .ok (.iconst 0, 1) := by decide +kernel
theorem dX7_count_49 : decode cX7_count 49 = .ok (.istore_n 3, 1) := by decide +kernel
theorem dX7_count_50 : decode cX7_count 50 = .ok (.iload_n 3, 1) := by decide +kernel
theorem dX7_count_51 : decode cX7_count 51 = .ok (.bipush 8, 2) := by decide +kernel
theorem dX7_count_53 : decode cX7_count 53 = .ok (.if_icmp .ge 26, 3) := by decide +kernel
theorem dX7_count_56 : decode cX7_count 56 = .ok (.iload_n 2, 1) := by decide +kernel
theorem dX7_count_57 : decode cX7_count 57 = .ok (.aload_n 0, 1) := by decide +kernel
theorem dX7_count_58 : decode cX7_count 58 = .ok (.getfield 9, 3) := by decide +kernel
theorem dX7_count_61 : decode cX7_count 61 = .ok (.iload_n 3, 1) := by decide +kernel
theorem dX7_count_62 : decode cX7_count 62 = .ok (.iaload, 1) := by decide +kernel
theorem dX7_count_63 : decode cX7_count 63 = .ok (.ifCond .lt 7, 3) := by decide +kernel
theorem dX7_count_66 : decode cX7_count 66 = .ok (.iconst 1, 1) := by decide +kernel
theorem dX7_count_67 : decode cX7_count 67 = .ok (.goto 4, 3) := by decide +kernel
theorem dX7_count_70 : decode cX7_count 70 = .ok (.iconst 0, 1) := by decide +kernel
theorem dX7_count_71 : decode cX7_count 71 = .ok (.iadd, 1) := by decide +kernel
theorem dX7_count_72 : decode cX7_count 72 = .ok (.istore_n 2, 1) := by decide +kernel
theorem dX7_count_73 : decode cX7_count 73 = .ok (.iinc 3 1, 3) := by decide +kernel
theorem dX7_count_76 : decode cX7_count 76 = .ok (.goto (-26), 3) := by decide +kernel
theorem dX7_count_79 : decode cX7_count 79 = .ok (.iload_n 2, 1) := by decide +kernel
theorem dX7_count_80 : decode cX7_count 80 = .ok (.i2l, 1) := by decide +kernel
theorem dX7_count_81 : decode cX7_count 81 = .ok (.lreturn, 1) := by decide +kernel
theorem dX7_count_82 : decode cX7_count 82 = .ok (.aload_n 0, 1) := by decide +kernel
theorem dX7_count_83 : decode cX7_count 83 = .ok (.getfield 176, 3) := by decide +kernel
theorem dX7_count_86 : decode cX7_count 86 = .ok (.i2l, 1) := by decide +kernel
theorem dX7_count_87 : decode cX7_count 87 = .ok (.lreturn, 1) := by decide +kernel
theorem dX7_count_88 : decode cX7_count 88 = .ok (.aload_n 0, 1) := by decide +kernel
theorem dX7_count_89 : decode cX7_count 89 = .ok (.getfield 179, 3) := by decide +kernel
theorem dX7_count_92 : decode cX7_count 92 = .ok (.i2l, 1) := by decide +kernel
theorem dX7_count_93 : decode cX7_count 93 = .ok (.lreturn, 1) := by decide +kernel
theorem dX7_count_94 : decode cX7_count 94 = .ok (.iconst 0, 1) := by decide +kernel
theorem dX7_count_95 : decode cX7_count 95 = .ok (.istore_n 3, 1) := by decide +kernel
theorem dX7_count_96 : decode cX7_count 96 = .ok (.iload_n 3, 1) := by decide +kernel
theorem dX7_count_97 : decode cX7_count 97 = .ok (.aload_n 0, 1) := by decide +kernel
theorem dX7_count_98 : decode cX7_count 98 = .ok (.getfield 176, 3) := by decide +kernel
theorem dX7_count_101 : decode cX7_count 101 = .ok (.if_icmp .ge 18, 3) := by decide +kernel
theorem dX7_count_104 : decode cX7_count 104 = .ok (.iload_n 2, 1) := by decide +kernel
theorem dX7_count_105 : decode cX7_count 105 = .ok (.aload_n 0, 1) := by decide +kernel
theorem dX7_count_106 : decode cX7_count 106 = .ok (.getfield 22, 3) := by decide +kernel
theorem dX7_count_109 : decode cX7_count 109 = .ok (.iload_n 3, 1) := by decide +kernel
theorem dX7_count_110 : decode cX7_count 110 = .ok (.iaload, 1) := by decide +kernel
theorem dX7_count_111 : decode cX7_count 111 = .ok (.iadd, 1) := by decide +kernel
theorem dX7_count_112 : decode cX7_count 112 = .ok (.istore_n 2, 1) := by decide +kernel
theorem dX7_count_113 : decode cX7_count 113 = .ok (.iinc 3 1, 3) := by decide +kernel
theorem dX7_count_116 : decode cX7_count 116 = .ok (.goto (-20), 3) := by decide +kernel
theorem dX7_count_119 : decode cX7_count 119 = .ok (.iload_n 2, 1) := by decide +kernel
theorem dX7_count_120 : decode cX7_count 120 = .ok (.i2l, 1) := by decide +kernel
theorem dX7_count_121 : decode cX7_count 121 = .ok (.lreturn, 1) := by decide +kernel
theorem dX7_count_122 : decode cX7_count 122 = .ok (.aload_n 0, 1) := by decide +kernel
theorem dX7_count_123 : decode cX7_count 123 = .ok (.getfield 176, 3) := by decide +kernel
theorem dX7_count_126 : decode cX7_count 126 = .ok (.ifCond .le 7, 3) := by decide +kernel
theorem dX7_count_129 : decode cX7_count 129 = .ok (.aload_n 0, 1) := by decide +kernel
theorem dX7_count_130 : decode cX7_count 130 = .ok (.invokevirtual 254, 3) := by decide +kernel
theorem dX7_count_133 : decode cX7_count 133 = .ok (.iconst 0, 1) := by decide +kernel
theorem dX7_count_134 : decode cX7_count 134 = .ok (.istore_n 3, 1) := by decide +kernel
theorem dX7_count_135 : decode cX7_count 135 = .ok (.iload_n 3, 1) := by decide +kernel
theorem dX7_count_136 : decode cX7_count 136 = .ok (.aload_n 0, 1) := by decide +kernel
theorem dX7_count_137 : decode cX7_count 137 = .ok (.getfield 179, 3) := by decide +kernel
theorem dX7_count_140 : decode cX7_count 140 = .ok (.if_icmp .ge 33, 3) := by decide +kernel
theorem dX7_count_143 : decode cX7_count 143 = .ok (.iload_n 2, 1) := by decide +kernel
theorem dX7_count_144 : decode cX7_count 144 = .ok (.aload_n 0, 1) := by decide +kernel
theorem dX7_count_145 : decode cX7_count 145 = .ok (.aload_n 0, 1) := by decide +kernel
theorem dX7_count_146 : decode cX7_count 146 = .ok (.invokevirtual 244, 3) := by decide +kernel
theorem dX7_count_149 : decode cX7_count 149 = .ok (.iload_n 3, 1) := by decide +kernel
theorem dX7_count_150 : decode cX7_count 150 = .ok (.invokevirtual 211, 3) := by decide +kernel
theorem dX7_count_153 : decode cX7_count 153 = .ok (.invokestatic 309, 3) := by decide +kernel
theorem dX7_count_156 : decode cX7_count 156 = .ok (.iconst 1, 1) := by decide +kernel
theorem dX7_count_157 : decode cX7_count 157 = .ok (.if_icmp .le 7, 3) := by decide +kernel
theorem dX7_count_160 : decode cX7_count 160 = .ok (.iconst 1, 1) := by decide +kernel
theorem dX7_count_161 : decode cX7_count 161 = .ok (.goto 4, 3) := by decide +kernel
theorem dX7_count_164 : decode cX7_count 164 = .ok (.iconst 0, 1) := by decide +kernel
theorem dX7_count_165 : decode cX7_count 165 = .ok (.iadd, 1) := by decide +kernel
theorem dX7_count_166 : decode cX7_count 166 = .ok (.istore_n 2, 1) := by decide +kernel
theorem dX7_count_167 : decode cX7_count 167 = .ok (.iinc 3 1, 3) := by decide +kernel
theorem dX7_count_170 : decode cX7_count 170 = .ok (.goto (-35), 3) := by decide +kernel
theorem dX7_count_173 : decode cX7_count 173 = .ok (.iload_n 2, 1) := by decide +kernel
theorem dX7_count_174 : decode cX7_count 174 = .ok (.i2l, 1) := by decide +kernel
theorem dX7_count_175 : decode cX7_count 175 = .ok (.lreturn, 1) := by decide +kernel
theorem dX7_count_176 : decode cX7_count 176 = .ok (.aload_n 0, 1) := by decide +kernel
theorem dX7_count_177 : decode cX7_count 177 = .ok (.getfield 91, 3) := by decide +kernel
theorem dX7_count_180 : decode cX7_count 180 = .ok (.i2l, 1) := by decide +kernel
theorem dX7_count_181 : decode cX7_count 181 = .ok (.lreturn, 1) := by decide +kernel
theorem dX7_count_182 : decode cX7_count 182 = .ok (.ldc2_w 83, 3) := by decide +kernel
theorem dX7_count_185 : decode cX7_count 185 = .ok (.lreturn, 1) := by decide +kernel
theorem dX7_status_0 : decode cX7_status 0 = .ok (.aload_n 0, 1) := by decide +kernel
theorem dX7_status_1 : decode cX7_status 1 = .ok (.iconst 0, 1) := by decide +kernel
theorem dX7_status_2 : decode cX7_status 2 = .ok (.putfield 62, 3) := by decide +kernel
theorem dX7_status_5 : decode cX7_status 5 = .ok (.aload_n 0, 1) := by decide +kernel
theorem dX7_status_6 : decode cX7_status 6 = .ok (.getfield 66, 3) := by decide +kernel
theorem dX7_status_9 : decode cX7_status 9 = .ok (.ireturn, 1) := by decide +kernel
