theorem dX0_init_0 : decode cX0_init 0 = .ok (.aload_n 0, 1) := by decide +kernel
theorem dX0_init_1 : decode cX0_init 1 = .ok (.invokespecial 3, 3) := by decide +kernel
theorem dX0_init_4 : decode cX0_init 4 = .ok (.aload_n 0, 1) := by decide +kernel
theorem dX0_init_5 : decode cX0_init 5 = .ok (.iconst 0, 1) := by decide +kernel
theorem dX0_init_6 : decode cX0_init 6 = .ok (.putfield 9, 3) := by decide +kernel
theorem dX0_init_9 : decode cX0_init 9 = .ok (.aload_n 0, 1) := by decide +kernel
theorem dX0_init_10 : decode cX0_init 10 = .ok (.bipush 6, 2) := by decide +kernel
theorem dX0_init_12 : decode cX0_init 12 = .ok (.newarray .int, 2) := by decide +kernel
theorem dX0_init_14 : decode cX0_init 14 = .ok (.putfield 15, 3) := by decide +kernel
theorem dX0_init_17 : decode cX0_init 17 = .ok (.aload_n 0, 1) := by decide +kernel
theorem dX0_init_18 : decode cX0_init 18 = .ok (.bipush 6, 2) := by decide +kernel
theorem dX0_init_20 : decode cX0_init 20 = .ok (.newarray .long, 2) := by decide +kernel
theorem dX0_init_22 : decode cX0_init 22 = .ok (.putfield 19, 3) := by decide +kernel
theorem dX0_init_25 : decode cX0_init 25 = .ok (.aload_n 0, 1) := by decide +kernel
theorem dX0_init_26 : decode cX0_init 26 = .ok (.bipush 6, 2) := by decide +kernel
theorem dX0_init_28 : decode cX0_init 28 = .ok (.newarray .long, 2) := by decide +kernel
theorem dX0_init_30 : decode cX0_init 30 = .ok (.putfield 23, 3) := by decide +kernel
theorem dX0_init_33 : decode cX0_init 33 = .ok (.aload_n 0, 1) := by decide +kernel
theorem dX0_init_34 : decode cX0_init 34 = .ok (.bipush 6, 2) := by decide +kernel
theorem dX0_init_36 : decode cX0_init 36 = .ok (.newarray .int, 2) := by decide +kernel
theorem dX0_init_38 : decode cX0_init 38 = .ok (.putfield 26, 3) := by decide +kernel
theorem dX0_init_41 : decode cX0_init 41 = .ok (.aload_n 0, 1) := by decide +kernel
theorem dX0_init_42 : decode cX0_init 42 = .ok (.lconst 1, 1) := by decide +kernel
theorem dX0_init_43 : decode cX0_init 43 = .ok (.putfield 29, 3) := by decide +kernel
theorem dX0_init_46 : decode cX0_init 46 = .ok (.aload_n 0, 1) := by decide +kernel
theorem dX0_init_47 : decode cX0_init 47 = .ok (.lconst 1, 1) := by decide +kernel
theorem dX0_init_48 : decode cX0_init 48 = .ok (.putfield 33, 3) := by decide +kernel
theorem dX0_init_51 : decode cX0_init 51 = .ok (.aload_n 0, 1) := by decide +kernel
theorem dX0_init_52 : decode cX0_init 52 = .ok (.lconst 1, 1) := by decide +kernel
theorem dX0_init_53 : decode cX0_init 53 = .ok (.putfield 36, 3) := by decide +kernel
theorem dX0_init_56 : decode cX0_init 56 = .ok (.aload_n 0, 1) := by decide +kernel
theorem dX0_init_57 : decode cX0_init 57 = .ok (.lconst 1, 1) := by decide +kernel
theorem dX0_init_58 : decode cX0_init 58 = .ok (.putfield 39, 3) := by decide +kernel
theorem dX0_init_61 : decode cX0_init 61 = .ok (.return_, 1) := by decide +kernel
theorem dX0_layTwo_0 : decode cX0_layTwo 0 = .ok (.aload_n 0, 1) := by decide +kernel
theorem dX0_layTwo_1 : decode cX0_layTwo 1 = .ok (.aload_n 1, 1) := by decide +kernel
theorem dX0_layTwo_2 : decode cX0_layTwo 2 = .ok (.getfield 42, 3) := by decide +kernel
theorem dX0_layTwo_5 : decode cX0_layTwo 5 = .ok (.putfield 9, 3) := by decide +kernel
theorem dX0_layTwo_8 : decode cX0_layTwo 8 = .ok (.aload_n 0, 1) := by decide +kernel
theorem dX0_layTwo_9 : decode cX0_layTwo 9 = .ok (.aload_n 1, 1) := by decide +kernel
theorem dX0_layTwo_10 : decode cX0_layTwo 10 = .ok (.getfield 45, 3) := by decide +kernel
theorem dX0_layTwo_13 : decode cX0_layTwo 13 = .ok (.iload_n 2, 1) := by decide +kernel
theorem dX0_layTwo_14 : decode cX0_layTwo 14 = .ok (.iaload, 1) := by decide +kernel
theorem dX0_layTwo_15 : decode cX0_layTwo 15 = .ok (.i2l, 1) := by decide +kernel
theorem dX0_layTwo_16 : decode cX0_layTwo 16 = .ok (.putfield 29, 3) := by decide +kernel
theorem dX0_layTwo_19 : decode cX0_layTwo 19 = .ok (.aload_n 0, 1) := by decide +kernel
theorem dX0_layTwo_20 : decode cX0_layTwo 20 = .ok (.aload_n 1, 1) := by decide +kernel
theorem dX0_layTwo_21 : decode cX0_layTwo 21 = .ok (.getfield 45, 3) := by decide +kernel
theorem dX0_layTwo_24 : decode cX0_layTwo 24 = .ok (.iload_n 3, 1) := by decide +kernel
theorem dX0_layTwo_25 : decode cX0_layTwo 25 = .ok (.iaload, 1) := by decide +kernel
theorem dX0_layTwo_26 : decode cX0_layTwo 26 = .ok (.i2l, 1) := by decide +kernel
theorem dX0_layTwo_27 : decode cX0_layTwo 27 = .ok (.putfield 33, 3) := by decide +kernel
theorem dX0_layTwo_30 : decode cX0_layTwo 30 = .ok (.iconst 0, 1) := by decide +kernel
theorem dX0_layTwo_31 : decode cX0_layTwo 31 = .ok (.istore 4, 2) := by decide +kernel
theorem dX0_layTwo_33 : decode cX0_layTwo 33 = .ok (.iload 4, 2) := by decide +kernel
theorem dX0_layTwo_35 : decode cX0_layTwo 35 = .ok (.aload_n 0, 1) := by decide +kernel
theorem dX0_layTwo_36 : decode cX0_layTwo 36 = .ok (.getfield 9, 3) := by decide +kernel
theorem dX0_layTwo_39 : decode cX0_layTwo 39 = .ok (.if_icmp .ge 57, 3) := by decide +kernel
theorem dX0_layTwo_42 : decode cX0_layTwo 42 = .ok (.aload_n 0, 1) := by decide +kernel
theorem dX0_layTwo_43 : decode cX0_layTwo 43 = .ok (.getfield 15, 3) := by decide +kernel
theorem dX0_layTwo_46 : decode cX0_layTwo 46 = .ok (.iload 4, 2) := by decide +kernel
theorem dX0_layTwo_48 : decode cX0_layTwo 48 = .ok (.aload_n 1, 1) := by decide +kernel
theorem dX0_layTwo_49 : decode cX0_layTwo 49 = .ok (.getfield 48, 3) := by decide +kernel
theorem dX0_layTwo_52 : decode cX0_layTwo 52 = .ok (.iload 4, 2) := by decide +kernel
theorem dX0_layTwo_54 : decode cX0_layTwo 54 = .ok (.iaload, 1) := by decide +kernel
theorem dX0_layTwo_55 : decode cX0_layTwo 55 = .ok (.iastore, 1) := by decide +kernel
theorem dX0_layTwo_56 : decode cX0_layTwo 56 = .ok (.aload_n 0, 1) := by decide +kernel
theorem dX0_layTwo_57 : decode cX0_layTwo 57 = .ok (.getfield 19, 3) := by decide +kernel
theorem dX0_layTwo_60 : decode cX0_layTwo 60 = .ok (.iload 4, 2) := by decide +kernel
theorem dX0_layTwo_62 : decode cX0_layTwo 62 = .ok (.aload_n 1, 1) := by decide +kernel
theorem dX0_layTwo_63 : decode cX0_layTwo 63 = .ok (.getfield 49, 3) := by decide +kernel
theorem dX0_layTwo_66 : decode cX0_layTwo 66 = .ok (.iload_n 2, 1) := by decide +kernel
theorem dX0_layTwo_67 : decode cX0_layTwo 67 = .ok (.aaload, 1) := by decide +kernel
theorem dX0_layTwo_68 : decode cX0_layTwo 68 = .ok (.iload 4, 2) := by decide +kernel
theorem dX0_layTwo_70 : decode cX0_layTwo 70 = .ok (.iaload, 1) := by decide +kernel
theorem dX0_layTwo_71 : decode cX0_layTwo 71 = .ok (.i2l, 1) := by decide +kernel
theorem dX0_layTwo_72 : decode cX0_layTwo 72 = .ok (.lastore, 1) := by decide +kernel
theorem dX0_layTwo_73 : decode cX0_layTwo 73 = .ok (.aload_n 0, 1) := by decide +kernel
theorem dX0_layTwo_74 : decode cX0_layTwo 74 = .ok (.getfield 23, 3) := by decide +kernel
theorem dX0_layTwo_77 : decode cX0_layTwo 77 = .ok (.iload 4, 2) := by decide +kernel
theorem dX0_layTwo_79 : decode cX0_layTwo 79 = .ok (.aload_n 1, 1) := by decide +kernel
theorem dX0_layTwo_80 : decode cX0_layTwo 80 = .ok (.getfield 49, 3) := by decide +kernel
theorem dX0_layTwo_83 : decode cX0_layTwo 83 = .ok (.iload_n 3, 1) := by decide +kernel
theorem dX0_layTwo_84 : decode cX0_layTwo 84 = .ok (.aaload, 1) := by decide +kernel
theorem dX0_layTwo_85 : decode cX0_layTwo 85 = .ok (.iload 4, 2) := by decide +kernel
theorem dX0_layTwo_87 : decode cX0_layTwo 87 = .ok (.iaload, 1) := by decide +kernel
theorem dX0_layTwo_88 : decode cX0_layTwo 88 = .ok (.i2l, 1) := by decide +kernel
theorem dX0_layTwo_89 : decode cX0_layTwo 89 = .ok (.lastore, 1) := by decide +kernel
theorem dX0_layTwo_90 : decode cX0_layTwo 90 = .ok (.iinc 4 1, 3) := by decide +kernel
theorem dX0_layTwo_93 : decode cX0_layTwo 93 = .ok (.goto (-60), 3) := by decide +kernel
theorem dX0_layTwo_96 : decode cX0_layTwo 96 = .ok (.return_, 1) := by decide +kernel
theorem dX0_layTied_0 : decode cX0_layTied 0 = .ok (.aload_n 0, 1) := by decide +kernel
theorem dX0_layTied_1 : decode cX0_layTied 1 = .ok (.aload_n 1, 1) := by decide +kernel
theorem dX0_layTied_2 : decode cX0_layTied 2 = .ok (.getfield 42, 3) := by decide +kernel
theorem dX0_layTied_5 : decode cX0_layTied 5 = .ok (.putfield 9, 3) := by decide +kernel
theorem dX0_layTied_8 : decode cX0_layTied 8 = .ok (.aload_n 0, 1) := by decide +kernel
theorem dX0_layTied_9 : decode cX0_layTied 9 = .ok (.aload_n 1, 1) := by decide +kernel
theorem dX0_layTied_10 : decode cX0_layTied 10 = .ok (.getfield 45, 3) := by decide +kernel
theorem dX0_layTied_13 : decode cX0_layTied 13 = .ok (.iload_n 2, 1) := by decide +kernel
theorem dX0_layTied_14 : decode cX0_layTied 14 = .ok (.iaload, 1) := by decide +kernel
theorem dX0_layTied_15 : decode cX0_layTied 15 = .ok (.i2l, 1) := by decide +kernel
theorem dX0_layTied_16 : decode cX0_layTied 16 = .ok (.lload_n 3, 1) := by decide +kernel
theorem dX0_layTied_17 : decode cX0_layTied 17 = .ok (.lmul, 1) := by decide +kernel
theorem dX0_layTied_18 : decode cX0_layTied 18 = .ok (.aload_n 1, 1) := by decide +kernel
theorem dX0_layTied_19 : decode cX0_layTied 19 = .ok (.getfield 45, 3) := by decide +kernel
theorem dX0_layTied_22 : decode cX0_layTied 22 = .ok (.iload 5, 2) := by decide +kernel
theorem dX0_layTied_24 : decode cX0_layTied 24 = .ok (.iaload, 1) := by decide +kernel
theorem dX0_layTied_25 : decode cX0_layTied 25 = .ok (.i2l, 1) := by decide +kernel
theorem dX0_layTied_26 : decode cX0_layTied 26 = .ok (.lload 6, 2) := by decide +kernel
theorem dX0_layTied_28 : decode cX0_layTied 28 = .ok (.lmul, 1) := by decide +kernel
theorem dX0_layTied_29 : decode cX0_layTied 29 = .ok (.ladd, 1) := by decide +kernel
theorem dX0_layTied_30 : decode cX0_layTied 30 = .ok (.putfield 29, 3) := by decide +kernel
theorem dX0_layTied_33 : decode cX0_layTied 33 = .ok (.aload_n 0, 1) := by decide +kernel
theorem dX0_layTied_34 : decode cX0_layTied 34 = .ok (.aload_n 1, 1) := by decide +kernel
theorem dX0_layTied_35 : decode cX0_layTied 35 = .ok (.getfield 45, 3) := by decide +kernel
theorem dX0_layTied_38 : decode cX0_layTied 38 = .ok (.iload 8, 2) := by decide +kernel
theorem dX0_layTied_40 : decode cX0_layTied 40 = .ok (.iaload, 1) := by decide +kernel
theorem dX0_layTied_41 : decode cX0_layTied 41 = .ok (.i2l, 1) := by decide +kernel
theorem dX0_layTied_42 : decode cX0_layTied 42 = .ok (.putfield 33, 3) := by decide +kernel
theorem dX0_layTied_45 : decode cX0_layTied 45 = .ok (.iconst 0, 1) := by decide +kernel
theorem dX0_layTied_46 : decode cX0_layTied 46 = .ok (.istore 9, 2) := by decide +kernel
theorem dX0_layTied_48 : decode cX0_layTied 48 = .ok (.iload 9, 2) := by decide +kernel
theorem dX0_layTied_50 : decode cX0_layTied 50 = .ok (.aload_n 0, 1) := by decide +kernel
theorem dX0_layTied_51 : decode cX0_layTied 51 = .ok (.getfield 9, 3) := by decide +kernel
theorem dX0_layTied_54 : decode cX0_layTied 54 = .ok (.if_icmp .ge 77, 3) := by decide +kernel
theorem dX0_layTied_57 : decode cX0_layTied 57 = .ok (.aload_n 0, 1) := by decide +kernel
theorem dX0_layTied_58 : decode cX0_layTied 58 = .ok (.getfield 15, 3) := by decide +kernel
theorem dX0_layTied_61 : decode cX0_layTied 61 = .ok (.iload 9, 2) := by decide +kernel
theorem dX0_layTied_63 : decode cX0_layTied 63 = .ok (.aload_n 1, 1) := by decide +kernel
theorem dX0_layTied_64 : decode cX0_layTied 64 = .ok (.getfield 48, 3) := by decide +kernel
theorem dX0_layTied_67 : decode cX0_layTied 67 = .ok (.iload 9, 2) := by decide +kernel
theorem dX0_layTied_69 : decode cX0_layTied 69 = .ok (.iaload, 1) := by decide +kernel
theorem dX0_layTied_70 : decode cX0_layTied 70 = .ok (.iastore, 1) := by decide +kernel
theorem dX0_layTied_71 : decode cX0_layTied 71 = .ok (.aload_n 0, 1) := by decide +kernel
theorem dX0_layTied_72 : decode cX0_layTied 72 = .ok (.getfield 19, 3) := by decide +kernel
theorem dX0_layTied_75 : decode cX0_layTied 75 = .ok (.iload 9, 2) := by decide +kernel
theorem dX0_layTied_77 : decode cX0_layTied 77 = .ok (.aload_n 1, 1) := by decide +kernel
theorem dX0_layTied_78 : decode cX0_layTied 78 = .ok (.getfield 49, 3) := by decide +kernel
theorem dX0_layTied_81 : decode cX0_layTied 81 = .ok (.iload_n 2, 1) := by decide +kernel
theorem dX0_layTied_82 : decode cX0_layTied 82 = .ok (.aaload, 1) := by decide +kernel
theorem dX0_layTied_83 : decode cX0_layTied 83 = .ok (.iload 9, 2) := by decide +kernel
theorem dX0_layTied_85 : decode cX0_layTied 85 = .ok (.iaload, 1) := by decide +kernel
theorem dX0_layTied_86 : decode cX0_layTied 86 = .ok (.i2l, 1) := by decide +kernel
theorem dX0_layTied_87 : decode cX0_layTied 87 = .ok (.lload_n 3, 1) := by decide +kernel
theorem dX0_layTied_88 : decode cX0_layTied 88 = .ok (.lmul, 1) := by decide +kernel
theorem dX0_layTied_89 : decode cX0_layTied 89 = .ok (.aload_n 1, 1) := by decide +kernel
theorem dX0_layTied_90 : decode cX0_layTied 90 = .ok (.getfield 49, 3) := by decide +kernel
theorem dX0_layTied_93 : decode cX0_layTied 93 = .ok (.iload 5, 2) := by decide +kernel
theorem dX0_layTied_95 : decode cX0_layTied 95 = .ok (.aaload, 1) := by decide +kernel
theorem dX0_layTied_96 : decode cX0_layTied 96 = .ok (.iload 9, 2) := by decide +kernel
theorem dX0_layTied_98 : decode cX0_layTied 98 = .ok (.iaload, 1) := by decide +kernel
theorem dX0_layTied_99 : decode cX0_layTied 99 = .ok (.i2l, 1) := by decide +kernel
theorem dX0_layTied_100 : decode cX0_layTied 100 = .ok (.lload 6, 2) := by decide +kernel
theorem dX0_layTied_102 : decode cX0_layTied 102 = .ok (.lmul, 1) := by decide +kernel
theorem dX0_layTied_103 : decode cX0_layTied 103 = .ok (.invokestatic 53, 3) := by decide +kernel
theorem dX0_layTied_106 : decode cX0_layTied 106 = .ok (.lastore, 1) := by decide +kernel
theorem dX0_layTied_107 : decode cX0_layTied 107 = .ok (.aload_n 0, 1) := by decide +kernel
theorem dX0_layTied_108 : decode cX0_layTied 108 = .ok (.getfield 23, 3) := by decide +kernel
theorem dX0_layTied_111 : decode cX0_layTied 111 = .ok (.iload 9, 2) := by decide +kernel
theorem dX0_layTied_113 : decode cX0_layTied 113 = .ok (.aload_n 1, 1) := by decide +kernel
theorem dX0_layTied_114 : decode cX0_layTied 114 = .ok (.getfield 49, 3) := by decide +kernel
theorem dX0_layTied_117 : decode cX0_layTied 117 = .ok (.iload 8, 2) := by decide +kernel
theorem dX0_layTied_119 : decode cX0_layTied 119 = .ok (.aaload, 1) := by decide +kernel
theorem dX0_layTied_120 : decode cX0_layTied 120 = .ok (.iload 9, 2) := by decide +kernel
theorem dX0_layTied_122 : decode cX0_layTied 122 = .ok (.iaload, 1) := by decide +kernel
theorem dX0_layTied_123 : decode cX0_layTied 123 = .ok (.i2l, 1) := by decide +kernel
theorem dX0_layTied_124 : decode cX0_layTied 124 = .ok (.lastore, 1) := by decide +kernel
theorem dX0_layTied_125 : decode cX0_layTied 125 = .ok (.iinc 9 1, 3) := by decide +kernel
theorem dX0_layTied_128 : decode cX0_layTied 128 = .ok (.goto (-80), 3) := by decide +kernel
theorem dX0_layTied_131 : decode cX0_layTied 131 = .ok (.return_, 1) := by decide +kernel
theorem dX0_sort_0 : decode cX0_sort 0 = .ok (.iconst 0, 1) := by decide +kernel
theorem dX0_sort_1 : decode cX0_sort 1 = .ok (.istore_n 1, 1) := by decide +kernel
theorem dX0_sort_2 : decode cX0_sort 2 = .ok (.iload_n 1, 1) := by decide +kernel
theorem dX0_sort_3 : decode cX0_sort 3 = .ok (.aload_n 0, 1) := by decide +kernel
theorem dX0_sort_4 : decode cX0_sort 4 = .ok (.getfield 9, 3) := by decide +kernel
theorem dX0_sort_7 : decode cX0_sort 7 = .ok (.if_icmp .ge 86, 3) := by decide +kernel
theorem dX0_sort_10 : decode cX0_sort 10 = .ok (.iload_n 1, 1) := by decide +kernel
theorem dX0_sort_11 : decode cX0_sort 11 = .ok (.istore_n 2, 1) := by decide +kernel
theorem dX0_sort_12 : decode cX0_sort 12 = .ok (.iload_n 2, 1) := by decide +kernel
theorem dX0_sort_13 : decode cX0_sort 13 = .ok (.ifCond .le 67, 3) := by decide +kernel
theorem dX0_sort_16 : decode cX0_sort 16 = .ok (.aload_n 0, 1) := by decide +kernel
theorem dX0_sort_17 : decode cX0_sort 17 = .ok (.getfield 19, 3) := by decide +kernel
theorem dX0_sort_20 : decode cX0_sort 20 = .ok (.aload_n 0, 1) := by decide +kernel
theorem dX0_sort_21 : decode cX0_sort 21 = .ok (.getfield 26, 3) := by decide +kernel
theorem dX0_sort_24 : decode cX0_sort 24 = .ok (.iload_n 2, 1) := by decide +kernel
theorem dX0_sort_25 : decode cX0_sort 25 = .ok (.iconst 1, 1) := by decide +kernel
theorem dX0_sort_26 : decode cX0_sort 26 = .ok (.isub, 1) := by decide +kernel
theorem dX0_sort_27 : decode cX0_sort 27 = .ok (.iaload, 1) := by decide +kernel
theorem dX0_sort_28 : decode cX0_sort 28 = .ok (.laload, 1) := by decide +kernel
theorem dX0_sort_29 : decode cX0_sort 29 = .ok (.aload_n 0, 1) := by decide +kernel
theorem dX0_sort_30 : decode cX0_sort 30 = .ok (.getfield 23, 3) := by decide +kernel
theorem dX0_sort_33 : decode cX0_sort 33 = .ok (.iload_n 1, 1) := by decide +kernel
theorem dX0_sort_34 : decode cX0_sort 34 = .ok (.laload, 1) := by decide +kernel
theorem dX0_sort_35 : decode cX0_sort 35 = .ok (.lmul, 1) := by decide +kernel
theorem dX0_sort_36 : decode cX0_sort 36 = .ok (.aload_n 0, 1) := by decide +kernel
theorem dX0_sort_37 : decode cX0_sort 37 = .ok (.getfield 19, 3) := by decide +kernel
theorem dX0_sort_40 : decode cX0_sort 40 = .ok (.iload_n 1, 1) := by decide +kernel
theorem dX0_sort_41 : decode cX0_sort 41 = .ok (.laload, 1) := by decide +kernel
theorem dX0_sort_42 : decode cX0_sort 42 = .ok (.aload_n 0, 1) := by decide +kernel
theorem dX0_sort_43 : decode cX0_sort 43 = .ok (.getfield 23, 3) := by decide +kernel
theorem dX0_sort_46 : decode cX0_sort 46 = .ok (.aload_n 0, 1) := by decide +kernel
theorem dX0_sort_47 : decode cX0_sort 47 = .ok (.getfield 26, 3) := by decide +kernel
theorem dX0_sort_50 : decode cX0_sort 50 = .ok (.iload_n 2, 1) := by decide +kernel
theorem dX0_sort_51 : decode cX0_sort 51 = .ok (.iconst 1, 1) := by decide +kernel
theorem dX0_sort_52 : decode cX0_sort 52 = .ok (.isub, 1) := by decide +kernel
theorem dX0_sort_53 : decode cX0_sort 53 = .ok (.iaload, 1) := by decide +kernel
theorem dX0_sort_54 : decode cX0_sort 54 = .ok (.laload, 1) := by decide +kernel
theorem dX0_sort_55 : decode cX0_sort 55 = .ok (.lmul, 1) := by decide +kernel
theorem dX0_sort_56 : decode cX0_sort 56 = .ok (.lcmp, 1) := by decide +kernel
theorem dX0_sort_57 : decode cX0_sort 57 = .ok (.ifCond .le 23, 3) := by decide +kernel
theorem dX0_sort_60 : decode cX0_sort 60 = .ok (.aload_n 0, 1) := by decide +kernel
theorem dX0_sort_61 : decode cX0_sort 61 = .ok (.getfield 26, 3) := by decide +kernel
theorem dX0_sort_64 : decode cX0_sort 64 = .ok (.iload_n 2, 1) := by decide +kernel
theorem dX0_sort_65 : decode cX0_sort 65 = .ok (.aload_n 0, 1) := by decide +kernel
theorem dX0_sort_66 : decode cX0_sort 66 = .ok (.getfield 26, 3) := by decide +kernel
theorem dX0_sort_69 : decode cX0_sort 69 = .ok (.iload_n 2, 1) := by decide +kernel
theorem dX0_sort_70 : decode cX0_sort 70 = .ok (.iconst 1, 1) := by decide +kernel
theorem dX0_sort_71 : decode cX0_sort 71 = .ok (.isub, 1) := by decide +kernel
theorem dX0_sort_72 : decode cX0_sort 72 = .ok (.iaload, 1) := by decide +kernel
theorem dX0_sort_73 : decode cX0_sort 73 = .ok (.iastore, 1) := by decide +kernel
theorem dX0_sort_74 : decode cX0_sort 74 = .ok (.iinc 2 (-1), 3) := by decide +kernel
theorem dX0_sort_77 : decode cX0_sort 77 = .ok (.goto (-65), 3) := by decide +kernel
theorem dX0_sort_80 : decode cX0_sort 80 = .ok (.aload_n 0, 1) := by decide +kernel
theorem dX0_sort_81 : decode cX0_sort 81 = .ok (.getfield 26, 3) := by decide +kernel
theorem dX0_sort_84 : decode cX0_sort 84 = .ok (.iload_n 2, 1) := by decide +kernel
theorem dX0_sort_85 : decode cX0_sort 85 = .ok (.iload_n 1, 1) := by decide +kernel
theorem dX0_sort_86 : decode cX0_sort 86 = .ok (.iastore, 1) := by decide +kernel
theorem dX0_sort_87 : decode cX0_sort 87 = .ok (.iinc 1 1, 3) := by decide +kernel
theorem dX0_sort_90 : decode cX0_sort 90 = .ok (.goto (-88), 3) := by decide +kernel
theorem dX0_sort_93 : decode cX0_sort 93 = .ok (.return_, 1) := by decide +kernel
theorem dX0_settleTwo_0 : decode cX0_settleTwo 0 = .ok (.aload_n 0, 1) := by decide +kernel
theorem dX0_settleTwo_1 : decode cX0_settleTwo 1 = .ok (.invokevirtual 59, 3) := by decide +kernel
theorem dX0_settleTwo_4 : decode cX0_settleTwo 4 = .ok (.lstore_n 1, 1) := by decide +kernel
theorem dX0_settleTwo_5 : decode cX0_settleTwo 5 = .ok (.lconst 0, 1) := by decide +kernel
theorem dX0_settleTwo_6 : decode cX0_settleTwo 6 = .ok (.lstore_n 3, 1) := by decide +kernel
theorem dX0_settleTwo_7 : decode cX0_settleTwo 7 = .ok (.iconst 0, 1) := by decide +kernel
theorem dX0_settleTwo_8 : decode cX0_settleTwo 8 = .ok (.istore 5, 2) := by decide +kernel
theorem dX0_settleTwo_10 : decode cX0_settleTwo 10 = .ok (.iload 5, 2) := by decide +kernel
theorem dX0_settleTwo_12 : decode cX0_settleTwo 12 = .ok (.aload_n 0, 1) := by decide +kernel
theorem dX0_settleTwo_13 : decode cX0_settleTwo 13 = .ok (.getfield 9, 3) := by decide +kernel
theorem dX0_settleTwo_16 : decode cX0_settleTwo 16 = .ok (.if_icmp .ge 119, 3) := by decide +kernel
theorem dX0_settleTwo_19 : decode cX0_settleTwo 19 = .ok (.aload_n 0, 1) := by decide +kernel
theorem dX0_settleTwo_20 : decode cX0_settleTwo 20 = .ok (.getfield 26, 3) := by decide +kernel
theorem dX0_settleTwo_23 : decode cX0_settleTwo 23 = .ok (.iload 5, 2) := by decide +kernel
theorem dX0_settleTwo_25 : decode cX0_settleTwo 25 = .ok (.iaload, 1) := by decide +kernel
theorem dX0_settleTwo_26 : decode cX0_settleTwo 26 = .ok (.istore 6, 2) := by decide +kernel
theorem dX0_settleTwo_28 : decode cX0_settleTwo 28 = .ok (.aload_n 0, 1) := by decide +kernel
theorem dX0_settleTwo_29 : decode cX0_settleTwo 29 = .ok (.getfield 29, 3) := by decide +kernel
theorem dX0_settleTwo_32 : decode cX0_settleTwo 32 = .ok (.aload_n 0, 1) := by decide +kernel
theorem dX0_settleTwo_33 : decode cX0_settleTwo 33 = .ok (.getfield 23, 3) := by decide +kernel
theorem dX0_settleTwo_36 : decode cX0_settleTwo 36 = .ok (.iload 6, 2) := by decide +kernel
theorem dX0_settleTwo_38 : decode cX0_settleTwo 38 = .ok (.laload, 1) := by decide +kernel
theorem dX0_settleTwo_39 : decode cX0_settleTwo 39 = .ok (.lmul, 1) := by decide +kernel
theorem dX0_settleTwo_40 : decode cX0_settleTwo 40 = .ok (.lstore 7, 2) := by decide +kernel
theorem dX0_settleTwo_42 : decode cX0_settleTwo 42 = .ok (.lload 7, 2) := by decide +kernel
theorem dX0_settleTwo_44 : decode cX0_settleTwo 44 = .ok (.aload_n 0, 1) := by decide +kernel
theorem dX0_settleTwo_45 : decode cX0_settleTwo 45 = .ok (.getfield 33, 3) := by decide +kernel
theorem dX0_settleTwo_48 : decode cX0_settleTwo 48 = .ok (.aload_n 0, 1) := by decide +kernel
theorem dX0_settleTwo_49 : decode cX0_settleTwo 49 = .ok (.getfield 19, 3) := by decide +kernel
theorem dX0_settleTwo_52 : decode cX0_settleTwo 52 = .ok (.iload 6, 2) := by decide +kernel
theorem dX0_settleTwo_54 : decode cX0_settleTwo 54 = .ok (.laload, 1) := by decide +kernel
theorem dX0_settleTwo_55 : decode cX0_settleTwo 55 = .ok (.lmul, 1) := by decide +kernel
theorem dX0_settleTwo_56 : decode cX0_settleTwo 56 = .ok (.ladd, 1) := by decide +kernel
theorem dX0_settleTwo_57 : decode cX0_settleTwo 57 = .ok (.lstore 9, 2) := by decide +kernel
theorem dX0_settleTwo_59 : decode cX0_settleTwo 59 = .ok (.lload 7, 2) := by decide +kernel
theorem dX0_settleTwo_61 : decode cX0_settleTwo 61 = .ok (.lload_n 1, 1) := by decide +kernel
theorem dX0_settleTwo_62 : decode cX0_settleTwo 62 = .ok (.lmul, 1) := by decide +kernel
theorem dX0_settleTwo_63 : decode cX0_settleTwo 63 = .ok (.lload_n 3, 1) := by decide +kernel
theorem dX0_settleTwo_64 : decode cX0_settleTwo 64 = .ok (.lload 9, 2) := by decide +kernel
theorem dX0_settleTwo_66 : decode cX0_settleTwo 66 = .ok (.lmul, 1) := by decide +kernel
theorem dX0_settleTwo_67 : decode cX0_settleTwo 67 = .ok (.lcmp, 1) := by decide +kernel
theorem dX0_settleTwo_68 : decode cX0_settleTwo 68 = .ok (.ifCond .ge 6, 3) := by decide +kernel
theorem dX0_settleTwo_71 : decode cX0_settleTwo 71 = .ok (.goto 64, 3) := by decide +kernel
theorem dX0_settleTwo_74 : decode cX0_settleTwo 74 = .ok (.lload 7, 2) := by decide +kernel
theorem dX0_settleTwo_76 : decode cX0_settleTwo 76 = .ok (.lload_n 1, 1) := by decide +kernel
theorem dX0_settleTwo_77 : decode cX0_settleTwo 77 = .ok (.lmul, 1) := by decide +kernel
theorem dX0_settleTwo_78 : decode cX0_settleTwo 78 = .ok (.lload_n 3, 1) := by decide +kernel
theorem dX0_settleTwo_79 : decode cX0_settleTwo 79 = .ok (.aload_n 0, 1) := by decide +kernel
theorem dX0_settleTwo_80 : decode cX0_settleTwo 80 = .ok (.getfield 15, 3) := by decide +kernel
theorem dX0_settleTwo_83 : decode cX0_settleTwo 83 = .ok (.iload 6, 2) := by decide +kernel
theorem dX0_settleTwo_85 : decode cX0_settleTwo 85 = .ok (.iaload, 1) := by decide +kernel
theorem dX0_settleTwo_86 : decode cX0_settleTwo 86 = .ok (.i2l, 1) := by decide +kernel
theorem dX0_settleTwo_87 : decode cX0_settleTwo 87 = .ok (.ladd, 1) := by decide +kernel
theorem dX0_settleTwo_88 : decode cX0_settleTwo 88 = .ok (.lload 9, 2) := by decide +kernel
theorem dX0_settleTwo_90 : decode cX0_settleTwo 90 = .ok (.lmul, 1) := by decide +kernel
theorem dX0_settleTwo_91 : decode cX0_settleTwo 91 = .ok (.lcmp, 1) := by decide +kernel
theorem dX0_settleTwo_92 : decode cX0_settleTwo 92 = .ok (.ifCond .gt 26, 3) := by decide +kernel
theorem dX0_settleTwo_95 : decode cX0_settleTwo 95 = .ok (.aload_n 0, 1) := by decide +kernel
theorem dX0_settleTwo_96 : decode cX0_settleTwo 96 = .ok (.aload_n 0, 1) := by decide +kernel
theorem dX0_settleTwo_97 : decode cX0_settleTwo 97 = .ok (.getfield 23, 3) := by decide +kernel
theorem dX0_settleTwo_100 : decode cX0_settleTwo 100 = .ok (.iload 6, 2) := by decide +kernel
theorem dX0_settleTwo_102 : decode cX0_settleTwo 102 = .ok (.laload, 1) := by decide +kernel
theorem dX0_settleTwo_103 : decode cX0_settleTwo 103 = .ok (.putfield 36, 3) := by decide +kernel
theorem dX0_settleTwo_106 : decode cX0_settleTwo 106 = .ok (.aload_n 0, 1) := by decide +kernel
theorem dX0_settleTwo_107 : decode cX0_settleTwo 107 = .ok (.aload_n 0, 1) := by decide +kernel
theorem dX0_settleTwo_108 : decode cX0_settleTwo 108 = .ok (.getfield 19, 3) := by decide +kernel
theorem dX0_settleTwo_111 : decode cX0_settleTwo 111 = .ok (.iload 6, 2) := by decide +kernel
theorem dX0_settleTwo_113 : decode cX0_settleTwo 113 = .ok (.laload, 1) := by decide +kernel
theorem dX0_settleTwo_114 : decode cX0_settleTwo 114 = .ok (.putfield 39, 3) := by decide +kernel
theorem dX0_settleTwo_117 : decode cX0_settleTwo 117 = .ok (.return_, 1) := by decide +kernel
theorem dX0_settleTwo_118 : decode cX0_settleTwo 118 = .ok (.lload_n 3, 1) := by decide +kernel
theorem dX0_settleTwo_119 : decode cX0_settleTwo 119 = .ok (.aload_n 0, 1) := by decide +kernel
theorem dX0_settleTwo_120 : decode cX0_settleTwo 120 = .ok (.getfield 15, 3) := by decide +kernel
theorem dX0_settleTwo_123 : decode cX0_settleTwo 123 = .ok (.iload 6, 2) := by decide +kernel
theorem dX0_settleTwo_125 : decode cX0_settleTwo 125 = .ok (.iaload, 1) := by decide +kernel
theorem dX0_settleTwo_126 : decode cX0_settleTwo 126 = .ok (.i2l, 1) := by decide +kernel
theorem dX0_settleTwo_127 : decode cX0_settleTwo 127 = .ok (.ladd, 1) := by decide +kernel
theorem dX0_settleTwo_128 : decode cX0_settleTwo 128 = .ok (.lstore_n 3, 1) := by decide +kernel
theorem dX0_settleTwo_129 : decode cX0_settleTwo 129 = .ok (.iinc 5 1, 3) := by decide +kernel
theorem dX0_settleTwo_132 : decode cX0_settleTwo 132 = .ok (.goto (-122), 3) := by decide +kernel
theorem dX0_settleTwo_135 : decode cX0_settleTwo 135 = .ok (.aload_n 0, 1) := by decide +kernel
theorem dX0_settleTwo_136 : decode cX0_settleTwo 136 = .ok (.lload_n 3, 1) := by decide +kernel
theorem dX0_settleTwo_137 : decode cX0_settleTwo 137 = .ok (.aload_n 0, 1) := by decide +kernel
theorem dX0_settleTwo_138 : decode cX0_settleTwo 138 = .ok (.getfield 33, 3) := by decide +kernel
theorem dX0_settleTwo_141 : decode cX0_settleTwo 141 = .ok (.lmul, 1) := by decide +kernel
theorem dX0_settleTwo_142 : decode cX0_settleTwo 142 = .ok (.putfield 36, 3) := by decide +kernel
theorem dX0_settleTwo_145 : decode cX0_settleTwo 145 = .ok (.aload_n 0, 1) := by decide +kernel
theorem dX0_settleTwo_146 : decode cX0_settleTwo 146 = .ok (.lload_n 1, 1) := by decide +kernel
theorem dX0_settleTwo_147 : decode cX0_settleTwo 147 = .ok (.lload_n 3, 1) := by decide +kernel
theorem dX0_settleTwo_148 : decode cX0_settleTwo 148 = .ok (.lsub, 1) := by decide +kernel
theorem dX0_settleTwo_149 : decode cX0_settleTwo 149 = .ok (.aload_n 0, 1) := by decide +kernel
theorem dX0_settleTwo_150 : decode cX0_settleTwo 150 = .ok (.getfield 29, 3) := by decide +kernel
theorem dX0_settleTwo_153 : decode cX0_settleTwo 153 = .ok (.lmul, 1) := by decide +kernel
theorem dX0_settleTwo_154 : decode cX0_settleTwo 154 = .ok (.putfield 39, 3) := by decide +kernel
theorem dX0_settleTwo_157 : decode cX0_settleTwo 157 = .ok (.return_, 1) := by decide +kernel
theorem dX0_cut_0 : decode cX0_cut 0 = .ok (.iconst 0, 1) := by decide +kernel
theorem dX0_cut_1 : decode cX0_cut 1 = .ok (.istore_n 1, 1) := by decide +kernel
theorem dX0_cut_2 : decode cX0_cut 2 = .ok (.iconst 0, 1) := by decide +kernel
theorem dX0_cut_3 : decode cX0_cut 3 = .ok (.istore_n 2, 1) := by decide +kernel
theorem dX0_cut_4 : decode cX0_cut 4 = .ok (.iconst 0, 1) := by decide +kernel
theorem dX0_cut_5 : decode cX0_cut 5 = .ok (.istore_n 3, 1) := by decide +kernel
theorem dX0_cut_6 : decode cX0_cut 6 = .ok (.iload_n 3, 1) := by decide +kernel
theorem dX0_cut_7 : decode cX0_cut 7 = .ok (.aload_n 0, 1) := by decide +kernel
theorem dX0_cut_8 : decode cX0_cut 8 = .ok (.getfield 9, 3) := by decide +kernel
theorem dX0_cut_11 : decode cX0_cut 11 = .ok (.if_icmp .ge 59, 3) := by decide +kernel
theorem dX0_cut_14 : decode cX0_cut 14 = .ok (.aload_n 0, 1) := by decide +kernel
theorem dX0_cut_15 : decode cX0_cut 15 = .ok (.getfield 19, 3) := by decide +kernel
theorem dX0_cut_18 : decode cX0_cut 18 = .ok (.iload_n 3, 1) := by decide +kernel
theorem dX0_cut_19 : decode cX0_cut 19 = .ok (.laload, 1) := by decide +kernel
theorem dX0_cut_20 : decode cX0_cut 20 = .ok (.aload_n 0, 1) := by decide +kernel
theorem dX0_cut_21 : decode cX0_cut 21 = .ok (.getfield 36, 3) := by decide +kernel
theorem dX0_cut_24 : decode cX0_cut 24 = .ok (.lmul, 1) := by decide +kernel
theorem dX0_cut_25 : decode cX0_cut 25 = .ok (.lstore 4, 2) := by decide +kernel
theorem dX0_cut_27 : decode cX0_cut 27 = .ok (.aload_n 0, 1) := by decide +kernel
theorem dX0_cut_28 : decode cX0_cut 28 = .ok (.getfield 23, 3) := by decide +kernel
theorem dX0_cut_31 : decode cX0_cut 31 = .ok (.iload_n 3, 1) := by decide +kernel
theorem dX0_cut_32 : decode cX0_cut 32 = .ok (.laload, 1) := by decide +kernel
theorem dX0_cut_33 : decode cX0_cut 33 = .ok (.aload_n 0, 1) := by decide +kernel
theorem dX0_cut_34 : decode cX0_cut 34 = .ok (.getfield 39, 3) := by decide +kernel
theorem dX0_cut_37 : decode cX0_cut 37 = .ok (.lmul, 1) := by decide +kernel
theorem dX0_cut_38 : decode cX0_cut 38 = .ok (.lstore 6, 2) := by decide +kernel
theorem dX0_cut_40 : decode cX0_cut 40 = .ok (.lload 4, 2) := by decide +kernel
theorem dX0_cut_42 : decode cX0_cut 42 = .ok (.lload 6, 2) := by decide +kernel
theorem dX0_cut_44 : decode cX0_cut 44 = .ok (.lcmp, 1) := by decide +kernel
theorem dX0_cut_45 : decode cX0_cut 45 = .ok (.ifCond .ge 9, 3) := by decide +kernel
theorem dX0_cut_48 : decode cX0_cut 48 = .ok (.iinc 1 1, 3) := by decide +kernel
theorem dX0_cut_51 : decode cX0_cut 51 = .ok (.goto 13, 3) := by decide +kernel
theorem dX0_cut_54 : decode cX0_cut 54 = .ok (.lload 4, 2) := by decide +kernel
theorem dX0_cut_56 : decode cX0_cut 56 = .ok (.lload 6, 2) := by decide +kernel
theorem dX0_cut_58 : decode cX0_cut 58 = .ok (.lcmp, 1) := by decide +kernel
theorem dX0_cut_59 : decode cX0_cut 59 = .ok (.ifCond .ne 5, 3) := by decide +kernel
theorem dX0_cut_62 : decode cX0_cut 62 = .ok (.iconst 1, 1) := by decide +kernel
theorem dX0_cut_63 : decode cX0_cut 63 = .ok (.istore_n 2, 1) := by decide +kernel
theorem dX0_cut_64 : decode cX0_cut 64 = .ok (.iinc 3 1, 3) := by decide +kernel
theorem dX0_cut_67 : decode cX0_cut 67 = .ok (.goto (-61), 3) := by decide +kernel
theorem dX0_cut_70 : decode cX0_cut 70 = .ok (.iconst 2, 1) := by decide +kernel
theorem dX0_cut_71 : decode cX0_cut 71 = .ok (.iload_n 1, 1) := by decide +kernel
theorem dX0_cut_72 : decode cX0_cut 72 = .ok (.imul, 1) := by decide +kernel
theorem dX0_cut_73 : decode cX0_cut 73 = .ok (.iload_n 2, 1) := by decide +kernel
theorem dX0_cut_74 : decode cX0_cut 74 = .ok (.iadd, 1) := by decide +kernel
theorem dX0_cut_75 : decode cX0_cut 75 = .ok (.ireturn, 1) := by decide +kernel
theorem dX0_allShares_0 : decode cX0_allShares 0 = .ok (.lconst 0, 1) := by decide +kernel
theorem dX0_allShares_1 : decode cX0_allShares 1 = .ok (.lstore_n 1, 1) := by decide +kernel
theorem dX0_allShares_2 : decode cX0_allShares 2 = .ok (.iconst 0, 1) := by decide +kernel
theorem dX0_allShares_3 : decode cX0_allShares 3 = .ok (.istore_n 3, 1) := by decide +kernel
theorem dX0_allShares_4 : decode cX0_allShares 4 = .ok (.iload_n 3, 1) := by decide +kernel
theorem dX0_allShares_5 : decode cX0_allShares 5 = .ok (.aload_n 0, 1) := by decide +kernel
theorem dX0_allShares_6 : decode cX0_allShares 6 = .ok (.getfield 9, 3) := by decide +kernel
theorem dX0_allShares_9 : decode cX0_allShares 9 = .ok (.if_icmp .ge 19, 3) := by decide +kernel
theorem dX0_allShares_12 : decode cX0_allShares 12 = .ok (.lload_n 1, 1) := by decide +kernel
theorem dX0_allShares_13 : decode cX0_allShares 13 = .ok (.aload_n 0, 1) := by decide +kernel
theorem dX0_allShares_14 : decode cX0_allShares 14 = .ok (.getfield 15, 3) := by decide +kernel
theorem dX0_allShares_17 : decode cX0_allShares 17 = .ok (.iload_n 3, 1) := by decide +kernel
theorem dX0_allShares_18 : decode cX0_allShares 18 = .ok (.iaload, 1) := by decide +kernel
theorem dX0_allShares_19 : decode cX0_allShares 19 = .ok (.i2l, 1) := by decide +kernel
theorem dX0_allShares_20 : decode cX0_allShares 20 = .ok (.ladd, 1) := by decide +kernel
theorem dX0_allShares_21 : decode cX0_allShares 21 = .ok (.lstore_n 1, 1) := by decide +kernel
theorem dX0_allShares_22 : decode cX0_allShares 22 = .ok (.iinc 3 1, 3) := by decide +kernel
theorem dX0_allShares_25 : decode cX0_allShares 25 = .ok (.goto (-21), 3) := by decide +kernel
theorem dX0_allShares_28 : decode cX0_allShares 28 = .ok (.lload_n 1, 1) := by decide +kernel
theorem dX0_allShares_29 : decode cX0_allShares 29 = .ok (.lreturn, 1) := by decide +kernel
theorem dX1_init_0 : decode cX1_init 0 = .ok (.aload_n 0, 1) := by decide +kernel
theorem dX1_init_1 : decode cX1_init 1 = .ok (.invokespecial 3, 3) := by decide +kernel
theorem dX1_init_4 : decode cX1_init 4 = .ok (.aload_n 0, 1) := by decide +kernel
theorem dX1_init_5 : decode cX1_init 5 = .ok (.new 9, 3) := by decide +kernel
theorem dX1_init_8 : decode cX1_init 8 = .ok (.dup, 1) := by decide +kernel
theorem dX1_init_9 : decode cX1_init 9 = .ok (.invokespecial 11, 3) := by decide +kernel
theorem dX1_init_12 : decode cX1_init 12 = .ok (.putfield 12, 3) := by decide +kernel
theorem dX1_init_15 : decode cX1_init 15 = .ok (.aload_n 0, 1) := by decide +kernel
theorem dX1_init_16 : decode cX1_init 16 = .ok (.new 9, 3) := by decide +kernel
theorem dX1_init_19 : decode cX1_init 19 = .ok (.dup, 1) := by decide +kernel
theorem dX1_init_20 : decode cX1_init 20 = .ok (.invokespecial 11, 3) := by decide +kernel
theorem dX1_init_23 : decode cX1_init 23 = .ok (.putfield 18, 3) := by decide +kernel
theorem dX1_init_26 : decode cX1_init 26 = .ok (.aload_n 0, 1) := by decide +kernel
theorem dX1_init_27 : decode cX1_init 27 = .ok (.iconst 3, 1) := by decide +kernel
theorem dX1_init_28 : decode cX1_init 28 = .ok (.bipush 6, 2) := by decide +kernel
theorem dX1_init_30 : decode cX1_init 30 = .ok (.multianewarray 21 2, 4) := by decide +kernel
theorem dX1_init_34 : decode cX1_init 34 = .ok (.putfield 23, 3) := by decide +kernel
theorem dX1_init_37 : decode cX1_init 37 = .ok (.return_, 1) := by decide +kernel
theorem dX1_settle_0 : decode cX1_settle 0 = .ok (.aload_n 1, 1) := by decide +kernel
theorem dX1_settle_1 : decode cX1_settle 1 = .ok (.getfield 26, 3) := by decide +kernel
theorem dX1_settle_4 : decode cX1_settle 4 = .ok (.iconst 1, 1) := by decide +kernel
theorem dX1_settle_5 : decode cX1_settle 5 = .ok (.if_icmp .ne 13, 3) := by decide +kernel
theorem dX1_settle_8 : decode cX1_settle 8 = .ok (.aload_n 1, 1) := by decide +kernel
theorem dX1_settle_9 : decode cX1_settle 9 = .ok (.getfield 32, 3) := by decide +kernel
theorem dX1_settle_12 : decode cX1_settle 12 = .ok (.iconst 0, 1) := by decide +kernel
theorem dX1_settle_13 : decode cX1_settle 13 = .ok (.lconst 1, 1) := by decide +kernel
theorem dX1_settle_14 : decode cX1_settle 14 = .ok (.lastore, 1) := by decide +kernel
theorem dX1_settle_15 : decode cX1_settle 15 = .ok (.goto 111, 3) := by decide +kernel
theorem dX1_settle_18 : decode cX1_settle 18 = .ok (.aload_n 1, 1) := by decide +kernel
theorem dX1_settle_19 : decode cX1_settle 19 = .ok (.getfield 26, 3) := by decide +kernel
theorem dX1_settle_22 : decode cX1_settle 22 = .ok (.iconst 2, 1) := by decide +kernel
theorem dX1_settle_23 : decode cX1_settle 23 = .ok (.if_icmp .ne 56, 3) := by decide +kernel
theorem dX1_settle_26 : decode cX1_settle 26 = .ok (.aload_n 0, 1) := by decide +kernel
theorem dX1_settle_27 : decode cX1_settle 27 = .ok (.getfield 12, 3) := by decide +kernel
theorem dX1_settle_30 : decode cX1_settle 30 = .ok (.aload_n 1, 1) := by decide +kernel
theorem dX1_settle_31 : decode cX1_settle 31 = .ok (.iconst 0, 1) := by decide +kernel
theorem dX1_settle_32 : decode cX1_settle 32 = .ok (.iconst 1, 1) := by decide +kernel
theorem dX1_settle_33 : decode cX1_settle 33 = .ok (.invokevirtual 36, 3) := by decide +kernel
theorem dX1_settle_36 : decode cX1_settle 36 = .ok (.aload_n 0, 1) := by decide +kernel
theorem dX1_settle_37 : decode cX1_settle 37 = .ok (.getfield 12, 3) := by decide +kernel
theorem dX1_settle_40 : decode cX1_settle 40 = .ok (.invokevirtual 40, 3) := by decide +kernel
theorem dX1_settle_43 : decode cX1_settle 43 = .ok (.aload_n 0, 1) := by decide +kernel
theorem dX1_settle_44 : decode cX1_settle 44 = .ok (.getfield 12, 3) := by decide +kernel
theorem dX1_settle_47 : decode cX1_settle 47 = .ok (.invokevirtual 43, 3) := by decide +kernel
theorem dX1_settle_50 : decode cX1_settle 50 = .ok (.aload_n 1, 1) := by decide +kernel
theorem dX1_settle_51 : decode cX1_settle 51 = .ok (.getfield 32, 3) := by decide +kernel
theorem dX1_settle_54 : decode cX1_settle 54 = .ok (.iconst 0, 1) := by decide +kernel
theorem dX1_settle_55 : decode cX1_settle 55 = .ok (.aload_n 0, 1) := by decide +kernel
theorem dX1_settle_56 : decode cX1_settle 56 = .ok (.getfield 12, 3) := by decide +kernel
theorem dX1_settle_59 : decode cX1_settle 59 = .ok (.getfield 46, 3) := by decide +kernel
theorem dX1_settle_62 : decode cX1_settle 62 = .ok (.lastore, 1) := by decide +kernel
theorem dX1_settle_63 : decode cX1_settle 63 = .ok (.aload_n 1, 1) := by decide +kernel
theorem dX1_settle_64 : decode cX1_settle 64 = .ok (.getfield 32, 3) := by decide +kernel
theorem dX1_settle_67 : decode cX1_settle 67 = .ok (.iconst 1, 1) := by decide +kernel
theorem dX1_settle_68 : decode cX1_settle 68 = .ok (.aload_n 0, 1) := by decide +kernel
theorem dX1_settle_69 : decode cX1_settle 69 = .ok (.getfield 12, 3) := by decide +kernel
theorem dX1_settle_72 : decode cX1_settle 72 = .ok (.getfield 50, 3) := by decide +kernel
theorem dX1_settle_75 : decode cX1_settle 75 = .ok (.lastore, 1) := by decide +kernel
theorem dX1_settle_76 : decode cX1_settle 76 = .ok (.goto 50, 3) := by decide +kernel
theorem dX1_settle_79 : decode cX1_settle 79 = .ok (.aload_n 1, 1) := by decide +kernel
theorem dX1_settle_80 : decode cX1_settle 80 = .ok (.getfield 26, 3) := by decide +kernel
theorem dX1_settle_83 : decode cX1_settle 83 = .ok (.iconst 3, 1) := by decide +kernel
theorem dX1_settle_84 : decode cX1_settle 84 = .ok (.if_icmp .ne 42, 3) := by decide +kernel
theorem dX1_settle_87 : decode cX1_settle 87 = .ok (.aload_n 0, 1) := by decide +kernel
theorem dX1_settle_88 : decode cX1_settle 88 = .ok (.invokevirtual 53, 3) := by decide +kernel
theorem dX1_settle_91 : decode cX1_settle 91 = .ok (.aload_n 0, 1) := by decide +kernel
theorem dX1_settle_92 : decode cX1_settle 92 = .ok (.aload_n 1, 1) := by decide +kernel
theorem dX1_settle_93 : decode cX1_settle 93 = .ok (.iconst 0, 1) := by decide +kernel
theorem dX1_settle_94 : decode cX1_settle 94 = .ok (.iconst 1, 1) := by decide +kernel
theorem dX1_settle_95 : decode cX1_settle 95 = .ok (.invokevirtual 56, 3) := by decide +kernel
theorem dX1_settle_98 : decode cX1_settle 98 = .ok (.ifCond .ne 28, 3) := by decide +kernel
theorem dX1_settle_101 : decode cX1_settle 101 = .ok (.aload_n 0, 1) := by decide +kernel
theorem dX1_settle_102 : decode cX1_settle 102 = .ok (.aload_n 1, 1) := by decide +kernel
theorem dX1_settle_103 : decode cX1_settle 103 = .ok (.iconst 0, 1) := by decide +kernel
theorem dX1_settle_104 : decode cX1_settle 104 = .ok (.iconst 2, 1) := by decide +kernel
theorem dX1_settle_105 : decode cX1_settle 105 = .ok (.invokevirtual 56, 3) := by decide +kernel
theorem dX1_settle_108 : decode cX1_settle 108 = .ok (.ifCond .ne 18, 3) := by decide +kernel
theorem dX1_settle_111 : decode cX1_settle 111 = .ok (.aload_n 0, 1) := by decide +kernel
theorem dX1_settle_112 : decode cX1_settle 112 = .ok (.aload_n 1, 1) := by decide +kernel
theorem dX1_settle_113 : decode cX1_settle 113 = .ok (.iconst 1, 1) := by decide +kernel
theorem dX1_settle_114 : decode cX1_settle 114 = .ok (.iconst 2, 1) := by decide +kernel
theorem dX1_settle_115 : decode cX1_settle 115 = .ok (.invokevirtual 56, 3) := by decide +kernel
theorem dX1_settle_118 : decode cX1_settle 118 = .ok (.ifCond .ne 8, 3) := by decide +kernel
theorem dX1_settle_121 : decode cX1_settle 121 = .ok (.aload_n 0, 1) := by decide +kernel
theorem dX1_settle_122 : decode cX1_settle 122 = .ok (.aload_n 1, 1) := by decide +kernel
theorem dX1_settle_123 : decode cX1_settle 123 = .ok (.invokevirtual 60, 3) := by decide +kernel
theorem dX1_settle_126 : decode cX1_settle 126 = .ok (.aload_n 1, 1) := by decide +kernel
theorem dX1_settle_127 : decode cX1_settle 127 = .ok (.invokestatic 64, 3) := by decide +kernel
theorem dX1_settle_130 : decode cX1_settle 130 = .ok (.return_, 1) := by decide +kernel
theorem dX1_clearWins_0 : decode cX1_clearWins 0 = .ok (.iconst 0, 1) := by decide +kernel
theorem dX1_clearWins_1 : decode cX1_clearWins 1 = .ok (.istore_n 1, 1) := by decide +kernel
theorem dX1_clearWins_2 : decode cX1_clearWins 2 = .ok (.iload_n 1, 1) := by decide +kernel
theorem dX1_clearWins_3 : decode cX1_clearWins 3 = .ok (.iconst 3, 1) := by decide +kernel
theorem dX1_clearWins_4 : decode cX1_clearWins 4 = .ok (.if_icmp .ge 32, 3) := by decide +kernel
theorem dX1_clearWins_7 : decode cX1_clearWins 7 = .ok (.iconst 0, 1) := by decide +kernel
theorem dX1_clearWins_8 : decode cX1_clearWins 8 = .ok (.istore_n 2, 1) := by decide +kernel
theorem dX1_clearWins_9 : decode cX1_clearWins 9 = .ok (.iload_n 2, 1) := by decide +kernel
theorem dX1_clearWins_10 : decode cX1_clearWins 10 = .ok (.bipush 6, 2) := by decide +kernel
theorem dX1_clearWins_12 : decode cX1_clearWins 12 = .ok (.if_icmp .ge 18, 3) := by decide +kernel
theorem dX1_clearWins_15 : decode cX1_clearWins 15 = .ok (.aload_n 0, 1) := by decide +kernel
theorem dX1_clearWins_16 : decode cX1_clearWins 16 = .ok (.getfield 23, 3) := by decide +kernel
theorem dX1_clearWins_19 : decode cX1_clearWins 19 = .ok (.iload_n 1, 1) := by decide +kernel
theorem dX1_clearWins_20 : decode cX1_clearWins 20 = .ok (.aaload, 1) := by decide +kernel
theorem dX1_clearWins_21 : decode cX1_clearWins 21 = .ok (.iload_n 2, 1) := by decide +kernel
theorem dX1_clearWins_22 : decode cX1_clearWins 22 = .ok (.iconst 0, 1) := by decide +kernel
theorem dX1_clearWins_23 : decode cX1_clearWins 23 = .ok (.iastore, 1) := by decide +kernel
theorem dX1_clearWins_24 : decode cX1_clearWins 24 = .ok (.iinc 2 1, 3) := by decide +kernel
theorem dX1_clearWins_27 : decode cX1_clearWins 27 = .ok (.goto (-18), 3) := by decide +kernel
theorem dX1_clearWins_30 : decode cX1_clearWins 30 = .ok (.iinc 1 1, 3) := by decide +kernel
theorem dX1_clearWins_33 : decode cX1_clearWins 33 = .ok (.goto (-31), 3) := by decide +kernel
theorem dX1_clearWins_36 : decode cX1_clearWins 36 = .ok (.return_, 1) := by decide +kernel
theorem dX1_findTied_0 : decode cX1_findTied 0 = .ok (.aload_n 0, 1) := by decide +kernel
theorem dX1_findTied_1 : decode cX1_findTied 1 = .ok (.getfield 12, 3) := by decide +kernel
theorem dX1_findTied_4 : decode cX1_findTied 4 = .ok (.aload_n 1, 1) := by decide +kernel
theorem dX1_findTied_5 : decode cX1_findTied 5 = .ok (.iload_n 2, 1) := by decide +kernel
theorem dX1_findTied_6 : decode cX1_findTied 6 = .ok (.iload_n 3, 1) := by decide +kernel
theorem dX1_findTied_7 : decode cX1_findTied 7 = .ok (.invokevirtual 36, 3) := by decide +kernel
theorem dX1_findTied_10 : decode cX1_findTied 10 = .ok (.aload_n 0, 1) := by decide +kernel
theorem dX1_findTied_11 : decode cX1_findTied 11 = .ok (.getfield 12, 3) := by decide +kernel
theorem dX1_findTied_14 : decode cX1_findTied 14 = .ok (.invokevirtual 40, 3) := by decide +kernel
theorem dX1_findTied_17 : decode cX1_findTied 17 = .ok (.iconst 0, 1) := by decide +kernel
theorem dX1_findTied_18 : decode cX1_findTied 18 = .ok (.istore 4, 2) := by decide +kernel
theorem dX1_findTied_20 : decode cX1_findTied 20 = .ok (.aload_n 1, 1) := by decide +kernel
theorem dX1_findTied_21 : decode cX1_findTied 21 = .ok (.getfield 67, 3) := by decide +kernel
theorem dX1_findTied_24 : decode cX1_findTied 24 = .ok (.istore 5, 2) := by decide +kernel
theorem dX1_findTied_26 : decode cX1_findTied 26 = .ok (.iconst 0, 1) := by decide +kernel
theorem dX1_findTied_27 : decode cX1_findTied 27 = .ok (.istore 6, 2) := by decide +kernel
theorem dX1_findTied_29 : decode cX1_findTied 29 = .ok (.iload 6, 2) := by decide +kernel
theorem dX1_findTied_31 : decode cX1_findTied 31 = .ok (.bipush 6, 2) := by decide +kernel
theorem dX1_findTied_33 : decode cX1_findTied 33 = .ok (.if_icmp .ge 81, 3) := by decide +kernel
theorem dX1_findTied_36 : decode cX1_findTied 36 = .ok (.iload 4, 2) := by decide +kernel
theorem dX1_findTied_38 : decode cX1_findTied 38 = .ok (.iload 5, 2) := by decide +kernel
theorem dX1_findTied_40 : decode cX1_findTied 40 = .ok (.if_icmp .ge 74, 3) := by decide +kernel
theorem dX1_findTied_43 : decode cX1_findTied 43 = .ok (.iload 4, 2) := by decide +kernel
theorem dX1_findTied_45 : decode cX1_findTied 45 = .ok (.iload 5, 2) := by decide +kernel
theorem dX1_findTied_47 : decode cX1_findTied 47 = .ok (.iadd, 1) := by decide +kernel
theorem dX1_findTied_48 : decode cX1_findTied 48 = .ok (.iconst 1, 1) := by decide +kernel
theorem dX1_findTied_49 : decode cX1_findTied 49 = .ok (.ishr, 1) := by decide +kernel
theorem dX1_findTied_50 : decode cX1_findTied 50 = .ok (.istore 7, 2) := by decide +kernel
theorem dX1_findTied_52 : decode cX1_findTied 52 = .ok (.aload_n 0, 1) := by decide +kernel
theorem dX1_findTied_53 : decode cX1_findTied 53 = .ok (.aload_n 1, 1) := by decide +kernel
theorem dX1_findTied_54 : decode cX1_findTied 54 = .ok (.iload_n 2, 1) := by decide +kernel
theorem dX1_findTied_55 : decode cX1_findTied 55 = .ok (.iload_n 3, 1) := by decide +kernel
theorem dX1_findTied_56 : decode cX1_findTied 56 = .ok (.aload_n 0, 1) := by decide +kernel
theorem dX1_findTied_57 : decode cX1_findTied 57 = .ok (.getfield 12, 3) := by decide +kernel
theorem dX1_findTied_60 : decode cX1_findTied 60 = .ok (.getfield 70, 3) := by decide +kernel
theorem dX1_findTied_63 : decode cX1_findTied 63 = .ok (.iload 7, 2) := by decide +kernel
theorem dX1_findTied_65 : decode cX1_findTied 65 = .ok (.iaload, 1) := by decide +kernel
theorem dX1_findTied_66 : decode cX1_findTied 66 = .ok (.invokevirtual 74, 3) := by decide +kernel
theorem dX1_findTied_69 : decode cX1_findTied 69 = .ok (.aload_n 1, 1) := by decide +kernel
theorem dX1_findTied_70 : decode cX1_findTied 70 = .ok (.aload_n 1, 1) := by decide +kernel
theorem dX1_findTied_71 : decode cX1_findTied 71 = .ok (.getfield 32, 3) := by decide +kernel
theorem dX1_findTied_74 : decode cX1_findTied 74 = .ok (.invokevirtual 78, 3) := by decide +kernel
theorem dX1_findTied_77 : decode cX1_findTied 77 = .ok (.istore 8, 2) := by decide +kernel
theorem dX1_findTied_79 : decode cX1_findTied 79 = .ok (.iload 8, 2) := by decide +kernel
theorem dX1_findTied_81 : decode cX1_findTied 81 = .ok (.ifCond .ne 5, 3) := by decide +kernel
theorem dX1_findTied_84 : decode cX1_findTied 84 = .ok (.iconst 1, 1) := by decide +kernel
theorem dX1_findTied_85 : decode cX1_findTied 85 = .ok (.ireturn, 1) := by decide +kernel
theorem dX1_findTied_86 : decode cX1_findTied 86 = .ok (.iload 8, 2) := by decide +kernel
theorem dX1_findTied_88 : decode cX1_findTied 88 = .ok (.iload_n 2, 1) := by decide +kernel
theorem dX1_findTied_89 : decode cX1_findTied 89 = .ok (.ishr, 1) := by decide +kernel
theorem dX1_findTied_90 : decode cX1_findTied 90 = .ok (.iconst 1, 1) := by decide +kernel
theorem dX1_findTied_91 : decode cX1_findTied 91 = .ok (.iand, 1) := by decide +kernel
theorem dX1_findTied_92 : decode cX1_findTied 92 = .ok (.ifCond .eq 12, 3) := by decide +kernel
theorem dX1_findTied_95 : decode cX1_findTied 95 = .ok (.iload 7, 2) := by decide +kernel
theorem dX1_findTied_97 : decode cX1_findTied 97 = .ok (.iconst 1, 1) := by decide +kernel
theorem dX1_findTied_98 : decode cX1_findTied 98 = .ok (.iadd, 1) := by decide +kernel
theorem dX1_findTied_99 : decode cX1_findTied 99 = .ok (.istore 4, 2) := by decide +kernel
theorem dX1_findTied_101 : decode cX1_findTied 101 = .ok (.goto 7, 3) := by decide +kernel
theorem dX1_findTied_104 : decode cX1_findTied 104 = .ok (.iload 7, 2) := by decide +kernel
theorem dX1_findTied_106 : decode cX1_findTied 106 = .ok (.istore 5, 2) := by decide +kernel
theorem dX1_findTied_108 : decode cX1_findTied 108 = .ok (.iinc 6 1, 3) := by decide +kernel
theorem dX1_findTied_111 : decode cX1_findTied 111 = .ok (.goto (-82), 3) := by decide +kernel
theorem dX1_findTied_114 : decode cX1_findTied 114 = .ok (.iconst 0, 1) := by decide +kernel
theorem dX1_findTied_115 : decode cX1_findTied 115 = .ok (.istore 6, 2) := by decide +kernel
theorem dX1_findTied_117 : decode cX1_findTied 117 = .ok (.iload 6, 2) := by decide +kernel
theorem dX1_findTied_119 : decode cX1_findTied 119 = .ok (.aload_n 1, 1) := by decide +kernel
theorem dX1_findTied_120 : decode cX1_findTied 120 = .ok (.getfield 67, 3) := by decide +kernel
theorem dX1_findTied_123 : decode cX1_findTied 123 = .ok (.if_icmp .ge 41, 3) := by decide +kernel
theorem dX1_findTied_126 : decode cX1_findTied 126 = .ok (.aload_n 0, 1) := by decide +kernel
theorem dX1_findTied_127 : decode cX1_findTied 127 = .ok (.getfield 23, 3) := by decide +kernel
theorem dX1_findTied_130 : decode cX1_findTied 130 = .ok (.iload 6, 2) := by decide +kernel
theorem dX1_findTied_132 : decode cX1_findTied 132 = .ok (.iload 4, 2) := by decide +kernel
theorem dX1_findTied_134 : decode cX1_findTied 134 = .ok (.if_icmp .ge 7, 3) := by decide +kernel
theorem dX1_findTied_137 : decode cX1_findTied 137 = .ok (.iload_n 2, 1) := by decide +kernel
theorem dX1_findTied_138 : decode cX1_findTied 138 = .ok (.goto 4, 3) := by decide +kernel
theorem dX1_findTied_141 : decode cX1_findTied 141 = .ok (.iload_n 3, 1) := by decide +kernel
theorem dX1_findTied_142 : decode cX1_findTied 142 = .ok (.aaload, 1) := by decide +kernel
theorem dX1_findTied_143 : decode cX1_findTied 143 = .ok (.aload_n 0, 1) := by decide +kernel
theorem dX1_findTied_144 : decode cX1_findTied 144 = .ok (.getfield 12, 3) := by decide +kernel
theorem dX1_findTied_147 : decode cX1_findTied 147 = .ok (.getfield 70, 3) := by decide +kernel
theorem dX1_findTied_150 : decode cX1_findTied 150 = .ok (.iload 6, 2) := by decide +kernel
theorem dX1_findTied_152 : decode cX1_findTied 152 = .ok (.iaload, 1) := by decide +kernel
theorem dX1_findTied_153 : decode cX1_findTied 153 = .ok (.dup2, 1) := by decide +kernel
theorem dX1_findTied_154 : decode cX1_findTied 154 = .ok (.iaload, 1) := by decide +kernel
theorem dX1_findTied_155 : decode cX1_findTied 155 = .ok (.iconst 1, 1) := by decide +kernel
theorem dX1_findTied_156 : decode cX1_findTied 156 = .ok (.iadd, 1) := by decide +kernel
theorem dX1_findTied_157 : decode cX1_findTied 157 = .ok (.iastore, 1) := by decide +kernel
theorem dX1_findTied_158 : decode cX1_findTied 158 = .ok (.iinc 6 1, 3) := by decide +kernel
theorem dX1_findTied_161 : decode cX1_findTied 161 = .ok (.goto (-44), 3) := by decide +kernel
theorem dX1_findTied_164 : decode cX1_findTied 164 = .ok (.iconst 0, 1) := by decide +kernel
theorem dX1_findTied_165 : decode cX1_findTied 165 = .ok (.ireturn, 1) := by decide +kernel
theorem dX1_tie_0 : decode cX1_tie 0 = .ok (.iconst 3, 1) := by decide +kernel
theorem dX1_tie_1 : decode cX1_tie 1 = .ok (.iload_n 2, 1) := by decide +kernel
theorem dX1_tie_2 : decode cX1_tie 2 = .ok (.isub, 1) := by decide +kernel
theorem dX1_tie_3 : decode cX1_tie 3 = .ok (.iload_n 3, 1) := by decide +kernel
theorem dX1_tie_4 : decode cX1_tie 4 = .ok (.isub, 1) := by decide +kernel
theorem dX1_tie_5 : decode cX1_tie 5 = .ok (.istore 5, 2) := by decide +kernel
theorem dX1_tie_7 : decode cX1_tie 7 = .ok (.aload_n 1, 1) := by decide +kernel
theorem dX1_tie_8 : decode cX1_tie 8 = .ok (.getfield 82, 3) := by decide +kernel
theorem dX1_tie_11 : decode cX1_tie 11 = .ok (.iload_n 3, 1) := by decide +kernel
theorem dX1_tie_12 : decode cX1_tie 12 = .ok (.aaload, 1) := by decide +kernel
theorem dX1_tie_13 : decode cX1_tie 13 = .ok (.iload 4, 2) := by decide +kernel
theorem dX1_tie_15 : decode cX1_tie 15 = .ok (.iaload, 1) := by decide +kernel
theorem dX1_tie_16 : decode cX1_tie 16 = .ok (.i2l, 1) := by decide +kernel
theorem dX1_tie_17 : decode cX1_tie 17 = .ok (.lstore 6, 2) := by decide +kernel
theorem dX1_tie_19 : decode cX1_tie 19 = .ok (.aload_n 1, 1) := by decide +kernel
theorem dX1_tie_20 : decode cX1_tie 20 = .ok (.getfield 82, 3) := by decide +kernel
theorem dX1_tie_23 : decode cX1_tie 23 = .ok (.iload_n 2, 1) := by decide +kernel
theorem dX1_tie_24 : decode cX1_tie 24 = .ok (.aaload, 1) := by decide +kernel
theorem dX1_tie_25 : decode cX1_tie 25 = .ok (.iload 4, 2) := by decide +kernel
theorem dX1_tie_27 : decode cX1_tie 27 = .ok (.iaload, 1) := by decide +kernel
theorem dX1_tie_28 : decode cX1_tie 28 = .ok (.i2l, 1) := by decide +kernel
theorem dX1_tie_29 : decode cX1_tie 29 = .ok (.lstore 8, 2) := by decide +kernel
theorem dX1_tie_31 : decode cX1_tie 31 = .ok (.aload_n 0, 1) := by decide +kernel
theorem dX1_tie_32 : decode cX1_tie 32 = .ok (.getfield 18, 3) := by decide +kernel
theorem dX1_tie_35 : decode cX1_tie 35 = .ok (.aload_n 1, 1) := by decide +kernel
theorem dX1_tie_36 : decode cX1_tie 36 = .ok (.iload_n 2, 1) := by decide +kernel
theorem dX1_tie_37 : decode cX1_tie 37 = .ok (.lload 6, 2) := by decide +kernel
theorem dX1_tie_39 : decode cX1_tie 39 = .ok (.iload_n 3, 1) := by decide +kernel
theorem dX1_tie_40 : decode cX1_tie 40 = .ok (.lload 8, 2) := by decide +kernel
theorem dX1_tie_42 : decode cX1_tie 42 = .ok (.iload 5, 2) := by decide +kernel
theorem dX1_tie_44 : decode cX1_tie 44 = .ok (.invokevirtual 85, 3) := by decide +kernel
theorem dX1_tie_47 : decode cX1_tie 47 = .ok (.aload_n 0, 1) := by decide +kernel
theorem dX1_tie_48 : decode cX1_tie 48 = .ok (.getfield 18, 3) := by decide +kernel
theorem dX1_tie_51 : decode cX1_tie 51 = .ok (.invokevirtual 40, 3) := by decide +kernel
theorem dX1_tie_54 : decode cX1_tie 54 = .ok (.aload_n 0, 1) := by decide +kernel
theorem dX1_tie_55 : decode cX1_tie 55 = .ok (.getfield 18, 3) := by decide +kernel
theorem dX1_tie_58 : decode cX1_tie 58 = .ok (.invokevirtual 43, 3) := by decide +kernel
theorem dX1_tie_61 : decode cX1_tie 61 = .ok (.aload_n 1, 1) := by decide +kernel
theorem dX1_tie_62 : decode cX1_tie 62 = .ok (.getfield 32, 3) := by decide +kernel
theorem dX1_tie_65 : decode cX1_tie 65 = .ok (.iload_n 2, 1) := by decide +kernel
theorem dX1_tie_66 : decode cX1_tie 66 = .ok (.lload 6, 2) := by decide +kernel
theorem dX1_tie_68 : decode cX1_tie 68 = .ok (.aload_n 0, 1) := by decide +kernel
theorem dX1_tie_69 : decode cX1_tie 69 = .ok (.getfield 18, 3) := by decide +kernel
theorem dX1_tie_72 : decode cX1_tie 72 = .ok (.getfield 46, 3) := by decide +kernel
theorem dX1_tie_75 : decode cX1_tie 75 = .ok (.lmul, 1) := by decide +kernel
theorem dX1_tie_76 : decode cX1_tie 76 = .ok (.lastore, 1) := by decide +kernel
theorem dX1_tie_77 : decode cX1_tie 77 = .ok (.aload_n 1, 1) := by decide +kernel
theorem dX1_tie_78 : decode cX1_tie 78 = .ok (.getfield 32, 3) := by decide +kernel
theorem dX1_tie_81 : decode cX1_tie 81 = .ok (.iload_n 3, 1) := by decide +kernel
theorem dX1_tie_82 : decode cX1_tie 82 = .ok (.lload 8, 2) := by decide +kernel
theorem dX1_tie_84 : decode cX1_tie 84 = .ok (.aload_n 0, 1) := by decide +kernel
theorem dX1_tie_85 : decode cX1_tie 85 = .ok (.getfield 18, 3) := by decide +kernel
theorem dX1_tie_88 : decode cX1_tie 88 = .ok (.getfield 46, 3) := by decide +kernel
theorem dX1_tie_91 : decode cX1_tie 91 = .ok (.lmul, 1) := by decide +kernel
theorem dX1_tie_92 : decode cX1_tie 92 = .ok (.lastore, 1) := by decide +kernel
theorem dX1_tie_93 : decode cX1_tie 93 = .ok (.aload_n 1, 1) := by decide +kernel
theorem dX1_tie_94 : decode cX1_tie 94 = .ok (.getfield 32, 3) := by decide +kernel
theorem dX1_tie_97 : decode cX1_tie 97 = .ok (.iload 5, 2) := by decide +kernel
theorem dX1_tie_99 : decode cX1_tie 99 = .ok (.aload_n 0, 1) := by decide +kernel
theorem dX1_tie_100 : decode cX1_tie 100 = .ok (.getfield 18, 3) := by decide +kernel
theorem dX1_tie_103 : decode cX1_tie 103 = .ok (.getfield 50, 3) := by decide +kernel
theorem dX1_tie_106 : decode cX1_tie 106 = .ok (.lastore, 1) := by decide +kernel
theorem dX1_tie_107 : decode cX1_tie 107 = .ok (.return_, 1) := by decide +kernel
theorem dX1_settleApart_0 : decode cX1_settleApart 0 = .ok (.aload_n 1, 1) := by decide +kernel
theorem dX1_settleApart_1 : decode cX1_settleApart 1 = .ok (.getfield 89, 3) := by decide +kernel
theorem dX1_settleApart_4 : decode cX1_settleApart 4 = .ok (.iconst 0, 1) := by decide +kernel
theorem dX1_settleApart_5 : decode cX1_settleApart 5 = .ok (.iaload, 1) := by decide +kernel
theorem dX1_settleApart_6 : decode cX1_settleApart 6 = .ok (.i2l, 1) := by decide +kernel
theorem dX1_settleApart_7 : decode cX1_settleApart 7 = .ok (.aload_n 1, 1) := by decide +kernel
theorem dX1_settleApart_8 : decode cX1_settleApart 8 = .ok (.getfield 89, 3) := by decide +kernel
theorem dX1_settleApart_11 : decode cX1_settleApart 11 = .ok (.iconst 1, 1) := by decide +kernel
theorem dX1_settleApart_12 : decode cX1_settleApart 12 = .ok (.iaload, 1) := by decide +kernel
theorem dX1_settleApart_13 : decode cX1_settleApart 13 = .ok (.i2l, 1) := by decide +kernel
theorem dX1_settleApart_14 : decode cX1_settleApart 14 = .ok (.lmul, 1) := by decide +kernel
theorem dX1_settleApart_15 : decode cX1_settleApart 15 = .ok (.aload_n 1, 1) := by decide +kernel
theorem dX1_settleApart_16 : decode cX1_settleApart 16 = .ok (.getfield 89, 3) := by decide +kernel
theorem dX1_settleApart_19 : decode cX1_settleApart 19 = .ok (.iconst 2, 1) := by decide +kernel
theorem dX1_settleApart_20 : decode cX1_settleApart 20 = .ok (.iaload, 1) := by decide +kernel
theorem dX1_settleApart_21 : decode cX1_settleApart 21 = .ok (.i2l, 1) := by decide +kernel
theorem dX1_settleApart_22 : decode cX1_settleApart 22 = .ok (.lmul, 1) := by decide +kernel
theorem dX1_settleApart_23 : decode cX1_settleApart 23 = .ok (.lstore_n 2, 1) := by decide +kernel
theorem dX1_settleApart_24 : decode cX1_settleApart 24 = .ok (.iconst 0, 1) := by decide +kernel
theorem dX1_settleApart_25 : decode cX1_settleApart 25 = .ok (.istore 4, 2) := by decide +kernel
theorem dX1_settleApart_27 : decode cX1_settleApart 27 = .ok (.iload 4, 2) := by decide +kernel
theorem dX1_settleApart_29 : decode cX1_settleApart 29 = .ok (.iconst 3, 1) := by decide +kernel
theorem dX1_settleApart_30 : decode cX1_settleApart 30 = .ok (.if_icmp .ge 87, 3) := by decide +kernel
theorem dX1_settleApart_33 : decode cX1_settleApart 33 = .ok (.lconst 0, 1) := by decide +kernel
theorem dX1_settleApart_34 : decode cX1_settleApart 34 = .ok (.lstore 5, 2) := by decide +kernel
theorem dX1_settleApart_36 : decode cX1_settleApart 36 = .ok (.iconst 0, 1) := by decide +kernel
theorem dX1_settleApart_37 : decode cX1_settleApart 37 = .ok (.istore 7, 2) := by decide +kernel
theorem dX1_settleApart_39 : decode cX1_settleApart 39 = .ok (.iload 7, 2) := by decide +kernel
theorem dX1_settleApart_41 : decode cX1_settleApart 41 = .ok (.aload_n 1, 1) := by decide +kernel
theorem dX1_settleApart_42 : decode cX1_settleApart 42 = .ok (.getfield 67, 3) := by decide +kernel
theorem dX1_settleApart_45 : decode cX1_settleApart 45 = .ok (.if_icmp .ge 36, 3) := by decide +kernel
theorem dX1_settleApart_48 : decode cX1_settleApart 48 = .ok (.aload_n 0, 1) := by decide +kernel
theorem dX1_settleApart_49 : decode cX1_settleApart 49 = .ok (.getfield 23, 3) := by decide +kernel
theorem dX1_settleApart_52 : decode cX1_settleApart 52 = .ok (.iload 4, 2) := by decide +kernel
theorem dX1_settleApart_54 : decode cX1_settleApart 54 = .ok (.aaload, 1) := by decide +kernel
theorem dX1_settleApart_55 : decode cX1_settleApart 55 = .ok (.iload 7, 2) := by decide +kernel
theorem dX1_settleApart_57 : decode cX1_settleApart 57 = .ok (.iaload, 1) := by decide +kernel
theorem dX1_settleApart_58 : decode cX1_settleApart 58 = .ok (.iconst 2, 1) := by decide +kernel
theorem dX1_settleApart_59 : decode cX1_settleApart 59 = .ok (.if_icmp .ne 16, 3) := by decide +kernel
theorem dX1_settleApart_62 : decode cX1_settleApart 62 = .ok (.lload 5, 2) := by decide +kernel
theorem dX1_settleApart_64 : decode cX1_settleApart 64 = .ok (.aload_n 1, 1) := by decide +kernel
theorem dX1_settleApart_65 : decode cX1_settleApart 65 = .ok (.getfield 92, 3) := by decide +kernel
theorem dX1_settleApart_68 : decode cX1_settleApart 68 = .ok (.iload 7, 2) := by decide +kernel
theorem dX1_settleApart_70 : decode cX1_settleApart 70 = .ok (.iaload, 1) := by decide +kernel
theorem dX1_settleApart_71 : decode cX1_settleApart 71 = .ok (.i2l, 1) := by decide +kernel
theorem dX1_settleApart_72 : decode cX1_settleApart 72 = .ok (.ladd, 1) := by decide +kernel
theorem dX1_settleApart_73 : decode cX1_settleApart 73 = .ok (.lstore 5, 2) := by decide +kernel
theorem dX1_settleApart_75 : decode cX1_settleApart 75 = .ok (.iinc 7 1, 3) := by decide +kernel
theorem dX1_settleApart_78 : decode cX1_settleApart 78 = .ok (.goto (-39), 3) := by decide +kernel
theorem dX1_settleApart_81 : decode cX1_settleApart 81 = .ok (.aload_n 1, 1) := by decide +kernel
theorem dX1_settleApart_82 : decode cX1_settleApart 82 = .ok (.getfield 89, 3) := by decide +kernel
theorem dX1_settleApart_85 : decode cX1_settleApart 85 = .ok (.iload 4, 2) := by decide +kernel
theorem dX1_settleApart_87 : decode cX1_settleApart 87 = .ok (.iaload, 1) := by decide +kernel
theorem dX1_settleApart_88 : decode cX1_settleApart 88 = .ok (.ifCond .le 23, 3) := by decide +kernel
theorem dX1_settleApart_91 : decode cX1_settleApart 91 = .ok (.aload_n 1, 1) := by decide +kernel
theorem dX1_settleApart_92 : decode cX1_settleApart 92 = .ok (.getfield 32, 3) := by decide +kernel
theorem dX1_settleApart_95 : decode cX1_settleApart 95 = .ok (.iload 4, 2) := by decide +kernel
theorem dX1_settleApart_97 : decode cX1_settleApart 97 = .ok (.lload 5, 2) := by decide +kernel
theorem dX1_settleApart_99 : decode cX1_settleApart 99 = .ok (.lload_n 2, 1) := by decide +kernel
theorem dX1_settleApart_100 : decode cX1_settleApart 100 = .ok (.aload_n 1, 1) := by decide +kernel
theorem dX1_settleApart_101 : decode cX1_settleApart 101 = .ok (.getfield 89, 3) := by decide +kernel
theorem dX1_settleApart_104 : decode cX1_settleApart 104 = .ok (.iload 4, 2) := by decide +kernel
theorem dX1_settleApart_106 : decode cX1_settleApart 106 = .ok (.iaload, 1) := by decide +kernel
theorem dX1_settleApart_107 : decode cX1_settleApart 107 = .ok (.i2l, 1) := by decide +kernel
theorem dX1_settleApart_108 : decode cX1_settleApart 108 = .ok (.ldiv, 1) := by decide +kernel
theorem dX1_settleApart_109 : decode cX1_settleApart 109 = .ok (.lmul, 1) := by decide +kernel
theorem dX1_settleApart_110 : decode cX1_settleApart 110 = .ok (.lastore, 1) := by decide +kernel
theorem dX1_settleApart_111 : decode cX1_settleApart 111 = .ok (.iinc 4 1, 3) := by decide +kernel
theorem dX1_settleApart_114 : decode cX1_settleApart 114 = .ok (.goto (-87), 3) := by decide +kernel
theorem dX1_settleApart_117 : decode cX1_settleApart 117 = .ok (.return_, 1) := by decide +kernel
theorem dX1_shorten_0 : decode cX1_shorten 0 = .ok (.lconst 0, 1) := by decide +kernel
theorem dX1_shorten_1 : decode cX1_shorten 1 = .ok (.lstore_n 1, 1) := by decide +kernel
theorem dX1_shorten_2 : decode cX1_shorten 2 = .ok (.iconst 0, 1) := by decide +kernel
theorem dX1_shorten_3 : decode cX1_shorten 3 = .ok (.istore_n 3, 1) := by decide +kernel
theorem dX1_shorten_4 : decode cX1_shorten 4 = .ok (.iload_n 3, 1) := by decide +kernel
theorem dX1_shorten_5 : decode cX1_shorten 5 = .ok (.aload_n 0, 1) := by decide +kernel
theorem dX1_shorten_6 : decode cX1_shorten 6 = .ok (.getfield 26, 3) := by decide +kernel
theorem dX1_shorten_9 : decode cX1_shorten 9 = .ok (.if_icmp .ge 20, 3) := by decide +kernel
theorem dX1_shorten_12 : decode cX1_shorten 12 = .ok (.aload_n 0, 1) := by decide +kernel
theorem dX1_shorten_13 : decode cX1_shorten 13 = .ok (.getfield 32, 3) := by decide +kernel
theorem dX1_shorten_16 : decode cX1_shorten 16 = .ok (.iload_n 3, 1) := by decide +kernel
theorem dX1_shorten_17 : decode cX1_shorten 17 = .ok (.laload, 1) := by decide +kernel
theorem dX1_shorten_18 : decode cX1_shorten 18 = .ok (.lload_n 1, 1) := by decide +kernel
theorem dX1_shorten_19 : decode cX1_shorten 19 = .ok (.invokestatic 95, 3) := by decide +kernel
theorem dX1_shorten_22 : decode cX1_shorten 22 = .ok (.lstore_n 1, 1) := by decide +kernel
theorem dX1_shorten_23 : decode cX1_shorten 23 = .ok (.iinc 3 1, 3) := by decide +kernel
theorem dX1_shorten_26 : decode cX1_shorten 26 = .ok (.goto (-22), 3) := by decide +kernel
theorem dX1_shorten_29 : decode cX1_shorten 29 = .ok (.iconst 0, 1) := by decide +kernel
theorem dX1_shorten_30 : decode cX1_shorten 30 = .ok (.istore_n 3, 1) := by decide +kernel
theorem dX1_shorten_31 : decode cX1_shorten 31 = .ok (.iload_n 3, 1) := by decide +kernel
theorem dX1_shorten_32 : decode cX1_shorten 32 = .ok (.aload_n 0, 1) := by decide +kernel
theorem dX1_shorten_33 : decode cX1_shorten 33 = .ok (.getfield 26, 3) := by decide +kernel
theorem dX1_shorten_36 : decode cX1_shorten 36 = .ok (.if_icmp .ge 25, 3) := by decide +kernel
theorem dX1_shorten_39 : decode cX1_shorten 39 = .ok (.lload_n 1, 1) := by decide +kernel
theorem dX1_shorten_40 : decode cX1_shorten 40 = .ok (.lconst 1, 1) := by decide +kernel
theorem dX1_shorten_41 : decode cX1_shorten 41 = .ok (.lcmp, 1) := by decide +kernel
theorem dX1_shorten_42 : decode cX1_shorten 42 = .ok (.ifCond .le 19, 3) := by decide +kernel
theorem dX1_shorten_45 : decode cX1_shorten 45 = .ok (.aload_n 0, 1) := by decide +kernel
theorem dX1_shorten_46 : decode cX1_shorten 46 = .ok (.getfield 32, 3) := by decide +kernel
theorem dX1_shorten_49 : decode cX1_shorten 49 = .ok (.iload_n 3, 1) := by decide +kernel
theorem dX1_shorten_50 : decode cX1_shorten 50 = .ok (.dup2, 1) := by decide +kernel
theorem dX1_shorten_51 : decode cX1_shorten 51 = .ok (.laload, 1) := by decide +kernel
theorem dX1_shorten_52 : decode cX1_shorten 52 = .ok (.lload_n 1, 1) := by decide +kernel
theorem dX1_shorten_53 : decode cX1_shorten 53 = .ok (.ldiv, 1) := by decide +kernel
theorem dX1_shorten_54 : decode cX1_shorten 54 = .ok (.lastore, 1) := by decide +kernel
theorem dX1_shorten_55 : decode cX1_shorten 55 = .ok (.iinc 3 1, 3) := by decide +kernel
theorem dX1_shorten_58 : decode cX1_shorten 58 = .ok (.goto (-27), 3) := by decide +kernel
theorem dX1_shorten_61 : decode cX1_shorten 61 = .ok (.return_, 1) := by decide +kernel
theorem dX2_init_0 : decode cX2_init 0 = .ok (.aload_n 0, 1) := by decide +kernel
theorem dX2_init_1 : decode cX2_init 1 = .ok (.invokespecial 1, 3) := by decide +kernel
theorem dX2_init_4 : decode cX2_init 4 = .ok (.aload_n 0, 1) := by decide +kernel
theorem dX2_init_5 : decode cX2_init 5 = .ok (.bipush 8, 2) := by decide +kernel
theorem dX2_init_7 : decode cX2_init 7 = .ok (.bipush 40, 2) := by decide +kernel
theorem dX2_init_9 : decode cX2_init 9 = .ok (.multianewarray 9 2, 4) := by decide +kernel
theorem dX2_init_13 : decode cX2_init 13 = .ok (.putfield 11, 3) := by decide +kernel
theorem dX2_init_16 : decode cX2_init 16 = .ok (.aload_n 0, 1) := by decide +kernel
theorem dX2_init_17 : decode cX2_init 17 = .ok (.bipush 8, 2) := by decide +kernel
theorem dX2_init_19 : decode cX2_init 19 = .ok (.newarray .int, 2) := by decide +kernel
theorem dX2_init_21 : decode cX2_init 21 = .ok (.putfield 14, 3) := by decide +kernel
theorem dX2_init_24 : decode cX2_init 24 = .ok (.aload_n 0, 1) := by decide +kernel
theorem dX2_init_25 : decode cX2_init 25 = .ok (.bipush 8, 2) := by decide +kernel
theorem dX2_init_27 : decode cX2_init 27 = .ok (.newarray .int, 2) := by decide +kernel
theorem dX2_init_29 : decode cX2_init 29 = .ok (.putfield 18, 3) := by decide +kernel
theorem dX2_init_32 : decode cX2_init 32 = .ok (.iconst 0, 1) := by decide +kernel
theorem dX2_init_33 : decode cX2_init 33 = .ok (.istore_n 1, 1) := by decide +kernel
theorem dX2_init_34 : decode cX2_init 34 = .ok (.iload_n 1, 1) := by decide +kernel
theorem dX2_init_35 : decode cX2_init 35 = .ok (.bipush 8, 2) := by decide +kernel
theorem dX2_init_37 : decode cX2_init 37 = .ok (.if_icmp .ge 16, 3) := by decide +kernel
theorem dX2_init_40 : decode cX2_init 40 = .ok (.aload_n 0, 1) := by decide +kernel
theorem dX2_init_41 : decode cX2_init 41 = .ok (.getfield 18, 3) := by decide +kernel
theorem dX2_init_44 : decode cX2_init 44 = .ok (.iload_n 1, 1) := by decide +kernel
theorem dX2_init_45 : decode cX2_init 45 = .ok (.iconst (-1), 1) := by decide +kernel
theorem dX2_init_46 : decode cX2_init 46 = .ok (.iastore, 1) := by decide +kernel
theorem dX2_init_47 : decode cX2_init 47 = .ok (.iinc 1 1, 3) := by decide +kernel
theorem dX2_init_50 : decode cX2_init 50 = .ok (.goto (-16), 3) := by decide +kernel
theorem dX2_init_53 : decode cX2_init 53 = .ok (.return_, 1) := by decide +kernel
theorem dX2_isRow_0 : decode cX2_isRow 0 = .ok (.iload_n 0, 1) := by decide +kernel
theorem dX2_isRow_1 : decode cX2_isRow 1 = .ok (.ifCond .lt 13, 3) := by decide +kernel
theorem dX2_isRow_4 : decode cX2_isRow 4 = .ok (.iload_n 0, 1) := by decide +kernel
theorem dX2_isRow_5 : decode cX2_isRow 5 = .ok (.bipush 8, 2) := by decide +kernel
theorem dX2_isRow_7 : decode cX2_isRow 7 = .ok (.if_icmp .ge 7, 3) := by decide +kernel
theorem dX2_isRow_10 : decode cX2_isRow 10 = .ok (.iconst 1, 1) := by decide +kernel
theorem dX2_isRow_11 : decode cX2_isRow 11 = .ok (.goto 4, 3) := by decide +kernel
theorem dX2_isRow_14 : decode cX2_isRow 14 = .ok (.iconst 0, 1) := by decide +kernel
theorem dX2_isRow_15 : decode cX2_isRow 15 = .ok (.ireturn, 1) := by decide +kernel
theorem dX2_isLane_0 : decode cX2_isLane 0 = .ok (.iload_n 0, 1) := by decide +kernel
theorem dX2_isLane_1 : decode cX2_isLane 1 = .ok (.ifCond .lt 12, 3) := by decide +kernel
theorem dX2_isLane_4 : decode cX2_isLane 4 = .ok (.iload_n 0, 1) := by decide +kernel
theorem dX2_isLane_5 : decode cX2_isLane 5 = .ok (.iconst 2, 1) := by decide +kernel
theorem dX2_isLane_6 : decode cX2_isLane 6 = .ok (.if_icmp .gt 7, 3) := by decide +kernel
theorem dX2_isLane_9 : decode cX2_isLane 9 = .ok (.iconst 1, 1) := by decide +kernel
theorem dX2_isLane_10 : decode cX2_isLane 10 = .ok (.goto 4, 3) := by decide +kernel
theorem dX2_isLane_13 : decode cX2_isLane 13 = .ok (.iconst 0, 1) := by decide +kernel
theorem dX2_isLane_14 : decode cX2_isLane 14 = .ok (.ireturn, 1) := by decide +kernel
theorem dX2_isMissing_0 : decode cX2_isMissing 0 = .ok (.aload_n 0, 1) := by decide +kernel
theorem dX2_isMissing_1 : decode cX2_isMissing 1 = .ok (.getfield 18, 3) := by decide +kernel
theorem dX2_isMissing_4 : decode cX2_isMissing 4 = .ok (.iload_n 1, 1) := by decide +kernel
theorem dX2_isMissing_5 : decode cX2_isMissing 5 = .ok (.iaload, 1) := by decide +kernel
theorem dX2_isMissing_6 : decode cX2_isMissing 6 = .ok (.iconst (-1), 1) := by decide +kernel
theorem dX2_isMissing_7 : decode cX2_isMissing 7 = .ok (.if_icmp .ne 7, 3) := by decide +kernel
theorem dX2_isMissing_10 : decode cX2_isMissing 10 = .ok (.iconst 1, 1) := by decide +kernel
theorem dX2_isMissing_11 : decode cX2_isMissing 11 = .ok (.goto 4, 3) := by decide +kernel
theorem dX2_isMissing_14 : decode cX2_isMissing 14 = .ok (.iconst 0, 1) := by decide +kernel
theorem dX2_isMissing_15 : decode cX2_isMissing 15 = .ok (.ireturn, 1) := by decide +kernel
theorem dX2_sameLane_0 : decode cX2_sameLane 0 = .ok (.aload_n 0, 1) := by decide +kernel
theorem dX2_sameLane_1 : decode cX2_sameLane 1 = .ok (.getfield 14, 3) := by decide +kernel
theorem dX2_sameLane_4 : decode cX2_sameLane 4 = .ok (.iload_n 1, 1) := by decide +kernel
theorem dX2_sameLane_5 : decode cX2_sameLane 5 = .ok (.iaload, 1) := by decide +kernel
theorem dX2_sameLane_6 : decode cX2_sameLane 6 = .ok (.aload_n 0, 1) := by decide +kernel
theorem dX2_sameLane_7 : decode cX2_sameLane 7 = .ok (.getfield 14, 3) := by decide +kernel
theorem dX2_sameLane_10 : decode cX2_sameLane 10 = .ok (.iload_n 2, 1) := by decide +kernel
theorem dX2_sameLane_11 : decode cX2_sameLane 11 = .ok (.iaload, 1) := by decide +kernel
theorem dX2_sameLane_12 : decode cX2_sameLane 12 = .ok (.if_icmp .ne 7, 3) := by decide +kernel
theorem dX2_sameLane_15 : decode cX2_sameLane 15 = .ok (.iconst 1, 1) := by decide +kernel
theorem dX2_sameLane_16 : decode cX2_sameLane 16 = .ok (.goto 4, 3) := by decide +kernel
theorem dX2_sameLane_19 : decode cX2_sameLane 19 = .ok (.iconst 0, 1) := by decide +kernel
theorem dX2_sameLane_20 : decode cX2_sameLane 20 = .ok (.ireturn, 1) := by decide +kernel
theorem dX2_has_0 : decode cX2_has 0 = .ok (.iload_n 2, 1) := by decide +kernel
theorem dX2_has_1 : decode cX2_has 1 = .ok (.ifCond .lt 33, 3) := by decide +kernel
theorem dX2_has_4 : decode cX2_has 4 = .ok (.iload_n 3, 1) := by decide +kernel
theorem dX2_has_5 : decode cX2_has 5 = .ok (.ifCond .lt 29, 3) := by decide +kernel
theorem dX2_has_8 : decode cX2_has 8 = .ok (.iload_n 3, 1) := by decide +kernel
theorem dX2_has_9 : decode cX2_has 9 = .ok (.aload_n 0, 1) := by decide +kernel
theorem dX2_has_10 : decode cX2_has 10 = .ok (.getfield 18, 3) := by decide +kernel
theorem dX2_has_13 : decode cX2_has 13 = .ok (.iload_n 1, 1) := by decide +kernel
theorem dX2_has_14 : decode cX2_has 14 = .ok (.iaload, 1) := by decide +kernel
theorem dX2_has_15 : decode cX2_has 15 = .ok (.if_icmp .gt 19, 3) := by decide +kernel
theorem dX2_has_18 : decode cX2_has 18 = .ok (.iload_n 2, 1) := by decide +kernel
theorem dX2_has_19 : decode cX2_has 19 = .ok (.aload_n 0, 1) := by decide +kernel
theorem dX2_has_20 : decode cX2_has 20 = .ok (.getfield 18, 3) := by decide +kernel
theorem dX2_has_23 : decode cX2_has 23 = .ok (.iload_n 1, 1) := by decide +kernel
theorem dX2_has_24 : decode cX2_has 24 = .ok (.iaload, 1) := by decide +kernel
theorem dX2_has_25 : decode cX2_has 25 = .ok (.iload_n 3, 1) := by decide +kernel
theorem dX2_has_26 : decode cX2_has 26 = .ok (.isub, 1) := by decide +kernel
theorem dX2_has_27 : decode cX2_has 27 = .ok (.if_icmp .gt 7, 3) := by decide +kernel
theorem dX2_has_30 : decode cX2_has 30 = .ok (.iconst 1, 1) := by decide +kernel
theorem dX2_has_31 : decode cX2_has 31 = .ok (.goto 4, 3) := by decide +kernel
theorem dX2_has_34 : decode cX2_has 34 = .ok (.iconst 0, 1) := by decide +kernel
theorem dX2_has_35 : decode cX2_has 35 = .ok (.ireturn, 1) := by decide +kernel
theorem dX2_item_0 : decode cX2_item 0 = .ok (.aload_n 0, 1) := by decide +kernel
theorem dX2_item_1 : decode cX2_item 1 = .ok (.getfield 11, 3) := by decide +kernel
theorem dX2_item_4 : decode cX2_item 4 = .ok (.iload_n 1, 1) := by decide +kernel
theorem dX2_item_5 : decode cX2_item 5 = .ok (.aaload, 1) := by decide +kernel
theorem dX2_item_6 : decode cX2_item 6 = .ok (.iload_n 2, 1) := by decide +kernel
theorem dX2_item_7 : decode cX2_item 7 = .ok (.iaload, 1) := by decide +kernel
theorem dX2_item_8 : decode cX2_item 8 = .ok (.ireturn, 1) := by decide +kernel
theorem dX2_make_0 : decode cX2_make 0 = .ok (.aload_n 0, 1) := by decide +kernel
theorem dX2_make_1 : decode cX2_make 1 = .ok (.getfield 14, 3) := by decide +kernel
theorem dX2_make_4 : decode cX2_make 4 = .ok (.iload_n 1, 1) := by decide +kernel
theorem dX2_make_5 : decode cX2_make 5 = .ok (.iload_n 2, 1) := by decide +kernel
theorem dX2_make_6 : decode cX2_make 6 = .ok (.iastore, 1) := by decide +kernel
theorem dX2_make_7 : decode cX2_make 7 = .ok (.aload_n 0, 1) := by decide +kernel
theorem dX2_make_8 : decode cX2_make 8 = .ok (.getfield 18, 3) := by decide +kernel
theorem dX2_make_11 : decode cX2_make 11 = .ok (.iload_n 1, 1) := by decide +kernel
theorem dX2_make_12 : decode cX2_make 12 = .ok (.iload_n 3, 1) := by decide +kernel
theorem dX2_make_13 : decode cX2_make 13 = .ok (.iastore, 1) := by decide +kernel
theorem dX2_make_14 : decode cX2_make 14 = .ok (.iconst 0, 1) := by decide +kernel
theorem dX2_make_15 : decode cX2_make 15 = .ok (.istore 4, 2) := by decide +kernel
theorem dX2_make_17 : decode cX2_make 17 = .ok (.iload 4, 2) := by decide +kernel
theorem dX2_make_19 : decode cX2_make 19 = .ok (.iload_n 3, 1) := by decide +kernel
theorem dX2_make_20 : decode cX2_make 20 = .ok (.if_icmp .ge 19, 3) := by decide +kernel
theorem dX2_make_23 : decode cX2_make 23 = .ok (.aload_n 0, 1) := by decide +kernel
theorem dX2_make_24 : decode cX2_make 24 = .ok (.getfield 11, 3) := by decide +kernel
theorem dX2_make_27 : decode cX2_make 27 = .ok (.iload_n 1, 1) := by decide +kernel
theorem dX2_make_28 : decode cX2_make 28 = .ok (.aaload, 1) := by decide +kernel
theorem dX2_make_29 : decode cX2_make 29 = .ok (.iload 4, 2) := by decide +kernel
theorem dX2_make_31 : decode cX2_make 31 = .ok (.iconst 0, 1) := by decide +kernel
theorem dX2_make_32 : decode cX2_make 32 = .ok (.iastore, 1) := by decide +kernel
theorem dX2_make_33 : decode cX2_make 33 = .ok (.iinc 4 1, 3) := by decide +kernel
theorem dX2_make_36 : decode cX2_make 36 = .ok (.goto (-19), 3) := by decide +kernel
theorem dX2_make_39 : decode cX2_make 39 = .ok (.return_, 1) := by decide +kernel
theorem dX2_put_0 : decode cX2_put 0 = .ok (.iload_n 3, 1) := by decide +kernel
theorem dX2_put_1 : decode cX2_put 1 = .ok (.istore 4, 2) := by decide +kernel
theorem dX2_put_3 : decode cX2_put 3 = .ok (.aload_n 0, 1) := by decide +kernel
theorem dX2_put_4 : decode cX2_put 4 = .ok (.getfield 14, 3) := by decide +kernel
theorem dX2_put_7 : decode cX2_put 7 = .ok (.iload_n 1, 1) := by decide +kernel
theorem dX2_put_8 : decode cX2_put 8 = .ok (.iaload, 1) := by decide +kernel
theorem dX2_put_9 : decode cX2_put 9 = .ok (.ifCond .ne 10, 3) := by decide +kernel
theorem dX2_put_12 : decode cX2_put 12 = .ok (.iload_n 3, 1) := by decide +kernel
theorem dX2_put_13 : decode cX2_put 13 = .ok (.i2b, 1) := by decide +kernel
theorem dX2_put_14 : decode cX2_put 14 = .ok (.istore 4, 2) := by decide +kernel
theorem dX2_put_16 : decode cX2_put 16 = .ok (.goto 17, 3) := by decide +kernel
theorem dX2_put_19 : decode cX2_put 19 = .ok (.aload_n 0, 1) := by decide +kernel
theorem dX2_put_20 : decode cX2_put 20 = .ok (.getfield 14, 3) := by decide +kernel
theorem dX2_put_23 : decode cX2_put 23 = .ok (.iload_n 1, 1) := by decide +kernel
theorem dX2_put_24 : decode cX2_put 24 = .ok (.iaload, 1) := by decide +kernel
theorem dX2_put_25 : decode cX2_put 25 = .ok (.iconst 1, 1) := by decide +kernel
theorem dX2_put_26 : decode cX2_put 26 = .ok (.if_icmp .ne 7, 3) := by decide +kernel
theorem dX2_put_29 : decode cX2_put 29 = .ok (.iload_n 3, 1) := by decide +kernel
theorem dX2_put_30 : decode cX2_put 30 = .ok (.i2s, 1) := by decide +kernel
theorem dX2_put_31 : decode cX2_put 31 = .ok (.istore 4, 2) := by decide +kernel
theorem dX2_put_33 : decode cX2_put 33 = .ok (.aload_n 0, 1) := by decide +kernel
theorem dX2_put_34 : decode cX2_put 34 = .ok (.getfield 11, 3) := by decide +kernel
theorem dX2_put_37 : decode cX2_put 37 = .ok (.iload_n 1, 1) := by decide +kernel
theorem dX2_put_38 : decode cX2_put 38 = .ok (.aaload, 1) := by decide +kernel
theorem dX2_put_39 : decode cX2_put 39 = .ok (.iload_n 2, 1) := by decide +kernel
theorem dX2_put_40 : decode cX2_put 40 = .ok (.iload 4, 2) := by decide +kernel
theorem dX2_put_42 : decode cX2_put 42 = .ok (.iastore, 1) := by decide +kernel
theorem dX2_put_43 : decode cX2_put 43 = .ok (.iload 4, 2) := by decide +kernel
theorem dX2_put_45 : decode cX2_put 45 = .ok (.ireturn, 1) := by decide +kernel
theorem dX2_carry_0 : decode cX2_carry 0 = .ok (.aload_n 0, 1) := by decide +kernel
theorem dX2_carry_1 : decode cX2_carry 1 = .ok (.getfield 11, 3) := by decide +kernel
theorem dX2_carry_4 : decode cX2_carry 4 = .ok (.iload_n 1, 1) := by decide +kernel
theorem dX2_carry_5 : decode cX2_carry 5 = .ok (.aaload, 1) := by decide +kernel
theorem dX2_carry_6 : decode cX2_carry 6 = .ok (.iload_n 2, 1) := by decide +kernel
theorem dX2_carry_7 : decode cX2_carry 7 = .ok (.aload_n 0, 1) := by decide +kernel
theorem dX2_carry_8 : decode cX2_carry 8 = .ok (.getfield 11, 3) := by decide +kernel
theorem dX2_carry_11 : decode cX2_carry 11 = .ok (.iload_n 3, 1) := by decide +kernel
theorem dX2_carry_12 : decode cX2_carry 12 = .ok (.aaload, 1) := by decide +kernel
theorem dX2_carry_13 : decode cX2_carry 13 = .ok (.iload 4, 2) := by decide +kernel
theorem dX2_carry_15 : decode cX2_carry 15 = .ok (.iload 5, 2) := by decide +kernel
theorem dX2_carry_17 : decode cX2_carry 17 = .ok (.invokestatic 21, 3) := by decide +kernel
theorem dX2_carry_20 : decode cX2_carry 20 = .ok (.return_, 1) := by decide +kernel
theorem dX2_remove_0 : decode cX2_remove 0 = .ok (.aload_n 0, 1) := by decide +kernel
theorem dX2_remove_1 : decode cX2_remove 1 = .ok (.getfield 18, 3) := by decide +kernel
theorem dX2_remove_4 : decode cX2_remove 4 = .ok (.iload_n 1, 1) := by decide +kernel
theorem dX2_remove_5 : decode cX2_remove 5 = .ok (.iaload, 1) := by decide +kernel
theorem dX2_remove_6 : decode cX2_remove 6 = .ok (.istore_n 2, 1) := by decide +kernel
theorem dX2_remove_7 : decode cX2_remove 7 = .ok (.aload_n 0, 1) := by decide +kernel
theorem dX2_remove_8 : decode cX2_remove 8 = .ok (.getfield 18, 3) := by decide +kernel
theorem dX2_remove_11 : decode cX2_remove 11 = .ok (.iload_n 1, 1) := by decide +kernel
theorem dX2_remove_12 : decode cX2_remove 12 = .ok (.iconst (-1), 1) := by decide +kernel
theorem dX2_remove_13 : decode cX2_remove 13 = .ok (.iastore, 1) := by decide +kernel
theorem dX2_remove_14 : decode cX2_remove 14 = .ok (.iload_n 2, 1) := by decide +kernel
theorem dX2_remove_15 : decode cX2_remove 15 = .ok (.ireturn, 1) := by decide +kernel
theorem dX2_present_0 : decode cX2_present 0 = .ok (.iconst 0, 1) := by decide +kernel
theorem dX2_present_1 : decode cX2_present 1 = .ok (.istore_n 1, 1) := by decide +kernel
theorem dX2_present_2 : decode cX2_present 2 = .ok (.iconst 0, 1) := by decide +kernel
theorem dX2_present_3 : decode cX2_present 3 = .ok (.istore_n 2, 1) := by decide +kernel
theorem dX2_present_4 : decode cX2_present 4 = .ok (.iload_n 2, 1) := by decide +kernel
theorem dX2_present_5 : decode cX2_present 5 = .ok (.bipush 8, 2) := by decide +kernel
theorem dX2_present_7 : decode cX2_present 7 = .ok (.if_icmp .ge 22, 3) := by decide +kernel
theorem dX2_present_10 : decode cX2_present 10 = .ok (.aload_n 0, 1) := by decide +kernel
theorem dX2_present_11 : decode cX2_present 11 = .ok (.getfield 18, 3) := by decide +kernel
theorem dX2_present_14 : decode cX2_present 14 = .ok (.iload_n 2, 1) := by decide +kernel
theorem dX2_present_15 : decode cX2_present 15 = .ok (.iaload, 1) := by decide +kernel
theorem dX2_present_16 : decode cX2_present 16 = .ok (.iconst (-1), 1) := by decide +kernel
theorem dX2_present_17 : decode cX2_present 17 = .ok (.if_icmp .eq 6, 3) := by decide +kernel
theorem dX2_present_20 : decode cX2_present 20 = .ok (.iinc 1 1, 3) := by decide +kernel
theorem dX2_present_23 : decode cX2_present 23 = .ok (.iinc 2 1, 3) := by decide +kernel
theorem dX2_present_26 : decode cX2_present 26 = .ok (.goto (-22), 3) := by decide +kernel
theorem dX2_present_29 : decode cX2_present 29 = .ok (.iload_n 1, 1) := by decide +kernel
theorem dX2_present_30 : decode cX2_present 30 = .ok (.ireturn, 1) := by decide +kernel
theorem dX3_init_0 : decode cX3_init 0 = .ok (.aload_n 0, 1) := by decide +kernel
theorem dX3_init_1 : decode cX3_init 1 = .ok (.invokespecial 3, 3) := by decide +kernel
theorem dX3_init_4 : decode cX3_init 4 = .ok (.aload_n 0, 1) := by decide +kernel
theorem dX3_init_5 : decode cX3_init 5 = .ok (.sipush 400, 3) := by decide +kernel
theorem dX3_init_8 : decode cX3_init 8 = .ok (.newarray .byte, 2) := by decide +kernel
theorem dX3_init_10 : decode cX3_init 10 = .ok (.putfield 11, 3) := by decide +kernel
theorem dX3_init_13 : decode cX3_init 13 = .ok (.aload_n 0, 1) := by decide +kernel
theorem dX3_init_14 : decode cX3_init 14 = .ok (.iconst 0, 1) := by decide +kernel
theorem dX3_init_15 : decode cX3_init 15 = .ok (.putfield 15, 3) := by decide +kernel
theorem dX3_init_18 : decode cX3_init 18 = .ok (.aload_n 0, 1) := by decide +kernel
theorem dX3_init_19 : decode cX3_init 19 = .ok (.iconst 0, 1) := by decide +kernel
theorem dX3_init_20 : decode cX3_init 20 = .ok (.putfield 19, 3) := by decide +kernel
theorem dX3_init_23 : decode cX3_init 23 = .ok (.aload_n 0, 1) := by decide +kernel
theorem dX3_init_24 : decode cX3_init 24 = .ok (.iconst 0, 1) := by decide +kernel
theorem dX3_init_25 : decode cX3_init 25 = .ok (.putfield 22, 3) := by decide +kernel
theorem dX3_init_28 : decode cX3_init 28 = .ok (.aload_n 0, 1) := by decide +kernel
theorem dX3_init_29 : decode cX3_init 29 = .ok (.iconst 0, 1) := by decide +kernel
theorem dX3_init_30 : decode cX3_init 30 = .ok (.putfield 25, 3) := by decide +kernel
theorem dX3_init_33 : decode cX3_init 33 = .ok (.aload_n 0, 1) := by decide +kernel
theorem dX3_init_34 : decode cX3_init 34 = .ok (.iconst 0, 1) := by decide +kernel
theorem dX3_init_35 : decode cX3_init 35 = .ok (.putfield 28, 3) := by decide +kernel
theorem dX3_init_38 : decode cX3_init 38 = .ok (.aload_n 0, 1) := by decide +kernel
theorem dX3_init_39 : decode cX3_init 39 = .ok (.iconst 0, 1) := by decide +kernel
theorem dX3_init_40 : decode cX3_init 40 = .ok (.putfield 31, 3) := by decide +kernel
theorem dX3_init_43 : decode cX3_init 43 = .ok (.aload_n 0, 1) := by decide +kernel
theorem dX3_init_44 : decode cX3_init 44 = .ok (.iconst 0, 1) := by decide +kernel
theorem dX3_init_45 : decode cX3_init 45 = .ok (.putfield 34, 3) := by decide +kernel
theorem dX3_init_48 : decode cX3_init 48 = .ok (.return_, 1) := by decide +kernel
theorem dX3_hasRoom_0 : decode cX3_hasRoom 0 = .ok (.aload_n 0, 1) := by decide +kernel
theorem dX3_hasRoom_1 : decode cX3_hasRoom 1 = .ok (.getfield 15, 3) := by decide +kernel
theorem dX3_hasRoom_4 : decode cX3_hasRoom 4 = .ok (.iload_n 1, 1) := by decide +kernel
theorem dX3_hasRoom_5 : decode cX3_hasRoom 5 = .ok (.iadd, 1) := by decide +kernel
theorem dX3_hasRoom_6 : decode cX3_hasRoom 6 = .ok (.sipush 400, 3) := by decide +kernel
theorem dX3_hasRoom_9 : decode cX3_hasRoom 9 = .ok (.if_icmp .gt 7, 3) := by decide +kernel
theorem dX3_hasRoom_12 : decode cX3_hasRoom 12 = .ok (.iconst 1, 1) := by decide +kernel
theorem dX3_hasRoom_13 : decode cX3_hasRoom 13 = .ok (.goto 4, 3) := by decide +kernel
theorem dX3_hasRoom_16 : decode cX3_hasRoom 16 = .ok (.iconst 0, 1) := by decide +kernel
theorem dX3_hasRoom_17 : decode cX3_hasRoom 17 = .ok (.ireturn, 1) := by decide +kernel
theorem dX3_append_0 : decode cX3_append 0 = .ok (.iload_n 3, 1) := by decide +kernel
theorem dX3_append_1 : decode cX3_append 1 = .ok (.iconst 1, 1) := by decide +kernel
theorem dX3_append_2 : decode cX3_append 2 = .ok (.isub, 1) := by decide +kernel
theorem dX3_append_3 : decode cX3_append 3 = .ok (.istore 4, 2) := by decide +kernel
theorem dX3_append_5 : decode cX3_append 5 = .ok (.iload 4, 2) := by decide +kernel
theorem dX3_append_7 : decode cX3_append 7 = .ok (.ifCond .lt 47, 3) := by decide +kernel
theorem dX3_append_10 : decode cX3_append 10 = .ok (.aload_n 0, 1) := by decide +kernel
theorem dX3_append_11 : decode cX3_append 11 = .ok (.getfield 15, 3) := by decide +kernel
theorem dX3_append_14 : decode cX3_append 14 = .ok (.sipush 400, 3) := by decide +kernel
theorem dX3_append_17 : decode cX3_append 17 = .ok (.if_icmp .ge 37, 3) := by decide +kernel
theorem dX3_append_20 : decode cX3_append 20 = .ok (.aload_n 0, 1) := by decide +kernel
theorem dX3_append_21 : decode cX3_append 21 = .ok (.getfield 11, 3) := by decide +kernel
theorem dX3_append_24 : decode cX3_append 24 = .ok (.aload_n 0, 1) := by decide +kernel
theorem dX3_append_25 : decode cX3_append 25 = .ok (.getfield 15, 3) := by decide +kernel
theorem dX3_append_28 : decode cX3_append 28 = .ok (.lload_n 1, 1) := by decide +kernel
theorem dX3_append_29 : decode cX3_append 29 = .ok (.bipush 8, 2) := by decide +kernel
theorem dX3_append_31 : decode cX3_append 31 = .ok (.iload 4, 2) := by decide +kernel
theorem dX3_append_33 : decode cX3_append 33 = .ok (.imul, 1) := by decide +kernel
theorem dX3_append_34 : decode cX3_append 34 = .ok (.lushr, 1) := by decide +kernel
theorem dX3_append_35 : decode cX3_append 35 = .ok (.l2i, 1) := by decide +kernel
theorem dX3_append_36 : decode cX3_append 36 = .ok (.i2b, 1) := by decide +kernel
theorem dX3_append_37 : decode cX3_append 37 = .ok (.bastore, 1) := by decide +kernel
theorem dX3_append_38 : decode cX3_append 38 = .ok (.aload_n 0, 1) := by decide +kernel
theorem dX3_append_39 : decode cX3_append 39 = .ok (.dup, 1) := by decide +kernel
theorem dX3_append_40 : decode cX3_append 40 = .ok (.getfield 15, 3) := by decide +kernel
theorem dX3_append_43 : decode cX3_append 43 = .ok (.iconst 1, 1) := by decide +kernel
theorem dX3_append_44 : decode cX3_append 44 = .ok (.iadd, 1) := by decide +kernel
theorem dX3_append_45 : decode cX3_append 45 = .ok (.putfield 15, 3) := by decide +kernel
theorem dX3_append_48 : decode cX3_append 48 = .ok (.iinc 4 (-1), 3) := by decide +kernel
theorem dX3_append_51 : decode cX3_append 51 = .ok (.goto (-46), 3) := by decide +kernel
theorem dX3_append_54 : decode cX3_append 54 = .ok (.aload_n 0, 1) := by decide +kernel
theorem dX3_append_55 : decode cX3_append 55 = .ok (.getfield 15, 3) := by decide +kernel
theorem dX3_append_58 : decode cX3_append 58 = .ok (.ireturn, 1) := by decide +kernel
theorem dX3_empty_0 : decode cX3_empty 0 = .ok (.aload_n 0, 1) := by decide +kernel
theorem dX3_empty_1 : decode cX3_empty 1 = .ok (.iconst 0, 1) := by decide +kernel
theorem dX3_empty_2 : decode cX3_empty 2 = .ok (.putfield 15, 3) := by decide +kernel
theorem dX3_empty_5 : decode cX3_empty 5 = .ok (.return_, 1) := by decide +kernel
theorem dX3_readInto_0 : decode cX3_readInto 0 = .ok (.aload_n 1, 1) := by decide +kernel
theorem dX3_readInto_1 : decode cX3_readInto 1 = .ok (.iconst 0, 1) := by decide +kernel
theorem dX3_readInto_2 : decode cX3_readInto 2 = .ok (.putfield 37, 3) := by decide +kernel
theorem dX3_readInto_5 : decode cX3_readInto 5 = .ok (.aload_n 1, 1) := by decide +kernel
theorem dX3_readInto_6 : decode cX3_readInto 6 = .ok (.iconst 0, 1) := by decide +kernel
theorem dX3_readInto_7 : decode cX3_readInto 7 = .ok (.putfield 42, 3) := by decide +kernel
theorem dX3_readInto_10 : decode cX3_readInto 10 = .ok (.aload_n 0, 1) := by decide +kernel
theorem dX3_readInto_11 : decode cX3_readInto 11 = .ok (.iconst 0, 1) := by decide +kernel
theorem dX3_readInto_12 : decode cX3_readInto 12 = .ok (.putfield 28, 3) := by decide +kernel
theorem dX3_readInto_15 : decode cX3_readInto 15 = .ok (.aload_n 0, 1) := by decide +kernel
theorem dX3_readInto_16 : decode cX3_readInto 16 = .ok (.invokevirtual 45, 3) := by decide +kernel
theorem dX3_readInto_19 : decode cX3_readInto 19 = .ok (.aload_n 0, 1) := by decide +kernel
theorem dX3_readInto_20 : decode cX3_readInto 20 = .ok (.aload_n 1, 1) := by decide +kernel
theorem dX3_readInto_21 : decode cX3_readInto 21 = .ok (.invokevirtual 48, 3) := by decide +kernel
theorem dX3_readInto_24 : decode cX3_readInto 24 = .ok (.istore_n 2, 1) := by decide +kernel
theorem dX3_readInto_25 : decode cX3_readInto 25 = .ok (.iconst 0, 1) := by decide +kernel
theorem dX3_readInto_26 : decode cX3_readInto 26 = .ok (.istore_n 3, 1) := by decide +kernel
theorem dX3_readInto_27 : decode cX3_readInto 27 = .ok (.iload_n 3, 1) := by decide +kernel
theorem dX3_readInto_28 : decode cX3_readInto 28 = .ok (.bipush 6, 2) := by decide +kernel
theorem dX3_readInto_30 : decode cX3_readInto 30 = .ok (.if_icmp .ge 27, 3) := by decide +kernel
theorem dX3_readInto_33 : decode cX3_readInto 33 = .ok (.iload_n 2, 1) := by decide +kernel
theorem dX3_readInto_34 : decode cX3_readInto 34 = .ok (.ifCond .eq 23, 3) := by decide +kernel
theorem dX3_readInto_37 : decode cX3_readInto 37 = .ok (.aload_n 0, 1) := by decide +kernel
theorem dX3_readInto_38 : decode cX3_readInto 38 = .ok (.getfield 31, 3) := by decide +kernel
theorem dX3_readInto_41 : decode cX3_readInto 41 = .ok (.iconst 1, 1) := by decide +kernel
theorem dX3_readInto_42 : decode cX3_readInto 42 = .ok (.if_icmp .ne 15, 3) := by decide +kernel
theorem dX3_readInto_45 : decode cX3_readInto 45 = .ok (.aload_n 0, 1) := by decide +kernel
theorem dX3_readInto_46 : decode cX3_readInto 46 = .ok (.aload_n 1, 1) := by decide +kernel
theorem dX3_readInto_47 : decode cX3_readInto 47 = .ok (.invokevirtual 48, 3) := by decide +kernel
theorem dX3_readInto_50 : decode cX3_readInto 50 = .ok (.istore_n 2, 1) := by decide +kernel
theorem dX3_readInto_51 : decode cX3_readInto 51 = .ok (.iinc 3 1, 3) := by decide +kernel
theorem dX3_readInto_54 : decode cX3_readInto 54 = .ok (.goto (-27), 3) := by decide +kernel
theorem dX3_readInto_57 : decode cX3_readInto 57 = .ok (.iload_n 2, 1) := by decide +kernel
theorem dX3_readInto_58 : decode cX3_readInto 58 = .ok (.ifCond .eq 15, 3) := by decide +kernel
theorem dX3_readInto_61 : decode cX3_readInto 61 = .ok (.aload_n 0, 1) := by decide +kernel
theorem dX3_readInto_62 : decode cX3_readInto 62 = .ok (.aload_n 1, 1) := by decide +kernel
theorem dX3_readInto_63 : decode cX3_readInto 63 = .ok (.invokevirtual 52, 3) := by decide +kernel
theorem dX3_readInto_66 : decode cX3_readInto 66 = .ok (.ifCond .eq 7, 3) := by decide +kernel
theorem dX3_readInto_69 : decode cX3_readInto 69 = .ok (.iconst 1, 1) := by decide +kernel
theorem dX3_readInto_70 : decode cX3_readInto 70 = .ok (.goto 4, 3) := by decide +kernel
theorem dX3_readInto_73 : decode cX3_readInto 73 = .ok (.iconst 0, 1) := by decide +kernel
theorem dX3_readInto_74 : decode cX3_readInto 74 = .ok (.istore_n 2, 1) := by decide +kernel
theorem dX3_readInto_75 : decode cX3_readInto 75 = .ok (.iconst 0, 1) := by decide +kernel
theorem dX3_readInto_76 : decode cX3_readInto 76 = .ok (.istore_n 3, 1) := by decide +kernel
theorem dX3_readInto_77 : decode cX3_readInto 77 = .ok (.iload_n 3, 1) := by decide +kernel
theorem dX3_readInto_78 : decode cX3_readInto 78 = .ok (.iconst 3, 1) := by decide +kernel
theorem dX3_readInto_79 : decode cX3_readInto 79 = .ok (.if_icmp .ge 27, 3) := by decide +kernel
theorem dX3_readInto_82 : decode cX3_readInto 82 = .ok (.iload_n 2, 1) := by decide +kernel
theorem dX3_readInto_83 : decode cX3_readInto 83 = .ok (.ifCond .eq 23, 3) := by decide +kernel
theorem dX3_readInto_86 : decode cX3_readInto 86 = .ok (.aload_n 0, 1) := by decide +kernel
theorem dX3_readInto_87 : decode cX3_readInto 87 = .ok (.getfield 31, 3) := by decide +kernel
theorem dX3_readInto_90 : decode cX3_readInto 90 = .ok (.iconst 2, 1) := by decide +kernel
theorem dX3_readInto_91 : decode cX3_readInto 91 = .ok (.if_icmp .ne 15, 3) := by decide +kernel
theorem dX3_readInto_94 : decode cX3_readInto 94 = .ok (.aload_n 0, 1) := by decide +kernel
theorem dX3_readInto_95 : decode cX3_readInto 95 = .ok (.aload_n 1, 1) := by decide +kernel
theorem dX3_readInto_96 : decode cX3_readInto 96 = .ok (.invokevirtual 52, 3) := by decide +kernel
theorem dX3_readInto_99 : decode cX3_readInto 99 = .ok (.istore_n 2, 1) := by decide +kernel
theorem dX3_readInto_100 : decode cX3_readInto 100 = .ok (.iinc 3 1, 3) := by decide +kernel
theorem dX3_readInto_103 : decode cX3_readInto 103 = .ok (.goto (-26), 3) := by decide +kernel
theorem dX3_readInto_106 : decode cX3_readInto 106 = .ok (.iload_n 2, 1) := by decide +kernel
theorem dX3_readInto_107 : decode cX3_readInto 107 = .ok (.ifCond .eq 22, 3) := by decide +kernel
theorem dX3_readInto_110 : decode cX3_readInto 110 = .ok (.aload_n 0, 1) := by decide +kernel
theorem dX3_readInto_111 : decode cX3_readInto 111 = .ok (.getfield 31, 3) := by decide +kernel
theorem dX3_readInto_114 : decode cX3_readInto 114 = .ok (.ifCond .eq 11, 3) := by decide +kernel
theorem dX3_readInto_117 : decode cX3_readInto 117 = .ok (.aload_n 0, 1) := by decide +kernel
theorem dX3_readInto_118 : decode cX3_readInto 118 = .ok (.iconst 1, 1) := by decide +kernel
theorem dX3_readInto_119 : decode cX3_readInto 119 = .ok (.invokevirtual 55, 3) := by decide +kernel
theorem dX3_readInto_122 : decode cX3_readInto 122 = .ok (.ifCond .eq 7, 3) := by decide +kernel
theorem dX3_readInto_125 : decode cX3_readInto 125 = .ok (.iconst 1, 1) := by decide +kernel
theorem dX3_readInto_126 : decode cX3_readInto 126 = .ok (.goto 4, 3) := by decide +kernel
theorem dX3_readInto_129 : decode cX3_readInto 129 = .ok (.iconst 0, 1) := by decide +kernel
theorem dX3_readInto_130 : decode cX3_readInto 130 = .ok (.ireturn, 1) := by decide +kernel
theorem dX3_readGood_0 : decode cX3_readGood 0 = .ok (.aload_n 0, 1) := by decide +kernel
theorem dX3_readGood_1 : decode cX3_readGood 1 = .ok (.getfield 31, 3) := by decide +kernel
theorem dX3_readGood_4 : decode cX3_readGood 4 = .ok (.iconst 1, 1) := by decide +kernel
theorem dX3_readGood_5 : decode cX3_readGood 5 = .ok (.if_icmp .eq 9, 3) := by decide +kernel
theorem dX3_readGood_8 : decode cX3_readGood 8 = .ok (.aload_n 0, 1) := by decide +kernel
theorem dX3_readGood_9 : decode cX3_readGood 9 = .ok (.iconst 1, 1) := by decide +kernel
theorem dX3_readGood_10 : decode cX3_readGood 10 = .ok (.invokevirtual 55, 3) := by decide +kernel
theorem dX3_readGood_13 : decode cX3_readGood 13 = .ok (.ireturn, 1) := by decide +kernel
theorem dX3_readGood_14 : decode cX3_readGood 14 = .ok (.aload_n 1, 1) := by decide +kernel
theorem dX3_readGood_15 : decode cX3_readGood 15 = .ok (.getfield 37, 3) := by decide +kernel
theorem dX3_readGood_18 : decode cX3_readGood 18 = .ok (.bipush 6, 2) := by decide +kernel
theorem dX3_readGood_20 : decode cX3_readGood 20 = .ok (.if_icmp .lt 9, 3) := by decide +kernel
theorem dX3_readGood_23 : decode cX3_readGood 23 = .ok (.aload_n 0, 1) := by decide +kernel
theorem dX3_readGood_24 : decode cX3_readGood 24 = .ok (.iconst 3, 1) := by decide +kernel
theorem dX3_readGood_25 : decode cX3_readGood 25 = .ok (.invokevirtual 55, 3) := by decide +kernel
theorem dX3_readGood_28 : decode cX3_readGood 28 = .ok (.ireturn, 1) := by decide +kernel
theorem dX3_readGood_29 : decode cX3_readGood 29 = .ok (.aload_n 0, 1) := by decide +kernel
theorem dX3_readGood_30 : decode cX3_readGood 30 = .ok (.invokevirtual 45, 3) := by decide +kernel
theorem dX3_readGood_33 : decode cX3_readGood 33 = .ok (.aload_n 0, 1) := by decide +kernel
theorem dX3_readGood_34 : decode cX3_readGood 34 = .ok (.bipush 20, 2) := by decide +kernel
theorem dX3_readGood_36 : decode cX3_readGood 36 = .ok (.invokevirtual 59, 3) := by decide +kernel
theorem dX3_readGood_39 : decode cX3_readGood 39 = .ok (.ifCond .ne 5, 3) := by decide +kernel
theorem dX3_readGood_42 : decode cX3_readGood 42 = .ok (.iconst 0, 1) := by decide +kernel
theorem dX3_readGood_43 : decode cX3_readGood 43 = .ok (.ireturn, 1) := by decide +kernel
theorem dX3_readGood_44 : decode cX3_readGood 44 = .ok (.aload_n 1, 1) := by decide +kernel
theorem dX3_readGood_45 : decode cX3_readGood 45 = .ok (.getfield 62, 3) := by decide +kernel
theorem dX3_readGood_48 : decode cX3_readGood 48 = .ok (.aload_n 1, 1) := by decide +kernel
theorem dX3_readGood_49 : decode cX3_readGood 49 = .ok (.getfield 37, 3) := by decide +kernel
theorem dX3_readGood_52 : decode cX3_readGood 52 = .ok (.aload_n 0, 1) := by decide +kernel
theorem dX3_readGood_53 : decode cX3_readGood 53 = .ok (.getfield 34, 3) := by decide +kernel
theorem dX3_readGood_56 : decode cX3_readGood 56 = .ok (.iastore, 1) := by decide +kernel
theorem dX3_readGood_57 : decode cX3_readGood 57 = .ok (.aload_n 1, 1) := by decide +kernel
theorem dX3_readGood_58 : decode cX3_readGood 58 = .ok (.dup, 1) := by decide +kernel
theorem dX3_readGood_59 : decode cX3_readGood 59 = .ok (.getfield 37, 3) := by decide +kernel
theorem dX3_readGood_62 : decode cX3_readGood 62 = .ok (.iconst 1, 1) := by decide +kernel
theorem dX3_readGood_63 : decode cX3_readGood 63 = .ok (.iadd, 1) := by decide +kernel
theorem dX3_readGood_64 : decode cX3_readGood 64 = .ok (.putfield 37, 3) := by decide +kernel
theorem dX3_readGood_67 : decode cX3_readGood 67 = .ok (.aload_n 0, 1) := by decide +kernel
theorem dX3_readGood_68 : decode cX3_readGood 68 = .ok (.invokevirtual 45, 3) := by decide +kernel
theorem dX3_readGood_71 : decode cX3_readGood 71 = .ok (.aload_n 0, 1) := by decide +kernel
theorem dX3_readGood_72 : decode cX3_readGood 72 = .ok (.invokevirtual 66, 3) := by decide +kernel
theorem dX3_readGood_75 : decode cX3_readGood 75 = .ok (.ireturn, 1) := by decide +kernel
theorem dX3_readLand_0 : decode cX3_readLand 0 = .ok (.aload_n 0, 1) := by decide +kernel
theorem dX3_readLand_1 : decode cX3_readLand 1 = .ok (.getfield 31, 3) := by decide +kernel
theorem dX3_readLand_4 : decode cX3_readLand 4 = .ok (.iconst 2, 1) := by decide +kernel
theorem dX3_readLand_5 : decode cX3_readLand 5 = .ok (.if_icmp .eq 9, 3) := by decide +kernel
theorem dX3_readLand_8 : decode cX3_readLand 8 = .ok (.aload_n 0, 1) := by decide +kernel
theorem dX3_readLand_9 : decode cX3_readLand 9 = .ok (.iconst 1, 1) := by decide +kernel
theorem dX3_readLand_10 : decode cX3_readLand 10 = .ok (.invokevirtual 55, 3) := by decide +kernel
theorem dX3_readLand_13 : decode cX3_readLand 13 = .ok (.ireturn, 1) := by decide +kernel
theorem dX3_readLand_14 : decode cX3_readLand 14 = .ok (.aload_n 1, 1) := by decide +kernel
theorem dX3_readLand_15 : decode cX3_readLand 15 = .ok (.getfield 42, 3) := by decide +kernel
theorem dX3_readLand_18 : decode cX3_readLand 18 = .ok (.iconst 3, 1) := by decide +kernel
theorem dX3_readLand_19 : decode cX3_readLand 19 = .ok (.if_icmp .lt 9, 3) := by decide +kernel
theorem dX3_readLand_22 : decode cX3_readLand 22 = .ok (.aload_n 0, 1) := by decide +kernel
theorem dX3_readLand_23 : decode cX3_readLand 23 = .ok (.iconst 3, 1) := by decide +kernel
theorem dX3_readLand_24 : decode cX3_readLand 24 = .ok (.invokevirtual 55, 3) := by decide +kernel
theorem dX3_readLand_27 : decode cX3_readLand 27 = .ok (.ireturn, 1) := by decide +kernel
theorem dX3_readLand_28 : decode cX3_readLand 28 = .ok (.aload_n 0, 1) := by decide +kernel
theorem dX3_readLand_29 : decode cX3_readLand 29 = .ok (.invokevirtual 45, 3) := by decide +kernel
theorem dX3_readLand_32 : decode cX3_readLand 32 = .ok (.aload_n 0, 1) := by decide +kernel
theorem dX3_readLand_33 : decode cX3_readLand 33 = .ok (.bipush 99, 2) := by decide +kernel
theorem dX3_readLand_35 : decode cX3_readLand 35 = .ok (.invokevirtual 59, 3) := by decide +kernel
theorem dX3_readLand_38 : decode cX3_readLand 38 = .ok (.ifCond .ne 5, 3) := by decide +kernel
theorem dX3_readLand_41 : decode cX3_readLand 41 = .ok (.iconst 0, 1) := by decide +kernel
theorem dX3_readLand_42 : decode cX3_readLand 42 = .ok (.ireturn, 1) := by decide +kernel
theorem dX3_readLand_43 : decode cX3_readLand 43 = .ok (.aload_n 1, 1) := by decide +kernel
theorem dX3_readLand_44 : decode cX3_readLand 44 = .ok (.getfield 70, 3) := by decide +kernel
theorem dX3_readLand_47 : decode cX3_readLand 47 = .ok (.aload_n 1, 1) := by decide +kernel
theorem dX3_readLand_48 : decode cX3_readLand 48 = .ok (.getfield 42, 3) := by decide +kernel
theorem dX3_readLand_51 : decode cX3_readLand 51 = .ok (.aload_n 0, 1) := by decide +kernel
theorem dX3_readLand_52 : decode cX3_readLand 52 = .ok (.getfield 34, 3) := by decide +kernel
theorem dX3_readLand_55 : decode cX3_readLand 55 = .ok (.iastore, 1) := by decide +kernel
theorem dX3_readLand_56 : decode cX3_readLand 56 = .ok (.aload_n 0, 1) := by decide +kernel
theorem dX3_readLand_57 : decode cX3_readLand 57 = .ok (.invokevirtual 45, 3) := by decide +kernel
theorem dX3_readLand_60 : decode cX3_readLand 60 = .ok (.iconst 0, 1) := by decide +kernel
theorem dX3_readLand_61 : decode cX3_readLand 61 = .ok (.istore_n 2, 1) := by decide +kernel
theorem dX3_readLand_62 : decode cX3_readLand 62 = .ok (.iload_n 2, 1) := by decide +kernel
theorem dX3_readLand_63 : decode cX3_readLand 63 = .ok (.aload_n 1, 1) := by decide +kernel
theorem dX3_readLand_64 : decode cX3_readLand 64 = .ok (.getfield 37, 3) := by decide +kernel
theorem dX3_readLand_67 : decode cX3_readLand 67 = .ok (.if_icmp .ge 39, 3) := by decide +kernel
theorem dX3_readLand_70 : decode cX3_readLand 70 = .ok (.aload_n 0, 1) := by decide +kernel
theorem dX3_readLand_71 : decode cX3_readLand 71 = .ok (.bipush 20, 2) := by decide +kernel
theorem dX3_readLand_73 : decode cX3_readLand 73 = .ok (.invokevirtual 59, 3) := by decide +kernel
theorem dX3_readLand_76 : decode cX3_readLand 76 = .ok (.ifCond .ne 5, 3) := by decide +kernel
theorem dX3_readLand_79 : decode cX3_readLand 79 = .ok (.iconst 0, 1) := by decide +kernel
theorem dX3_readLand_80 : decode cX3_readLand 80 = .ok (.ireturn, 1) := by decide +kernel
theorem dX3_readLand_81 : decode cX3_readLand 81 = .ok (.aload_n 1, 1) := by decide +kernel
theorem dX3_readLand_82 : decode cX3_readLand 82 = .ok (.getfield 73, 3) := by decide +kernel
theorem dX3_readLand_85 : decode cX3_readLand 85 = .ok (.aload_n 1, 1) := by decide +kernel
theorem dX3_readLand_86 : decode cX3_readLand 86 = .ok (.getfield 42, 3) := by decide +kernel
theorem dX3_readLand_89 : decode cX3_readLand 89 = .ok (.aaload, 1) := by decide +kernel
theorem dX3_readLand_90 : decode cX3_readLand 90 = .ok (.iload_n 2, 1) := by decide +kernel
theorem dX3_readLand_91 : decode cX3_readLand 91 = .ok (.aload_n 0, 1) := by decide +kernel
theorem dX3_readLand_92 : decode cX3_readLand 92 = .ok (.getfield 34, 3) := by decide +kernel
theorem dX3_readLand_95 : decode cX3_readLand 95 = .ok (.iastore, 1) := by decide +kernel
theorem dX3_readLand_96 : decode cX3_readLand 96 = .ok (.aload_n 0, 1) := by decide +kernel
theorem dX3_readLand_97 : decode cX3_readLand 97 = .ok (.invokevirtual 45, 3) := by decide +kernel
theorem dX3_readLand_100 : decode cX3_readLand 100 = .ok (.iinc 2 1, 3) := by decide +kernel
theorem dX3_readLand_103 : decode cX3_readLand 103 = .ok (.goto (-41), 3) := by decide +kernel
theorem dX3_readLand_106 : decode cX3_readLand 106 = .ok (.aload_n 1, 1) := by decide +kernel
theorem dX3_readLand_107 : decode cX3_readLand 107 = .ok (.dup, 1) := by decide +kernel
theorem dX3_readLand_108 : decode cX3_readLand 108 = .ok (.getfield 42, 3) := by decide +kernel
theorem dX3_readLand_111 : decode cX3_readLand 111 = .ok (.iconst 1, 1) := by decide +kernel
theorem dX3_readLand_112 : decode cX3_readLand 112 = .ok (.iadd, 1) := by decide +kernel
theorem dX3_readLand_113 : decode cX3_readLand 113 = .ok (.putfield 42, 3) := by decide +kernel
theorem dX3_readLand_116 : decode cX3_readLand 116 = .ok (.aload_n 0, 1) := by decide +kernel
theorem dX3_readLand_117 : decode cX3_readLand 117 = .ok (.invokevirtual 66, 3) := by decide +kernel
theorem dX3_readLand_120 : decode cX3_readLand 120 = .ok (.ireturn, 1) := by decide +kernel
theorem dX3_passSemicolon_0 : decode cX3_passSemicolon 0 = .ok (.aload_n 0, 1) := by decide +kernel
theorem dX3_passSemicolon_1 : decode cX3_passSemicolon 1 = .ok (.getfield 31, 3) := by decide +kernel
theorem dX3_passSemicolon_4 : decode cX3_passSemicolon 4 = .ok (.iconst 4, 1) := by decide +kernel
theorem dX3_passSemicolon_5 : decode cX3_passSemicolon 5 = .ok (.if_icmp .eq 9, 3) := by decide +kernel
theorem dX3_passSemicolon_8 : decode cX3_passSemicolon 8 = .ok (.aload_n 0, 1) := by decide +kernel
theorem dX3_passSemicolon_9 : decode cX3_passSemicolon 9 = .ok (.iconst 1, 1) := by decide +kernel
theorem dX3_passSemicolon_10 : decode cX3_passSemicolon 10 = .ok (.invokevirtual 55, 3) := by decide +kernel
theorem dX3_passSemicolon_13 : decode cX3_passSemicolon 13 = .ok (.ireturn, 1) := by decide +kernel
theorem dX3_passSemicolon_14 : decode cX3_passSemicolon 14 = .ok (.aload_n 0, 1) := by decide +kernel
theorem dX3_passSemicolon_15 : decode cX3_passSemicolon 15 = .ok (.invokevirtual 45, 3) := by decide +kernel
theorem dX3_passSemicolon_18 : decode cX3_passSemicolon 18 = .ok (.iconst 1, 1) := by decide +kernel
theorem dX3_passSemicolon_19 : decode cX3_passSemicolon 19 = .ok (.ireturn, 1) := by decide +kernel
theorem dX3_isNumberUpTo_0 : decode cX3_isNumberUpTo 0 = .ok (.aload_n 0, 1) := by decide +kernel
theorem dX3_isNumberUpTo_1 : decode cX3_isNumberUpTo 1 = .ok (.getfield 31, 3) := by decide +kernel
theorem dX3_isNumberUpTo_4 : decode cX3_isNumberUpTo 4 = .ok (.iconst 3, 1) := by decide +kernel
theorem dX3_isNumberUpTo_5 : decode cX3_isNumberUpTo 5 = .ok (.if_icmp .eq 9, 3) := by decide +kernel
theorem dX3_isNumberUpTo_8 : decode cX3_isNumberUpTo 8 = .ok (.aload_n 0, 1) := by decide +kernel
theorem dX3_isNumberUpTo_9 : decode cX3_isNumberUpTo 9 = .ok (.iconst 1, 1) := by decide +kernel
theorem dX3_isNumberUpTo_10 : decode cX3_isNumberUpTo 10 = .ok (.invokevirtual 55, 3) := by decide +kernel
theorem dX3_isNumberUpTo_13 : decode cX3_isNumberUpTo 13 = .ok (.ireturn, 1) := by decide +kernel
theorem dX3_isNumberUpTo_14 : decode cX3_isNumberUpTo 14 = .ok (.aload_n 0, 1) := by decide +kernel
theorem dX3_isNumberUpTo_15 : decode cX3_isNumberUpTo 15 = .ok (.getfield 34, 3) := by decide +kernel
theorem dX3_isNumberUpTo_18 : decode cX3_isNumberUpTo 18 = .ok (.iconst 1, 1) := by decide +kernel
theorem dX3_isNumberUpTo_19 : decode cX3_isNumberUpTo 19 = .ok (.if_icmp .lt 11, 3) := by decide +kernel
theorem dX3_isNumberUpTo_22 : decode cX3_isNumberUpTo 22 = .ok (.aload_n 0, 1) := by decide +kernel
theorem dX3_isNumberUpTo_23 : decode cX3_isNumberUpTo 23 = .ok (.getfield 34, 3) := by decide +kernel
theorem dX3_isNumberUpTo_26 : decode cX3_isNumberUpTo 26 = .ok (.iload_n 1, 1) := by decide +kernel
theorem dX3_isNumberUpTo_27 : decode cX3_isNumberUpTo 27 = .ok (.if_icmp .le 11, 3) := by decide +kernel
theorem dX3_isNumberUpTo_30 : decode cX3_isNumberUpTo 30 = .ok (.aload_n 0, 1) := by decide +kernel
theorem dX3_isNumberUpTo_31 : decode cX3_isNumberUpTo 31 = .ok (.iconst 2, 1) := by decide +kernel
theorem dX3_isNumberUpTo_32 : decode cX3_isNumberUpTo 32 = .ok (.invokevirtual 55, 3) := by decide +kernel
theorem dX3_isNumberUpTo_35 : decode cX3_isNumberUpTo 35 = .ok (.ifCond .eq 7, 3) := by decide +kernel
theorem dX3_isNumberUpTo_38 : decode cX3_isNumberUpTo 38 = .ok (.iconst 1, 1) := by decide +kernel
theorem dX3_isNumberUpTo_39 : decode cX3_isNumberUpTo 39 = .ok (.goto 4, 3) := by decide +kernel
theorem dX3_isNumberUpTo_42 : decode cX3_isNumberUpTo 42 = .ok (.iconst 0, 1) := by decide +kernel
theorem dX3_isNumberUpTo_43 : decode cX3_isNumberUpTo 43 = .ok (.ireturn, 1) := by decide +kernel
theorem dX3_blame_0 : decode cX3_blame 0 = .ok (.aload_n 0, 1) := by decide +kernel
theorem dX3_blame_1 : decode cX3_blame 1 = .ok (.iload_n 1, 1) := by decide +kernel
theorem dX3_blame_2 : decode cX3_blame 2 = .ok (.putfield 19, 3) := by decide +kernel
theorem dX3_blame_5 : decode cX3_blame 5 = .ok (.aload_n 0, 1) := by decide +kernel
theorem dX3_blame_6 : decode cX3_blame 6 = .ok (.aload_n 0, 1) := by decide +kernel
theorem dX3_blame_7 : decode cX3_blame 7 = .ok (.getfield 25, 3) := by decide +kernel
theorem dX3_blame_10 : decode cX3_blame 10 = .ok (.putfield 22, 3) := by decide +kernel
theorem dX3_blame_13 : decode cX3_blame 13 = .ok (.iconst 0, 1) := by decide +kernel
theorem dX3_blame_14 : decode cX3_blame 14 = .ok (.ireturn, 1) := by decide +kernel
theorem dX3_step_0 : decode cX3_step 0 = .ok (.aload_n 0, 1) := by decide +kernel
theorem dX3_step_1 : decode cX3_step 1 = .ok (.aload_n 0, 1) := by decide +kernel
theorem dX3_step_2 : decode cX3_step 2 = .ok (.getfield 28, 3) := by decide +kernel
theorem dX3_step_5 : decode cX3_step 5 = .ok (.putfield 25, 3) := by decide +kernel
theorem dX3_step_8 : decode cX3_step 8 = .ok (.aload_n 0, 1) := by decide +kernel
theorem dX3_step_9 : decode cX3_step 9 = .ok (.getfield 25, 3) := by decide +kernel
theorem dX3_step_12 : decode cX3_step 12 = .ok (.aload_n 0, 1) := by decide +kernel
theorem dX3_step_13 : decode cX3_step 13 = .ok (.getfield 15, 3) := by decide +kernel
theorem dX3_step_16 : decode cX3_step 16 = .ok (.if_icmp .ge 44, 3) := by decide +kernel
theorem dX3_step_19 : decode cX3_step 19 = .ok (.aload_n 0, 1) := by decide +kernel
theorem dX3_step_20 : decode cX3_step 20 = .ok (.getfield 11, 3) := by decide +kernel
theorem dX3_step_23 : decode cX3_step 23 = .ok (.aload_n 0, 1) := by decide +kernel
theorem dX3_step_24 : decode cX3_step 24 = .ok (.getfield 25, 3) := by decide +kernel
theorem dX3_step_27 : decode cX3_step 27 = .ok (.baload, 1) := by decide +kernel
theorem dX3_step_28 : decode cX3_step 28 = .ok (.bipush 32, 2) := by decide +kernel
theorem dX3_step_30 : decode cX3_step 30 = .ok (.if_icmp .eq 17, 3) := by decide +kernel
theorem dX3_step_33 : decode cX3_step 33 = .ok (.aload_n 0, 1) := by decide +kernel
theorem dX3_step_34 : decode cX3_step 34 = .ok (.getfield 11, 3) := by decide +kernel
theorem dX3_step_37 : decode cX3_step 37 = .ok (.aload_n 0, 1) := by decide +kernel
theorem dX3_step_38 : decode cX3_step 38 = .ok (.getfield 25, 3) := by decide +kernel
theorem dX3_step_41 : decode cX3_step 41 = .ok (.baload, 1) := by decide +kernel
theorem dX3_step_42 : decode cX3_step 42 = .ok (.bipush 10, 2) := by decide +kernel
theorem dX3_step_44 : decode cX3_step 44 = .ok (.if_icmp .ne 16, 3) := by decide +kernel
theorem dX3_step_47 : decode cX3_step 47 = .ok (.aload_n 0, 1) := by decide +kernel
theorem dX3_step_48 : decode cX3_step 48 = .ok (.dup, 1) := by decide +kernel
theorem dX3_step_49 : decode cX3_step 49 = .ok (.getfield 25, 3) := by decide +kernel
theorem dX3_step_52 : decode cX3_step 52 = .ok (.iconst 1, 1) := by decide +kernel
theorem dX3_step_53 : decode cX3_step 53 = .ok (.iadd, 1) := by decide +kernel
theorem dX3_step_54 : decode cX3_step 54 = .ok (.putfield 25, 3) := by decide +kernel
theorem dX3_step_57 : decode cX3_step 57 = .ok (.goto (-49), 3) := by decide +kernel
theorem dX3_step_60 : decode cX3_step 60 = .ok (.aload_n 0, 1) := by decide +kernel
theorem dX3_step_61 : decode cX3_step 61 = .ok (.aload_n 0, 1) := by decide +kernel
theorem dX3_step_62 : decode cX3_step 62 = .ok (.getfield 25, 3) := by decide +kernel
theorem dX3_step_65 : decode cX3_step 65 = .ok (.putfield 28, 3) := by decide +kernel
theorem dX3_step_68 : decode cX3_step 68 = .ok (.aload_n 0, 1) := by decide +kernel
theorem dX3_step_69 : decode cX3_step 69 = .ok (.getfield 25, 3) := by decide +kernel
theorem dX3_step_72 : decode cX3_step 72 = .ok (.aload_n 0, 1) := by decide +kernel
theorem dX3_step_73 : decode cX3_step 73 = .ok (.getfield 15, 3) := by decide +kernel
theorem dX3_step_76 : decode cX3_step 76 = .ok (.if_icmp .lt 11, 3) := by decide +kernel
theorem dX3_step_79 : decode cX3_step 79 = .ok (.aload_n 0, 1) := by decide +kernel
theorem dX3_step_80 : decode cX3_step 80 = .ok (.iconst 0, 1) := by decide +kernel
theorem dX3_step_81 : decode cX3_step 81 = .ok (.putfield 31, 3) := by decide +kernel
theorem dX3_step_84 : decode cX3_step 84 = .ok (.goto 80, 3) := by decide +kernel
theorem dX3_step_87 : decode cX3_step 87 = .ok (.aload_n 0, 1) := by decide +kernel
theorem dX3_step_88 : decode cX3_step 88 = .ok (.getfield 11, 3) := by decide +kernel
theorem dX3_step_91 : decode cX3_step 91 = .ok (.aload_n 0, 1) := by decide +kernel
theorem dX3_step_92 : decode cX3_step 92 = .ok (.getfield 25, 3) := by decide +kernel
theorem dX3_step_95 : decode cX3_step 95 = .ok (.baload, 1) := by decide +kernel
theorem dX3_step_96 : decode cX3_step 96 = .ok (.invokestatic 77, 3) := by decide +kernel
theorem dX3_step_99 : decode cX3_step 99 = .ok (.ifCond .eq 10, 3) := by decide +kernel
theorem dX3_step_102 : decode cX3_step 102 = .ok (.aload_n 0, 1) := by decide +kernel
theorem dX3_step_103 : decode cX3_step 103 = .ok (.invokevirtual 81, 3) := by decide +kernel
theorem dX3_step_106 : decode cX3_step 106 = .ok (.goto 58, 3) := by decide +kernel
theorem dX3_step_109 : decode cX3_step 109 = .ok (.aload_n 0, 1) := by decide +kernel
theorem dX3_step_110 : decode cX3_step 110 = .ok (.getfield 11, 3) := by decide +kernel
theorem dX3_step_113 : decode cX3_step 113 = .ok (.aload_n 0, 1) := by decide +kernel
theorem dX3_step_114 : decode cX3_step 114 = .ok (.getfield 25, 3) := by decide +kernel
theorem dX3_step_117 : decode cX3_step 117 = .ok (.baload, 1) := by decide +kernel
theorem dX3_step_118 : decode cX3_step 118 = .ok (.invokestatic 84, 3) := by decide +kernel
theorem dX3_step_121 : decode cX3_step 121 = .ok (.ifCond .eq 10, 3) := by decide +kernel
theorem dX3_step_124 : decode cX3_step 124 = .ok (.aload_n 0, 1) := by decide +kernel
theorem dX3_step_125 : decode cX3_step 125 = .ok (.invokevirtual 87, 3) := by decide +kernel
theorem dX3_step_128 : decode cX3_step 128 = .ok (.goto 36, 3) := by decide +kernel
theorem dX3_step_131 : decode cX3_step 131 = .ok (.aload_n 0, 1) := by decide +kernel
theorem dX3_step_132 : decode cX3_step 132 = .ok (.aload_n 0, 1) := by decide +kernel
theorem dX3_step_133 : decode cX3_step 133 = .ok (.getfield 11, 3) := by decide +kernel
theorem dX3_step_136 : decode cX3_step 136 = .ok (.aload_n 0, 1) := by decide +kernel
theorem dX3_step_137 : decode cX3_step 137 = .ok (.getfield 25, 3) := by decide +kernel
theorem dX3_step_140 : decode cX3_step 140 = .ok (.baload, 1) := by decide +kernel
theorem dX3_step_141 : decode cX3_step 141 = .ok (.bipush 59, 2) := by decide +kernel
theorem dX3_step_143 : decode cX3_step 143 = .ok (.if_icmp .ne 7, 3) := by decide +kernel
theorem dX3_step_146 : decode cX3_step 146 = .ok (.iconst 4, 1) := by decide +kernel
theorem dX3_step_147 : decode cX3_step 147 = .ok (.goto 4, 3) := by decide +kernel
theorem dX3_step_150 : decode cX3_step 150 = .ok (.iconst 5, 1) := by decide +kernel
theorem dX3_step_151 : decode cX3_step 151 = .ok (.putfield 31, 3) := by decide +kernel
theorem dX3_step_154 : decode cX3_step 154 = .ok (.aload_n 0, 1) := by decide +kernel
theorem dX3_step_155 : decode cX3_step 155 = .ok (.aload_n 0, 1) := by decide +kernel
theorem dX3_step_156 : decode cX3_step 156 = .ok (.getfield 25, 3) := by decide +kernel
theorem dX3_step_159 : decode cX3_step 159 = .ok (.iconst 1, 1) := by decide +kernel
theorem dX3_step_160 : decode cX3_step 160 = .ok (.iadd, 1) := by decide +kernel
theorem dX3_step_161 : decode cX3_step 161 = .ok (.putfield 28, 3) := by decide +kernel
theorem dX3_step_164 : decode cX3_step 164 = .ok (.return_, 1) := by decide +kernel
theorem dX3_takeName_0 : decode cX3_takeName 0 = .ok (.aload_n 0, 1) := by decide +kernel
theorem dX3_takeName_1 : decode cX3_takeName 1 = .ok (.getfield 28, 3) := by decide +kernel
theorem dX3_takeName_4 : decode cX3_takeName 4 = .ok (.aload_n 0, 1) := by decide +kernel
theorem dX3_takeName_5 : decode cX3_takeName 5 = .ok (.getfield 15, 3) := by decide +kernel
theorem dX3_takeName_8 : decode cX3_takeName 8 = .ok (.if_icmp .ge 31, 3) := by decide +kernel
theorem dX3_takeName_11 : decode cX3_takeName 11 = .ok (.aload_n 0, 1) := by decide +kernel
theorem dX3_takeName_12 : decode cX3_takeName 12 = .ok (.getfield 11, 3) := by decide +kernel
theorem dX3_takeName_15 : decode cX3_takeName 15 = .ok (.aload_n 0, 1) := by decide +kernel
theorem dX3_takeName_16 : decode cX3_takeName 16 = .ok (.getfield 28, 3) := by decide +kernel
theorem dX3_takeName_19 : decode cX3_takeName 19 = .ok (.baload, 1) := by decide +kernel
theorem dX3_takeName_20 : decode cX3_takeName 20 = .ok (.invokestatic 77, 3) := by decide +kernel
theorem dX3_takeName_23 : decode cX3_takeName 23 = .ok (.ifCond .eq 16, 3) := by decide +kernel
theorem dX3_takeName_26 : decode cX3_takeName 26 = .ok (.aload_n 0, 1) := by decide +kernel
theorem dX3_takeName_27 : decode cX3_takeName 27 = .ok (.dup, 1) := by decide +kernel
theorem dX3_takeName_28 : decode cX3_takeName 28 = .ok (.getfield 28, 3) := by decide +kernel
theorem dX3_takeName_31 : decode cX3_takeName 31 = .ok (.iconst 1, 1) := by decide +kernel
theorem dX3_takeName_32 : decode cX3_takeName 32 = .ok (.iadd, 1) := by decide +kernel
theorem dX3_takeName_33 : decode cX3_takeName 33 = .ok (.putfield 28, 3) := by decide +kernel
theorem dX3_takeName_36 : decode cX3_takeName 36 = .ok (.goto (-36), 3) := by decide +kernel
theorem dX3_takeName_39 : decode cX3_takeName 39 = .ok (.aload_n 0, 1) := by decide +kernel
theorem dX3_takeName_40 : decode cX3_takeName 40 = .ok (.iconst 5, 1) := by decide +kernel
theorem dX3_takeName_41 : decode cX3_takeName 41 = .ok (.putfield 31, 3) := by decide +kernel
theorem dX3_takeName_44 : decode cX3_takeName 44 = .ok (.aload_n 0, 1) := by decide +kernel
theorem dX3_takeName_45 : decode cX3_takeName 45 = .ok (.ldc 90, 2) := by decide +kernel
theorem dX3_takeName_47 : decode cX3_takeName 47 = .ok (.invokevirtual 92, 3) := by decide +kernel
theorem dX3_takeName_50 : decode cX3_takeName 50 = .ok (.ifCond .eq 11, 3) := by decide +kernel
theorem dX3_takeName_53 : decode cX3_takeName 53 = .ok (.aload_n 0, 1) := by decide +kernel
theorem dX3_takeName_54 : decode cX3_takeName 54 = .ok (.iconst 1, 1) := by decide +kernel
theorem dX3_takeName_55 : decode cX3_takeName 55 = .ok (.putfield 31, 3) := by decide +kernel
theorem dX3_takeName_58 : decode cX3_takeName 58 = .ok (.goto 17, 3) := by decide +kernel
theorem dX3_takeName_61 : decode cX3_takeName 61 = .ok (.aload_n 0, 1) := by decide +kernel
theorem dX3_takeName_62 : decode cX3_takeName 62 = .ok (.ldc 96, 2) := by decide +kernel
theorem dX3_takeName_64 : decode cX3_takeName 64 = .ok (.invokevirtual 92, 3) := by decide +kernel
theorem dX3_takeName_67 : decode cX3_takeName 67 = .ok (.ifCond .eq 8, 3) := by decide +kernel
theorem dX3_takeName_70 : decode cX3_takeName 70 = .ok (.aload_n 0, 1) := by decide +kernel
theorem dX3_takeName_71 : decode cX3_takeName 71 = .ok (.iconst 2, 1) := by decide +kernel
theorem dX3_takeName_72 : decode cX3_takeName 72 = .ok (.putfield 31, 3) := by decide +kernel
theorem dX3_takeName_75 : decode cX3_takeName 75 = .ok (.return_, 1) := by decide +kernel
theorem dX3_isWord_0 : decode cX3_isWord 0 = .ok (.aload_n 0, 1) := by decide +kernel
theorem dX3_isWord_1 : decode cX3_isWord 1 = .ok (.getfield 28, 3) := by decide +kernel
theorem dX3_isWord_4 : decode cX3_isWord 4 = .ok (.aload_n 0, 1) := by decide +kernel
theorem dX3_isWord_5 : decode cX3_isWord 5 = .ok (.getfield 25, 3) := by decide +kernel
theorem dX3_isWord_8 : decode cX3_isWord 8 = .ok (.isub, 1) := by decide +kernel
theorem dX3_isWord_9 : decode cX3_isWord 9 = .ok (.aload_n 1, 1) := by decide +kernel
theorem dX3_isWord_10 : decode cX3_isWord 10 = .ok (.invokevirtual 98, 3) := by decide +kernel
theorem dX3_isWord_13 : decode cX3_isWord 13 = .ok (.if_icmp .eq 5, 3) := by decide +kernel
theorem dX3_isWord_16 : decode cX3_isWord 16 = .ok (.iconst 0, 1) := by decide +kernel
theorem dX3_isWord_17 : decode cX3_isWord 17 = .ok (.ireturn, 1) := by decide +kernel
theorem dX3_isWord_18 : decode cX3_isWord 18 = .ok (.iconst 0, 1) := by decide +kernel
theorem dX3_isWord_19 : decode cX3_isWord 19 = .ok (.istore_n 2, 1) := by decide +kernel
theorem dX3_isWord_20 : decode cX3_isWord 20 = .ok (.iload_n 2, 1) := by decide +kernel
theorem dX3_isWord_21 : decode cX3_isWord 21 = .ok (.aload_n 1, 1) := by decide +kernel
theorem dX3_isWord_22 : decode cX3_isWord 22 = .ok (.invokevirtual 98, 3) := by decide +kernel
theorem dX3_isWord_25 : decode cX3_isWord 25 = .ok (.if_icmp .ge 30, 3) := by decide +kernel
theorem dX3_isWord_28 : decode cX3_isWord 28 = .ok (.aload_n 0, 1) := by decide +kernel
theorem dX3_isWord_29 : decode cX3_isWord 29 = .ok (.getfield 11, 3) := by decide +kernel
theorem dX3_isWord_32 : decode cX3_isWord 32 = .ok (.aload_n 0, 1) := by decide +kernel
theorem dX3_isWord_33 : decode cX3_isWord 33 = .ok (.getfield 25, 3) := by decide +kernel
theorem dX3_isWord_36 : decode cX3_isWord 36 = .ok (.iload_n 2, 1) := by decide +kernel
theorem dX3_isWord_37 : decode cX3_isWord 37 = .ok (.iadd, 1) := by decide +kernel
theorem dX3_isWord_38 : decode cX3_isWord 38 = .ok (.baload, 1) := by decide +kernel
theorem dX3_isWord_39 : decode cX3_isWord 39 = .ok (.aload_n 1, 1) := by decide +kernel
theorem dX3_isWord_40 : decode cX3_isWord 40 = .ok (.iload_n 2, 1) := by decide +kernel
theorem dX3_isWord_41 : decode cX3_isWord 41 = .ok (.invokevirtual 103, 3) := by decide +kernel
theorem dX3_isWord_44 : decode cX3_isWord 44 = .ok (.if_icmp .eq 5, 3) := by decide +kernel
theorem dX3_isWord_47 : decode cX3_isWord 47 = .ok (.iconst 0, 1) := by decide +kernel
theorem dX3_isWord_48 : decode cX3_isWord 48 = .ok (.ireturn, 1) := by decide +kernel
theorem dX3_isWord_49 : decode cX3_isWord 49 = .ok (.iinc 2 1, 3) := by decide +kernel
theorem dX3_isWord_52 : decode cX3_isWord 52 = .ok (.goto (-32), 3) := by decide +kernel
theorem dX3_isWord_55 : decode cX3_isWord 55 = .ok (.iconst 1, 1) := by decide +kernel
theorem dX3_isWord_56 : decode cX3_isWord 56 = .ok (.ireturn, 1) := by decide +kernel
theorem dX3_takeNumber_0 : decode cX3_takeNumber 0 = .ok (.aload_n 0, 1) := by decide +kernel
theorem dX3_takeNumber_1 : decode cX3_takeNumber 1 = .ok (.iconst 0, 1) := by decide +kernel
theorem dX3_takeNumber_2 : decode cX3_takeNumber 2 = .ok (.putfield 34, 3) := by decide +kernel
theorem dX3_takeNumber_5 : decode cX3_takeNumber 5 = .ok (.aload_n 0, 1) := by decide +kernel
theorem dX3_takeNumber_6 : decode cX3_takeNumber 6 = .ok (.getfield 28, 3) := by decide +kernel
theorem dX3_takeNumber_9 : decode cX3_takeNumber 9 = .ok (.aload_n 0, 1) := by decide +kernel
theorem dX3_takeNumber_10 : decode cX3_takeNumber 10 = .ok (.getfield 15, 3) := by decide +kernel
theorem dX3_takeNumber_13 : decode cX3_takeNumber 13 = .ok (.if_icmp .ge 68, 3) := by decide +kernel
theorem dX3_takeNumber_16 : decode cX3_takeNumber 16 = .ok (.aload_n 0, 1) := by decide +kernel
theorem dX3_takeNumber_17 : decode cX3_takeNumber 17 = .ok (.getfield 11, 3) := by decide +kernel
theorem dX3_takeNumber_20 : decode cX3_takeNumber 20 = .ok (.aload_n 0, 1) := by decide +kernel
theorem dX3_takeNumber_21 : decode cX3_takeNumber 21 = .ok (.getfield 28, 3) := by decide +kernel
theorem dX3_takeNumber_24 : decode cX3_takeNumber 24 = .ok (.baload, 1) := by decide +kernel
theorem dX3_takeNumber_25 : decode cX3_takeNumber 25 = .ok (.invokestatic 84, 3) := by decide +kernel
theorem dX3_takeNumber_28 : decode cX3_takeNumber 28 = .ok (.ifCond .eq 53, 3) := by decide +kernel
theorem dX3_takeNumber_31 : decode cX3_takeNumber 31 = .ok (.aload_n 0, 1) := by decide +kernel
theorem dX3_takeNumber_32 : decode cX3_takeNumber 32 = .ok (.getfield 28, 3) := by decide +kernel
theorem dX3_takeNumber_35 : decode cX3_takeNumber 35 = .ok (.aload_n 0, 1) := by decide +kernel
theorem dX3_takeNumber_36 : decode cX3_takeNumber 36 = .ok (.getfield 25, 3) := by decide +kernel
theorem dX3_takeNumber_39 : decode cX3_takeNumber 39 = .ok (.isub, 1) := by decide +kernel
theorem dX3_takeNumber_40 : decode cX3_takeNumber 40 = .ok (.iconst 2, 1) := by decide +kernel
theorem dX3_takeNumber_41 : decode cX3_takeNumber 41 = .ok (.if_icmp .ge 27, 3) := by decide +kernel
theorem dX3_takeNumber_44 : decode cX3_takeNumber 44 = .ok (.aload_n 0, 1) := by decide +kernel
theorem dX3_takeNumber_45 : decode cX3_takeNumber 45 = .ok (.aload_n 0, 1) := by decide +kernel
theorem dX3_takeNumber_46 : decode cX3_takeNumber 46 = .ok (.getfield 34, 3) := by decide +kernel
theorem dX3_takeNumber_49 : decode cX3_takeNumber 49 = .ok (.bipush 10, 2) := by decide +kernel
theorem dX3_takeNumber_51 : decode cX3_takeNumber 51 = .ok (.imul, 1) := by decide +kernel
theorem dX3_takeNumber_52 : decode cX3_takeNumber 52 = .ok (.aload_n 0, 1) := by decide +kernel
theorem dX3_takeNumber_53 : decode cX3_takeNumber 53 = .ok (.getfield 11, 3) := by decide +kernel
theorem dX3_takeNumber_56 : decode cX3_takeNumber 56 = .ok (.aload_n 0, 1) := by decide +kernel
theorem dX3_takeNumber_57 : decode cX3_takeNumber 57 = .ok (.getfield 28, 3) := by decide +kernel
theorem dX3_takeNumber_60 : decode cX3_takeNumber 60 = .ok (.baload, 1) := by decide +kernel
theorem dX3_takeNumber_61 : decode cX3_takeNumber 61 = .ok (.bipush 48, 2) := by decide +kernel
theorem dX3_takeNumber_63 : decode cX3_takeNumber 63 = .ok (.isub, 1) := by decide +kernel
theorem dX3_takeNumber_64 : decode cX3_takeNumber 64 = .ok (.iadd, 1) := by decide +kernel
theorem dX3_takeNumber_65 : decode cX3_takeNumber 65 = .ok (.putfield 34, 3) := by decide +kernel
theorem dX3_takeNumber_68 : decode cX3_takeNumber 68 = .ok (.aload_n 0, 1) := by decide +kernel
theorem dX3_takeNumber_69 : decode cX3_takeNumber 69 = .ok (.dup, 1) := by decide +kernel
theorem dX3_takeNumber_70 : decode cX3_takeNumber 70 = .ok (.getfield 28, 3) := by decide +kernel
theorem dX3_takeNumber_73 : decode cX3_takeNumber 73 = .ok (.iconst 1, 1) := by decide +kernel
theorem dX3_takeNumber_74 : decode cX3_takeNumber 74 = .ok (.iadd, 1) := by decide +kernel
theorem dX3_takeNumber_75 : decode cX3_takeNumber 75 = .ok (.putfield 28, 3) := by decide +kernel
theorem dX3_takeNumber_78 : decode cX3_takeNumber 78 = .ok (.goto (-73), 3) := by decide +kernel
theorem dX3_takeNumber_81 : decode cX3_takeNumber 81 = .ok (.aload_n 0, 1) := by decide +kernel
theorem dX3_takeNumber_82 : decode cX3_takeNumber 82 = .ok (.aload_n 0, 1) := by decide +kernel
theorem dX3_takeNumber_83 : decode cX3_takeNumber 83 = .ok (.getfield 28, 3) := by decide +kernel
theorem dX3_takeNumber_86 : decode cX3_takeNumber 86 = .ok (.aload_n 0, 1) := by decide +kernel
theorem dX3_takeNumber_87 : decode cX3_takeNumber 87 = .ok (.getfield 25, 3) := by decide +kernel
theorem dX3_takeNumber_90 : decode cX3_takeNumber 90 = .ok (.isub, 1) := by decide +kernel
theorem dX3_takeNumber_91 : decode cX3_takeNumber 91 = .ok (.iconst 2, 1) := by decide +kernel
theorem dX3_takeNumber_92 : decode cX3_takeNumber 92 = .ok (.if_icmp .gt 7, 3) := by decide +kernel
theorem dX3_takeNumber_95 : decode cX3_takeNumber 95 = .ok (.iconst 3, 1) := by decide +kernel
theorem dX3_takeNumber_96 : decode cX3_takeNumber 96 = .ok (.goto 4, 3) := by decide +kernel
theorem dX3_takeNumber_99 : decode cX3_takeNumber 99 = .ok (.iconst 5, 1) := by decide +kernel
theorem dX3_takeNumber_100 : decode cX3_takeNumber 100 = .ok (.putfield 31, 3) := by decide +kernel
theorem dX3_takeNumber_103 : decode cX3_takeNumber 103 = .ok (.return_, 1) := by decide +kernel
theorem dX3_isLetter_0 : decode cX3_isLetter 0 = .ok (.iload_n 0, 1) := by decide +kernel
theorem dX3_isLetter_1 : decode cX3_isLetter 1 = .ok (.bipush 97, 2) := by decide +kernel
theorem dX3_isLetter_3 : decode cX3_isLetter 3 = .ok (.if_icmp .lt 13, 3) := by decide +kernel
theorem dX3_isLetter_6 : decode cX3_isLetter 6 = .ok (.iload_n 0, 1) := by decide +kernel
theorem dX3_isLetter_7 : decode cX3_isLetter 7 = .ok (.bipush 122, 2) := by decide +kernel
theorem dX3_isLetter_9 : decode cX3_isLetter 9 = .ok (.if_icmp .gt 7, 3) := by decide +kernel
theorem dX3_isLetter_12 : decode cX3_isLetter 12 = .ok (.iconst 1, 1) := by decide +kernel
theorem dX3_isLetter_13 : decode cX3_isLetter 13 = .ok (.goto 4, 3) := by decide +kernel
theorem dX3_isLetter_16 : decode cX3_isLetter 16 = .ok (.iconst 0, 1) := by decide +kernel
theorem dX3_isLetter_17 : decode cX3_isLetter 17 = .ok (.ireturn, 1) := by decide +kernel
theorem dX3_isFigure_0 : decode cX3_isFigure 0 = .ok (.iload_n 0, 1) := by decide +kernel
theorem dX3_isFigure_1 : decode cX3_isFigure 1 = .ok (.bipush 48, 2) := by decide +kernel
theorem dX3_isFigure_3 : decode cX3_isFigure 3 = .ok (.if_icmp .lt 13, 3) := by decide +kernel
theorem dX3_isFigure_6 : decode cX3_isFigure 6 = .ok (.iload_n 0, 1) := by decide +kernel
theorem dX3_isFigure_7 : decode cX3_isFigure 7 = .ok (.bipush 57, 2) := by decide +kernel
theorem dX3_isFigure_9 : decode cX3_isFigure 9 = .ok (.if_icmp .gt 7, 3) := by decide +kernel
theorem dX3_isFigure_12 : decode cX3_isFigure 12 = .ok (.iconst 1, 1) := by decide +kernel
theorem dX3_isFigure_13 : decode cX3_isFigure 13 = .ok (.goto 4, 3) := by decide +kernel
theorem dX3_isFigure_16 : decode cX3_isFigure 16 = .ok (.iconst 0, 1) := by decide +kernel
theorem dX3_isFigure_17 : decode cX3_isFigure 17 = .ok (.ireturn, 1) := by decide +kernel
theorem dX4_init_0 : decode cX4_init 0 = .ok (.aload_n 0, 1) := by decide +kernel
theorem dX4_init_1 : decode cX4_init 1 = .ok (.invokespecial 3, 3) := by decide +kernel
theorem dX4_init_4 : decode cX4_init 4 = .ok (.aload_n 0, 1) := by decide +kernel
theorem dX4_init_5 : decode cX4_init 5 = .ok (.bipush 16, 2) := by decide +kernel
theorem dX4_init_7 : decode cX4_init 7 = .ok (.newarray .int, 2) := by decide +kernel
theorem dX4_init_9 : decode cX4_init 9 = .ok (.putfield 11, 3) := by decide +kernel
theorem dX4_init_12 : decode cX4_init 12 = .ok (.aload_n 0, 1) := by decide +kernel
theorem dX4_init_13 : decode cX4_init 13 = .ok (.iconst 0, 1) := by decide +kernel
theorem dX4_init_14 : decode cX4_init 14 = .ok (.putfield 15, 3) := by decide +kernel
theorem dX4_init_17 : decode cX4_init 17 = .ok (.return_, 1) := by decide +kernel
theorem dX4_empty_0 : decode cX4_empty 0 = .ok (.aload_n 0, 1) := by decide +kernel
theorem dX4_empty_1 : decode cX4_empty 1 = .ok (.iconst 0, 1) := by decide +kernel
theorem dX4_empty_2 : decode cX4_empty 2 = .ok (.putfield 15, 3) := by decide +kernel
theorem dX4_empty_5 : decode cX4_empty 5 = .ok (.return_, 1) := by decide +kernel
theorem dX4_add_0 : decode cX4_add 0 = .ok (.aload_n 0, 1) := by decide +kernel
theorem dX4_add_1 : decode cX4_add 1 = .ok (.getfield 15, 3) := by decide +kernel
theorem dX4_add_4 : decode cX4_add 4 = .ok (.bipush 16, 2) := by decide +kernel
theorem dX4_add_6 : decode cX4_add 6 = .ok (.if_icmp .ge 23, 3) := by decide +kernel
theorem dX4_add_9 : decode cX4_add 9 = .ok (.aload_n 0, 1) := by decide +kernel
theorem dX4_add_10 : decode cX4_add 10 = .ok (.getfield 11, 3) := by decide +kernel
theorem dX4_add_13 : decode cX4_add 13 = .ok (.aload_n 0, 1) := by decide +kernel
theorem dX4_add_14 : decode cX4_add 14 = .ok (.getfield 15, 3) := by decide +kernel
theorem dX4_add_17 : decode cX4_add 17 = .ok (.iload_n 1, 1) := by decide +kernel
theorem dX4_add_18 : decode cX4_add 18 = .ok (.iastore, 1) := by decide +kernel
theorem dX4_add_19 : decode cX4_add 19 = .ok (.aload_n 0, 1) := by decide +kernel
theorem dX4_add_20 : decode cX4_add 20 = .ok (.dup, 1) := by decide +kernel
theorem dX4_add_21 : decode cX4_add 21 = .ok (.getfield 15, 3) := by decide +kernel
theorem dX4_add_24 : decode cX4_add 24 = .ok (.iconst 1, 1) := by decide +kernel
theorem dX4_add_25 : decode cX4_add 25 = .ok (.iadd, 1) := by decide +kernel
theorem dX4_add_26 : decode cX4_add 26 = .ok (.putfield 15, 3) := by decide +kernel
theorem dX4_add_29 : decode cX4_add 29 = .ok (.return_, 1) := by decide +kernel
theorem dX4_at_0 : decode cX4_at 0 = .ok (.iload_n 1, 1) := by decide +kernel
theorem dX4_at_1 : decode cX4_at 1 = .ok (.ifCond .lt 20, 3) := by decide +kernel
theorem dX4_at_4 : decode cX4_at 4 = .ok (.iload_n 1, 1) := by decide +kernel
theorem dX4_at_5 : decode cX4_at 5 = .ok (.aload_n 0, 1) := by decide +kernel
theorem dX4_at_6 : decode cX4_at 6 = .ok (.getfield 15, 3) := by decide +kernel
theorem dX4_at_9 : decode cX4_at 9 = .ok (.if_icmp .ge 12, 3) := by decide +kernel
theorem dX4_at_12 : decode cX4_at 12 = .ok (.aload_n 0, 1) := by decide +kernel
theorem dX4_at_13 : decode cX4_at 13 = .ok (.getfield 11, 3) := by decide +kernel
theorem dX4_at_16 : decode cX4_at 16 = .ok (.iload_n 1, 1) := by decide +kernel
theorem dX4_at_17 : decode cX4_at 17 = .ok (.iaload, 1) := by decide +kernel
theorem dX4_at_18 : decode cX4_at 18 = .ok (.goto 5, 3) := by decide +kernel
theorem dX4_at_21 : decode cX4_at 21 = .ok (.ldc 19, 2) := by decide +kernel
theorem dX4_at_23 : decode cX4_at 23 = .ok (.ireturn, 1) := by decide +kernel
theorem dX5_init_0 : decode cX5_init 0 = .ok (.aload_n 0, 1) := by decide +kernel
theorem dX5_init_1 : decode cX5_init 1 = .ok (.invokespecial 3, 3) := by decide +kernel
theorem dX5_init_4 : decode cX5_init 4 = .ok (.aload_n 0, 1) := by decide +kernel
theorem dX5_init_5 : decode cX5_init 5 = .ok (.iconst 0, 1) := by decide +kernel
theorem dX5_init_6 : decode cX5_init 6 = .ok (.putfield 9, 3) := by decide +kernel
theorem dX5_init_9 : decode cX5_init 9 = .ok (.aload_n 0, 1) := by decide +kernel
theorem dX5_init_10 : decode cX5_init 10 = .ok (.iconst 0, 1) := by decide +kernel
theorem dX5_init_11 : decode cX5_init 11 = .ok (.putfield 15, 3) := by decide +kernel
theorem dX5_init_14 : decode cX5_init 14 = .ok (.aload_n 0, 1) := by decide +kernel
theorem dX5_init_15 : decode cX5_init 15 = .ok (.bipush 6, 2) := by decide +kernel
theorem dX5_init_17 : decode cX5_init 17 = .ok (.newarray .int, 2) := by decide +kernel
theorem dX5_init_19 : decode cX5_init 19 = .ok (.putfield 18, 3) := by decide +kernel
theorem dX5_init_22 : decode cX5_init 22 = .ok (.aload_n 0, 1) := by decide +kernel
theorem dX5_init_23 : decode cX5_init 23 = .ok (.iconst 3, 1) := by decide +kernel
theorem dX5_init_24 : decode cX5_init 24 = .ok (.newarray .int, 2) := by decide +kernel
theorem dX5_init_26 : decode cX5_init 26 = .ok (.putfield 22, 3) := by decide +kernel
theorem dX5_init_29 : decode cX5_init 29 = .ok (.aload_n 0, 1) := by decide +kernel
theorem dX5_init_30 : decode cX5_init 30 = .ok (.iconst 3, 1) := by decide +kernel
theorem dX5_init_31 : decode cX5_init 31 = .ok (.bipush 6, 2) := by decide +kernel
theorem dX5_init_33 : decode cX5_init 33 = .ok (.multianewarray 25 2, 4) := by decide +kernel
theorem dX5_init_37 : decode cX5_init 37 = .ok (.putfield 27, 3) := by decide +kernel
theorem dX5_init_40 : decode cX5_init 40 = .ok (.aload_n 0, 1) := by decide +kernel
theorem dX5_init_41 : decode cX5_init 41 = .ok (.iconst 3, 1) := by decide +kernel
theorem dX5_init_42 : decode cX5_init 42 = .ok (.newarray .long, 2) := by decide +kernel
theorem dX5_init_44 : decode cX5_init 44 = .ok (.putfield 30, 3) := by decide +kernel
theorem dX5_init_47 : decode cX5_init 47 = .ok (.aload_n 0, 1) := by decide +kernel
theorem dX5_init_48 : decode cX5_init 48 = .ok (.bipush 6, 2) := by decide +kernel
theorem dX5_init_50 : decode cX5_init 50 = .ok (.newarray .int, 2) := by decide +kernel
theorem dX5_init_52 : decode cX5_init 52 = .ok (.putfield 34, 3) := by decide +kernel
theorem dX5_init_55 : decode cX5_init 55 = .ok (.return_, 1) := by decide +kernel
theorem dX5_take_0 : decode cX5_take 0 = .ok (.aload_n 0, 1) := by decide +kernel
theorem dX5_take_1 : decode cX5_take 1 = .ok (.aload_n 1, 1) := by decide +kernel
theorem dX5_take_2 : decode cX5_take 2 = .ok (.getfield 9, 3) := by decide +kernel
theorem dX5_take_5 : decode cX5_take 5 = .ok (.putfield 9, 3) := by decide +kernel
theorem dX5_take_8 : decode cX5_take 8 = .ok (.aload_n 0, 1) := by decide +kernel
theorem dX5_take_9 : decode cX5_take 9 = .ok (.aload_n 1, 1) := by decide +kernel
theorem dX5_take_10 : decode cX5_take 10 = .ok (.getfield 15, 3) := by decide +kernel
theorem dX5_take_13 : decode cX5_take 13 = .ok (.putfield 15, 3) := by decide +kernel
theorem dX5_take_16 : decode cX5_take 16 = .ok (.aload_n 1, 1) := by decide +kernel
theorem dX5_take_17 : decode cX5_take 17 = .ok (.getfield 18, 3) := by decide +kernel
theorem dX5_take_20 : decode cX5_take 20 = .ok (.iconst 0, 1) := by decide +kernel
theorem dX5_take_21 : decode cX5_take 21 = .ok (.aload_n 0, 1) := by decide +kernel
theorem dX5_take_22 : decode cX5_take 22 = .ok (.getfield 18, 3) := by decide +kernel
theorem dX5_take_25 : decode cX5_take 25 = .ok (.iconst 0, 1) := by decide +kernel
theorem dX5_take_26 : decode cX5_take 26 = .ok (.bipush 6, 2) := by decide +kernel
theorem dX5_take_28 : decode cX5_take 28 = .ok (.invokestatic 37, 3) := by decide +kernel
theorem dX5_take_31 : decode cX5_take 31 = .ok (.aload_n 1, 1) := by decide +kernel
theorem dX5_take_32 : decode cX5_take 32 = .ok (.getfield 22, 3) := by decide +kernel
theorem dX5_take_35 : decode cX5_take 35 = .ok (.iconst 0, 1) := by decide +kernel
theorem dX5_take_36 : decode cX5_take 36 = .ok (.aload_n 0, 1) := by decide +kernel
theorem dX5_take_37 : decode cX5_take 37 = .ok (.getfield 22, 3) := by decide +kernel
theorem dX5_take_40 : decode cX5_take 40 = .ok (.iconst 0, 1) := by decide +kernel
theorem dX5_take_41 : decode cX5_take 41 = .ok (.iconst 3, 1) := by decide +kernel
theorem dX5_take_42 : decode cX5_take 42 = .ok (.invokestatic 37, 3) := by decide +kernel
theorem dX5_take_45 : decode cX5_take 45 = .ok (.aload_n 1, 1) := by decide +kernel
theorem dX5_take_46 : decode cX5_take 46 = .ok (.getfield 30, 3) := by decide +kernel
theorem dX5_take_49 : decode cX5_take 49 = .ok (.iconst 0, 1) := by decide +kernel
theorem dX5_take_50 : decode cX5_take 50 = .ok (.aload_n 0, 1) := by decide +kernel
theorem dX5_take_51 : decode cX5_take 51 = .ok (.getfield 30, 3) := by decide +kernel
theorem dX5_take_54 : decode cX5_take 54 = .ok (.iconst 0, 1) := by decide +kernel
theorem dX5_take_55 : decode cX5_take 55 = .ok (.iconst 3, 1) := by decide +kernel
theorem dX5_take_56 : decode cX5_take 56 = .ok (.invokestatic 37, 3) := by decide +kernel
theorem dX5_take_59 : decode cX5_take 59 = .ok (.iconst 0, 1) := by decide +kernel
theorem dX5_take_60 : decode cX5_take 60 = .ok (.istore_n 2, 1) := by decide +kernel
theorem dX5_take_61 : decode cX5_take 61 = .ok (.iload_n 2, 1) := by decide +kernel
theorem dX5_take_62 : decode cX5_take 62 = .ok (.iconst 3, 1) := by decide +kernel
theorem dX5_take_63 : decode cX5_take 63 = .ok (.if_icmp .ge 28, 3) := by decide +kernel
theorem dX5_take_66 : decode cX5_take 66 = .ok (.aload_n 1, 1) := by decide +kernel
theorem dX5_take_67 : decode cX5_take 67 = .ok (.getfield 27, 3) := by decide +kernel
theorem dX5_take_70 : decode cX5_take 70 = .ok (.iload_n 2, 1) := by decide +kernel
theorem dX5_take_71 : decode cX5_take 71 = .ok (.aaload, 1) := by decide +kernel
theorem dX5_take_72 : decode cX5_take 72 = .ok (.iconst 0, 1) := by decide +kernel
theorem dX5_take_73 : decode cX5_take 73 = .ok (.aload_n 0, 1) := by decide +kernel
theorem dX5_take_74 : decode cX5_take 74 = .ok (.getfield 27, 3) := by decide +kernel
theorem dX5_take_77 : decode cX5_take 77 = .ok (.iload_n 2, 1) := by decide +kernel
theorem dX5_take_78 : decode cX5_take 78 = .ok (.aaload, 1) := by decide +kernel
theorem dX5_take_79 : decode cX5_take 79 = .ok (.iconst 0, 1) := by decide +kernel
theorem dX5_take_80 : decode cX5_take 80 = .ok (.bipush 6, 2) := by decide +kernel
theorem dX5_take_82 : decode cX5_take 82 = .ok (.invokestatic 37, 3) := by decide +kernel
theorem dX5_take_85 : decode cX5_take 85 = .ok (.iinc 2 1, 3) := by decide +kernel
theorem dX5_take_88 : decode cX5_take 88 = .ok (.goto (-27), 3) := by decide +kernel
theorem dX5_take_91 : decode cX5_take 91 = .ok (.return_, 1) := by decide +kernel
theorem dX5_isThere_0 : decode cX5_isThere 0 = .ok (.aload_n 0, 1) := by decide +kernel
theorem dX5_isThere_1 : decode cX5_isThere 1 = .ok (.getfield 9, 3) := by decide +kernel
theorem dX5_isThere_4 : decode cX5_isThere 4 = .ok (.ifCond .le 7, 3) := by decide +kernel
theorem dX5_isThere_7 : decode cX5_isThere 7 = .ok (.iconst 1, 1) := by decide +kernel
theorem dX5_isThere_8 : decode cX5_isThere 8 = .ok (.goto 4, 3) := by decide +kernel
theorem dX5_isThere_11 : decode cX5_isThere 11 = .ok (.iconst 0, 1) := by decide +kernel
theorem dX5_isThere_12 : decode cX5_isThere 12 = .ok (.ireturn, 1) := by decide +kernel
theorem dX5_isLand_0 : decode cX5_isLand 0 = .ok (.iload_n 1, 1) := by decide +kernel
theorem dX5_isLand_1 : decode cX5_isLand 1 = .ok (.ifCond .lt 15, 3) := by decide +kernel
theorem dX5_isLand_4 : decode cX5_isLand 4 = .ok (.iload_n 1, 1) := by decide +kernel
theorem dX5_isLand_5 : decode cX5_isLand 5 = .ok (.aload_n 0, 1) := by decide +kernel
theorem dX5_isLand_6 : decode cX5_isLand 6 = .ok (.getfield 9, 3) := by decide +kernel
theorem dX5_isLand_9 : decode cX5_isLand 9 = .ok (.if_icmp .ge 7, 3) := by decide +kernel
theorem dX5_isLand_12 : decode cX5_isLand 12 = .ok (.iconst 1, 1) := by decide +kernel
theorem dX5_isLand_13 : decode cX5_isLand 13 = .ok (.goto 4, 3) := by decide +kernel
theorem dX5_isLand_16 : decode cX5_isLand 16 = .ok (.iconst 0, 1) := by decide +kernel
theorem dX5_isLand_17 : decode cX5_isLand 17 = .ok (.ireturn, 1) := by decide +kernel
theorem dX5_isGood_0 : decode cX5_isGood 0 = .ok (.iload_n 1, 1) := by decide +kernel
theorem dX5_isGood_1 : decode cX5_isGood 1 = .ok (.ifCond .lt 15, 3) := by decide +kernel
theorem dX5_isGood_4 : decode cX5_isGood 4 = .ok (.iload_n 1, 1) := by decide +kernel
theorem dX5_isGood_5 : decode cX5_isGood 5 = .ok (.aload_n 0, 1) := by decide +kernel
theorem dX5_isGood_6 : decode cX5_isGood 6 = .ok (.getfield 15, 3) := by decide +kernel
theorem dX5_isGood_9 : decode cX5_isGood 9 = .ok (.if_icmp .ge 7, 3) := by decide +kernel
theorem dX5_isGood_12 : decode cX5_isGood 12 = .ok (.iconst 1, 1) := by decide +kernel
theorem dX5_isGood_13 : decode cX5_isGood 13 = .ok (.goto 4, 3) := by decide +kernel
theorem dX5_isGood_16 : decode cX5_isGood 16 = .ok (.iconst 0, 1) := by decide +kernel
theorem dX5_isGood_17 : decode cX5_isGood 17 = .ok (.ireturn, 1) := by decide +kernel
theorem dX5_allLands_0 : decode cX5_allLands 0 = .ok (.iconst 1, 1) := by decide +kernel
theorem dX5_allLands_1 : decode cX5_allLands 1 = .ok (.aload_n 0, 1) := by decide +kernel
theorem dX5_allLands_2 : decode cX5_allLands 2 = .ok (.getfield 9, 3) := by decide +kernel
theorem dX5_allLands_5 : decode cX5_allLands 5 = .ok (.ishl, 1) := by decide +kernel
theorem dX5_allLands_6 : decode cX5_allLands 6 = .ok (.iconst 1, 1) := by decide +kernel
theorem dX5_allLands_7 : decode cX5_allLands 7 = .ok (.isub, 1) := by decide +kernel
theorem dX5_allLands_8 : decode cX5_allLands 8 = .ok (.ireturn, 1) := by decide +kernel
theorem dX5_allHands_0 : decode cX5_allHands 0 = .ok (.iconst 0, 1) := by decide +kernel
theorem dX5_allHands_1 : decode cX5_allHands 1 = .ok (.istore_n 1, 1) := by decide +kernel
theorem dX5_allHands_2 : decode cX5_allHands 2 = .ok (.iconst 0, 1) := by decide +kernel
theorem dX5_allHands_3 : decode cX5_allHands 3 = .ok (.istore_n 2, 1) := by decide +kernel
theorem dX5_allHands_4 : decode cX5_allHands 4 = .ok (.iload_n 2, 1) := by decide +kernel
theorem dX5_allHands_5 : decode cX5_allHands 5 = .ok (.aload_n 0, 1) := by decide +kernel
theorem dX5_allHands_6 : decode cX5_allHands 6 = .ok (.getfield 9, 3) := by decide +kernel
theorem dX5_allHands_9 : decode cX5_allHands 9 = .ok (.if_icmp .ge 18, 3) := by decide +kernel
theorem dX5_allHands_12 : decode cX5_allHands 12 = .ok (.iload_n 1, 1) := by decide +kernel
theorem dX5_allHands_13 : decode cX5_allHands 13 = .ok (.aload_n 0, 1) := by decide +kernel
theorem dX5_allHands_14 : decode cX5_allHands 14 = .ok (.getfield 22, 3) := by decide +kernel
theorem dX5_allHands_17 : decode cX5_allHands 17 = .ok (.iload_n 2, 1) := by decide +kernel
theorem dX5_allHands_18 : decode cX5_allHands 18 = .ok (.iaload, 1) := by decide +kernel
theorem dX5_allHands_19 : decode cX5_allHands 19 = .ok (.iadd, 1) := by decide +kernel
theorem dX5_allHands_20 : decode cX5_allHands 20 = .ok (.istore_n 1, 1) := by decide +kernel
theorem dX5_allHands_21 : decode cX5_allHands 21 = .ok (.iinc 2 1, 3) := by decide +kernel
theorem dX5_allHands_24 : decode cX5_allHands 24 = .ok (.goto (-20), 3) := by decide +kernel
theorem dX5_allHands_27 : decode cX5_allHands 27 = .ok (.iload_n 1, 1) := by decide +kernel
theorem dX5_allHands_28 : decode cX5_allHands 28 = .ok (.ireturn, 1) := by decide +kernel
theorem dX5_allShares_0 : decode cX5_allShares 0 = .ok (.iconst 0, 1) := by decide +kernel
theorem dX5_allShares_1 : decode cX5_allShares 1 = .ok (.istore_n 1, 1) := by decide +kernel
theorem dX5_allShares_2 : decode cX5_allShares 2 = .ok (.iconst 0, 1) := by decide +kernel
theorem dX5_allShares_3 : decode cX5_allShares 3 = .ok (.istore_n 2, 1) := by decide +kernel
theorem dX5_allShares_4 : decode cX5_allShares 4 = .ok (.iload_n 2, 1) := by decide +kernel
theorem dX5_allShares_5 : decode cX5_allShares 5 = .ok (.aload_n 0, 1) := by decide +kernel
theorem dX5_allShares_6 : decode cX5_allShares 6 = .ok (.getfield 15, 3) := by decide +kernel
theorem dX5_allShares_9 : decode cX5_allShares 9 = .ok (.if_icmp .ge 18, 3) := by decide +kernel
theorem dX5_allShares_12 : decode cX5_allShares 12 = .ok (.iload_n 1, 1) := by decide +kernel
theorem dX5_allShares_13 : decode cX5_allShares 13 = .ok (.aload_n 0, 1) := by decide +kernel
theorem dX5_allShares_14 : decode cX5_allShares 14 = .ok (.getfield 18, 3) := by decide +kernel
theorem dX5_allShares_17 : decode cX5_allShares 17 = .ok (.iload_n 2, 1) := by decide +kernel
theorem dX5_allShares_18 : decode cX5_allShares 18 = .ok (.iaload, 1) := by decide +kernel
theorem dX5_allShares_19 : decode cX5_allShares 19 = .ok (.iadd, 1) := by decide +kernel
theorem dX5_allShares_20 : decode cX5_allShares 20 = .ok (.istore_n 1, 1) := by decide +kernel
theorem dX5_allShares_21 : decode cX5_allShares 21 = .ok (.iinc 2 1, 3) := by decide +kernel
theorem dX5_allShares_24 : decode cX5_allShares 24 = .ok (.goto (-20), 3) := by decide +kernel
theorem dX5_allShares_27 : decode cX5_allShares 27 = .ok (.iload_n 1, 1) := by decide +kernel
theorem dX5_allShares_28 : decode cX5_allShares 28 = .ok (.ireturn, 1) := by decide +kernel
theorem dX5_cost_0 : decode cX5_cost 0 = .ok (.aload_n 1, 1) := by decide +kernel
theorem dX5_cost_1 : decode cX5_cost 1 = .ok (.iload_n 2, 1) := by decide +kernel
theorem dX5_cost_2 : decode cX5_cost 2 = .ok (.laload, 1) := by decide +kernel
theorem dX5_cost_3 : decode cX5_cost 3 = .ok (.aload_n 0, 1) := by decide +kernel
theorem dX5_cost_4 : decode cX5_cost 4 = .ok (.getfield 27, 3) := by decide +kernel
theorem dX5_cost_7 : decode cX5_cost 7 = .ok (.iload_n 2, 1) := by decide +kernel
theorem dX5_cost_8 : decode cX5_cost 8 = .ok (.aaload, 1) := by decide +kernel
theorem dX5_cost_9 : decode cX5_cost 9 = .ok (.iload_n 3, 1) := by decide +kernel
theorem dX5_cost_10 : decode cX5_cost 10 = .ok (.iaload, 1) := by decide +kernel
theorem dX5_cost_11 : decode cX5_cost 11 = .ok (.i2l, 1) := by decide +kernel
theorem dX5_cost_12 : decode cX5_cost 12 = .ok (.lmul, 1) := by decide +kernel
theorem dX5_cost_13 : decode cX5_cost 13 = .ok (.lreturn, 1) := by decide +kernel
theorem dX5_leastCost_0 : decode cX5_leastCost 0 = .ok (.aload_n 0, 1) := by decide +kernel
theorem dX5_leastCost_1 : decode cX5_leastCost 1 = .ok (.aload_n 1, 1) := by decide +kernel
theorem dX5_leastCost_2 : decode cX5_leastCost 2 = .ok (.iconst 0, 1) := by decide +kernel
theorem dX5_leastCost_3 : decode cX5_leastCost 3 = .ok (.iload_n 2, 1) := by decide +kernel
theorem dX5_leastCost_4 : decode cX5_leastCost 4 = .ok (.invokevirtual 43, 3) := by decide +kernel
theorem dX5_leastCost_7 : decode cX5_leastCost 7 = .ok (.lstore_n 3, 1) := by decide +kernel
theorem dX5_leastCost_8 : decode cX5_leastCost 8 = .ok (.iconst 1, 1) := by decide +kernel
theorem dX5_leastCost_9 : decode cX5_leastCost 9 = .ok (.istore 5, 2) := by decide +kernel
theorem dX5_leastCost_11 : decode cX5_leastCost 11 = .ok (.iload 5, 2) := by decide +kernel
theorem dX5_leastCost_13 : decode cX5_leastCost 13 = .ok (.aload_n 0, 1) := by decide +kernel
theorem dX5_leastCost_14 : decode cX5_leastCost 14 = .ok (.getfield 9, 3) := by decide +kernel
theorem dX5_leastCost_17 : decode cX5_leastCost 17 = .ok (.if_icmp .ge 22, 3) := by decide +kernel
theorem dX5_leastCost_20 : decode cX5_leastCost 20 = .ok (.lload_n 3, 1) := by decide +kernel
theorem dX5_leastCost_21 : decode cX5_leastCost 21 = .ok (.aload_n 0, 1) := by decide +kernel
theorem dX5_leastCost_22 : decode cX5_leastCost 22 = .ok (.aload_n 1, 1) := by decide +kernel
theorem dX5_leastCost_23 : decode cX5_leastCost 23 = .ok (.iload 5, 2) := by decide +kernel
theorem dX5_leastCost_25 : decode cX5_leastCost 25 = .ok (.iload_n 2, 1) := by decide +kernel
theorem dX5_leastCost_26 : decode cX5_leastCost 26 = .ok (.invokevirtual 43, 3) := by decide +kernel
theorem dX5_leastCost_29 : decode cX5_leastCost 29 = .ok (.invokestatic 47, 3) := by decide +kernel
theorem dX5_leastCost_32 : decode cX5_leastCost 32 = .ok (.lstore_n 3, 1) := by decide +kernel
theorem dX5_leastCost_33 : decode cX5_leastCost 33 = .ok (.iinc 5 1, 3) := by decide +kernel
theorem dX5_leastCost_36 : decode cX5_leastCost 36 = .ok (.goto (-25), 3) := by decide +kernel
theorem dX5_leastCost_39 : decode cX5_leastCost 39 = .ok (.lload_n 3, 1) := by decide +kernel
theorem dX5_leastCost_40 : decode cX5_leastCost 40 = .ok (.lreturn, 1) := by decide +kernel
theorem dX5_makersBy_0 : decode cX5_makersBy 0 = .ok (.aload_n 0, 1) := by decide +kernel
theorem dX5_makersBy_1 : decode cX5_makersBy 1 = .ok (.aload_n 1, 1) := by decide +kernel
theorem dX5_makersBy_2 : decode cX5_makersBy 2 = .ok (.iconst 0, 1) := by decide +kernel
theorem dX5_makersBy_3 : decode cX5_makersBy 3 = .ok (.iload_n 2, 1) := by decide +kernel
theorem dX5_makersBy_4 : decode cX5_makersBy 4 = .ok (.invokevirtual 43, 3) := by decide +kernel
theorem dX5_makersBy_7 : decode cX5_makersBy 7 = .ok (.lstore_n 3, 1) := by decide +kernel
theorem dX5_makersBy_8 : decode cX5_makersBy 8 = .ok (.iconst 1, 1) := by decide +kernel
theorem dX5_makersBy_9 : decode cX5_makersBy 9 = .ok (.istore 5, 2) := by decide +kernel
theorem dX5_makersBy_11 : decode cX5_makersBy 11 = .ok (.iconst 1, 1) := by decide +kernel
theorem dX5_makersBy_12 : decode cX5_makersBy 12 = .ok (.istore 6, 2) := by decide +kernel
theorem dX5_makersBy_14 : decode cX5_makersBy 14 = .ok (.iload 6, 2) := by decide +kernel
theorem dX5_makersBy_16 : decode cX5_makersBy 16 = .ok (.aload_n 0, 1) := by decide +kernel
theorem dX5_makersBy_17 : decode cX5_makersBy 17 = .ok (.getfield 9, 3) := by decide +kernel
theorem dX5_makersBy_20 : decode cX5_makersBy 20 = .ok (.if_icmp .ge 48, 3) := by decide +kernel
theorem dX5_makersBy_23 : decode cX5_makersBy 23 = .ok (.aload_n 0, 1) := by decide +kernel
theorem dX5_makersBy_24 : decode cX5_makersBy 24 = .ok (.aload_n 1, 1) := by decide +kernel
theorem dX5_makersBy_25 : decode cX5_makersBy 25 = .ok (.iload 6, 2) := by decide +kernel
theorem dX5_makersBy_27 : decode cX5_makersBy 27 = .ok (.iload_n 2, 1) := by decide +kernel
theorem dX5_makersBy_28 : decode cX5_makersBy 28 = .ok (.invokevirtual 43, 3) := by decide +kernel
theorem dX5_makersBy_31 : decode cX5_makersBy 31 = .ok (.lstore 7, 2) := by decide +kernel
theorem dX5_makersBy_33 : decode cX5_makersBy 33 = .ok (.lload 7, 2) := by decide +kernel
theorem dX5_makersBy_35 : decode cX5_makersBy 35 = .ok (.lload_n 3, 1) := by decide +kernel
theorem dX5_makersBy_36 : decode cX5_makersBy 36 = .ok (.lcmp, 1) := by decide +kernel
theorem dX5_makersBy_37 : decode cX5_makersBy 37 = .ok (.ifCond .ge 9, 3) := by decide +kernel
theorem dX5_makersBy_40 : decode cX5_makersBy 40 = .ok (.lload 7, 2) := by decide +kernel
theorem dX5_makersBy_42 : decode cX5_makersBy 42 = .ok (.lstore_n 3, 1) := by decide +kernel
theorem dX5_makersBy_43 : decode cX5_makersBy 43 = .ok (.iconst 0, 1) := by decide +kernel
theorem dX5_makersBy_44 : decode cX5_makersBy 44 = .ok (.istore 5, 2) := by decide +kernel
theorem dX5_makersBy_46 : decode cX5_makersBy 46 = .ok (.lload 7, 2) := by decide +kernel
theorem dX5_makersBy_48 : decode cX5_makersBy 48 = .ok (.lload_n 3, 1) := by decide +kernel
theorem dX5_makersBy_49 : decode cX5_makersBy 49 = .ok (.lcmp, 1) := by decide +kernel
theorem dX5_makersBy_50 : decode cX5_makersBy 50 = .ok (.ifCond .ne 12, 3) := by decide +kernel
theorem dX5_makersBy_53 : decode cX5_makersBy 53 = .ok (.iload 5, 2) := by decide +kernel
theorem dX5_makersBy_55 : decode cX5_makersBy 55 = .ok (.iconst 1, 1) := by decide +kernel
theorem dX5_makersBy_56 : decode cX5_makersBy 56 = .ok (.iload 6, 2) := by decide +kernel
theorem dX5_makersBy_58 : decode cX5_makersBy 58 = .ok (.ishl, 1) := by decide +kernel
theorem dX5_makersBy_59 : decode cX5_makersBy 59 = .ok (.ior, 1) := by decide +kernel
theorem dX5_makersBy_60 : decode cX5_makersBy 60 = .ok (.istore 5, 2) := by decide +kernel
theorem dX5_makersBy_62 : decode cX5_makersBy 62 = .ok (.iinc 6 1, 3) := by decide +kernel
theorem dX5_makersBy_65 : decode cX5_makersBy 65 = .ok (.goto (-51), 3) := by decide +kernel
theorem dX5_makersBy_68 : decode cX5_makersBy 68 = .ok (.iload 5, 2) := by decide +kernel
theorem dX5_makersBy_70 : decode cX5_makersBy 70 = .ok (.ireturn, 1) := by decide +kernel
theorem dX5_firstMaker_0 : decode cX5_firstMaker 0 = .ok (.iconst 0, 1) := by decide +kernel
theorem dX5_firstMaker_1 : decode cX5_firstMaker 1 = .ok (.istore_n 2, 1) := by decide +kernel
theorem dX5_firstMaker_2 : decode cX5_firstMaker 2 = .ok (.iconst 1, 1) := by decide +kernel
theorem dX5_firstMaker_3 : decode cX5_firstMaker 3 = .ok (.istore_n 3, 1) := by decide +kernel
theorem dX5_firstMaker_4 : decode cX5_firstMaker 4 = .ok (.iload_n 3, 1) := by decide +kernel
theorem dX5_firstMaker_5 : decode cX5_firstMaker 5 = .ok (.aload_n 0, 1) := by decide +kernel
theorem dX5_firstMaker_6 : decode cX5_firstMaker 6 = .ok (.getfield 9, 3) := by decide +kernel
theorem dX5_firstMaker_9 : decode cX5_firstMaker 9 = .ok (.if_icmp .ge 35, 3) := by decide +kernel
theorem dX5_firstMaker_12 : decode cX5_firstMaker 12 = .ok (.aload_n 0, 1) := by decide +kernel
theorem dX5_firstMaker_13 : decode cX5_firstMaker 13 = .ok (.aload_n 0, 1) := by decide +kernel
theorem dX5_firstMaker_14 : decode cX5_firstMaker 14 = .ok (.getfield 30, 3) := by decide +kernel
theorem dX5_firstMaker_17 : decode cX5_firstMaker 17 = .ok (.iload_n 3, 1) := by decide +kernel
theorem dX5_firstMaker_18 : decode cX5_firstMaker 18 = .ok (.iload_n 1, 1) := by decide +kernel
theorem dX5_firstMaker_19 : decode cX5_firstMaker 19 = .ok (.invokevirtual 43, 3) := by decide +kernel
theorem dX5_firstMaker_22 : decode cX5_firstMaker 22 = .ok (.aload_n 0, 1) := by decide +kernel
theorem dX5_firstMaker_23 : decode cX5_firstMaker 23 = .ok (.aload_n 0, 1) := by decide +kernel
theorem dX5_firstMaker_24 : decode cX5_firstMaker 24 = .ok (.getfield 30, 3) := by decide +kernel
theorem dX5_firstMaker_27 : decode cX5_firstMaker 27 = .ok (.iload_n 2, 1) := by decide +kernel
theorem dX5_firstMaker_28 : decode cX5_firstMaker 28 = .ok (.iload_n 1, 1) := by decide +kernel
theorem dX5_firstMaker_29 : decode cX5_firstMaker 29 = .ok (.invokevirtual 43, 3) := by decide +kernel
theorem dX5_firstMaker_32 : decode cX5_firstMaker 32 = .ok (.lcmp, 1) := by decide +kernel
theorem dX5_firstMaker_33 : decode cX5_firstMaker 33 = .ok (.ifCond .ge 5, 3) := by decide +kernel
theorem dX5_firstMaker_36 : decode cX5_firstMaker 36 = .ok (.iload_n 3, 1) := by decide +kernel
theorem dX5_firstMaker_37 : decode cX5_firstMaker 37 = .ok (.istore_n 2, 1) := by decide +kernel
theorem dX5_firstMaker_38 : decode cX5_firstMaker 38 = .ok (.iinc 3 1, 3) := by decide +kernel
theorem dX5_firstMaker_41 : decode cX5_firstMaker 41 = .ok (.goto (-37), 3) := by decide +kernel
theorem dX5_firstMaker_44 : decode cX5_firstMaker 44 = .ok (.iload_n 2, 1) := by decide +kernel
theorem dX5_firstMaker_45 : decode cX5_firstMaker 45 = .ok (.ireturn, 1) := by decide +kernel
theorem dX5_idleBy_0 : decode cX5_idleBy 0 = .ok (.iconst 0, 1) := by decide +kernel
theorem dX5_idleBy_1 : decode cX5_idleBy 1 = .ok (.istore_n 2, 1) := by decide +kernel
theorem dX5_idleBy_2 : decode cX5_idleBy 2 = .ok (.iload_n 2, 1) := by decide +kernel
theorem dX5_idleBy_3 : decode cX5_idleBy 3 = .ok (.aload_n 0, 1) := by decide +kernel
theorem dX5_idleBy_4 : decode cX5_idleBy 4 = .ok (.getfield 15, 3) := by decide +kernel
theorem dX5_idleBy_7 : decode cX5_idleBy 7 = .ok (.if_icmp .ge 21, 3) := by decide +kernel
theorem dX5_idleBy_10 : decode cX5_idleBy 10 = .ok (.aload_n 0, 1) := by decide +kernel
theorem dX5_idleBy_11 : decode cX5_idleBy 11 = .ok (.getfield 34, 3) := by decide +kernel
theorem dX5_idleBy_14 : decode cX5_idleBy 14 = .ok (.iload_n 2, 1) := by decide +kernel
theorem dX5_idleBy_15 : decode cX5_idleBy 15 = .ok (.aload_n 0, 1) := by decide +kernel
theorem dX5_idleBy_16 : decode cX5_idleBy 16 = .ok (.aload_n 1, 1) := by decide +kernel
theorem dX5_idleBy_17 : decode cX5_idleBy 17 = .ok (.iload_n 2, 1) := by decide +kernel
theorem dX5_idleBy_18 : decode cX5_idleBy 18 = .ok (.invokevirtual 53, 3) := by decide +kernel
theorem dX5_idleBy_21 : decode cX5_idleBy 21 = .ok (.iastore, 1) := by decide +kernel
theorem dX5_idleBy_22 : decode cX5_idleBy 22 = .ok (.iinc 2 1, 3) := by decide +kernel
theorem dX5_idleBy_25 : decode cX5_idleBy 25 = .ok (.goto (-23), 3) := by decide +kernel
theorem dX5_idleBy_28 : decode cX5_idleBy 28 = .ok (.aload_n 0, 1) := by decide +kernel
theorem dX5_idleBy_29 : decode cX5_idleBy 29 = .ok (.invokevirtual 57, 3) := by decide +kernel
theorem dX5_idleBy_32 : decode cX5_idleBy 32 = .ok (.i2l, 1) := by decide +kernel
theorem dX5_idleBy_33 : decode cX5_idleBy 33 = .ok (.lstore_n 2, 1) := by decide +kernel
theorem dX5_idleBy_34 : decode cX5_idleBy 34 = .ok (.aload_n 0, 1) := by decide +kernel
theorem dX5_idleBy_35 : decode cX5_idleBy 35 = .ok (.aload_n 1, 1) := by decide +kernel
theorem dX5_idleBy_36 : decode cX5_idleBy 36 = .ok (.aload_n 0, 1) := by decide +kernel
theorem dX5_idleBy_37 : decode cX5_idleBy 37 = .ok (.invokevirtual 61, 3) := by decide +kernel
theorem dX5_idleBy_40 : decode cX5_idleBy 40 = .ok (.invokevirtual 64, 3) := by decide +kernel
theorem dX5_idleBy_43 : decode cX5_idleBy 43 = .ok (.lstore 4, 2) := by decide +kernel
theorem dX5_idleBy_45 : decode cX5_idleBy 45 = .ok (.iconst 1, 1) := by decide +kernel
theorem dX5_idleBy_46 : decode cX5_idleBy 46 = .ok (.istore 6, 2) := by decide +kernel
theorem dX5_idleBy_48 : decode cX5_idleBy 48 = .ok (.iload 6, 2) := by decide +kernel
theorem dX5_idleBy_50 : decode cX5_idleBy 50 = .ok (.aload_n 0, 1) := by decide +kernel
theorem dX5_idleBy_51 : decode cX5_idleBy 51 = .ok (.invokevirtual 61, 3) := by decide +kernel
theorem dX5_idleBy_54 : decode cX5_idleBy 54 = .ok (.if_icmp .gt 34, 3) := by decide +kernel
theorem dX5_idleBy_57 : decode cX5_idleBy 57 = .ok (.aload_n 0, 1) := by decide +kernel
theorem dX5_idleBy_58 : decode cX5_idleBy 58 = .ok (.aload_n 1, 1) := by decide +kernel
theorem dX5_idleBy_59 : decode cX5_idleBy 59 = .ok (.iload 6, 2) := by decide +kernel
theorem dX5_idleBy_61 : decode cX5_idleBy 61 = .ok (.invokevirtual 64, 3) := by decide +kernel
theorem dX5_idleBy_64 : decode cX5_idleBy 64 = .ok (.lload_n 2, 1) := by decide +kernel
theorem dX5_idleBy_65 : decode cX5_idleBy 65 = .ok (.lmul, 1) := by decide +kernel
theorem dX5_idleBy_66 : decode cX5_idleBy 66 = .ok (.lload 4, 2) := by decide +kernel
theorem dX5_idleBy_68 : decode cX5_idleBy 68 = .ok (.aload_n 0, 1) := by decide +kernel
theorem dX5_idleBy_69 : decode cX5_idleBy 69 = .ok (.iload 6, 2) := by decide +kernel
theorem dX5_idleBy_71 : decode cX5_idleBy 71 = .ok (.invokevirtual 68, 3) := by decide +kernel
theorem dX5_idleBy_74 : decode cX5_idleBy 74 = .ok (.lmul, 1) := by decide +kernel
theorem dX5_idleBy_75 : decode cX5_idleBy 75 = .ok (.lcmp, 1) := by decide +kernel
theorem dX5_idleBy_76 : decode cX5_idleBy 76 = .ok (.ifCond .le 6, 3) := by decide +kernel
theorem dX5_idleBy_79 : decode cX5_idleBy 79 = .ok (.iload 6, 2) := by decide +kernel
theorem dX5_idleBy_81 : decode cX5_idleBy 81 = .ok (.ireturn, 1) := by decide +kernel
theorem dX5_idleBy_82 : decode cX5_idleBy 82 = .ok (.iinc 6 1, 3) := by decide +kernel
theorem dX5_idleBy_85 : decode cX5_idleBy 85 = .ok (.goto (-37), 3) := by decide +kernel
theorem dX5_idleBy_88 : decode cX5_idleBy 88 = .ok (.iconst 0, 1) := by decide +kernel
theorem dX5_idleBy_89 : decode cX5_idleBy 89 = .ok (.ireturn, 1) := by decide +kernel
theorem dX5_incomeOf_0 : decode cX5_incomeOf 0 = .ok (.lconst 0, 1) := by decide +kernel
theorem dX5_incomeOf_1 : decode cX5_incomeOf 1 = .ok (.lstore_n 3, 1) := by decide +kernel
theorem dX5_incomeOf_2 : decode cX5_incomeOf 2 = .ok (.iconst 0, 1) := by decide +kernel
theorem dX5_incomeOf_3 : decode cX5_incomeOf 3 = .ok (.istore 5, 2) := by decide +kernel
theorem dX5_incomeOf_5 : decode cX5_incomeOf 5 = .ok (.iload 5, 2) := by decide +kernel
theorem dX5_incomeOf_7 : decode cX5_incomeOf 7 = .ok (.aload_n 0, 1) := by decide +kernel
theorem dX5_incomeOf_8 : decode cX5_incomeOf 8 = .ok (.getfield 9, 3) := by decide +kernel
theorem dX5_incomeOf_11 : decode cX5_incomeOf 11 = .ok (.if_icmp .ge 34, 3) := by decide +kernel
theorem dX5_incomeOf_14 : decode cX5_incomeOf 14 = .ok (.iload_n 2, 1) := by decide +kernel
theorem dX5_incomeOf_15 : decode cX5_incomeOf 15 = .ok (.iload 5, 2) := by decide +kernel
theorem dX5_incomeOf_17 : decode cX5_incomeOf 17 = .ok (.ishr, 1) := by decide +kernel
theorem dX5_incomeOf_18 : decode cX5_incomeOf 18 = .ok (.iconst 1, 1) := by decide +kernel
theorem dX5_incomeOf_19 : decode cX5_incomeOf 19 = .ok (.iand, 1) := by decide +kernel
theorem dX5_incomeOf_20 : decode cX5_incomeOf 20 = .ok (.ifCond .eq 19, 3) := by decide +kernel
theorem dX5_incomeOf_23 : decode cX5_incomeOf 23 = .ok (.lload_n 3, 1) := by decide +kernel
theorem dX5_incomeOf_24 : decode cX5_incomeOf 24 = .ok (.aload_n 0, 1) := by decide +kernel
theorem dX5_incomeOf_25 : decode cX5_incomeOf 25 = .ok (.getfield 22, 3) := by decide +kernel
theorem dX5_incomeOf_28 : decode cX5_incomeOf 28 = .ok (.iload 5, 2) := by decide +kernel
theorem dX5_incomeOf_30 : decode cX5_incomeOf 30 = .ok (.iaload, 1) := by decide +kernel
theorem dX5_incomeOf_31 : decode cX5_incomeOf 31 = .ok (.i2l, 1) := by decide +kernel
theorem dX5_incomeOf_32 : decode cX5_incomeOf 32 = .ok (.aload_n 1, 1) := by decide +kernel
theorem dX5_incomeOf_33 : decode cX5_incomeOf 33 = .ok (.iload 5, 2) := by decide +kernel
theorem dX5_incomeOf_35 : decode cX5_incomeOf 35 = .ok (.laload, 1) := by decide +kernel
theorem dX5_incomeOf_36 : decode cX5_incomeOf 36 = .ok (.lmul, 1) := by decide +kernel
theorem dX5_incomeOf_37 : decode cX5_incomeOf 37 = .ok (.ladd, 1) := by decide +kernel
theorem dX5_incomeOf_38 : decode cX5_incomeOf 38 = .ok (.lstore_n 3, 1) := by decide +kernel
theorem dX5_incomeOf_39 : decode cX5_incomeOf 39 = .ok (.iinc 5 1, 3) := by decide +kernel
theorem dX5_incomeOf_42 : decode cX5_incomeOf 42 = .ok (.goto (-37), 3) := by decide +kernel
theorem dX5_incomeOf_45 : decode cX5_incomeOf 45 = .ok (.lload_n 3, 1) := by decide +kernel
theorem dX5_incomeOf_46 : decode cX5_incomeOf 46 = .ok (.lreturn, 1) := by decide +kernel
theorem dX5_sharesFor_0 : decode cX5_sharesFor 0 = .ok (.lconst 0, 1) := by decide +kernel
theorem dX5_sharesFor_1 : decode cX5_sharesFor 1 = .ok (.lstore_n 2, 1) := by decide +kernel
theorem dX5_sharesFor_2 : decode cX5_sharesFor 2 = .ok (.iconst 0, 1) := by decide +kernel
theorem dX5_sharesFor_3 : decode cX5_sharesFor 3 = .ok (.istore 4, 2) := by decide +kernel
theorem dX5_sharesFor_5 : decode cX5_sharesFor 5 = .ok (.iload 4, 2) := by decide +kernel
theorem dX5_sharesFor_7 : decode cX5_sharesFor 7 = .ok (.aload_n 0, 1) := by decide +kernel
theorem dX5_sharesFor_8 : decode cX5_sharesFor 8 = .ok (.getfield 15, 3) := by decide +kernel
theorem dX5_sharesFor_11 : decode cX5_sharesFor 11 = .ok (.if_icmp .ge 32, 3) := by decide +kernel
theorem dX5_sharesFor_14 : decode cX5_sharesFor 14 = .ok (.aload_n 0, 1) := by decide +kernel
theorem dX5_sharesFor_15 : decode cX5_sharesFor 15 = .ok (.getfield 34, 3) := by decide +kernel
theorem dX5_sharesFor_18 : decode cX5_sharesFor 18 = .ok (.iload 4, 2) := by decide +kernel
theorem dX5_sharesFor_20 : decode cX5_sharesFor 20 = .ok (.iaload, 1) := by decide +kernel
theorem dX5_sharesFor_21 : decode cX5_sharesFor 21 = .ok (.iload_n 1, 1) := by decide +kernel
theorem dX5_sharesFor_22 : decode cX5_sharesFor 22 = .ok (.iand, 1) := by decide +kernel
theorem dX5_sharesFor_23 : decode cX5_sharesFor 23 = .ok (.ifCond .eq 14, 3) := by decide +kernel
theorem dX5_sharesFor_26 : decode cX5_sharesFor 26 = .ok (.lload_n 2, 1) := by decide +kernel
theorem dX5_sharesFor_27 : decode cX5_sharesFor 27 = .ok (.aload_n 0, 1) := by decide +kernel
theorem dX5_sharesFor_28 : decode cX5_sharesFor 28 = .ok (.getfield 18, 3) := by decide +kernel
theorem dX5_sharesFor_31 : decode cX5_sharesFor 31 = .ok (.iload 4, 2) := by decide +kernel
theorem dX5_sharesFor_33 : decode cX5_sharesFor 33 = .ok (.iaload, 1) := by decide +kernel
theorem dX5_sharesFor_34 : decode cX5_sharesFor 34 = .ok (.i2l, 1) := by decide +kernel
theorem dX5_sharesFor_35 : decode cX5_sharesFor 35 = .ok (.ladd, 1) := by decide +kernel
theorem dX5_sharesFor_36 : decode cX5_sharesFor 36 = .ok (.lstore_n 2, 1) := by decide +kernel
theorem dX5_sharesFor_37 : decode cX5_sharesFor 37 = .ok (.iinc 4 1, 3) := by decide +kernel
theorem dX5_sharesFor_40 : decode cX5_sharesFor 40 = .ok (.goto (-35), 3) := by decide +kernel
theorem dX5_sharesFor_43 : decode cX5_sharesFor 43 = .ok (.lload_n 2, 1) := by decide +kernel
theorem dX5_sharesFor_44 : decode cX5_sharesFor 44 = .ok (.lreturn, 1) := by decide +kernel
