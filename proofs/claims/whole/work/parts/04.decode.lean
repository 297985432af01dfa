theorem dX6_init_0 : decode cX6_init 0 = .ok (.aload_n 0, 1) := by decide +kernel
theorem dX6_init_1 : decode cX6_init 1 = .ok (.invokespecial 3, 3) := by decide +kernel
theorem dX6_init_4 : decode cX6_init 4 = .ok (.aload_n 0, 1) := by decide +kernel
theorem dX6_init_5 : decode cX6_init 5 = .ok (.new 9, 3) := by decide +kernel
theorem dX6_init_8 : decode cX6_init 8 = .ok (.dup, 1) := by decide +kernel
theorem dX6_init_9 : decode cX6_init 9 = .ok (.invokespecial 11, 3) := by decide +kernel
theorem dX6_init_12 : decode cX6_init 12 = .ok (.putfield 12, 3) := by decide +kernel
theorem dX6_init_15 : decode cX6_init 15 = .ok (.aload_n 0, 1) := by decide +kernel
theorem dX6_init_16 : decode cX6_init 16 = .ok (.new 16, 3) := by decide +kernel
theorem dX6_init_19 : decode cX6_init 19 = .ok (.dup, 1) := by decide +kernel
theorem dX6_init_20 : decode cX6_init 20 = .ok (.invokespecial 18, 3) := by decide +kernel
theorem dX6_init_23 : decode cX6_init 23 = .ok (.putfield 19, 3) := by decide +kernel
theorem dX6_init_26 : decode cX6_init 26 = .ok (.aload_n 0, 1) := by decide +kernel
theorem dX6_init_27 : decode cX6_init 27 = .ok (.new 23, 3) := by decide +kernel
theorem dX6_init_30 : decode cX6_init 30 = .ok (.dup, 1) := by decide +kernel
theorem dX6_init_31 : decode cX6_init 31 = .ok (.invokespecial 25, 3) := by decide +kernel
theorem dX6_init_34 : decode cX6_init 34 = .ok (.putfield 26, 3) := by decide +kernel
theorem dX6_init_37 : decode cX6_init 37 = .ok (.aload_n 0, 1) := by decide +kernel
theorem dX6_init_38 : decode cX6_init 38 = .ok (.new 30, 3) := by decide +kernel
theorem dX6_init_41 : decode cX6_init 41 = .ok (.dup, 1) := by decide +kernel
theorem dX6_init_42 : decode cX6_init 42 = .ok (.invokespecial 32, 3) := by decide +kernel
theorem dX6_init_45 : decode cX6_init 45 = .ok (.putfield 33, 3) := by decide +kernel
theorem dX6_init_48 : decode cX6_init 48 = .ok (.aload_n 0, 1) := by decide +kernel
theorem dX6_init_49 : decode cX6_init 49 = .ok (.new 37, 3) := by decide +kernel
theorem dX6_init_52 : decode cX6_init 52 = .ok (.dup, 1) := by decide +kernel
theorem dX6_init_53 : decode cX6_init 53 = .ok (.invokespecial 39, 3) := by decide +kernel
theorem dX6_init_56 : decode cX6_init 56 = .ok (.putfield 40, 3) := by decide +kernel
theorem dX6_init_59 : decode cX6_init 59 = .ok (.aload_n 0, 1) := by decide +kernel
theorem dX6_init_60 : decode cX6_init 60 = .ok (.new 44, 3) := by decide +kernel
theorem dX6_init_63 : decode cX6_init 63 = .ok (.dup, 1) := by decide +kernel
theorem dX6_init_64 : decode cX6_init 64 = .ok (.invokespecial 46, 3) := by decide +kernel
theorem dX6_init_67 : decode cX6_init 67 = .ok (.putfield 47, 3) := by decide +kernel
theorem dX6_init_70 : decode cX6_init 70 = .ok (.aload_n 0, 1) := by decide +kernel
theorem dX6_init_71 : decode cX6_init 71 = .ok (.new 44, 3) := by decide +kernel
theorem dX6_init_74 : decode cX6_init 74 = .ok (.dup, 1) := by decide +kernel
theorem dX6_init_75 : decode cX6_init 75 = .ok (.invokespecial 46, 3) := by decide +kernel
theorem dX6_init_78 : decode cX6_init 78 = .ok (.putfield 51, 3) := by decide +kernel
theorem dX6_init_81 : decode cX6_init 81 = .ok (.aload_n 0, 1) := by decide +kernel
theorem dX6_init_82 : decode cX6_init 82 = .ok (.new 44, 3) := by decide +kernel
theorem dX6_init_85 : decode cX6_init 85 = .ok (.dup, 1) := by decide +kernel
theorem dX6_init_86 : decode cX6_init 86 = .ok (.invokespecial 46, 3) := by decide +kernel
theorem dX6_init_89 : decode cX6_init 89 = .ok (.putfield 54, 3) := by decide +kernel
theorem dX6_init_92 : decode cX6_init 92 = .ok (.aload_n 0, 1) := by decide +kernel
theorem dX6_init_93 : decode cX6_init 93 = .ok (.iconst 3, 1) := by decide +kernel
theorem dX6_init_94 : decode cX6_init 94 = .ok (.newarray .long, 2) := by decide +kernel
theorem dX6_init_96 : decode cX6_init 96 = .ok (.putfield 57, 3) := by decide +kernel
theorem dX6_init_99 : decode cX6_init 99 = .ok (.aload_n 0, 1) := by decide +kernel
theorem dX6_init_100 : decode cX6_init 100 = .ok (.bipush 6, 2) := by decide +kernel
theorem dX6_init_102 : decode cX6_init 102 = .ok (.newarray .int, 2) := by decide +kernel
theorem dX6_init_104 : decode cX6_init 104 = .ok (.putfield 61, 3) := by decide +kernel
theorem dX6_init_107 : decode cX6_init 107 = .ok (.aload_n 0, 1) := by decide +kernel
theorem dX6_init_108 : decode cX6_init 108 = .ok (.iconst 0, 1) := by decide +kernel
theorem dX6_init_109 : decode cX6_init 109 = .ok (.putfield 65, 3) := by decide +kernel
theorem dX6_init_112 : decode cX6_init 112 = .ok (.aload_n 0, 1) := by decide +kernel
theorem dX6_init_113 : decode cX6_init 113 = .ok (.iconst 0, 1) := by decide +kernel
theorem dX6_init_114 : decode cX6_init 114 = .ok (.putfield 69, 3) := by decide +kernel
theorem dX6_init_117 : decode cX6_init 117 = .ok (.return_, 1) := by decide +kernel
theorem dX6_row_0 : decode cX6_row 0 = .ok (.iload_n 1, 1) := by decide +kernel
theorem dX6_row_1 : decode cX6_row 1 = .ok (.invokestatic 73, 3) := by decide +kernel
theorem dX6_row_4 : decode cX6_row 4 = .ok (.ifCond .eq 16, 3) := by decide +kernel
theorem dX6_row_7 : decode cX6_row 7 = .ok (.iload_n 2, 1) := by decide +kernel
theorem dX6_row_8 : decode cX6_row 8 = .ok (.invokestatic 77, 3) := by decide +kernel
theorem dX6_row_11 : decode cX6_row 11 = .ok (.ifCond .eq 9, 3) := by decide +kernel
theorem dX6_row_14 : decode cX6_row 14 = .ok (.iload_n 3, 1) := by decide +kernel
theorem dX6_row_15 : decode cX6_row 15 = .ok (.bipush 40, 2) := by decide +kernel
theorem dX6_row_17 : decode cX6_row 17 = .ok (.if_icmp .le 7, 3) := by decide +kernel
theorem dX6_row_20 : decode cX6_row 20 = .ok (.ldc2_w 80, 3) := by decide +kernel
theorem dX6_row_23 : decode cX6_row 23 = .ok (.lreturn, 1) := by decide +kernel
theorem dX6_row_24 : decode cX6_row 24 = .ok (.iload_n 3, 1) := by decide +kernel
theorem dX6_row_25 : decode cX6_row 25 = .ok (.ifCond .ge 9, 3) := by decide +kernel
theorem dX6_row_28 : decode cX6_row 28 = .ok (.aload_n 0, 1) := by decide +kernel
theorem dX6_row_29 : decode cX6_row 29 = .ok (.iconst 4, 1) := by decide +kernel
theorem dX6_row_30 : decode cX6_row 30 = .ok (.invokevirtual 82, 3) := by decide +kernel
theorem dX6_row_33 : decode cX6_row 33 = .ok (.lreturn, 1) := by decide +kernel
theorem dX6_row_34 : decode cX6_row 34 = .ok (.aload_n 0, 1) := by decide +kernel
theorem dX6_row_35 : decode cX6_row 35 = .ok (.getfield 12, 3) := by decide +kernel
theorem dX6_row_38 : decode cX6_row 38 = .ok (.iload_n 1, 1) := by decide +kernel
theorem dX6_row_39 : decode cX6_row 39 = .ok (.iload_n 2, 1) := by decide +kernel
theorem dX6_row_40 : decode cX6_row 40 = .ok (.iload_n 3, 1) := by decide +kernel
theorem dX6_row_41 : decode cX6_row 41 = .ok (.invokevirtual 86, 3) := by decide +kernel
theorem dX6_row_44 : decode cX6_row 44 = .ok (.aload_n 0, 1) := by decide +kernel
theorem dX6_row_45 : decode cX6_row 45 = .ok (.iload_n 3, 1) := by decide +kernel
theorem dX6_row_46 : decode cX6_row 46 = .ok (.i2l, 1) := by decide +kernel
theorem dX6_row_47 : decode cX6_row 47 = .ok (.invokevirtual 90, 3) := by decide +kernel
theorem dX6_row_50 : decode cX6_row 50 = .ok (.lreturn, 1) := by decide +kernel
theorem dX6_set_0 : decode cX6_set 0 = .ok (.iload_n 1, 1) := by decide +kernel
theorem dX6_set_1 : decode cX6_set 1 = .ok (.invokestatic 73, 3) := by decide +kernel
theorem dX6_set_4 : decode cX6_set 4 = .ok (.ifCond .ne 7, 3) := by decide +kernel
theorem dX6_set_7 : decode cX6_set 7 = .ok (.ldc2_w 80, 3) := by decide +kernel
theorem dX6_set_10 : decode cX6_set 10 = .ok (.lreturn, 1) := by decide +kernel
theorem dX6_set_11 : decode cX6_set 11 = .ok (.aload_n 0, 1) := by decide +kernel
theorem dX6_set_12 : decode cX6_set 12 = .ok (.getfield 12, 3) := by decide +kernel
theorem dX6_set_15 : decode cX6_set 15 = .ok (.iload_n 1, 1) := by decide +kernel
theorem dX6_set_16 : decode cX6_set 16 = .ok (.invokevirtual 94, 3) := by decide +kernel
theorem dX6_set_19 : decode cX6_set 19 = .ok (.ifCond .eq 9, 3) := by decide +kernel
theorem dX6_set_22 : decode cX6_set 22 = .ok (.aload_n 0, 1) := by decide +kernel
theorem dX6_set_23 : decode cX6_set 23 = .ok (.iconst 1, 1) := by decide +kernel
theorem dX6_set_24 : decode cX6_set 24 = .ok (.invokevirtual 82, 3) := by decide +kernel
theorem dX6_set_27 : decode cX6_set 27 = .ok (.lreturn, 1) := by decide +kernel
theorem dX6_set_28 : decode cX6_set 28 = .ok (.aload_n 0, 1) := by decide +kernel
theorem dX6_set_29 : decode cX6_set 29 = .ok (.getfield 12, 3) := by decide +kernel
theorem dX6_set_32 : decode cX6_set 32 = .ok (.iload_n 1, 1) := by decide +kernel
theorem dX6_set_33 : decode cX6_set 33 = .ok (.iload_n 2, 1) := by decide +kernel
theorem dX6_set_34 : decode cX6_set 34 = .ok (.iconst 1, 1) := by decide +kernel
theorem dX6_set_35 : decode cX6_set 35 = .ok (.invokevirtual 97, 3) := by decide +kernel
theorem dX6_set_38 : decode cX6_set 38 = .ok (.ifCond .ne 9, 3) := by decide +kernel
theorem dX6_set_41 : decode cX6_set 41 = .ok (.aload_n 0, 1) := by decide +kernel
theorem dX6_set_42 : decode cX6_set 42 = .ok (.iconst 2, 1) := by decide +kernel
theorem dX6_set_43 : decode cX6_set 43 = .ok (.invokevirtual 82, 3) := by decide +kernel
theorem dX6_set_46 : decode cX6_set 46 = .ok (.lreturn, 1) := by decide +kernel
theorem dX6_set_47 : decode cX6_set 47 = .ok (.aload_n 0, 1) := by decide +kernel
theorem dX6_set_48 : decode cX6_set 48 = .ok (.aload_n 0, 1) := by decide +kernel
theorem dX6_set_49 : decode cX6_set 49 = .ok (.getfield 12, 3) := by decide +kernel
theorem dX6_set_52 : decode cX6_set 52 = .ok (.iload_n 1, 1) := by decide +kernel
theorem dX6_set_53 : decode cX6_set 53 = .ok (.iload_n 2, 1) := by decide +kernel
theorem dX6_set_54 : decode cX6_set 54 = .ok (.iload_n 3, 1) := by decide +kernel
theorem dX6_set_55 : decode cX6_set 55 = .ok (.invokevirtual 101, 3) := by decide +kernel
theorem dX6_set_58 : decode cX6_set 58 = .ok (.i2l, 1) := by decide +kernel
theorem dX6_set_59 : decode cX6_set 59 = .ok (.invokevirtual 90, 3) := by decide +kernel
theorem dX6_set_62 : decode cX6_set 62 = .ok (.lreturn, 1) := by decide +kernel
theorem dX6_copy_0 : decode cX6_copy 0 = .ok (.iload_n 1, 1) := by decide +kernel
theorem dX6_copy_1 : decode cX6_copy 1 = .ok (.invokestatic 73, 3) := by decide +kernel
theorem dX6_copy_4 : decode cX6_copy 4 = .ok (.ifCond .eq 10, 3) := by decide +kernel
theorem dX6_copy_7 : decode cX6_copy 7 = .ok (.iload_n 3, 1) := by decide +kernel
theorem dX6_copy_8 : decode cX6_copy 8 = .ok (.invokestatic 73, 3) := by decide +kernel
theorem dX6_copy_11 : decode cX6_copy 11 = .ok (.ifCond .ne 7, 3) := by decide +kernel
theorem dX6_copy_14 : decode cX6_copy 14 = .ok (.ldc2_w 80, 3) := by decide +kernel
theorem dX6_copy_17 : decode cX6_copy 17 = .ok (.lreturn, 1) := by decide +kernel
theorem dX6_copy_18 : decode cX6_copy 18 = .ok (.aload_n 0, 1) := by decide +kernel
theorem dX6_copy_19 : decode cX6_copy 19 = .ok (.getfield 12, 3) := by decide +kernel
theorem dX6_copy_22 : decode cX6_copy 22 = .ok (.iload_n 1, 1) := by decide +kernel
theorem dX6_copy_23 : decode cX6_copy 23 = .ok (.invokevirtual 94, 3) := by decide +kernel
theorem dX6_copy_26 : decode cX6_copy 26 = .ok (.ifCond .ne 14, 3) := by decide +kernel
theorem dX6_copy_29 : decode cX6_copy 29 = .ok (.aload_n 0, 1) := by decide +kernel
theorem dX6_copy_30 : decode cX6_copy 30 = .ok (.getfield 12, 3) := by decide +kernel
theorem dX6_copy_33 : decode cX6_copy 33 = .ok (.iload_n 3, 1) := by decide +kernel
theorem dX6_copy_34 : decode cX6_copy 34 = .ok (.invokevirtual 94, 3) := by decide +kernel
theorem dX6_copy_37 : decode cX6_copy 37 = .ok (.ifCond .eq 9, 3) := by decide +kernel
theorem dX6_copy_40 : decode cX6_copy 40 = .ok (.aload_n 0, 1) := by decide +kernel
theorem dX6_copy_41 : decode cX6_copy 41 = .ok (.iconst 1, 1) := by decide +kernel
theorem dX6_copy_42 : decode cX6_copy 42 = .ok (.invokevirtual 82, 3) := by decide +kernel
theorem dX6_copy_45 : decode cX6_copy 45 = .ok (.lreturn, 1) := by decide +kernel
theorem dX6_copy_46 : decode cX6_copy 46 = .ok (.aload_n 0, 1) := by decide +kernel
theorem dX6_copy_47 : decode cX6_copy 47 = .ok (.getfield 12, 3) := by decide +kernel
theorem dX6_copy_50 : decode cX6_copy 50 = .ok (.iload_n 1, 1) := by decide +kernel
theorem dX6_copy_51 : decode cX6_copy 51 = .ok (.iload_n 3, 1) := by decide +kernel
theorem dX6_copy_52 : decode cX6_copy 52 = .ok (.invokevirtual 105, 3) := by decide +kernel
theorem dX6_copy_55 : decode cX6_copy 55 = .ok (.ifCond .ne 9, 3) := by decide +kernel
theorem dX6_copy_58 : decode cX6_copy 58 = .ok (.aload_n 0, 1) := by decide +kernel
theorem dX6_copy_59 : decode cX6_copy 59 = .ok (.iconst 5, 1) := by decide +kernel
theorem dX6_copy_60 : decode cX6_copy 60 = .ok (.invokevirtual 82, 3) := by decide +kernel
theorem dX6_copy_63 : decode cX6_copy 63 = .ok (.lreturn, 1) := by decide +kernel
theorem dX6_copy_64 : decode cX6_copy 64 = .ok (.aload_n 0, 1) := by decide +kernel
theorem dX6_copy_65 : decode cX6_copy 65 = .ok (.getfield 12, 3) := by decide +kernel
theorem dX6_copy_68 : decode cX6_copy 68 = .ok (.iload_n 1, 1) := by decide +kernel
theorem dX6_copy_69 : decode cX6_copy 69 = .ok (.iload_n 2, 1) := by decide +kernel
theorem dX6_copy_70 : decode cX6_copy 70 = .ok (.iload 5, 2) := by decide +kernel
theorem dX6_copy_72 : decode cX6_copy 72 = .ok (.invokevirtual 97, 3) := by decide +kernel
theorem dX6_copy_75 : decode cX6_copy 75 = .ok (.ifCond .eq 18, 3) := by decide +kernel
theorem dX6_copy_78 : decode cX6_copy 78 = .ok (.aload_n 0, 1) := by decide +kernel
theorem dX6_copy_79 : decode cX6_copy 79 = .ok (.getfield 12, 3) := by decide +kernel
theorem dX6_copy_82 : decode cX6_copy 82 = .ok (.iload_n 3, 1) := by decide +kernel
theorem dX6_copy_83 : decode cX6_copy 83 = .ok (.iload 4, 2) := by decide +kernel
theorem dX6_copy_85 : decode cX6_copy 85 = .ok (.iload 5, 2) := by decide +kernel
theorem dX6_copy_87 : decode cX6_copy 87 = .ok (.invokevirtual 97, 3) := by decide +kernel
theorem dX6_copy_90 : decode cX6_copy 90 = .ok (.ifCond .ne 9, 3) := by decide +kernel
theorem dX6_copy_93 : decode cX6_copy 93 = .ok (.aload_n 0, 1) := by decide +kernel
theorem dX6_copy_94 : decode cX6_copy 94 = .ok (.iconst 2, 1) := by decide +kernel
theorem dX6_copy_95 : decode cX6_copy 95 = .ok (.invokevirtual 82, 3) := by decide +kernel
theorem dX6_copy_98 : decode cX6_copy 98 = .ok (.lreturn, 1) := by decide +kernel
theorem dX6_copy_99 : decode cX6_copy 99 = .ok (.aload_n 0, 1) := by decide +kernel
theorem dX6_copy_100 : decode cX6_copy 100 = .ok (.getfield 12, 3) := by decide +kernel
theorem dX6_copy_103 : decode cX6_copy 103 = .ok (.iload_n 1, 1) := by decide +kernel
theorem dX6_copy_104 : decode cX6_copy 104 = .ok (.iload_n 2, 1) := by decide +kernel
theorem dX6_copy_105 : decode cX6_copy 105 = .ok (.iload_n 3, 1) := by decide +kernel
theorem dX6_copy_106 : decode cX6_copy 106 = .ok (.iload 4, 2) := by decide +kernel
theorem dX6_copy_108 : decode cX6_copy 108 = .ok (.iload 5, 2) := by decide +kernel
theorem dX6_copy_110 : decode cX6_copy 110 = .ok (.invokevirtual 109, 3) := by decide +kernel
theorem dX6_copy_113 : decode cX6_copy 113 = .ok (.aload_n 0, 1) := by decide +kernel
theorem dX6_copy_114 : decode cX6_copy 114 = .ok (.iload 5, 2) := by decide +kernel
theorem dX6_copy_116 : decode cX6_copy 116 = .ok (.i2l, 1) := by decide +kernel
theorem dX6_copy_117 : decode cX6_copy 117 = .ok (.invokevirtual 90, 3) := by decide +kernel
theorem dX6_copy_120 : decode cX6_copy 120 = .ok (.lreturn, 1) := by decide +kernel
theorem dX6_drop_0 : decode cX6_drop 0 = .ok (.iload_n 1, 1) := by decide +kernel
theorem dX6_drop_1 : decode cX6_drop 1 = .ok (.invokestatic 73, 3) := by decide +kernel
theorem dX6_drop_4 : decode cX6_drop 4 = .ok (.ifCond .ne 7, 3) := by decide +kernel
theorem dX6_drop_7 : decode cX6_drop 7 = .ok (.ldc2_w 80, 3) := by decide +kernel
theorem dX6_drop_10 : decode cX6_drop 10 = .ok (.lreturn, 1) := by decide +kernel
theorem dX6_drop_11 : decode cX6_drop 11 = .ok (.aload_n 0, 1) := by decide +kernel
theorem dX6_drop_12 : decode cX6_drop 12 = .ok (.getfield 12, 3) := by decide +kernel
theorem dX6_drop_15 : decode cX6_drop 15 = .ok (.iload_n 1, 1) := by decide +kernel
theorem dX6_drop_16 : decode cX6_drop 16 = .ok (.invokevirtual 94, 3) := by decide +kernel
theorem dX6_drop_19 : decode cX6_drop 19 = .ok (.ifCond .eq 9, 3) := by decide +kernel
theorem dX6_drop_22 : decode cX6_drop 22 = .ok (.aload_n 0, 1) := by decide +kernel
theorem dX6_drop_23 : decode cX6_drop 23 = .ok (.iconst 1, 1) := by decide +kernel
theorem dX6_drop_24 : decode cX6_drop 24 = .ok (.invokevirtual 82, 3) := by decide +kernel
theorem dX6_drop_27 : decode cX6_drop 27 = .ok (.lreturn, 1) := by decide +kernel
theorem dX6_drop_28 : decode cX6_drop 28 = .ok (.aload_n 0, 1) := by decide +kernel
theorem dX6_drop_29 : decode cX6_drop 29 = .ok (.aload_n 0, 1) := by decide +kernel
theorem dX6_drop_30 : decode cX6_drop 30 = .ok (.getfield 12, 3) := by decide +kernel
theorem dX6_drop_33 : decode cX6_drop 33 = .ok (.iload_n 1, 1) := by decide +kernel
theorem dX6_drop_34 : decode cX6_drop 34 = .ok (.invokevirtual 113, 3) := by decide +kernel
theorem dX6_drop_37 : decode cX6_drop 37 = .ok (.i2l, 1) := by decide +kernel
theorem dX6_drop_38 : decode cX6_drop 38 = .ok (.invokevirtual 90, 3) := by decide +kernel
theorem dX6_drop_41 : decode cX6_drop 41 = .ok (.lreturn, 1) := by decide +kernel
theorem dX6_feed_0 : decode cX6_feed 0 = .ok (.iload_n 3, 1) := by decide +kernel
theorem dX6_feed_1 : decode cX6_feed 1 = .ok (.iconst 1, 1) := by decide +kernel
theorem dX6_feed_2 : decode cX6_feed 2 = .ok (.if_icmp .lt 9, 3) := by decide +kernel
theorem dX6_feed_5 : decode cX6_feed 5 = .ok (.iload_n 3, 1) := by decide +kernel
theorem dX6_feed_6 : decode cX6_feed 6 = .ok (.bipush 8, 2) := by decide +kernel
theorem dX6_feed_8 : decode cX6_feed 8 = .ok (.if_icmp .le 7, 3) := by decide +kernel
theorem dX6_feed_11 : decode cX6_feed 11 = .ok (.ldc2_w 80, 3) := by decide +kernel
theorem dX6_feed_14 : decode cX6_feed 14 = .ok (.lreturn, 1) := by decide +kernel
theorem dX6_feed_15 : decode cX6_feed 15 = .ok (.aload_n 0, 1) := by decide +kernel
theorem dX6_feed_16 : decode cX6_feed 16 = .ok (.getfield 19, 3) := by decide +kernel
theorem dX6_feed_19 : decode cX6_feed 19 = .ok (.iload_n 3, 1) := by decide +kernel
theorem dX6_feed_20 : decode cX6_feed 20 = .ok (.invokevirtual 117, 3) := by decide +kernel
theorem dX6_feed_23 : decode cX6_feed 23 = .ok (.ifCond .ne 7, 3) := by decide +kernel
theorem dX6_feed_26 : decode cX6_feed 26 = .ok (.ldc2_w 120, 3) := by decide +kernel
theorem dX6_feed_29 : decode cX6_feed 29 = .ok (.lreturn, 1) := by decide +kernel
theorem dX6_feed_30 : decode cX6_feed 30 = .ok (.aload_n 0, 1) := by decide +kernel
theorem dX6_feed_31 : decode cX6_feed 31 = .ok (.getfield 19, 3) := by decide +kernel
theorem dX6_feed_34 : decode cX6_feed 34 = .ok (.lload_n 1, 1) := by decide +kernel
theorem dX6_feed_35 : decode cX6_feed 35 = .ok (.iload_n 3, 1) := by decide +kernel
theorem dX6_feed_36 : decode cX6_feed 36 = .ok (.invokevirtual 122, 3) := by decide +kernel
theorem dX6_feed_39 : decode cX6_feed 39 = .ok (.i2l, 1) := by decide +kernel
theorem dX6_feed_40 : decode cX6_feed 40 = .ok (.lreturn, 1) := by decide +kernel
theorem dX6_world_0 : decode cX6_world 0 = .ok (.aload_n 0, 1) := by decide +kernel
theorem dX6_world_1 : decode cX6_world 1 = .ok (.getfield 19, 3) := by decide +kernel
theorem dX6_world_4 : decode cX6_world 4 = .ok (.aload_n 0, 1) := by decide +kernel
theorem dX6_world_5 : decode cX6_world 5 = .ok (.getfield 54, 3) := by decide +kernel
theorem dX6_world_8 : decode cX6_world 8 = .ok (.invokevirtual 126, 3) := by decide +kernel
theorem dX6_world_11 : decode cX6_world 11 = .ok (.istore_n 1, 1) := by decide +kernel
theorem dX6_world_12 : decode cX6_world 12 = .ok (.aload_n 0, 1) := by decide +kernel
theorem dX6_world_13 : decode cX6_world 13 = .ok (.getfield 19, 3) := by decide +kernel
theorem dX6_world_16 : decode cX6_world 16 = .ok (.invokevirtual 130, 3) := by decide +kernel
theorem dX6_world_19 : decode cX6_world 19 = .ok (.iload_n 1, 1) := by decide +kernel
theorem dX6_world_20 : decode cX6_world 20 = .ok (.ifCond .ne 16, 3) := by decide +kernel
theorem dX6_world_23 : decode cX6_world 23 = .ok (.ldc2_w 133, 3) := by decide +kernel
theorem dX6_world_26 : decode cX6_world 26 = .ok (.aload_n 0, 1) := by decide +kernel
theorem dX6_world_27 : decode cX6_world 27 = .ok (.getfield 19, 3) := by decide +kernel
theorem dX6_world_30 : decode cX6_world 30 = .ok (.getfield 135, 3) := by decide +kernel
theorem dX6_world_33 : decode cX6_world 33 = .ok (.i2l, 1) := by decide +kernel
theorem dX6_world_34 : decode cX6_world 34 = .ok (.lsub, 1) := by decide +kernel
theorem dX6_world_35 : decode cX6_world 35 = .ok (.lreturn, 1) := by decide +kernel
theorem dX6_world_36 : decode cX6_world 36 = .ok (.aload_n 0, 1) := by decide +kernel
theorem dX6_world_37 : decode cX6_world 37 = .ok (.getfield 33, 3) := by decide +kernel
theorem dX6_world_40 : decode cX6_world 40 = .ok (.aload_n 0, 1) := by decide +kernel
theorem dX6_world_41 : decode cX6_world 41 = .ok (.getfield 54, 3) := by decide +kernel
theorem dX6_world_44 : decode cX6_world 44 = .ok (.invokevirtual 138, 3) := by decide +kernel
theorem dX6_world_47 : decode cX6_world 47 = .ok (.aload_n 0, 1) := by decide +kernel
theorem dX6_world_48 : decode cX6_world 48 = .ok (.getfield 47, 3) := by decide +kernel
theorem dX6_world_51 : decode cX6_world 51 = .ok (.aload_n 0, 1) := by decide +kernel
theorem dX6_world_52 : decode cX6_world 52 = .ok (.getfield 54, 3) := by decide +kernel
theorem dX6_world_55 : decode cX6_world 55 = .ok (.invokevirtual 142, 3) := by decide +kernel
theorem dX6_world_58 : decode cX6_world 58 = .ok (.aload_n 0, 1) := by decide +kernel
theorem dX6_world_59 : decode cX6_world 59 = .ok (.iconst 0, 1) := by decide +kernel
theorem dX6_world_60 : decode cX6_world 60 = .ok (.putfield 65, 3) := by decide +kernel
theorem dX6_world_63 : decode cX6_world 63 = .ok (.aload_n 0, 1) := by decide +kernel
theorem dX6_world_64 : decode cX6_world 64 = .ok (.getfield 47, 3) := by decide +kernel
theorem dX6_world_67 : decode cX6_world 67 = .ok (.getfield 145, 3) := by decide +kernel
theorem dX6_world_70 : decode cX6_world 70 = .ok (.i2l, 1) := by decide +kernel
theorem dX6_world_71 : decode cX6_world 71 = .ok (.lreturn, 1) := by decide +kernel
theorem dX6_fault_0 : decode cX6_fault 0 = .ok (.aload_n 0, 1) := by decide +kernel
theorem dX6_fault_1 : decode cX6_fault 1 = .ok (.getfield 19, 3) := by decide +kernel
theorem dX6_fault_4 : decode cX6_fault 4 = .ok (.getfield 148, 3) := by decide +kernel
theorem dX6_fault_7 : decode cX6_fault 7 = .ok (.ireturn, 1) := by decide +kernel
theorem dX6_told_0 : decode cX6_told 0 = .ok (.aload_n 0, 1) := by decide +kernel
theorem dX6_told_1 : decode cX6_told 1 = .ok (.getfield 47, 3) := by decide +kernel
theorem dX6_told_4 : decode cX6_told 4 = .ok (.iload_n 1, 1) := by decide +kernel
theorem dX6_told_5 : decode cX6_told 5 = .ok (.invokevirtual 151, 3) := by decide +kernel
theorem dX6_told_8 : decode cX6_told 8 = .ok (.ifCond .eq 14, 3) := by decide +kernel
theorem dX6_told_11 : decode cX6_told 11 = .ok (.aload_n 0, 1) := by decide +kernel
theorem dX6_told_12 : decode cX6_told 12 = .ok (.getfield 47, 3) := by decide +kernel
theorem dX6_told_15 : decode cX6_told 15 = .ok (.iload_n 2, 1) := by decide +kernel
theorem dX6_told_16 : decode cX6_told 16 = .ok (.invokevirtual 154, 3) := by decide +kernel
theorem dX6_told_19 : decode cX6_told 19 = .ok (.ifCond .ne 7, 3) := by decide +kernel
theorem dX6_told_22 : decode cX6_told 22 = .ok (.ldc2_w 80, 3) := by decide +kernel
theorem dX6_told_25 : decode cX6_told 25 = .ok (.lreturn, 1) := by decide +kernel
theorem dX6_told_26 : decode cX6_told 26 = .ok (.iload_n 3, 1) := by decide +kernel
theorem dX6_told_27 : decode cX6_told 27 = .ok (.tableswitch 60 0 2 #[25, 38, 49], 25) := by decide +kernel
theorem dX6_told_52 : decode cX6_told 52 = .ok (.aload_n 0, 1) := by decide +kernel
theorem dX6_told_53 : decode cX6_told 53 = .ok (.getfield 47, 3) := by decide +kernel
theorem dX6_told_56 : decode cX6_told 56 = .ok (.getfield 157, 3) := by decide +kernel
theorem dX6_told_59 : decode cX6_told 59 = .ok (.iload_n 1, 1) := by decide +kernel
theorem dX6_told_60 : decode cX6_told 60 = .ok (.aaload, 1) := by decide +kernel
theorem dX6_told_61 : decode cX6_told 61 = .ok (.iload_n 2, 1) := by decide +kernel
theorem dX6_told_62 : decode cX6_told 62 = .ok (.iaload, 1) := by decide +kernel
theorem dX6_told_63 : decode cX6_told 63 = .ok (.i2l, 1) := by decide +kernel
theorem dX6_told_64 : decode cX6_told 64 = .ok (.lreturn, 1) := by decide +kernel
theorem dX6_told_65 : decode cX6_told 65 = .ok (.aload_n 0, 1) := by decide +kernel
theorem dX6_told_66 : decode cX6_told 66 = .ok (.getfield 47, 3) := by decide +kernel
theorem dX6_told_69 : decode cX6_told 69 = .ok (.getfield 161, 3) := by decide +kernel
theorem dX6_told_72 : decode cX6_told 72 = .ok (.iload_n 1, 1) := by decide +kernel
theorem dX6_told_73 : decode cX6_told 73 = .ok (.iaload, 1) := by decide +kernel
theorem dX6_told_74 : decode cX6_told 74 = .ok (.i2l, 1) := by decide +kernel
theorem dX6_told_75 : decode cX6_told 75 = .ok (.lreturn, 1) := by decide +kernel
theorem dX6_told_76 : decode cX6_told 76 = .ok (.aload_n 0, 1) := by decide +kernel
theorem dX6_told_77 : decode cX6_told 77 = .ok (.getfield 47, 3) := by decide +kernel
theorem dX6_told_80 : decode cX6_told 80 = .ok (.getfield 164, 3) := by decide +kernel
theorem dX6_told_83 : decode cX6_told 83 = .ok (.iload_n 2, 1) := by decide +kernel
theorem dX6_told_84 : decode cX6_told 84 = .ok (.iaload, 1) := by decide +kernel
theorem dX6_told_85 : decode cX6_told 85 = .ok (.i2l, 1) := by decide +kernel
theorem dX6_told_86 : decode cX6_told 86 = .ok (.lreturn, 1) := by decide +kernel
theorem dX6_told_87 : decode cX6_told 87 = .ok (.ldc2_w 80, 3) := by decide +kernel
theorem dX6_told_90 : decode cX6_told 90 = .ok (.lreturn, 1) := by decide +kernel
theorem dX6_wage_0 : decode cX6_wage 0 = .ok (.aload_n 0, 1) := by decide +kernel
theorem dX6_wage_1 : decode cX6_wage 1 = .ok (.getfield 47, 3) := by decide +kernel
theorem dX6_wage_4 : decode cX6_wage 4 = .ok (.iload_n 1, 1) := by decide +kernel
theorem dX6_wage_5 : decode cX6_wage 5 = .ok (.invokevirtual 151, 3) := by decide +kernel
theorem dX6_wage_8 : decode cX6_wage 8 = .ok (.ifCond .eq 12, 3) := by decide +kernel
theorem dX6_wage_11 : decode cX6_wage 11 = .ok (.iload_n 2, 1) := by decide +kernel
theorem dX6_wage_12 : decode cX6_wage 12 = .ok (.ifCond .lt 8, 3) := by decide +kernel
theorem dX6_wage_15 : decode cX6_wage 15 = .ok (.iload_n 2, 1) := by decide +kernel
theorem dX6_wage_16 : decode cX6_wage 16 = .ok (.iconst 1, 1) := by decide +kernel
theorem dX6_wage_17 : decode cX6_wage 17 = .ok (.if_icmp .le 7, 3) := by decide +kernel
theorem dX6_wage_20 : decode cX6_wage 20 = .ok (.ldc2_w 80, 3) := by decide +kernel
theorem dX6_wage_23 : decode cX6_wage 23 = .ok (.lreturn, 1) := by decide +kernel
theorem dX6_wage_24 : decode cX6_wage 24 = .ok (.aload_n 0, 1) := by decide +kernel
theorem dX6_wage_25 : decode cX6_wage 25 = .ok (.getfield 47, 3) := by decide +kernel
theorem dX6_wage_28 : decode cX6_wage 28 = .ok (.getfield 167, 3) := by decide +kernel
theorem dX6_wage_31 : decode cX6_wage 31 = .ok (.iload_n 1, 1) := by decide +kernel
theorem dX6_wage_32 : decode cX6_wage 32 = .ok (.laload, 1) := by decide +kernel
theorem dX6_wage_33 : decode cX6_wage 33 = .ok (.aload_n 0, 1) := by decide +kernel
theorem dX6_wage_34 : decode cX6_wage 34 = .ok (.getfield 47, 3) := by decide +kernel
theorem dX6_wage_37 : decode cX6_wage 37 = .ok (.getfield 167, 3) := by decide +kernel
theorem dX6_wage_40 : decode cX6_wage 40 = .ok (.iconst 0, 1) := by decide +kernel
theorem dX6_wage_41 : decode cX6_wage 41 = .ok (.laload, 1) := by decide +kernel
theorem dX6_wage_42 : decode cX6_wage 42 = .ok (.iload_n 2, 1) := by decide +kernel
theorem dX6_wage_43 : decode cX6_wage 43 = .ok (.invokestatic 170, 3) := by decide +kernel
theorem dX6_wage_46 : decode cX6_wage 46 = .ok (.lreturn, 1) := by decide +kernel
theorem dX6_price_0 : decode cX6_price 0 = .ok (.aload_n 0, 1) := by decide +kernel
theorem dX6_price_1 : decode cX6_price 1 = .ok (.getfield 47, 3) := by decide +kernel
theorem dX6_price_4 : decode cX6_price 4 = .ok (.iload_n 1, 1) := by decide +kernel
theorem dX6_price_5 : decode cX6_price 5 = .ok (.invokevirtual 154, 3) := by decide +kernel
theorem dX6_price_8 : decode cX6_price 8 = .ok (.ifCond .eq 12, 3) := by decide +kernel
theorem dX6_price_11 : decode cX6_price 11 = .ok (.iload_n 2, 1) := by decide +kernel
theorem dX6_price_12 : decode cX6_price 12 = .ok (.ifCond .lt 8, 3) := by decide +kernel
theorem dX6_price_15 : decode cX6_price 15 = .ok (.iload_n 2, 1) := by decide +kernel
theorem dX6_price_16 : decode cX6_price 16 = .ok (.iconst 2, 1) := by decide +kernel
theorem dX6_price_17 : decode cX6_price 17 = .ok (.if_icmp .le 7, 3) := by decide +kernel
theorem dX6_price_20 : decode cX6_price 20 = .ok (.ldc2_w 80, 3) := by decide +kernel
theorem dX6_price_23 : decode cX6_price 23 = .ok (.lreturn, 1) := by decide +kernel
theorem dX6_price_24 : decode cX6_price 24 = .ok (.iload_n 2, 1) := by decide +kernel
theorem dX6_price_25 : decode cX6_price 25 = .ok (.iconst 2, 1) := by decide +kernel
theorem dX6_price_26 : decode cX6_price 26 = .ok (.if_icmp .ne 20, 3) := by decide +kernel
theorem dX6_price_29 : decode cX6_price 29 = .ok (.aload_n 0, 1) := by decide +kernel
theorem dX6_price_30 : decode cX6_price 30 = .ok (.getfield 47, 3) := by decide +kernel
theorem dX6_price_33 : decode cX6_price 33 = .ok (.aload_n 0, 1) := by decide +kernel
theorem dX6_price_34 : decode cX6_price 34 = .ok (.getfield 47, 3) := by decide +kernel
theorem dX6_price_37 : decode cX6_price 37 = .ok (.getfield 167, 3) := by decide +kernel
theorem dX6_price_40 : decode cX6_price 40 = .ok (.iload_n 1, 1) := by decide +kernel
theorem dX6_price_41 : decode cX6_price 41 = .ok (.invokevirtual 174, 3) := by decide +kernel
theorem dX6_price_44 : decode cX6_price 44 = .ok (.i2l, 1) := by decide +kernel
theorem dX6_price_45 : decode cX6_price 45 = .ok (.lreturn, 1) := by decide +kernel
theorem dX6_price_46 : decode cX6_price 46 = .ok (.aload_n 0, 1) := by decide +kernel
theorem dX6_price_47 : decode cX6_price 47 = .ok (.getfield 47, 3) := by decide +kernel
theorem dX6_price_50 : decode cX6_price 50 = .ok (.aload_n 0, 1) := by decide +kernel
theorem dX6_price_51 : decode cX6_price 51 = .ok (.getfield 47, 3) := by decide +kernel
theorem dX6_price_54 : decode cX6_price 54 = .ok (.getfield 167, 3) := by decide +kernel
theorem dX6_price_57 : decode cX6_price 57 = .ok (.iload_n 1, 1) := by decide +kernel
theorem dX6_price_58 : decode cX6_price 58 = .ok (.invokevirtual 178, 3) := by decide +kernel
theorem dX6_price_61 : decode cX6_price 61 = .ok (.aload_n 0, 1) := by decide +kernel
theorem dX6_price_62 : decode cX6_price 62 = .ok (.getfield 47, 3) := by decide +kernel
theorem dX6_price_65 : decode cX6_price 65 = .ok (.getfield 167, 3) := by decide +kernel
theorem dX6_price_68 : decode cX6_price 68 = .ok (.iconst 0, 1) := by decide +kernel
theorem dX6_price_69 : decode cX6_price 69 = .ok (.laload, 1) := by decide +kernel
theorem dX6_price_70 : decode cX6_price 70 = .ok (.iload_n 2, 1) := by decide +kernel
theorem dX6_price_71 : decode cX6_price 71 = .ok (.invokestatic 170, 3) := by decide +kernel
theorem dX6_price_74 : decode cX6_price 74 = .ok (.lreturn, 1) := by decide +kernel
theorem dX6_gain_0 : decode cX6_gain 0 = .ok (.aload_n 0, 1) := by decide +kernel
theorem dX6_gain_1 : decode cX6_gain 1 = .ok (.getfield 47, 3) := by decide +kernel
theorem dX6_gain_4 : decode cX6_gain 4 = .ok (.iload_n 1, 1) := by decide +kernel
theorem dX6_gain_5 : decode cX6_gain 5 = .ok (.invokevirtual 151, 3) := by decide +kernel
theorem dX6_gain_8 : decode cX6_gain 8 = .ok (.ifCond .eq 23, 3) := by decide +kernel
theorem dX6_gain_11 : decode cX6_gain 11 = .ok (.aload_n 0, 1) := by decide +kernel
theorem dX6_gain_12 : decode cX6_gain 12 = .ok (.getfield 47, 3) := by decide +kernel
theorem dX6_gain_15 : decode cX6_gain 15 = .ok (.iload_n 2, 1) := by decide +kernel
theorem dX6_gain_16 : decode cX6_gain 16 = .ok (.invokevirtual 154, 3) := by decide +kernel
theorem dX6_gain_19 : decode cX6_gain 19 = .ok (.ifCond .eq 12, 3) := by decide +kernel
theorem dX6_gain_22 : decode cX6_gain 22 = .ok (.iload_n 3, 1) := by decide +kernel
theorem dX6_gain_23 : decode cX6_gain 23 = .ok (.ifCond .lt 8, 3) := by decide +kernel
theorem dX6_gain_26 : decode cX6_gain 26 = .ok (.iload_n 3, 1) := by decide +kernel
theorem dX6_gain_27 : decode cX6_gain 27 = .ok (.iconst 1, 1) := by decide +kernel
theorem dX6_gain_28 : decode cX6_gain 28 = .ok (.if_icmp .le 7, 3) := by decide +kernel
theorem dX6_gain_31 : decode cX6_gain 31 = .ok (.ldc2_w 80, 3) := by decide +kernel
theorem dX6_gain_34 : decode cX6_gain 34 = .ok (.lreturn, 1) := by decide +kernel
theorem dX6_gain_35 : decode cX6_gain 35 = .ok (.aload_n 0, 1) := by decide +kernel
theorem dX6_gain_36 : decode cX6_gain 36 = .ok (.getfield 47, 3) := by decide +kernel
theorem dX6_gain_39 : decode cX6_gain 39 = .ok (.aload_n 0, 1) := by decide +kernel
theorem dX6_gain_40 : decode cX6_gain 40 = .ok (.getfield 47, 3) := by decide +kernel
theorem dX6_gain_43 : decode cX6_gain 43 = .ok (.getfield 167, 3) := by decide +kernel
theorem dX6_gain_46 : decode cX6_gain 46 = .ok (.iload_n 1, 1) := by decide +kernel
theorem dX6_gain_47 : decode cX6_gain 47 = .ok (.iload_n 2, 1) := by decide +kernel
theorem dX6_gain_48 : decode cX6_gain 48 = .ok (.invokevirtual 182, 3) := by decide +kernel
theorem dX6_gain_51 : decode cX6_gain 51 = .ok (.aload_n 0, 1) := by decide +kernel
theorem dX6_gain_52 : decode cX6_gain 52 = .ok (.getfield 47, 3) := by decide +kernel
theorem dX6_gain_55 : decode cX6_gain 55 = .ok (.aload_n 0, 1) := by decide +kernel
theorem dX6_gain_56 : decode cX6_gain 56 = .ok (.getfield 47, 3) := by decide +kernel
theorem dX6_gain_59 : decode cX6_gain 59 = .ok (.getfield 167, 3) := by decide +kernel
theorem dX6_gain_62 : decode cX6_gain 62 = .ok (.iload_n 2, 1) := by decide +kernel
theorem dX6_gain_63 : decode cX6_gain 63 = .ok (.invokevirtual 178, 3) := by decide +kernel
theorem dX6_gain_66 : decode cX6_gain 66 = .ok (.iload_n 3, 1) := by decide +kernel
theorem dX6_gain_67 : decode cX6_gain 67 = .ok (.invokestatic 170, 3) := by decide +kernel
theorem dX6_gain_70 : decode cX6_gain 70 = .ok (.lreturn, 1) := by decide +kernel
theorem dX6_judge_0 : decode cX6_judge 0 = .ok (.iload_n 1, 1) := by decide +kernel
theorem dX6_judge_1 : decode cX6_judge 1 = .ok (.invokestatic 73, 3) := by decide +kernel
theorem dX6_judge_4 : decode cX6_judge 4 = .ok (.ifCond .ne 7, 3) := by decide +kernel
theorem dX6_judge_7 : decode cX6_judge 7 = .ok (.ldc2_w 80, 3) := by decide +kernel
theorem dX6_judge_10 : decode cX6_judge 10 = .ok (.lreturn, 1) := by decide +kernel
theorem dX6_judge_11 : decode cX6_judge 11 = .ok (.aload_n 0, 1) := by decide +kernel
theorem dX6_judge_12 : decode cX6_judge 12 = .ok (.getfield 47, 3) := by decide +kernel
theorem dX6_judge_15 : decode cX6_judge 15 = .ok (.invokevirtual 186, 3) := by decide +kernel
theorem dX6_judge_18 : decode cX6_judge 18 = .ok (.ifCond .ne 7, 3) := by decide +kernel
theorem dX6_judge_21 : decode cX6_judge 21 = .ok (.ldc2_w 190, 3) := by decide +kernel
theorem dX6_judge_24 : decode cX6_judge 24 = .ok (.lreturn, 1) := by decide +kernel
theorem dX6_judge_25 : decode cX6_judge 25 = .ok (.aload_n 0, 1) := by decide +kernel
theorem dX6_judge_26 : decode cX6_judge 26 = .ok (.iload_n 1, 1) := by decide +kernel
theorem dX6_judge_27 : decode cX6_judge 27 = .ok (.iload_n 2, 1) := by decide +kernel
theorem dX6_judge_28 : decode cX6_judge 28 = .ok (.aload_n 0, 1) := by decide +kernel
theorem dX6_judge_29 : decode cX6_judge 29 = .ok (.getfield 47, 3) := by decide +kernel
theorem dX6_judge_32 : decode cX6_judge 32 = .ok (.getfield 145, 3) := by decide +kernel
theorem dX6_judge_35 : decode cX6_judge 35 = .ok (.invokevirtual 192, 3) := by decide +kernel
theorem dX6_judge_38 : decode cX6_judge 38 = .ok (.istore_n 3, 1) := by decide +kernel
theorem dX6_judge_39 : decode cX6_judge 39 = .ok (.iload_n 3, 1) := by decide +kernel
theorem dX6_judge_40 : decode cX6_judge 40 = .ok (.ifCond .eq 9, 3) := by decide +kernel
theorem dX6_judge_43 : decode cX6_judge 43 = .ok (.aload_n 0, 1) := by decide +kernel
theorem dX6_judge_44 : decode cX6_judge 44 = .ok (.iload_n 3, 1) := by decide +kernel
theorem dX6_judge_45 : decode cX6_judge 45 = .ok (.invokevirtual 82, 3) := by decide +kernel
theorem dX6_judge_48 : decode cX6_judge 48 = .ok (.lreturn, 1) := by decide +kernel
theorem dX6_judge_49 : decode cX6_judge 49 = .ok (.iconst 0, 1) := by decide +kernel
theorem dX6_judge_50 : decode cX6_judge 50 = .ok (.istore 4, 2) := by decide +kernel
theorem dX6_judge_52 : decode cX6_judge 52 = .ok (.iload 4, 2) := by decide +kernel
theorem dX6_judge_54 : decode cX6_judge 54 = .ok (.aload_n 0, 1) := by decide +kernel
theorem dX6_judge_55 : decode cX6_judge 55 = .ok (.getfield 47, 3) := by decide +kernel
theorem dX6_judge_58 : decode cX6_judge 58 = .ok (.getfield 145, 3) := by decide +kernel
theorem dX6_judge_61 : decode cX6_judge 61 = .ok (.if_icmp .ge 51, 3) := by decide +kernel
theorem dX6_judge_64 : decode cX6_judge 64 = .ok (.aload_n 0, 1) := by decide +kernel
theorem dX6_judge_65 : decode cX6_judge 65 = .ok (.getfield 12, 3) := by decide +kernel
theorem dX6_judge_68 : decode cX6_judge 68 = .ok (.iload_n 1, 1) := by decide +kernel
theorem dX6_judge_69 : decode cX6_judge 69 = .ok (.iload_n 2, 1) := by decide +kernel
theorem dX6_judge_70 : decode cX6_judge 70 = .ok (.iload 4, 2) := by decide +kernel
theorem dX6_judge_72 : decode cX6_judge 72 = .ok (.iadd, 1) := by decide +kernel
theorem dX6_judge_73 : decode cX6_judge 73 = .ok (.invokevirtual 195, 3) := by decide +kernel
theorem dX6_judge_76 : decode cX6_judge 76 = .ok (.istore 5, 2) := by decide +kernel
theorem dX6_judge_78 : decode cX6_judge 78 = .ok (.iload 5, 2) := by decide +kernel
theorem dX6_judge_80 : decode cX6_judge 80 = .ok (.iconst 1, 1) := by decide +kernel
theorem dX6_judge_81 : decode cX6_judge 81 = .ok (.if_icmp .lt 11, 3) := by decide +kernel
theorem dX6_judge_84 : decode cX6_judge 84 = .ok (.iload 5, 2) := by decide +kernel
theorem dX6_judge_86 : decode cX6_judge 86 = .ok (.sipush 999, 3) := by decide +kernel
theorem dX6_judge_89 : decode cX6_judge 89 = .ok (.if_icmp .le 7, 3) := by decide +kernel
theorem dX6_judge_92 : decode cX6_judge 92 = .ok (.ldc2_w 80, 3) := by decide +kernel
theorem dX6_judge_95 : decode cX6_judge 95 = .ok (.lreturn, 1) := by decide +kernel
theorem dX6_judge_96 : decode cX6_judge 96 = .ok (.aload_n 0, 1) := by decide +kernel
theorem dX6_judge_97 : decode cX6_judge 97 = .ok (.getfield 57, 3) := by decide +kernel
theorem dX6_judge_100 : decode cX6_judge 100 = .ok (.iload 4, 2) := by decide +kernel
theorem dX6_judge_102 : decode cX6_judge 102 = .ok (.iload 5, 2) := by decide +kernel
theorem dX6_judge_104 : decode cX6_judge 104 = .ok (.i2l, 1) := by decide +kernel
theorem dX6_judge_105 : decode cX6_judge 105 = .ok (.lastore, 1) := by decide +kernel
theorem dX6_judge_106 : decode cX6_judge 106 = .ok (.iinc 4 1, 3) := by decide +kernel
theorem dX6_judge_109 : decode cX6_judge 109 = .ok (.goto (-57), 3) := by decide +kernel
theorem dX6_judge_112 : decode cX6_judge 112 = .ok (.aload_n 0, 1) := by decide +kernel
theorem dX6_judge_113 : decode cX6_judge 113 = .ok (.aload_n 0, 1) := by decide +kernel
theorem dX6_judge_114 : decode cX6_judge 114 = .ok (.getfield 47, 3) := by decide +kernel
theorem dX6_judge_117 : decode cX6_judge 117 = .ok (.aload_n 0, 1) := by decide +kernel
theorem dX6_judge_118 : decode cX6_judge 118 = .ok (.getfield 57, 3) := by decide +kernel
theorem dX6_judge_121 : decode cX6_judge 121 = .ok (.invokevirtual 199, 3) := by decide +kernel
theorem dX6_judge_124 : decode cX6_judge 124 = .ok (.i2l, 1) := by decide +kernel
theorem dX6_judge_125 : decode cX6_judge 125 = .ok (.invokevirtual 90, 3) := by decide +kernel
theorem dX6_judge_128 : decode cX6_judge 128 = .ok (.lreturn, 1) := by decide +kernel
theorem dX6_chain_0 : decode cX6_chain 0 = .ok (.aload_n 0, 1) := by decide +kernel
theorem dX6_chain_1 : decode cX6_chain 1 = .ok (.getfield 47, 3) := by decide +kernel
theorem dX6_chain_4 : decode cX6_chain 4 = .ok (.iload_n 1, 1) := by decide +kernel
theorem dX6_chain_5 : decode cX6_chain 5 = .ok (.invokevirtual 151, 3) := by decide +kernel
theorem dX6_chain_8 : decode cX6_chain 8 = .ok (.ifCond .eq 24, 3) := by decide +kernel
theorem dX6_chain_11 : decode cX6_chain 11 = .ok (.aload_n 0, 1) := by decide +kernel
theorem dX6_chain_12 : decode cX6_chain 12 = .ok (.getfield 47, 3) := by decide +kernel
theorem dX6_chain_15 : decode cX6_chain 15 = .ok (.iload_n 2, 1) := by decide +kernel
theorem dX6_chain_16 : decode cX6_chain 16 = .ok (.invokevirtual 151, 3) := by decide +kernel
theorem dX6_chain_19 : decode cX6_chain 19 = .ok (.ifCond .eq 13, 3) := by decide +kernel
theorem dX6_chain_22 : decode cX6_chain 22 = .ok (.iload_n 1, 1) := by decide +kernel
theorem dX6_chain_23 : decode cX6_chain 23 = .ok (.iload_n 2, 1) := by decide +kernel
theorem dX6_chain_24 : decode cX6_chain 24 = .ok (.if_icmp .eq 8, 3) := by decide +kernel
theorem dX6_chain_27 : decode cX6_chain 27 = .ok (.iload_n 3, 1) := by decide +kernel
theorem dX6_chain_28 : decode cX6_chain 28 = .ok (.iconst (-1), 1) := by decide +kernel
theorem dX6_chain_29 : decode cX6_chain 29 = .ok (.if_icmp .ge 7, 3) := by decide +kernel
theorem dX6_chain_32 : decode cX6_chain 32 = .ok (.ldc2_w 80, 3) := by decide +kernel
theorem dX6_chain_35 : decode cX6_chain 35 = .ok (.lreturn, 1) := by decide +kernel
theorem dX6_chain_36 : decode cX6_chain 36 = .ok (.iload_n 3, 1) := by decide +kernel
theorem dX6_chain_37 : decode cX6_chain 37 = .ok (.aload_n 0, 1) := by decide +kernel
theorem dX6_chain_38 : decode cX6_chain 38 = .ok (.getfield 47, 3) := by decide +kernel
theorem dX6_chain_41 : decode cX6_chain 41 = .ok (.getfield 203, 3) := by decide +kernel
theorem dX6_chain_44 : decode cX6_chain 44 = .ok (.if_icmp .lt 7, 3) := by decide +kernel
theorem dX6_chain_47 : decode cX6_chain 47 = .ok (.ldc2_w 206, 3) := by decide +kernel
theorem dX6_chain_50 : decode cX6_chain 50 = .ok (.lreturn, 1) := by decide +kernel
theorem dX6_chain_51 : decode cX6_chain 51 = .ok (.aload_n 0, 1) := by decide +kernel
theorem dX6_chain_52 : decode cX6_chain 52 = .ok (.getfield 40, 3) := by decide +kernel
theorem dX6_chain_55 : decode cX6_chain 55 = .ok (.aload_n 0, 1) := by decide +kernel
theorem dX6_chain_56 : decode cX6_chain 56 = .ok (.getfield 47, 3) := by decide +kernel
theorem dX6_chain_59 : decode cX6_chain 59 = .ok (.iload_n 1, 1) := by decide +kernel
theorem dX6_chain_60 : decode cX6_chain 60 = .ok (.iload_n 2, 1) := by decide +kernel
theorem dX6_chain_61 : decode cX6_chain 61 = .ok (.invokevirtual 208, 3) := by decide +kernel
theorem dX6_chain_64 : decode cX6_chain 64 = .ok (.aload_n 0, 1) := by decide +kernel
theorem dX6_chain_65 : decode cX6_chain 65 = .ok (.getfield 40, 3) := by decide +kernel
theorem dX6_chain_68 : decode cX6_chain 68 = .ok (.invokevirtual 212, 3) := by decide +kernel
theorem dX6_chain_71 : decode cX6_chain 71 = .ok (.iload_n 3, 1) := by decide +kernel
theorem dX6_chain_72 : decode cX6_chain 72 = .ok (.ifCond .lt 14, 3) := by decide +kernel
theorem dX6_chain_75 : decode cX6_chain 75 = .ok (.aload_n 0, 1) := by decide +kernel
theorem dX6_chain_76 : decode cX6_chain 76 = .ok (.getfield 40, 3) := by decide +kernel
theorem dX6_chain_79 : decode cX6_chain 79 = .ok (.getfield 215, 3) := by decide +kernel
theorem dX6_chain_82 : decode cX6_chain 82 = .ok (.iload_n 3, 1) := by decide +kernel
theorem dX6_chain_83 : decode cX6_chain 83 = .ok (.iaload, 1) := by decide +kernel
theorem dX6_chain_84 : decode cX6_chain 84 = .ok (.i2l, 1) := by decide +kernel
theorem dX6_chain_85 : decode cX6_chain 85 = .ok (.lreturn, 1) := by decide +kernel
theorem dX6_chain_86 : decode cX6_chain 86 = .ok (.aload_n 0, 1) := by decide +kernel
theorem dX6_chain_87 : decode cX6_chain 87 = .ok (.getfield 40, 3) := by decide +kernel
theorem dX6_chain_90 : decode cX6_chain 90 = .ok (.invokevirtual 218, 3) := by decide +kernel
theorem dX6_chain_93 : decode cX6_chain 93 = .ok (.aload_n 0, 1) := by decide +kernel
theorem dX6_chain_94 : decode cX6_chain 94 = .ok (.getfield 40, 3) := by decide +kernel
theorem dX6_chain_97 : decode cX6_chain 97 = .ok (.invokevirtual 221, 3) := by decide +kernel
theorem dX6_chain_100 : decode cX6_chain 100 = .ok (.i2l, 1) := by decide +kernel
theorem dX6_chain_101 : decode cX6_chain 101 = .ok (.lreturn, 1) := by decide +kernel
theorem dX6_more_0 : decode cX6_more 0 = .ok (.iload_n 1, 1) := by decide +kernel
theorem dX6_more_1 : decode cX6_more 1 = .ok (.invokestatic 73, 3) := by decide +kernel
theorem dX6_more_4 : decode cX6_more 4 = .ok (.ifCond .ne 7, 3) := by decide +kernel
theorem dX6_more_7 : decode cX6_more 7 = .ok (.ldc2_w 80, 3) := by decide +kernel
theorem dX6_more_10 : decode cX6_more 10 = .ok (.lreturn, 1) := by decide +kernel
theorem dX6_more_11 : decode cX6_more 11 = .ok (.aload_n 0, 1) := by decide +kernel
theorem dX6_more_12 : decode cX6_more 12 = .ok (.getfield 47, 3) := by decide +kernel
theorem dX6_more_15 : decode cX6_more 15 = .ok (.invokevirtual 186, 3) := by decide +kernel
theorem dX6_more_18 : decode cX6_more 18 = .ok (.ifCond .ne 7, 3) := by decide +kernel
theorem dX6_more_21 : decode cX6_more 21 = .ok (.ldc2_w 190, 3) := by decide +kernel
theorem dX6_more_24 : decode cX6_more 24 = .ok (.lreturn, 1) := by decide +kernel
theorem dX6_more_25 : decode cX6_more 25 = .ok (.aload_n 0, 1) := by decide +kernel
theorem dX6_more_26 : decode cX6_more 26 = .ok (.iload_n 1, 1) := by decide +kernel
theorem dX6_more_27 : decode cX6_more 27 = .ok (.iload_n 2, 1) := by decide +kernel
theorem dX6_more_28 : decode cX6_more 28 = .ok (.aload_n 0, 1) := by decide +kernel
theorem dX6_more_29 : decode cX6_more 29 = .ok (.getfield 47, 3) := by decide +kernel
theorem dX6_more_32 : decode cX6_more 32 = .ok (.getfield 203, 3) := by decide +kernel
theorem dX6_more_35 : decode cX6_more 35 = .ok (.invokevirtual 192, 3) := by decide +kernel
theorem dX6_more_38 : decode cX6_more 38 = .ok (.istore_n 3, 1) := by decide +kernel
theorem dX6_more_39 : decode cX6_more 39 = .ok (.iload_n 3, 1) := by decide +kernel
theorem dX6_more_40 : decode cX6_more 40 = .ok (.ifCond .eq 9, 3) := by decide +kernel
theorem dX6_more_43 : decode cX6_more 43 = .ok (.aload_n 0, 1) := by decide +kernel
theorem dX6_more_44 : decode cX6_more 44 = .ok (.iload_n 3, 1) := by decide +kernel
theorem dX6_more_45 : decode cX6_more 45 = .ok (.invokevirtual 82, 3) := by decide +kernel
theorem dX6_more_48 : decode cX6_more 48 = .ok (.lreturn, 1) := by decide +kernel
theorem dX6_more_49 : decode cX6_more 49 = .ok (.iconst 0, 1) := by decide +kernel
theorem dX6_more_50 : decode cX6_more 50 = .ok (.istore 4, 2) := by decide +kernel
theorem dX6_more_52 : decode cX6_more 52 = .ok (.iload 4, 2) := by decide +kernel
theorem dX6_more_54 : decode cX6_more 54 = .ok (.aload_n 0, 1) := by decide +kernel
theorem dX6_more_55 : decode cX6_more 55 = .ok (.getfield 47, 3) := by decide +kernel
theorem dX6_more_58 : decode cX6_more 58 = .ok (.getfield 203, 3) := by decide +kernel
theorem dX6_more_61 : decode cX6_more 61 = .ok (.if_icmp .ge 54, 3) := by decide +kernel
theorem dX6_more_64 : decode cX6_more 64 = .ok (.aload_n 0, 1) := by decide +kernel
theorem dX6_more_65 : decode cX6_more 65 = .ok (.getfield 12, 3) := by decide +kernel
theorem dX6_more_68 : decode cX6_more 68 = .ok (.iload_n 1, 1) := by decide +kernel
theorem dX6_more_69 : decode cX6_more 69 = .ok (.iload_n 2, 1) := by decide +kernel
theorem dX6_more_70 : decode cX6_more 70 = .ok (.iload 4, 2) := by decide +kernel
theorem dX6_more_72 : decode cX6_more 72 = .ok (.iadd, 1) := by decide +kernel
theorem dX6_more_73 : decode cX6_more 73 = .ok (.invokevirtual 195, 3) := by decide +kernel
theorem dX6_more_76 : decode cX6_more 76 = .ok (.istore 5, 2) := by decide +kernel
theorem dX6_more_78 : decode cX6_more 78 = .ok (.iload 5, 2) := by decide +kernel
theorem dX6_more_80 : decode cX6_more 80 = .ok (.iconst 1, 1) := by decide +kernel
theorem dX6_more_81 : decode cX6_more 81 = .ok (.if_icmp .lt 15, 3) := by decide +kernel
theorem dX6_more_84 : decode cX6_more 84 = .ok (.iload 5, 2) := by decide +kernel
theorem dX6_more_86 : decode cX6_more 86 = .ok (.aload_n 0, 1) := by decide +kernel
theorem dX6_more_87 : decode cX6_more 87 = .ok (.getfield 47, 3) := by decide +kernel
theorem dX6_more_90 : decode cX6_more 90 = .ok (.invokevirtual 225, 3) := by decide +kernel
theorem dX6_more_93 : decode cX6_more 93 = .ok (.if_icmp .le 7, 3) := by decide +kernel
theorem dX6_more_96 : decode cX6_more 96 = .ok (.ldc2_w 80, 3) := by decide +kernel
theorem dX6_more_99 : decode cX6_more 99 = .ok (.lreturn, 1) := by decide +kernel
theorem dX6_more_100 : decode cX6_more 100 = .ok (.aload_n 0, 1) := by decide +kernel
theorem dX6_more_101 : decode cX6_more 101 = .ok (.getfield 61, 3) := by decide +kernel
theorem dX6_more_104 : decode cX6_more 104 = .ok (.iload 4, 2) := by decide +kernel
theorem dX6_more_106 : decode cX6_more 106 = .ok (.iload 5, 2) := by decide +kernel
theorem dX6_more_108 : decode cX6_more 108 = .ok (.iastore, 1) := by decide +kernel
theorem dX6_more_109 : decode cX6_more 109 = .ok (.iinc 4 1, 3) := by decide +kernel
theorem dX6_more_112 : decode cX6_more 112 = .ok (.goto (-60), 3) := by decide +kernel
theorem dX6_more_115 : decode cX6_more 115 = .ok (.aload_n 0, 1) := by decide +kernel
theorem dX6_more_116 : decode cX6_more 116 = .ok (.aload_n 0, 1) := by decide +kernel
theorem dX6_more_117 : decode cX6_more 117 = .ok (.invokevirtual 228, 3) := by decide +kernel
theorem dX6_more_120 : decode cX6_more 120 = .ok (.invokevirtual 90, 3) := by decide +kernel
theorem dX6_more_123 : decode cX6_more 123 = .ok (.lreturn, 1) := by decide +kernel
theorem dX6_stays_0 : decode cX6_stays 0 = .ok (.aload_n 0, 1) := by decide +kernel
theorem dX6_stays_1 : decode cX6_stays 1 = .ok (.getfield 47, 3) := by decide +kernel
theorem dX6_stays_4 : decode cX6_stays 4 = .ok (.iload_n 1, 1) := by decide +kernel
theorem dX6_stays_5 : decode cX6_stays 5 = .ok (.invokevirtual 151, 3) := by decide +kernel
theorem dX6_stays_8 : decode cX6_stays 8 = .ok (.ifCond .eq 25, 3) := by decide +kernel
theorem dX6_stays_11 : decode cX6_stays 11 = .ok (.aload_n 0, 1) := by decide +kernel
theorem dX6_stays_12 : decode cX6_stays 12 = .ok (.getfield 47, 3) := by decide +kernel
theorem dX6_stays_15 : decode cX6_stays 15 = .ok (.iload_n 2, 1) := by decide +kernel
theorem dX6_stays_16 : decode cX6_stays 16 = .ok (.invokevirtual 154, 3) := by decide +kernel
theorem dX6_stays_19 : decode cX6_stays 19 = .ok (.ifCond .eq 14, 3) := by decide +kernel
theorem dX6_stays_22 : decode cX6_stays 22 = .ok (.iload_n 3, 1) := by decide +kernel
theorem dX6_stays_23 : decode cX6_stays 23 = .ok (.ifCond .lt 10, 3) := by decide +kernel
theorem dX6_stays_26 : decode cX6_stays 26 = .ok (.iload_n 3, 1) := by decide +kernel
theorem dX6_stays_27 : decode cX6_stays 27 = .ok (.sipush 900, 3) := by decide +kernel
theorem dX6_stays_30 : decode cX6_stays 30 = .ok (.if_icmp .le 7, 3) := by decide +kernel
theorem dX6_stays_33 : decode cX6_stays 33 = .ok (.ldc2_w 80, 3) := by decide +kernel
theorem dX6_stays_36 : decode cX6_stays 36 = .ok (.lreturn, 1) := by decide +kernel
theorem dX6_stays_37 : decode cX6_stays 37 = .ok (.aload_n 0, 1) := by decide +kernel
theorem dX6_stays_38 : decode cX6_stays 38 = .ok (.getfield 47, 3) := by decide +kernel
theorem dX6_stays_41 : decode cX6_stays 41 = .ok (.aload_n 0, 1) := by decide +kernel
theorem dX6_stays_42 : decode cX6_stays 42 = .ok (.getfield 47, 3) := by decide +kernel
theorem dX6_stays_45 : decode cX6_stays 45 = .ok (.getfield 167, 3) := by decide +kernel
theorem dX6_stays_48 : decode cX6_stays 48 = .ok (.iload_n 1, 1) := by decide +kernel
theorem dX6_stays_49 : decode cX6_stays 49 = .ok (.iload_n 2, 1) := by decide +kernel
theorem dX6_stays_50 : decode cX6_stays 50 = .ok (.invokevirtual 182, 3) := by decide +kernel
theorem dX6_stays_53 : decode cX6_stays 53 = .ok (.ldc2_w 232, 3) := by decide +kernel
theorem dX6_stays_56 : decode cX6_stays 56 = .ok (.lmul, 1) := by decide +kernel
theorem dX6_stays_57 : decode cX6_stays 57 = .ok (.lstore 4, 2) := by decide +kernel
theorem dX6_stays_59 : decode cX6_stays 59 = .ok (.aload_n 0, 1) := by decide +kernel
theorem dX6_stays_60 : decode cX6_stays 60 = .ok (.getfield 47, 3) := by decide +kernel
theorem dX6_stays_63 : decode cX6_stays 63 = .ok (.aload_n 0, 1) := by decide +kernel
theorem dX6_stays_64 : decode cX6_stays 64 = .ok (.getfield 47, 3) := by decide +kernel
theorem dX6_stays_67 : decode cX6_stays 67 = .ok (.getfield 167, 3) := by decide +kernel
theorem dX6_stays_70 : decode cX6_stays 70 = .ok (.iload_n 2, 1) := by decide +kernel
theorem dX6_stays_71 : decode cX6_stays 71 = .ok (.invokevirtual 178, 3) := by decide +kernel
theorem dX6_stays_74 : decode cX6_stays 74 = .ok (.bipush 100, 2) := by decide +kernel
theorem dX6_stays_76 : decode cX6_stays 76 = .ok (.iload_n 3, 1) := by decide +kernel
theorem dX6_stays_77 : decode cX6_stays 77 = .ok (.iadd, 1) := by decide +kernel
theorem dX6_stays_78 : decode cX6_stays 78 = .ok (.i2l, 1) := by decide +kernel
theorem dX6_stays_79 : decode cX6_stays 79 = .ok (.lmul, 1) := by decide +kernel
theorem dX6_stays_80 : decode cX6_stays 80 = .ok (.lstore 6, 2) := by decide +kernel
theorem dX6_stays_82 : decode cX6_stays 82 = .ok (.lload 4, 2) := by decide +kernel
theorem dX6_stays_84 : decode cX6_stays 84 = .ok (.lload 6, 2) := by decide +kernel
theorem dX6_stays_86 : decode cX6_stays 86 = .ok (.lcmp, 1) := by decide +kernel
theorem dX6_stays_87 : decode cX6_stays 87 = .ok (.ifCond .gt 7, 3) := by decide +kernel
theorem dX6_stays_90 : decode cX6_stays 90 = .ok (.lconst 1, 1) := by decide +kernel
theorem dX6_stays_91 : decode cX6_stays 91 = .ok (.goto 4, 3) := by decide +kernel
theorem dX6_stays_94 : decode cX6_stays 94 = .ok (.lconst 0, 1) := by decide +kernel
theorem dX6_stays_95 : decode cX6_stays 95 = .ok (.lreturn, 1) := by decide +kernel
theorem dX6_learn_0 : decode cX6_learn 0 = .ok (.aload_n 0, 1) := by decide +kernel
theorem dX6_learn_1 : decode cX6_learn 1 = .ok (.getfield 47, 3) := by decide +kernel
theorem dX6_learn_4 : decode cX6_learn 4 = .ok (.iload_n 1, 1) := by decide +kernel
theorem dX6_learn_5 : decode cX6_learn 5 = .ok (.invokevirtual 151, 3) := by decide +kernel
theorem dX6_learn_8 : decode cX6_learn 8 = .ok (.ifCond .eq 30, 3) := by decide +kernel
theorem dX6_learn_11 : decode cX6_learn 11 = .ok (.aload_n 0, 1) := by decide +kernel
theorem dX6_learn_12 : decode cX6_learn 12 = .ok (.getfield 47, 3) := by decide +kernel
theorem dX6_learn_15 : decode cX6_learn 15 = .ok (.iload_n 2, 1) := by decide +kernel
theorem dX6_learn_16 : decode cX6_learn 16 = .ok (.invokevirtual 151, 3) := by decide +kernel
theorem dX6_learn_19 : decode cX6_learn 19 = .ok (.ifCond .eq 19, 3) := by decide +kernel
theorem dX6_learn_22 : decode cX6_learn 22 = .ok (.iload_n 1, 1) := by decide +kernel
theorem dX6_learn_23 : decode cX6_learn 23 = .ok (.iload_n 2, 1) := by decide +kernel
theorem dX6_learn_24 : decode cX6_learn 24 = .ok (.if_icmp .eq 14, 3) := by decide +kernel
theorem dX6_learn_27 : decode cX6_learn 27 = .ok (.aload_n 0, 1) := by decide +kernel
theorem dX6_learn_28 : decode cX6_learn 28 = .ok (.getfield 47, 3) := by decide +kernel
theorem dX6_learn_31 : decode cX6_learn 31 = .ok (.iload_n 3, 1) := by decide +kernel
theorem dX6_learn_32 : decode cX6_learn 32 = .ok (.invokevirtual 154, 3) := by decide +kernel
theorem dX6_learn_35 : decode cX6_learn 35 = .ok (.ifCond .ne 7, 3) := by decide +kernel
theorem dX6_learn_38 : decode cX6_learn 38 = .ok (.ldc2_w 80, 3) := by decide +kernel
theorem dX6_learn_41 : decode cX6_learn 41 = .ok (.lreturn, 1) := by decide +kernel
theorem dX6_learn_42 : decode cX6_learn 42 = .ok (.aload_n 0, 1) := by decide +kernel
theorem dX6_learn_43 : decode cX6_learn 43 = .ok (.invokevirtual 234, 3) := by decide +kernel
theorem dX6_learn_46 : decode cX6_learn 46 = .ok (.aload_n 0, 1) := by decide +kernel
theorem dX6_learn_47 : decode cX6_learn 47 = .ok (.getfield 47, 3) := by decide +kernel
theorem dX6_learn_50 : decode cX6_learn 50 = .ok (.getfield 157, 3) := by decide +kernel
theorem dX6_learn_53 : decode cX6_learn 53 = .ok (.iload_n 1, 1) := by decide +kernel
theorem dX6_learn_54 : decode cX6_learn 54 = .ok (.aaload, 1) := by decide +kernel
theorem dX6_learn_55 : decode cX6_learn 55 = .ok (.iload_n 3, 1) := by decide +kernel
theorem dX6_learn_56 : decode cX6_learn 56 = .ok (.iaload, 1) := by decide +kernel
theorem dX6_learn_57 : decode cX6_learn 57 = .ok (.aload_n 0, 1) := by decide +kernel
theorem dX6_learn_58 : decode cX6_learn 58 = .ok (.getfield 47, 3) := by decide +kernel
theorem dX6_learn_61 : decode cX6_learn 61 = .ok (.getfield 157, 3) := by decide +kernel
theorem dX6_learn_64 : decode cX6_learn 64 = .ok (.iload_n 2, 1) := by decide +kernel
theorem dX6_learn_65 : decode cX6_learn 65 = .ok (.aaload, 1) := by decide +kernel
theorem dX6_learn_66 : decode cX6_learn 66 = .ok (.iload_n 3, 1) := by decide +kernel
theorem dX6_learn_67 : decode cX6_learn 67 = .ok (.iaload, 1) := by decide +kernel
theorem dX6_learn_68 : decode cX6_learn 68 = .ok (.isub, 1) := by decide +kernel
theorem dX6_learn_69 : decode cX6_learn 69 = .ok (.istore 4, 2) := by decide +kernel
theorem dX6_learn_71 : decode cX6_learn 71 = .ok (.iload 4, 2) := by decide +kernel
theorem dX6_learn_73 : decode cX6_learn 73 = .ok (.ifCond .gt 5, 3) := by decide +kernel
theorem dX6_learn_76 : decode cX6_learn 76 = .ok (.lconst 0, 1) := by decide +kernel
theorem dX6_learn_77 : decode cX6_learn 77 = .ok (.lreturn, 1) := by decide +kernel
theorem dX6_learn_78 : decode cX6_learn 78 = .ok (.aload_n 0, 1) := by decide +kernel
theorem dX6_learn_79 : decode cX6_learn 79 = .ok (.getfield 47, 3) := by decide +kernel
theorem dX6_learn_82 : decode cX6_learn 82 = .ok (.getfield 157, 3) := by decide +kernel
theorem dX6_learn_85 : decode cX6_learn 85 = .ok (.iload_n 1, 1) := by decide +kernel
theorem dX6_learn_86 : decode cX6_learn 86 = .ok (.aaload, 1) := by decide +kernel
theorem dX6_learn_87 : decode cX6_learn 87 = .ok (.iload_n 3, 1) := by decide +kernel
theorem dX6_learn_88 : decode cX6_learn 88 = .ok (.aload_n 0, 1) := by decide +kernel
theorem dX6_learn_89 : decode cX6_learn 89 = .ok (.getfield 47, 3) := by decide +kernel
theorem dX6_learn_92 : decode cX6_learn 92 = .ok (.getfield 157, 3) := by decide +kernel
theorem dX6_learn_95 : decode cX6_learn 95 = .ok (.iload_n 2, 1) := by decide +kernel
theorem dX6_learn_96 : decode cX6_learn 96 = .ok (.aaload, 1) := by decide +kernel
theorem dX6_learn_97 : decode cX6_learn 97 = .ok (.iload_n 3, 1) := by decide +kernel
theorem dX6_learn_98 : decode cX6_learn 98 = .ok (.iaload, 1) := by decide +kernel
theorem dX6_learn_99 : decode cX6_learn 99 = .ok (.iastore, 1) := by decide +kernel
theorem dX6_learn_100 : decode cX6_learn 100 = .ok (.aload_n 0, 1) := by decide +kernel
theorem dX6_learn_101 : decode cX6_learn 101 = .ok (.getfield 33, 3) := by decide +kernel
theorem dX6_learn_104 : decode cX6_learn 104 = .ok (.aload_n 0, 1) := by decide +kernel
theorem dX6_learn_105 : decode cX6_learn 105 = .ok (.getfield 47, 3) := by decide +kernel
theorem dX6_learn_108 : decode cX6_learn 108 = .ok (.invokevirtual 138, 3) := by decide +kernel
theorem dX6_learn_111 : decode cX6_learn 111 = .ok (.iload 4, 2) := by decide +kernel
theorem dX6_learn_113 : decode cX6_learn 113 = .ok (.i2l, 1) := by decide +kernel
theorem dX6_learn_114 : decode cX6_learn 114 = .ok (.lreturn, 1) := by decide +kernel
theorem dX6_on_0 : decode cX6_on 0 = .ok (.aload_n 0, 1) := by decide +kernel
theorem dX6_on_1 : decode cX6_on 1 = .ok (.getfield 47, 3) := by decide +kernel
theorem dX6_on_4 : decode cX6_on 4 = .ok (.iload_n 1, 1) := by decide +kernel
theorem dX6_on_5 : decode cX6_on 5 = .ok (.invokevirtual 151, 3) := by decide +kernel
theorem dX6_on_8 : decode cX6_on 8 = .ok (.ifCond .ne 7, 3) := by decide +kernel
theorem dX6_on_11 : decode cX6_on 11 = .ok (.ldc2_w 80, 3) := by decide +kernel
theorem dX6_on_14 : decode cX6_on 14 = .ok (.lreturn, 1) := by decide +kernel
theorem dX6_on_15 : decode cX6_on 15 = .ok (.aload_n 0, 1) := by decide +kernel
theorem dX6_on_16 : decode cX6_on 16 = .ok (.getfield 65, 3) := by decide +kernel
theorem dX6_on_19 : decode cX6_on 19 = .ok (.ifCond .ne 7, 3) := by decide +kernel
theorem dX6_on_22 : decode cX6_on 22 = .ok (.ldc2_w 190, 3) := by decide +kernel
theorem dX6_on_25 : decode cX6_on 25 = .ok (.lreturn, 1) := by decide +kernel
theorem dX6_on_26 : decode cX6_on 26 = .ok (.iconst 0, 1) := by decide +kernel
theorem dX6_on_27 : decode cX6_on 27 = .ok (.istore_n 2, 1) := by decide +kernel
theorem dX6_on_28 : decode cX6_on 28 = .ok (.iconst 0, 1) := by decide +kernel
theorem dX6_on_29 : decode cX6_on 29 = .ok (.istore_n 3, 1) := by decide +kernel
theorem dX6_on_30 : decode cX6_on 30 = .ok (.iconst 0, 1) := by decide +kernel
theorem dX6_on_31 : decode cX6_on 31 = .ok (.istore 4, 2) := by decide +kernel
theorem dX6_on_33 : decode cX6_on 33 = .ok (.iload 4, 2) := by decide +kernel
theorem dX6_on_35 : decode cX6_on 35 = .ok (.aload_n 0, 1) := by decide +kernel
theorem dX6_on_36 : decode cX6_on 36 = .ok (.getfield 47, 3) := by decide +kernel
theorem dX6_on_39 : decode cX6_on 39 = .ok (.getfield 203, 3) := by decide +kernel
theorem dX6_on_42 : decode cX6_on 42 = .ok (.if_icmp .ge 101, 3) := by decide +kernel
theorem dX6_on_45 : decode cX6_on 45 = .ok (.aload_n 0, 1) := by decide +kernel
theorem dX6_on_46 : decode cX6_on 46 = .ok (.getfield 47, 3) := by decide +kernel
theorem dX6_on_49 : decode cX6_on 49 = .ok (.getfield 167, 3) := by decide +kernel
theorem dX6_on_52 : decode cX6_on 52 = .ok (.iload_n 1, 1) := by decide +kernel
theorem dX6_on_53 : decode cX6_on 53 = .ok (.laload, 1) := by decide +kernel
theorem dX6_on_54 : decode cX6_on 54 = .ok (.aload_n 0, 1) := by decide +kernel
theorem dX6_on_55 : decode cX6_on 55 = .ok (.getfield 51, 3) := by decide +kernel
theorem dX6_on_58 : decode cX6_on 58 = .ok (.aload_n 0, 1) := by decide +kernel
theorem dX6_on_59 : decode cX6_on 59 = .ok (.getfield 51, 3) := by decide +kernel
theorem dX6_on_62 : decode cX6_on 62 = .ok (.getfield 167, 3) := by decide +kernel
theorem dX6_on_65 : decode cX6_on 65 = .ok (.iload 4, 2) := by decide +kernel
theorem dX6_on_67 : decode cX6_on 67 = .ok (.invokevirtual 178, 3) := by decide +kernel
theorem dX6_on_70 : decode cX6_on 70 = .ok (.lmul, 1) := by decide +kernel
theorem dX6_on_71 : decode cX6_on 71 = .ok (.lstore 5, 2) := by decide +kernel
theorem dX6_on_73 : decode cX6_on 73 = .ok (.aload_n 0, 1) := by decide +kernel
theorem dX6_on_74 : decode cX6_on 74 = .ok (.getfield 51, 3) := by decide +kernel
theorem dX6_on_77 : decode cX6_on 77 = .ok (.getfield 167, 3) := by decide +kernel
theorem dX6_on_80 : decode cX6_on 80 = .ok (.iload_n 1, 1) := by decide +kernel
theorem dX6_on_81 : decode cX6_on 81 = .ok (.laload, 1) := by decide +kernel
theorem dX6_on_82 : decode cX6_on 82 = .ok (.aload_n 0, 1) := by decide +kernel
theorem dX6_on_83 : decode cX6_on 83 = .ok (.getfield 47, 3) := by decide +kernel
theorem dX6_on_86 : decode cX6_on 86 = .ok (.aload_n 0, 1) := by decide +kernel
theorem dX6_on_87 : decode cX6_on 87 = .ok (.getfield 47, 3) := by decide +kernel
theorem dX6_on_90 : decode cX6_on 90 = .ok (.getfield 167, 3) := by decide +kernel
theorem dX6_on_93 : decode cX6_on 93 = .ok (.iload 4, 2) := by decide +kernel
theorem dX6_on_95 : decode cX6_on 95 = .ok (.invokevirtual 178, 3) := by decide +kernel
theorem dX6_on_98 : decode cX6_on 98 = .ok (.lmul, 1) := by decide +kernel
theorem dX6_on_99 : decode cX6_on 99 = .ok (.lstore 7, 2) := by decide +kernel
theorem dX6_on_101 : decode cX6_on 101 = .ok (.iload_n 2, 1) := by decide +kernel
theorem dX6_on_102 : decode cX6_on 102 = .ok (.ifCond .ne 11, 3) := by decide +kernel
theorem dX6_on_105 : decode cX6_on 105 = .ok (.lload 5, 2) := by decide +kernel
theorem dX6_on_107 : decode cX6_on 107 = .ok (.lload 7, 2) := by decide +kernel
theorem dX6_on_109 : decode cX6_on 109 = .ok (.lcmp, 1) := by decide +kernel
theorem dX6_on_110 : decode cX6_on 110 = .ok (.ifCond .le 7, 3) := by decide +kernel
theorem dX6_on_113 : decode cX6_on 113 = .ok (.iconst 1, 1) := by decide +kernel
theorem dX6_on_114 : decode cX6_on 114 = .ok (.goto 4, 3) := by decide +kernel
theorem dX6_on_117 : decode cX6_on 117 = .ok (.iconst 0, 1) := by decide +kernel
theorem dX6_on_118 : decode cX6_on 118 = .ok (.istore_n 2, 1) := by decide +kernel
theorem dX6_on_119 : decode cX6_on 119 = .ok (.iload_n 3, 1) := by decide +kernel
theorem dX6_on_120 : decode cX6_on 120 = .ok (.ifCond .ne 11, 3) := by decide +kernel
theorem dX6_on_123 : decode cX6_on 123 = .ok (.lload 5, 2) := by decide +kernel
theorem dX6_on_125 : decode cX6_on 125 = .ok (.lload 7, 2) := by decide +kernel
theorem dX6_on_127 : decode cX6_on 127 = .ok (.lcmp, 1) := by decide +kernel
theorem dX6_on_128 : decode cX6_on 128 = .ok (.ifCond .ge 7, 3) := by decide +kernel
theorem dX6_on_131 : decode cX6_on 131 = .ok (.iconst 1, 1) := by decide +kernel
theorem dX6_on_132 : decode cX6_on 132 = .ok (.goto 4, 3) := by decide +kernel
theorem dX6_on_135 : decode cX6_on 135 = .ok (.iconst 0, 1) := by decide +kernel
theorem dX6_on_136 : decode cX6_on 136 = .ok (.istore_n 3, 1) := by decide +kernel
theorem dX6_on_137 : decode cX6_on 137 = .ok (.iinc 4 1, 3) := by decide +kernel
theorem dX6_on_140 : decode cX6_on 140 = .ok (.goto (-107), 3) := by decide +kernel
theorem dX6_on_143 : decode cX6_on 143 = .ok (.iload_n 2, 1) := by decide +kernel
theorem dX6_on_144 : decode cX6_on 144 = .ok (.ifCond .eq 15, 3) := by decide +kernel
theorem dX6_on_147 : decode cX6_on 147 = .ok (.iload_n 3, 1) := by decide +kernel
theorem dX6_on_148 : decode cX6_on 148 = .ok (.ifCond .eq 9, 3) := by decide +kernel
theorem dX6_on_151 : decode cX6_on 151 = .ok (.ldc2_w 237, 3) := by decide +kernel
theorem dX6_on_154 : decode cX6_on 154 = .ok (.goto 4, 3) := by decide +kernel
theorem dX6_on_157 : decode cX6_on 157 = .ok (.lconst 1, 1) := by decide +kernel
theorem dX6_on_158 : decode cX6_on 158 = .ok (.lreturn, 1) := by decide +kernel
theorem dX6_on_159 : decode cX6_on 159 = .ok (.iload_n 3, 1) := by decide +kernel
theorem dX6_on_160 : decode cX6_on 160 = .ok (.ifCond .eq 9, 3) := by decide +kernel
theorem dX6_on_163 : decode cX6_on 163 = .ok (.ldc2_w 239, 3) := by decide +kernel
theorem dX6_on_166 : decode cX6_on 166 = .ok (.goto 4, 3) := by decide +kernel
theorem dX6_on_169 : decode cX6_on 169 = .ok (.lconst 0, 1) := by decide +kernel
theorem dX6_on_170 : decode cX6_on 170 = .ok (.lreturn, 1) := by decide +kernel
theorem dX6_edge_0 : decode cX6_edge 0 = .ok (.aload_n 0, 1) := by decide +kernel
theorem dX6_edge_1 : decode cX6_edge 1 = .ok (.getfield 47, 3) := by decide +kernel
theorem dX6_edge_4 : decode cX6_edge 4 = .ok (.iload_n 1, 1) := by decide +kernel
theorem dX6_edge_5 : decode cX6_edge 5 = .ok (.invokevirtual 151, 3) := by decide +kernel
theorem dX6_edge_8 : decode cX6_edge 8 = .ok (.ifCond .eq 14, 3) := by decide +kernel
theorem dX6_edge_11 : decode cX6_edge 11 = .ok (.aload_n 0, 1) := by decide +kernel
theorem dX6_edge_12 : decode cX6_edge 12 = .ok (.getfield 47, 3) := by decide +kernel
theorem dX6_edge_15 : decode cX6_edge 15 = .ok (.iload_n 2, 1) := by decide +kernel
theorem dX6_edge_16 : decode cX6_edge 16 = .ok (.invokevirtual 154, 3) := by decide +kernel
theorem dX6_edge_19 : decode cX6_edge 19 = .ok (.ifCond .ne 7, 3) := by decide +kernel
theorem dX6_edge_22 : decode cX6_edge 22 = .ok (.ldc2_w 80, 3) := by decide +kernel
theorem dX6_edge_25 : decode cX6_edge 25 = .ok (.lreturn, 1) := by decide +kernel
theorem dX6_edge_26 : decode cX6_edge 26 = .ok (.iconst 1, 1) := by decide +kernel
theorem dX6_edge_27 : decode cX6_edge 27 = .ok (.istore_n 3, 1) := by decide +kernel
theorem dX6_edge_28 : decode cX6_edge 28 = .ok (.iload_n 3, 1) := by decide +kernel
theorem dX6_edge_29 : decode cX6_edge 29 = .ok (.bipush 20, 2) := by decide +kernel
theorem dX6_edge_31 : decode cX6_edge 31 = .ok (.if_icmp .ge 37, 3) := by decide +kernel
theorem dX6_edge_34 : decode cX6_edge 34 = .ok (.aload_n 0, 1) := by decide +kernel
theorem dX6_edge_35 : decode cX6_edge 35 = .ok (.iload_n 1, 1) := by decide +kernel
theorem dX6_edge_36 : decode cX6_edge 36 = .ok (.iload_n 2, 1) := by decide +kernel
theorem dX6_edge_37 : decode cX6_edge 37 = .ok (.iload_n 3, 1) := by decide +kernel
theorem dX6_edge_38 : decode cX6_edge 38 = .ok (.invokevirtual 241, 3) := by decide +kernel
theorem dX6_edge_41 : decode cX6_edge 41 = .ok (.ifCond .eq 6, 3) := by decide +kernel
theorem dX6_edge_44 : decode cX6_edge 44 = .ok (.iload_n 3, 1) := by decide +kernel
theorem dX6_edge_45 : decode cX6_edge 45 = .ok (.i2l, 1) := by decide +kernel
theorem dX6_edge_46 : decode cX6_edge 46 = .ok (.lreturn, 1) := by decide +kernel
theorem dX6_edge_47 : decode cX6_edge 47 = .ok (.aload_n 0, 1) := by decide +kernel
theorem dX6_edge_48 : decode cX6_edge 48 = .ok (.iload_n 1, 1) := by decide +kernel
theorem dX6_edge_49 : decode cX6_edge 49 = .ok (.iload_n 2, 1) := by decide +kernel
theorem dX6_edge_50 : decode cX6_edge 50 = .ok (.iload_n 3, 1) := by decide +kernel
theorem dX6_edge_51 : decode cX6_edge 51 = .ok (.ineg, 1) := by decide +kernel
theorem dX6_edge_52 : decode cX6_edge 52 = .ok (.invokevirtual 241, 3) := by decide +kernel
theorem dX6_edge_55 : decode cX6_edge 55 = .ok (.ifCond .eq 7, 3) := by decide +kernel
theorem dX6_edge_58 : decode cX6_edge 58 = .ok (.iload_n 3, 1) := by decide +kernel
theorem dX6_edge_59 : decode cX6_edge 59 = .ok (.ineg, 1) := by decide +kernel
theorem dX6_edge_60 : decode cX6_edge 60 = .ok (.i2l, 1) := by decide +kernel
theorem dX6_edge_61 : decode cX6_edge 61 = .ok (.lreturn, 1) := by decide +kernel
theorem dX6_edge_62 : decode cX6_edge 62 = .ok (.iinc 3 1, 3) := by decide +kernel
theorem dX6_edge_65 : decode cX6_edge 65 = .ok (.goto (-37), 3) := by decide +kernel
theorem dX6_edge_68 : decode cX6_edge 68 = .ok (.ldc2_w 206, 3) := by decide +kernel
theorem dX6_edge_71 : decode cX6_edge 71 = .ok (.lreturn, 1) := by decide +kernel
theorem dX6_move_0 : decode cX6_move 0 = .ok (.iload_n 1, 1) := by decide +kernel
theorem dX6_move_1 : decode cX6_move 1 = .ok (.iconst 1, 1) := by decide +kernel
theorem dX6_move_2 : decode cX6_move 2 = .ok (.if_icmp .lt 8, 3) := by decide +kernel
theorem dX6_move_5 : decode cX6_move 5 = .ok (.iload_n 1, 1) := by decide +kernel
theorem dX6_move_6 : decode cX6_move 6 = .ok (.iconst 5, 1) := by decide +kernel
theorem dX6_move_7 : decode cX6_move 7 = .ok (.if_icmp .le 7, 3) := by decide +kernel
theorem dX6_move_10 : decode cX6_move 10 = .ok (.ldc2_w 80, 3) := by decide +kernel
theorem dX6_move_13 : decode cX6_move 13 = .ok (.lreturn, 1) := by decide +kernel
theorem dX6_move_14 : decode cX6_move 14 = .ok (.aload_n 0, 1) := by decide +kernel
theorem dX6_move_15 : decode cX6_move 15 = .ok (.getfield 47, 3) := by decide +kernel
theorem dX6_move_18 : decode cX6_move 18 = .ok (.invokevirtual 186, 3) := by decide +kernel
theorem dX6_move_21 : decode cX6_move 21 = .ok (.ifCond .ne 7, 3) := by decide +kernel
theorem dX6_move_24 : decode cX6_move 24 = .ok (.ldc2_w 190, 3) := by decide +kernel
theorem dX6_move_27 : decode cX6_move 27 = .ok (.lreturn, 1) := by decide +kernel
theorem dX6_move_28 : decode cX6_move 28 = .ok (.aload_n 0, 1) := by decide +kernel
theorem dX6_move_29 : decode cX6_move 29 = .ok (.invokevirtual 234, 3) := by decide +kernel
theorem dX6_move_32 : decode cX6_move 32 = .ok (.iconst 0, 1) := by decide +kernel
theorem dX6_move_33 : decode cX6_move 33 = .ok (.istore_n 2, 1) := by decide +kernel
theorem dX6_move_34 : decode cX6_move 34 = .ok (.iload_n 2, 1) := by decide +kernel
theorem dX6_move_35 : decode cX6_move 35 = .ok (.iload_n 1, 1) := by decide +kernel
theorem dX6_move_36 : decode cX6_move 36 = .ok (.if_icmp .ge 16, 3) := by decide +kernel
theorem dX6_move_39 : decode cX6_move 39 = .ok (.aload_n 0, 1) := by decide +kernel
theorem dX6_move_40 : decode cX6_move 40 = .ok (.invokevirtual 244, 3) := by decide +kernel
theorem dX6_move_43 : decode cX6_move 43 = .ok (.ifCond .eq 9, 3) := by decide +kernel
theorem dX6_move_46 : decode cX6_move 46 = .ok (.iinc 2 1, 3) := by decide +kernel
theorem dX6_move_49 : decode cX6_move 49 = .ok (.goto (-15), 3) := by decide +kernel
theorem dX6_move_52 : decode cX6_move 52 = .ok (.iload_n 2, 1) := by decide +kernel
theorem dX6_move_53 : decode cX6_move 53 = .ok (.i2l, 1) := by decide +kernel
theorem dX6_move_54 : decode cX6_move 54 = .ok (.lreturn, 1) := by decide +kernel
theorem dX6_kind_0 : decode cX6_kind 0 = .ok (.aload_n 0, 1) := by decide +kernel
theorem dX6_kind_1 : decode cX6_kind 1 = .ok (.getfield 47, 3) := by decide +kernel
theorem dX6_kind_4 : decode cX6_kind 4 = .ok (.iload_n 1, 1) := by decide +kernel
theorem dX6_kind_5 : decode cX6_kind 5 = .ok (.invokevirtual 154, 3) := by decide +kernel
theorem dX6_kind_8 : decode cX6_kind 8 = .ok (.ifCond .eq 12, 3) := by decide +kernel
theorem dX6_kind_11 : decode cX6_kind 11 = .ok (.aload_n 0, 1) := by decide +kernel
theorem dX6_kind_12 : decode cX6_kind 12 = .ok (.iload_n 1, 1) := by decide +kernel
theorem dX6_kind_13 : decode cX6_kind 13 = .ok (.invokevirtual 247, 3) := by decide +kernel
theorem dX6_kind_16 : decode cX6_kind 16 = .ok (.i2l, 1) := by decide +kernel
theorem dX6_kind_17 : decode cX6_kind 17 = .ok (.goto 6, 3) := by decide +kernel
theorem dX6_kind_20 : decode cX6_kind 20 = .ok (.ldc2_w 80, 3) := by decide +kernel
theorem dX6_kind_23 : decode cX6_kind 23 = .ok (.lreturn, 1) := by decide +kernel
theorem dX6_as_0 : decode cX6_as 0 = .ok (.aload_n 0, 1) := by decide +kernel
theorem dX6_as_1 : decode cX6_as 1 = .ok (.getfield 47, 3) := by decide +kernel
theorem dX6_as_4 : decode cX6_as 4 = .ok (.iload_n 1, 1) := by decide +kernel
theorem dX6_as_5 : decode cX6_as 5 = .ok (.invokevirtual 154, 3) := by decide +kernel
theorem dX6_as_8 : decode cX6_as 8 = .ok (.ifCond .eq 12, 3) := by decide +kernel
theorem dX6_as_11 : decode cX6_as 11 = .ok (.iload_n 2, 1) := by decide +kernel
theorem dX6_as_12 : decode cX6_as 12 = .ok (.ifCond .lt 8, 3) := by decide +kernel
theorem dX6_as_15 : decode cX6_as 15 = .ok (.iload_n 2, 1) := by decide +kernel
theorem dX6_as_16 : decode cX6_as 16 = .ok (.iconst 5, 1) := by decide +kernel
theorem dX6_as_17 : decode cX6_as 17 = .ok (.if_icmp .le 7, 3) := by decide +kernel
theorem dX6_as_20 : decode cX6_as 20 = .ok (.ldc2_w 80, 3) := by decide +kernel
theorem dX6_as_23 : decode cX6_as 23 = .ok (.lreturn, 1) := by decide +kernel
theorem dX6_as_24 : decode cX6_as 24 = .ok (.aload_n 0, 1) := by decide +kernel
theorem dX6_as_25 : decode cX6_as 25 = .ok (.iload_n 1, 1) := by decide +kernel
theorem dX6_as_26 : decode cX6_as 26 = .ok (.iload_n 2, 1) := by decide +kernel
theorem dX6_as_27 : decode cX6_as 27 = .ok (.invokevirtual 250, 3) := by decide +kernel
theorem dX6_as_30 : decode cX6_as 30 = .ok (.ifCond .eq 12, 3) := by decide +kernel
theorem dX6_as_33 : decode cX6_as 33 = .ok (.aload_n 0, 1) := by decide +kernel
theorem dX6_as_34 : decode cX6_as 34 = .ok (.iload_n 1, 1) := by decide +kernel
theorem dX6_as_35 : decode cX6_as 35 = .ok (.i2l, 1) := by decide +kernel
theorem dX6_as_36 : decode cX6_as 36 = .ok (.invokevirtual 90, 3) := by decide +kernel
theorem dX6_as_39 : decode cX6_as 39 = .ok (.goto 8, 3) := by decide +kernel
theorem dX6_as_42 : decode cX6_as 42 = .ok (.aload_n 0, 1) := by decide +kernel
theorem dX6_as_43 : decode cX6_as 43 = .ok (.iconst 3, 1) := by decide +kernel
theorem dX6_as_44 : decode cX6_as 44 = .ok (.invokevirtual 82, 3) := by decide +kernel
theorem dX6_as_47 : decode cX6_as 47 = .ok (.lreturn, 1) := by decide +kernel
theorem dX6_ask_0 : decode cX6_ask 0 = .ok (.aload_n 0, 1) := by decide +kernel
theorem dX6_ask_1 : decode cX6_ask 1 = .ok (.getfield 47, 3) := by decide +kernel
theorem dX6_ask_4 : decode cX6_ask 4 = .ok (.iload_n 1, 1) := by decide +kernel
theorem dX6_ask_5 : decode cX6_ask 5 = .ok (.invokevirtual 154, 3) := by decide +kernel
theorem dX6_ask_8 : decode cX6_ask 8 = .ok (.ifCond .eq 12, 3) := by decide +kernel
theorem dX6_ask_11 : decode cX6_ask 11 = .ok (.iload_n 2, 1) := by decide +kernel
theorem dX6_ask_12 : decode cX6_ask 12 = .ok (.ifCond .lt 8, 3) := by decide +kernel
theorem dX6_ask_15 : decode cX6_ask 15 = .ok (.iload_n 2, 1) := by decide +kernel
theorem dX6_ask_16 : decode cX6_ask 16 = .ok (.iconst 1, 1) := by decide +kernel
theorem dX6_ask_17 : decode cX6_ask 17 = .ok (.if_icmp .le 7, 3) := by decide +kernel
theorem dX6_ask_20 : decode cX6_ask 20 = .ok (.ldc2_w 80, 3) := by decide +kernel
theorem dX6_ask_23 : decode cX6_ask 23 = .ok (.lreturn, 1) := by decide +kernel
theorem dX6_ask_24 : decode cX6_ask 24 = .ok (.aload_n 0, 1) := by decide +kernel
theorem dX6_ask_25 : decode cX6_ask 25 = .ok (.getfield 26, 3) := by decide +kernel
theorem dX6_ask_28 : decode cX6_ask 28 = .ok (.invokevirtual 253, 3) := by decide +kernel
theorem dX6_ask_31 : decode cX6_ask 31 = .ok (.iload_n 2, 1) := by decide +kernel
theorem dX6_ask_32 : decode cX6_ask 32 = .ok (.ifCond .ne 12, 3) := by decide +kernel
theorem dX6_ask_35 : decode cX6_ask 35 = .ok (.aload_n 0, 1) := by decide +kernel
theorem dX6_ask_36 : decode cX6_ask 36 = .ok (.iload_n 1, 1) := by decide +kernel
theorem dX6_ask_37 : decode cX6_ask 37 = .ok (.iconst 0, 1) := by decide +kernel
theorem dX6_ask_38 : decode cX6_ask 38 = .ok (.invokevirtual 254, 3) := by decide +kernel
theorem dX6_ask_41 : decode cX6_ask 41 = .ok (.goto 9, 3) := by decide +kernel
theorem dX6_ask_44 : decode cX6_ask 44 = .ok (.aload_n 0, 1) := by decide +kernel
theorem dX6_ask_45 : decode cX6_ask 45 = .ok (.iload_n 1, 1) := by decide +kernel
theorem dX6_ask_46 : decode cX6_ask 46 = .ok (.iconst 0, 1) := by decide +kernel
theorem dX6_ask_47 : decode cX6_ask 47 = .ok (.invokevirtual 258, 3) := by decide +kernel
theorem dX6_ask_50 : decode cX6_ask 50 = .ok (.lreturn, 1) := by decide +kernel
theorem dX6_trace_0 : decode cX6_trace 0 = .ok (.aload_n 0, 1) := by decide +kernel
theorem dX6_trace_1 : decode cX6_trace 1 = .ok (.getfield 26, 3) := by decide +kernel
theorem dX6_trace_4 : decode cX6_trace 4 = .ok (.iload_n 1, 1) := by decide +kernel
theorem dX6_trace_5 : decode cX6_trace 5 = .ok (.invokevirtual 261, 3) := by decide +kernel
theorem dX6_trace_8 : decode cX6_trace 8 = .ok (.ireturn, 1) := by decide +kernel
theorem dX6_count_0 : decode cX6_count 0 = .ok (.iload_n 1, 1) := by decide +kernel
theorem dX6_count_1 : decode cX6_count 1 = .ok (.tableswitch 89 0 5 #[39, 48, 57, 66, 75, 80], 39) := by decide +kernel
theorem dX6_count_40 : decode cX6_count 40 = .ok (.aload_n 0, 1) := by decide +kernel
theorem dX6_count_41 : decode cX6_count 41 = .ok (.getfield 12, 3) := by decide +kernel
theorem dX6_count_44 : decode cX6_count 44 = .ok (.invokevirtual 264, 3) := by decide +kernel
theorem dX6_count_47 : decode cX6_count 47 = .ok (.i2l, 1) := by decide +kernel
theorem dX6_count_48 : decode cX6_count 48 = .ok (.lreturn, 1) := by decide +kernel
theorem dX6_count_49 : decode cX6_count 49 = .ok (.aload_n 0, 1) := by decide +kernel
theorem dX6_count_50 : decode cX6_count 50 = .ok (.getfield 47, 3) := by decide +kernel
theorem dX6_count_53 : decode cX6_count 53 = .ok (.getfield 145, 3) := by decide +kernel
theorem dX6_count_56 : decode cX6_count 56 = .ok (.i2l, 1) := by decide +kernel
theorem dX6_count_57 : decode cX6_count 57 = .ok (.lreturn, 1) := by decide +kernel
theorem dX6_count_58 : decode cX6_count 58 = .ok (.aload_n 0, 1) := by decide +kernel
theorem dX6_count_59 : decode cX6_count 59 = .ok (.getfield 47, 3) := by decide +kernel
theorem dX6_count_62 : decode cX6_count 62 = .ok (.getfield 203, 3) := by decide +kernel
theorem dX6_count_65 : decode cX6_count 65 = .ok (.i2l, 1) := by decide +kernel
theorem dX6_count_66 : decode cX6_count 66 = .ok (.lreturn, 1) := by decide +kernel
theorem dX6_count_67 : decode cX6_count 67 = .ok (.aload_n 0, 1) := by decide +kernel
theorem dX6_count_68 : decode cX6_count 68 = .ok (.getfield 47, 3) := by decide +kernel
theorem dX6_count_71 : decode cX6_count 71 = .ok (.invokevirtual 267, 3) := by decide +kernel
theorem dX6_count_74 : decode cX6_count 74 = .ok (.i2l, 1) := by decide +kernel
theorem dX6_count_75 : decode cX6_count 75 = .ok (.lreturn, 1) := by decide +kernel
theorem dX6_count_76 : decode cX6_count 76 = .ok (.aload_n 0, 1) := by decide +kernel
theorem dX6_count_77 : decode cX6_count 77 = .ok (.invokevirtual 270, 3) := by decide +kernel
theorem dX6_count_80 : decode cX6_count 80 = .ok (.lreturn, 1) := by decide +kernel
theorem dX6_count_81 : decode cX6_count 81 = .ok (.aload_n 0, 1) := by decide +kernel
theorem dX6_count_82 : decode cX6_count 82 = .ok (.getfield 19, 3) := by decide +kernel
theorem dX6_count_85 : decode cX6_count 85 = .ok (.getfield 273, 3) := by decide +kernel
theorem dX6_count_88 : decode cX6_count 88 = .ok (.i2l, 1) := by decide +kernel
theorem dX6_count_89 : decode cX6_count 89 = .ok (.lreturn, 1) := by decide +kernel
theorem dX6_count_90 : decode cX6_count 90 = .ok (.ldc2_w 80, 3) := by decide +kernel
theorem dX6_count_93 : decode cX6_count 93 = .ok (.lreturn, 1) := by decide +kernel
theorem dX6_status_0 : decode cX6_status 0 = .ok (.aload_n 0, 1) := by decide +kernel
theorem dX6_status_1 : decode cX6_status 1 = .ok (.getfield 69, 3) := by decide +kernel
theorem dX6_status_4 : decode cX6_status 4 = .ok (.ireturn, 1) := by decide +kernel
theorem dX6_found_0 : decode cX6_found 0 = .ok (.aload_n 0, 1) := by decide +kernel
theorem dX6_found_1 : decode cX6_found 1 = .ok (.iload_n 1, 1) := by decide +kernel
theorem dX6_found_2 : decode cX6_found 2 = .ok (.putfield 69, 3) := by decide +kernel
theorem dX6_found_5 : decode cX6_found 5 = .ok (.ldc2_w 276, 3) := by decide +kernel
theorem dX6_found_8 : decode cX6_found 8 = .ok (.iload_n 1, 1) := by decide +kernel
theorem dX6_found_9 : decode cX6_found 9 = .ok (.i2l, 1) := by decide +kernel
theorem dX6_found_10 : decode cX6_found 10 = .ok (.lsub, 1) := by decide +kernel
theorem dX6_found_11 : decode cX6_found 11 = .ok (.lreturn, 1) := by decide +kernel
theorem dX6_fine_0 : decode cX6_fine 0 = .ok (.aload_n 0, 1) := by decide +kernel
theorem dX6_fine_1 : decode cX6_fine 1 = .ok (.iconst 0, 1) := by decide +kernel
theorem dX6_fine_2 : decode cX6_fine 2 = .ok (.putfield 69, 3) := by decide +kernel
theorem dX6_fine_5 : decode cX6_fine 5 = .ok (.lload_n 1, 1) := by decide +kernel
theorem dX6_fine_6 : decode cX6_fine 6 = .ok (.lreturn, 1) := by decide +kernel
theorem dX6_findingAt_0 : decode cX6_findingAt 0 = .ok (.aload_n 0, 1) := by decide +kernel
theorem dX6_findingAt_1 : decode cX6_findingAt 1 = .ok (.getfield 12, 3) := by decide +kernel
theorem dX6_findingAt_4 : decode cX6_findingAt 4 = .ok (.iload_n 1, 1) := by decide +kernel
theorem dX6_findingAt_5 : decode cX6_findingAt 5 = .ok (.invokevirtual 94, 3) := by decide +kernel
theorem dX6_findingAt_8 : decode cX6_findingAt 8 = .ok (.ifCond .eq 5, 3) := by decide +kernel
theorem dX6_findingAt_11 : decode cX6_findingAt 11 = .ok (.iconst 1, 1) := by decide +kernel
theorem dX6_findingAt_12 : decode cX6_findingAt 12 = .ok (.ireturn, 1) := by decide +kernel
theorem dX6_findingAt_13 : decode cX6_findingAt 13 = .ok (.aload_n 0, 1) := by decide +kernel
theorem dX6_findingAt_14 : decode cX6_findingAt 14 = .ok (.getfield 12, 3) := by decide +kernel
theorem dX6_findingAt_17 : decode cX6_findingAt 17 = .ok (.iload_n 1, 1) := by decide +kernel
theorem dX6_findingAt_18 : decode cX6_findingAt 18 = .ok (.iload_n 2, 1) := by decide +kernel
theorem dX6_findingAt_19 : decode cX6_findingAt 19 = .ok (.iload_n 3, 1) := by decide +kernel
theorem dX6_findingAt_20 : decode cX6_findingAt 20 = .ok (.invokevirtual 97, 3) := by decide +kernel
theorem dX6_findingAt_23 : decode cX6_findingAt 23 = .ok (.ifCond .eq 7, 3) := by decide +kernel
theorem dX6_findingAt_26 : decode cX6_findingAt 26 = .ok (.iconst 0, 1) := by decide +kernel
theorem dX6_findingAt_27 : decode cX6_findingAt 27 = .ok (.goto 4, 3) := by decide +kernel
theorem dX6_findingAt_30 : decode cX6_findingAt 30 = .ok (.iconst 2, 1) := by decide +kernel
theorem dX6_findingAt_31 : decode cX6_findingAt 31 = .ok (.ireturn, 1) := by decide +kernel
theorem dX6_keepAhead_0 : decode cX6_keepAhead 0 = .ok (.aload_n 0, 1) := by decide +kernel
theorem dX6_keepAhead_1 : decode cX6_keepAhead 1 = .ok (.getfield 51, 3) := by decide +kernel
theorem dX6_keepAhead_4 : decode cX6_keepAhead 4 = .ok (.aload_n 0, 1) := by decide +kernel
theorem dX6_keepAhead_5 : decode cX6_keepAhead 5 = .ok (.getfield 47, 3) := by decide +kernel
theorem dX6_keepAhead_8 : decode cX6_keepAhead 8 = .ok (.invokevirtual 142, 3) := by decide +kernel
theorem dX6_keepAhead_11 : decode cX6_keepAhead 11 = .ok (.aload_n 0, 1) := by decide +kernel
theorem dX6_keepAhead_12 : decode cX6_keepAhead 12 = .ok (.iconst 1, 1) := by decide +kernel
theorem dX6_keepAhead_13 : decode cX6_keepAhead 13 = .ok (.putfield 65, 3) := by decide +kernel
theorem dX6_keepAhead_16 : decode cX6_keepAhead 16 = .ok (.return_, 1) := by decide +kernel
theorem dX6_part_0 : decode cX6_part 0 = .ok (.lload_n 0, 1) := by decide +kernel
theorem dX6_part_1 : decode cX6_part 1 = .ok (.lload_n 2, 1) := by decide +kernel
theorem dX6_part_2 : decode cX6_part 2 = .ok (.invokestatic 278, 3) := by decide +kernel
theorem dX6_part_5 : decode cX6_part 5 = .ok (.lstore 5, 2) := by decide +kernel
theorem dX6_part_7 : decode cX6_part 7 = .ok (.iload 4, 2) := by decide +kernel
theorem dX6_part_9 : decode cX6_part 9 = .ok (.ifCond .ne 7, 3) := by decide +kernel
theorem dX6_part_12 : decode cX6_part 12 = .ok (.lload_n 0, 1) := by decide +kernel
theorem dX6_part_13 : decode cX6_part 13 = .ok (.goto 4, 3) := by decide +kernel
theorem dX6_part_16 : decode cX6_part 16 = .ok (.lload_n 2, 1) := by decide +kernel
theorem dX6_part_17 : decode cX6_part 17 = .ok (.lstore 7, 2) := by decide +kernel
theorem dX6_part_19 : decode cX6_part 19 = .ok (.lload 5, 2) := by decide +kernel
theorem dX6_part_21 : decode cX6_part 21 = .ok (.lconst 1, 1) := by decide +kernel
theorem dX6_part_22 : decode cX6_part 22 = .ok (.lcmp, 1) := by decide +kernel
theorem dX6_part_23 : decode cX6_part 23 = .ok (.ifCond .le 11, 3) := by decide +kernel
theorem dX6_part_26 : decode cX6_part 26 = .ok (.lload 7, 2) := by decide +kernel
theorem dX6_part_28 : decode cX6_part 28 = .ok (.lload 5, 2) := by decide +kernel
theorem dX6_part_30 : decode cX6_part 30 = .ok (.ldiv, 1) := by decide +kernel
theorem dX6_part_31 : decode cX6_part 31 = .ok (.goto 5, 3) := by decide +kernel
theorem dX6_part_34 : decode cX6_part 34 = .ok (.lload 7, 2) := by decide +kernel
theorem dX6_part_36 : decode cX6_part 36 = .ok (.lreturn, 1) := by decide +kernel
theorem dX6_commonDivisor_0 : decode cX6_commonDivisor 0 = .ok (.lload_n 0, 1) := by decide +kernel
theorem dX6_commonDivisor_1 : decode cX6_commonDivisor 1 = .ok (.lstore 4, 2) := by decide +kernel
theorem dX6_commonDivisor_3 : decode cX6_commonDivisor 3 = .ok (.lload_n 2, 1) := by decide +kernel
theorem dX6_commonDivisor_4 : decode cX6_commonDivisor 4 = .ok (.lstore 6, 2) := by decide +kernel
theorem dX6_commonDivisor_6 : decode cX6_commonDivisor 6 = .ok (.iconst 0, 1) := by decide +kernel
theorem dX6_commonDivisor_7 : decode cX6_commonDivisor 7 = .ok (.istore 8, 2) := by decide +kernel
theorem dX6_commonDivisor_9 : decode cX6_commonDivisor 9 = .ok (.iload 8, 2) := by decide +kernel
theorem dX6_commonDivisor_11 : decode cX6_commonDivisor 11 = .ok (.sipush 200, 3) := by decide +kernel
theorem dX6_commonDivisor_14 : decode cX6_commonDivisor 14 = .ok (.if_icmp .ge 31, 3) := by decide +kernel
theorem dX6_commonDivisor_17 : decode cX6_commonDivisor 17 = .ok (.lload 6, 2) := by decide +kernel
theorem dX6_commonDivisor_19 : decode cX6_commonDivisor 19 = .ok (.lconst 0, 1) := by decide +kernel
theorem dX6_commonDivisor_20 : decode cX6_commonDivisor 20 = .ok (.lcmp, 1) := by decide +kernel
theorem dX6_commonDivisor_21 : decode cX6_commonDivisor 21 = .ok (.ifCond .eq 24, 3) := by decide +kernel
theorem dX6_commonDivisor_24 : decode cX6_commonDivisor 24 = .ok (.lload 4, 2) := by decide +kernel
theorem dX6_commonDivisor_26 : decode cX6_commonDivisor 26 = .ok (.lload 6, 2) := by decide +kernel
theorem dX6_commonDivisor_28 : decode cX6_commonDivisor 28 = .ok (.lrem, 1) := by decide +kernel
theorem dX6_commonDivisor_29 : decode cX6_commonDivisor 29 = .ok (.lstore 9, 2) := by decide +kernel
theorem dX6_commonDivisor_31 : decode cX6_commonDivisor 31 = .ok (.lload 6, 2) := by decide +kernel
theorem dX6_commonDivisor_33 : decode cX6_commonDivisor 33 = .ok (.lstore 4, 2) := by decide +kernel
theorem dX6_commonDivisor_35 : decode cX6_commonDivisor 35 = .ok (.lload 9, 2) := by decide +kernel
theorem dX6_commonDivisor_37 : decode cX6_commonDivisor 37 = .ok (.lstore 6, 2) := by decide +kernel
theorem dX6_commonDivisor_39 : decode cX6_commonDivisor 39 = .ok (.iinc 8 1, 3) := by decide +kernel
theorem dX6_commonDivisor_42 : decode cX6_commonDivisor 42 = .ok (.goto (-33), 3) := by decide +kernel
theorem dX6_commonDivisor_45 : decode cX6_commonDivisor 45 = .ok (.lload 4, 2) := by decide +kernel
theorem dX6_commonDivisor_47 : decode cX6_commonDivisor 47 = .ok (.lreturn, 1) := by decide +kernel
theorem dX6_leastRing_0 : decode cX6_leastRing 0 = .ok (.iconst 0, 1) := by decide +kernel
theorem dX6_leastRing_1 : decode cX6_leastRing 1 = .ok (.istore_n 1, 1) := by decide +kernel
theorem dX6_leastRing_2 : decode cX6_leastRing 2 = .ok (.iload_n 1, 1) := by decide +kernel
theorem dX6_leastRing_3 : decode cX6_leastRing 3 = .ok (.getstatic 282, 3) := by decide +kernel
theorem dX6_leastRing_6 : decode cX6_leastRing 6 = .ok (.arraylength, 1) := by decide +kernel
theorem dX6_leastRing_7 : decode cX6_leastRing 7 = .ok (.if_icmp .ge 28, 3) := by decide +kernel
theorem dX6_leastRing_10 : decode cX6_leastRing 10 = .ok (.aload_n 0, 1) := by decide +kernel
theorem dX6_leastRing_11 : decode cX6_leastRing 11 = .ok (.getstatic 282, 3) := by decide +kernel
theorem dX6_leastRing_14 : decode cX6_leastRing 14 = .ok (.iload_n 1, 1) := by decide +kernel
theorem dX6_leastRing_15 : decode cX6_leastRing 15 = .ok (.iaload, 1) := by decide +kernel
theorem dX6_leastRing_16 : decode cX6_leastRing 16 = .ok (.invokevirtual 285, 3) := by decide +kernel
theorem dX6_leastRing_19 : decode cX6_leastRing 19 = .ok (.ifCond .eq 10, 3) := by decide +kernel
theorem dX6_leastRing_22 : decode cX6_leastRing 22 = .ok (.getstatic 282, 3) := by decide +kernel
theorem dX6_leastRing_25 : decode cX6_leastRing 25 = .ok (.iload_n 1, 1) := by decide +kernel
theorem dX6_leastRing_26 : decode cX6_leastRing 26 = .ok (.iaload, 1) := by decide +kernel
theorem dX6_leastRing_27 : decode cX6_leastRing 27 = .ok (.i2l, 1) := by decide +kernel
theorem dX6_leastRing_28 : decode cX6_leastRing 28 = .ok (.lreturn, 1) := by decide +kernel
theorem dX6_leastRing_29 : decode cX6_leastRing 29 = .ok (.iinc 1 1, 3) := by decide +kernel
theorem dX6_leastRing_32 : decode cX6_leastRing 32 = .ok (.goto (-30), 3) := by decide +kernel
theorem dX6_leastRing_35 : decode cX6_leastRing 35 = .ok (.lconst 0, 1) := by decide +kernel
theorem dX6_leastRing_36 : decode cX6_leastRing 36 = .ok (.lreturn, 1) := by decide +kernel
theorem dX6_makesMore_0 : decode cX6_makesMore 0 = .ok (.iload_n 1, 1) := by decide +kernel
theorem dX6_makesMore_1 : decode cX6_makesMore 1 = .ok (.bipush 64, 2) := by decide +kernel
theorem dX6_makesMore_3 : decode cX6_makesMore 3 = .ok (.if_icmp .ge 7, 3) := by decide +kernel
theorem dX6_makesMore_6 : decode cX6_makesMore 6 = .ok (.iconst 2, 1) := by decide +kernel
theorem dX6_makesMore_7 : decode cX6_makesMore 7 = .ok (.goto 4, 3) := by decide +kernel
theorem dX6_makesMore_10 : decode cX6_makesMore 10 = .ok (.iconst 3, 1) := by decide +kernel
theorem dX6_makesMore_11 : decode cX6_makesMore 11 = .ok (.istore_n 2, 1) := by decide +kernel
theorem dX6_makesMore_12 : decode cX6_makesMore 12 = .ok (.lconst 1, 1) := by decide +kernel
theorem dX6_makesMore_13 : decode cX6_makesMore 13 = .ok (.lstore_n 3, 1) := by decide +kernel
theorem dX6_makesMore_14 : decode cX6_makesMore 14 = .ok (.lconst 1, 1) := by decide +kernel
theorem dX6_makesMore_15 : decode cX6_makesMore 15 = .ok (.lstore 5, 2) := by decide +kernel
theorem dX6_makesMore_17 : decode cX6_makesMore 17 = .ok (.iconst 0, 1) := by decide +kernel
theorem dX6_makesMore_18 : decode cX6_makesMore 18 = .ok (.istore 7, 2) := by decide +kernel
theorem dX6_makesMore_20 : decode cX6_makesMore 20 = .ok (.iload 7, 2) := by decide +kernel
theorem dX6_makesMore_22 : decode cX6_makesMore 22 = .ok (.iload_n 2, 1) := by decide +kernel
theorem dX6_makesMore_23 : decode cX6_makesMore 23 = .ok (.if_icmp .ge 118, 3) := by decide +kernel
theorem dX6_makesMore_26 : decode cX6_makesMore 26 = .ok (.iload_n 1, 1) := by decide +kernel
theorem dX6_makesMore_27 : decode cX6_makesMore 27 = .ok (.iload 7, 2) := by decide +kernel
theorem dX6_makesMore_29 : decode cX6_makesMore 29 = .ok (.invokestatic 288, 3) := by decide +kernel
theorem dX6_makesMore_32 : decode cX6_makesMore 32 = .ok (.istore 8, 2) := by decide +kernel
theorem dX6_makesMore_34 : decode cX6_makesMore 34 = .ok (.iload_n 1, 1) := by decide +kernel
theorem dX6_makesMore_35 : decode cX6_makesMore 35 = .ok (.iload 7, 2) := by decide +kernel
theorem dX6_makesMore_37 : decode cX6_makesMore 37 = .ok (.iconst 1, 1) := by decide +kernel
theorem dX6_makesMore_38 : decode cX6_makesMore 38 = .ok (.iadd, 1) := by decide +kernel
theorem dX6_makesMore_39 : decode cX6_makesMore 39 = .ok (.iload_n 2, 1) := by decide +kernel
theorem dX6_makesMore_40 : decode cX6_makesMore 40 = .ok (.if_icmp .ge 10, 3) := by decide +kernel
theorem dX6_makesMore_43 : decode cX6_makesMore 43 = .ok (.iload 7, 2) := by decide +kernel
theorem dX6_makesMore_45 : decode cX6_makesMore 45 = .ok (.iconst 1, 1) := by decide +kernel
theorem dX6_makesMore_46 : decode cX6_makesMore 46 = .ok (.iadd, 1) := by decide +kernel
theorem dX6_makesMore_47 : decode cX6_makesMore 47 = .ok (.goto 4, 3) := by decide +kernel
theorem dX6_makesMore_50 : decode cX6_makesMore 50 = .ok (.iconst 0, 1) := by decide +kernel
theorem dX6_makesMore_51 : decode cX6_makesMore 51 = .ok (.invokestatic 288, 3) := by decide +kernel
theorem dX6_makesMore_54 : decode cX6_makesMore 54 = .ok (.istore 9, 2) := by decide +kernel
theorem dX6_makesMore_56 : decode cX6_makesMore 56 = .ok (.aload_n 0, 1) := by decide +kernel
theorem dX6_makesMore_57 : decode cX6_makesMore 57 = .ok (.getfield 47, 3) := by decide +kernel
theorem dX6_makesMore_60 : decode cX6_makesMore 60 = .ok (.iload 8, 2) := by decide +kernel
theorem dX6_makesMore_62 : decode cX6_makesMore 62 = .ok (.invokevirtual 151, 3) := by decide +kernel
theorem dX6_makesMore_65 : decode cX6_makesMore 65 = .ok (.ifCond .eq 15, 3) := by decide +kernel
theorem dX6_makesMore_68 : decode cX6_makesMore 68 = .ok (.aload_n 0, 1) := by decide +kernel
theorem dX6_makesMore_69 : decode cX6_makesMore 69 = .ok (.getfield 47, 3) := by decide +kernel
theorem dX6_makesMore_72 : decode cX6_makesMore 72 = .ok (.iload 9, 2) := by decide +kernel
theorem dX6_makesMore_74 : decode cX6_makesMore 74 = .ok (.invokevirtual 151, 3) := by decide +kernel
theorem dX6_makesMore_77 : decode cX6_makesMore 77 = .ok (.ifCond .ne 5, 3) := by decide +kernel
theorem dX6_makesMore_80 : decode cX6_makesMore 80 = .ok (.iconst 0, 1) := by decide +kernel
theorem dX6_makesMore_81 : decode cX6_makesMore 81 = .ok (.ireturn, 1) := by decide +kernel
theorem dX6_makesMore_82 : decode cX6_makesMore 82 = .ok (.aload_n 0, 1) := by decide +kernel
theorem dX6_makesMore_83 : decode cX6_makesMore 83 = .ok (.iload 8, 2) := by decide +kernel
theorem dX6_makesMore_85 : decode cX6_makesMore 85 = .ok (.iload 9, 2) := by decide +kernel
theorem dX6_makesMore_87 : decode cX6_makesMore 87 = .ok (.invokevirtual 291, 3) := by decide +kernel
theorem dX6_makesMore_90 : decode cX6_makesMore 90 = .ok (.istore 10, 2) := by decide +kernel
theorem dX6_makesMore_92 : decode cX6_makesMore 92 = .ok (.iload 10, 2) := by decide +kernel
theorem dX6_makesMore_94 : decode cX6_makesMore 94 = .ok (.ifCond .ge 5, 3) := by decide +kernel
theorem dX6_makesMore_97 : decode cX6_makesMore 97 = .ok (.iconst 0, 1) := by decide +kernel
theorem dX6_makesMore_98 : decode cX6_makesMore 98 = .ok (.ireturn, 1) := by decide +kernel
theorem dX6_makesMore_99 : decode cX6_makesMore 99 = .ok (.lload_n 3, 1) := by decide +kernel
theorem dX6_makesMore_100 : decode cX6_makesMore 100 = .ok (.aload_n 0, 1) := by decide +kernel
theorem dX6_makesMore_101 : decode cX6_makesMore 101 = .ok (.getfield 47, 3) := by decide +kernel
theorem dX6_makesMore_104 : decode cX6_makesMore 104 = .ok (.getfield 157, 3) := by decide +kernel
theorem dX6_makesMore_107 : decode cX6_makesMore 107 = .ok (.iload 9, 2) := by decide +kernel
theorem dX6_makesMore_109 : decode cX6_makesMore 109 = .ok (.aaload, 1) := by decide +kernel
theorem dX6_makesMore_110 : decode cX6_makesMore 110 = .ok (.iload 10, 2) := by decide +kernel
theorem dX6_makesMore_112 : decode cX6_makesMore 112 = .ok (.iaload, 1) := by decide +kernel
theorem dX6_makesMore_113 : decode cX6_makesMore 113 = .ok (.i2l, 1) := by decide +kernel
theorem dX6_makesMore_114 : decode cX6_makesMore 114 = .ok (.lmul, 1) := by decide +kernel
theorem dX6_makesMore_115 : decode cX6_makesMore 115 = .ok (.lstore_n 3, 1) := by decide +kernel
theorem dX6_makesMore_116 : decode cX6_makesMore 116 = .ok (.lload 5, 2) := by decide +kernel
theorem dX6_makesMore_118 : decode cX6_makesMore 118 = .ok (.aload_n 0, 1) := by decide +kernel
theorem dX6_makesMore_119 : decode cX6_makesMore 119 = .ok (.getfield 47, 3) := by decide +kernel
theorem dX6_makesMore_122 : decode cX6_makesMore 122 = .ok (.getfield 157, 3) := by decide +kernel
theorem dX6_makesMore_125 : decode cX6_makesMore 125 = .ok (.iload 8, 2) := by decide +kernel
theorem dX6_makesMore_127 : decode cX6_makesMore 127 = .ok (.aaload, 1) := by decide +kernel
theorem dX6_makesMore_128 : decode cX6_makesMore 128 = .ok (.iload 10, 2) := by decide +kernel
theorem dX6_makesMore_130 : decode cX6_makesMore 130 = .ok (.iaload, 1) := by decide +kernel
theorem dX6_makesMore_131 : decode cX6_makesMore 131 = .ok (.i2l, 1) := by decide +kernel
theorem dX6_makesMore_132 : decode cX6_makesMore 132 = .ok (.lmul, 1) := by decide +kernel
theorem dX6_makesMore_133 : decode cX6_makesMore 133 = .ok (.lstore 5, 2) := by decide +kernel
theorem dX6_makesMore_135 : decode cX6_makesMore 135 = .ok (.iinc 7 1, 3) := by decide +kernel
theorem dX6_makesMore_138 : decode cX6_makesMore 138 = .ok (.goto (-118), 3) := by decide +kernel
theorem dX6_makesMore_141 : decode cX6_makesMore 141 = .ok (.lload_n 3, 1) := by decide +kernel
theorem dX6_makesMore_142 : decode cX6_makesMore 142 = .ok (.lload 5, 2) := by decide +kernel
theorem dX6_makesMore_144 : decode cX6_makesMore 144 = .ok (.lcmp, 1) := by decide +kernel
theorem dX6_makesMore_145 : decode cX6_makesMore 145 = .ok (.ifCond .ge 7, 3) := by decide +kernel
theorem dX6_makesMore_148 : decode cX6_makesMore 148 = .ok (.iconst 1, 1) := by decide +kernel
theorem dX6_makesMore_149 : decode cX6_makesMore 149 = .ok (.goto 4, 3) := by decide +kernel
theorem dX6_makesMore_152 : decode cX6_makesMore 152 = .ok (.iconst 0, 1) := by decide +kernel
theorem dX6_makesMore_153 : decode cX6_makesMore 153 = .ok (.ireturn, 1) := by decide +kernel
theorem dX6_landOfRing_0 : decode cX6_landOfRing 0 = .ok (.iload_n 0, 1) := by decide +kernel
theorem dX6_landOfRing_1 : decode cX6_landOfRing 1 = .ok (.iconst 3, 1) := by decide +kernel
theorem dX6_landOfRing_2 : decode cX6_landOfRing 2 = .ok (.iload_n 1, 1) := by decide +kernel
theorem dX6_landOfRing_3 : decode cX6_landOfRing 3 = .ok (.imul, 1) := by decide +kernel
theorem dX6_landOfRing_4 : decode cX6_landOfRing 4 = .ok (.ishr, 1) := by decide +kernel
theorem dX6_landOfRing_5 : decode cX6_landOfRing 5 = .ok (.bipush 7, 2) := by decide +kernel
theorem dX6_landOfRing_7 : decode cX6_landOfRing 7 = .ok (.iand, 1) := by decide +kernel
theorem dX6_landOfRing_8 : decode cX6_landOfRing 8 = .ok (.iconst 1, 1) := by decide +kernel
theorem dX6_landOfRing_9 : decode cX6_landOfRing 9 = .ok (.isub, 1) := by decide +kernel
theorem dX6_landOfRing_10 : decode cX6_landOfRing 10 = .ok (.ireturn, 1) := by decide +kernel
theorem dX6_bestGift_0 : decode cX6_bestGift 0 = .ok (.iconst (-1), 1) := by decide +kernel
theorem dX6_bestGift_1 : decode cX6_bestGift 1 = .ok (.istore_n 3, 1) := by decide +kernel
theorem dX6_bestGift_2 : decode cX6_bestGift 2 = .ok (.iconst 0, 1) := by decide +kernel
theorem dX6_bestGift_3 : decode cX6_bestGift 3 = .ok (.istore 4, 2) := by decide +kernel
theorem dX6_bestGift_5 : decode cX6_bestGift 5 = .ok (.iload 4, 2) := by decide +kernel
theorem dX6_bestGift_7 : decode cX6_bestGift 7 = .ok (.aload_n 0, 1) := by decide +kernel
theorem dX6_bestGift_8 : decode cX6_bestGift 8 = .ok (.getfield 47, 3) := by decide +kernel
theorem dX6_bestGift_11 : decode cX6_bestGift 11 = .ok (.getfield 203, 3) := by decide +kernel
theorem dX6_bestGift_14 : decode cX6_bestGift 14 = .ok (.if_icmp .ge 84, 3) := by decide +kernel
theorem dX6_bestGift_17 : decode cX6_bestGift 17 = .ok (.aload_n 0, 1) := by decide +kernel
theorem dX6_bestGift_18 : decode cX6_bestGift 18 = .ok (.getfield 61, 3) := by decide +kernel
theorem dX6_bestGift_21 : decode cX6_bestGift 21 = .ok (.iload 4, 2) := by decide +kernel
theorem dX6_bestGift_23 : decode cX6_bestGift 23 = .ok (.iaload, 1) := by decide +kernel
theorem dX6_bestGift_24 : decode cX6_bestGift 24 = .ok (.iload_n 1, 1) := by decide +kernel
theorem dX6_bestGift_25 : decode cX6_bestGift 25 = .ok (.ishr, 1) := by decide +kernel
theorem dX6_bestGift_26 : decode cX6_bestGift 26 = .ok (.iconst 1, 1) := by decide +kernel
theorem dX6_bestGift_27 : decode cX6_bestGift 27 = .ok (.iand, 1) := by decide +kernel
theorem dX6_bestGift_28 : decode cX6_bestGift 28 = .ok (.ifCond .ne 6, 3) := by decide +kernel
theorem dX6_bestGift_31 : decode cX6_bestGift 31 = .ok (.goto 61, 3) := by decide +kernel
theorem dX6_bestGift_34 : decode cX6_bestGift 34 = .ok (.iload_n 3, 1) := by decide +kernel
theorem dX6_bestGift_35 : decode cX6_bestGift 35 = .ok (.ifCond .lt 54, 3) := by decide +kernel
theorem dX6_bestGift_38 : decode cX6_bestGift 38 = .ok (.aload_n 0, 1) := by decide +kernel
theorem dX6_bestGift_39 : decode cX6_bestGift 39 = .ok (.getfield 47, 3) := by decide +kernel
theorem dX6_bestGift_42 : decode cX6_bestGift 42 = .ok (.getfield 157, 3) := by decide +kernel
theorem dX6_bestGift_45 : decode cX6_bestGift 45 = .ok (.iload_n 2, 1) := by decide +kernel
theorem dX6_bestGift_46 : decode cX6_bestGift 46 = .ok (.aaload, 1) := by decide +kernel
theorem dX6_bestGift_47 : decode cX6_bestGift 47 = .ok (.iload 4, 2) := by decide +kernel
theorem dX6_bestGift_49 : decode cX6_bestGift 49 = .ok (.iaload, 1) := by decide +kernel
theorem dX6_bestGift_50 : decode cX6_bestGift 50 = .ok (.aload_n 0, 1) := by decide +kernel
theorem dX6_bestGift_51 : decode cX6_bestGift 51 = .ok (.getfield 47, 3) := by decide +kernel
theorem dX6_bestGift_54 : decode cX6_bestGift 54 = .ok (.getfield 157, 3) := by decide +kernel
theorem dX6_bestGift_57 : decode cX6_bestGift 57 = .ok (.iload_n 1, 1) := by decide +kernel
theorem dX6_bestGift_58 : decode cX6_bestGift 58 = .ok (.aaload, 1) := by decide +kernel
theorem dX6_bestGift_59 : decode cX6_bestGift 59 = .ok (.iload_n 3, 1) := by decide +kernel
theorem dX6_bestGift_60 : decode cX6_bestGift 60 = .ok (.iaload, 1) := by decide +kernel
theorem dX6_bestGift_61 : decode cX6_bestGift 61 = .ok (.imul, 1) := by decide +kernel
theorem dX6_bestGift_62 : decode cX6_bestGift 62 = .ok (.aload_n 0, 1) := by decide +kernel
theorem dX6_bestGift_63 : decode cX6_bestGift 63 = .ok (.getfield 47, 3) := by decide +kernel
theorem dX6_bestGift_66 : decode cX6_bestGift 66 = .ok (.getfield 157, 3) := by decide +kernel
theorem dX6_bestGift_69 : decode cX6_bestGift 69 = .ok (.iload_n 2, 1) := by decide +kernel
theorem dX6_bestGift_70 : decode cX6_bestGift 70 = .ok (.aaload, 1) := by decide +kernel
theorem dX6_bestGift_71 : decode cX6_bestGift 71 = .ok (.iload_n 3, 1) := by decide +kernel
theorem dX6_bestGift_72 : decode cX6_bestGift 72 = .ok (.iaload, 1) := by decide +kernel
theorem dX6_bestGift_73 : decode cX6_bestGift 73 = .ok (.aload_n 0, 1) := by decide +kernel
theorem dX6_bestGift_74 : decode cX6_bestGift 74 = .ok (.getfield 47, 3) := by decide +kernel
theorem dX6_bestGift_77 : decode cX6_bestGift 77 = .ok (.getfield 157, 3) := by decide +kernel
theorem dX6_bestGift_80 : decode cX6_bestGift 80 = .ok (.iload_n 1, 1) := by decide +kernel
theorem dX6_bestGift_81 : decode cX6_bestGift 81 = .ok (.aaload, 1) := by decide +kernel
theorem dX6_bestGift_82 : decode cX6_bestGift 82 = .ok (.iload 4, 2) := by decide +kernel
theorem dX6_bestGift_84 : decode cX6_bestGift 84 = .ok (.iaload, 1) := by decide +kernel
theorem dX6_bestGift_85 : decode cX6_bestGift 85 = .ok (.imul, 1) := by decide +kernel
theorem dX6_bestGift_86 : decode cX6_bestGift 86 = .ok (.if_icmp .ge 6, 3) := by decide +kernel
theorem dX6_bestGift_89 : decode cX6_bestGift 89 = .ok (.iload 4, 2) := by decide +kernel
theorem dX6_bestGift_91 : decode cX6_bestGift 91 = .ok (.istore_n 3, 1) := by decide +kernel
theorem dX6_bestGift_92 : decode cX6_bestGift 92 = .ok (.iinc 4 1, 3) := by decide +kernel
theorem dX6_bestGift_95 : decode cX6_bestGift 95 = .ok (.goto (-90), 3) := by decide +kernel
theorem dX6_bestGift_98 : decode cX6_bestGift 98 = .ok (.iload_n 3, 1) := by decide +kernel
theorem dX6_bestGift_99 : decode cX6_bestGift 99 = .ok (.ireturn, 1) := by decide +kernel
theorem dX6_makersChange_0 : decode cX6_makersChange 0 = .ok (.aload_n 0, 1) := by decide +kernel
theorem dX6_makersChange_1 : decode cX6_makersChange 1 = .ok (.getfield 47, 3) := by decide +kernel
theorem dX6_makersChange_4 : decode cX6_makersChange 4 = .ok (.getfield 157, 3) := by decide +kernel
theorem dX6_makersChange_7 : decode cX6_makersChange 7 = .ok (.iload_n 1, 1) := by decide +kernel
theorem dX6_makersChange_8 : decode cX6_makersChange 8 = .ok (.aaload, 1) := by decide +kernel
theorem dX6_makersChange_9 : decode cX6_makersChange 9 = .ok (.iload_n 2, 1) := by decide +kernel
theorem dX6_makersChange_10 : decode cX6_makersChange 10 = .ok (.iaload, 1) := by decide +kernel
theorem dX6_makersChange_11 : decode cX6_makersChange 11 = .ok (.iload_n 3, 1) := by decide +kernel
theorem dX6_makersChange_12 : decode cX6_makersChange 12 = .ok (.iadd, 1) := by decide +kernel
theorem dX6_makersChange_13 : decode cX6_makersChange 13 = .ok (.istore 4, 2) := by decide +kernel
theorem dX6_makersChange_15 : decode cX6_makersChange 15 = .ok (.iload 4, 2) := by decide +kernel
theorem dX6_makersChange_17 : decode cX6_makersChange 17 = .ok (.iconst 1, 1) := by decide +kernel
theorem dX6_makersChange_18 : decode cX6_makersChange 18 = .ok (.if_icmp .lt 10, 3) := by decide +kernel
theorem dX6_makersChange_21 : decode cX6_makersChange 21 = .ok (.iload 4, 2) := by decide +kernel
theorem dX6_makersChange_23 : decode cX6_makersChange 23 = .ok (.bipush 20, 2) := by decide +kernel
theorem dX6_makersChange_25 : decode cX6_makersChange 25 = .ok (.if_icmp .le 5, 3) := by decide +kernel
theorem dX6_makersChange_28 : decode cX6_makersChange 28 = .ok (.iconst 0, 1) := by decide +kernel
theorem dX6_makersChange_29 : decode cX6_makersChange 29 = .ok (.ireturn, 1) := by decide +kernel
theorem dX6_makersChange_30 : decode cX6_makersChange 30 = .ok (.aload_n 0, 1) := by decide +kernel
theorem dX6_makersChange_31 : decode cX6_makersChange 31 = .ok (.getfield 54, 3) := by decide +kernel
theorem dX6_makersChange_34 : decode cX6_makersChange 34 = .ok (.aload_n 0, 1) := by decide +kernel
theorem dX6_makersChange_35 : decode cX6_makersChange 35 = .ok (.getfield 47, 3) := by decide +kernel
theorem dX6_makersChange_38 : decode cX6_makersChange 38 = .ok (.invokevirtual 142, 3) := by decide +kernel
theorem dX6_makersChange_41 : decode cX6_makersChange 41 = .ok (.aload_n 0, 1) := by decide +kernel
theorem dX6_makersChange_42 : decode cX6_makersChange 42 = .ok (.getfield 54, 3) := by decide +kernel
theorem dX6_makersChange_45 : decode cX6_makersChange 45 = .ok (.getfield 157, 3) := by decide +kernel
theorem dX6_makersChange_48 : decode cX6_makersChange 48 = .ok (.iload_n 1, 1) := by decide +kernel
theorem dX6_makersChange_49 : decode cX6_makersChange 49 = .ok (.aaload, 1) := by decide +kernel
theorem dX6_makersChange_50 : decode cX6_makersChange 50 = .ok (.iload_n 2, 1) := by decide +kernel
theorem dX6_makersChange_51 : decode cX6_makersChange 51 = .ok (.iload 4, 2) := by decide +kernel
theorem dX6_makersChange_53 : decode cX6_makersChange 53 = .ok (.iastore, 1) := by decide +kernel
theorem dX6_makersChange_54 : decode cX6_makersChange 54 = .ok (.aload_n 0, 1) := by decide +kernel
theorem dX6_makersChange_55 : decode cX6_makersChange 55 = .ok (.getfield 33, 3) := by decide +kernel
theorem dX6_makersChange_58 : decode cX6_makersChange 58 = .ok (.aload_n 0, 1) := by decide +kernel
theorem dX6_makersChange_59 : decode cX6_makersChange 59 = .ok (.getfield 54, 3) := by decide +kernel
theorem dX6_makersChange_62 : decode cX6_makersChange 62 = .ok (.invokevirtual 138, 3) := by decide +kernel
theorem dX6_makersChange_65 : decode cX6_makersChange 65 = .ok (.aload_n 0, 1) := by decide +kernel
theorem dX6_makersChange_66 : decode cX6_makersChange 66 = .ok (.getfield 54, 3) := by decide +kernel
theorem dX6_makersChange_69 : decode cX6_makersChange 69 = .ok (.aload_n 0, 1) := by decide +kernel
theorem dX6_makersChange_70 : decode cX6_makersChange 70 = .ok (.getfield 54, 3) := by decide +kernel
theorem dX6_makersChange_73 : decode cX6_makersChange 73 = .ok (.getfield 167, 3) := by decide +kernel
theorem dX6_makersChange_76 : decode cX6_makersChange 76 = .ok (.iload_n 2, 1) := by decide +kernel
theorem dX6_makersChange_77 : decode cX6_makersChange 77 = .ok (.invokevirtual 174, 3) := by decide +kernel
theorem dX6_makersChange_80 : decode cX6_makersChange 80 = .ok (.aload_n 0, 1) := by decide +kernel
theorem dX6_makersChange_81 : decode cX6_makersChange 81 = .ok (.getfield 47, 3) := by decide +kernel
theorem dX6_makersChange_84 : decode cX6_makersChange 84 = .ok (.aload_n 0, 1) := by decide +kernel
theorem dX6_makersChange_85 : decode cX6_makersChange 85 = .ok (.getfield 47, 3) := by decide +kernel
theorem dX6_makersChange_88 : decode cX6_makersChange 88 = .ok (.getfield 167, 3) := by decide +kernel
theorem dX6_makersChange_91 : decode cX6_makersChange 91 = .ok (.iload_n 2, 1) := by decide +kernel
theorem dX6_makersChange_92 : decode cX6_makersChange 92 = .ok (.invokevirtual 174, 3) := by decide +kernel
theorem dX6_makersChange_95 : decode cX6_makersChange 95 = .ok (.if_icmp .eq 7, 3) := by decide +kernel
theorem dX6_makersChange_98 : decode cX6_makersChange 98 = .ok (.iconst 1, 1) := by decide +kernel
theorem dX6_makersChange_99 : decode cX6_makersChange 99 = .ok (.goto 4, 3) := by decide +kernel
theorem dX6_makersChange_102 : decode cX6_makersChange 102 = .ok (.iconst 0, 1) := by decide +kernel
theorem dX6_makersChange_103 : decode cX6_makersChange 103 = .ok (.ireturn, 1) := by decide +kernel
theorem dX6_oneGoes_0 : decode cX6_oneGoes 0 = .ok (.iconst 0, 1) := by decide +kernel
theorem dX6_oneGoes_1 : decode cX6_oneGoes 1 = .ok (.istore_n 1, 1) := by decide +kernel
theorem dX6_oneGoes_2 : decode cX6_oneGoes 2 = .ok (.iconst 0, 1) := by decide +kernel
theorem dX6_oneGoes_3 : decode cX6_oneGoes 3 = .ok (.istore_n 2, 1) := by decide +kernel
theorem dX6_oneGoes_4 : decode cX6_oneGoes 4 = .ok (.iconst 1, 1) := by decide +kernel
theorem dX6_oneGoes_5 : decode cX6_oneGoes 5 = .ok (.istore_n 3, 1) := by decide +kernel
theorem dX6_oneGoes_6 : decode cX6_oneGoes 6 = .ok (.iload_n 3, 1) := by decide +kernel
theorem dX6_oneGoes_7 : decode cX6_oneGoes 7 = .ok (.aload_n 0, 1) := by decide +kernel
theorem dX6_oneGoes_8 : decode cX6_oneGoes 8 = .ok (.getfield 47, 3) := by decide +kernel
theorem dX6_oneGoes_11 : decode cX6_oneGoes 11 = .ok (.getfield 145, 3) := by decide +kernel
theorem dX6_oneGoes_14 : decode cX6_oneGoes 14 = .ok (.if_icmp .ge 57, 3) := by decide +kernel
theorem dX6_oneGoes_17 : decode cX6_oneGoes 17 = .ok (.aload_n 0, 1) := by decide +kernel
theorem dX6_oneGoes_18 : decode cX6_oneGoes 18 = .ok (.getfield 47, 3) := by decide +kernel
theorem dX6_oneGoes_21 : decode cX6_oneGoes 21 = .ok (.getfield 167, 3) := by decide +kernel
theorem dX6_oneGoes_24 : decode cX6_oneGoes 24 = .ok (.iload_n 3, 1) := by decide +kernel
theorem dX6_oneGoes_25 : decode cX6_oneGoes 25 = .ok (.laload, 1) := by decide +kernel
theorem dX6_oneGoes_26 : decode cX6_oneGoes 26 = .ok (.aload_n 0, 1) := by decide +kernel
theorem dX6_oneGoes_27 : decode cX6_oneGoes 27 = .ok (.getfield 47, 3) := by decide +kernel
theorem dX6_oneGoes_30 : decode cX6_oneGoes 30 = .ok (.getfield 167, 3) := by decide +kernel
theorem dX6_oneGoes_33 : decode cX6_oneGoes 33 = .ok (.iload_n 1, 1) := by decide +kernel
theorem dX6_oneGoes_34 : decode cX6_oneGoes 34 = .ok (.laload, 1) := by decide +kernel
theorem dX6_oneGoes_35 : decode cX6_oneGoes 35 = .ok (.lcmp, 1) := by decide +kernel
theorem dX6_oneGoes_36 : decode cX6_oneGoes 36 = .ok (.ifCond .ge 5, 3) := by decide +kernel
theorem dX6_oneGoes_39 : decode cX6_oneGoes 39 = .ok (.iload_n 3, 1) := by decide +kernel
theorem dX6_oneGoes_40 : decode cX6_oneGoes 40 = .ok (.istore_n 1, 1) := by decide +kernel
theorem dX6_oneGoes_41 : decode cX6_oneGoes 41 = .ok (.aload_n 0, 1) := by decide +kernel
theorem dX6_oneGoes_42 : decode cX6_oneGoes 42 = .ok (.getfield 47, 3) := by decide +kernel
theorem dX6_oneGoes_45 : decode cX6_oneGoes 45 = .ok (.getfield 167, 3) := by decide +kernel
theorem dX6_oneGoes_48 : decode cX6_oneGoes 48 = .ok (.iload_n 3, 1) := by decide +kernel
theorem dX6_oneGoes_49 : decode cX6_oneGoes 49 = .ok (.laload, 1) := by decide +kernel
theorem dX6_oneGoes_50 : decode cX6_oneGoes 50 = .ok (.aload_n 0, 1) := by decide +kernel
theorem dX6_oneGoes_51 : decode cX6_oneGoes 51 = .ok (.getfield 47, 3) := by decide +kernel
theorem dX6_oneGoes_54 : decode cX6_oneGoes 54 = .ok (.getfield 167, 3) := by decide +kernel
theorem dX6_oneGoes_57 : decode cX6_oneGoes 57 = .ok (.iload_n 2, 1) := by decide +kernel
theorem dX6_oneGoes_58 : decode cX6_oneGoes 58 = .ok (.laload, 1) := by decide +kernel
theorem dX6_oneGoes_59 : decode cX6_oneGoes 59 = .ok (.lcmp, 1) := by decide +kernel
theorem dX6_oneGoes_60 : decode cX6_oneGoes 60 = .ok (.ifCond .le 5, 3) := by decide +kernel
theorem dX6_oneGoes_63 : decode cX6_oneGoes 63 = .ok (.iload_n 3, 1) := by decide +kernel
theorem dX6_oneGoes_64 : decode cX6_oneGoes 64 = .ok (.istore_n 2, 1) := by decide +kernel
theorem dX6_oneGoes_65 : decode cX6_oneGoes 65 = .ok (.iinc 3 1, 3) := by decide +kernel
theorem dX6_oneGoes_68 : decode cX6_oneGoes 68 = .ok (.goto (-62), 3) := by decide +kernel
theorem dX6_oneGoes_71 : decode cX6_oneGoes 71 = .ok (.iload_n 1, 1) := by decide +kernel
theorem dX6_oneGoes_72 : decode cX6_oneGoes 72 = .ok (.iload_n 2, 1) := by decide +kernel
theorem dX6_oneGoes_73 : decode cX6_oneGoes 73 = .ok (.if_icmp .eq 30, 3) := by decide +kernel
theorem dX6_oneGoes_76 : decode cX6_oneGoes 76 = .ok (.aload_n 0, 1) := by decide +kernel
theorem dX6_oneGoes_77 : decode cX6_oneGoes 77 = .ok (.getfield 47, 3) := by decide +kernel
theorem dX6_oneGoes_80 : decode cX6_oneGoes 80 = .ok (.getfield 161, 3) := by decide +kernel
theorem dX6_oneGoes_83 : decode cX6_oneGoes 83 = .ok (.iload_n 1, 1) := by decide +kernel
theorem dX6_oneGoes_84 : decode cX6_oneGoes 84 = .ok (.iaload, 1) := by decide +kernel
theorem dX6_oneGoes_85 : decode cX6_oneGoes 85 = .ok (.iconst 2, 1) := by decide +kernel
theorem dX6_oneGoes_86 : decode cX6_oneGoes 86 = .ok (.if_icmp .lt 17, 3) := by decide +kernel
theorem dX6_oneGoes_89 : decode cX6_oneGoes 89 = .ok (.aload_n 0, 1) := by decide +kernel
theorem dX6_oneGoes_90 : decode cX6_oneGoes 90 = .ok (.getfield 47, 3) := by decide +kernel
theorem dX6_oneGoes_93 : decode cX6_oneGoes 93 = .ok (.getfield 161, 3) := by decide +kernel
theorem dX6_oneGoes_96 : decode cX6_oneGoes 96 = .ok (.iload_n 2, 1) := by decide +kernel
theorem dX6_oneGoes_97 : decode cX6_oneGoes 97 = .ok (.iaload, 1) := by decide +kernel
theorem dX6_oneGoes_98 : decode cX6_oneGoes 98 = .ok (.bipush 99, 2) := by decide +kernel
theorem dX6_oneGoes_100 : decode cX6_oneGoes 100 = .ok (.if_icmp .lt 5, 3) := by decide +kernel
theorem dX6_oneGoes_103 : decode cX6_oneGoes 103 = .ok (.iconst 0, 1) := by decide +kernel
theorem dX6_oneGoes_104 : decode cX6_oneGoes 104 = .ok (.ireturn, 1) := by decide +kernel
theorem dX6_oneGoes_105 : decode cX6_oneGoes 105 = .ok (.aload_n 0, 1) := by decide +kernel
theorem dX6_oneGoes_106 : decode cX6_oneGoes 106 = .ok (.getfield 54, 3) := by decide +kernel
theorem dX6_oneGoes_109 : decode cX6_oneGoes 109 = .ok (.aload_n 0, 1) := by decide +kernel
theorem dX6_oneGoes_110 : decode cX6_oneGoes 110 = .ok (.getfield 47, 3) := by decide +kernel
theorem dX6_oneGoes_113 : decode cX6_oneGoes 113 = .ok (.invokevirtual 142, 3) := by decide +kernel
theorem dX6_oneGoes_116 : decode cX6_oneGoes 116 = .ok (.aload_n 0, 1) := by decide +kernel
theorem dX6_oneGoes_117 : decode cX6_oneGoes 117 = .ok (.getfield 54, 3) := by decide +kernel
theorem dX6_oneGoes_120 : decode cX6_oneGoes 120 = .ok (.getfield 161, 3) := by decide +kernel
theorem dX6_oneGoes_123 : decode cX6_oneGoes 123 = .ok (.iload_n 1, 1) := by decide +kernel
theorem dX6_oneGoes_124 : decode cX6_oneGoes 124 = .ok (.dup2, 1) := by decide +kernel
theorem dX6_oneGoes_125 : decode cX6_oneGoes 125 = .ok (.iaload, 1) := by decide +kernel
theorem dX6_oneGoes_126 : decode cX6_oneGoes 126 = .ok (.iconst 1, 1) := by decide +kernel
theorem dX6_oneGoes_127 : decode cX6_oneGoes 127 = .ok (.isub, 1) := by decide +kernel
theorem dX6_oneGoes_128 : decode cX6_oneGoes 128 = .ok (.iastore, 1) := by decide +kernel
theorem dX6_oneGoes_129 : decode cX6_oneGoes 129 = .ok (.aload_n 0, 1) := by decide +kernel
theorem dX6_oneGoes_130 : decode cX6_oneGoes 130 = .ok (.getfield 54, 3) := by decide +kernel
theorem dX6_oneGoes_133 : decode cX6_oneGoes 133 = .ok (.getfield 161, 3) := by decide +kernel
theorem dX6_oneGoes_136 : decode cX6_oneGoes 136 = .ok (.iload_n 2, 1) := by decide +kernel
theorem dX6_oneGoes_137 : decode cX6_oneGoes 137 = .ok (.dup2, 1) := by decide +kernel
theorem dX6_oneGoes_138 : decode cX6_oneGoes 138 = .ok (.iaload, 1) := by decide +kernel
theorem dX6_oneGoes_139 : decode cX6_oneGoes 139 = .ok (.iconst 1, 1) := by decide +kernel
theorem dX6_oneGoes_140 : decode cX6_oneGoes 140 = .ok (.iadd, 1) := by decide +kernel
theorem dX6_oneGoes_141 : decode cX6_oneGoes 141 = .ok (.iastore, 1) := by decide +kernel
theorem dX6_oneGoes_142 : decode cX6_oneGoes 142 = .ok (.aload_n 0, 1) := by decide +kernel
theorem dX6_oneGoes_143 : decode cX6_oneGoes 143 = .ok (.getfield 33, 3) := by decide +kernel
theorem dX6_oneGoes_146 : decode cX6_oneGoes 146 = .ok (.aload_n 0, 1) := by decide +kernel
theorem dX6_oneGoes_147 : decode cX6_oneGoes 147 = .ok (.getfield 54, 3) := by decide +kernel
theorem dX6_oneGoes_150 : decode cX6_oneGoes 150 = .ok (.invokevirtual 138, 3) := by decide +kernel
theorem dX6_oneGoes_153 : decode cX6_oneGoes 153 = .ok (.aload_n 0, 1) := by decide +kernel
theorem dX6_oneGoes_154 : decode cX6_oneGoes 154 = .ok (.getfield 54, 3) := by decide +kernel
theorem dX6_oneGoes_157 : decode cX6_oneGoes 157 = .ok (.getfield 167, 3) := by decide +kernel
theorem dX6_oneGoes_160 : decode cX6_oneGoes 160 = .ok (.iload_n 2, 1) := by decide +kernel
theorem dX6_oneGoes_161 : decode cX6_oneGoes 161 = .ok (.laload, 1) := by decide +kernel
theorem dX6_oneGoes_162 : decode cX6_oneGoes 162 = .ok (.aload_n 0, 1) := by decide +kernel
theorem dX6_oneGoes_163 : decode cX6_oneGoes 163 = .ok (.getfield 54, 3) := by decide +kernel
theorem dX6_oneGoes_166 : decode cX6_oneGoes 166 = .ok (.getfield 167, 3) := by decide +kernel
theorem dX6_oneGoes_169 : decode cX6_oneGoes 169 = .ok (.iload_n 1, 1) := by decide +kernel
theorem dX6_oneGoes_170 : decode cX6_oneGoes 170 = .ok (.laload, 1) := by decide +kernel
theorem dX6_oneGoes_171 : decode cX6_oneGoes 171 = .ok (.lcmp, 1) := by decide +kernel
theorem dX6_oneGoes_172 : decode cX6_oneGoes 172 = .ok (.ifCond .ge 5, 3) := by decide +kernel
theorem dX6_oneGoes_175 : decode cX6_oneGoes 175 = .ok (.iconst 0, 1) := by decide +kernel
theorem dX6_oneGoes_176 : decode cX6_oneGoes 176 = .ok (.ireturn, 1) := by decide +kernel
theorem dX6_oneGoes_177 : decode cX6_oneGoes 177 = .ok (.aload_n 0, 1) := by decide +kernel
theorem dX6_oneGoes_178 : decode cX6_oneGoes 178 = .ok (.getfield 47, 3) := by decide +kernel
theorem dX6_oneGoes_181 : decode cX6_oneGoes 181 = .ok (.aload_n 0, 1) := by decide +kernel
theorem dX6_oneGoes_182 : decode cX6_oneGoes 182 = .ok (.getfield 54, 3) := by decide +kernel
theorem dX6_oneGoes_185 : decode cX6_oneGoes 185 = .ok (.invokevirtual 142, 3) := by decide +kernel
theorem dX6_oneGoes_188 : decode cX6_oneGoes 188 = .ok (.iconst 1, 1) := by decide +kernel
theorem dX6_oneGoes_189 : decode cX6_oneGoes 189 = .ok (.ireturn, 1) := by decide +kernel
theorem dX6_kindOf_0 : decode cX6_kindOf 0 = .ok (.iconst 5, 1) := by decide +kernel
theorem dX6_kindOf_1 : decode cX6_kindOf 1 = .ok (.istore_n 2, 1) := by decide +kernel
theorem dX6_kindOf_2 : decode cX6_kindOf 2 = .ok (.iload_n 2, 1) := by decide +kernel
theorem dX6_kindOf_3 : decode cX6_kindOf 3 = .ok (.ifCond .le 20, 3) := by decide +kernel
theorem dX6_kindOf_6 : decode cX6_kindOf 6 = .ok (.aload_n 0, 1) := by decide +kernel
theorem dX6_kindOf_7 : decode cX6_kindOf 7 = .ok (.iload_n 1, 1) := by decide +kernel
theorem dX6_kindOf_8 : decode cX6_kindOf 8 = .ok (.iload_n 2, 1) := by decide +kernel
theorem dX6_kindOf_9 : decode cX6_kindOf 9 = .ok (.invokevirtual 250, 3) := by decide +kernel
theorem dX6_kindOf_12 : decode cX6_kindOf 12 = .ok (.ifCond .eq 5, 3) := by decide +kernel
theorem dX6_kindOf_15 : decode cX6_kindOf 15 = .ok (.iload_n 2, 1) := by decide +kernel
theorem dX6_kindOf_16 : decode cX6_kindOf 16 = .ok (.ireturn, 1) := by decide +kernel
theorem dX6_kindOf_17 : decode cX6_kindOf 17 = .ok (.iinc 2 (-1), 3) := by decide +kernel
theorem dX6_kindOf_20 : decode cX6_kindOf 20 = .ok (.goto (-18), 3) := by decide +kernel
theorem dX6_kindOf_23 : decode cX6_kindOf 23 = .ok (.iconst 0, 1) := by decide +kernel
theorem dX6_kindOf_24 : decode cX6_kindOf 24 = .ok (.ireturn, 1) := by decide +kernel
theorem dX6_isOfKind_0 : decode cX6_isOfKind 0 = .ok (.aload_n 0, 1) := by decide +kernel
theorem dX6_isOfKind_1 : decode cX6_isOfKind 1 = .ok (.getfield 47, 3) := by decide +kernel
theorem dX6_isOfKind_4 : decode cX6_isOfKind 4 = .ok (.aload_n 0, 1) := by decide +kernel
theorem dX6_isOfKind_5 : decode cX6_isOfKind 5 = .ok (.getfield 47, 3) := by decide +kernel
theorem dX6_isOfKind_8 : decode cX6_isOfKind 8 = .ok (.getfield 167, 3) := by decide +kernel
theorem dX6_isOfKind_11 : decode cX6_isOfKind 11 = .ok (.iload_n 1, 1) := by decide +kernel
theorem dX6_isOfKind_12 : decode cX6_isOfKind 12 = .ok (.invokevirtual 174, 3) := by decide +kernel
theorem dX6_isOfKind_15 : decode cX6_isOfKind 15 = .ok (.istore_n 3, 1) := by decide +kernel
theorem dX6_isOfKind_16 : decode cX6_isOfKind 16 = .ok (.iload_n 2, 1) := by decide +kernel
theorem dX6_isOfKind_17 : decode cX6_isOfKind 17 = .ok (.tableswitch 142 1 5 #[35, 49, 63, 88, 99], 35) := by decide +kernel
theorem dX6_isOfKind_52 : decode cX6_isOfKind 52 = .ok (.iload_n 3, 1) := by decide +kernel
theorem dX6_isOfKind_53 : decode cX6_isOfKind 53 = .ok (.invokestatic 294, 3) := by decide +kernel
theorem dX6_isOfKind_56 : decode cX6_isOfKind 56 = .ok (.iconst 1, 1) := by decide +kernel
theorem dX6_isOfKind_57 : decode cX6_isOfKind 57 = .ok (.if_icmp .ne 7, 3) := by decide +kernel
theorem dX6_isOfKind_60 : decode cX6_isOfKind 60 = .ok (.iconst 1, 1) := by decide +kernel
theorem dX6_isOfKind_61 : decode cX6_isOfKind 61 = .ok (.goto 4, 3) := by decide +kernel
theorem dX6_isOfKind_64 : decode cX6_isOfKind 64 = .ok (.iconst 0, 1) := by decide +kernel
theorem dX6_isOfKind_65 : decode cX6_isOfKind 65 = .ok (.ireturn, 1) := by decide +kernel
theorem dX6_isOfKind_66 : decode cX6_isOfKind 66 = .ok (.iload_n 3, 1) := by decide +kernel
theorem dX6_isOfKind_67 : decode cX6_isOfKind 67 = .ok (.invokestatic 294, 3) := by decide +kernel
theorem dX6_isOfKind_70 : decode cX6_isOfKind 70 = .ok (.iconst 1, 1) := by decide +kernel
theorem dX6_isOfKind_71 : decode cX6_isOfKind 71 = .ok (.if_icmp .le 7, 3) := by decide +kernel
theorem dX6_isOfKind_74 : decode cX6_isOfKind 74 = .ok (.iconst 1, 1) := by decide +kernel
theorem dX6_isOfKind_75 : decode cX6_isOfKind 75 = .ok (.goto 4, 3) := by decide +kernel
theorem dX6_isOfKind_78 : decode cX6_isOfKind 78 = .ok (.iconst 0, 1) := by decide +kernel
theorem dX6_isOfKind_79 : decode cX6_isOfKind 79 = .ok (.ireturn, 1) := by decide +kernel
theorem dX6_isOfKind_80 : decode cX6_isOfKind 80 = .ok (.iload_n 3, 1) := by decide +kernel
theorem dX6_isOfKind_81 : decode cX6_isOfKind 81 = .ok (.invokestatic 294, 3) := by decide +kernel
theorem dX6_isOfKind_84 : decode cX6_isOfKind 84 = .ok (.iconst 1, 1) := by decide +kernel
theorem dX6_isOfKind_85 : decode cX6_isOfKind 85 = .ok (.if_icmp .le 18, 3) := by decide +kernel
theorem dX6_isOfKind_88 : decode cX6_isOfKind 88 = .ok (.iload_n 3, 1) := by decide +kernel
theorem dX6_isOfKind_89 : decode cX6_isOfKind 89 = .ok (.aload_n 0, 1) := by decide +kernel
theorem dX6_isOfKind_90 : decode cX6_isOfKind 90 = .ok (.getfield 47, 3) := by decide +kernel
theorem dX6_isOfKind_93 : decode cX6_isOfKind 93 = .ok (.invokevirtual 225, 3) := by decide +kernel
theorem dX6_isOfKind_96 : decode cX6_isOfKind 96 = .ok (.if_icmp .ne 7, 3) := by decide +kernel
theorem dX6_isOfKind_99 : decode cX6_isOfKind 99 = .ok (.iconst 1, 1) := by decide +kernel
theorem dX6_isOfKind_100 : decode cX6_isOfKind 100 = .ok (.goto 4, 3) := by decide +kernel
theorem dX6_isOfKind_103 : decode cX6_isOfKind 103 = .ok (.iconst 0, 1) := by decide +kernel
theorem dX6_isOfKind_104 : decode cX6_isOfKind 104 = .ok (.ireturn, 1) := by decide +kernel
theorem dX6_isOfKind_105 : decode cX6_isOfKind 105 = .ok (.iload_n 3, 1) := by decide +kernel
theorem dX6_isOfKind_106 : decode cX6_isOfKind 106 = .ok (.iconst 1, 1) := by decide +kernel
theorem dX6_isOfKind_107 : decode cX6_isOfKind 107 = .ok (.if_icmp .ne 7, 3) := by decide +kernel
theorem dX6_isOfKind_110 : decode cX6_isOfKind 110 = .ok (.iconst 1, 1) := by decide +kernel
theorem dX6_isOfKind_111 : decode cX6_isOfKind 111 = .ok (.goto 4, 3) := by decide +kernel
theorem dX6_isOfKind_114 : decode cX6_isOfKind 114 = .ok (.iconst 0, 1) := by decide +kernel
theorem dX6_isOfKind_115 : decode cX6_isOfKind 115 = .ok (.ireturn, 1) := by decide +kernel
theorem dX6_isOfKind_116 : decode cX6_isOfKind 116 = .ok (.iload_n 3, 1) := by decide +kernel
theorem dX6_isOfKind_117 : decode cX6_isOfKind 117 = .ok (.iconst 1, 1) := by decide +kernel
theorem dX6_isOfKind_118 : decode cX6_isOfKind 118 = .ok (.if_icmp .ne 39, 3) := by decide +kernel
theorem dX6_isOfKind_121 : decode cX6_isOfKind 121 = .ok (.aload_n 0, 1) := by decide +kernel
theorem dX6_isOfKind_122 : decode cX6_isOfKind 122 = .ok (.getfield 47, 3) := by decide +kernel
theorem dX6_isOfKind_125 : decode cX6_isOfKind 125 = .ok (.aload_n 0, 1) := by decide +kernel
theorem dX6_isOfKind_126 : decode cX6_isOfKind 126 = .ok (.getfield 47, 3) := by decide +kernel
theorem dX6_isOfKind_129 : decode cX6_isOfKind 129 = .ok (.getfield 167, 3) := by decide +kernel
theorem dX6_isOfKind_132 : decode cX6_isOfKind 132 = .ok (.iload_n 1, 1) := by decide +kernel
theorem dX6_isOfKind_133 : decode cX6_isOfKind 133 = .ok (.invokevirtual 178, 3) := by decide +kernel
theorem dX6_isOfKind_136 : decode cX6_isOfKind 136 = .ok (.ldc2_w 299, 3) := by decide +kernel
theorem dX6_isOfKind_139 : decode cX6_isOfKind 139 = .ok (.aload_n 0, 1) := by decide +kernel
theorem dX6_isOfKind_140 : decode cX6_isOfKind 140 = .ok (.getfield 47, 3) := by decide +kernel
theorem dX6_isOfKind_143 : decode cX6_isOfKind 143 = .ok (.getfield 167, 3) := by decide +kernel
theorem dX6_isOfKind_146 : decode cX6_isOfKind 146 = .ok (.iconst 0, 1) := by decide +kernel
theorem dX6_isOfKind_147 : decode cX6_isOfKind 147 = .ok (.laload, 1) := by decide +kernel
theorem dX6_isOfKind_148 : decode cX6_isOfKind 148 = .ok (.lmul, 1) := by decide +kernel
theorem dX6_isOfKind_149 : decode cX6_isOfKind 149 = .ok (.lcmp, 1) := by decide +kernel
theorem dX6_isOfKind_150 : decode cX6_isOfKind 150 = .ok (.ifCond .lt 7, 3) := by decide +kernel
theorem dX6_isOfKind_153 : decode cX6_isOfKind 153 = .ok (.iconst 1, 1) := by decide +kernel
theorem dX6_isOfKind_154 : decode cX6_isOfKind 154 = .ok (.goto 4, 3) := by decide +kernel
theorem dX6_isOfKind_157 : decode cX6_isOfKind 157 = .ok (.iconst 0, 1) := by decide +kernel
theorem dX6_isOfKind_158 : decode cX6_isOfKind 158 = .ok (.ireturn, 1) := by decide +kernel
theorem dX6_isOfKind_159 : decode cX6_isOfKind 159 = .ok (.iconst 1, 1) := by decide +kernel
theorem dX6_isOfKind_160 : decode cX6_isOfKind 160 = .ok (.ireturn, 1) := by decide +kernel
theorem dX6_commonGoods_0 : decode cX6_commonGoods 0 = .ok (.iconst 0, 1) := by decide +kernel
theorem dX6_commonGoods_1 : decode cX6_commonGoods 1 = .ok (.istore_n 1, 1) := by decide +kernel
theorem dX6_commonGoods_2 : decode cX6_commonGoods 2 = .ok (.iconst 0, 1) := by decide +kernel
theorem dX6_commonGoods_3 : decode cX6_commonGoods 3 = .ok (.istore_n 2, 1) := by decide +kernel
theorem dX6_commonGoods_4 : decode cX6_commonGoods 4 = .ok (.iload_n 2, 1) := by decide +kernel
theorem dX6_commonGoods_5 : decode cX6_commonGoods 5 = .ok (.aload_n 0, 1) := by decide +kernel
theorem dX6_commonGoods_6 : decode cX6_commonGoods 6 = .ok (.getfield 47, 3) := by decide +kernel
theorem dX6_commonGoods_9 : decode cX6_commonGoods 9 = .ok (.getfield 203, 3) := by decide +kernel
theorem dX6_commonGoods_12 : decode cX6_commonGoods 12 = .ok (.if_icmp .ge 21, 3) := by decide +kernel
theorem dX6_commonGoods_15 : decode cX6_commonGoods 15 = .ok (.aload_n 0, 1) := by decide +kernel
theorem dX6_commonGoods_16 : decode cX6_commonGoods 16 = .ok (.iload_n 2, 1) := by decide +kernel
theorem dX6_commonGoods_17 : decode cX6_commonGoods 17 = .ok (.iconst 2, 1) := by decide +kernel
theorem dX6_commonGoods_18 : decode cX6_commonGoods 18 = .ok (.invokevirtual 250, 3) := by decide +kernel
theorem dX6_commonGoods_21 : decode cX6_commonGoods 21 = .ok (.ifCond .eq 6, 3) := by decide +kernel
theorem dX6_commonGoods_24 : decode cX6_commonGoods 24 = .ok (.iinc 1 1, 3) := by decide +kernel
theorem dX6_commonGoods_27 : decode cX6_commonGoods 27 = .ok (.iinc 2 1, 3) := by decide +kernel
theorem dX6_commonGoods_30 : decode cX6_commonGoods 30 = .ok (.goto (-26), 3) := by decide +kernel
theorem dX6_commonGoods_33 : decode cX6_commonGoods 33 = .ok (.iload_n 1, 1) := by decide +kernel
theorem dX6_commonGoods_34 : decode cX6_commonGoods 34 = .ok (.i2l, 1) := by decide +kernel
theorem dX6_commonGoods_35 : decode cX6_commonGoods 35 = .ok (.lreturn, 1) := by decide +kernel
theorem dX6_sizeOf_0 : decode cX6_sizeOf 0 = .ok (.aload_n 0, 1) := by decide +kernel
theorem dX6_sizeOf_1 : decode cX6_sizeOf 1 = .ok (.getstatic 301, 3) := by decide +kernel
theorem dX6_sizeOf_4 : decode cX6_sizeOf 4 = .ok (.aload_n 0, 1) := by decide +kernel
theorem dX6_sizeOf_5 : decode cX6_sizeOf 5 = .ok (.iload_n 1, 1) := by decide +kernel
theorem dX6_sizeOf_6 : decode cX6_sizeOf 6 = .ok (.invokevirtual 247, 3) := by decide +kernel
theorem dX6_sizeOf_9 : decode cX6_sizeOf 9 = .ok (.iaload, 1) := by decide +kernel
theorem dX6_sizeOf_10 : decode cX6_sizeOf 10 = .ok (.iload_n 1, 1) := by decide +kernel
theorem dX6_sizeOf_11 : decode cX6_sizeOf 11 = .ok (.iload_n 2, 1) := by decide +kernel
theorem dX6_sizeOf_12 : decode cX6_sizeOf 12 = .ok (.iconst 1, 1) := by decide +kernel
theorem dX6_sizeOf_13 : decode cX6_sizeOf 13 = .ok (.iadd, 1) := by decide +kernel
theorem dX6_sizeOf_14 : decode cX6_sizeOf 14 = .ok (.invokevirtual 304, 3) := by decide +kernel
theorem dX6_sizeOf_17 : decode cX6_sizeOf 17 = .ok (.lreturn, 1) := by decide +kernel
theorem dX6_markOf_0 : decode cX6_markOf 0 = .ok (.aload_n 0, 1) := by decide +kernel
theorem dX6_markOf_1 : decode cX6_markOf 1 = .ok (.getstatic 308, 3) := by decide +kernel
theorem dX6_markOf_4 : decode cX6_markOf 4 = .ok (.aload_n 0, 1) := by decide +kernel
theorem dX6_markOf_5 : decode cX6_markOf 5 = .ok (.iload_n 1, 1) := by decide +kernel
theorem dX6_markOf_6 : decode cX6_markOf 6 = .ok (.invokevirtual 247, 3) := by decide +kernel
theorem dX6_markOf_9 : decode cX6_markOf 9 = .ok (.iaload, 1) := by decide +kernel
theorem dX6_markOf_10 : decode cX6_markOf 10 = .ok (.iload_n 1, 1) := by decide +kernel
theorem dX6_markOf_11 : decode cX6_markOf 11 = .ok (.iload_n 2, 1) := by decide +kernel
theorem dX6_markOf_12 : decode cX6_markOf 12 = .ok (.iconst 1, 1) := by decide +kernel
theorem dX6_markOf_13 : decode cX6_markOf 13 = .ok (.iadd, 1) := by decide +kernel
theorem dX6_markOf_14 : decode cX6_markOf 14 = .ok (.invokevirtual 304, 3) := by decide +kernel
theorem dX6_markOf_17 : decode cX6_markOf 17 = .ok (.lreturn, 1) := by decide +kernel
theorem dX6_body_0 : decode cX6_body 0 = .ok (.iload_n 3, 1) := by decide +kernel
theorem dX6_body_1 : decode cX6_body 1 = .ok (.bipush 20, 2) := by decide +kernel
theorem dX6_body_3 : decode cX6_body 3 = .ok (.if_icmp .le 5, 3) := by decide +kernel
theorem dX6_body_6 : decode cX6_body 6 = .ok (.lconst 0, 1) := by decide +kernel
theorem dX6_body_7 : decode cX6_body 7 = .ok (.lreturn, 1) := by decide +kernel
theorem dX6_body_8 : decode cX6_body 8 = .ok (.aload_n 0, 1) := by decide +kernel
theorem dX6_body_9 : decode cX6_body 9 = .ok (.getfield 26, 3) := by decide +kernel
theorem dX6_body_12 : decode cX6_body 12 = .ok (.iload_n 1, 1) := by decide +kernel
theorem dX6_body_13 : decode cX6_body 13 = .ok (.invokevirtual 311, 3) := by decide +kernel
theorem dX6_body_16 : decode cX6_body 16 = .ok (.iload_n 1, 1) := by decide +kernel
theorem dX6_body_17 : decode cX6_body 17 = .ok (.tableswitch 243 10 23 #[71, 82, 102, 133, 146, 161, 243, 243, 243, 243, 181, 184, 208, 228], 71) := by decide +kernel
theorem dX6_body_88 : decode cX6_body 88 = .ok (.aload_n 0, 1) := by decide +kernel
theorem dX6_body_89 : decode cX6_body 89 = .ok (.getfield 47, 3) := by decide +kernel
theorem dX6_body_92 : decode cX6_body 92 = .ok (.getfield 164, 3) := by decide +kernel
theorem dX6_body_95 : decode cX6_body 95 = .ok (.iload_n 2, 1) := by decide +kernel
theorem dX6_body_96 : decode cX6_body 96 = .ok (.iaload, 1) := by decide +kernel
theorem dX6_body_97 : decode cX6_body 97 = .ok (.i2l, 1) := by decide +kernel
theorem dX6_body_98 : decode cX6_body 98 = .ok (.lreturn, 1) := by decide +kernel
theorem dX6_body_99 : decode cX6_body 99 = .ok (.aload_n 0, 1) := by decide +kernel
theorem dX6_body_100 : decode cX6_body 100 = .ok (.bipush 10, 2) := by decide +kernel
theorem dX6_body_102 : decode cX6_body 102 = .ok (.iload_n 2, 1) := by decide +kernel
theorem dX6_body_103 : decode cX6_body 103 = .ok (.iload_n 3, 1) := by decide +kernel
theorem dX6_body_104 : decode cX6_body 104 = .ok (.iconst 1, 1) := by decide +kernel
theorem dX6_body_105 : decode cX6_body 105 = .ok (.iadd, 1) := by decide +kernel
theorem dX6_body_106 : decode cX6_body 106 = .ok (.invokevirtual 304, 3) := by decide +kernel
theorem dX6_body_109 : decode cX6_body 109 = .ok (.aload_n 0, 1) := by decide +kernel
theorem dX6_body_110 : decode cX6_body 110 = .ok (.iload_n 2, 1) := by decide +kernel
theorem dX6_body_111 : decode cX6_body 111 = .ok (.iload_n 3, 1) := by decide +kernel
theorem dX6_body_112 : decode cX6_body 112 = .ok (.iconst 1, 1) := by decide +kernel
theorem dX6_body_113 : decode cX6_body 113 = .ok (.iadd, 1) := by decide +kernel
theorem dX6_body_114 : decode cX6_body 114 = .ok (.invokevirtual 258, 3) := by decide +kernel
theorem dX6_body_117 : decode cX6_body 117 = .ok (.ladd, 1) := by decide +kernel
theorem dX6_body_118 : decode cX6_body 118 = .ok (.lreturn, 1) := by decide +kernel
theorem dX6_body_119 : decode cX6_body 119 = .ok (.aload_n 0, 1) := by decide +kernel
theorem dX6_body_120 : decode cX6_body 120 = .ok (.bipush 10, 2) := by decide +kernel
theorem dX6_body_122 : decode cX6_body 122 = .ok (.iload_n 2, 1) := by decide +kernel
theorem dX6_body_123 : decode cX6_body 123 = .ok (.iload_n 3, 1) := by decide +kernel
theorem dX6_body_124 : decode cX6_body 124 = .ok (.iconst 1, 1) := by decide +kernel
theorem dX6_body_125 : decode cX6_body 125 = .ok (.iadd, 1) := by decide +kernel
theorem dX6_body_126 : decode cX6_body 126 = .ok (.invokevirtual 304, 3) := by decide +kernel
theorem dX6_body_129 : decode cX6_body 129 = .ok (.aload_n 0, 1) := by decide +kernel
theorem dX6_body_130 : decode cX6_body 130 = .ok (.getfield 47, 3) := by decide +kernel
theorem dX6_body_133 : decode cX6_body 133 = .ok (.aload_n 0, 1) := by decide +kernel
theorem dX6_body_134 : decode cX6_body 134 = .ok (.getfield 47, 3) := by decide +kernel
theorem dX6_body_137 : decode cX6_body 137 = .ok (.getfield 167, 3) := by decide +kernel
theorem dX6_body_140 : decode cX6_body 140 = .ok (.iload_n 2, 1) := by decide +kernel
theorem dX6_body_141 : decode cX6_body 141 = .ok (.invokevirtual 174, 3) := by decide +kernel
theorem dX6_body_144 : decode cX6_body 144 = .ok (.invokestatic 294, 3) := by decide +kernel
theorem dX6_body_147 : decode cX6_body 147 = .ok (.i2l, 1) := by decide +kernel
theorem dX6_body_148 : decode cX6_body 148 = .ok (.lmul, 1) := by decide +kernel
theorem dX6_body_149 : decode cX6_body 149 = .ok (.lreturn, 1) := by decide +kernel
theorem dX6_body_150 : decode cX6_body 150 = .ok (.aload_n 0, 1) := by decide +kernel
theorem dX6_body_151 : decode cX6_body 151 = .ok (.bipush 12, 2) := by decide +kernel
theorem dX6_body_153 : decode cX6_body 153 = .ok (.iload_n 2, 1) := by decide +kernel
theorem dX6_body_154 : decode cX6_body 154 = .ok (.iload_n 3, 1) := by decide +kernel
theorem dX6_body_155 : decode cX6_body 155 = .ok (.iconst 1, 1) := by decide +kernel
theorem dX6_body_156 : decode cX6_body 156 = .ok (.iadd, 1) := by decide +kernel
theorem dX6_body_157 : decode cX6_body 157 = .ok (.invokevirtual 304, 3) := by decide +kernel
theorem dX6_body_160 : decode cX6_body 160 = .ok (.lconst 1, 1) := by decide +kernel
theorem dX6_body_161 : decode cX6_body 161 = .ok (.lsub, 1) := by decide +kernel
theorem dX6_body_162 : decode cX6_body 162 = .ok (.lreturn, 1) := by decide +kernel
theorem dX6_body_163 : decode cX6_body 163 = .ok (.aload_n 0, 1) := by decide +kernel
theorem dX6_body_164 : decode cX6_body 164 = .ok (.bipush 11, 2) := by decide +kernel
theorem dX6_body_166 : decode cX6_body 166 = .ok (.iload_n 2, 1) := by decide +kernel
theorem dX6_body_167 : decode cX6_body 167 = .ok (.iload_n 3, 1) := by decide +kernel
theorem dX6_body_168 : decode cX6_body 168 = .ok (.iconst 1, 1) := by decide +kernel
theorem dX6_body_169 : decode cX6_body 169 = .ok (.iadd, 1) := by decide +kernel
theorem dX6_body_170 : decode cX6_body 170 = .ok (.invokevirtual 304, 3) := by decide +kernel
theorem dX6_body_173 : decode cX6_body 173 = .ok (.ldc2_w 237, 3) := by decide +kernel
theorem dX6_body_176 : decode cX6_body 176 = .ok (.lmul, 1) := by decide +kernel
theorem dX6_body_177 : decode cX6_body 177 = .ok (.lreturn, 1) := by decide +kernel
theorem dX6_body_178 : decode cX6_body 178 = .ok (.aload_n 0, 1) := by decide +kernel
theorem dX6_body_179 : decode cX6_body 179 = .ok (.bipush 14, 2) := by decide +kernel
theorem dX6_body_181 : decode cX6_body 181 = .ok (.iload_n 2, 1) := by decide +kernel
theorem dX6_body_182 : decode cX6_body 182 = .ok (.iload_n 3, 1) := by decide +kernel
theorem dX6_body_183 : decode cX6_body 183 = .ok (.iconst 1, 1) := by decide +kernel
theorem dX6_body_184 : decode cX6_body 184 = .ok (.iadd, 1) := by decide +kernel
theorem dX6_body_185 : decode cX6_body 185 = .ok (.invokevirtual 304, 3) := by decide +kernel
theorem dX6_body_188 : decode cX6_body 188 = .ok (.aload_n 0, 1) := by decide +kernel
theorem dX6_body_189 : decode cX6_body 189 = .ok (.iload_n 2, 1) := by decide +kernel
theorem dX6_body_190 : decode cX6_body 190 = .ok (.iload_n 3, 1) := by decide +kernel
theorem dX6_body_191 : decode cX6_body 191 = .ok (.iconst 1, 1) := by decide +kernel
theorem dX6_body_192 : decode cX6_body 192 = .ok (.iadd, 1) := by decide +kernel
theorem dX6_body_193 : decode cX6_body 193 = .ok (.invokevirtual 258, 3) := by decide +kernel
theorem dX6_body_196 : decode cX6_body 196 = .ok (.lsub, 1) := by decide +kernel
theorem dX6_body_197 : decode cX6_body 197 = .ok (.lreturn, 1) := by decide +kernel
theorem dX6_body_198 : decode cX6_body 198 = .ok (.iload_n 2, 1) := by decide +kernel
theorem dX6_body_199 : decode cX6_body 199 = .ok (.i2l, 1) := by decide +kernel
theorem dX6_body_200 : decode cX6_body 200 = .ok (.lreturn, 1) := by decide +kernel
theorem dX6_body_201 : decode cX6_body 201 = .ok (.aload_n 0, 1) := by decide +kernel
theorem dX6_body_202 : decode cX6_body 202 = .ok (.bipush 20, 2) := by decide +kernel
theorem dX6_body_204 : decode cX6_body 204 = .ok (.iload_n 2, 1) := by decide +kernel
theorem dX6_body_205 : decode cX6_body 205 = .ok (.iload_n 3, 1) := by decide +kernel
theorem dX6_body_206 : decode cX6_body 206 = .ok (.iconst 1, 1) := by decide +kernel
theorem dX6_body_207 : decode cX6_body 207 = .ok (.iadd, 1) := by decide +kernel
theorem dX6_body_208 : decode cX6_body 208 = .ok (.invokevirtual 304, 3) := by decide +kernel
theorem dX6_body_211 : decode cX6_body 211 = .ok (.bipush 10, 2) := by decide +kernel
theorem dX6_body_213 : decode cX6_body 213 = .ok (.aload_n 0, 1) := by decide +kernel
theorem dX6_body_214 : decode cX6_body 214 = .ok (.getfield 47, 3) := by decide +kernel
theorem dX6_body_217 : decode cX6_body 217 = .ok (.iload_n 2, 1) := by decide +kernel
theorem dX6_body_218 : decode cX6_body 218 = .ok (.invokevirtual 315, 3) := by decide +kernel
theorem dX6_body_221 : decode cX6_body 221 = .ok (.imul, 1) := by decide +kernel
theorem dX6_body_222 : decode cX6_body 222 = .ok (.i2l, 1) := by decide +kernel
theorem dX6_body_223 : decode cX6_body 223 = .ok (.ladd, 1) := by decide +kernel
theorem dX6_body_224 : decode cX6_body 224 = .ok (.lreturn, 1) := by decide +kernel
theorem dX6_body_225 : decode cX6_body 225 = .ok (.aload_n 0, 1) := by decide +kernel
theorem dX6_body_226 : decode cX6_body 226 = .ok (.bipush 20, 2) := by decide +kernel
theorem dX6_body_228 : decode cX6_body 228 = .ok (.iload_n 2, 1) := by decide +kernel
theorem dX6_body_229 : decode cX6_body 229 = .ok (.iload_n 3, 1) := by decide +kernel
theorem dX6_body_230 : decode cX6_body 230 = .ok (.iconst 1, 1) := by decide +kernel
theorem dX6_body_231 : decode cX6_body 231 = .ok (.iadd, 1) := by decide +kernel
theorem dX6_body_232 : decode cX6_body 232 = .ok (.invokevirtual 304, 3) := by decide +kernel
theorem dX6_body_235 : decode cX6_body 235 = .ok (.aload_n 0, 1) := by decide +kernel
theorem dX6_body_236 : decode cX6_body 236 = .ok (.iload_n 2, 1) := by decide +kernel
theorem dX6_body_237 : decode cX6_body 237 = .ok (.iload_n 3, 1) := by decide +kernel
theorem dX6_body_238 : decode cX6_body 238 = .ok (.iconst 1, 1) := by decide +kernel
theorem dX6_body_239 : decode cX6_body 239 = .ok (.iadd, 1) := by decide +kernel
theorem dX6_body_240 : decode cX6_body 240 = .ok (.invokevirtual 254, 3) := by decide +kernel
theorem dX6_body_243 : decode cX6_body 243 = .ok (.ladd, 1) := by decide +kernel
theorem dX6_body_244 : decode cX6_body 244 = .ok (.lreturn, 1) := by decide +kernel
theorem dX6_body_245 : decode cX6_body 245 = .ok (.aload_n 0, 1) := by decide +kernel
theorem dX6_body_246 : decode cX6_body 246 = .ok (.bipush 21, 2) := by decide +kernel
theorem dX6_body_248 : decode cX6_body 248 = .ok (.iload_n 2, 1) := by decide +kernel
theorem dX6_body_249 : decode cX6_body 249 = .ok (.iload_n 3, 1) := by decide +kernel
theorem dX6_body_250 : decode cX6_body 250 = .ok (.iconst 1, 1) := by decide +kernel
theorem dX6_body_251 : decode cX6_body 251 = .ok (.iadd, 1) := by decide +kernel
theorem dX6_body_252 : decode cX6_body 252 = .ok (.invokevirtual 304, 3) := by decide +kernel
theorem dX6_body_255 : decode cX6_body 255 = .ok (.ldc2_w 232, 3) := by decide +kernel
theorem dX6_body_258 : decode cX6_body 258 = .ok (.ladd, 1) := by decide +kernel
theorem dX6_body_259 : decode cX6_body 259 = .ok (.lreturn, 1) := by decide +kernel
theorem dX6_body_260 : decode cX6_body 260 = .ok (.lconst 0, 1) := by decide +kernel
theorem dX6_body_261 : decode cX6_body 261 = .ok (.lreturn, 1) := by decide +kernel
