theorem dX6_has_35 : decode cX6_has 35 = .ok (.aload_n 0, 1) := by decide +kernel
theorem dX6_has_36 : decode cX6_has 36 = .ok (.getfield 112, 3) := by decide +kernel
theorem dX6_has_39 : decode cX6_has 39 = .ok (.goto 4, 3) := by decide +kernel
theorem dX6_has_42 : decode cX6_has 42 = .ok (.lconst 0, 1) := by decide +kernel
theorem dX6_has_43 : decode cX6_has 43 = .ok (.lreturn, 1) := by decide +kernel
theorem dX6_has_44 : decode cX6_has 44 = .ok (.iload_n 1, 1) := by decide +kernel
theorem dX6_has_45 : decode cX6_has 45 = .ok (.iconst (-1), 1) := by decide +kernel
theorem dX6_has_46 : decode cX6_has 46 = .ok (.if_icmp .ne 19, 3) := by decide +kernel
theorem dX6_has_49 : decode cX6_has 49 = .ok (.iload_n 2, 1) := by decide +kernel
theorem dX6_has_50 : decode cX6_has 50 = .ok (.ifCond .ne 10, 3) := by decide +kernel
theorem dX6_has_53 : decode cX6_has 53 = .ok (.aload_n 0, 1) := by decide +kernel
theorem dX6_has_54 : decode cX6_has 54 = .ok (.getfield 105, 3) := by decide +kernel
theorem dX6_has_57 : decode cX6_has 57 = .ok (.goto 7, 3) := by decide +kernel
theorem dX6_has_60 : decode cX6_has 60 = .ok (.aload_n 0, 1) := by decide +kernel
theorem dX6_has_61 : decode cX6_has 61 = .ok (.getfield 109, 3) := by decide +kernel
theorem dX6_has_64 : decode cX6_has 64 = .ok (.lreturn, 1) := by decide +kernel
theorem dX6_has_65 : decode cX6_has 65 = .ok (.iload_n 2, 1) := by decide +kernel
theorem dX6_has_66 : decode cX6_has 66 = .ok (.ifCond .ne 12, 3) := by decide +kernel
theorem dX6_has_69 : decode cX6_has 69 = .ok (.aload_n 0, 1) := by decide +kernel
theorem dX6_has_70 : decode cX6_has 70 = .ok (.getfield 7, 3) := by decide +kernel
theorem dX6_has_73 : decode cX6_has 73 = .ok (.iload_n 1, 1) := by decide +kernel
theorem dX6_has_74 : decode cX6_has 74 = .ok (.laload, 1) := by decide +kernel
theorem dX6_has_75 : decode cX6_has 75 = .ok (.goto 9, 3) := by decide +kernel
theorem dX6_has_78 : decode cX6_has 78 = .ok (.aload_n 0, 1) := by decide +kernel
theorem dX6_has_79 : decode cX6_has 79 = .ok (.getfield 13, 3) := by decide +kernel
theorem dX6_has_82 : decode cX6_has 82 = .ok (.iload_n 1, 1) := by decide +kernel
theorem dX6_has_83 : decode cX6_has 83 = .ok (.laload, 1) := by decide +kernel
theorem dX6_has_84 : decode cX6_has 84 = .ok (.lreturn, 1) := by decide +kernel
theorem dX6_of_0 : decode cX6_of 0 = .ok (.aload_n 0, 1) := by decide +kernel
theorem dX6_of_1 : decode cX6_of 1 = .ok (.iload_n 1, 1) := by decide +kernel
theorem dX6_of_2 : decode cX6_of 2 = .ok (.invokevirtual 141, 3) := by decide +kernel
theorem dX6_of_5 : decode cX6_of 5 = .ok (.ifCond .eq 15, 3) := by decide +kernel
theorem dX6_of_8 : decode cX6_of 8 = .ok (.iload_n 2, 1) := by decide +kernel
theorem dX6_of_9 : decode cX6_of 9 = .ok (.i2l, 1) := by decide +kernel
theorem dX6_of_10 : decode cX6_of 10 = .ok (.lconst 0, 1) := by decide +kernel
theorem dX6_of_11 : decode cX6_of 11 = .ok (.ldc2_w 139, 3) := by decide +kernel
theorem dX6_of_14 : decode cX6_of 14 = .ok (.invokestatic 91, 3) := by decide +kernel
theorem dX6_of_17 : decode cX6_of 17 = .ok (.ifCond .ne 6, 3) := by decide +kernel
theorem dX6_of_20 : decode cX6_of 20 = .ok (.bipush (-2), 2) := by decide +kernel
theorem dX6_of_22 : decode cX6_of 22 = .ok (.ireturn, 1) := by decide +kernel
theorem dX6_of_23 : decode cX6_of 23 = .ok (.iload_n 2, 1) := by decide +kernel
theorem dX6_of_24 : decode cX6_of 24 = .ok (.iconst 1, 1) := by decide +kernel
theorem dX6_of_25 : decode cX6_of 25 = .ok (.if_icmp .le 14, 3) := by decide +kernel
theorem dX6_of_28 : decode cX6_of 28 = .ok (.aload_n 0, 1) := by decide +kernel
theorem dX6_of_29 : decode cX6_of 29 = .ok (.getfield 26, 3) := by decide +kernel
theorem dX6_of_32 : decode cX6_of 32 = .ok (.iload_n 1, 1) := by decide +kernel
theorem dX6_of_33 : decode cX6_of 33 = .ok (.baload, 1) := by decide +kernel
theorem dX6_of_34 : decode cX6_of 34 = .ok (.ifCond .ne 5, 3) := by decide +kernel
theorem dX6_of_37 : decode cX6_of 37 = .ok (.iconst (-1), 1) := by decide +kernel
theorem dX6_of_38 : decode cX6_of 38 = .ok (.ireturn, 1) := by decide +kernel
theorem dX6_of_39 : decode cX6_of 39 = .ok (.iload_n 2, 1) := by decide +kernel
theorem dX6_of_40 : decode cX6_of 40 = .ok (.ifCond .ne 12, 3) := by decide +kernel
theorem dX6_of_43 : decode cX6_of 43 = .ok (.aload_n 0, 1) := by decide +kernel
theorem dX6_of_44 : decode cX6_of 44 = .ok (.getfield 16, 3) := by decide +kernel
theorem dX6_of_47 : decode cX6_of 47 = .ok (.iload_n 1, 1) := by decide +kernel
theorem dX6_of_48 : decode cX6_of 48 = .ok (.iaload, 1) := by decide +kernel
theorem dX6_of_49 : decode cX6_of 49 = .ok (.goto 59, 3) := by decide +kernel
theorem dX6_of_52 : decode cX6_of 52 = .ok (.iload_n 2, 1) := by decide +kernel
theorem dX6_of_53 : decode cX6_of 53 = .ok (.iconst 1, 1) := by decide +kernel
theorem dX6_of_54 : decode cX6_of 54 = .ok (.if_icmp .ne 20, 3) := by decide +kernel
theorem dX6_of_57 : decode cX6_of 57 = .ok (.aload_n 0, 1) := by decide +kernel
theorem dX6_of_58 : decode cX6_of 58 = .ok (.getfield 26, 3) := by decide +kernel
theorem dX6_of_61 : decode cX6_of 61 = .ok (.iload_n 1, 1) := by decide +kernel
theorem dX6_of_62 : decode cX6_of 62 = .ok (.baload, 1) := by decide +kernel
theorem dX6_of_63 : decode cX6_of 63 = .ok (.ifCond .eq 7, 3) := by decide +kernel
theorem dX6_of_66 : decode cX6_of 66 = .ok (.iconst 1, 1) := by decide +kernel
theorem dX6_of_67 : decode cX6_of 67 = .ok (.goto 41, 3) := by decide +kernel
theorem dX6_of_70 : decode cX6_of 70 = .ok (.iconst 0, 1) := by decide +kernel
theorem dX6_of_71 : decode cX6_of 71 = .ok (.goto 37, 3) := by decide +kernel
theorem dX6_of_74 : decode cX6_of 74 = .ok (.iload_n 2, 1) := by decide +kernel
theorem dX6_of_75 : decode cX6_of 75 = .ok (.iconst 2, 1) := by decide +kernel
theorem dX6_of_76 : decode cX6_of 76 = .ok (.if_icmp .ne 12, 3) := by decide +kernel
theorem dX6_of_79 : decode cX6_of 79 = .ok (.aload_n 0, 1) := by decide +kernel
theorem dX6_of_80 : decode cX6_of 80 = .ok (.getfield 30, 3) := by decide +kernel
theorem dX6_of_83 : decode cX6_of 83 = .ok (.iload_n 1, 1) := by decide +kernel
theorem dX6_of_84 : decode cX6_of 84 = .ok (.iaload, 1) := by decide +kernel
theorem dX6_of_85 : decode cX6_of 85 = .ok (.goto 23, 3) := by decide +kernel
theorem dX6_of_88 : decode cX6_of 88 = .ok (.iload_n 2, 1) := by decide +kernel
theorem dX6_of_89 : decode cX6_of 89 = .ok (.iconst 3, 1) := by decide +kernel
theorem dX6_of_90 : decode cX6_of 90 = .ok (.if_icmp .ne 12, 3) := by decide +kernel
theorem dX6_of_93 : decode cX6_of 93 = .ok (.aload_n 0, 1) := by decide +kernel
theorem dX6_of_94 : decode cX6_of 94 = .ok (.getfield 33, 3) := by decide +kernel
theorem dX6_of_97 : decode cX6_of 97 = .ok (.iload_n 1, 1) := by decide +kernel
theorem dX6_of_98 : decode cX6_of 98 = .ok (.iaload, 1) := by decide +kernel
theorem dX6_of_99 : decode cX6_of 99 = .ok (.goto 9, 3) := by decide +kernel
theorem dX6_of_102 : decode cX6_of 102 = .ok (.aload_n 0, 1) := by decide +kernel
theorem dX6_of_103 : decode cX6_of 103 = .ok (.getfield 36, 3) := by decide +kernel
theorem dX6_of_106 : decode cX6_of 106 = .ok (.iload_n 1, 1) := by decide +kernel
theorem dX6_of_107 : decode cX6_of 107 = .ok (.iaload, 1) := by decide +kernel
theorem dX6_of_108 : decode cX6_of 108 = .ok (.ireturn, 1) := by decide +kernel
theorem dX6_count_0 : decode cX6_count 0 = .ok (.iconst 0, 1) := by decide +kernel
theorem dX6_count_1 : decode cX6_count 1 = .ok (.istore_n 2, 1) := by decide +kernel
theorem dX6_count_2 : decode cX6_count 2 = .ok (.iload_n 1, 1) := by decide +kernel
theorem dX6_count_3 : decode cX6_count 3 = .ok (.tableswitch 108 0 5 #[37, 42, 47, 52, 87, 92], 37) := by decide +kernel
theorem dX6_count_40 : decode cX6_count 40 = .ok (.aload_n 0, 1) := by decide +kernel
theorem dX6_count_41 : decode cX6_count 41 = .ok (.getfield 102, 3) := by decide +kernel
theorem dX6_count_44 : decode cX6_count 44 = .ok (.ireturn, 1) := by decide +kernel
theorem dX6_count_45 : decode cX6_count 45 = .ok (.aload_n 0, 1) := by decide +kernel
theorem dX6_count_46 : decode cX6_count 46 = .ok (.getfield 88, 3) := by decide +kernel
theorem dX6_count_49 : decode cX6_count 49 = .ok (.ireturn, 1) := by decide +kernel
theorem dX6_count_50 : decode cX6_count 50 = .ok (.aload_n 0, 1) := by decide +kernel
theorem dX6_count_51 : decode cX6_count 51 = .ok (.getfield 99, 3) := by decide +kernel
theorem dX6_count_54 : decode cX6_count 54 = .ok (.ireturn, 1) := by decide +kernel
theorem dX6_count_55 : decode cX6_count 55 = .ok (.iconst 0, 1) := by decide +kernel
theorem dX6_count_56 : decode cX6_count 56 = .ok (.istore_n 3, 1) := by decide +kernel
theorem dX6_count_57 : decode cX6_count 57 = .ok (.iload_n 3, 1) := by decide +kernel
theorem dX6_count_58 : decode cX6_count 58 = .ok (.aload_n 0, 1) := by decide +kernel
theorem dX6_count_59 : decode cX6_count 59 = .ok (.getfield 88, 3) := by decide +kernel
theorem dX6_count_62 : decode cX6_count 62 = .ok (.if_icmp .ge 26, 3) := by decide +kernel
theorem dX6_count_65 : decode cX6_count 65 = .ok (.iload_n 2, 1) := by decide +kernel
theorem dX6_count_66 : decode cX6_count 66 = .ok (.aload_n 0, 1) := by decide +kernel
theorem dX6_count_67 : decode cX6_count 67 = .ok (.getfield 26, 3) := by decide +kernel
theorem dX6_count_70 : decode cX6_count 70 = .ok (.iload_n 3, 1) := by decide +kernel
theorem dX6_count_71 : decode cX6_count 71 = .ok (.baload, 1) := by decide +kernel
theorem dX6_count_72 : decode cX6_count 72 = .ok (.ifCond .eq 7, 3) := by decide +kernel
theorem dX6_count_75 : decode cX6_count 75 = .ok (.iconst 1, 1) := by decide +kernel
theorem dX6_count_76 : decode cX6_count 76 = .ok (.goto 4, 3) := by decide +kernel
theorem dX6_count_79 : decode cX6_count 79 = .ok (.iconst 0, 1) := by decide +kernel
theorem dX6_count_80 : decode cX6_count 80 = .ok (.iadd, 1) := by decide +kernel
theorem dX6_count_81 : decode cX6_count 81 = .ok (.istore_n 2, 1) := by decide +kernel
theorem dX6_count_82 : decode cX6_count 82 = .ok (.iinc 3 1, 3) := by decide +kernel
theorem dX6_count_85 : decode cX6_count 85 = .ok (.goto (-28), 3) := by decide +kernel
theorem dX6_count_88 : decode cX6_count 88 = .ok (.iload_n 2, 1) := by decide +kernel
theorem dX6_count_89 : decode cX6_count 89 = .ok (.ireturn, 1) := by decide +kernel
theorem dX6_count_90 : decode cX6_count 90 = .ok (.aload_n 0, 1) := by decide +kernel
theorem dX6_count_91 : decode cX6_count 91 = .ok (.getfield 115, 3) := by decide +kernel
theorem dX6_count_94 : decode cX6_count 94 = .ok (.ireturn, 1) := by decide +kernel
theorem dX6_count_95 : decode cX6_count 95 = .ok (.aload_n 0, 1) := by decide +kernel
theorem dX6_count_96 : decode cX6_count 96 = .ok (.getfield 42, 3) := by decide +kernel
theorem dX6_count_99 : decode cX6_count 99 = .ok (.ifCond .ge 7, 3) := by decide +kernel
theorem dX6_count_102 : decode cX6_count 102 = .ok (.iconst 0, 1) := by decide +kernel
theorem dX6_count_103 : decode cX6_count 103 = .ok (.goto 7, 3) := by decide +kernel
theorem dX6_count_106 : decode cX6_count 106 = .ok (.aload_n 0, 1) := by decide +kernel
theorem dX6_count_107 : decode cX6_count 107 = .ok (.getfield 42, 3) := by decide +kernel
theorem dX6_count_110 : decode cX6_count 110 = .ok (.ireturn, 1) := by decide +kernel
theorem dX6_count_111 : decode cX6_count 111 = .ok (.bipush (-2), 2) := by decide +kernel
theorem dX6_count_113 : decode cX6_count 113 = .ok (.ireturn, 1) := by decide +kernel
theorem dX5_init_0 : decode cX5_init 0 = .ok (.aload_n 0, 1) := by decide +kernel
theorem dX5_init_1 : decode cX5_init 1 = .ok (.invokespecial 3, 3) := by decide +kernel
theorem dX5_init_4 : decode cX5_init 4 = .ok (.aload_n 0, 1) := by decide +kernel
theorem dX5_init_5 : decode cX5_init 5 = .ok (.bipush 16, 2) := by decide +kernel
theorem dX5_init_7 : decode cX5_init 7 = .ok (.newarray .boolean, 2) := by decide +kernel
theorem dX5_init_9 : decode cX5_init 9 = .ok (.putfield 9, 3) := by decide +kernel
theorem dX5_init_12 : decode cX5_init 12 = .ok (.aload_n 0, 1) := by decide +kernel
theorem dX5_init_13 : decode cX5_init 13 = .ok (.bipush 8, 2) := by decide +kernel
theorem dX5_init_15 : decode cX5_init 15 = .ok (.newarray .long, 2) := by decide +kernel
theorem dX5_init_17 : decode cX5_init 17 = .ok (.putfield 15, 3) := by decide +kernel
theorem dX5_init_20 : decode cX5_init 20 = .ok (.aload_n 0, 1) := by decide +kernel
theorem dX5_init_21 : decode cX5_init 21 = .ok (.bipush 8, 2) := by decide +kernel
theorem dX5_init_23 : decode cX5_init 23 = .ok (.newarray .long, 2) := by decide +kernel
theorem dX5_init_25 : decode cX5_init 25 = .ok (.putfield 19, 3) := by decide +kernel
theorem dX5_init_28 : decode cX5_init 28 = .ok (.return_, 1) := by decide +kernel
theorem dX5_findPrice_0 : decode cX5_findPrice 0 = .ok (.iconst (-1), 1) := by decide +kernel
theorem dX5_findPrice_1 : decode cX5_findPrice 1 = .ok (.istore 4, 2) := by decide +kernel
theorem dX5_findPrice_3 : decode cX5_findPrice 3 = .ok (.lconst 0, 1) := by decide +kernel
theorem dX5_findPrice_4 : decode cX5_findPrice 4 = .ok (.lstore 5, 2) := by decide +kernel
theorem dX5_findPrice_6 : decode cX5_findPrice 6 = .ok (.iconst 1, 1) := by decide +kernel
theorem dX5_findPrice_7 : decode cX5_findPrice 7 = .ok (.istore 7, 2) := by decide +kernel
theorem dX5_findPrice_9 : decode cX5_findPrice 9 = .ok (.iload 7, 2) := by decide +kernel
theorem dX5_findPrice_11 : decode cX5_findPrice 11 = .ok (.sipush 1000, 3) := by decide +kernel
theorem dX5_findPrice_14 : decode cX5_findPrice 14 = .ok (.if_icmp .gt 38, 3) := by decide +kernel
theorem dX5_findPrice_17 : decode cX5_findPrice 17 = .ok (.aload_n 0, 1) := by decide +kernel
theorem dX5_findPrice_18 : decode cX5_findPrice 18 = .ok (.iload 7, 2) := by decide +kernel
theorem dX5_findPrice_20 : decode cX5_findPrice 20 = .ok (.aload_n 1, 1) := by decide +kernel
theorem dX5_findPrice_21 : decode cX5_findPrice 21 = .ok (.aload_n 2, 1) := by decide +kernel
theorem dX5_findPrice_22 : decode cX5_findPrice 22 = .ok (.aload_n 3, 1) := by decide +kernel
theorem dX5_findPrice_23 : decode cX5_findPrice 23 = .ok (.invokevirtual 22, 3) := by decide +kernel
theorem dX5_findPrice_26 : decode cX5_findPrice 26 = .ok (.aload_n 0, 1) := by decide +kernel
theorem dX5_findPrice_27 : decode cX5_findPrice 27 = .ok (.invokevirtual 26, 3) := by decide +kernel
theorem dX5_findPrice_30 : decode cX5_findPrice 30 = .ok (.lload 5, 2) := by decide +kernel
theorem dX5_findPrice_32 : decode cX5_findPrice 32 = .ok (.lcmp, 1) := by decide +kernel
theorem dX5_findPrice_33 : decode cX5_findPrice 33 = .ok (.ifCond .le 13, 3) := by decide +kernel
theorem dX5_findPrice_36 : decode cX5_findPrice 36 = .ok (.aload_n 0, 1) := by decide +kernel
theorem dX5_findPrice_37 : decode cX5_findPrice 37 = .ok (.invokevirtual 26, 3) := by decide +kernel
theorem dX5_findPrice_40 : decode cX5_findPrice 40 = .ok (.lstore 5, 2) := by decide +kernel
theorem dX5_findPrice_42 : decode cX5_findPrice 42 = .ok (.iload 7, 2) := by decide +kernel
theorem dX5_findPrice_44 : decode cX5_findPrice 44 = .ok (.istore 4, 2) := by decide +kernel
theorem dX5_findPrice_46 : decode cX5_findPrice 46 = .ok (.iinc 7 1, 3) := by decide +kernel
theorem dX5_findPrice_49 : decode cX5_findPrice 49 = .ok (.goto (-40), 3) := by decide +kernel
theorem dX5_findPrice_52 : decode cX5_findPrice 52 = .ok (.iload 4, 2) := by decide +kernel
theorem dX5_findPrice_54 : decode cX5_findPrice 54 = .ok (.ireturn, 1) := by decide +kernel
theorem dX5_settle_0 : decode cX5_settle 0 = .ok (.aload_n 0, 1) := by decide +kernel
theorem dX5_settle_1 : decode cX5_settle 1 = .ok (.iload_n 1, 1) := by decide +kernel
theorem dX5_settle_2 : decode cX5_settle 2 = .ok (.aload_n 2, 1) := by decide +kernel
theorem dX5_settle_3 : decode cX5_settle 3 = .ok (.aload_n 3, 1) := by decide +kernel
theorem dX5_settle_4 : decode cX5_settle 4 = .ok (.aload 4, 2) := by decide +kernel
theorem dX5_settle_6 : decode cX5_settle 6 = .ok (.invokevirtual 22, 3) := by decide +kernel
theorem dX5_settle_9 : decode cX5_settle 9 = .ok (.aload_n 0, 1) := by decide +kernel
theorem dX5_settle_10 : decode cX5_settle 10 = .ok (.invokevirtual 26, 3) := by decide +kernel
theorem dX5_settle_13 : decode cX5_settle 13 = .ok (.lstore 5, 2) := by decide +kernel
theorem dX5_settle_15 : decode cX5_settle 15 = .ok (.aload_n 0, 1) := by decide +kernel
theorem dX5_settle_16 : decode cX5_settle 16 = .ok (.invokevirtual 26, 3) := by decide +kernel
theorem dX5_settle_19 : decode cX5_settle 19 = .ok (.lstore 7, 2) := by decide +kernel
theorem dX5_settle_21 : decode cX5_settle 21 = .ok (.iconst 0, 1) := by decide +kernel
theorem dX5_settle_22 : decode cX5_settle 22 = .ok (.istore 9, 2) := by decide +kernel
theorem dX5_settle_24 : decode cX5_settle 24 = .ok (.iload 9, 2) := by decide +kernel
theorem dX5_settle_26 : decode cX5_settle 26 = .ok (.aload_n 2, 1) := by decide +kernel
theorem dX5_settle_27 : decode cX5_settle 27 = .ok (.getfield 30, 3) := by decide +kernel
theorem dX5_settle_30 : decode cX5_settle 30 = .ok (.if_icmp .ge 81, 3) := by decide +kernel
theorem dX5_settle_33 : decode cX5_settle 33 = .ok (.aload_n 3, 1) := by decide +kernel
theorem dX5_settle_34 : decode cX5_settle 34 = .ok (.aload_n 2, 1) := by decide +kernel
theorem dX5_settle_35 : decode cX5_settle 35 = .ok (.getfield 36, 3) := by decide +kernel
theorem dX5_settle_38 : decode cX5_settle 38 = .ok (.iload 9, 2) := by decide +kernel
theorem dX5_settle_40 : decode cX5_settle 40 = .ok (.iaload, 1) := by decide +kernel
theorem dX5_settle_41 : decode cX5_settle 41 = .ok (.aaload, 1) := by decide +kernel
theorem dX5_settle_42 : decode cX5_settle 42 = .ok (.astore 10, 2) := by decide +kernel
theorem dX5_settle_44 : decode cX5_settle 44 = .ok (.aload_n 0, 1) := by decide +kernel
theorem dX5_settle_45 : decode cX5_settle 45 = .ok (.getfield 9, 3) := by decide +kernel
theorem dX5_settle_48 : decode cX5_settle 48 = .ok (.iload 9, 2) := by decide +kernel
theorem dX5_settle_50 : decode cX5_settle 50 = .ok (.baload, 1) := by decide +kernel
theorem dX5_settle_51 : decode cX5_settle 51 = .ok (.ifCond .eq 29, 3) := by decide +kernel
theorem dX5_settle_54 : decode cX5_settle 54 = .ok (.aload 10, 2) := by decide +kernel
theorem dX5_settle_56 : decode cX5_settle 56 = .ok (.getfield 40, 3) := by decide +kernel
theorem dX5_settle_59 : decode cX5_settle 59 = .ok (.ifCond .ne 21, 3) := by decide +kernel
theorem dX5_settle_62 : decode cX5_settle 62 = .ok (.lload 5, 2) := by decide +kernel
theorem dX5_settle_64 : decode cX5_settle 64 = .ok (.aload 10, 2) := by decide +kernel
theorem dX5_settle_66 : decode cX5_settle 66 = .ok (.lload 5, 2) := by decide +kernel
theorem dX5_settle_68 : decode cX5_settle 68 = .ok (.iload_n 1, 1) := by decide +kernel
theorem dX5_settle_69 : decode cX5_settle 69 = .ok (.aload 4, 2) := by decide +kernel
theorem dX5_settle_71 : decode cX5_settle 71 = .ok (.invokestatic 45, 3) := by decide +kernel
theorem dX5_settle_74 : decode cX5_settle 74 = .ok (.lsub, 1) := by decide +kernel
theorem dX5_settle_75 : decode cX5_settle 75 = .ok (.lstore 5, 2) := by decide +kernel
theorem dX5_settle_77 : decode cX5_settle 77 = .ok (.goto 28, 3) := by decide +kernel
theorem dX5_settle_80 : decode cX5_settle 80 = .ok (.aload_n 0, 1) := by decide +kernel
theorem dX5_settle_81 : decode cX5_settle 81 = .ok (.getfield 9, 3) := by decide +kernel
theorem dX5_settle_84 : decode cX5_settle 84 = .ok (.iload 9, 2) := by decide +kernel
theorem dX5_settle_86 : decode cX5_settle 86 = .ok (.baload, 1) := by decide +kernel
theorem dX5_settle_87 : decode cX5_settle 87 = .ok (.ifCond .eq 18, 3) := by decide +kernel
theorem dX5_settle_90 : decode cX5_settle 90 = .ok (.lload 7, 2) := by decide +kernel
theorem dX5_settle_92 : decode cX5_settle 92 = .ok (.aload 10, 2) := by decide +kernel
theorem dX5_settle_94 : decode cX5_settle 94 = .ok (.lload 7, 2) := by decide +kernel
theorem dX5_settle_96 : decode cX5_settle 96 = .ok (.iload_n 1, 1) := by decide +kernel
theorem dX5_settle_97 : decode cX5_settle 97 = .ok (.aload 4, 2) := by decide +kernel
theorem dX5_settle_99 : decode cX5_settle 99 = .ok (.invokestatic 45, 3) := by decide +kernel
theorem dX5_settle_102 : decode cX5_settle 102 = .ok (.lsub, 1) := by decide +kernel
theorem dX5_settle_103 : decode cX5_settle 103 = .ok (.lstore 7, 2) := by decide +kernel
theorem dX5_settle_105 : decode cX5_settle 105 = .ok (.iinc 9 1, 3) := by decide +kernel
theorem dX5_settle_108 : decode cX5_settle 108 = .ok (.goto (-84), 3) := by decide +kernel
theorem dX5_settle_111 : decode cX5_settle 111 = .ok (.return_, 1) := by decide +kernel
theorem dX5_volume_0 : decode cX5_volume 0 = .ok (.aload_n 0, 1) := by decide +kernel
theorem dX5_volume_1 : decode cX5_volume 1 = .ok (.getfield 49, 3) := by decide +kernel
theorem dX5_volume_4 : decode cX5_volume 4 = .ok (.aload_n 0, 1) := by decide +kernel
theorem dX5_volume_5 : decode cX5_volume 5 = .ok (.getfield 53, 3) := by decide +kernel
theorem dX5_volume_8 : decode cX5_volume 8 = .ok (.invokestatic 56, 3) := by decide +kernel
theorem dX5_volume_11 : decode cX5_volume 11 = .ok (.lreturn, 1) := by decide +kernel
theorem dX5_gather_0 : decode cX5_gather 0 = .ok (.aload_n 0, 1) := by decide +kernel
theorem dX5_gather_1 : decode cX5_gather 1 = .ok (.getfield 15, 3) := by decide +kernel
theorem dX5_gather_4 : decode cX5_gather 4 = .ok (.lconst 0, 1) := by decide +kernel
theorem dX5_gather_5 : decode cX5_gather 5 = .ok (.invokestatic 62, 3) := by decide +kernel
theorem dX5_gather_8 : decode cX5_gather 8 = .ok (.aload_n 0, 1) := by decide +kernel
theorem dX5_gather_9 : decode cX5_gather 9 = .ok (.getfield 19, 3) := by decide +kernel
theorem dX5_gather_12 : decode cX5_gather 12 = .ok (.lconst 0, 1) := by decide +kernel
theorem dX5_gather_13 : decode cX5_gather 13 = .ok (.invokestatic 62, 3) := by decide +kernel
theorem dX5_gather_16 : decode cX5_gather 16 = .ok (.aload_n 0, 1) := by decide +kernel
theorem dX5_gather_17 : decode cX5_gather 17 = .ok (.lconst 0, 1) := by decide +kernel
theorem dX5_gather_18 : decode cX5_gather 18 = .ok (.putfield 49, 3) := by decide +kernel
theorem dX5_gather_21 : decode cX5_gather 21 = .ok (.aload_n 0, 1) := by decide +kernel
theorem dX5_gather_22 : decode cX5_gather 22 = .ok (.lconst 0, 1) := by decide +kernel
theorem dX5_gather_23 : decode cX5_gather 23 = .ok (.putfield 53, 3) := by decide +kernel
theorem dX5_gather_26 : decode cX5_gather 26 = .ok (.iconst 0, 1) := by decide +kernel
theorem dX5_gather_27 : decode cX5_gather 27 = .ok (.istore 5, 2) := by decide +kernel
theorem dX5_gather_29 : decode cX5_gather 29 = .ok (.iload 5, 2) := by decide +kernel
theorem dX5_gather_31 : decode cX5_gather 31 = .ok (.aload_n 2, 1) := by decide +kernel
theorem dX5_gather_32 : decode cX5_gather 32 = .ok (.getfield 30, 3) := by decide +kernel
theorem dX5_gather_35 : decode cX5_gather 35 = .ok (.if_icmp .ge 56, 3) := by decide +kernel
theorem dX5_gather_38 : decode cX5_gather 38 = .ok (.aload_n 3, 1) := by decide +kernel
theorem dX5_gather_39 : decode cX5_gather 39 = .ok (.aload_n 2, 1) := by decide +kernel
theorem dX5_gather_40 : decode cX5_gather 40 = .ok (.getfield 36, 3) := by decide +kernel
theorem dX5_gather_43 : decode cX5_gather 43 = .ok (.iload 5, 2) := by decide +kernel
theorem dX5_gather_45 : decode cX5_gather 45 = .ok (.iaload, 1) := by decide +kernel
theorem dX5_gather_46 : decode cX5_gather 46 = .ok (.aaload, 1) := by decide +kernel
theorem dX5_gather_47 : decode cX5_gather 47 = .ok (.astore 6, 2) := by decide +kernel
theorem dX5_gather_49 : decode cX5_gather 49 = .ok (.aload_n 0, 1) := by decide +kernel
theorem dX5_gather_50 : decode cX5_gather 50 = .ok (.getfield 9, 3) := by decide +kernel
theorem dX5_gather_53 : decode cX5_gather 53 = .ok (.iload 5, 2) := by decide +kernel
theorem dX5_gather_55 : decode cX5_gather 55 = .ok (.aload 6, 2) := by decide +kernel
theorem dX5_gather_57 : decode cX5_gather 57 = .ok (.getfield 40, 3) := by decide +kernel
theorem dX5_gather_60 : decode cX5_gather 60 = .ok (.ifCond .ne 15, 3) := by decide +kernel
theorem dX5_gather_63 : decode cX5_gather 63 = .ok (.aload_n 0, 1) := by decide +kernel
theorem dX5_gather_64 : decode cX5_gather 64 = .ok (.aload 6, 2) := by decide +kernel
theorem dX5_gather_66 : decode cX5_gather 66 = .ok (.iload_n 1, 1) := by decide +kernel
theorem dX5_gather_67 : decode cX5_gather 67 = .ok (.aload 4, 2) := by decide +kernel
theorem dX5_gather_69 : decode cX5_gather 69 = .ok (.invokevirtual 67, 3) := by decide +kernel
theorem dX5_gather_72 : decode cX5_gather 72 = .ok (.goto 12, 3) := by decide +kernel
theorem dX5_gather_75 : decode cX5_gather 75 = .ok (.aload_n 0, 1) := by decide +kernel
theorem dX5_gather_76 : decode cX5_gather 76 = .ok (.aload 6, 2) := by decide +kernel
theorem dX5_gather_78 : decode cX5_gather 78 = .ok (.iload_n 1, 1) := by decide +kernel
theorem dX5_gather_79 : decode cX5_gather 79 = .ok (.aload 4, 2) := by decide +kernel
theorem dX5_gather_81 : decode cX5_gather 81 = .ok (.invokevirtual 71, 3) := by decide +kernel
theorem dX5_gather_84 : decode cX5_gather 84 = .ok (.bastore, 1) := by decide +kernel
theorem dX5_gather_85 : decode cX5_gather 85 = .ok (.iinc 5 1, 3) := by decide +kernel
theorem dX5_gather_88 : decode cX5_gather 88 = .ok (.goto (-59), 3) := by decide +kernel
theorem dX5_gather_91 : decode cX5_gather 91 = .ok (.return_, 1) := by decide +kernel
theorem dX5_joinBuys_0 : decode cX5_joinBuys 0 = .ok (.aload_n 0, 1) := by decide +kernel
theorem dX5_joinBuys_1 : decode cX5_joinBuys 1 = .ok (.getfield 15, 3) := by decide +kernel
theorem dX5_joinBuys_4 : decode cX5_joinBuys 4 = .ok (.aload_n 1, 1) := by decide +kernel
theorem dX5_joinBuys_5 : decode cX5_joinBuys 5 = .ok (.getfield 74, 3) := by decide +kernel
theorem dX5_joinBuys_8 : decode cX5_joinBuys 8 = .ok (.laload, 1) := by decide +kernel
theorem dX5_joinBuys_9 : decode cX5_joinBuys 9 = .ok (.aload_n 1, 1) := by decide +kernel
theorem dX5_joinBuys_10 : decode cX5_joinBuys 10 = .ok (.getfield 77, 3) := by decide +kernel
theorem dX5_joinBuys_13 : decode cX5_joinBuys 13 = .ok (.i2l, 1) := by decide +kernel
theorem dX5_joinBuys_14 : decode cX5_joinBuys 14 = .ok (.ladd, 1) := by decide +kernel
theorem dX5_joinBuys_15 : decode cX5_joinBuys 15 = .ok (.lstore 4, 2) := by decide +kernel
theorem dX5_joinBuys_17 : decode cX5_joinBuys 17 = .ok (.aload_n 1, 1) := by decide +kernel
theorem dX5_joinBuys_18 : decode cX5_joinBuys 18 = .ok (.getfield 80, 3) := by decide +kernel
theorem dX5_joinBuys_21 : decode cX5_joinBuys 21 = .ok (.iload_n 2, 1) := by decide +kernel
theorem dX5_joinBuys_22 : decode cX5_joinBuys 22 = .ok (.if_icmp .lt 21, 3) := by decide +kernel
theorem dX5_joinBuys_25 : decode cX5_joinBuys 25 = .ok (.lload 4, 2) := by decide +kernel
theorem dX5_joinBuys_27 : decode cX5_joinBuys 27 = .ok (.iload_n 2, 1) := by decide +kernel
theorem dX5_joinBuys_28 : decode cX5_joinBuys 28 = .ok (.i2l, 1) := by decide +kernel
theorem dX5_joinBuys_29 : decode cX5_joinBuys 29 = .ok (.lmul, 1) := by decide +kernel
theorem dX5_joinBuys_30 : decode cX5_joinBuys 30 = .ok (.aload_n 3, 1) := by decide +kernel
theorem dX5_joinBuys_31 : decode cX5_joinBuys 31 = .ok (.getfield 83, 3) := by decide +kernel
theorem dX5_joinBuys_34 : decode cX5_joinBuys 34 = .ok (.aload_n 1, 1) := by decide +kernel
theorem dX5_joinBuys_35 : decode cX5_joinBuys 35 = .ok (.getfield 74, 3) := by decide +kernel
theorem dX5_joinBuys_38 : decode cX5_joinBuys 38 = .ok (.laload, 1) := by decide +kernel
theorem dX5_joinBuys_39 : decode cX5_joinBuys 39 = .ok (.lcmp, 1) := by decide +kernel
theorem dX5_joinBuys_40 : decode cX5_joinBuys 40 = .ok (.ifCond .le 5, 3) := by decide +kernel
theorem dX5_joinBuys_43 : decode cX5_joinBuys 43 = .ok (.iconst 0, 1) := by decide +kernel
theorem dX5_joinBuys_44 : decode cX5_joinBuys 44 = .ok (.ireturn, 1) := by decide +kernel
theorem dX5_joinBuys_45 : decode cX5_joinBuys 45 = .ok (.aload_n 0, 1) := by decide +kernel
theorem dX5_joinBuys_46 : decode cX5_joinBuys 46 = .ok (.getfield 15, 3) := by decide +kernel
theorem dX5_joinBuys_49 : decode cX5_joinBuys 49 = .ok (.aload_n 1, 1) := by decide +kernel
theorem dX5_joinBuys_50 : decode cX5_joinBuys 50 = .ok (.getfield 74, 3) := by decide +kernel
theorem dX5_joinBuys_53 : decode cX5_joinBuys 53 = .ok (.lload 4, 2) := by decide +kernel
theorem dX5_joinBuys_55 : decode cX5_joinBuys 55 = .ok (.lastore, 1) := by decide +kernel
theorem dX5_joinBuys_56 : decode cX5_joinBuys 56 = .ok (.aload_n 0, 1) := by decide +kernel
theorem dX5_joinBuys_57 : decode cX5_joinBuys 57 = .ok (.dup, 1) := by decide +kernel
theorem dX5_joinBuys_58 : decode cX5_joinBuys 58 = .ok (.getfield 49, 3) := by decide +kernel
theorem dX5_joinBuys_61 : decode cX5_joinBuys 61 = .ok (.aload_n 1, 1) := by decide +kernel
theorem dX5_joinBuys_62 : decode cX5_joinBuys 62 = .ok (.getfield 77, 3) := by decide +kernel
theorem dX5_joinBuys_65 : decode cX5_joinBuys 65 = .ok (.i2l, 1) := by decide +kernel
theorem dX5_joinBuys_66 : decode cX5_joinBuys 66 = .ok (.ladd, 1) := by decide +kernel
theorem dX5_joinBuys_67 : decode cX5_joinBuys 67 = .ok (.putfield 49, 3) := by decide +kernel
theorem dX5_joinBuys_70 : decode cX5_joinBuys 70 = .ok (.iconst 1, 1) := by decide +kernel
theorem dX5_joinBuys_71 : decode cX5_joinBuys 71 = .ok (.ireturn, 1) := by decide +kernel
theorem dX5_joinSells_0 : decode cX5_joinSells 0 = .ok (.aload_n 0, 1) := by decide +kernel
theorem dX5_joinSells_1 : decode cX5_joinSells 1 = .ok (.getfield 19, 3) := by decide +kernel
theorem dX5_joinSells_4 : decode cX5_joinSells 4 = .ok (.aload_n 1, 1) := by decide +kernel
theorem dX5_joinSells_5 : decode cX5_joinSells 5 = .ok (.getfield 74, 3) := by decide +kernel
theorem dX5_joinSells_8 : decode cX5_joinSells 8 = .ok (.laload, 1) := by decide +kernel
theorem dX5_joinSells_9 : decode cX5_joinSells 9 = .ok (.aload_n 1, 1) := by decide +kernel
theorem dX5_joinSells_10 : decode cX5_joinSells 10 = .ok (.getfield 77, 3) := by decide +kernel
theorem dX5_joinSells_13 : decode cX5_joinSells 13 = .ok (.i2l, 1) := by decide +kernel
theorem dX5_joinSells_14 : decode cX5_joinSells 14 = .ok (.ladd, 1) := by decide +kernel
theorem dX5_joinSells_15 : decode cX5_joinSells 15 = .ok (.lstore 4, 2) := by decide +kernel
theorem dX5_joinSells_17 : decode cX5_joinSells 17 = .ok (.aload_n 1, 1) := by decide +kernel
theorem dX5_joinSells_18 : decode cX5_joinSells 18 = .ok (.getfield 80, 3) := by decide +kernel
theorem dX5_joinSells_21 : decode cX5_joinSells 21 = .ok (.iload_n 2, 1) := by decide +kernel
theorem dX5_joinSells_22 : decode cX5_joinSells 22 = .ok (.if_icmp .gt 18, 3) := by decide +kernel
theorem dX5_joinSells_25 : decode cX5_joinSells 25 = .ok (.lload 4, 2) := by decide +kernel
theorem dX5_joinSells_27 : decode cX5_joinSells 27 = .ok (.aload_n 3, 1) := by decide +kernel
theorem dX5_joinSells_28 : decode cX5_joinSells 28 = .ok (.getfield 88, 3) := by decide +kernel
theorem dX5_joinSells_31 : decode cX5_joinSells 31 = .ok (.aload_n 1, 1) := by decide +kernel
theorem dX5_joinSells_32 : decode cX5_joinSells 32 = .ok (.getfield 74, 3) := by decide +kernel
theorem dX5_joinSells_35 : decode cX5_joinSells 35 = .ok (.laload, 1) := by decide +kernel
theorem dX5_joinSells_36 : decode cX5_joinSells 36 = .ok (.lcmp, 1) := by decide +kernel
theorem dX5_joinSells_37 : decode cX5_joinSells 37 = .ok (.ifCond .le 5, 3) := by decide +kernel
theorem dX5_joinSells_40 : decode cX5_joinSells 40 = .ok (.iconst 0, 1) := by decide +kernel
theorem dX5_joinSells_41 : decode cX5_joinSells 41 = .ok (.ireturn, 1) := by decide +kernel
theorem dX5_joinSells_42 : decode cX5_joinSells 42 = .ok (.aload_n 0, 1) := by decide +kernel
theorem dX5_joinSells_43 : decode cX5_joinSells 43 = .ok (.getfield 19, 3) := by decide +kernel
theorem dX5_joinSells_46 : decode cX5_joinSells 46 = .ok (.aload_n 1, 1) := by decide +kernel
theorem dX5_joinSells_47 : decode cX5_joinSells 47 = .ok (.getfield 74, 3) := by decide +kernel
theorem dX5_joinSells_50 : decode cX5_joinSells 50 = .ok (.lload 4, 2) := by decide +kernel
theorem dX5_joinSells_52 : decode cX5_joinSells 52 = .ok (.lastore, 1) := by decide +kernel
theorem dX5_joinSells_53 : decode cX5_joinSells 53 = .ok (.aload_n 0, 1) := by decide +kernel
theorem dX5_joinSells_54 : decode cX5_joinSells 54 = .ok (.dup, 1) := by decide +kernel
theorem dX5_joinSells_55 : decode cX5_joinSells 55 = .ok (.getfield 53, 3) := by decide +kernel
theorem dX5_joinSells_58 : decode cX5_joinSells 58 = .ok (.aload_n 1, 1) := by decide +kernel
theorem dX5_joinSells_59 : decode cX5_joinSells 59 = .ok (.getfield 77, 3) := by decide +kernel
theorem dX5_joinSells_62 : decode cX5_joinSells 62 = .ok (.i2l, 1) := by decide +kernel
theorem dX5_joinSells_63 : decode cX5_joinSells 63 = .ok (.ladd, 1) := by decide +kernel
theorem dX5_joinSells_64 : decode cX5_joinSells 64 = .ok (.putfield 53, 3) := by decide +kernel
theorem dX5_joinSells_67 : decode cX5_joinSells 67 = .ok (.iconst 1, 1) := by decide +kernel
theorem dX5_joinSells_68 : decode cX5_joinSells 68 = .ok (.ireturn, 1) := by decide +kernel
theorem dX5_fill_0 : decode cX5_fill 0 = .ok (.aload_n 0, 1) := by decide +kernel
theorem dX5_fill_1 : decode cX5_fill 1 = .ok (.getfield 77, 3) := by decide +kernel
theorem dX5_fill_4 : decode cX5_fill 4 = .ok (.i2l, 1) := by decide +kernel
theorem dX5_fill_5 : decode cX5_fill 5 = .ok (.lload_n 1, 1) := by decide +kernel
theorem dX5_fill_6 : decode cX5_fill 6 = .ok (.invokestatic 56, 3) := by decide +kernel
theorem dX5_fill_9 : decode cX5_fill 9 = .ok (.l2i, 1) := by decide +kernel
theorem dX5_fill_10 : decode cX5_fill 10 = .ok (.istore 5, 2) := by decide +kernel
theorem dX5_fill_12 : decode cX5_fill 12 = .ok (.iload 5, 2) := by decide +kernel
theorem dX5_fill_14 : decode cX5_fill 14 = .ok (.i2l, 1) := by decide +kernel
theorem dX5_fill_15 : decode cX5_fill 15 = .ok (.iload_n 3, 1) := by decide +kernel
theorem dX5_fill_16 : decode cX5_fill 16 = .ok (.i2l, 1) := by decide +kernel
theorem dX5_fill_17 : decode cX5_fill 17 = .ok (.lmul, 1) := by decide +kernel
theorem dX5_fill_18 : decode cX5_fill 18 = .ok (.lstore 6, 2) := by decide +kernel
theorem dX5_fill_20 : decode cX5_fill 20 = .ok (.aload_n 0, 1) := by decide +kernel
theorem dX5_fill_21 : decode cX5_fill 21 = .ok (.iload 5, 2) := by decide +kernel
theorem dX5_fill_23 : decode cX5_fill 23 = .ok (.lload 6, 2) := by decide +kernel
theorem dX5_fill_25 : decode cX5_fill 25 = .ok (.invokevirtual 91, 3) := by decide +kernel
theorem dX5_fill_28 : decode cX5_fill 28 = .ok (.aload_n 0, 1) := by decide +kernel
theorem dX5_fill_29 : decode cX5_fill 29 = .ok (.getfield 40, 3) := by decide +kernel
theorem dX5_fill_32 : decode cX5_fill 32 = .ok (.ifCond .ne 20, 3) := by decide +kernel
theorem dX5_fill_35 : decode cX5_fill 35 = .ok (.aload 4, 2) := by decide +kernel
theorem dX5_fill_37 : decode cX5_fill 37 = .ok (.aload_n 0, 1) := by decide +kernel
theorem dX5_fill_38 : decode cX5_fill 38 = .ok (.getfield 74, 3) := by decide +kernel
theorem dX5_fill_41 : decode cX5_fill 41 = .ok (.lload 6, 2) := by decide +kernel
theorem dX5_fill_43 : decode cX5_fill 43 = .ok (.iload 5, 2) := by decide +kernel
theorem dX5_fill_45 : decode cX5_fill 45 = .ok (.i2l, 1) := by decide +kernel
theorem dX5_fill_46 : decode cX5_fill 46 = .ok (.invokevirtual 95, 3) := by decide +kernel
theorem dX5_fill_49 : decode cX5_fill 49 = .ok (.goto 17, 3) := by decide +kernel
theorem dX5_fill_52 : decode cX5_fill 52 = .ok (.aload 4, 2) := by decide +kernel
theorem dX5_fill_54 : decode cX5_fill 54 = .ok (.aload_n 0, 1) := by decide +kernel
theorem dX5_fill_55 : decode cX5_fill 55 = .ok (.getfield 74, 3) := by decide +kernel
theorem dX5_fill_58 : decode cX5_fill 58 = .ok (.lload 6, 2) := by decide +kernel
theorem dX5_fill_60 : decode cX5_fill 60 = .ok (.iload 5, 2) := by decide +kernel
theorem dX5_fill_62 : decode cX5_fill 62 = .ok (.i2l, 1) := by decide +kernel
theorem dX5_fill_63 : decode cX5_fill 63 = .ok (.invokevirtual 99, 3) := by decide +kernel
theorem dX5_fill_66 : decode cX5_fill 66 = .ok (.iload 5, 2) := by decide +kernel
theorem dX5_fill_68 : decode cX5_fill 68 = .ok (.i2l, 1) := by decide +kernel
theorem dX5_fill_69 : decode cX5_fill 69 = .ok (.lreturn, 1) := by decide +kernel
theorem dX1_init_0 : decode cX1_init 0 = .ok (.aload_n 0, 1) := by decide +kernel
theorem dX1_init_1 : decode cX1_init 1 = .ok (.invokespecial 3, 3) := by decide +kernel
theorem dX1_init_4 : decode cX1_init 4 = .ok (.aload_n 0, 1) := by decide +kernel
theorem dX1_init_5 : decode cX1_init 5 = .ok (.iconst 5, 1) := by decide +kernel
theorem dX1_init_6 : decode cX1_init 6 = .ok (.newarray .int, 2) := by decide +kernel
theorem dX1_init_8 : decode cX1_init 8 = .ok (.putfield 9, 3) := by decide +kernel
theorem dX1_init_11 : decode cX1_init 11 = .ok (.return_, 1) := by decide +kernel
theorem dX1_begin_0 : decode cX1_begin 0 = .ok (.aload_n 0, 1) := by decide +kernel
theorem dX1_begin_1 : decode cX1_begin 1 = .ok (.iload_n 1, 1) := by decide +kernel
theorem dX1_begin_2 : decode cX1_begin 2 = .ok (.putfield 15, 3) := by decide +kernel
theorem dX1_begin_5 : decode cX1_begin 5 = .ok (.aload_n 0, 1) := by decide +kernel
theorem dX1_begin_6 : decode cX1_begin 6 = .ok (.lload_n 2, 1) := by decide +kernel
theorem dX1_begin_7 : decode cX1_begin 7 = .ok (.putfield 19, 3) := by decide +kernel
theorem dX1_begin_10 : decode cX1_begin 10 = .ok (.aload_n 0, 1) := by decide +kernel
theorem dX1_begin_11 : decode cX1_begin 11 = .ok (.lload 4, 2) := by decide +kernel
theorem dX1_begin_13 : decode cX1_begin 13 = .ok (.putfield 23, 3) := by decide +kernel
theorem dX1_begin_16 : decode cX1_begin 16 = .ok (.aload_n 0, 1) := by decide +kernel
theorem dX1_begin_17 : decode cX1_begin 17 = .ok (.iconst 0, 1) := by decide +kernel
theorem dX1_begin_18 : decode cX1_begin 18 = .ok (.putfield 26, 3) := by decide +kernel
theorem dX1_begin_21 : decode cX1_begin 21 = .ok (.aload_n 0, 1) := by decide +kernel
theorem dX1_begin_22 : decode cX1_begin 22 = .ok (.getfield 9, 3) := by decide +kernel
theorem dX1_begin_25 : decode cX1_begin 25 = .ok (.ldc 30, 2) := by decide +kernel
theorem dX1_begin_27 : decode cX1_begin 27 = .ok (.invokestatic 31, 3) := by decide +kernel
theorem dX1_begin_30 : decode cX1_begin 30 = .ok (.aload_n 0, 1) := by decide +kernel
theorem dX1_begin_31 : decode cX1_begin 31 = .ok (.iconst 0, 1) := by decide +kernel
theorem dX1_begin_32 : decode cX1_begin 32 = .ok (.lconst 0, 1) := by decide +kernel
theorem dX1_begin_33 : decode cX1_begin 33 = .ok (.invokevirtual 37, 3) := by decide +kernel
theorem dX1_begin_36 : decode cX1_begin 36 = .ok (.return_, 1) := by decide +kernel
theorem dX1_tell_0 : decode cX1_tell 0 = .ok (.aload_n 0, 1) := by decide +kernel
theorem dX1_tell_1 : decode cX1_tell 1 = .ok (.iconst 1, 1) := by decide +kernel
theorem dX1_tell_2 : decode cX1_tell 2 = .ok (.putfield 26, 3) := by decide +kernel
theorem dX1_tell_5 : decode cX1_tell 5 = .ok (.aload_n 0, 1) := by decide +kernel
theorem dX1_tell_6 : decode cX1_tell 6 = .ok (.iload_n 1, 1) := by decide +kernel
theorem dX1_tell_7 : decode cX1_tell 7 = .ok (.putfield 41, 3) := by decide +kernel
theorem dX1_tell_10 : decode cX1_tell 10 = .ok (.aload_n 0, 1) := by decide +kernel
theorem dX1_tell_11 : decode cX1_tell 11 = .ok (.iload_n 2, 1) := by decide +kernel
theorem dX1_tell_12 : decode cX1_tell 12 = .ok (.putfield 44, 3) := by decide +kernel
theorem dX1_tell_15 : decode cX1_tell 15 = .ok (.aload_n 0, 1) := by decide +kernel
theorem dX1_tell_16 : decode cX1_tell 16 = .ok (.iload_n 3, 1) := by decide +kernel
theorem dX1_tell_17 : decode cX1_tell 17 = .ok (.putfield 47, 3) := by decide +kernel
theorem dX1_tell_20 : decode cX1_tell 20 = .ok (.return_, 1) := by decide +kernel
theorem dX1_note_0 : decode cX1_note 0 = .ok (.aload_n 0, 1) := by decide +kernel
theorem dX1_note_1 : decode cX1_note 1 = .ok (.iload_n 1, 1) := by decide +kernel
theorem dX1_note_2 : decode cX1_note 2 = .ok (.putfield 50, 3) := by decide +kernel
theorem dX1_note_5 : decode cX1_note 5 = .ok (.aload_n 0, 1) := by decide +kernel
theorem dX1_note_6 : decode cX1_note 6 = .ok (.lload_n 2, 1) := by decide +kernel
theorem dX1_note_7 : decode cX1_note 7 = .ok (.putfield 53, 3) := by decide +kernel
theorem dX1_note_10 : decode cX1_note 10 = .ok (.return_, 1) := by decide +kernel
theorem dX1_term_0 : decode cX1_term 0 = .ok (.iload_n 1, 1) := by decide +kernel
theorem dX1_term_1 : decode cX1_term 1 = .ok (.iconst 2, 1) := by decide +kernel
theorem dX1_term_2 : decode cX1_term 2 = .ok (.if_icmp .ne 10, 3) := by decide +kernel
theorem dX1_term_5 : decode cX1_term 5 = .ok (.aload_n 0, 1) := by decide +kernel
theorem dX1_term_6 : decode cX1_term 6 = .ok (.getfield 41, 3) := by decide +kernel
theorem dX1_term_9 : decode cX1_term 9 = .ok (.goto 19, 3) := by decide +kernel
theorem dX1_term_12 : decode cX1_term 12 = .ok (.iload_n 1, 1) := by decide +kernel
theorem dX1_term_13 : decode cX1_term 13 = .ok (.iconst 3, 1) := by decide +kernel
theorem dX1_term_14 : decode cX1_term 14 = .ok (.if_icmp .ne 10, 3) := by decide +kernel
theorem dX1_term_17 : decode cX1_term 17 = .ok (.aload_n 0, 1) := by decide +kernel
theorem dX1_term_18 : decode cX1_term 18 = .ok (.getfield 44, 3) := by decide +kernel
theorem dX1_term_21 : decode cX1_term 21 = .ok (.goto 7, 3) := by decide +kernel
theorem dX1_term_24 : decode cX1_term 24 = .ok (.aload_n 0, 1) := by decide +kernel
theorem dX1_term_25 : decode cX1_term 25 = .ok (.getfield 47, 3) := by decide +kernel
theorem dX1_term_28 : decode cX1_term 28 = .ok (.ireturn, 1) := by decide +kernel
theorem dX1_limit_0 : decode cX1_limit 0 = .ok (.aload_n 0, 1) := by decide +kernel
theorem dX1_limit_1 : decode cX1_limit 1 = .ok (.getfield 44, 3) := by decide +kernel
theorem dX1_limit_4 : decode cX1_limit 4 = .ok (.i2l, 1) := by decide +kernel
theorem dX1_limit_5 : decode cX1_limit 5 = .ok (.aload_n 0, 1) := by decide +kernel
theorem dX1_limit_6 : decode cX1_limit 6 = .ok (.getfield 47, 3) := by decide +kernel
theorem dX1_limit_9 : decode cX1_limit 9 = .ok (.i2l, 1) := by decide +kernel
theorem dX1_limit_10 : decode cX1_limit 10 = .ok (.lmul, 1) := by decide +kernel
theorem dX1_limit_11 : decode cX1_limit 11 = .ok (.lreturn, 1) := by decide +kernel
theorem dX1_thirdTime_0 : decode cX1_thirdTime 0 = .ok (.iconst 0, 1) := by decide +kernel
theorem dX1_thirdTime_1 : decode cX1_thirdTime 1 = .ok (.istore_n 1, 1) := by decide +kernel
theorem dX1_thirdTime_2 : decode cX1_thirdTime 2 = .ok (.iload_n 1, 1) := by decide +kernel
theorem dX1_thirdTime_3 : decode cX1_thirdTime 3 = .ok (.iconst 5, 1) := by decide +kernel
theorem dX1_thirdTime_4 : decode cX1_thirdTime 4 = .ok (.if_icmp .ge 25, 3) := by decide +kernel
theorem dX1_thirdTime_7 : decode cX1_thirdTime 7 = .ok (.aload_n 0, 1) := by decide +kernel
theorem dX1_thirdTime_8 : decode cX1_thirdTime 8 = .ok (.iload_n 1, 1) := by decide +kernel
theorem dX1_thirdTime_9 : decode cX1_thirdTime 9 = .ok (.invokevirtual 56, 3) := by decide +kernel
theorem dX1_thirdTime_12 : decode cX1_thirdTime 12 = .ok (.iconst 2, 1) := by decide +kernel
theorem dX1_thirdTime_13 : decode cX1_thirdTime 13 = .ok (.if_icmp .ne 10, 3) := by decide +kernel
theorem dX1_thirdTime_16 : decode cX1_thirdTime 16 = .ok (.aload_n 0, 1) := by decide +kernel
theorem dX1_thirdTime_17 : decode cX1_thirdTime 17 = .ok (.getfield 9, 3) := by decide +kernel
theorem dX1_thirdTime_20 : decode cX1_thirdTime 20 = .ok (.iload_n 1, 1) := by decide +kernel
theorem dX1_thirdTime_21 : decode cX1_thirdTime 21 = .ok (.iaload, 1) := by decide +kernel
theorem dX1_thirdTime_22 : decode cX1_thirdTime 22 = .ok (.ireturn, 1) := by decide +kernel
theorem dX1_thirdTime_23 : decode cX1_thirdTime 23 = .ok (.iinc 1 1, 3) := by decide +kernel
theorem dX1_thirdTime_26 : decode cX1_thirdTime 26 = .ok (.goto (-24), 3) := by decide +kernel
theorem dX1_thirdTime_29 : decode cX1_thirdTime 29 = .ok (.ldc 30, 2) := by decide +kernel
theorem dX1_thirdTime_31 : decode cX1_thirdTime 31 = .ok (.ireturn, 1) := by decide +kernel
theorem dX1_nodesBefore_0 : decode cX1_nodesBefore 0 = .ok (.iconst 0, 1) := by decide +kernel
theorem dX1_nodesBefore_1 : decode cX1_nodesBefore 1 = .ok (.istore_n 2, 1) := by decide +kernel
theorem dX1_nodesBefore_2 : decode cX1_nodesBefore 2 = .ok (.iconst 0, 1) := by decide +kernel
theorem dX1_nodesBefore_3 : decode cX1_nodesBefore 3 = .ok (.istore_n 3, 1) := by decide +kernel
theorem dX1_nodesBefore_4 : decode cX1_nodesBefore 4 = .ok (.iload_n 3, 1) := by decide +kernel
theorem dX1_nodesBefore_5 : decode cX1_nodesBefore 5 = .ok (.iconst 5, 1) := by decide +kernel
theorem dX1_nodesBefore_6 : decode cX1_nodesBefore 6 = .ok (.if_icmp .ge 47, 3) := by decide +kernel
theorem dX1_nodesBefore_9 : decode cX1_nodesBefore 9 = .ok (.aload_n 0, 1) := by decide +kernel
theorem dX1_nodesBefore_10 : decode cX1_nodesBefore 10 = .ok (.getfield 9, 3) := by decide +kernel
theorem dX1_nodesBefore_13 : decode cX1_nodesBefore 13 = .ok (.iload_n 3, 1) := by decide +kernel
theorem dX1_nodesBefore_14 : decode cX1_nodesBefore 14 = .ok (.iaload, 1) := by decide +kernel
theorem dX1_nodesBefore_15 : decode cX1_nodesBefore 15 = .ok (.aload_n 0, 1) := by decide +kernel
theorem dX1_nodesBefore_16 : decode cX1_nodesBefore 16 = .ok (.getfield 9, 3) := by decide +kernel
theorem dX1_nodesBefore_19 : decode cX1_nodesBefore 19 = .ok (.iload_n 1, 1) := by decide +kernel
theorem dX1_nodesBefore_20 : decode cX1_nodesBefore 20 = .ok (.iaload, 1) := by decide +kernel
theorem dX1_nodesBefore_21 : decode cX1_nodesBefore 21 = .ok (.if_icmp .lt 23, 3) := by decide +kernel
theorem dX1_nodesBefore_24 : decode cX1_nodesBefore 24 = .ok (.aload_n 0, 1) := by decide +kernel
theorem dX1_nodesBefore_25 : decode cX1_nodesBefore 25 = .ok (.getfield 9, 3) := by decide +kernel
theorem dX1_nodesBefore_28 : decode cX1_nodesBefore 28 = .ok (.iload_n 3, 1) := by decide +kernel
theorem dX1_nodesBefore_29 : decode cX1_nodesBefore 29 = .ok (.iaload, 1) := by decide +kernel
theorem dX1_nodesBefore_30 : decode cX1_nodesBefore 30 = .ok (.aload_n 0, 1) := by decide +kernel
theorem dX1_nodesBefore_31 : decode cX1_nodesBefore 31 = .ok (.getfield 9, 3) := by decide +kernel
theorem dX1_nodesBefore_34 : decode cX1_nodesBefore 34 = .ok (.iload_n 1, 1) := by decide +kernel
theorem dX1_nodesBefore_35 : decode cX1_nodesBefore 35 = .ok (.iaload, 1) := by decide +kernel
theorem dX1_nodesBefore_36 : decode cX1_nodesBefore 36 = .ok (.if_icmp .ne 11, 3) := by decide +kernel
theorem dX1_nodesBefore_39 : decode cX1_nodesBefore 39 = .ok (.iload_n 3, 1) := by decide +kernel
theorem dX1_nodesBefore_40 : decode cX1_nodesBefore 40 = .ok (.iload_n 1, 1) := by decide +kernel
theorem dX1_nodesBefore_41 : decode cX1_nodesBefore 41 = .ok (.if_icmp .ge 6, 3) := by decide +kernel
theorem dX1_nodesBefore_44 : decode cX1_nodesBefore 44 = .ok (.iinc 2 1, 3) := by decide +kernel
theorem dX1_nodesBefore_47 : decode cX1_nodesBefore 47 = .ok (.iinc 3 1, 3) := by decide +kernel
theorem dX1_nodesBefore_50 : decode cX1_nodesBefore 50 = .ok (.goto (-46), 3) := by decide +kernel
theorem dX1_nodesBefore_53 : decode cX1_nodesBefore 53 = .ok (.iload_n 2, 1) := by decide +kernel
theorem dX1_nodesBefore_54 : decode cX1_nodesBefore 54 = .ok (.ireturn, 1) := by decide +kernel
theorem dX1_isAheadOf_0 : decode cX1_isAheadOf 0 = .ok (.iconst 0, 1) := by decide +kernel
theorem dX1_isAheadOf_1 : decode cX1_isAheadOf 1 = .ok (.istore_n 2, 1) := by decide +kernel
theorem dX1_isAheadOf_2 : decode cX1_isAheadOf 2 = .ok (.iconst 0, 1) := by decide +kernel
theorem dX1_isAheadOf_3 : decode cX1_isAheadOf 3 = .ok (.istore_n 3, 1) := by decide +kernel
theorem dX1_isAheadOf_4 : decode cX1_isAheadOf 4 = .ok (.iload_n 3, 1) := by decide +kernel
theorem dX1_isAheadOf_5 : decode cX1_isAheadOf 5 = .ok (.iconst 5, 1) := by decide +kernel
theorem dX1_isAheadOf_6 : decode cX1_isAheadOf 6 = .ok (.if_icmp .ge 27, 3) := by decide +kernel
theorem dX1_isAheadOf_9 : decode cX1_isAheadOf 9 = .ok (.iload_n 2, 1) := by decide +kernel
theorem dX1_isAheadOf_10 : decode cX1_isAheadOf 10 = .ok (.aload_n 1, 1) := by decide +kernel
theorem dX1_isAheadOf_11 : decode cX1_isAheadOf 11 = .ok (.getfield 9, 3) := by decide +kernel
theorem dX1_isAheadOf_14 : decode cX1_isAheadOf 14 = .ok (.iload_n 3, 1) := by decide +kernel
theorem dX1_isAheadOf_15 : decode cX1_isAheadOf 15 = .ok (.iaload, 1) := by decide +kernel
theorem dX1_isAheadOf_16 : decode cX1_isAheadOf 16 = .ok (.aload_n 0, 1) := by decide +kernel
theorem dX1_isAheadOf_17 : decode cX1_isAheadOf 17 = .ok (.getfield 9, 3) := by decide +kernel
theorem dX1_isAheadOf_20 : decode cX1_isAheadOf 20 = .ok (.iload_n 3, 1) := by decide +kernel
theorem dX1_isAheadOf_21 : decode cX1_isAheadOf 21 = .ok (.iaload, 1) := by decide +kernel
theorem dX1_isAheadOf_22 : decode cX1_isAheadOf 22 = .ok (.invokestatic 60, 3) := by decide +kernel
theorem dX1_isAheadOf_25 : decode cX1_isAheadOf 25 = .ok (.iadd, 1) := by decide +kernel
theorem dX1_isAheadOf_26 : decode cX1_isAheadOf 26 = .ok (.istore_n 2, 1) := by decide +kernel
theorem dX1_isAheadOf_27 : decode cX1_isAheadOf 27 = .ok (.iinc 3 1, 3) := by decide +kernel
theorem dX1_isAheadOf_30 : decode cX1_isAheadOf 30 = .ok (.goto (-26), 3) := by decide +kernel
theorem dX1_isAheadOf_33 : decode cX1_isAheadOf 33 = .ok (.iload_n 2, 1) := by decide +kernel
theorem dX1_isAheadOf_34 : decode cX1_isAheadOf 34 = .ok (.ifCond .le 7, 3) := by decide +kernel
theorem dX1_isAheadOf_37 : decode cX1_isAheadOf 37 = .ok (.iconst 1, 1) := by decide +kernel
theorem dX1_isAheadOf_38 : decode cX1_isAheadOf 38 = .ok (.goto 4, 3) := by decide +kernel
theorem dX1_isAheadOf_41 : decode cX1_isAheadOf 41 = .ok (.iconst 0, 1) := by decide +kernel
theorem dX1_isAheadOf_42 : decode cX1_isAheadOf 42 = .ok (.ireturn, 1) := by decide +kernel
theorem dX4_init_0 : decode cX4_init 0 = .ok (.aload_n 0, 1) := by decide +kernel
theorem dX4_init_1 : decode cX4_init 1 = .ok (.invokespecial 3, 3) := by decide +kernel
theorem dX4_init_4 : decode cX4_init 4 = .ok (.aload_n 0, 1) := by decide +kernel
theorem dX4_init_5 : decode cX4_init 5 = .ok (.bipush 16, 2) := by decide +kernel
theorem dX4_init_7 : decode cX4_init 7 = .ok (.newarray .int, 2) := by decide +kernel
theorem dX4_init_9 : decode cX4_init 9 = .ok (.putfield 9, 3) := by decide +kernel
theorem dX4_init_12 : decode cX4_init 12 = .ok (.return_, 1) := by decide +kernel
theorem dX4_find_0 : decode cX4_find 0 = .ok (.iconst 0, 1) := by decide +kernel
theorem dX4_find_1 : decode cX4_find 1 = .ok (.istore_n 3, 1) := by decide +kernel
theorem dX4_find_2 : decode cX4_find 2 = .ok (.iload_n 3, 1) := by decide +kernel
theorem dX4_find_3 : decode cX4_find 3 = .ok (.iload_n 2, 1) := by decide +kernel
theorem dX4_find_4 : decode cX4_find 4 = .ok (.if_icmp .ge 22, 3) := by decide +kernel
theorem dX4_find_7 : decode cX4_find 7 = .ok (.aload_n 0, 1) := by decide +kernel
theorem dX4_find_8 : decode cX4_find 8 = .ok (.getfield 9, 3) := by decide +kernel
theorem dX4_find_11 : decode cX4_find 11 = .ok (.iload_n 3, 1) := by decide +kernel
theorem dX4_find_12 : decode cX4_find 12 = .ok (.aload_n 0, 1) := by decide +kernel
theorem dX4_find_13 : decode cX4_find 13 = .ok (.iload_n 3, 1) := by decide +kernel
theorem dX4_find_14 : decode cX4_find 14 = .ok (.aload_n 1, 1) := by decide +kernel
theorem dX4_find_15 : decode cX4_find 15 = .ok (.iload_n 2, 1) := by decide +kernel
theorem dX4_find_16 : decode cX4_find 16 = .ok (.invokevirtual 15, 3) := by decide +kernel
theorem dX4_find_19 : decode cX4_find 19 = .ok (.iastore, 1) := by decide +kernel
theorem dX4_find_20 : decode cX4_find 20 = .ok (.iinc 3 1, 3) := by decide +kernel
theorem dX4_find_23 : decode cX4_find 23 = .ok (.goto (-21), 3) := by decide +kernel
theorem dX4_find_26 : decode cX4_find 26 = .ok (.iconst 0, 1) := by decide +kernel
theorem dX4_find_27 : decode cX4_find 27 = .ok (.istore_n 3, 1) := by decide +kernel
theorem dX4_find_28 : decode cX4_find 28 = .ok (.iload_n 3, 1) := by decide +kernel
theorem dX4_find_29 : decode cX4_find 29 = .ok (.iload_n 2, 1) := by decide +kernel
theorem dX4_find_30 : decode cX4_find 30 = .ok (.if_icmp .ge 50, 3) := by decide +kernel
theorem dX4_find_33 : decode cX4_find 33 = .ok (.iconst 0, 1) := by decide +kernel
theorem dX4_find_34 : decode cX4_find 34 = .ok (.istore 4, 2) := by decide +kernel
theorem dX4_find_36 : decode cX4_find 36 = .ok (.iload 4, 2) := by decide +kernel
theorem dX4_find_38 : decode cX4_find 38 = .ok (.iload_n 2, 1) := by decide +kernel
theorem dX4_find_39 : decode cX4_find 39 = .ok (.if_icmp .ge 35, 3) := by decide +kernel
theorem dX4_find_42 : decode cX4_find 42 = .ok (.aload_n 0, 1) := by decide +kernel
theorem dX4_find_43 : decode cX4_find 43 = .ok (.iload 4, 2) := by decide +kernel
theorem dX4_find_45 : decode cX4_find 45 = .ok (.iload_n 3, 1) := by decide +kernel
theorem dX4_find_46 : decode cX4_find 46 = .ok (.invokevirtual 19, 3) := by decide +kernel
theorem dX4_find_49 : decode cX4_find 49 = .ok (.ifCond .eq 19, 3) := by decide +kernel
theorem dX4_find_52 : decode cX4_find 52 = .ok (.aload_n 0, 1) := by decide +kernel
theorem dX4_find_53 : decode cX4_find 53 = .ok (.getfield 9, 3) := by decide +kernel
theorem dX4_find_56 : decode cX4_find 56 = .ok (.iload 4, 2) := by decide +kernel
theorem dX4_find_58 : decode cX4_find 58 = .ok (.dup2, 1) := by decide +kernel
theorem dX4_find_59 : decode cX4_find 59 = .ok (.iaload, 1) := by decide +kernel
theorem dX4_find_60 : decode cX4_find 60 = .ok (.aload_n 0, 1) := by decide +kernel
theorem dX4_find_61 : decode cX4_find 61 = .ok (.getfield 9, 3) := by decide +kernel
theorem dX4_find_64 : decode cX4_find 64 = .ok (.iload_n 3, 1) := by decide +kernel
theorem dX4_find_65 : decode cX4_find 65 = .ok (.iaload, 1) := by decide +kernel
theorem dX4_find_66 : decode cX4_find 66 = .ok (.ior, 1) := by decide +kernel
theorem dX4_find_67 : decode cX4_find 67 = .ok (.iastore, 1) := by decide +kernel
theorem dX4_find_68 : decode cX4_find 68 = .ok (.iinc 4 1, 3) := by decide +kernel
theorem dX4_find_71 : decode cX4_find 71 = .ok (.goto (-35), 3) := by decide +kernel
theorem dX4_find_74 : decode cX4_find 74 = .ok (.iinc 3 1, 3) := by decide +kernel
theorem dX4_find_77 : decode cX4_find 77 = .ok (.goto (-49), 3) := by decide +kernel
theorem dX4_find_80 : decode cX4_find 80 = .ok (.return_, 1) := by decide +kernel
theorem dX4_setBehind_0 : decode cX4_setBehind 0 = .ok (.iconst 0, 1) := by decide +kernel
theorem dX4_setBehind_1 : decode cX4_setBehind 1 = .ok (.istore 4, 2) := by decide +kernel
theorem dX4_setBehind_3 : decode cX4_setBehind 3 = .ok (.iconst 0, 1) := by decide +kernel
theorem dX4_setBehind_4 : decode cX4_setBehind 4 = .ok (.istore 5, 2) := by decide +kernel
theorem dX4_setBehind_6 : decode cX4_setBehind 6 = .ok (.iload 5, 2) := by decide +kernel
theorem dX4_setBehind_8 : decode cX4_setBehind 8 = .ok (.iload_n 3, 1) := by decide +kernel
theorem dX4_setBehind_9 : decode cX4_setBehind 9 = .ok (.if_icmp .ge 50, 3) := by decide +kernel
theorem dX4_setBehind_12 : decode cX4_setBehind 12 = .ok (.aload_n 2, 1) := by decide +kernel
theorem dX4_setBehind_13 : decode cX4_setBehind 13 = .ok (.iload_n 1, 1) := by decide +kernel
theorem dX4_setBehind_14 : decode cX4_setBehind 14 = .ok (.aaload, 1) := by decide +kernel
theorem dX4_setBehind_15 : decode cX4_setBehind 15 = .ok (.getfield 23, 3) := by decide +kernel
theorem dX4_setBehind_18 : decode cX4_setBehind 18 = .ok (.ifCond .eq 35, 3) := by decide +kernel
theorem dX4_setBehind_21 : decode cX4_setBehind 21 = .ok (.aload_n 2, 1) := by decide +kernel
theorem dX4_setBehind_22 : decode cX4_setBehind 22 = .ok (.iload 5, 2) := by decide +kernel
theorem dX4_setBehind_24 : decode cX4_setBehind 24 = .ok (.aaload, 1) := by decide +kernel
theorem dX4_setBehind_25 : decode cX4_setBehind 25 = .ok (.getfield 23, 3) := by decide +kernel
theorem dX4_setBehind_28 : decode cX4_setBehind 28 = .ok (.ifCond .eq 25, 3) := by decide +kernel
theorem dX4_setBehind_31 : decode cX4_setBehind 31 = .ok (.aload_n 2, 1) := by decide +kernel
theorem dX4_setBehind_32 : decode cX4_setBehind 32 = .ok (.iload_n 1, 1) := by decide +kernel
theorem dX4_setBehind_33 : decode cX4_setBehind 33 = .ok (.aaload, 1) := by decide +kernel
theorem dX4_setBehind_34 : decode cX4_setBehind 34 = .ok (.aload_n 2, 1) := by decide +kernel
theorem dX4_setBehind_35 : decode cX4_setBehind 35 = .ok (.iload 5, 2) := by decide +kernel
theorem dX4_setBehind_37 : decode cX4_setBehind 37 = .ok (.aaload, 1) := by decide +kernel
theorem dX4_setBehind_38 : decode cX4_setBehind 38 = .ok (.invokevirtual 29, 3) := by decide +kernel
theorem dX4_setBehind_41 : decode cX4_setBehind 41 = .ok (.ifCond .eq 12, 3) := by decide +kernel
theorem dX4_setBehind_44 : decode cX4_setBehind 44 = .ok (.iload 4, 2) := by decide +kernel
theorem dX4_setBehind_46 : decode cX4_setBehind 46 = .ok (.iconst 1, 1) := by decide +kernel
theorem dX4_setBehind_47 : decode cX4_setBehind 47 = .ok (.iload 5, 2) := by decide +kernel
theorem dX4_setBehind_49 : decode cX4_setBehind 49 = .ok (.ishl, 1) := by decide +kernel
theorem dX4_setBehind_50 : decode cX4_setBehind 50 = .ok (.ior, 1) := by decide +kernel
theorem dX4_setBehind_51 : decode cX4_setBehind 51 = .ok (.istore 4, 2) := by decide +kernel
theorem dX4_setBehind_53 : decode cX4_setBehind 53 = .ok (.iinc 5 1, 3) := by decide +kernel
theorem dX4_setBehind_56 : decode cX4_setBehind 56 = .ok (.goto (-50), 3) := by decide +kernel
theorem dX4_setBehind_59 : decode cX4_setBehind 59 = .ok (.iload 4, 2) := by decide +kernel
theorem dX4_setBehind_61 : decode cX4_setBehind 61 = .ok (.ireturn, 1) := by decide +kernel
theorem dX4_leads_0 : decode cX4_leads 0 = .ok (.aload_n 0, 1) := by decide +kernel
theorem dX4_leads_1 : decode cX4_leads 1 = .ok (.getfield 9, 3) := by decide +kernel
theorem dX4_leads_4 : decode cX4_leads 4 = .ok (.iload_n 1, 1) := by decide +kernel
theorem dX4_leads_5 : decode cX4_leads 5 = .ok (.iaload, 1) := by decide +kernel
theorem dX4_leads_6 : decode cX4_leads 6 = .ok (.iload_n 2, 1) := by decide +kernel
theorem dX4_leads_7 : decode cX4_leads 7 = .ok (.invokestatic 33, 3) := by decide +kernel
theorem dX4_leads_10 : decode cX4_leads 10 = .ok (.ireturn, 1) := by decide +kernel
theorem dX4_addKnots_0 : decode cX4_addKnots 0 = .ok (.iload_n 2, 1) := by decide +kernel
theorem dX4_addKnots_1 : decode cX4_addKnots 1 = .ok (.istore 4, 2) := by decide +kernel
theorem dX4_addKnots_3 : decode cX4_addKnots 3 = .ok (.iconst 0, 1) := by decide +kernel
theorem dX4_addKnots_4 : decode cX4_addKnots 4 = .ok (.istore 5, 2) := by decide +kernel
theorem dX4_addKnots_6 : decode cX4_addKnots 6 = .ok (.iload 5, 2) := by decide +kernel
theorem dX4_addKnots_8 : decode cX4_addKnots 8 = .ok (.bipush 16, 2) := by decide +kernel
theorem dX4_addKnots_10 : decode cX4_addKnots 10 = .ok (.if_icmp .ge 39, 3) := by decide +kernel
theorem dX4_addKnots_13 : decode cX4_addKnots 13 = .ok (.iload 4, 2) := by decide +kernel
theorem dX4_addKnots_15 : decode cX4_addKnots 15 = .ok (.ifCond .eq 34, 3) := by decide +kernel
theorem dX4_addKnots_18 : decode cX4_addKnots 18 = .ok (.aload_n 0, 1) := by decide +kernel
theorem dX4_addKnots_19 : decode cX4_addKnots 19 = .ok (.iload 4, 2) := by decide +kernel
theorem dX4_addKnots_21 : decode cX4_addKnots 21 = .ok (.iload_n 3, 1) := by decide +kernel
theorem dX4_addKnots_22 : decode cX4_addKnots 22 = .ok (.invokevirtual 36, 3) := by decide +kernel
theorem dX4_addKnots_25 : decode cX4_addKnots 25 = .ok (.istore 6, 2) := by decide +kernel
theorem dX4_addKnots_27 : decode cX4_addKnots 27 = .ok (.aload_n 1, 1) := by decide +kernel
theorem dX4_addKnots_28 : decode cX4_addKnots 28 = .ok (.iload 6, 2) := by decide +kernel
theorem dX4_addKnots_30 : decode cX4_addKnots 30 = .ok (.iload_n 3, 1) := by decide +kernel
theorem dX4_addKnots_31 : decode cX4_addKnots 31 = .ok (.invokestatic 40, 3) := by decide +kernel
theorem dX4_addKnots_34 : decode cX4_addKnots 34 = .ok (.iload 4, 2) := by decide +kernel
theorem dX4_addKnots_36 : decode cX4_addKnots 36 = .ok (.iload 6, 2) := by decide +kernel
theorem dX4_addKnots_38 : decode cX4_addKnots 38 = .ok (.iconst (-1), 1) := by decide +kernel
theorem dX4_addKnots_39 : decode cX4_addKnots 39 = .ok (.ixor, 1) := by decide +kernel
theorem dX4_addKnots_40 : decode cX4_addKnots 40 = .ok (.iand, 1) := by decide +kernel
theorem dX4_addKnots_41 : decode cX4_addKnots 41 = .ok (.istore 4, 2) := by decide +kernel
theorem dX4_addKnots_43 : decode cX4_addKnots 43 = .ok (.iinc 5 1, 3) := by decide +kernel
theorem dX4_addKnots_46 : decode cX4_addKnots 46 = .ok (.goto (-40), 3) := by decide +kernel
theorem dX4_addKnots_49 : decode cX4_addKnots 49 = .ok (.return_, 1) := by decide +kernel
theorem dX4_firstKnot_0 : decode cX4_firstKnot 0 = .ok (.iconst 0, 1) := by decide +kernel
theorem dX4_firstKnot_1 : decode cX4_firstKnot 1 = .ok (.istore_n 3, 1) := by decide +kernel
theorem dX4_firstKnot_2 : decode cX4_firstKnot 2 = .ok (.iload_n 3, 1) := by decide +kernel
theorem dX4_firstKnot_3 : decode cX4_firstKnot 3 = .ok (.iload_n 2, 1) := by decide +kernel
theorem dX4_firstKnot_4 : decode cX4_firstKnot 4 = .ok (.if_icmp .ge 34, 3) := by decide +kernel
theorem dX4_firstKnot_7 : decode cX4_firstKnot 7 = .ok (.iload_n 1, 1) := by decide +kernel
theorem dX4_firstKnot_8 : decode cX4_firstKnot 8 = .ok (.iload_n 3, 1) := by decide +kernel
theorem dX4_firstKnot_9 : decode cX4_firstKnot 9 = .ok (.invokestatic 33, 3) := by decide +kernel
theorem dX4_firstKnot_12 : decode cX4_firstKnot 12 = .ok (.ifCond .eq 20, 3) := by decide +kernel
theorem dX4_firstKnot_15 : decode cX4_firstKnot 15 = .ok (.aload_n 0, 1) := by decide +kernel
theorem dX4_firstKnot_16 : decode cX4_firstKnot 16 = .ok (.iload_n 3, 1) := by decide +kernel
theorem dX4_firstKnot_17 : decode cX4_firstKnot 17 = .ok (.iload_n 1, 1) := by decide +kernel
theorem dX4_firstKnot_18 : decode cX4_firstKnot 18 = .ok (.iload_n 2, 1) := by decide +kernel
theorem dX4_firstKnot_19 : decode cX4_firstKnot 19 = .ok (.invokevirtual 44, 3) := by decide +kernel
theorem dX4_firstKnot_22 : decode cX4_firstKnot 22 = .ok (.ifCond .eq 10, 3) := by decide +kernel
theorem dX4_firstKnot_25 : decode cX4_firstKnot 25 = .ok (.aload_n 0, 1) := by decide +kernel
theorem dX4_firstKnot_26 : decode cX4_firstKnot 26 = .ok (.iload_n 3, 1) := by decide +kernel
theorem dX4_firstKnot_27 : decode cX4_firstKnot 27 = .ok (.iload_n 2, 1) := by decide +kernel
theorem dX4_firstKnot_28 : decode cX4_firstKnot 28 = .ok (.invokevirtual 48, 3) := by decide +kernel
theorem dX4_firstKnot_31 : decode cX4_firstKnot 31 = .ok (.ireturn, 1) := by decide +kernel
theorem dX4_firstKnot_32 : decode cX4_firstKnot 32 = .ok (.iinc 3 1, 3) := by decide +kernel
theorem dX4_firstKnot_35 : decode cX4_firstKnot 35 = .ok (.goto (-33), 3) := by decide +kernel
theorem dX4_firstKnot_38 : decode cX4_firstKnot 38 = .ok (.iconst 0, 1) := by decide +kernel
theorem dX4_firstKnot_39 : decode cX4_firstKnot 39 = .ok (.ireturn, 1) := by decide +kernel
theorem dX4_isFree_0 : decode cX4_isFree 0 = .ok (.iconst 0, 1) := by decide +kernel
theorem dX4_isFree_1 : decode cX4_isFree 1 = .ok (.istore 4, 2) := by decide +kernel
theorem dX4_isFree_3 : decode cX4_isFree 3 = .ok (.iload 4, 2) := by decide +kernel
theorem dX4_isFree_5 : decode cX4_isFree 5 = .ok (.iload_n 3, 1) := by decide +kernel
theorem dX4_isFree_6 : decode cX4_isFree 6 = .ok (.if_icmp .ge 40, 3) := by decide +kernel
theorem dX4_isFree_9 : decode cX4_isFree 9 = .ok (.iload_n 2, 1) := by decide +kernel
theorem dX4_isFree_10 : decode cX4_isFree 10 = .ok (.iload 4, 2) := by decide +kernel
theorem dX4_isFree_12 : decode cX4_isFree 12 = .ok (.invokestatic 33, 3) := by decide +kernel
theorem dX4_isFree_15 : decode cX4_isFree 15 = .ok (.ifCond .eq 25, 3) := by decide +kernel
theorem dX4_isFree_18 : decode cX4_isFree 18 = .ok (.aload_n 0, 1) := by decide +kernel
theorem dX4_isFree_19 : decode cX4_isFree 19 = .ok (.iload 4, 2) := by decide +kernel
theorem dX4_isFree_21 : decode cX4_isFree 21 = .ok (.iload_n 1, 1) := by decide +kernel
theorem dX4_isFree_22 : decode cX4_isFree 22 = .ok (.invokevirtual 19, 3) := by decide +kernel
theorem dX4_isFree_25 : decode cX4_isFree 25 = .ok (.ifCond .eq 15, 3) := by decide +kernel
theorem dX4_isFree_28 : decode cX4_isFree 28 = .ok (.aload_n 0, 1) := by decide +kernel
theorem dX4_isFree_29 : decode cX4_isFree 29 = .ok (.iload_n 1, 1) := by decide +kernel
theorem dX4_isFree_30 : decode cX4_isFree 30 = .ok (.iload 4, 2) := by decide +kernel
theorem dX4_isFree_32 : decode cX4_isFree 32 = .ok (.invokevirtual 19, 3) := by decide +kernel
theorem dX4_isFree_35 : decode cX4_isFree 35 = .ok (.ifCond .ne 5, 3) := by decide +kernel
theorem dX4_isFree_38 : decode cX4_isFree 38 = .ok (.iconst 0, 1) := by decide +kernel
theorem dX4_isFree_39 : decode cX4_isFree 39 = .ok (.ireturn, 1) := by decide +kernel
theorem dX4_isFree_40 : decode cX4_isFree 40 = .ok (.iinc 4 1, 3) := by decide +kernel
theorem dX4_isFree_43 : decode cX4_isFree 43 = .ok (.goto (-40), 3) := by decide +kernel
theorem dX4_isFree_46 : decode cX4_isFree 46 = .ok (.iconst 1, 1) := by decide +kernel
theorem dX4_isFree_47 : decode cX4_isFree 47 = .ok (.ireturn, 1) := by decide +kernel
theorem dX4_knotOf_0 : decode cX4_knotOf 0 = .ok (.iconst 1, 1) := by decide +kernel
theorem dX4_knotOf_1 : decode cX4_knotOf 1 = .ok (.iload_n 1, 1) := by decide +kernel
theorem dX4_knotOf_2 : decode cX4_knotOf 2 = .ok (.ishl, 1) := by decide +kernel
theorem dX4_knotOf_3 : decode cX4_knotOf 3 = .ok (.istore_n 3, 1) := by decide +kernel
theorem dX4_knotOf_4 : decode cX4_knotOf 4 = .ok (.iconst 0, 1) := by decide +kernel
theorem dX4_knotOf_5 : decode cX4_knotOf 5 = .ok (.istore 4, 2) := by decide +kernel
theorem dX4_knotOf_7 : decode cX4_knotOf 7 = .ok (.iload 4, 2) := by decide +kernel
theorem dX4_knotOf_9 : decode cX4_knotOf 9 = .ok (.iload_n 2, 1) := by decide +kernel
theorem dX4_knotOf_10 : decode cX4_knotOf 10 = .ok (.if_icmp .ge 36, 3) := by decide +kernel
theorem dX4_knotOf_13 : decode cX4_knotOf 13 = .ok (.aload_n 0, 1) := by decide +kernel
theorem dX4_knotOf_14 : decode cX4_knotOf 14 = .ok (.iload_n 1, 1) := by decide +kernel
theorem dX4_knotOf_15 : decode cX4_knotOf 15 = .ok (.iload 4, 2) := by decide +kernel
theorem dX4_knotOf_17 : decode cX4_knotOf 17 = .ok (.invokevirtual 19, 3) := by decide +kernel
theorem dX4_knotOf_20 : decode cX4_knotOf 20 = .ok (.ifCond .eq 20, 3) := by decide +kernel
theorem dX4_knotOf_23 : decode cX4_knotOf 23 = .ok (.aload_n 0, 1) := by decide +kernel
theorem dX4_knotOf_24 : decode cX4_knotOf 24 = .ok (.iload 4, 2) := by decide +kernel
theorem dX4_knotOf_26 : decode cX4_knotOf 26 = .ok (.iload_n 1, 1) := by decide +kernel
theorem dX4_knotOf_27 : decode cX4_knotOf 27 = .ok (.invokevirtual 19, 3) := by decide +kernel
theorem dX4_knotOf_30 : decode cX4_knotOf 30 = .ok (.ifCond .eq 10, 3) := by decide +kernel
theorem dX4_knotOf_33 : decode cX4_knotOf 33 = .ok (.iload_n 3, 1) := by decide +kernel
theorem dX4_knotOf_34 : decode cX4_knotOf 34 = .ok (.iconst 1, 1) := by decide +kernel
theorem dX4_knotOf_35 : decode cX4_knotOf 35 = .ok (.iload 4, 2) := by decide +kernel
theorem dX4_knotOf_37 : decode cX4_knotOf 37 = .ok (.ishl, 1) := by decide +kernel
theorem dX4_knotOf_38 : decode cX4_knotOf 38 = .ok (.ior, 1) := by decide +kernel
theorem dX4_knotOf_39 : decode cX4_knotOf 39 = .ok (.istore_n 3, 1) := by decide +kernel
theorem dX4_knotOf_40 : decode cX4_knotOf 40 = .ok (.iinc 4 1, 3) := by decide +kernel
theorem dX4_knotOf_43 : decode cX4_knotOf 43 = .ok (.goto (-36), 3) := by decide +kernel
theorem dX4_knotOf_46 : decode cX4_knotOf 46 = .ok (.iload_n 3, 1) := by decide +kernel
theorem dX4_knotOf_47 : decode cX4_knotOf 47 = .ok (.ireturn, 1) := by decide +kernel
theorem dX4_addSet_0 : decode cX4_addSet 0 = .ok (.iconst 0, 1) := by decide +kernel
theorem dX4_addSet_1 : decode cX4_addSet 1 = .ok (.istore_n 3, 1) := by decide +kernel
theorem dX4_addSet_2 : decode cX4_addSet 2 = .ok (.iload_n 3, 1) := by decide +kernel
theorem dX4_addSet_3 : decode cX4_addSet 3 = .ok (.iload_n 2, 1) := by decide +kernel
theorem dX4_addSet_4 : decode cX4_addSet 4 = .ok (.if_icmp .ge 22, 3) := by decide +kernel
theorem dX4_addSet_7 : decode cX4_addSet 7 = .ok (.iload_n 1, 1) := by decide +kernel
theorem dX4_addSet_8 : decode cX4_addSet 8 = .ok (.iload_n 3, 1) := by decide +kernel
theorem dX4_addSet_9 : decode cX4_addSet 9 = .ok (.invokestatic 33, 3) := by decide +kernel
theorem dX4_addSet_12 : decode cX4_addSet 12 = .ok (.ifCond .eq 8, 3) := by decide +kernel
theorem dX4_addSet_15 : decode cX4_addSet 15 = .ok (.aload_n 0, 1) := by decide +kernel
theorem dX4_addSet_16 : decode cX4_addSet 16 = .ok (.iload_n 3, 1) := by decide +kernel
theorem dX4_addSet_17 : decode cX4_addSet 17 = .ok (.invokevirtual 51, 3) := by decide +kernel
theorem dX4_addSet_20 : decode cX4_addSet 20 = .ok (.iinc 3 1, 3) := by decide +kernel
theorem dX4_addSet_23 : decode cX4_addSet 23 = .ok (.goto (-21), 3) := by decide +kernel
theorem dX4_addSet_26 : decode cX4_addSet 26 = .ok (.return_, 1) := by decide +kernel
theorem dX4_contains_0 : decode cX4_contains 0 = .ok (.iload_n 0, 1) := by decide +kernel
theorem dX4_contains_1 : decode cX4_contains 1 = .ok (.iload_n 1, 1) := by decide +kernel
theorem dX4_contains_2 : decode cX4_contains 2 = .ok (.iushr, 1) := by decide +kernel
theorem dX4_contains_3 : decode cX4_contains 3 = .ok (.iconst 1, 1) := by decide +kernel
theorem dX4_contains_4 : decode cX4_contains 4 = .ok (.iand, 1) := by decide +kernel
theorem dX4_contains_5 : decode cX4_contains 5 = .ok (.ifCond .eq 7, 3) := by decide +kernel
theorem dX4_contains_8 : decode cX4_contains 8 = .ok (.iconst 1, 1) := by decide +kernel
theorem dX4_contains_9 : decode cX4_contains 9 = .ok (.goto 4, 3) := by decide +kernel
theorem dX4_contains_12 : decode cX4_contains 12 = .ok (.iconst 0, 1) := by decide +kernel
theorem dX4_contains_13 : decode cX4_contains 13 = .ok (.ireturn, 1) := by decide +kernel
theorem dX2_init_0 : decode cX2_init 0 = .ok (.aload_n 0, 1) := by decide +kernel
theorem dX2_init_1 : decode cX2_init 1 = .ok (.invokespecial 3, 3) := by decide +kernel
theorem dX2_init_4 : decode cX2_init 4 = .ok (.aload_n 0, 1) := by decide +kernel
theorem dX2_init_5 : decode cX2_init 5 = .ok (.bipush 9, 2) := by decide +kernel
theorem dX2_init_7 : decode cX2_init 7 = .ok (.newarray .long, 2) := by decide +kernel
theorem dX2_init_9 : decode cX2_init 9 = .ok (.putfield 9, 3) := by decide +kernel
theorem dX2_init_12 : decode cX2_init 12 = .ok (.aload_n 0, 1) := by decide +kernel
theorem dX2_init_13 : decode cX2_init 13 = .ok (.bipush 9, 2) := by decide +kernel
theorem dX2_init_15 : decode cX2_init 15 = .ok (.newarray .long, 2) := by decide +kernel
theorem dX2_init_17 : decode cX2_init 17 = .ok (.putfield 15, 3) := by decide +kernel
theorem dX2_init_20 : decode cX2_init 20 = .ok (.return_, 1) := by decide +kernel
theorem dX2_makeEmpty_0 : decode cX2_makeEmpty 0 = .ok (.aload_n 0, 1) := by decide +kernel
theorem dX2_makeEmpty_1 : decode cX2_makeEmpty 1 = .ok (.getfield 9, 3) := by decide +kernel
theorem dX2_makeEmpty_4 : decode cX2_makeEmpty 4 = .ok (.lconst 0, 1) := by decide +kernel
theorem dX2_makeEmpty_5 : decode cX2_makeEmpty 5 = .ok (.invokestatic 18, 3) := by decide +kernel
theorem dX2_makeEmpty_8 : decode cX2_makeEmpty 8 = .ok (.aload_n 0, 1) := by decide +kernel
theorem dX2_makeEmpty_9 : decode cX2_makeEmpty 9 = .ok (.getfield 15, 3) := by decide +kernel
theorem dX2_makeEmpty_12 : decode cX2_makeEmpty 12 = .ok (.lconst 0, 1) := by decide +kernel
theorem dX2_makeEmpty_13 : decode cX2_makeEmpty 13 = .ok (.invokestatic 18, 3) := by decide +kernel
theorem dX2_makeEmpty_16 : decode cX2_makeEmpty 16 = .ok (.return_, 1) := by decide +kernel
theorem dX2_put_0 : decode cX2_put 0 = .ok (.aload_n 0, 1) := by decide +kernel
theorem dX2_put_1 : decode cX2_put 1 = .ok (.getfield 9, 3) := by decide +kernel
theorem dX2_put_4 : decode cX2_put 4 = .ok (.iload_n 1, 1) := by decide +kernel
theorem dX2_put_5 : decode cX2_put 5 = .ok (.lload_n 2, 1) := by decide +kernel
theorem dX2_put_6 : decode cX2_put 6 = .ok (.lastore, 1) := by decide +kernel
theorem dX2_put_7 : decode cX2_put 7 = .ok (.aload_n 0, 1) := by decide +kernel
theorem dX2_put_8 : decode cX2_put 8 = .ok (.getfield 15, 3) := by decide +kernel
theorem dX2_put_11 : decode cX2_put 11 = .ok (.iload_n 1, 1) := by decide +kernel
theorem dX2_put_12 : decode cX2_put 12 = .ok (.lload 4, 2) := by decide +kernel
theorem dX2_put_14 : decode cX2_put 14 = .ok (.lastore, 1) := by decide +kernel
theorem dX2_put_15 : decode cX2_put 15 = .ok (.return_, 1) := by decide +kernel
theorem dX2_copyFrom_0 : decode cX2_copyFrom 0 = .ok (.aload_n 1, 1) := by decide +kernel
theorem dX2_copyFrom_1 : decode cX2_copyFrom 1 = .ok (.getfield 9, 3) := by decide +kernel
theorem dX2_copyFrom_4 : decode cX2_copyFrom 4 = .ok (.iconst 0, 1) := by decide +kernel
theorem dX2_copyFrom_5 : decode cX2_copyFrom 5 = .ok (.aload_n 0, 1) := by decide +kernel
theorem dX2_copyFrom_6 : decode cX2_copyFrom 6 = .ok (.getfield 9, 3) := by decide +kernel
theorem dX2_copyFrom_9 : decode cX2_copyFrom 9 = .ok (.iconst 0, 1) := by decide +kernel
theorem dX2_copyFrom_10 : decode cX2_copyFrom 10 = .ok (.bipush 9, 2) := by decide +kernel
theorem dX2_copyFrom_12 : decode cX2_copyFrom 12 = .ok (.invokestatic 24, 3) := by decide +kernel
theorem dX2_copyFrom_15 : decode cX2_copyFrom 15 = .ok (.aload_n 1, 1) := by decide +kernel
theorem dX2_copyFrom_16 : decode cX2_copyFrom 16 = .ok (.getfield 15, 3) := by decide +kernel
theorem dX2_copyFrom_19 : decode cX2_copyFrom 19 = .ok (.iconst 0, 1) := by decide +kernel
theorem dX2_copyFrom_20 : decode cX2_copyFrom 20 = .ok (.aload_n 0, 1) := by decide +kernel
theorem dX2_copyFrom_21 : decode cX2_copyFrom 21 = .ok (.getfield 15, 3) := by decide +kernel
theorem dX2_copyFrom_24 : decode cX2_copyFrom 24 = .ok (.iconst 0, 1) := by decide +kernel
theorem dX2_copyFrom_25 : decode cX2_copyFrom 25 = .ok (.bipush 9, 2) := by decide +kernel
theorem dX2_copyFrom_27 : decode cX2_copyFrom 27 = .ok (.invokestatic 24, 3) := by decide +kernel
theorem dX2_copyFrom_30 : decode cX2_copyFrom 30 = .ok (.return_, 1) := by decide +kernel
theorem dX2_held_0 : decode cX2_held 0 = .ok (.iload_n 2, 1) := by decide +kernel
theorem dX2_held_1 : decode cX2_held 1 = .ok (.ifCond .ne 12, 3) := by decide +kernel
theorem dX2_held_4 : decode cX2_held 4 = .ok (.aload_n 0, 1) := by decide +kernel
theorem dX2_held_5 : decode cX2_held 5 = .ok (.getfield 9, 3) := by decide +kernel
theorem dX2_held_8 : decode cX2_held 8 = .ok (.iload_n 1, 1) := by decide +kernel
theorem dX2_held_9 : decode cX2_held 9 = .ok (.laload, 1) := by decide +kernel
theorem dX2_held_10 : decode cX2_held 10 = .ok (.goto 9, 3) := by decide +kernel
theorem dX2_held_13 : decode cX2_held 13 = .ok (.aload_n 0, 1) := by decide +kernel
theorem dX2_held_14 : decode cX2_held 14 = .ok (.getfield 15, 3) := by decide +kernel
theorem dX2_held_17 : decode cX2_held 17 = .ok (.iload_n 1, 1) := by decide +kernel
theorem dX2_held_18 : decode cX2_held 18 = .ok (.laload, 1) := by decide +kernel
theorem dX2_held_19 : decode cX2_held 19 = .ok (.lreturn, 1) := by decide +kernel
theorem dX2_trade_0 : decode cX2_trade 0 = .ok (.aload_n 1, 1) := by decide +kernel
theorem dX2_trade_1 : decode cX2_trade 1 = .ok (.getfield 30, 3) := by decide +kernel
theorem dX2_trade_4 : decode cX2_trade 4 = .ok (.ifCond .ne 11, 3) := by decide +kernel
theorem dX2_trade_7 : decode cX2_trade 7 = .ok (.aload_n 0, 1) := by decide +kernel
theorem dX2_trade_8 : decode cX2_trade 8 = .ok (.aload_n 1, 1) := by decide +kernel
theorem dX2_trade_9 : decode cX2_trade 9 = .ok (.invokevirtual 36, 3) := by decide +kernel
theorem dX2_trade_12 : decode cX2_trade 12 = .ok (.goto 8, 3) := by decide +kernel
theorem dX2_trade_15 : decode cX2_trade 15 = .ok (.aload_n 0, 1) := by decide +kernel
theorem dX2_trade_16 : decode cX2_trade 16 = .ok (.aload_n 1, 1) := by decide +kernel
theorem dX2_trade_17 : decode cX2_trade 17 = .ok (.invokevirtual 40, 3) := by decide +kernel
theorem dX2_trade_20 : decode cX2_trade 20 = .ok (.lreturn, 1) := by decide +kernel
theorem dX2_buyFromPool_0 : decode cX2_buyFromPool 0 = .ok (.aload_n 0, 1) := by decide +kernel
theorem dX2_buyFromPool_1 : decode cX2_buyFromPool 1 = .ok (.getfield 15, 3) := by decide +kernel
theorem dX2_buyFromPool_4 : decode cX2_buyFromPool 4 = .ok (.bipush 8, 2) := by decide +kernel
theorem dX2_buyFromPool_6 : decode cX2_buyFromPool 6 = .ok (.laload, 1) := by decide +kernel
theorem dX2_buyFromPool_7 : decode cX2_buyFromPool 7 = .ok (.aload_n 1, 1) := by decide +kernel
theorem dX2_buyFromPool_8 : decode cX2_buyFromPool 8 = .ok (.getfield 43, 3) := by decide +kernel
theorem dX2_buyFromPool_11 : decode cX2_buyFromPool 11 = .ok (.i2l, 1) := by decide +kernel
theorem dX2_buyFromPool_12 : decode cX2_buyFromPool 12 = .ok (.lsub, 1) := by decide +kernel
theorem dX2_buyFromPool_13 : decode cX2_buyFromPool 13 = .ok (.lstore_n 2, 1) := by decide +kernel
theorem dX2_buyFromPool_14 : decode cX2_buyFromPool 14 = .ok (.lload_n 2, 1) := by decide +kernel
theorem dX2_buyFromPool_15 : decode cX2_buyFromPool 15 = .ok (.lconst 0, 1) := by decide +kernel
theorem dX2_buyFromPool_16 : decode cX2_buyFromPool 16 = .ok (.lcmp, 1) := by decide +kernel
theorem dX2_buyFromPool_17 : decode cX2_buyFromPool 17 = .ok (.ifCond .gt 7, 3) := by decide +kernel
theorem dX2_buyFromPool_20 : decode cX2_buyFromPool 20 = .ok (.ldc2_w 46, 3) := by decide +kernel
theorem dX2_buyFromPool_23 : decode cX2_buyFromPool 23 = .ok (.lreturn, 1) := by decide +kernel
theorem dX2_buyFromPool_24 : decode cX2_buyFromPool 24 = .ok (.aload_n 0, 1) := by decide +kernel
theorem dX2_buyFromPool_25 : decode cX2_buyFromPool 25 = .ok (.getfield 9, 3) := by decide +kernel
theorem dX2_buyFromPool_28 : decode cX2_buyFromPool 28 = .ok (.bipush 8, 2) := by decide +kernel
theorem dX2_buyFromPool_30 : decode cX2_buyFromPool 30 = .ok (.laload, 1) := by decide +kernel
theorem dX2_buyFromPool_31 : decode cX2_buyFromPool 31 = .ok (.aload_n 1, 1) := by decide +kernel
theorem dX2_buyFromPool_32 : decode cX2_buyFromPool 32 = .ok (.getfield 43, 3) := by decide +kernel
theorem dX2_buyFromPool_35 : decode cX2_buyFromPool 35 = .ok (.i2l, 1) := by decide +kernel
theorem dX2_buyFromPool_36 : decode cX2_buyFromPool 36 = .ok (.lmul, 1) := by decide +kernel
theorem dX2_buyFromPool_37 : decode cX2_buyFromPool 37 = .ok (.lload_n 2, 1) := by decide +kernel
theorem dX2_buyFromPool_38 : decode cX2_buyFromPool 38 = .ok (.ladd, 1) := by decide +kernel
theorem dX2_buyFromPool_39 : decode cX2_buyFromPool 39 = .ok (.lconst 1, 1) := by decide +kernel
theorem dX2_buyFromPool_40 : decode cX2_buyFromPool 40 = .ok (.lsub, 1) := by decide +kernel
theorem dX2_buyFromPool_41 : decode cX2_buyFromPool 41 = .ok (.lload_n 2, 1) := by decide +kernel
theorem dX2_buyFromPool_42 : decode cX2_buyFromPool 42 = .ok (.ldiv, 1) := by decide +kernel
theorem dX2_buyFromPool_43 : decode cX2_buyFromPool 43 = .ok (.lstore 4, 2) := by decide +kernel
theorem dX2_buyFromPool_45 : decode cX2_buyFromPool 45 = .ok (.lload 4, 2) := by decide +kernel
theorem dX2_buyFromPool_47 : decode cX2_buyFromPool 47 = .ok (.aload_n 1, 1) := by decide +kernel
theorem dX2_buyFromPool_48 : decode cX2_buyFromPool 48 = .ok (.invokevirtual 48, 3) := by decide +kernel
theorem dX2_buyFromPool_51 : decode cX2_buyFromPool 51 = .ok (.lcmp, 1) := by decide +kernel
theorem dX2_buyFromPool_52 : decode cX2_buyFromPool 52 = .ok (.ifCond .gt 18, 3) := by decide +kernel
theorem dX2_buyFromPool_55 : decode cX2_buyFromPool 55 = .ok (.lload 4, 2) := by decide +kernel
theorem dX2_buyFromPool_57 : decode cX2_buyFromPool 57 = .ok (.aload_n 0, 1) := by decide +kernel
theorem dX2_buyFromPool_58 : decode cX2_buyFromPool 58 = .ok (.getfield 9, 3) := by decide +kernel
theorem dX2_buyFromPool_61 : decode cX2_buyFromPool 61 = .ok (.aload_n 1, 1) := by decide +kernel
theorem dX2_buyFromPool_62 : decode cX2_buyFromPool 62 = .ok (.getfield 52, 3) := by decide +kernel
theorem dX2_buyFromPool_65 : decode cX2_buyFromPool 65 = .ok (.laload, 1) := by decide +kernel
theorem dX2_buyFromPool_66 : decode cX2_buyFromPool 66 = .ok (.lcmp, 1) := by decide +kernel
theorem dX2_buyFromPool_67 : decode cX2_buyFromPool 67 = .ok (.ifCond .le 7, 3) := by decide +kernel
theorem dX2_buyFromPool_70 : decode cX2_buyFromPool 70 = .ok (.ldc2_w 46, 3) := by decide +kernel
theorem dX2_buyFromPool_73 : decode cX2_buyFromPool 73 = .ok (.lreturn, 1) := by decide +kernel
theorem dX2_buyFromPool_74 : decode cX2_buyFromPool 74 = .ok (.aload_n 0, 1) := by decide +kernel
theorem dX2_buyFromPool_75 : decode cX2_buyFromPool 75 = .ok (.aload_n 1, 1) := by decide +kernel
theorem dX2_buyFromPool_76 : decode cX2_buyFromPool 76 = .ok (.getfield 52, 3) := by decide +kernel
theorem dX2_buyFromPool_79 : decode cX2_buyFromPool 79 = .ok (.lload 4, 2) := by decide +kernel
theorem dX2_buyFromPool_81 : decode cX2_buyFromPool 81 = .ok (.aload_n 1, 1) := by decide +kernel
theorem dX2_buyFromPool_82 : decode cX2_buyFromPool 82 = .ok (.getfield 43, 3) := by decide +kernel
theorem dX2_buyFromPool_85 : decode cX2_buyFromPool 85 = .ok (.i2l, 1) := by decide +kernel
theorem dX2_buyFromPool_86 : decode cX2_buyFromPool 86 = .ok (.invokevirtual 55, 3) := by decide +kernel
theorem dX2_buyFromPool_89 : decode cX2_buyFromPool 89 = .ok (.aload_n 0, 1) := by decide +kernel
theorem dX2_buyFromPool_90 : decode cX2_buyFromPool 90 = .ok (.bipush 8, 2) := by decide +kernel
theorem dX2_buyFromPool_92 : decode cX2_buyFromPool 92 = .ok (.lload 4, 2) := by decide +kernel
theorem dX2_buyFromPool_94 : decode cX2_buyFromPool 94 = .ok (.aload_n 1, 1) := by decide +kernel
theorem dX2_buyFromPool_95 : decode cX2_buyFromPool 95 = .ok (.getfield 43, 3) := by decide +kernel
theorem dX2_buyFromPool_98 : decode cX2_buyFromPool 98 = .ok (.i2l, 1) := by decide +kernel
theorem dX2_buyFromPool_99 : decode cX2_buyFromPool 99 = .ok (.invokevirtual 59, 3) := by decide +kernel
theorem dX2_buyFromPool_102 : decode cX2_buyFromPool 102 = .ok (.lload 4, 2) := by decide +kernel
theorem dX2_buyFromPool_104 : decode cX2_buyFromPool 104 = .ok (.lreturn, 1) := by decide +kernel
theorem dX2_sellToPool_0 : decode cX2_sellToPool 0 = .ok (.aload_n 0, 1) := by decide +kernel
theorem dX2_sellToPool_1 : decode cX2_sellToPool 1 = .ok (.getfield 15, 3) := by decide +kernel
theorem dX2_sellToPool_4 : decode cX2_sellToPool 4 = .ok (.bipush 8, 2) := by decide +kernel
theorem dX2_sellToPool_6 : decode cX2_sellToPool 6 = .ok (.laload, 1) := by decide +kernel
theorem dX2_sellToPool_7 : decode cX2_sellToPool 7 = .ok (.aload_n 1, 1) := by decide +kernel
theorem dX2_sellToPool_8 : decode cX2_sellToPool 8 = .ok (.getfield 43, 3) := by decide +kernel
theorem dX2_sellToPool_11 : decode cX2_sellToPool 11 = .ok (.i2l, 1) := by decide +kernel
theorem dX2_sellToPool_12 : decode cX2_sellToPool 12 = .ok (.ladd, 1) := by decide +kernel
theorem dX2_sellToPool_13 : decode cX2_sellToPool 13 = .ok (.lstore_n 2, 1) := by decide +kernel
theorem dX2_sellToPool_14 : decode cX2_sellToPool 14 = .ok (.lload_n 2, 1) := by decide +kernel
theorem dX2_sellToPool_15 : decode cX2_sellToPool 15 = .ok (.lconst 0, 1) := by decide +kernel
theorem dX2_sellToPool_16 : decode cX2_sellToPool 16 = .ok (.lcmp, 1) := by decide +kernel
theorem dX2_sellToPool_17 : decode cX2_sellToPool 17 = .ok (.ifCond .le 21, 3) := by decide +kernel
theorem dX2_sellToPool_20 : decode cX2_sellToPool 20 = .ok (.aload_n 0, 1) := by decide +kernel
theorem dX2_sellToPool_21 : decode cX2_sellToPool 21 = .ok (.getfield 15, 3) := by decide +kernel
theorem dX2_sellToPool_24 : decode cX2_sellToPool 24 = .ok (.aload_n 1, 1) := by decide +kernel
theorem dX2_sellToPool_25 : decode cX2_sellToPool 25 = .ok (.getfield 52, 3) := by decide +kernel
theorem dX2_sellToPool_28 : decode cX2_sellToPool 28 = .ok (.laload, 1) := by decide +kernel
theorem dX2_sellToPool_29 : decode cX2_sellToPool 29 = .ok (.aload_n 1, 1) := by decide +kernel
theorem dX2_sellToPool_30 : decode cX2_sellToPool 30 = .ok (.getfield 43, 3) := by decide +kernel
theorem dX2_sellToPool_33 : decode cX2_sellToPool 33 = .ok (.i2l, 1) := by decide +kernel
theorem dX2_sellToPool_34 : decode cX2_sellToPool 34 = .ok (.lcmp, 1) := by decide +kernel
theorem dX2_sellToPool_35 : decode cX2_sellToPool 35 = .ok (.ifCond .ge 7, 3) := by decide +kernel
theorem dX2_sellToPool_38 : decode cX2_sellToPool 38 = .ok (.ldc2_w 46, 3) := by decide +kernel
theorem dX2_sellToPool_41 : decode cX2_sellToPool 41 = .ok (.lreturn, 1) := by decide +kernel
theorem dX2_sellToPool_42 : decode cX2_sellToPool 42 = .ok (.aload_n 0, 1) := by decide +kernel
theorem dX2_sellToPool_43 : decode cX2_sellToPool 43 = .ok (.getfield 9, 3) := by decide +kernel
theorem dX2_sellToPool_46 : decode cX2_sellToPool 46 = .ok (.bipush 8, 2) := by decide +kernel
theorem dX2_sellToPool_48 : decode cX2_sellToPool 48 = .ok (.laload, 1) := by decide +kernel
theorem dX2_sellToPool_49 : decode cX2_sellToPool 49 = .ok (.aload_n 1, 1) := by decide +kernel
theorem dX2_sellToPool_50 : decode cX2_sellToPool 50 = .ok (.getfield 43, 3) := by decide +kernel
theorem dX2_sellToPool_53 : decode cX2_sellToPool 53 = .ok (.i2l, 1) := by decide +kernel
theorem dX2_sellToPool_54 : decode cX2_sellToPool 54 = .ok (.lmul, 1) := by decide +kernel
theorem dX2_sellToPool_55 : decode cX2_sellToPool 55 = .ok (.lload_n 2, 1) := by decide +kernel
theorem dX2_sellToPool_56 : decode cX2_sellToPool 56 = .ok (.ldiv, 1) := by decide +kernel
theorem dX2_sellToPool_57 : decode cX2_sellToPool 57 = .ok (.lstore 4, 2) := by decide +kernel
theorem dX2_sellToPool_59 : decode cX2_sellToPool 59 = .ok (.lload 4, 2) := by decide +kernel
theorem dX2_sellToPool_61 : decode cX2_sellToPool 61 = .ok (.aload_n 1, 1) := by decide +kernel
theorem dX2_sellToPool_62 : decode cX2_sellToPool 62 = .ok (.invokevirtual 48, 3) := by decide +kernel
theorem dX2_sellToPool_65 : decode cX2_sellToPool 65 = .ok (.lcmp, 1) := by decide +kernel
theorem dX2_sellToPool_66 : decode cX2_sellToPool 66 = .ok (.ifCond .ge 7, 3) := by decide +kernel
theorem dX2_sellToPool_69 : decode cX2_sellToPool 69 = .ok (.ldc2_w 46, 3) := by decide +kernel
theorem dX2_sellToPool_72 : decode cX2_sellToPool 72 = .ok (.lreturn, 1) := by decide +kernel
theorem dX2_sellToPool_73 : decode cX2_sellToPool 73 = .ok (.aload_n 0, 1) := by decide +kernel
theorem dX2_sellToPool_74 : decode cX2_sellToPool 74 = .ok (.aload_n 1, 1) := by decide +kernel
theorem dX2_sellToPool_75 : decode cX2_sellToPool 75 = .ok (.getfield 52, 3) := by decide +kernel
theorem dX2_sellToPool_78 : decode cX2_sellToPool 78 = .ok (.lload 4, 2) := by decide +kernel
theorem dX2_sellToPool_80 : decode cX2_sellToPool 80 = .ok (.aload_n 1, 1) := by decide +kernel
theorem dX2_sellToPool_81 : decode cX2_sellToPool 81 = .ok (.getfield 43, 3) := by decide +kernel
theorem dX2_sellToPool_84 : decode cX2_sellToPool 84 = .ok (.i2l, 1) := by decide +kernel
theorem dX2_sellToPool_85 : decode cX2_sellToPool 85 = .ok (.invokevirtual 59, 3) := by decide +kernel
theorem dX2_sellToPool_88 : decode cX2_sellToPool 88 = .ok (.aload_n 0, 1) := by decide +kernel
theorem dX2_sellToPool_89 : decode cX2_sellToPool 89 = .ok (.bipush 8, 2) := by decide +kernel
theorem dX2_sellToPool_91 : decode cX2_sellToPool 91 = .ok (.lload 4, 2) := by decide +kernel
theorem dX2_sellToPool_93 : decode cX2_sellToPool 93 = .ok (.aload_n 1, 1) := by decide +kernel
theorem dX2_sellToPool_94 : decode cX2_sellToPool 94 = .ok (.getfield 43, 3) := by decide +kernel
theorem dX2_sellToPool_97 : decode cX2_sellToPool 97 = .ok (.i2l, 1) := by decide +kernel
theorem dX2_sellToPool_98 : decode cX2_sellToPool 98 = .ok (.invokevirtual 55, 3) := by decide +kernel
theorem dX2_sellToPool_101 : decode cX2_sellToPool 101 = .ok (.lload 4, 2) := by decide +kernel
theorem dX2_sellToPool_103 : decode cX2_sellToPool 103 = .ok (.lreturn, 1) := by decide +kernel
theorem dX2_take_0 : decode cX2_take 0 = .ok (.aload_n 0, 1) := by decide +kernel
theorem dX2_take_1 : decode cX2_take 1 = .ok (.getfield 9, 3) := by decide +kernel
theorem dX2_take_4 : decode cX2_take 4 = .ok (.iload_n 1, 1) := by decide +kernel
theorem dX2_take_5 : decode cX2_take 5 = .ok (.dup2, 1) := by decide +kernel
theorem dX2_take_6 : decode cX2_take 6 = .ok (.laload, 1) := by decide +kernel
theorem dX2_take_7 : decode cX2_take 7 = .ok (.lload_n 2, 1) := by decide +kernel
theorem dX2_take_8 : decode cX2_take 8 = .ok (.lsub, 1) := by decide +kernel
theorem dX2_take_9 : decode cX2_take 9 = .ok (.lastore, 1) := by decide +kernel
theorem dX2_take_10 : decode cX2_take 10 = .ok (.aload_n 0, 1) := by decide +kernel
theorem dX2_take_11 : decode cX2_take 11 = .ok (.getfield 15, 3) := by decide +kernel
theorem dX2_take_14 : decode cX2_take 14 = .ok (.iload_n 1, 1) := by decide +kernel
theorem dX2_take_15 : decode cX2_take 15 = .ok (.dup2, 1) := by decide +kernel
theorem dX2_take_16 : decode cX2_take 16 = .ok (.laload, 1) := by decide +kernel
theorem dX2_take_17 : decode cX2_take 17 = .ok (.lload 4, 2) := by decide +kernel
theorem dX2_take_19 : decode cX2_take 19 = .ok (.ladd, 1) := by decide +kernel
theorem dX2_take_20 : decode cX2_take 20 = .ok (.lastore, 1) := by decide +kernel
theorem dX2_take_21 : decode cX2_take 21 = .ok (.return_, 1) := by decide +kernel
theorem dX2_give_0 : decode cX2_give 0 = .ok (.aload_n 0, 1) := by decide +kernel
theorem dX2_give_1 : decode cX2_give 1 = .ok (.getfield 9, 3) := by decide +kernel
theorem dX2_give_4 : decode cX2_give 4 = .ok (.iload_n 1, 1) := by decide +kernel
theorem dX2_give_5 : decode cX2_give 5 = .ok (.dup2, 1) := by decide +kernel
theorem dX2_give_6 : decode cX2_give 6 = .ok (.laload, 1) := by decide +kernel
theorem dX2_give_7 : decode cX2_give 7 = .ok (.lload_n 2, 1) := by decide +kernel
theorem dX2_give_8 : decode cX2_give 8 = .ok (.ladd, 1) := by decide +kernel
theorem dX2_give_9 : decode cX2_give 9 = .ok (.lastore, 1) := by decide +kernel
theorem dX2_give_10 : decode cX2_give 10 = .ok (.aload_n 0, 1) := by decide +kernel
theorem dX2_give_11 : decode cX2_give 11 = .ok (.getfield 15, 3) := by decide +kernel
theorem dX2_give_14 : decode cX2_give 14 = .ok (.iload_n 1, 1) := by decide +kernel
theorem dX2_give_15 : decode cX2_give 15 = .ok (.dup2, 1) := by decide +kernel
theorem dX2_give_16 : decode cX2_give 16 = .ok (.laload, 1) := by decide +kernel
theorem dX2_give_17 : decode cX2_give 17 = .ok (.lload 4, 2) := by decide +kernel
theorem dX2_give_19 : decode cX2_give 19 = .ok (.lsub, 1) := by decide +kernel
theorem dX2_give_20 : decode cX2_give 20 = .ok (.lastore, 1) := by decide +kernel
theorem dX2_give_21 : decode cX2_give 21 = .ok (.return_, 1) := by decide +kernel
theorem dX3_init_0 : decode cX3_init 0 = .ok (.aload_n 0, 1) := by decide +kernel
theorem dX3_init_1 : decode cX3_init 1 = .ok (.invokespecial 3, 3) := by decide +kernel
theorem dX3_init_4 : decode cX3_init 4 = .ok (.aload_n 0, 1) := by decide +kernel
theorem dX3_init_5 : decode cX3_init 5 = .ok (.bipush 16, 2) := by decide +kernel
theorem dX3_init_7 : decode cX3_init 7 = .ok (.newarray .int, 2) := by decide +kernel
theorem dX3_init_9 : decode cX3_init 9 = .ok (.putfield 9, 3) := by decide +kernel
theorem dX3_init_12 : decode cX3_init 12 = .ok (.return_, 1) := by decide +kernel
theorem dX3_hasPlace_0 : decode cX3_hasPlace 0 = .ok (.iload_n 1, 1) := by decide +kernel
theorem dX3_hasPlace_1 : decode cX3_hasPlace 1 = .ok (.ifCond .lt 15, 3) := by decide +kernel
theorem dX3_hasPlace_4 : decode cX3_hasPlace 4 = .ok (.iload_n 1, 1) := by decide +kernel
theorem dX3_hasPlace_5 : decode cX3_hasPlace 5 = .ok (.aload_n 0, 1) := by decide +kernel
theorem dX3_hasPlace_6 : decode cX3_hasPlace 6 = .ok (.getfield 15, 3) := by decide +kernel
theorem dX3_hasPlace_9 : decode cX3_hasPlace 9 = .ok (.if_icmp .ge 7, 3) := by decide +kernel
theorem dX3_hasPlace_12 : decode cX3_hasPlace 12 = .ok (.iconst 1, 1) := by decide +kernel
theorem dX3_hasPlace_13 : decode cX3_hasPlace 13 = .ok (.goto 4, 3) := by decide +kernel
theorem dX3_hasPlace_16 : decode cX3_hasPlace 16 = .ok (.iconst 0, 1) := by decide +kernel
theorem dX3_hasPlace_17 : decode cX3_hasPlace 17 = .ok (.ireturn, 1) := by decide +kernel
theorem dX3_add_0 : decode cX3_add 0 = .ok (.aload_n 0, 1) := by decide +kernel
theorem dX3_add_1 : decode cX3_add 1 = .ok (.getfield 15, 3) := by decide +kernel
theorem dX3_add_4 : decode cX3_add 4 = .ok (.bipush 16, 2) := by decide +kernel
theorem dX3_add_6 : decode cX3_add 6 = .ok (.if_icmp .ge 23, 3) := by decide +kernel
theorem dX3_add_9 : decode cX3_add 9 = .ok (.aload_n 0, 1) := by decide +kernel
theorem dX3_add_10 : decode cX3_add 10 = .ok (.getfield 9, 3) := by decide +kernel
theorem dX3_add_13 : decode cX3_add 13 = .ok (.aload_n 0, 1) := by decide +kernel
theorem dX3_add_14 : decode cX3_add 14 = .ok (.getfield 15, 3) := by decide +kernel
theorem dX3_add_17 : decode cX3_add 17 = .ok (.iload_n 1, 1) := by decide +kernel
theorem dX3_add_18 : decode cX3_add 18 = .ok (.iastore, 1) := by decide +kernel
theorem dX3_add_19 : decode cX3_add 19 = .ok (.aload_n 0, 1) := by decide +kernel
theorem dX3_add_20 : decode cX3_add 20 = .ok (.dup, 1) := by decide +kernel
theorem dX3_add_21 : decode cX3_add 21 = .ok (.getfield 15, 3) := by decide +kernel
theorem dX3_add_24 : decode cX3_add 24 = .ok (.iconst 1, 1) := by decide +kernel
theorem dX3_add_25 : decode cX3_add 25 = .ok (.iadd, 1) := by decide +kernel
theorem dX3_add_26 : decode cX3_add 26 = .ok (.putfield 15, 3) := by decide +kernel
theorem dX3_add_29 : decode cX3_add 29 = .ok (.return_, 1) := by decide +kernel
theorem dX3_copyFrom_0 : decode cX3_copyFrom 0 = .ok (.aload_n 1, 1) := by decide +kernel
theorem dX3_copyFrom_1 : decode cX3_copyFrom 1 = .ok (.getfield 9, 3) := by decide +kernel
theorem dX3_copyFrom_4 : decode cX3_copyFrom 4 = .ok (.iconst 0, 1) := by decide +kernel
theorem dX3_copyFrom_5 : decode cX3_copyFrom 5 = .ok (.aload_n 0, 1) := by decide +kernel
theorem dX3_copyFrom_6 : decode cX3_copyFrom 6 = .ok (.getfield 9, 3) := by decide +kernel
theorem dX3_copyFrom_9 : decode cX3_copyFrom 9 = .ok (.iconst 0, 1) := by decide +kernel
theorem dX3_copyFrom_10 : decode cX3_copyFrom 10 = .ok (.bipush 16, 2) := by decide +kernel
theorem dX3_copyFrom_12 : decode cX3_copyFrom 12 = .ok (.invokestatic 19, 3) := by decide +kernel
theorem dX3_copyFrom_15 : decode cX3_copyFrom 15 = .ok (.aload_n 0, 1) := by decide +kernel
theorem dX3_copyFrom_16 : decode cX3_copyFrom 16 = .ok (.aload_n 1, 1) := by decide +kernel
theorem dX3_copyFrom_17 : decode cX3_copyFrom 17 = .ok (.getfield 15, 3) := by decide +kernel
theorem dX3_copyFrom_20 : decode cX3_copyFrom 20 = .ok (.putfield 15, 3) := by decide +kernel
theorem dX3_copyFrom_23 : decode cX3_copyFrom 23 = .ok (.return_, 1) := by decide +kernel
theorem dX3_sortBy_0 : decode cX3_sortBy 0 = .ok (.iconst 1, 1) := by decide +kernel
theorem dX3_sortBy_1 : decode cX3_sortBy 1 = .ok (.istore_n 2, 1) := by decide +kernel
theorem dX3_sortBy_2 : decode cX3_sortBy 2 = .ok (.iload_n 2, 1) := by decide +kernel
theorem dX3_sortBy_3 : decode cX3_sortBy 3 = .ok (.aload_n 0, 1) := by decide +kernel
theorem dX3_sortBy_4 : decode cX3_sortBy 4 = .ok (.getfield 15, 3) := by decide +kernel
theorem dX3_sortBy_7 : decode cX3_sortBy 7 = .ok (.if_icmp .ge 50, 3) := by decide +kernel
theorem dX3_sortBy_10 : decode cX3_sortBy 10 = .ok (.iload_n 2, 1) := by decide +kernel
theorem dX3_sortBy_11 : decode cX3_sortBy 11 = .ok (.istore_n 3, 1) := by decide +kernel
theorem dX3_sortBy_12 : decode cX3_sortBy 12 = .ok (.iload_n 3, 1) := by decide +kernel
theorem dX3_sortBy_13 : decode cX3_sortBy 13 = .ok (.ifCond .le 38, 3) := by decide +kernel
theorem dX3_sortBy_16 : decode cX3_sortBy 16 = .ok (.aload_n 1, 1) := by decide +kernel
theorem dX3_sortBy_17 : decode cX3_sortBy 17 = .ok (.aload_n 0, 1) := by decide +kernel
theorem dX3_sortBy_18 : decode cX3_sortBy 18 = .ok (.getfield 9, 3) := by decide +kernel
theorem dX3_sortBy_21 : decode cX3_sortBy 21 = .ok (.iload_n 3, 1) := by decide +kernel
theorem dX3_sortBy_22 : decode cX3_sortBy 22 = .ok (.iconst 1, 1) := by decide +kernel
theorem dX3_sortBy_23 : decode cX3_sortBy 23 = .ok (.isub, 1) := by decide +kernel
theorem dX3_sortBy_24 : decode cX3_sortBy 24 = .ok (.iaload, 1) := by decide +kernel
theorem dX3_sortBy_25 : decode cX3_sortBy 25 = .ok (.iaload, 1) := by decide +kernel
theorem dX3_sortBy_26 : decode cX3_sortBy 26 = .ok (.aload_n 1, 1) := by decide +kernel
theorem dX3_sortBy_27 : decode cX3_sortBy 27 = .ok (.aload_n 0, 1) := by decide +kernel
theorem dX3_sortBy_28 : decode cX3_sortBy 28 = .ok (.getfield 9, 3) := by decide +kernel
theorem dX3_sortBy_31 : decode cX3_sortBy 31 = .ok (.iload_n 3, 1) := by decide +kernel
theorem dX3_sortBy_32 : decode cX3_sortBy 32 = .ok (.iaload, 1) := by decide +kernel
theorem dX3_sortBy_33 : decode cX3_sortBy 33 = .ok (.iaload, 1) := by decide +kernel
theorem dX3_sortBy_34 : decode cX3_sortBy 34 = .ok (.if_icmp .le 17, 3) := by decide +kernel
theorem dX3_sortBy_37 : decode cX3_sortBy 37 = .ok (.aload_n 0, 1) := by decide +kernel
theorem dX3_sortBy_38 : decode cX3_sortBy 38 = .ok (.iload_n 3, 1) := by decide +kernel
theorem dX3_sortBy_39 : decode cX3_sortBy 39 = .ok (.iconst 1, 1) := by decide +kernel
theorem dX3_sortBy_40 : decode cX3_sortBy 40 = .ok (.isub, 1) := by decide +kernel
theorem dX3_sortBy_41 : decode cX3_sortBy 41 = .ok (.iload_n 3, 1) := by decide +kernel
theorem dX3_sortBy_42 : decode cX3_sortBy 42 = .ok (.invokevirtual 25, 3) := by decide +kernel
theorem dX3_sortBy_45 : decode cX3_sortBy 45 = .ok (.iinc 3 (-1), 3) := by decide +kernel
theorem dX3_sortBy_48 : decode cX3_sortBy 48 = .ok (.goto (-36), 3) := by decide +kernel
theorem dX3_sortBy_51 : decode cX3_sortBy 51 = .ok (.iinc 2 1, 3) := by decide +kernel
theorem dX3_sortBy_54 : decode cX3_sortBy 54 = .ok (.goto (-52), 3) := by decide +kernel
theorem dX3_sortBy_57 : decode cX3_sortBy 57 = .ok (.return_, 1) := by decide +kernel
theorem dX3_shuffle_0 : decode cX3_shuffle 0 = .ok (.lload_n 1, 1) := by decide +kernel
theorem dX3_shuffle_1 : decode cX3_shuffle 1 = .ok (.lstore_n 3, 1) := by decide +kernel
theorem dX3_shuffle_2 : decode cX3_shuffle 2 = .ok (.aload_n 0, 1) := by decide +kernel
theorem dX3_shuffle_3 : decode cX3_shuffle 3 = .ok (.getfield 15, 3) := by decide +kernel
theorem dX3_shuffle_6 : decode cX3_shuffle 6 = .ok (.iconst 1, 1) := by decide +kernel
theorem dX3_shuffle_7 : decode cX3_shuffle 7 = .ok (.isub, 1) := by decide +kernel
theorem dX3_shuffle_8 : decode cX3_shuffle 8 = .ok (.istore 5, 2) := by decide +kernel
theorem dX3_shuffle_10 : decode cX3_shuffle 10 = .ok (.iload 5, 2) := by decide +kernel
theorem dX3_shuffle_12 : decode cX3_shuffle 12 = .ok (.iconst 1, 1) := by decide +kernel
theorem dX3_shuffle_13 : decode cX3_shuffle 13 = .ok (.if_icmp .lt 36, 3) := by decide +kernel
theorem dX3_shuffle_16 : decode cX3_shuffle 16 = .ok (.lload_n 3, 1) := by decide +kernel
theorem dX3_shuffle_17 : decode cX3_shuffle 17 = .ok (.ldc2_w 29, 3) := by decide +kernel
theorem dX3_shuffle_20 : decode cX3_shuffle 20 = .ok (.lmul, 1) := by decide +kernel
theorem dX3_shuffle_21 : decode cX3_shuffle 21 = .ok (.ldc2_w 31, 3) := by decide +kernel
theorem dX3_shuffle_24 : decode cX3_shuffle 24 = .ok (.ladd, 1) := by decide +kernel
theorem dX3_shuffle_25 : decode cX3_shuffle 25 = .ok (.lstore_n 3, 1) := by decide +kernel
theorem dX3_shuffle_26 : decode cX3_shuffle 26 = .ok (.aload_n 0, 1) := by decide +kernel
theorem dX3_shuffle_27 : decode cX3_shuffle 27 = .ok (.iload 5, 2) := by decide +kernel
theorem dX3_shuffle_29 : decode cX3_shuffle 29 = .ok (.lload_n 3, 1) := by decide +kernel
theorem dX3_shuffle_30 : decode cX3_shuffle 30 = .ok (.bipush 33, 2) := by decide +kernel
theorem dX3_shuffle_32 : decode cX3_shuffle 32 = .ok (.lushr, 1) := by decide +kernel
theorem dX3_shuffle_33 : decode cX3_shuffle 33 = .ok (.iload 5, 2) := by decide +kernel
theorem dX3_shuffle_35 : decode cX3_shuffle 35 = .ok (.iconst 1, 1) := by decide +kernel
theorem dX3_shuffle_36 : decode cX3_shuffle 36 = .ok (.iadd, 1) := by decide +kernel
theorem dX3_shuffle_37 : decode cX3_shuffle 37 = .ok (.i2l, 1) := by decide +kernel
theorem dX3_shuffle_38 : decode cX3_shuffle 38 = .ok (.lrem, 1) := by decide +kernel
theorem dX3_shuffle_39 : decode cX3_shuffle 39 = .ok (.l2i, 1) := by decide +kernel
theorem dX3_shuffle_40 : decode cX3_shuffle 40 = .ok (.invokevirtual 25, 3) := by decide +kernel
theorem dX3_shuffle_43 : decode cX3_shuffle 43 = .ok (.iinc 5 (-1), 3) := by decide +kernel
theorem dX3_shuffle_46 : decode cX3_shuffle 46 = .ok (.goto (-36), 3) := by decide +kernel
theorem dX3_shuffle_49 : decode cX3_shuffle 49 = .ok (.return_, 1) := by decide +kernel
theorem dX3_move_0 : decode cX3_move 0 = .ok (.iload_n 1, 1) := by decide +kernel
theorem dX3_move_1 : decode cX3_move 1 = .ok (.istore_n 3, 1) := by decide +kernel
theorem dX3_move_2 : decode cX3_move 2 = .ok (.iload_n 3, 1) := by decide +kernel
theorem dX3_move_3 : decode cX3_move 3 = .ok (.iload_n 2, 1) := by decide +kernel
theorem dX3_move_4 : decode cX3_move 4 = .ok (.if_icmp .ge 17, 3) := by decide +kernel
theorem dX3_move_7 : decode cX3_move 7 = .ok (.aload_n 0, 1) := by decide +kernel
theorem dX3_move_8 : decode cX3_move 8 = .ok (.iload_n 3, 1) := by decide +kernel
theorem dX3_move_9 : decode cX3_move 9 = .ok (.iload_n 3, 1) := by decide +kernel
theorem dX3_move_10 : decode cX3_move 10 = .ok (.iconst 1, 1) := by decide +kernel
theorem dX3_move_11 : decode cX3_move 11 = .ok (.iadd, 1) := by decide +kernel
theorem dX3_move_12 : decode cX3_move 12 = .ok (.invokevirtual 25, 3) := by decide +kernel
theorem dX3_move_15 : decode cX3_move 15 = .ok (.iinc 3 1, 3) := by decide +kernel
theorem dX3_move_18 : decode cX3_move 18 = .ok (.goto (-16), 3) := by decide +kernel
theorem dX3_move_21 : decode cX3_move 21 = .ok (.iload_n 1, 1) := by decide +kernel
theorem dX3_move_22 : decode cX3_move 22 = .ok (.istore_n 3, 1) := by decide +kernel
theorem dX3_move_23 : decode cX3_move 23 = .ok (.iload_n 3, 1) := by decide +kernel
theorem dX3_move_24 : decode cX3_move 24 = .ok (.iload_n 2, 1) := by decide +kernel
theorem dX3_move_25 : decode cX3_move 25 = .ok (.if_icmp .le 17, 3) := by decide +kernel
theorem dX3_move_28 : decode cX3_move 28 = .ok (.aload_n 0, 1) := by decide +kernel
theorem dX3_move_29 : decode cX3_move 29 = .ok (.iload_n 3, 1) := by decide +kernel
theorem dX3_move_30 : decode cX3_move 30 = .ok (.iload_n 3, 1) := by decide +kernel
theorem dX3_move_31 : decode cX3_move 31 = .ok (.iconst 1, 1) := by decide +kernel
theorem dX3_move_32 : decode cX3_move 32 = .ok (.isub, 1) := by decide +kernel
theorem dX3_move_33 : decode cX3_move 33 = .ok (.invokevirtual 25, 3) := by decide +kernel
theorem dX3_move_36 : decode cX3_move 36 = .ok (.iinc 3 (-1), 3) := by decide +kernel
theorem dX3_move_39 : decode cX3_move 39 = .ok (.goto (-16), 3) := by decide +kernel
theorem dX3_move_42 : decode cX3_move 42 = .ok (.return_, 1) := by decide +kernel
theorem dX3_swap_0 : decode cX3_swap 0 = .ok (.aload_n 0, 1) := by decide +kernel
theorem dX3_swap_1 : decode cX3_swap 1 = .ok (.getfield 9, 3) := by decide +kernel
theorem dX3_swap_4 : decode cX3_swap 4 = .ok (.iload_n 1, 1) := by decide +kernel
theorem dX3_swap_5 : decode cX3_swap 5 = .ok (.iaload, 1) := by decide +kernel
theorem dX3_swap_6 : decode cX3_swap 6 = .ok (.istore_n 3, 1) := by decide +kernel
theorem dX3_swap_7 : decode cX3_swap 7 = .ok (.aload_n 0, 1) := by decide +kernel
theorem dX3_swap_8 : decode cX3_swap 8 = .ok (.getfield 9, 3) := by decide +kernel
theorem dX3_swap_11 : decode cX3_swap 11 = .ok (.iload_n 1, 1) := by decide +kernel
theorem dX3_swap_12 : decode cX3_swap 12 = .ok (.aload_n 0, 1) := by decide +kernel
theorem dX3_swap_13 : decode cX3_swap 13 = .ok (.getfield 9, 3) := by decide +kernel
theorem dX3_swap_16 : decode cX3_swap 16 = .ok (.iload_n 2, 1) := by decide +kernel
theorem dX3_swap_17 : decode cX3_swap 17 = .ok (.iaload, 1) := by decide +kernel
theorem dX3_swap_18 : decode cX3_swap 18 = .ok (.iastore, 1) := by decide +kernel
theorem dX3_swap_19 : decode cX3_swap 19 = .ok (.aload_n 0, 1) := by decide +kernel
theorem dX3_swap_20 : decode cX3_swap 20 = .ok (.getfield 9, 3) := by decide +kernel
theorem dX3_swap_23 : decode cX3_swap 23 = .ok (.iload_n 2, 1) := by decide +kernel
theorem dX3_swap_24 : decode cX3_swap 24 = .ok (.iload_n 3, 1) := by decide +kernel
theorem dX3_swap_25 : decode cX3_swap 25 = .ok (.iastore, 1) := by decide +kernel
theorem dX3_swap_26 : decode cX3_swap 26 = .ok (.return_, 1) := by decide +kernel
theorem dX7_bitCount_0 : decode cX7_bitCount 0 = .ok (.iload_n 0, 1) := by decide +kernel
theorem dX7_bitCount_1 : decode cX7_bitCount 1 = .ok (.iload_n 0, 1) := by decide +kernel
theorem dX7_bitCount_2 : decode cX7_bitCount 2 = .ok (.iconst 1, 1) := by decide +kernel
theorem dX7_bitCount_3 : decode cX7_bitCount 3 = .ok (.iushr, 1) := by decide +kernel
theorem dX7_bitCount_4 : decode cX7_bitCount 4 = .ok (.ldc_w 265, 3) := by decide +kernel
theorem dX7_bitCount_7 : decode cX7_bitCount 7 = .ok (.iand, 1) := by decide +kernel
theorem dX7_bitCount_8 : decode cX7_bitCount 8 = .ok (.isub, 1) := by decide +kernel
theorem dX7_bitCount_9 : decode cX7_bitCount 9 = .ok (.istore_n 0, 1) := by decide +kernel
theorem dX7_bitCount_10 : decode cX7_bitCount 10 = .ok (.iload_n 0, 1) := by decide +kernel
theorem dX7_bitCount_11 : decode cX7_bitCount 11 = .ok (.ldc_w 266, 3) := by decide +kernel
theorem dX7_bitCount_14 : decode cX7_bitCount 14 = .ok (.iand, 1) := by decide +kernel
theorem dX7_bitCount_15 : decode cX7_bitCount 15 = .ok (.iload_n 0, 1) := by decide +kernel
theorem dX7_bitCount_16 : decode cX7_bitCount 16 = .ok (.iconst 2, 1) := by decide +kernel
theorem dX7_bitCount_17 : decode cX7_bitCount 17 = .ok (.iushr, 1) := by decide +kernel
theorem dX7_bitCount_18 : decode cX7_bitCount 18 = .ok (.ldc_w 266, 3) := by decide +kernel
theorem dX7_bitCount_21 : decode cX7_bitCount 21 = .ok (.iand, 1) := by decide +kernel
theorem dX7_bitCount_22 : decode cX7_bitCount 22 = .ok (.iadd, 1) := by decide +kernel
theorem dX7_bitCount_23 : decode cX7_bitCount 23 = .ok (.istore_n 0, 1) := by decide +kernel
theorem dX7_bitCount_24 : decode cX7_bitCount 24 = .ok (.iload_n 0, 1) := by decide +kernel
theorem dX7_bitCount_25 : decode cX7_bitCount 25 = .ok (.iload_n 0, 1) := by decide +kernel
theorem dX7_bitCount_26 : decode cX7_bitCount 26 = .ok (.iconst 4, 1) := by decide +kernel
theorem dX7_bitCount_27 : decode cX7_bitCount 27 = .ok (.iushr, 1) := by decide +kernel
theorem dX7_bitCount_28 : decode cX7_bitCount 28 = .ok (.iadd, 1) := by decide +kernel
theorem dX7_bitCount_29 : decode cX7_bitCount 29 = .ok (.ldc_w 267, 3) := by decide +kernel
theorem dX7_bitCount_32 : decode cX7_bitCount 32 = .ok (.iand, 1) := by decide +kernel
theorem dX7_bitCount_33 : decode cX7_bitCount 33 = .ok (.istore_n 0, 1) := by decide +kernel
theorem dX7_bitCount_34 : decode cX7_bitCount 34 = .ok (.iload_n 0, 1) := by decide +kernel
theorem dX7_bitCount_35 : decode cX7_bitCount 35 = .ok (.iload_n 0, 1) := by decide +kernel
theorem dX7_bitCount_36 : decode cX7_bitCount 36 = .ok (.bipush 8, 2) := by decide +kernel
theorem dX7_bitCount_38 : decode cX7_bitCount 38 = .ok (.iushr, 1) := by decide +kernel
theorem dX7_bitCount_39 : decode cX7_bitCount 39 = .ok (.iadd, 1) := by decide +kernel
theorem dX7_bitCount_40 : decode cX7_bitCount 40 = .ok (.istore_n 0, 1) := by decide +kernel
theorem dX7_bitCount_41 : decode cX7_bitCount 41 = .ok (.iload_n 0, 1) := by decide +kernel
theorem dX7_bitCount_42 : decode cX7_bitCount 42 = .ok (.iload_n 0, 1) := by decide +kernel
theorem dX7_bitCount_43 : decode cX7_bitCount 43 = .ok (.bipush 16, 2) := by decide +kernel
theorem dX7_bitCount_45 : decode cX7_bitCount 45 = .ok (.iushr, 1) := by decide +kernel
theorem dX7_bitCount_46 : decode cX7_bitCount 46 = .ok (.iadd, 1) := by decide +kernel
theorem dX7_bitCount_47 : decode cX7_bitCount 47 = .ok (.istore_n 0, 1) := by decide +kernel
theorem dX7_bitCount_48 : decode cX7_bitCount 48 = .ok (.iload_n 0, 1) := by decide +kernel
theorem dX7_bitCount_49 : decode cX7_bitCount 49 = .ok (.bipush 63, 2) := by decide +kernel
theorem dX7_bitCount_51 : decode cX7_bitCount 51 = .ok (.iand, 1) := by decide +kernel
theorem dX7_bitCount_52 : decode cX7_bitCount 52 = .ok (.ireturn, 1) := by decide +kernel
theorem dX7_compare_0 : decode cX7_compare 0 = .ok (.iload_n 0, 1) := by decide +kernel
theorem dX7_compare_1 : decode cX7_compare 1 = .ok (.iload_n 1, 1) := by decide +kernel
theorem dX7_compare_2 : decode cX7_compare 2 = .ok (.if_icmp .ge 7, 3) := by decide +kernel
theorem dX7_compare_5 : decode cX7_compare 5 = .ok (.iconst (-1), 1) := by decide +kernel
theorem dX7_compare_6 : decode cX7_compare 6 = .ok (.goto 13, 3) := by decide +kernel
theorem dX7_compare_9 : decode cX7_compare 9 = .ok (.iload_n 0, 1) := by decide +kernel
theorem dX7_compare_10 : decode cX7_compare 10 = .ok (.iload_n 1, 1) := by decide +kernel
theorem dX7_compare_11 : decode cX7_compare 11 = .ok (.if_icmp .ne 7, 3) := by decide +kernel
theorem dX7_compare_14 : decode cX7_compare 14 = .ok (.iconst 0, 1) := by decide +kernel
theorem dX7_compare_15 : decode cX7_compare 15 = .ok (.goto 4, 3) := by decide +kernel
theorem dX7_compare_18 : decode cX7_compare 18 = .ok (.iconst 1, 1) := by decide +kernel
theorem dX7_compare_19 : decode cX7_compare 19 = .ok (.ireturn, 1) := by decide +kernel
theorem dX8_fillI_0 : decode cX8_fillI 0 = .ok (.iconst 0, 1) := by decide +kernel
theorem dX8_fillI_1 : decode cX8_fillI 1 = .ok (.istore_n 2, 1) := by decide +kernel
theorem dX8_fillI_2 : decode cX8_fillI 2 = .ok (.aload_n 0, 1) := by decide +kernel
theorem dX8_fillI_3 : decode cX8_fillI 3 = .ok (.arraylength, 1) := by decide +kernel
theorem dX8_fillI_4 : decode cX8_fillI 4 = .ok (.istore_n 3, 1) := by decide +kernel
theorem dX8_fillI_5 : decode cX8_fillI 5 = .ok (.iload_n 2, 1) := by decide +kernel
theorem dX8_fillI_6 : decode cX8_fillI 6 = .ok (.iload_n 3, 1) := by decide +kernel
theorem dX8_fillI_7 : decode cX8_fillI 7 = .ok (.if_icmp .ge 13, 3) := by decide +kernel
theorem dX8_fillI_10 : decode cX8_fillI 10 = .ok (.aload_n 0, 1) := by decide +kernel
theorem dX8_fillI_11 : decode cX8_fillI 11 = .ok (.iload_n 2, 1) := by decide +kernel
theorem dX8_fillI_12 : decode cX8_fillI 12 = .ok (.iload_n 1, 1) := by decide +kernel
theorem dX8_fillI_13 : decode cX8_fillI 13 = .ok (.iastore, 1) := by decide +kernel
theorem dX8_fillI_14 : decode cX8_fillI 14 = .ok (.iinc 2 1, 3) := by decide +kernel
theorem dX8_fillI_17 : decode cX8_fillI 17 = .ok (.goto (-12), 3) := by decide +kernel
theorem dX8_fillI_20 : decode cX8_fillI 20 = .ok (.return_, 1) := by decide +kernel
theorem dX8_fillJ_0 : decode cX8_fillJ 0 = .ok (.iconst 0, 1) := by decide +kernel
theorem dX8_fillJ_1 : decode cX8_fillJ 1 = .ok (.istore_n 3, 1) := by decide +kernel
theorem dX8_fillJ_2 : decode cX8_fillJ 2 = .ok (.aload_n 0, 1) := by decide +kernel
theorem dX8_fillJ_3 : decode cX8_fillJ 3 = .ok (.arraylength, 1) := by decide +kernel
theorem dX8_fillJ_4 : decode cX8_fillJ 4 = .ok (.istore 4, 2) := by decide +kernel
theorem dX8_fillJ_6 : decode cX8_fillJ 6 = .ok (.iload_n 3, 1) := by decide +kernel
theorem dX8_fillJ_7 : decode cX8_fillJ 7 = .ok (.iload 4, 2) := by decide +kernel
theorem dX8_fillJ_9 : decode cX8_fillJ 9 = .ok (.if_icmp .ge 13, 3) := by decide +kernel
theorem dX8_fillJ_12 : decode cX8_fillJ 12 = .ok (.aload_n 0, 1) := by decide +kernel
theorem dX8_fillJ_13 : decode cX8_fillJ 13 = .ok (.iload_n 3, 1) := by decide +kernel
theorem dX8_fillJ_14 : decode cX8_fillJ 14 = .ok (.lload_n 1, 1) := by decide +kernel
theorem dX8_fillJ_15 : decode cX8_fillJ 15 = .ok (.lastore, 1) := by decide +kernel
theorem dX8_fillJ_16 : decode cX8_fillJ 16 = .ok (.iinc 3 1, 3) := by decide +kernel
theorem dX8_fillJ_19 : decode cX8_fillJ 19 = .ok (.goto (-13), 3) := by decide +kernel
theorem dX8_fillJ_22 : decode cX8_fillJ 22 = .ok (.return_, 1) := by decide +kernel
