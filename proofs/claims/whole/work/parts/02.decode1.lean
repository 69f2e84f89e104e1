theorem dX6_next_61 : decode cX6_next 61 = .ok (.iload_n 1, 1) := by decide +kernel
theorem dX6_next_62 : decode cX6_next 62 = .ok (.baload, 1) := by decide +kernel
theorem dX6_next_63 : decode cX6_next 63 = .ok (.ifCond .eq 7, 3) := by decide +kernel
theorem dX6_next_66 : decode cX6_next 66 = .ok (.lconst 0, 1) := by decide +kernel
theorem dX6_next_67 : decode cX6_next 67 = .ok (.goto 9, 3) := by decide +kernel
theorem dX6_next_70 : decode cX6_next 70 = .ok (.aload_n 0, 1) := by decide +kernel
theorem dX6_next_71 : decode cX6_next 71 = .ok (.getfield 20, 3) := by decide +kernel
theorem dX6_next_74 : decode cX6_next 74 = .ok (.iload_n 1, 1) := by decide +kernel
theorem dX6_next_75 : decode cX6_next 75 = .ok (.laload, 1) := by decide +kernel
theorem dX6_next_76 : decode cX6_next 76 = .ok (.ladd, 1) := by decide +kernel
theorem dX6_next_77 : decode cX6_next 77 = .ok (.putfield 112, 3) := by decide +kernel
theorem dX6_next_80 : decode cX6_next 80 = .ok (.iinc 1 1, 3) := by decide +kernel
theorem dX6_next_83 : decode cX6_next 83 = .ok (.goto (-47), 3) := by decide +kernel
theorem dX6_next_86 : decode cX6_next 86 = .ok (.aload_n 0, 1) := by decide +kernel
theorem dX6_next_87 : decode cX6_next 87 = .ok (.getfield 99, 3) := by decide +kernel
theorem dX6_next_90 : decode cX6_next 90 = .ok (.ireturn, 1) := by decide +kernel
theorem dX6_third_0 : decode cX6_third 0 = .ok (.iconst 0, 1) := by decide +kernel
theorem dX6_third_1 : decode cX6_third 1 = .ok (.istore_n 2, 1) := by decide +kernel
theorem dX6_third_2 : decode cX6_third 2 = .ok (.iload_n 2, 1) := by decide +kernel
theorem dX6_third_3 : decode cX6_third 3 = .ok (.iconst 5, 1) := by decide +kernel
theorem dX6_third_4 : decode cX6_third 4 = .ok (.if_icmp .ge 112, 3) := by decide +kernel
theorem dX6_third_7 : decode cX6_third 7 = .ok (.aload_n 0, 1) := by decide +kernel
theorem dX6_third_8 : decode cX6_third 8 = .ok (.getfield 39, 3) := by decide +kernel
theorem dX6_third_11 : decode cX6_third 11 = .ok (.iconst 5, 1) := by decide +kernel
theorem dX6_third_12 : decode cX6_third 12 = .ok (.iload_n 1, 1) := by decide +kernel
theorem dX6_third_13 : decode cX6_third 13 = .ok (.imul, 1) := by decide +kernel
theorem dX6_third_14 : decode cX6_third 14 = .ok (.iload_n 2, 1) := by decide +kernel
theorem dX6_third_15 : decode cX6_third 15 = .ok (.iadd, 1) := by decide +kernel
theorem dX6_third_16 : decode cX6_third 16 = .ok (.iaload, 1) := by decide +kernel
theorem dX6_third_17 : decode cX6_third 17 = .ok (.istore_n 3, 1) := by decide +kernel
theorem dX6_third_18 : decode cX6_third 18 = .ok (.iconst 0, 1) := by decide +kernel
theorem dX6_third_19 : decode cX6_third 19 = .ok (.istore 4, 2) := by decide +kernel
theorem dX6_third_21 : decode cX6_third 21 = .ok (.iconst 0, 1) := by decide +kernel
theorem dX6_third_22 : decode cX6_third 22 = .ok (.istore 5, 2) := by decide +kernel
theorem dX6_third_24 : decode cX6_third 24 = .ok (.iconst 0, 1) := by decide +kernel
theorem dX6_third_25 : decode cX6_third 25 = .ok (.istore 6, 2) := by decide +kernel
theorem dX6_third_27 : decode cX6_third 27 = .ok (.iload 6, 2) := by decide +kernel
theorem dX6_third_29 : decode cX6_third 29 = .ok (.iconst 5, 1) := by decide +kernel
theorem dX6_third_30 : decode cX6_third 30 = .ok (.if_icmp .ge 59, 3) := by decide +kernel
theorem dX6_third_33 : decode cX6_third 33 = .ok (.aload_n 0, 1) := by decide +kernel
theorem dX6_third_34 : decode cX6_third 34 = .ok (.getfield 39, 3) := by decide +kernel
theorem dX6_third_37 : decode cX6_third 37 = .ok (.iconst 5, 1) := by decide +kernel
theorem dX6_third_38 : decode cX6_third 38 = .ok (.iload_n 1, 1) := by decide +kernel
theorem dX6_third_39 : decode cX6_third 39 = .ok (.imul, 1) := by decide +kernel
theorem dX6_third_40 : decode cX6_third 40 = .ok (.iload 6, 2) := by decide +kernel
theorem dX6_third_42 : decode cX6_third 42 = .ok (.iadd, 1) := by decide +kernel
theorem dX6_third_43 : decode cX6_third 43 = .ok (.iaload, 1) := by decide +kernel
theorem dX6_third_44 : decode cX6_third 44 = .ok (.istore 7, 2) := by decide +kernel
theorem dX6_third_46 : decode cX6_third 46 = .ok (.iload 4, 2) := by decide +kernel
theorem dX6_third_48 : decode cX6_third 48 = .ok (.iload 7, 2) := by decide +kernel
theorem dX6_third_50 : decode cX6_third 50 = .ok (.ifCond .lt 13, 3) := by decide +kernel
theorem dX6_third_53 : decode cX6_third 53 = .ok (.iload 7, 2) := by decide +kernel
theorem dX6_third_55 : decode cX6_third 55 = .ok (.iload_n 3, 1) := by decide +kernel
theorem dX6_third_56 : decode cX6_third 56 = .ok (.if_icmp .ge 7, 3) := by decide +kernel
theorem dX6_third_59 : decode cX6_third 59 = .ok (.iconst 1, 1) := by decide +kernel
theorem dX6_third_60 : decode cX6_third 60 = .ok (.goto 4, 3) := by decide +kernel
theorem dX6_third_63 : decode cX6_third 63 = .ok (.iconst 0, 1) := by decide +kernel
theorem dX6_third_64 : decode cX6_third 64 = .ok (.iadd, 1) := by decide +kernel
theorem dX6_third_65 : decode cX6_third 65 = .ok (.istore 4, 2) := by decide +kernel
theorem dX6_third_67 : decode cX6_third 67 = .ok (.iload 5, 2) := by decide +kernel
theorem dX6_third_69 : decode cX6_third 69 = .ok (.iload 7, 2) := by decide +kernel
theorem dX6_third_71 : decode cX6_third 71 = .ok (.iload_n 3, 1) := by decide +kernel
theorem dX6_third_72 : decode cX6_third 72 = .ok (.if_icmp .ne 7, 3) := by decide +kernel
theorem dX6_third_75 : decode cX6_third 75 = .ok (.iconst 1, 1) := by decide +kernel
theorem dX6_third_76 : decode cX6_third 76 = .ok (.goto 4, 3) := by decide +kernel
theorem dX6_third_79 : decode cX6_third 79 = .ok (.iconst 0, 1) := by decide +kernel
theorem dX6_third_80 : decode cX6_third 80 = .ok (.iadd, 1) := by decide +kernel
theorem dX6_third_81 : decode cX6_third 81 = .ok (.istore 5, 2) := by decide +kernel
theorem dX6_third_83 : decode cX6_third 83 = .ok (.iinc 6 1, 3) := by decide +kernel
theorem dX6_third_86 : decode cX6_third 86 = .ok (.goto (-59), 3) := by decide +kernel
theorem dX6_third_89 : decode cX6_third 89 = .ok (.iload_n 3, 1) := by decide +kernel
theorem dX6_third_90 : decode cX6_third 90 = .ok (.ifCond .lt 20, 3) := by decide +kernel
theorem dX6_third_93 : decode cX6_third 93 = .ok (.iload 4, 2) := by decide +kernel
theorem dX6_third_95 : decode cX6_third 95 = .ok (.iconst 2, 1) := by decide +kernel
theorem dX6_third_96 : decode cX6_third 96 = .ok (.if_icmp .gt 14, 3) := by decide +kernel
theorem dX6_third_99 : decode cX6_third 99 = .ok (.iload 4, 2) := by decide +kernel
theorem dX6_third_101 : decode cX6_third 101 = .ok (.iload 5, 2) := by decide +kernel
theorem dX6_third_103 : decode cX6_third 103 = .ok (.iadd, 1) := by decide +kernel
theorem dX6_third_104 : decode cX6_third 104 = .ok (.iconst 2, 1) := by decide +kernel
theorem dX6_third_105 : decode cX6_third 105 = .ok (.if_icmp .le 5, 3) := by decide +kernel
theorem dX6_third_108 : decode cX6_third 108 = .ok (.iload_n 3, 1) := by decide +kernel
theorem dX6_third_109 : decode cX6_third 109 = .ok (.ireturn, 1) := by decide +kernel
theorem dX6_third_110 : decode cX6_third 110 = .ok (.iinc 2 1, 3) := by decide +kernel
theorem dX6_third_113 : decode cX6_third 113 = .ok (.goto (-111), 3) := by decide +kernel
theorem dX6_third_116 : decode cX6_third 116 = .ok (.ldc 149, 2) := by decide +kernel
theorem dX6_third_118 : decode cX6_third 118 = .ok (.ireturn, 1) := by decide +kernel
theorem dX6_isAhead_0 : decode cX6_isAhead 0 = .ok (.iconst 0, 1) := by decide +kernel
theorem dX6_isAhead_1 : decode cX6_isAhead 1 = .ok (.istore_n 3, 1) := by decide +kernel
theorem dX6_isAhead_2 : decode cX6_isAhead 2 = .ok (.iconst 0, 1) := by decide +kernel
theorem dX6_isAhead_3 : decode cX6_isAhead 3 = .ok (.istore 4, 2) := by decide +kernel
theorem dX6_isAhead_5 : decode cX6_isAhead 5 = .ok (.iload 4, 2) := by decide +kernel
theorem dX6_isAhead_7 : decode cX6_isAhead 7 = .ok (.iconst 5, 1) := by decide +kernel
theorem dX6_isAhead_8 : decode cX6_isAhead 8 = .ok (.if_icmp .ge 99, 3) := by decide +kernel
theorem dX6_isAhead_11 : decode cX6_isAhead 11 = .ok (.aload_n 0, 1) := by decide +kernel
theorem dX6_isAhead_12 : decode cX6_isAhead 12 = .ok (.getfield 39, 3) := by decide +kernel
theorem dX6_isAhead_15 : decode cX6_isAhead 15 = .ok (.iconst 5, 1) := by decide +kernel
theorem dX6_isAhead_16 : decode cX6_isAhead 16 = .ok (.iload_n 1, 1) := by decide +kernel
theorem dX6_isAhead_17 : decode cX6_isAhead 17 = .ok (.imul, 1) := by decide +kernel
theorem dX6_isAhead_18 : decode cX6_isAhead 18 = .ok (.iload 4, 2) := by decide +kernel
theorem dX6_isAhead_20 : decode cX6_isAhead 20 = .ok (.iadd, 1) := by decide +kernel
theorem dX6_isAhead_21 : decode cX6_isAhead 21 = .ok (.iaload, 1) := by decide +kernel
theorem dX6_isAhead_22 : decode cX6_isAhead 22 = .ok (.ifCond .ge 8, 3) := by decide +kernel
theorem dX6_isAhead_25 : decode cX6_isAhead 25 = .ok (.ldc 149, 2) := by decide +kernel
theorem dX6_isAhead_27 : decode cX6_isAhead 27 = .ok (.goto 14, 3) := by decide +kernel
theorem dX6_isAhead_30 : decode cX6_isAhead 30 = .ok (.aload_n 0, 1) := by decide +kernel
theorem dX6_isAhead_31 : decode cX6_isAhead 31 = .ok (.getfield 39, 3) := by decide +kernel
theorem dX6_isAhead_34 : decode cX6_isAhead 34 = .ok (.iconst 5, 1) := by decide +kernel
theorem dX6_isAhead_35 : decode cX6_isAhead 35 = .ok (.iload_n 1, 1) := by decide +kernel
theorem dX6_isAhead_36 : decode cX6_isAhead 36 = .ok (.imul, 1) := by decide +kernel
theorem dX6_isAhead_37 : decode cX6_isAhead 37 = .ok (.iload 4, 2) := by decide +kernel
theorem dX6_isAhead_39 : decode cX6_isAhead 39 = .ok (.iadd, 1) := by decide +kernel
theorem dX6_isAhead_40 : decode cX6_isAhead 40 = .ok (.iaload, 1) := by decide +kernel
theorem dX6_isAhead_41 : decode cX6_isAhead 41 = .ok (.istore 5, 2) := by decide +kernel
theorem dX6_isAhead_43 : decode cX6_isAhead 43 = .ok (.aload_n 0, 1) := by decide +kernel
theorem dX6_isAhead_44 : decode cX6_isAhead 44 = .ok (.getfield 39, 3) := by decide +kernel
theorem dX6_isAhead_47 : decode cX6_isAhead 47 = .ok (.iconst 5, 1) := by decide +kernel
theorem dX6_isAhead_48 : decode cX6_isAhead 48 = .ok (.iload_n 2, 1) := by decide +kernel
theorem dX6_isAhead_49 : decode cX6_isAhead 49 = .ok (.imul, 1) := by decide +kernel
theorem dX6_isAhead_50 : decode cX6_isAhead 50 = .ok (.iload 4, 2) := by decide +kernel
theorem dX6_isAhead_52 : decode cX6_isAhead 52 = .ok (.iadd, 1) := by decide +kernel
theorem dX6_isAhead_53 : decode cX6_isAhead 53 = .ok (.iaload, 1) := by decide +kernel
theorem dX6_isAhead_54 : decode cX6_isAhead 54 = .ok (.ifCond .ge 8, 3) := by decide +kernel
theorem dX6_isAhead_57 : decode cX6_isAhead 57 = .ok (.ldc 149, 2) := by decide +kernel
theorem dX6_isAhead_59 : decode cX6_isAhead 59 = .ok (.goto 14, 3) := by decide +kernel
theorem dX6_isAhead_62 : decode cX6_isAhead 62 = .ok (.aload_n 0, 1) := by decide +kernel
theorem dX6_isAhead_63 : decode cX6_isAhead 63 = .ok (.getfield 39, 3) := by decide +kernel
theorem dX6_isAhead_66 : decode cX6_isAhead 66 = .ok (.iconst 5, 1) := by decide +kernel
theorem dX6_isAhead_67 : decode cX6_isAhead 67 = .ok (.iload_n 2, 1) := by decide +kernel
theorem dX6_isAhead_68 : decode cX6_isAhead 68 = .ok (.imul, 1) := by decide +kernel
theorem dX6_isAhead_69 : decode cX6_isAhead 69 = .ok (.iload 4, 2) := by decide +kernel
theorem dX6_isAhead_71 : decode cX6_isAhead 71 = .ok (.iadd, 1) := by decide +kernel
theorem dX6_isAhead_72 : decode cX6_isAhead 72 = .ok (.iaload, 1) := by decide +kernel
theorem dX6_isAhead_73 : decode cX6_isAhead 73 = .ok (.istore 6, 2) := by decide +kernel
theorem dX6_isAhead_75 : decode cX6_isAhead 75 = .ok (.iload_n 3, 1) := by decide +kernel
theorem dX6_isAhead_76 : decode cX6_isAhead 76 = .ok (.iload 5, 2) := by decide +kernel
theorem dX6_isAhead_78 : decode cX6_isAhead 78 = .ok (.iload 6, 2) := by decide +kernel
theorem dX6_isAhead_80 : decode cX6_isAhead 80 = .ok (.if_icmp .ge 7, 3) := by decide +kernel
theorem dX6_isAhead_83 : decode cX6_isAhead 83 = .ok (.iconst 1, 1) := by decide +kernel
theorem dX6_isAhead_84 : decode cX6_isAhead 84 = .ok (.goto 15, 3) := by decide +kernel
theorem dX6_isAhead_87 : decode cX6_isAhead 87 = .ok (.iload 6, 2) := by decide +kernel
theorem dX6_isAhead_89 : decode cX6_isAhead 89 = .ok (.iload 5, 2) := by decide +kernel
theorem dX6_isAhead_91 : decode cX6_isAhead 91 = .ok (.if_icmp .ge 7, 3) := by decide +kernel
theorem dX6_isAhead_94 : decode cX6_isAhead 94 = .ok (.iconst (-1), 1) := by decide +kernel
theorem dX6_isAhead_95 : decode cX6_isAhead 95 = .ok (.goto 4, 3) := by decide +kernel
theorem dX6_isAhead_98 : decode cX6_isAhead 98 = .ok (.iconst 0, 1) := by decide +kernel
theorem dX6_isAhead_99 : decode cX6_isAhead 99 = .ok (.iadd, 1) := by decide +kernel
theorem dX6_isAhead_100 : decode cX6_isAhead 100 = .ok (.istore_n 3, 1) := by decide +kernel
theorem dX6_isAhead_101 : decode cX6_isAhead 101 = .ok (.iinc 4 1, 3) := by decide +kernel
theorem dX6_isAhead_104 : decode cX6_isAhead 104 = .ok (.goto (-99), 3) := by decide +kernel
theorem dX6_isAhead_107 : decode cX6_isAhead 107 = .ok (.iload_n 3, 1) := by decide +kernel
theorem dX6_isAhead_108 : decode cX6_isAhead 108 = .ok (.ifCond .le 7, 3) := by decide +kernel
theorem dX6_isAhead_111 : decode cX6_isAhead 111 = .ok (.iconst 1, 1) := by decide +kernel
theorem dX6_isAhead_112 : decode cX6_isAhead 112 = .ok (.goto 4, 3) := by decide +kernel
theorem dX6_isAhead_115 : decode cX6_isAhead 115 = .ok (.iconst 0, 1) := by decide +kernel
theorem dX6_isAhead_116 : decode cX6_isAhead 116 = .ok (.ireturn, 1) := by decide +kernel
theorem dX6_leads_0 : decode cX6_leads 0 = .ok (.iconst 0, 1) := by decide +kernel
theorem dX6_leads_1 : decode cX6_leads 1 = .ok (.istore_n 3, 1) := by decide +kernel
theorem dX6_leads_2 : decode cX6_leads 2 = .ok (.iload_n 3, 1) := by decide +kernel
theorem dX6_leads_3 : decode cX6_leads 3 = .ok (.aload_n 0, 1) := by decide +kernel
theorem dX6_leads_4 : decode cX6_leads 4 = .ok (.getfield 88, 3) := by decide +kernel
theorem dX6_leads_7 : decode cX6_leads 7 = .ok (.if_icmp .ge 38, 3) := by decide +kernel
theorem dX6_leads_10 : decode cX6_leads 10 = .ok (.aload_n 0, 1) := by decide +kernel
theorem dX6_leads_11 : decode cX6_leads 11 = .ok (.getfield 70, 3) := by decide +kernel
theorem dX6_leads_14 : decode cX6_leads 14 = .ok (.iload_n 3, 1) := by decide +kernel
theorem dX6_leads_15 : decode cX6_leads 15 = .ok (.aload_n 0, 1) := by decide +kernel
theorem dX6_leads_16 : decode cX6_leads 16 = .ok (.getfield 26, 3) := by decide +kernel
theorem dX6_leads_19 : decode cX6_leads 19 = .ok (.iload_n 3, 1) := by decide +kernel
theorem dX6_leads_20 : decode cX6_leads 20 = .ok (.baload, 1) := by decide +kernel
theorem dX6_leads_21 : decode cX6_leads 21 = .ok (.ifCond .eq 16, 3) := by decide +kernel
theorem dX6_leads_24 : decode cX6_leads 24 = .ok (.aload_n 0, 1) := by decide +kernel
theorem dX6_leads_25 : decode cX6_leads 25 = .ok (.iload_n 1, 1) := by decide +kernel
theorem dX6_leads_26 : decode cX6_leads 26 = .ok (.iload_n 3, 1) := by decide +kernel
theorem dX6_leads_27 : decode cX6_leads 27 = .ok (.invokevirtual 150, 3) := by decide +kernel
theorem dX6_leads_30 : decode cX6_leads 30 = .ok (.ifCond .eq 7, 3) := by decide +kernel
theorem dX6_leads_33 : decode cX6_leads 33 = .ok (.iconst 1, 1) := by decide +kernel
theorem dX6_leads_34 : decode cX6_leads 34 = .ok (.goto 4, 3) := by decide +kernel
theorem dX6_leads_37 : decode cX6_leads 37 = .ok (.iconst 0, 1) := by decide +kernel
theorem dX6_leads_38 : decode cX6_leads 38 = .ok (.bastore, 1) := by decide +kernel
theorem dX6_leads_39 : decode cX6_leads 39 = .ok (.iinc 3 1, 3) := by decide +kernel
theorem dX6_leads_42 : decode cX6_leads 42 = .ok (.goto (-40), 3) := by decide +kernel
theorem dX6_leads_45 : decode cX6_leads 45 = .ok (.iconst 1, 1) := by decide +kernel
theorem dX6_leads_46 : decode cX6_leads 46 = .ok (.istore_n 3, 1) := by decide +kernel
theorem dX6_leads_47 : decode cX6_leads 47 = .ok (.iload_n 3, 1) := by decide +kernel
theorem dX6_leads_48 : decode cX6_leads 48 = .ok (.ifCond .eq 95, 3) := by decide +kernel
theorem dX6_leads_51 : decode cX6_leads 51 = .ok (.iconst 0, 1) := by decide +kernel
theorem dX6_leads_52 : decode cX6_leads 52 = .ok (.istore_n 3, 1) := by decide +kernel
theorem dX6_leads_53 : decode cX6_leads 53 = .ok (.iconst 0, 1) := by decide +kernel
theorem dX6_leads_54 : decode cX6_leads 54 = .ok (.istore 4, 2) := by decide +kernel
theorem dX6_leads_56 : decode cX6_leads 56 = .ok (.iload 4, 2) := by decide +kernel
theorem dX6_leads_58 : decode cX6_leads 58 = .ok (.aload_n 0, 1) := by decide +kernel
theorem dX6_leads_59 : decode cX6_leads 59 = .ok (.getfield 88, 3) := by decide +kernel
theorem dX6_leads_62 : decode cX6_leads 62 = .ok (.if_icmp .ge 78, 3) := by decide +kernel
theorem dX6_leads_65 : decode cX6_leads 65 = .ok (.iconst 0, 1) := by decide +kernel
theorem dX6_leads_66 : decode cX6_leads 66 = .ok (.istore 5, 2) := by decide +kernel
theorem dX6_leads_68 : decode cX6_leads 68 = .ok (.iload 5, 2) := by decide +kernel
theorem dX6_leads_70 : decode cX6_leads 70 = .ok (.aload_n 0, 1) := by decide +kernel
theorem dX6_leads_71 : decode cX6_leads 71 = .ok (.getfield 88, 3) := by decide +kernel
theorem dX6_leads_74 : decode cX6_leads 74 = .ok (.if_icmp .ge 60, 3) := by decide +kernel
theorem dX6_leads_77 : decode cX6_leads 77 = .ok (.aload_n 0, 1) := by decide +kernel
theorem dX6_leads_78 : decode cX6_leads 78 = .ok (.getfield 70, 3) := by decide +kernel
theorem dX6_leads_81 : decode cX6_leads 81 = .ok (.iload 4, 2) := by decide +kernel
theorem dX6_leads_83 : decode cX6_leads 83 = .ok (.baload, 1) := by decide +kernel
theorem dX6_leads_84 : decode cX6_leads 84 = .ok (.ifCond .eq 50, 3) := by decide +kernel
theorem dX6_leads_87 : decode cX6_leads 87 = .ok (.aload_n 0, 1) := by decide +kernel
theorem dX6_leads_88 : decode cX6_leads 88 = .ok (.getfield 26, 3) := by decide +kernel
theorem dX6_leads_91 : decode cX6_leads 91 = .ok (.iload 5, 2) := by decide +kernel
theorem dX6_leads_93 : decode cX6_leads 93 = .ok (.baload, 1) := by decide +kernel
theorem dX6_leads_94 : decode cX6_leads 94 = .ok (.ifCond .eq 34, 3) := by decide +kernel
theorem dX6_leads_97 : decode cX6_leads 97 = .ok (.aload_n 0, 1) := by decide +kernel
theorem dX6_leads_98 : decode cX6_leads 98 = .ok (.getfield 70, 3) := by decide +kernel
theorem dX6_leads_101 : decode cX6_leads 101 = .ok (.iload 5, 2) := by decide +kernel
theorem dX6_leads_103 : decode cX6_leads 103 = .ok (.baload, 1) := by decide +kernel
theorem dX6_leads_104 : decode cX6_leads 104 = .ok (.ifCond .ne 24, 3) := by decide +kernel
theorem dX6_leads_107 : decode cX6_leads 107 = .ok (.aload_n 0, 1) := by decide +kernel
theorem dX6_leads_108 : decode cX6_leads 108 = .ok (.iload 4, 2) := by decide +kernel
theorem dX6_leads_110 : decode cX6_leads 110 = .ok (.iload 5, 2) := by decide +kernel
theorem dX6_leads_112 : decode cX6_leads 112 = .ok (.invokevirtual 150, 3) := by decide +kernel
theorem dX6_leads_115 : decode cX6_leads 115 = .ok (.ifCond .eq 13, 3) := by decide +kernel
theorem dX6_leads_118 : decode cX6_leads 118 = .ok (.aload_n 0, 1) := by decide +kernel
theorem dX6_leads_119 : decode cX6_leads 119 = .ok (.getfield 70, 3) := by decide +kernel
theorem dX6_leads_122 : decode cX6_leads 122 = .ok (.iload 5, 2) := by decide +kernel
theorem dX6_leads_124 : decode cX6_leads 124 = .ok (.iconst 1, 1) := by decide +kernel
theorem dX6_leads_125 : decode cX6_leads 125 = .ok (.bastore, 1) := by decide +kernel
theorem dX6_leads_126 : decode cX6_leads 126 = .ok (.iconst 1, 1) := by decide +kernel
theorem dX6_leads_127 : decode cX6_leads 127 = .ok (.istore_n 3, 1) := by decide +kernel
theorem dX6_leads_128 : decode cX6_leads 128 = .ok (.iinc 5 1, 3) := by decide +kernel
theorem dX6_leads_131 : decode cX6_leads 131 = .ok (.goto (-63), 3) := by decide +kernel
theorem dX6_leads_134 : decode cX6_leads 134 = .ok (.iinc 4 1, 3) := by decide +kernel
theorem dX6_leads_137 : decode cX6_leads 137 = .ok (.goto (-81), 3) := by decide +kernel
theorem dX6_leads_140 : decode cX6_leads 140 = .ok (.goto (-93), 3) := by decide +kernel
theorem dX6_leads_143 : decode cX6_leads 143 = .ok (.aload_n 0, 1) := by decide +kernel
theorem dX6_leads_144 : decode cX6_leads 144 = .ok (.getfield 70, 3) := by decide +kernel
theorem dX6_leads_147 : decode cX6_leads 147 = .ok (.iload_n 2, 1) := by decide +kernel
theorem dX6_leads_148 : decode cX6_leads 148 = .ok (.baload, 1) := by decide +kernel
theorem dX6_leads_149 : decode cX6_leads 149 = .ok (.ireturn, 1) := by decide +kernel
theorem dX6_tie_0 : decode cX6_tie 0 = .ok (.iconst 0, 1) := by decide +kernel
theorem dX6_tie_1 : decode cX6_tie 1 = .ok (.istore_n 2, 1) := by decide +kernel
theorem dX6_tie_2 : decode cX6_tie 2 = .ok (.iload_n 2, 1) := by decide +kernel
theorem dX6_tie_3 : decode cX6_tie 3 = .ok (.aload_n 0, 1) := by decide +kernel
theorem dX6_tie_4 : decode cX6_tie 4 = .ok (.getfield 88, 3) := by decide +kernel
theorem dX6_tie_7 : decode cX6_tie 7 = .ok (.if_icmp .ge 52, 3) := by decide +kernel
theorem dX6_tie_10 : decode cX6_tie 10 = .ok (.aload_n 0, 1) := by decide +kernel
theorem dX6_tie_11 : decode cX6_tie 11 = .ok (.getfield 76, 3) := by decide +kernel
theorem dX6_tie_14 : decode cX6_tie 14 = .ok (.iload_n 2, 1) := by decide +kernel
theorem dX6_tie_15 : decode cX6_tie 15 = .ok (.aload_n 0, 1) := by decide +kernel
theorem dX6_tie_16 : decode cX6_tie 16 = .ok (.getfield 73, 3) := by decide +kernel
theorem dX6_tie_19 : decode cX6_tie 19 = .ok (.iload_n 2, 1) := by decide +kernel
theorem dX6_tie_20 : decode cX6_tie 20 = .ok (.baload, 1) := by decide +kernel
theorem dX6_tie_21 : decode cX6_tie 21 = .ok (.ifCond .eq 30, 3) := by decide +kernel
theorem dX6_tie_24 : decode cX6_tie 24 = .ok (.iload_n 2, 1) := by decide +kernel
theorem dX6_tie_25 : decode cX6_tie 25 = .ok (.iload_n 1, 1) := by decide +kernel
theorem dX6_tie_26 : decode cX6_tie 26 = .ok (.if_icmp .eq 21, 3) := by decide +kernel
theorem dX6_tie_29 : decode cX6_tie 29 = .ok (.aload_n 0, 1) := by decide +kernel
theorem dX6_tie_30 : decode cX6_tie 30 = .ok (.iload_n 1, 1) := by decide +kernel
theorem dX6_tie_31 : decode cX6_tie 31 = .ok (.iload_n 2, 1) := by decide +kernel
theorem dX6_tie_32 : decode cX6_tie 32 = .ok (.invokevirtual 154, 3) := by decide +kernel
theorem dX6_tie_35 : decode cX6_tie 35 = .ok (.ifCond .eq 16, 3) := by decide +kernel
theorem dX6_tie_38 : decode cX6_tie 38 = .ok (.aload_n 0, 1) := by decide +kernel
theorem dX6_tie_39 : decode cX6_tie 39 = .ok (.iload_n 2, 1) := by decide +kernel
theorem dX6_tie_40 : decode cX6_tie 40 = .ok (.iload_n 1, 1) := by decide +kernel
theorem dX6_tie_41 : decode cX6_tie 41 = .ok (.invokevirtual 154, 3) := by decide +kernel
theorem dX6_tie_44 : decode cX6_tie 44 = .ok (.ifCond .eq 7, 3) := by decide +kernel
theorem dX6_tie_47 : decode cX6_tie 47 = .ok (.iconst 1, 1) := by decide +kernel
theorem dX6_tie_48 : decode cX6_tie 48 = .ok (.goto 4, 3) := by decide +kernel
theorem dX6_tie_51 : decode cX6_tie 51 = .ok (.iconst 0, 1) := by decide +kernel
theorem dX6_tie_52 : decode cX6_tie 52 = .ok (.bastore, 1) := by decide +kernel
theorem dX6_tie_53 : decode cX6_tie 53 = .ok (.iinc 2 1, 3) := by decide +kernel
theorem dX6_tie_56 : decode cX6_tie 56 = .ok (.goto (-54), 3) := by decide +kernel
theorem dX6_tie_59 : decode cX6_tie 59 = .ok (.return_, 1) := by decide +kernel
theorem dX6_isHeld_0 : decode cX6_isHeld 0 = .ok (.iconst 0, 1) := by decide +kernel
theorem dX6_isHeld_1 : decode cX6_isHeld 1 = .ok (.istore_n 1, 1) := by decide +kernel
theorem dX6_isHeld_2 : decode cX6_isHeld 2 = .ok (.iload_n 1, 1) := by decide +kernel
theorem dX6_isHeld_3 : decode cX6_isHeld 3 = .ok (.aload_n 0, 1) := by decide +kernel
theorem dX6_isHeld_4 : decode cX6_isHeld 4 = .ok (.getfield 88, 3) := by decide +kernel
theorem dX6_isHeld_7 : decode cX6_isHeld 7 = .ok (.if_icmp .ge 63, 3) := by decide +kernel
theorem dX6_isHeld_10 : decode cX6_isHeld 10 = .ok (.iconst 0, 1) := by decide +kernel
theorem dX6_isHeld_11 : decode cX6_isHeld 11 = .ok (.istore_n 2, 1) := by decide +kernel
theorem dX6_isHeld_12 : decode cX6_isHeld 12 = .ok (.iload_n 2, 1) := by decide +kernel
theorem dX6_isHeld_13 : decode cX6_isHeld 13 = .ok (.aload_n 0, 1) := by decide +kernel
theorem dX6_isHeld_14 : decode cX6_isHeld 14 = .ok (.getfield 88, 3) := by decide +kernel
theorem dX6_isHeld_17 : decode cX6_isHeld 17 = .ok (.if_icmp .ge 47, 3) := by decide +kernel
theorem dX6_isHeld_20 : decode cX6_isHeld 20 = .ok (.aload_n 0, 1) := by decide +kernel
theorem dX6_isHeld_21 : decode cX6_isHeld 21 = .ok (.getfield 76, 3) := by decide +kernel
theorem dX6_isHeld_24 : decode cX6_isHeld 24 = .ok (.iload_n 1, 1) := by decide +kernel
theorem dX6_isHeld_25 : decode cX6_isHeld 25 = .ok (.baload, 1) := by decide +kernel
theorem dX6_isHeld_26 : decode cX6_isHeld 26 = .ok (.ifCond .eq 32, 3) := by decide +kernel
theorem dX6_isHeld_29 : decode cX6_isHeld 29 = .ok (.aload_n 0, 1) := by decide +kernel
theorem dX6_isHeld_30 : decode cX6_isHeld 30 = .ok (.getfield 73, 3) := by decide +kernel
theorem dX6_isHeld_33 : decode cX6_isHeld 33 = .ok (.iload_n 2, 1) := by decide +kernel
theorem dX6_isHeld_34 : decode cX6_isHeld 34 = .ok (.baload, 1) := by decide +kernel
theorem dX6_isHeld_35 : decode cX6_isHeld 35 = .ok (.ifCond .eq 23, 3) := by decide +kernel
theorem dX6_isHeld_38 : decode cX6_isHeld 38 = .ok (.aload_n 0, 1) := by decide +kernel
theorem dX6_isHeld_39 : decode cX6_isHeld 39 = .ok (.getfield 76, 3) := by decide +kernel
theorem dX6_isHeld_42 : decode cX6_isHeld 42 = .ok (.iload_n 2, 1) := by decide +kernel
theorem dX6_isHeld_43 : decode cX6_isHeld 43 = .ok (.baload, 1) := by decide +kernel
theorem dX6_isHeld_44 : decode cX6_isHeld 44 = .ok (.ifCond .ne 14, 3) := by decide +kernel
theorem dX6_isHeld_47 : decode cX6_isHeld 47 = .ok (.aload_n 0, 1) := by decide +kernel
theorem dX6_isHeld_48 : decode cX6_isHeld 48 = .ok (.iload_n 2, 1) := by decide +kernel
theorem dX6_isHeld_49 : decode cX6_isHeld 49 = .ok (.iload_n 1, 1) := by decide +kernel
theorem dX6_isHeld_50 : decode cX6_isHeld 50 = .ok (.invokevirtual 154, 3) := by decide +kernel
theorem dX6_isHeld_53 : decode cX6_isHeld 53 = .ok (.ifCond .eq 5, 3) := by decide +kernel
theorem dX6_isHeld_56 : decode cX6_isHeld 56 = .ok (.iconst 1, 1) := by decide +kernel
theorem dX6_isHeld_57 : decode cX6_isHeld 57 = .ok (.ireturn, 1) := by decide +kernel
theorem dX6_isHeld_58 : decode cX6_isHeld 58 = .ok (.iinc 2 1, 3) := by decide +kernel
theorem dX6_isHeld_61 : decode cX6_isHeld 61 = .ok (.goto (-49), 3) := by decide +kernel
theorem dX6_isHeld_64 : decode cX6_isHeld 64 = .ok (.iinc 1 1, 3) := by decide +kernel
theorem dX6_isHeld_67 : decode cX6_isHeld 67 = .ok (.goto (-65), 3) := by decide +kernel
theorem dX6_isHeld_70 : decode cX6_isHeld 70 = .ok (.iconst 0, 1) := by decide +kernel
theorem dX6_isHeld_71 : decode cX6_isHeld 71 = .ok (.ireturn, 1) := by decide +kernel
theorem dX6_fair_0 : decode cX6_fair 0 = .ok (.iconst 0, 1) := by decide +kernel
theorem dX6_fair_1 : decode cX6_fair 1 = .ok (.istore_n 1, 1) := by decide +kernel
theorem dX6_fair_2 : decode cX6_fair 2 = .ok (.iload_n 1, 1) := by decide +kernel
theorem dX6_fair_3 : decode cX6_fair 3 = .ok (.aload_n 0, 1) := by decide +kernel
theorem dX6_fair_4 : decode cX6_fair 4 = .ok (.getfield 88, 3) := by decide +kernel
theorem dX6_fair_7 : decode cX6_fair 7 = .ok (.if_icmp .ge 21, 3) := by decide +kernel
theorem dX6_fair_10 : decode cX6_fair 10 = .ok (.aload_n 0, 1) := by decide +kernel
theorem dX6_fair_11 : decode cX6_fair 11 = .ok (.getfield 73, 3) := by decide +kernel
theorem dX6_fair_14 : decode cX6_fair 14 = .ok (.iload_n 1, 1) := by decide +kernel
theorem dX6_fair_15 : decode cX6_fair 15 = .ok (.aload_n 0, 1) := by decide +kernel
theorem dX6_fair_16 : decode cX6_fair 16 = .ok (.getfield 26, 3) := by decide +kernel
theorem dX6_fair_19 : decode cX6_fair 19 = .ok (.iload_n 1, 1) := by decide +kernel
theorem dX6_fair_20 : decode cX6_fair 20 = .ok (.baload, 1) := by decide +kernel
theorem dX6_fair_21 : decode cX6_fair 21 = .ok (.bastore, 1) := by decide +kernel
theorem dX6_fair_22 : decode cX6_fair 22 = .ok (.iinc 1 1, 3) := by decide +kernel
theorem dX6_fair_25 : decode cX6_fair 25 = .ok (.goto (-23), 3) := by decide +kernel
theorem dX6_fair_28 : decode cX6_fair 28 = .ok (.iconst 0, 1) := by decide +kernel
theorem dX6_fair_29 : decode cX6_fair 29 = .ok (.istore_n 1, 1) := by decide +kernel
theorem dX6_fair_30 : decode cX6_fair 30 = .ok (.iload_n 1, 1) := by decide +kernel
theorem dX6_fair_31 : decode cX6_fair 31 = .ok (.aload_n 0, 1) := by decide +kernel
theorem dX6_fair_32 : decode cX6_fair 32 = .ok (.getfield 42, 3) := by decide +kernel
theorem dX6_fair_35 : decode cX6_fair 35 = .ok (.if_icmp .ge 94, 3) := by decide +kernel
theorem dX6_fair_38 : decode cX6_fair 38 = .ok (.iconst 0, 1) := by decide +kernel
theorem dX6_fair_39 : decode cX6_fair 39 = .ok (.istore_n 2, 1) := by decide +kernel
theorem dX6_fair_40 : decode cX6_fair 40 = .ok (.iconst 0, 1) := by decide +kernel
theorem dX6_fair_41 : decode cX6_fair 41 = .ok (.istore_n 3, 1) := by decide +kernel
theorem dX6_fair_42 : decode cX6_fair 42 = .ok (.iload_n 3, 1) := by decide +kernel
theorem dX6_fair_43 : decode cX6_fair 43 = .ok (.ifCond .ne 36, 3) := by decide +kernel
theorem dX6_fair_46 : decode cX6_fair 46 = .ok (.aload_n 0, 1) := by decide +kernel
theorem dX6_fair_47 : decode cX6_fair 47 = .ok (.getfield 73, 3) := by decide +kernel
theorem dX6_fair_50 : decode cX6_fair 50 = .ok (.iload_n 2, 1) := by decide +kernel
theorem dX6_fair_51 : decode cX6_fair 51 = .ok (.baload, 1) := by decide +kernel
theorem dX6_fair_52 : decode cX6_fair 52 = .ok (.ifCond .eq 21, 3) := by decide +kernel
theorem dX6_fair_55 : decode cX6_fair 55 = .ok (.aload_n 0, 1) := by decide +kernel
theorem dX6_fair_56 : decode cX6_fair 56 = .ok (.iload_n 2, 1) := by decide +kernel
theorem dX6_fair_57 : decode cX6_fair 57 = .ok (.invokevirtual 157, 3) := by decide +kernel
theorem dX6_fair_60 : decode cX6_fair 60 = .ok (.aload_n 0, 1) := by decide +kernel
theorem dX6_fair_61 : decode cX6_fair 61 = .ok (.invokevirtual 161, 3) := by decide +kernel
theorem dX6_fair_64 : decode cX6_fair 64 = .ok (.ifCond .ne 7, 3) := by decide +kernel
theorem dX6_fair_67 : decode cX6_fair 67 = .ok (.iconst 1, 1) := by decide +kernel
theorem dX6_fair_68 : decode cX6_fair 68 = .ok (.goto 4, 3) := by decide +kernel
theorem dX6_fair_71 : decode cX6_fair 71 = .ok (.iconst 0, 1) := by decide +kernel
theorem dX6_fair_72 : decode cX6_fair 72 = .ok (.istore_n 3, 1) := by decide +kernel
theorem dX6_fair_73 : decode cX6_fair 73 = .ok (.iinc 2 1, 3) := by decide +kernel
theorem dX6_fair_76 : decode cX6_fair 76 = .ok (.goto (-34), 3) := by decide +kernel
theorem dX6_fair_79 : decode cX6_fair 79 = .ok (.iconst 0, 1) := by decide +kernel
theorem dX6_fair_80 : decode cX6_fair 80 = .ok (.istore 4, 2) := by decide +kernel
theorem dX6_fair_82 : decode cX6_fair 82 = .ok (.iload 4, 2) := by decide +kernel
theorem dX6_fair_84 : decode cX6_fair 84 = .ok (.aload_n 0, 1) := by decide +kernel
theorem dX6_fair_85 : decode cX6_fair 85 = .ok (.getfield 88, 3) := by decide +kernel
theorem dX6_fair_88 : decode cX6_fair 88 = .ok (.if_icmp .ge 38, 3) := by decide +kernel
theorem dX6_fair_91 : decode cX6_fair 91 = .ok (.aload_n 0, 1) := by decide +kernel
theorem dX6_fair_92 : decode cX6_fair 92 = .ok (.getfield 76, 3) := by decide +kernel
theorem dX6_fair_95 : decode cX6_fair 95 = .ok (.iload 4, 2) := by decide +kernel
theorem dX6_fair_97 : decode cX6_fair 97 = .ok (.baload, 1) := by decide +kernel
theorem dX6_fair_98 : decode cX6_fair 98 = .ok (.ifCond .eq 22, 3) := by decide +kernel
theorem dX6_fair_101 : decode cX6_fair 101 = .ok (.aload_n 0, 1) := by decide +kernel
theorem dX6_fair_102 : decode cX6_fair 102 = .ok (.getfield 46, 3) := by decide +kernel
theorem dX6_fair_105 : decode cX6_fair 105 = .ok (.iload_n 1, 1) := by decide +kernel
theorem dX6_fair_106 : decode cX6_fair 106 = .ok (.iload 4, 2) := by decide +kernel
theorem dX6_fair_108 : decode cX6_fair 108 = .ok (.iastore, 1) := by decide +kernel
theorem dX6_fair_109 : decode cX6_fair 109 = .ok (.iinc 1 1, 3) := by decide +kernel
theorem dX6_fair_112 : decode cX6_fair 112 = .ok (.aload_n 0, 1) := by decide +kernel
theorem dX6_fair_113 : decode cX6_fair 113 = .ok (.getfield 73, 3) := by decide +kernel
theorem dX6_fair_116 : decode cX6_fair 116 = .ok (.iload 4, 2) := by decide +kernel
theorem dX6_fair_118 : decode cX6_fair 118 = .ok (.iconst 0, 1) := by decide +kernel
theorem dX6_fair_119 : decode cX6_fair 119 = .ok (.bastore, 1) := by decide +kernel
theorem dX6_fair_120 : decode cX6_fair 120 = .ok (.iinc 4 1, 3) := by decide +kernel
theorem dX6_fair_123 : decode cX6_fair 123 = .ok (.goto (-41), 3) := by decide +kernel
theorem dX6_fair_126 : decode cX6_fair 126 = .ok (.goto (-96), 3) := by decide +kernel
theorem dX6_fair_129 : decode cX6_fair 129 = .ok (.return_, 1) := by decide +kernel
theorem dX6_byLot_0 : decode cX6_byLot 0 = .ok (.lload_n 1, 1) := by decide +kernel
theorem dX6_byLot_1 : decode cX6_byLot 1 = .ok (.lstore_n 3, 1) := by decide +kernel
theorem dX6_byLot_2 : decode cX6_byLot 2 = .ok (.aload_n 0, 1) := by decide +kernel
theorem dX6_byLot_3 : decode cX6_byLot 3 = .ok (.getfield 42, 3) := by decide +kernel
theorem dX6_byLot_6 : decode cX6_byLot 6 = .ok (.iconst 1, 1) := by decide +kernel
theorem dX6_byLot_7 : decode cX6_byLot 7 = .ok (.isub, 1) := by decide +kernel
theorem dX6_byLot_8 : decode cX6_byLot 8 = .ok (.istore 5, 2) := by decide +kernel
theorem dX6_byLot_10 : decode cX6_byLot 10 = .ok (.iload 5, 2) := by decide +kernel
theorem dX6_byLot_12 : decode cX6_byLot 12 = .ok (.ifCond .le 64, 3) := by decide +kernel
theorem dX6_byLot_15 : decode cX6_byLot 15 = .ok (.lload_n 3, 1) := by decide +kernel
theorem dX6_byLot_16 : decode cX6_byLot 16 = .ok (.ldc2_w 135, 3) := by decide +kernel
theorem dX6_byLot_19 : decode cX6_byLot 19 = .ok (.lmul, 1) := by decide +kernel
theorem dX6_byLot_20 : decode cX6_byLot 20 = .ok (.ldc2_w 165, 3) := by decide +kernel
theorem dX6_byLot_23 : decode cX6_byLot 23 = .ok (.ladd, 1) := by decide +kernel
theorem dX6_byLot_24 : decode cX6_byLot 24 = .ok (.lstore_n 3, 1) := by decide +kernel
theorem dX6_byLot_25 : decode cX6_byLot 25 = .ok (.lload_n 3, 1) := by decide +kernel
theorem dX6_byLot_26 : decode cX6_byLot 26 = .ok (.bipush 33, 2) := by decide +kernel
theorem dX6_byLot_28 : decode cX6_byLot 28 = .ok (.lushr, 1) := by decide +kernel
theorem dX6_byLot_29 : decode cX6_byLot 29 = .ok (.iload 5, 2) := by decide +kernel
theorem dX6_byLot_31 : decode cX6_byLot 31 = .ok (.i2l, 1) := by decide +kernel
theorem dX6_byLot_32 : decode cX6_byLot 32 = .ok (.lconst 1, 1) := by decide +kernel
theorem dX6_byLot_33 : decode cX6_byLot 33 = .ok (.ladd, 1) := by decide +kernel
theorem dX6_byLot_34 : decode cX6_byLot 34 = .ok (.lrem, 1) := by decide +kernel
theorem dX6_byLot_35 : decode cX6_byLot 35 = .ok (.l2i, 1) := by decide +kernel
theorem dX6_byLot_36 : decode cX6_byLot 36 = .ok (.istore 6, 2) := by decide +kernel
theorem dX6_byLot_38 : decode cX6_byLot 38 = .ok (.aload_n 0, 1) := by decide +kernel
theorem dX6_byLot_39 : decode cX6_byLot 39 = .ok (.getfield 46, 3) := by decide +kernel
theorem dX6_byLot_42 : decode cX6_byLot 42 = .ok (.iload 5, 2) := by decide +kernel
theorem dX6_byLot_44 : decode cX6_byLot 44 = .ok (.iaload, 1) := by decide +kernel
theorem dX6_byLot_45 : decode cX6_byLot 45 = .ok (.istore 7, 2) := by decide +kernel
theorem dX6_byLot_47 : decode cX6_byLot 47 = .ok (.aload_n 0, 1) := by decide +kernel
theorem dX6_byLot_48 : decode cX6_byLot 48 = .ok (.getfield 46, 3) := by decide +kernel
theorem dX6_byLot_51 : decode cX6_byLot 51 = .ok (.iload 5, 2) := by decide +kernel
theorem dX6_byLot_53 : decode cX6_byLot 53 = .ok (.aload_n 0, 1) := by decide +kernel
theorem dX6_byLot_54 : decode cX6_byLot 54 = .ok (.getfield 46, 3) := by decide +kernel
theorem dX6_byLot_57 : decode cX6_byLot 57 = .ok (.iload 6, 2) := by decide +kernel
theorem dX6_byLot_59 : decode cX6_byLot 59 = .ok (.iaload, 1) := by decide +kernel
theorem dX6_byLot_60 : decode cX6_byLot 60 = .ok (.iastore, 1) := by decide +kernel
theorem dX6_byLot_61 : decode cX6_byLot 61 = .ok (.aload_n 0, 1) := by decide +kernel
theorem dX6_byLot_62 : decode cX6_byLot 62 = .ok (.getfield 46, 3) := by decide +kernel
theorem dX6_byLot_65 : decode cX6_byLot 65 = .ok (.iload 6, 2) := by decide +kernel
theorem dX6_byLot_67 : decode cX6_byLot 67 = .ok (.iload 7, 2) := by decide +kernel
theorem dX6_byLot_69 : decode cX6_byLot 69 = .ok (.iastore, 1) := by decide +kernel
theorem dX6_byLot_70 : decode cX6_byLot 70 = .ok (.iinc 5 (-1), 3) := by decide +kernel
theorem dX6_byLot_73 : decode cX6_byLot 73 = .ok (.goto (-63), 3) := by decide +kernel
theorem dX6_byLot_76 : decode cX6_byLot 76 = .ok (.return_, 1) := by decide +kernel
theorem dX6_rankOf_0 : decode cX6_rankOf 0 = .ok (.iload_n 1, 1) := by decide +kernel
theorem dX6_rankOf_1 : decode cX6_rankOf 1 = .ok (.iconst 1, 1) := by decide +kernel
theorem dX6_rankOf_2 : decode cX6_rankOf 2 = .ok (.if_icmp .ne 16, 3) := by decide +kernel
theorem dX6_rankOf_5 : decode cX6_rankOf 5 = .ok (.sipush 1000, 3) := by decide +kernel
theorem dX6_rankOf_8 : decode cX6_rankOf 8 = .ok (.aload_n 0, 1) := by decide +kernel
theorem dX6_rankOf_9 : decode cX6_rankOf 9 = .ok (.getfield 33, 3) := by decide +kernel
theorem dX6_rankOf_12 : decode cX6_rankOf 12 = .ok (.iload_n 2, 1) := by decide +kernel
theorem dX6_rankOf_13 : decode cX6_rankOf 13 = .ok (.iaload, 1) := by decide +kernel
theorem dX6_rankOf_14 : decode cX6_rankOf 14 = .ok (.isub, 1) := by decide +kernel
theorem dX6_rankOf_15 : decode cX6_rankOf 15 = .ok (.goto 17, 3) := by decide +kernel
theorem dX6_rankOf_18 : decode cX6_rankOf 18 = .ok (.iload_n 1, 1) := by decide +kernel
theorem dX6_rankOf_19 : decode cX6_rankOf 19 = .ok (.iconst 2, 1) := by decide +kernel
theorem dX6_rankOf_20 : decode cX6_rankOf 20 = .ok (.if_icmp .ne 11, 3) := by decide +kernel
theorem dX6_rankOf_23 : decode cX6_rankOf 23 = .ok (.aload_n 0, 1) := by decide +kernel
theorem dX6_rankOf_24 : decode cX6_rankOf 24 = .ok (.iload_n 2, 1) := by decide +kernel
theorem dX6_rankOf_25 : decode cX6_rankOf 25 = .ok (.invokevirtual 167, 3) := by decide +kernel
theorem dX6_rankOf_28 : decode cX6_rankOf 28 = .ok (.goto 4, 3) := by decide +kernel
theorem dX6_rankOf_31 : decode cX6_rankOf 31 = .ok (.iconst 0, 1) := by decide +kernel
theorem dX6_rankOf_32 : decode cX6_rankOf 32 = .ok (.ireturn, 1) := by decide +kernel
theorem dX6_order_0 : decode cX6_order 0 = .ok (.iload_n 1, 1) := by decide +kernel
theorem dX6_order_1 : decode cX6_order 1 = .ok (.i2l, 1) := by decide +kernel
theorem dX6_order_2 : decode cX6_order 2 = .ok (.lconst 0, 1) := by decide +kernel
theorem dX6_order_3 : decode cX6_order 3 = .ok (.ldc2_w 139, 3) := by decide +kernel
theorem dX6_order_6 : decode cX6_order 6 = .ok (.invokestatic 91, 3) := by decide +kernel
theorem dX6_order_9 : decode cX6_order 9 = .ok (.ifCond .ne 6, 3) := by decide +kernel
theorem dX6_order_12 : decode cX6_order 12 = .ok (.bipush (-2), 2) := by decide +kernel
theorem dX6_order_14 : decode cX6_order 14 = .ok (.ireturn, 1) := by decide +kernel
theorem dX6_order_15 : decode cX6_order 15 = .ok (.aload_n 0, 1) := by decide +kernel
theorem dX6_order_16 : decode cX6_order 16 = .ok (.getfield 99, 3) := by decide +kernel
theorem dX6_order_19 : decode cX6_order 19 = .ok (.iconst 2, 1) := by decide +kernel
theorem dX6_order_20 : decode cX6_order 20 = .ok (.if_icmp .eq 6, 3) := by decide +kernel
theorem dX6_order_23 : decode cX6_order 23 = .ok (.bipush (-4), 2) := by decide +kernel
theorem dX6_order_25 : decode cX6_order 25 = .ok (.ireturn, 1) := by decide +kernel
theorem dX6_order_26 : decode cX6_order 26 = .ok (.aload_n 0, 1) := by decide +kernel
theorem dX6_order_27 : decode cX6_order 27 = .ok (.iconst 0, 1) := by decide +kernel
theorem dX6_order_28 : decode cX6_order 28 = .ok (.putfield 42, 3) := by decide +kernel
theorem dX6_order_31 : decode cX6_order 31 = .ok (.iconst 0, 1) := by decide +kernel
theorem dX6_order_32 : decode cX6_order 32 = .ok (.istore 4, 2) := by decide +kernel
theorem dX6_order_34 : decode cX6_order 34 = .ok (.iload 4, 2) := by decide +kernel
theorem dX6_order_36 : decode cX6_order 36 = .ok (.aload_n 0, 1) := by decide +kernel
theorem dX6_order_37 : decode cX6_order 37 = .ok (.getfield 88, 3) := by decide +kernel
theorem dX6_order_40 : decode cX6_order 40 = .ok (.if_icmp .ge 95, 3) := by decide +kernel
theorem dX6_order_43 : decode cX6_order 43 = .ok (.aload_n 0, 1) := by decide +kernel
theorem dX6_order_44 : decode cX6_order 44 = .ok (.getfield 26, 3) := by decide +kernel
theorem dX6_order_47 : decode cX6_order 47 = .ok (.iload 4, 2) := by decide +kernel
theorem dX6_order_49 : decode cX6_order 49 = .ok (.baload, 1) := by decide +kernel
theorem dX6_order_50 : decode cX6_order 50 = .ok (.ifCond .eq 79, 3) := by decide +kernel
theorem dX6_order_53 : decode cX6_order 53 = .ok (.aload_n 0, 1) := by decide +kernel
theorem dX6_order_54 : decode cX6_order 54 = .ok (.getfield 42, 3) := by decide +kernel
theorem dX6_order_57 : decode cX6_order 57 = .ok (.istore 5, 2) := by decide +kernel
theorem dX6_order_59 : decode cX6_order 59 = .ok (.iload 5, 2) := by decide +kernel
theorem dX6_order_61 : decode cX6_order 61 = .ok (.ifCond .le 49, 3) := by decide +kernel
theorem dX6_order_64 : decode cX6_order 64 = .ok (.aload_n 0, 1) := by decide +kernel
theorem dX6_order_65 : decode cX6_order 65 = .ok (.iload_n 1, 1) := by decide +kernel
theorem dX6_order_66 : decode cX6_order 66 = .ok (.aload_n 0, 1) := by decide +kernel
theorem dX6_order_67 : decode cX6_order 67 = .ok (.getfield 46, 3) := by decide +kernel
theorem dX6_order_70 : decode cX6_order 70 = .ok (.iload 5, 2) := by decide +kernel
theorem dX6_order_72 : decode cX6_order 72 = .ok (.iconst 1, 1) := by decide +kernel
theorem dX6_order_73 : decode cX6_order 73 = .ok (.isub, 1) := by decide +kernel
theorem dX6_order_74 : decode cX6_order 74 = .ok (.iaload, 1) := by decide +kernel
theorem dX6_order_75 : decode cX6_order 75 = .ok (.invokevirtual 171, 3) := by decide +kernel
theorem dX6_order_78 : decode cX6_order 78 = .ok (.aload_n 0, 1) := by decide +kernel
theorem dX6_order_79 : decode cX6_order 79 = .ok (.iload_n 1, 1) := by decide +kernel
theorem dX6_order_80 : decode cX6_order 80 = .ok (.iload 4, 2) := by decide +kernel
theorem dX6_order_82 : decode cX6_order 82 = .ok (.invokevirtual 171, 3) := by decide +kernel
theorem dX6_order_85 : decode cX6_order 85 = .ok (.if_icmp .le 25, 3) := by decide +kernel
theorem dX6_order_88 : decode cX6_order 88 = .ok (.aload_n 0, 1) := by decide +kernel
theorem dX6_order_89 : decode cX6_order 89 = .ok (.getfield 46, 3) := by decide +kernel
theorem dX6_order_92 : decode cX6_order 92 = .ok (.iload 5, 2) := by decide +kernel
theorem dX6_order_94 : decode cX6_order 94 = .ok (.aload_n 0, 1) := by decide +kernel
theorem dX6_order_95 : decode cX6_order 95 = .ok (.getfield 46, 3) := by decide +kernel
theorem dX6_order_98 : decode cX6_order 98 = .ok (.iload 5, 2) := by decide +kernel
theorem dX6_order_100 : decode cX6_order 100 = .ok (.iconst 1, 1) := by decide +kernel
theorem dX6_order_101 : decode cX6_order 101 = .ok (.isub, 1) := by decide +kernel
theorem dX6_order_102 : decode cX6_order 102 = .ok (.iaload, 1) := by decide +kernel
theorem dX6_order_103 : decode cX6_order 103 = .ok (.iastore, 1) := by decide +kernel
theorem dX6_order_104 : decode cX6_order 104 = .ok (.iinc 5 (-1), 3) := by decide +kernel
theorem dX6_order_107 : decode cX6_order 107 = .ok (.goto (-48), 3) := by decide +kernel
theorem dX6_order_110 : decode cX6_order 110 = .ok (.aload_n 0, 1) := by decide +kernel
theorem dX6_order_111 : decode cX6_order 111 = .ok (.getfield 46, 3) := by decide +kernel
theorem dX6_order_114 : decode cX6_order 114 = .ok (.iload 5, 2) := by decide +kernel
theorem dX6_order_116 : decode cX6_order 116 = .ok (.iload 4, 2) := by decide +kernel
theorem dX6_order_118 : decode cX6_order 118 = .ok (.iastore, 1) := by decide +kernel
theorem dX6_order_119 : decode cX6_order 119 = .ok (.aload_n 0, 1) := by decide +kernel
theorem dX6_order_120 : decode cX6_order 120 = .ok (.dup, 1) := by decide +kernel
theorem dX6_order_121 : decode cX6_order 121 = .ok (.getfield 42, 3) := by decide +kernel
theorem dX6_order_124 : decode cX6_order 124 = .ok (.iconst 1, 1) := by decide +kernel
theorem dX6_order_125 : decode cX6_order 125 = .ok (.iadd, 1) := by decide +kernel
theorem dX6_order_126 : decode cX6_order 126 = .ok (.putfield 42, 3) := by decide +kernel
theorem dX6_order_129 : decode cX6_order 129 = .ok (.iinc 4 1, 3) := by decide +kernel
theorem dX6_order_132 : decode cX6_order 132 = .ok (.goto (-98), 3) := by decide +kernel
theorem dX6_order_135 : decode cX6_order 135 = .ok (.iload_n 1, 1) := by decide +kernel
theorem dX6_order_136 : decode cX6_order 136 = .ok (.iconst 3, 1) := by decide +kernel
theorem dX6_order_137 : decode cX6_order 137 = .ok (.if_icmp .ne 7, 3) := by decide +kernel
theorem dX6_order_140 : decode cX6_order 140 = .ok (.aload_n 0, 1) := by decide +kernel
theorem dX6_order_141 : decode cX6_order 141 = .ok (.invokevirtual 175, 3) := by decide +kernel
theorem dX6_order_144 : decode cX6_order 144 = .ok (.iload_n 1, 1) := by decide +kernel
theorem dX6_order_145 : decode cX6_order 145 = .ok (.iconst 4, 1) := by decide +kernel
theorem dX6_order_146 : decode cX6_order 146 = .ok (.if_icmp .ne 8, 3) := by decide +kernel
theorem dX6_order_149 : decode cX6_order 149 = .ok (.aload_n 0, 1) := by decide +kernel
theorem dX6_order_150 : decode cX6_order 150 = .ok (.lload_n 2, 1) := by decide +kernel
theorem dX6_order_151 : decode cX6_order 151 = .ok (.invokevirtual 178, 3) := by decide +kernel
theorem dX6_order_154 : decode cX6_order 154 = .ok (.aload_n 0, 1) := by decide +kernel
theorem dX6_order_155 : decode cX6_order 155 = .ok (.getfield 42, 3) := by decide +kernel
theorem dX6_order_158 : decode cX6_order 158 = .ok (.ireturn, 1) := by decide +kernel
theorem dX6_at_0 : decode cX6_at 0 = .ok (.iload_n 1, 1) := by decide +kernel
theorem dX6_at_1 : decode cX6_at 1 = .ok (.ifCond .lt 20, 3) := by decide +kernel
theorem dX6_at_4 : decode cX6_at 4 = .ok (.iload_n 1, 1) := by decide +kernel
theorem dX6_at_5 : decode cX6_at 5 = .ok (.aload_n 0, 1) := by decide +kernel
theorem dX6_at_6 : decode cX6_at 6 = .ok (.getfield 42, 3) := by decide +kernel
theorem dX6_at_9 : decode cX6_at 9 = .ok (.if_icmp .ge 12, 3) := by decide +kernel
theorem dX6_at_12 : decode cX6_at 12 = .ok (.aload_n 0, 1) := by decide +kernel
theorem dX6_at_13 : decode cX6_at 13 = .ok (.getfield 46, 3) := by decide +kernel
theorem dX6_at_16 : decode cX6_at 16 = .ok (.iload_n 1, 1) := by decide +kernel
theorem dX6_at_17 : decode cX6_at 17 = .ok (.iaload, 1) := by decide +kernel
theorem dX6_at_18 : decode cX6_at 18 = .ok (.goto 4, 3) := by decide +kernel
theorem dX6_at_21 : decode cX6_at 21 = .ok (.iconst (-1), 1) := by decide +kernel
theorem dX6_at_22 : decode cX6_at 22 = .ok (.ireturn, 1) := by decide +kernel
theorem dX6_linked_0 : decode cX6_linked 0 = .ok (.aload_n 0, 1) := by decide +kernel
theorem dX6_linked_1 : decode cX6_linked 1 = .ok (.iload_n 1, 1) := by decide +kernel
theorem dX6_linked_2 : decode cX6_linked 2 = .ok (.invokevirtual 141, 3) := by decide +kernel
theorem dX6_linked_5 : decode cX6_linked 5 = .ok (.ifCond .eq 29, 3) := by decide +kernel
theorem dX6_linked_8 : decode cX6_linked 8 = .ok (.aload_n 0, 1) := by decide +kernel
theorem dX6_linked_9 : decode cX6_linked 9 = .ok (.iload_n 2, 1) := by decide +kernel
theorem dX6_linked_10 : decode cX6_linked 10 = .ok (.invokevirtual 141, 3) := by decide +kernel
theorem dX6_linked_13 : decode cX6_linked 13 = .ok (.ifCond .eq 21, 3) := by decide +kernel
theorem dX6_linked_16 : decode cX6_linked 16 = .ok (.aload_n 0, 1) := by decide +kernel
theorem dX6_linked_17 : decode cX6_linked 17 = .ok (.getfield 26, 3) := by decide +kernel
theorem dX6_linked_20 : decode cX6_linked 20 = .ok (.iload_n 1, 1) := by decide +kernel
theorem dX6_linked_21 : decode cX6_linked 21 = .ok (.baload, 1) := by decide +kernel
theorem dX6_linked_22 : decode cX6_linked 22 = .ok (.ifCond .eq 12, 3) := by decide +kernel
theorem dX6_linked_25 : decode cX6_linked 25 = .ok (.aload_n 0, 1) := by decide +kernel
theorem dX6_linked_26 : decode cX6_linked 26 = .ok (.getfield 26, 3) := by decide +kernel
theorem dX6_linked_29 : decode cX6_linked 29 = .ok (.iload_n 2, 1) := by decide +kernel
theorem dX6_linked_30 : decode cX6_linked 30 = .ok (.baload, 1) := by decide +kernel
theorem dX6_linked_31 : decode cX6_linked 31 = .ok (.ifCond .ne 6, 3) := by decide +kernel
theorem dX6_linked_34 : decode cX6_linked 34 = .ok (.bipush (-2), 2) := by decide +kernel
theorem dX6_linked_36 : decode cX6_linked 36 = .ok (.ireturn, 1) := by decide +kernel
theorem dX6_linked_37 : decode cX6_linked 37 = .ok (.aload_n 0, 1) := by decide +kernel
theorem dX6_linked_38 : decode cX6_linked 38 = .ok (.iload_n 1, 1) := by decide +kernel
theorem dX6_linked_39 : decode cX6_linked 39 = .ok (.iload_n 2, 1) := by decide +kernel
theorem dX6_linked_40 : decode cX6_linked 40 = .ok (.invokevirtual 154, 3) := by decide +kernel
theorem dX6_linked_43 : decode cX6_linked 43 = .ok (.ifCond .eq 7, 3) := by decide +kernel
theorem dX6_linked_46 : decode cX6_linked 46 = .ok (.iconst 1, 1) := by decide +kernel
theorem dX6_linked_47 : decode cX6_linked 47 = .ok (.goto 4, 3) := by decide +kernel
theorem dX6_linked_50 : decode cX6_linked 50 = .ok (.iconst 0, 1) := by decide +kernel
theorem dX6_linked_51 : decode cX6_linked 51 = .ok (.ireturn, 1) := by decide +kernel
theorem dX6_heard_0 : decode cX6_heard 0 = .ok (.aload_n 0, 1) := by decide +kernel
theorem dX6_heard_1 : decode cX6_heard 1 = .ok (.iload_n 1, 1) := by decide +kernel
theorem dX6_heard_2 : decode cX6_heard 2 = .ok (.invokevirtual 141, 3) := by decide +kernel
theorem dX6_heard_5 : decode cX6_heard 5 = .ok (.ifCond .ne 6, 3) := by decide +kernel
theorem dX6_heard_8 : decode cX6_heard 8 = .ok (.bipush (-2), 2) := by decide +kernel
theorem dX6_heard_10 : decode cX6_heard 10 = .ok (.ireturn, 1) := by decide +kernel
theorem dX6_heard_11 : decode cX6_heard 11 = .ok (.aload_n 0, 1) := by decide +kernel
theorem dX6_heard_12 : decode cX6_heard 12 = .ok (.iload_n 1, 1) := by decide +kernel
theorem dX6_heard_13 : decode cX6_heard 13 = .ok (.invokevirtual 167, 3) := by decide +kernel
theorem dX6_heard_16 : decode cX6_heard 16 = .ok (.ldc 149, 2) := by decide +kernel
theorem dX6_heard_18 : decode cX6_heard 18 = .ok (.if_icmp .ne 7, 3) := by decide +kernel
theorem dX6_heard_21 : decode cX6_heard 21 = .ok (.iconst (-1), 1) := by decide +kernel
theorem dX6_heard_22 : decode cX6_heard 22 = .ok (.goto 8, 3) := by decide +kernel
theorem dX6_heard_25 : decode cX6_heard 25 = .ok (.aload_n 0, 1) := by decide +kernel
theorem dX6_heard_26 : decode cX6_heard 26 = .ok (.iload_n 1, 1) := by decide +kernel
theorem dX6_heard_27 : decode cX6_heard 27 = .ok (.invokevirtual 167, 3) := by decide +kernel
theorem dX6_heard_30 : decode cX6_heard 30 = .ok (.ireturn, 1) := by decide +kernel
theorem dX6_mayPlay_0 : decode cX6_mayPlay 0 = .ok (.aload_n 0, 1) := by decide +kernel
theorem dX6_mayPlay_1 : decode cX6_mayPlay 1 = .ok (.getfield 42, 3) := by decide +kernel
theorem dX6_mayPlay_4 : decode cX6_mayPlay 4 = .ok (.ifCond .lt 14, 3) := by decide +kernel
theorem dX6_mayPlay_7 : decode cX6_mayPlay 7 = .ok (.aload_n 0, 1) := by decide +kernel
theorem dX6_mayPlay_8 : decode cX6_mayPlay 8 = .ok (.getfield 95, 3) := by decide +kernel
theorem dX6_mayPlay_11 : decode cX6_mayPlay 11 = .ok (.ifCond .ne 7, 3) := by decide +kernel
theorem dX6_mayPlay_14 : decode cX6_mayPlay 14 = .ok (.iconst 1, 1) := by decide +kernel
theorem dX6_mayPlay_15 : decode cX6_mayPlay 15 = .ok (.goto 4, 3) := by decide +kernel
theorem dX6_mayPlay_18 : decode cX6_mayPlay 18 = .ok (.iconst 0, 1) := by decide +kernel
theorem dX6_mayPlay_19 : decode cX6_mayPlay 19 = .ok (.ireturn, 1) := by decide +kernel
theorem dX6_tryOne_0 : decode cX6_tryOne 0 = .ok (.aload_n 0, 1) := by decide +kernel
theorem dX6_tryOne_1 : decode cX6_tryOne 1 = .ok (.getfield 16, 3) := by decide +kernel
theorem dX6_tryOne_4 : decode cX6_tryOne 4 = .ok (.iload_n 1, 1) := by decide +kernel
theorem dX6_tryOne_5 : decode cX6_tryOne 5 = .ok (.iaload, 1) := by decide +kernel
theorem dX6_tryOne_6 : decode cX6_tryOne 6 = .ok (.istore_n 2, 1) := by decide +kernel
theorem dX6_tryOne_7 : decode cX6_tryOne 7 = .ok (.aload_n 0, 1) := by decide +kernel
theorem dX6_tryOne_8 : decode cX6_tryOne 8 = .ok (.getfield 36, 3) := by decide +kernel
theorem dX6_tryOne_11 : decode cX6_tryOne 11 = .ok (.iload_n 1, 1) := by decide +kernel
theorem dX6_tryOne_12 : decode cX6_tryOne 12 = .ok (.iaload, 1) := by decide +kernel
theorem dX6_tryOne_13 : decode cX6_tryOne 13 = .ok (.i2l, 1) := by decide +kernel
theorem dX6_tryOne_14 : decode cX6_tryOne 14 = .ok (.lstore_n 3, 1) := by decide +kernel
theorem dX6_tryOne_15 : decode cX6_tryOne 15 = .ok (.aload_n 0, 1) := by decide +kernel
theorem dX6_tryOne_16 : decode cX6_tryOne 16 = .ok (.getfield 33, 3) := by decide +kernel
theorem dX6_tryOne_19 : decode cX6_tryOne 19 = .ok (.iload_n 1, 1) := by decide +kernel
theorem dX6_tryOne_20 : decode cX6_tryOne 20 = .ok (.iaload, 1) := by decide +kernel
theorem dX6_tryOne_21 : decode cX6_tryOne 21 = .ok (.i2l, 1) := by decide +kernel
theorem dX6_tryOne_22 : decode cX6_tryOne 22 = .ok (.lload_n 3, 1) := by decide +kernel
theorem dX6_tryOne_23 : decode cX6_tryOne 23 = .ok (.lmul, 1) := by decide +kernel
theorem dX6_tryOne_24 : decode cX6_tryOne 24 = .ok (.lstore 5, 2) := by decide +kernel
theorem dX6_tryOne_26 : decode cX6_tryOne 26 = .ok (.aload_n 0, 1) := by decide +kernel
theorem dX6_tryOne_27 : decode cX6_tryOne 27 = .ok (.getfield 182, 3) := by decide +kernel
theorem dX6_tryOne_30 : decode cX6_tryOne 30 = .ok (.lload_n 3, 1) := by decide +kernel
theorem dX6_tryOne_31 : decode cX6_tryOne 31 = .ok (.lmul, 1) := by decide +kernel
theorem dX6_tryOne_32 : decode cX6_tryOne 32 = .ok (.lstore 7, 2) := by decide +kernel
theorem dX6_tryOne_34 : decode cX6_tryOne 34 = .ok (.aload_n 0, 1) := by decide +kernel
theorem dX6_tryOne_35 : decode cX6_tryOne 35 = .ok (.getfield 64, 3) := by decide +kernel
theorem dX6_tryOne_38 : decode cX6_tryOne 38 = .ok (.iload_n 1, 1) := by decide +kernel
theorem dX6_tryOne_39 : decode cX6_tryOne 39 = .ok (.iconst 0, 1) := by decide +kernel
theorem dX6_tryOne_40 : decode cX6_tryOne 40 = .ok (.iastore, 1) := by decide +kernel
theorem dX6_tryOne_41 : decode cX6_tryOne 41 = .ok (.aload_n 0, 1) := by decide +kernel
theorem dX6_tryOne_42 : decode cX6_tryOne 42 = .ok (.getfield 67, 3) := by decide +kernel
theorem dX6_tryOne_45 : decode cX6_tryOne 45 = .ok (.iload_n 1, 1) := by decide +kernel
theorem dX6_tryOne_46 : decode cX6_tryOne 46 = .ok (.lconst 0, 1) := by decide +kernel
theorem dX6_tryOne_47 : decode cX6_tryOne 47 = .ok (.lastore, 1) := by decide +kernel
theorem dX6_tryOne_48 : decode cX6_tryOne 48 = .ok (.aload_n 0, 1) := by decide +kernel
theorem dX6_tryOne_49 : decode cX6_tryOne 49 = .ok (.getfield 30, 3) := by decide +kernel
theorem dX6_tryOne_52 : decode cX6_tryOne 52 = .ok (.iload_n 1, 1) := by decide +kernel
theorem dX6_tryOne_53 : decode cX6_tryOne 53 = .ok (.iaload, 1) := by decide +kernel
theorem dX6_tryOne_54 : decode cX6_tryOne 54 = .ok (.ifCond .ne 121, 3) := by decide +kernel
theorem dX6_tryOne_57 : decode cX6_tryOne 57 = .ok (.lload_n 3, 1) := by decide +kernel
theorem dX6_tryOne_58 : decode cX6_tryOne 58 = .ok (.aload_n 0, 1) := by decide +kernel
theorem dX6_tryOne_59 : decode cX6_tryOne 59 = .ok (.getfield 185, 3) := by decide +kernel
theorem dX6_tryOne_62 : decode cX6_tryOne 62 = .ok (.lcmp, 1) := by decide +kernel
theorem dX6_tryOne_63 : decode cX6_tryOne 63 = .ok (.ifCond .ge 112, 3) := by decide +kernel
theorem dX6_tryOne_66 : decode cX6_tryOne 66 = .ok (.aload_n 0, 1) := by decide +kernel
theorem dX6_tryOne_67 : decode cX6_tryOne 67 = .ok (.getfield 185, 3) := by decide +kernel
theorem dX6_tryOne_70 : decode cX6_tryOne 70 = .ok (.lload_n 3, 1) := by decide +kernel
theorem dX6_tryOne_71 : decode cX6_tryOne 71 = .ok (.lsub, 1) := by decide +kernel
theorem dX6_tryOne_72 : decode cX6_tryOne 72 = .ok (.lstore 9, 2) := by decide +kernel
theorem dX6_tryOne_74 : decode cX6_tryOne 74 = .ok (.lload 7, 2) := by decide +kernel
theorem dX6_tryOne_76 : decode cX6_tryOne 76 = .ok (.lload 9, 2) := by decide +kernel
theorem dX6_tryOne_78 : decode cX6_tryOne 78 = .ok (.ldiv, 1) := by decide +kernel
theorem dX6_tryOne_79 : decode cX6_tryOne 79 = .ok (.lload 7, 2) := by decide +kernel
theorem dX6_tryOne_81 : decode cX6_tryOne 81 = .ok (.lload 9, 2) := by decide +kernel
theorem dX6_tryOne_83 : decode cX6_tryOne 83 = .ok (.lrem, 1) := by decide +kernel
theorem dX6_tryOne_84 : decode cX6_tryOne 84 = .ok (.lconst 0, 1) := by decide +kernel
theorem dX6_tryOne_85 : decode cX6_tryOne 85 = .ok (.lcmp, 1) := by decide +kernel
theorem dX6_tryOne_86 : decode cX6_tryOne 86 = .ok (.ifCond .le 7, 3) := by decide +kernel
theorem dX6_tryOne_89 : decode cX6_tryOne 89 = .ok (.lconst 1, 1) := by decide +kernel
theorem dX6_tryOne_90 : decode cX6_tryOne 90 = .ok (.goto 4, 3) := by decide +kernel
theorem dX6_tryOne_93 : decode cX6_tryOne 93 = .ok (.lconst 0, 1) := by decide +kernel
theorem dX6_tryOne_94 : decode cX6_tryOne 94 = .ok (.ladd, 1) := by decide +kernel
theorem dX6_tryOne_95 : decode cX6_tryOne 95 = .ok (.lstore 11, 2) := by decide +kernel
theorem dX6_tryOne_97 : decode cX6_tryOne 97 = .ok (.lload 11, 2) := by decide +kernel
theorem dX6_tryOne_99 : decode cX6_tryOne 99 = .ok (.lload 5, 2) := by decide +kernel
theorem dX6_tryOne_101 : decode cX6_tryOne 101 = .ok (.lcmp, 1) := by decide +kernel
theorem dX6_tryOne_102 : decode cX6_tryOne 102 = .ok (.ifCond .gt 73, 3) := by decide +kernel
theorem dX6_tryOne_105 : decode cX6_tryOne 105 = .ok (.lload 11, 2) := by decide +kernel
theorem dX6_tryOne_107 : decode cX6_tryOne 107 = .ok (.aload_n 0, 1) := by decide +kernel
theorem dX6_tryOne_108 : decode cX6_tryOne 108 = .ok (.getfield 58, 3) := by decide +kernel
theorem dX6_tryOne_111 : decode cX6_tryOne 111 = .ok (.iload_n 2, 1) := by decide +kernel
theorem dX6_tryOne_112 : decode cX6_tryOne 112 = .ok (.laload, 1) := by decide +kernel
theorem dX6_tryOne_113 : decode cX6_tryOne 113 = .ok (.lcmp, 1) := by decide +kernel
theorem dX6_tryOne_114 : decode cX6_tryOne 114 = .ok (.ifCond .gt 61, 3) := by decide +kernel
theorem dX6_tryOne_117 : decode cX6_tryOne 117 = .ok (.aload_n 0, 1) := by decide +kernel
theorem dX6_tryOne_118 : decode cX6_tryOne 118 = .ok (.getfield 64, 3) := by decide +kernel
theorem dX6_tryOne_121 : decode cX6_tryOne 121 = .ok (.iload_n 1, 1) := by decide +kernel
theorem dX6_tryOne_122 : decode cX6_tryOne 122 = .ok (.lload_n 3, 1) := by decide +kernel
theorem dX6_tryOne_123 : decode cX6_tryOne 123 = .ok (.l2i, 1) := by decide +kernel
theorem dX6_tryOne_124 : decode cX6_tryOne 124 = .ok (.iastore, 1) := by decide +kernel
theorem dX6_tryOne_125 : decode cX6_tryOne 125 = .ok (.aload_n 0, 1) := by decide +kernel
theorem dX6_tryOne_126 : decode cX6_tryOne 126 = .ok (.getfield 67, 3) := by decide +kernel
theorem dX6_tryOne_129 : decode cX6_tryOne 129 = .ok (.iload_n 1, 1) := by decide +kernel
theorem dX6_tryOne_130 : decode cX6_tryOne 130 = .ok (.lload 11, 2) := by decide +kernel
theorem dX6_tryOne_132 : decode cX6_tryOne 132 = .ok (.lastore, 1) := by decide +kernel
theorem dX6_tryOne_133 : decode cX6_tryOne 133 = .ok (.aload_n 0, 1) := by decide +kernel
theorem dX6_tryOne_134 : decode cX6_tryOne 134 = .ok (.getfield 58, 3) := by decide +kernel
theorem dX6_tryOne_137 : decode cX6_tryOne 137 = .ok (.iload_n 2, 1) := by decide +kernel
theorem dX6_tryOne_138 : decode cX6_tryOne 138 = .ok (.dup2, 1) := by decide +kernel
theorem dX6_tryOne_139 : decode cX6_tryOne 139 = .ok (.laload, 1) := by decide +kernel
theorem dX6_tryOne_140 : decode cX6_tryOne 140 = .ok (.lload 11, 2) := by decide +kernel
theorem dX6_tryOne_142 : decode cX6_tryOne 142 = .ok (.lsub, 1) := by decide +kernel
theorem dX6_tryOne_143 : decode cX6_tryOne 143 = .ok (.lastore, 1) := by decide +kernel
theorem dX6_tryOne_144 : decode cX6_tryOne 144 = .ok (.aload_n 0, 1) := by decide +kernel
theorem dX6_tryOne_145 : decode cX6_tryOne 145 = .ok (.getfield 61, 3) := by decide +kernel
theorem dX6_tryOne_148 : decode cX6_tryOne 148 = .ok (.iload_n 2, 1) := by decide +kernel
theorem dX6_tryOne_149 : decode cX6_tryOne 149 = .ok (.dup2, 1) := by decide +kernel
theorem dX6_tryOne_150 : decode cX6_tryOne 150 = .ok (.laload, 1) := by decide +kernel
theorem dX6_tryOne_151 : decode cX6_tryOne 151 = .ok (.lload_n 3, 1) := by decide +kernel
theorem dX6_tryOne_152 : decode cX6_tryOne 152 = .ok (.ladd, 1) := by decide +kernel
theorem dX6_tryOne_153 : decode cX6_tryOne 153 = .ok (.lastore, 1) := by decide +kernel
theorem dX6_tryOne_154 : decode cX6_tryOne 154 = .ok (.aload_n 0, 1) := by decide +kernel
theorem dX6_tryOne_155 : decode cX6_tryOne 155 = .ok (.dup, 1) := by decide +kernel
theorem dX6_tryOne_156 : decode cX6_tryOne 156 = .ok (.getfield 182, 3) := by decide +kernel
theorem dX6_tryOne_159 : decode cX6_tryOne 159 = .ok (.lload 11, 2) := by decide +kernel
theorem dX6_tryOne_161 : decode cX6_tryOne 161 = .ok (.ladd, 1) := by decide +kernel
theorem dX6_tryOne_162 : decode cX6_tryOne 162 = .ok (.putfield 182, 3) := by decide +kernel
theorem dX6_tryOne_165 : decode cX6_tryOne 165 = .ok (.aload_n 0, 1) := by decide +kernel
theorem dX6_tryOne_166 : decode cX6_tryOne 166 = .ok (.dup, 1) := by decide +kernel
theorem dX6_tryOne_167 : decode cX6_tryOne 167 = .ok (.getfield 185, 3) := by decide +kernel
theorem dX6_tryOne_170 : decode cX6_tryOne 170 = .ok (.lload_n 3, 1) := by decide +kernel
theorem dX6_tryOne_171 : decode cX6_tryOne 171 = .ok (.lsub, 1) := by decide +kernel
theorem dX6_tryOne_172 : decode cX6_tryOne 172 = .ok (.putfield 185, 3) := by decide +kernel
theorem dX6_tryOne_175 : decode cX6_tryOne 175 = .ok (.aload_n 0, 1) := by decide +kernel
theorem dX6_tryOne_176 : decode cX6_tryOne 176 = .ok (.getfield 30, 3) := by decide +kernel
theorem dX6_tryOne_179 : decode cX6_tryOne 179 = .ok (.iload_n 1, 1) := by decide +kernel
theorem dX6_tryOne_180 : decode cX6_tryOne 180 = .ok (.iaload, 1) := by decide +kernel
theorem dX6_tryOne_181 : decode cX6_tryOne 181 = .ok (.iconst 1, 1) := by decide +kernel
theorem dX6_tryOne_182 : decode cX6_tryOne 182 = .ok (.if_icmp .ne 91, 3) := by decide +kernel
theorem dX6_tryOne_185 : decode cX6_tryOne 185 = .ok (.aload_n 0, 1) := by decide +kernel
theorem dX6_tryOne_186 : decode cX6_tryOne 186 = .ok (.getfield 61, 3) := by decide +kernel
theorem dX6_tryOne_189 : decode cX6_tryOne 189 = .ok (.iload_n 2, 1) := by decide +kernel
theorem dX6_tryOne_190 : decode cX6_tryOne 190 = .ok (.laload, 1) := by decide +kernel
theorem dX6_tryOne_191 : decode cX6_tryOne 191 = .ok (.lload_n 3, 1) := by decide +kernel
theorem dX6_tryOne_192 : decode cX6_tryOne 192 = .ok (.lcmp, 1) := by decide +kernel
theorem dX6_tryOne_193 : decode cX6_tryOne 193 = .ok (.ifCond .lt 80, 3) := by decide +kernel
theorem dX6_tryOne_196 : decode cX6_tryOne 196 = .ok (.lload 7, 2) := by decide +kernel
theorem dX6_tryOne_198 : decode cX6_tryOne 198 = .ok (.aload_n 0, 1) := by decide +kernel
theorem dX6_tryOne_199 : decode cX6_tryOne 199 = .ok (.getfield 185, 3) := by decide +kernel
theorem dX6_tryOne_202 : decode cX6_tryOne 202 = .ok (.lload_n 3, 1) := by decide +kernel
theorem dX6_tryOne_203 : decode cX6_tryOne 203 = .ok (.ladd, 1) := by decide +kernel
theorem dX6_tryOne_204 : decode cX6_tryOne 204 = .ok (.ldiv, 1) := by decide +kernel
theorem dX6_tryOne_205 : decode cX6_tryOne 205 = .ok (.lstore 9, 2) := by decide +kernel
theorem dX6_tryOne_207 : decode cX6_tryOne 207 = .ok (.lload 9, 2) := by decide +kernel
theorem dX6_tryOne_209 : decode cX6_tryOne 209 = .ok (.lload 5, 2) := by decide +kernel
theorem dX6_tryOne_211 : decode cX6_tryOne 211 = .ok (.lcmp, 1) := by decide +kernel
theorem dX6_tryOne_212 : decode cX6_tryOne 212 = .ok (.ifCond .lt 61, 3) := by decide +kernel
theorem dX6_tryOne_215 : decode cX6_tryOne 215 = .ok (.aload_n 0, 1) := by decide +kernel
theorem dX6_tryOne_216 : decode cX6_tryOne 216 = .ok (.getfield 64, 3) := by decide +kernel
theorem dX6_tryOne_219 : decode cX6_tryOne 219 = .ok (.iload_n 1, 1) := by decide +kernel
theorem dX6_tryOne_220 : decode cX6_tryOne 220 = .ok (.lload_n 3, 1) := by decide +kernel
theorem dX6_tryOne_221 : decode cX6_tryOne 221 = .ok (.l2i, 1) := by decide +kernel
theorem dX6_tryOne_222 : decode cX6_tryOne 222 = .ok (.iastore, 1) := by decide +kernel
theorem dX6_tryOne_223 : decode cX6_tryOne 223 = .ok (.aload_n 0, 1) := by decide +kernel
theorem dX6_tryOne_224 : decode cX6_tryOne 224 = .ok (.getfield 67, 3) := by decide +kernel
theorem dX6_tryOne_227 : decode cX6_tryOne 227 = .ok (.iload_n 1, 1) := by decide +kernel
theorem dX6_tryOne_228 : decode cX6_tryOne 228 = .ok (.lload 9, 2) := by decide +kernel
theorem dX6_tryOne_230 : decode cX6_tryOne 230 = .ok (.lastore, 1) := by decide +kernel
theorem dX6_tryOne_231 : decode cX6_tryOne 231 = .ok (.aload_n 0, 1) := by decide +kernel
theorem dX6_tryOne_232 : decode cX6_tryOne 232 = .ok (.getfield 58, 3) := by decide +kernel
theorem dX6_tryOne_235 : decode cX6_tryOne 235 = .ok (.iload_n 2, 1) := by decide +kernel
theorem dX6_tryOne_236 : decode cX6_tryOne 236 = .ok (.dup2, 1) := by decide +kernel
theorem dX6_tryOne_237 : decode cX6_tryOne 237 = .ok (.laload, 1) := by decide +kernel
theorem dX6_tryOne_238 : decode cX6_tryOne 238 = .ok (.lload 9, 2) := by decide +kernel
theorem dX6_tryOne_240 : decode cX6_tryOne 240 = .ok (.ladd, 1) := by decide +kernel
theorem dX6_tryOne_241 : decode cX6_tryOne 241 = .ok (.lastore, 1) := by decide +kernel
theorem dX6_tryOne_242 : decode cX6_tryOne 242 = .ok (.aload_n 0, 1) := by decide +kernel
theorem dX6_tryOne_243 : decode cX6_tryOne 243 = .ok (.getfield 61, 3) := by decide +kernel
theorem dX6_tryOne_246 : decode cX6_tryOne 246 = .ok (.iload_n 2, 1) := by decide +kernel
theorem dX6_tryOne_247 : decode cX6_tryOne 247 = .ok (.dup2, 1) := by decide +kernel
theorem dX6_tryOne_248 : decode cX6_tryOne 248 = .ok (.laload, 1) := by decide +kernel
theorem dX6_tryOne_249 : decode cX6_tryOne 249 = .ok (.lload_n 3, 1) := by decide +kernel
theorem dX6_tryOne_250 : decode cX6_tryOne 250 = .ok (.lsub, 1) := by decide +kernel
theorem dX6_tryOne_251 : decode cX6_tryOne 251 = .ok (.lastore, 1) := by decide +kernel
theorem dX6_tryOne_252 : decode cX6_tryOne 252 = .ok (.aload_n 0, 1) := by decide +kernel
theorem dX6_tryOne_253 : decode cX6_tryOne 253 = .ok (.dup, 1) := by decide +kernel
theorem dX6_tryOne_254 : decode cX6_tryOne 254 = .ok (.getfield 182, 3) := by decide +kernel
theorem dX6_tryOne_257 : decode cX6_tryOne 257 = .ok (.lload 9, 2) := by decide +kernel
theorem dX6_tryOne_259 : decode cX6_tryOne 259 = .ok (.lsub, 1) := by decide +kernel
theorem dX6_tryOne_260 : decode cX6_tryOne 260 = .ok (.putfield 182, 3) := by decide +kernel
theorem dX6_tryOne_263 : decode cX6_tryOne 263 = .ok (.aload_n 0, 1) := by decide +kernel
theorem dX6_tryOne_264 : decode cX6_tryOne 264 = .ok (.dup, 1) := by decide +kernel
theorem dX6_tryOne_265 : decode cX6_tryOne 265 = .ok (.getfield 185, 3) := by decide +kernel
theorem dX6_tryOne_268 : decode cX6_tryOne 268 = .ok (.lload_n 3, 1) := by decide +kernel
theorem dX6_tryOne_269 : decode cX6_tryOne 269 = .ok (.ladd, 1) := by decide +kernel
theorem dX6_tryOne_270 : decode cX6_tryOne 270 = .ok (.putfield 185, 3) := by decide +kernel
theorem dX6_tryOne_273 : decode cX6_tryOne 273 = .ok (.return_, 1) := by decide +kernel
theorem dX6_tryAll_0 : decode cX6_tryAll 0 = .ok (.iconst 0, 1) := by decide +kernel
theorem dX6_tryAll_1 : decode cX6_tryAll 1 = .ok (.istore_n 1, 1) := by decide +kernel
theorem dX6_tryAll_2 : decode cX6_tryAll 2 = .ok (.iload_n 1, 1) := by decide +kernel
theorem dX6_tryAll_3 : decode cX6_tryAll 3 = .ok (.aload_n 0, 1) := by decide +kernel
theorem dX6_tryAll_4 : decode cX6_tryAll 4 = .ok (.getfield 102, 3) := by decide +kernel
theorem dX6_tryAll_7 : decode cX6_tryAll 7 = .ok (.if_icmp .ge 33, 3) := by decide +kernel
theorem dX6_tryAll_10 : decode cX6_tryAll 10 = .ok (.aload_n 0, 1) := by decide +kernel
theorem dX6_tryAll_11 : decode cX6_tryAll 11 = .ok (.getfield 58, 3) := by decide +kernel
theorem dX6_tryAll_14 : decode cX6_tryAll 14 = .ok (.iload_n 1, 1) := by decide +kernel
theorem dX6_tryAll_15 : decode cX6_tryAll 15 = .ok (.aload_n 0, 1) := by decide +kernel
theorem dX6_tryAll_16 : decode cX6_tryAll 16 = .ok (.getfield 7, 3) := by decide +kernel
theorem dX6_tryAll_19 : decode cX6_tryAll 19 = .ok (.iload_n 1, 1) := by decide +kernel
theorem dX6_tryAll_20 : decode cX6_tryAll 20 = .ok (.laload, 1) := by decide +kernel
theorem dX6_tryAll_21 : decode cX6_tryAll 21 = .ok (.lastore, 1) := by decide +kernel
theorem dX6_tryAll_22 : decode cX6_tryAll 22 = .ok (.aload_n 0, 1) := by decide +kernel
theorem dX6_tryAll_23 : decode cX6_tryAll 23 = .ok (.getfield 61, 3) := by decide +kernel
theorem dX6_tryAll_26 : decode cX6_tryAll 26 = .ok (.iload_n 1, 1) := by decide +kernel
theorem dX6_tryAll_27 : decode cX6_tryAll 27 = .ok (.aload_n 0, 1) := by decide +kernel
theorem dX6_tryAll_28 : decode cX6_tryAll 28 = .ok (.getfield 13, 3) := by decide +kernel
theorem dX6_tryAll_31 : decode cX6_tryAll 31 = .ok (.iload_n 1, 1) := by decide +kernel
theorem dX6_tryAll_32 : decode cX6_tryAll 32 = .ok (.laload, 1) := by decide +kernel
theorem dX6_tryAll_33 : decode cX6_tryAll 33 = .ok (.lastore, 1) := by decide +kernel
theorem dX6_tryAll_34 : decode cX6_tryAll 34 = .ok (.iinc 1 1, 3) := by decide +kernel
theorem dX6_tryAll_37 : decode cX6_tryAll 37 = .ok (.goto (-35), 3) := by decide +kernel
theorem dX6_tryAll_40 : decode cX6_tryAll 40 = .ok (.aload_n 0, 1) := by decide +kernel
theorem dX6_tryAll_41 : decode cX6_tryAll 41 = .ok (.aload_n 0, 1) := by decide +kernel
theorem dX6_tryAll_42 : decode cX6_tryAll 42 = .ok (.getfield 105, 3) := by decide +kernel
theorem dX6_tryAll_45 : decode cX6_tryAll 45 = .ok (.putfield 182, 3) := by decide +kernel
theorem dX6_tryAll_48 : decode cX6_tryAll 48 = .ok (.aload_n 0, 1) := by decide +kernel
theorem dX6_tryAll_49 : decode cX6_tryAll 49 = .ok (.aload_n 0, 1) := by decide +kernel
theorem dX6_tryAll_50 : decode cX6_tryAll 50 = .ok (.getfield 109, 3) := by decide +kernel
theorem dX6_tryAll_53 : decode cX6_tryAll 53 = .ok (.putfield 185, 3) := by decide +kernel
theorem dX6_tryAll_56 : decode cX6_tryAll 56 = .ok (.iconst 0, 1) := by decide +kernel
theorem dX6_tryAll_57 : decode cX6_tryAll 57 = .ok (.istore_n 1, 1) := by decide +kernel
theorem dX6_tryAll_58 : decode cX6_tryAll 58 = .ok (.iload_n 1, 1) := by decide +kernel
theorem dX6_tryAll_59 : decode cX6_tryAll 59 = .ok (.aload_n 0, 1) := by decide +kernel
theorem dX6_tryAll_60 : decode cX6_tryAll 60 = .ok (.getfield 42, 3) := by decide +kernel
theorem dX6_tryAll_63 : decode cX6_tryAll 63 = .ok (.if_icmp .ge 19, 3) := by decide +kernel
theorem dX6_tryAll_66 : decode cX6_tryAll 66 = .ok (.aload_n 0, 1) := by decide +kernel
theorem dX6_tryAll_67 : decode cX6_tryAll 67 = .ok (.aload_n 0, 1) := by decide +kernel
theorem dX6_tryAll_68 : decode cX6_tryAll 68 = .ok (.getfield 55, 3) := by decide +kernel
theorem dX6_tryAll_71 : decode cX6_tryAll 71 = .ok (.iload_n 1, 1) := by decide +kernel
theorem dX6_tryAll_72 : decode cX6_tryAll 72 = .ok (.iaload, 1) := by decide +kernel
theorem dX6_tryAll_73 : decode cX6_tryAll 73 = .ok (.invokevirtual 188, 3) := by decide +kernel
theorem dX6_tryAll_76 : decode cX6_tryAll 76 = .ok (.iinc 1 1, 3) := by decide +kernel
theorem dX6_tryAll_79 : decode cX6_tryAll 79 = .ok (.goto (-21), 3) := by decide +kernel
theorem dX6_tryAll_82 : decode cX6_tryAll 82 = .ok (.return_, 1) := by decide +kernel
theorem dX6_begin_0 : decode cX6_begin 0 = .ok (.aload_n 0, 1) := by decide +kernel
theorem dX6_begin_1 : decode cX6_begin 1 = .ok (.iconst 1, 1) := by decide +kernel
theorem dX6_begin_2 : decode cX6_begin 2 = .ok (.putfield 95, 3) := by decide +kernel
theorem dX6_begin_5 : decode cX6_begin 5 = .ok (.iconst 0, 1) := by decide +kernel
theorem dX6_begin_6 : decode cX6_begin 6 = .ok (.istore_n 1, 1) := by decide +kernel
theorem dX6_begin_7 : decode cX6_begin 7 = .ok (.iload_n 1, 1) := by decide +kernel
theorem dX6_begin_8 : decode cX6_begin 8 = .ok (.aload_n 0, 1) := by decide +kernel
theorem dX6_begin_9 : decode cX6_begin 9 = .ok (.getfield 88, 3) := by decide +kernel
theorem dX6_begin_12 : decode cX6_begin 12 = .ok (.if_icmp .ge 23, 3) := by decide +kernel
theorem dX6_begin_15 : decode cX6_begin 15 = .ok (.aload_n 0, 1) := by decide +kernel
theorem dX6_begin_16 : decode cX6_begin 16 = .ok (.getfield 49, 3) := by decide +kernel
theorem dX6_begin_19 : decode cX6_begin 19 = .ok (.iload_n 1, 1) := by decide +kernel
theorem dX6_begin_20 : decode cX6_begin 20 = .ok (.iconst 0, 1) := by decide +kernel
theorem dX6_begin_21 : decode cX6_begin 21 = .ok (.iastore, 1) := by decide +kernel
theorem dX6_begin_22 : decode cX6_begin 22 = .ok (.aload_n 0, 1) := by decide +kernel
theorem dX6_begin_23 : decode cX6_begin 23 = .ok (.getfield 52, 3) := by decide +kernel
theorem dX6_begin_26 : decode cX6_begin 26 = .ok (.iload_n 1, 1) := by decide +kernel
theorem dX6_begin_27 : decode cX6_begin 27 = .ok (.lconst 0, 1) := by decide +kernel
theorem dX6_begin_28 : decode cX6_begin 28 = .ok (.lastore, 1) := by decide +kernel
theorem dX6_begin_29 : decode cX6_begin 29 = .ok (.iinc 1 1, 3) := by decide +kernel
theorem dX6_begin_32 : decode cX6_begin 32 = .ok (.goto (-25), 3) := by decide +kernel
theorem dX6_begin_35 : decode cX6_begin 35 = .ok (.return_, 1) := by decide +kernel
theorem dX6_play_0 : decode cX6_play 0 = .ok (.aload_n 0, 1) := by decide +kernel
theorem dX6_play_1 : decode cX6_play 1 = .ok (.invokevirtual 191, 3) := by decide +kernel
theorem dX6_play_4 : decode cX6_play 4 = .ok (.ifCond .ne 6, 3) := by decide +kernel
theorem dX6_play_7 : decode cX6_play 7 = .ok (.bipush (-4), 2) := by decide +kernel
theorem dX6_play_9 : decode cX6_play 9 = .ok (.ireturn, 1) := by decide +kernel
theorem dX6_play_10 : decode cX6_play 10 = .ok (.iconst 0, 1) := by decide +kernel
theorem dX6_play_11 : decode cX6_play 11 = .ok (.istore_n 1, 1) := by decide +kernel
theorem dX6_play_12 : decode cX6_play 12 = .ok (.iload_n 1, 1) := by decide +kernel
theorem dX6_play_13 : decode cX6_play 13 = .ok (.aload_n 0, 1) := by decide +kernel
theorem dX6_play_14 : decode cX6_play 14 = .ok (.getfield 42, 3) := by decide +kernel
theorem dX6_play_17 : decode cX6_play 17 = .ok (.if_icmp .ge 21, 3) := by decide +kernel
theorem dX6_play_20 : decode cX6_play 20 = .ok (.aload_n 0, 1) := by decide +kernel
theorem dX6_play_21 : decode cX6_play 21 = .ok (.getfield 55, 3) := by decide +kernel
theorem dX6_play_24 : decode cX6_play 24 = .ok (.iload_n 1, 1) := by decide +kernel
theorem dX6_play_25 : decode cX6_play 25 = .ok (.aload_n 0, 1) := by decide +kernel
theorem dX6_play_26 : decode cX6_play 26 = .ok (.getfield 46, 3) := by decide +kernel
theorem dX6_play_29 : decode cX6_play 29 = .ok (.iload_n 1, 1) := by decide +kernel
theorem dX6_play_30 : decode cX6_play 30 = .ok (.iaload, 1) := by decide +kernel
theorem dX6_play_31 : decode cX6_play 31 = .ok (.iastore, 1) := by decide +kernel
theorem dX6_play_32 : decode cX6_play 32 = .ok (.iinc 1 1, 3) := by decide +kernel
theorem dX6_play_35 : decode cX6_play 35 = .ok (.goto (-23), 3) := by decide +kernel
theorem dX6_play_38 : decode cX6_play 38 = .ok (.aload_n 0, 1) := by decide +kernel
theorem dX6_play_39 : decode cX6_play 39 = .ok (.invokevirtual 194, 3) := by decide +kernel
theorem dX6_play_42 : decode cX6_play 42 = .ok (.aload_n 0, 1) := by decide +kernel
theorem dX6_play_43 : decode cX6_play 43 = .ok (.invokevirtual 197, 3) := by decide +kernel
theorem dX6_play_46 : decode cX6_play 46 = .ok (.iconst 0, 1) := by decide +kernel
theorem dX6_play_47 : decode cX6_play 47 = .ok (.istore_n 1, 1) := by decide +kernel
theorem dX6_play_48 : decode cX6_play 48 = .ok (.iconst 0, 1) := by decide +kernel
theorem dX6_play_49 : decode cX6_play 49 = .ok (.istore_n 2, 1) := by decide +kernel
theorem dX6_play_50 : decode cX6_play 50 = .ok (.iload_n 2, 1) := by decide +kernel
theorem dX6_play_51 : decode cX6_play 51 = .ok (.aload_n 0, 1) := by decide +kernel
theorem dX6_play_52 : decode cX6_play 52 = .ok (.getfield 42, 3) := by decide +kernel
theorem dX6_play_55 : decode cX6_play 55 = .ok (.if_icmp .ge 57, 3) := by decide +kernel
theorem dX6_play_58 : decode cX6_play 58 = .ok (.aload_n 0, 1) := by decide +kernel
theorem dX6_play_59 : decode cX6_play 59 = .ok (.getfield 46, 3) := by decide +kernel
theorem dX6_play_62 : decode cX6_play 62 = .ok (.iload_n 2, 1) := by decide +kernel
theorem dX6_play_63 : decode cX6_play 63 = .ok (.iaload, 1) := by decide +kernel
theorem dX6_play_64 : decode cX6_play 64 = .ok (.istore_n 3, 1) := by decide +kernel
theorem dX6_play_65 : decode cX6_play 65 = .ok (.aload_n 0, 1) := by decide +kernel
theorem dX6_play_66 : decode cX6_play 66 = .ok (.getfield 49, 3) := by decide +kernel
theorem dX6_play_69 : decode cX6_play 69 = .ok (.iload_n 3, 1) := by decide +kernel
theorem dX6_play_70 : decode cX6_play 70 = .ok (.aload_n 0, 1) := by decide +kernel
theorem dX6_play_71 : decode cX6_play 71 = .ok (.getfield 64, 3) := by decide +kernel
theorem dX6_play_74 : decode cX6_play 74 = .ok (.iload_n 3, 1) := by decide +kernel
theorem dX6_play_75 : decode cX6_play 75 = .ok (.iaload, 1) := by decide +kernel
theorem dX6_play_76 : decode cX6_play 76 = .ok (.iastore, 1) := by decide +kernel
theorem dX6_play_77 : decode cX6_play 77 = .ok (.aload_n 0, 1) := by decide +kernel
theorem dX6_play_78 : decode cX6_play 78 = .ok (.getfield 52, 3) := by decide +kernel
theorem dX6_play_81 : decode cX6_play 81 = .ok (.iload_n 3, 1) := by decide +kernel
theorem dX6_play_82 : decode cX6_play 82 = .ok (.aload_n 0, 1) := by decide +kernel
theorem dX6_play_83 : decode cX6_play 83 = .ok (.getfield 67, 3) := by decide +kernel
theorem dX6_play_86 : decode cX6_play 86 = .ok (.iload_n 3, 1) := by decide +kernel
theorem dX6_play_87 : decode cX6_play 87 = .ok (.laload, 1) := by decide +kernel
theorem dX6_play_88 : decode cX6_play 88 = .ok (.lastore, 1) := by decide +kernel
theorem dX6_play_89 : decode cX6_play 89 = .ok (.iload_n 1, 1) := by decide +kernel
theorem dX6_play_90 : decode cX6_play 90 = .ok (.aload_n 0, 1) := by decide +kernel
theorem dX6_play_91 : decode cX6_play 91 = .ok (.getfield 49, 3) := by decide +kernel
theorem dX6_play_94 : decode cX6_play 94 = .ok (.iload_n 3, 1) := by decide +kernel
theorem dX6_play_95 : decode cX6_play 95 = .ok (.iaload, 1) := by decide +kernel
theorem dX6_play_96 : decode cX6_play 96 = .ok (.ifCond .le 7, 3) := by decide +kernel
theorem dX6_play_99 : decode cX6_play 99 = .ok (.iconst 1, 1) := by decide +kernel
theorem dX6_play_100 : decode cX6_play 100 = .ok (.goto 4, 3) := by decide +kernel
theorem dX6_play_103 : decode cX6_play 103 = .ok (.iconst 0, 1) := by decide +kernel
theorem dX6_play_104 : decode cX6_play 104 = .ok (.iadd, 1) := by decide +kernel
theorem dX6_play_105 : decode cX6_play 105 = .ok (.istore_n 1, 1) := by decide +kernel
theorem dX6_play_106 : decode cX6_play 106 = .ok (.iinc 2 1, 3) := by decide +kernel
theorem dX6_play_109 : decode cX6_play 109 = .ok (.goto (-59), 3) := by decide +kernel
theorem dX6_play_112 : decode cX6_play 112 = .ok (.iconst 0, 1) := by decide +kernel
theorem dX6_play_113 : decode cX6_play 113 = .ok (.istore_n 2, 1) := by decide +kernel
theorem dX6_play_114 : decode cX6_play 114 = .ok (.iload_n 2, 1) := by decide +kernel
theorem dX6_play_115 : decode cX6_play 115 = .ok (.aload_n 0, 1) := by decide +kernel
theorem dX6_play_116 : decode cX6_play 116 = .ok (.getfield 102, 3) := by decide +kernel
theorem dX6_play_119 : decode cX6_play 119 = .ok (.if_icmp .ge 33, 3) := by decide +kernel
theorem dX6_play_122 : decode cX6_play 122 = .ok (.aload_n 0, 1) := by decide +kernel
theorem dX6_play_123 : decode cX6_play 123 = .ok (.getfield 7, 3) := by decide +kernel
theorem dX6_play_126 : decode cX6_play 126 = .ok (.iload_n 2, 1) := by decide +kernel
theorem dX6_play_127 : decode cX6_play 127 = .ok (.aload_n 0, 1) := by decide +kernel
theorem dX6_play_128 : decode cX6_play 128 = .ok (.getfield 58, 3) := by decide +kernel
theorem dX6_play_131 : decode cX6_play 131 = .ok (.iload_n 2, 1) := by decide +kernel
theorem dX6_play_132 : decode cX6_play 132 = .ok (.laload, 1) := by decide +kernel
theorem dX6_play_133 : decode cX6_play 133 = .ok (.lastore, 1) := by decide +kernel
theorem dX6_play_134 : decode cX6_play 134 = .ok (.aload_n 0, 1) := by decide +kernel
theorem dX6_play_135 : decode cX6_play 135 = .ok (.getfield 13, 3) := by decide +kernel
theorem dX6_play_138 : decode cX6_play 138 = .ok (.iload_n 2, 1) := by decide +kernel
theorem dX6_play_139 : decode cX6_play 139 = .ok (.aload_n 0, 1) := by decide +kernel
theorem dX6_play_140 : decode cX6_play 140 = .ok (.getfield 61, 3) := by decide +kernel
theorem dX6_play_143 : decode cX6_play 143 = .ok (.iload_n 2, 1) := by decide +kernel
theorem dX6_play_144 : decode cX6_play 144 = .ok (.laload, 1) := by decide +kernel
theorem dX6_play_145 : decode cX6_play 145 = .ok (.lastore, 1) := by decide +kernel
theorem dX6_play_146 : decode cX6_play 146 = .ok (.iinc 2 1, 3) := by decide +kernel
theorem dX6_play_149 : decode cX6_play 149 = .ok (.goto (-35), 3) := by decide +kernel
theorem dX6_play_152 : decode cX6_play 152 = .ok (.aload_n 0, 1) := by decide +kernel
theorem dX6_play_153 : decode cX6_play 153 = .ok (.aload_n 0, 1) := by decide +kernel
theorem dX6_play_154 : decode cX6_play 154 = .ok (.getfield 182, 3) := by decide +kernel
theorem dX6_play_157 : decode cX6_play 157 = .ok (.putfield 105, 3) := by decide +kernel
theorem dX6_play_160 : decode cX6_play 160 = .ok (.aload_n 0, 1) := by decide +kernel
theorem dX6_play_161 : decode cX6_play 161 = .ok (.aload_n 0, 1) := by decide +kernel
theorem dX6_play_162 : decode cX6_play 162 = .ok (.getfield 185, 3) := by decide +kernel
theorem dX6_play_165 : decode cX6_play 165 = .ok (.putfield 109, 3) := by decide +kernel
theorem dX6_play_168 : decode cX6_play 168 = .ok (.iload_n 1, 1) := by decide +kernel
theorem dX6_play_169 : decode cX6_play 169 = .ok (.ireturn, 1) := by decide +kernel
theorem dX6_market_0 : decode cX6_market 0 = .ok (.iconst 0, 1) := by decide +kernel
theorem dX6_market_1 : decode cX6_market 1 = .ok (.istore_n 2, 1) := by decide +kernel
theorem dX6_market_2 : decode cX6_market 2 = .ok (.iload_n 2, 1) := by decide +kernel
theorem dX6_market_3 : decode cX6_market 3 = .ok (.bipush 8, 2) := by decide +kernel
theorem dX6_market_5 : decode cX6_market 5 = .ok (.if_icmp .ge 23, 3) := by decide +kernel
theorem dX6_market_8 : decode cX6_market 8 = .ok (.aload_n 0, 1) := by decide +kernel
theorem dX6_market_9 : decode cX6_market 9 = .ok (.getfield 82, 3) := by decide +kernel
theorem dX6_market_12 : decode cX6_market 12 = .ok (.iload_n 2, 1) := by decide +kernel
theorem dX6_market_13 : decode cX6_market 13 = .ok (.lconst 0, 1) := by decide +kernel
theorem dX6_market_14 : decode cX6_market 14 = .ok (.lastore, 1) := by decide +kernel
theorem dX6_market_15 : decode cX6_market 15 = .ok (.aload_n 0, 1) := by decide +kernel
theorem dX6_market_16 : decode cX6_market 16 = .ok (.getfield 85, 3) := by decide +kernel
theorem dX6_market_19 : decode cX6_market 19 = .ok (.iload_n 2, 1) := by decide +kernel
theorem dX6_market_20 : decode cX6_market 20 = .ok (.lconst 0, 1) := by decide +kernel
theorem dX6_market_21 : decode cX6_market 21 = .ok (.lastore, 1) := by decide +kernel
theorem dX6_market_22 : decode cX6_market 22 = .ok (.iinc 2 1, 3) := by decide +kernel
theorem dX6_market_25 : decode cX6_market 25 = .ok (.goto (-23), 3) := by decide +kernel
theorem dX6_market_28 : decode cX6_market 28 = .ok (.aload_n 0, 1) := by decide +kernel
theorem dX6_market_29 : decode cX6_market 29 = .ok (.lconst 0, 1) := by decide +kernel
theorem dX6_market_30 : decode cX6_market 30 = .ok (.putfield 200, 3) := by decide +kernel
theorem dX6_market_33 : decode cX6_market 33 = .ok (.aload_n 0, 1) := by decide +kernel
theorem dX6_market_34 : decode cX6_market 34 = .ok (.lconst 0, 1) := by decide +kernel
theorem dX6_market_35 : decode cX6_market 35 = .ok (.putfield 203, 3) := by decide +kernel
theorem dX6_market_38 : decode cX6_market 38 = .ok (.iconst 0, 1) := by decide +kernel
theorem dX6_market_39 : decode cX6_market 39 = .ok (.istore_n 2, 1) := by decide +kernel
theorem dX6_market_40 : decode cX6_market 40 = .ok (.iload_n 2, 1) := by decide +kernel
theorem dX6_market_41 : decode cX6_market 41 = .ok (.aload_n 0, 1) := by decide +kernel
theorem dX6_market_42 : decode cX6_market 42 = .ok (.getfield 42, 3) := by decide +kernel
theorem dX6_market_45 : decode cX6_market 45 = .ok (.if_icmp .ge 251, 3) := by decide +kernel
theorem dX6_market_48 : decode cX6_market 48 = .ok (.aload_n 0, 1) := by decide +kernel
theorem dX6_market_49 : decode cX6_market 49 = .ok (.getfield 46, 3) := by decide +kernel
theorem dX6_market_52 : decode cX6_market 52 = .ok (.iload_n 2, 1) := by decide +kernel
theorem dX6_market_53 : decode cX6_market 53 = .ok (.iaload, 1) := by decide +kernel
theorem dX6_market_54 : decode cX6_market 54 = .ok (.istore_n 3, 1) := by decide +kernel
theorem dX6_market_55 : decode cX6_market 55 = .ok (.aload_n 0, 1) := by decide +kernel
theorem dX6_market_56 : decode cX6_market 56 = .ok (.getfield 16, 3) := by decide +kernel
theorem dX6_market_59 : decode cX6_market 59 = .ok (.iload_n 3, 1) := by decide +kernel
theorem dX6_market_60 : decode cX6_market 60 = .ok (.iaload, 1) := by decide +kernel
theorem dX6_market_61 : decode cX6_market 61 = .ok (.istore 4, 2) := by decide +kernel
theorem dX6_market_63 : decode cX6_market 63 = .ok (.aload_n 0, 1) := by decide +kernel
theorem dX6_market_64 : decode cX6_market 64 = .ok (.getfield 30, 3) := by decide +kernel
theorem dX6_market_67 : decode cX6_market 67 = .ok (.iload_n 3, 1) := by decide +kernel
theorem dX6_market_68 : decode cX6_market 68 = .ok (.iaload, 1) := by decide +kernel
theorem dX6_market_69 : decode cX6_market 69 = .ok (.ifCond .ne 115, 3) := by decide +kernel
theorem dX6_market_72 : decode cX6_market 72 = .ok (.aload_n 0, 1) := by decide +kernel
theorem dX6_market_73 : decode cX6_market 73 = .ok (.getfield 79, 3) := by decide +kernel
theorem dX6_market_76 : decode cX6_market 76 = .ok (.iload_n 3, 1) := by decide +kernel
theorem dX6_market_77 : decode cX6_market 77 = .ok (.aload_n 0, 1) := by decide +kernel
theorem dX6_market_78 : decode cX6_market 78 = .ok (.getfield 33, 3) := by decide +kernel
theorem dX6_market_81 : decode cX6_market 81 = .ok (.iload_n 3, 1) := by decide +kernel
theorem dX6_market_82 : decode cX6_market 82 = .ok (.iaload, 1) := by decide +kernel
theorem dX6_market_83 : decode cX6_market 83 = .ok (.iload_n 1, 1) := by decide +kernel
theorem dX6_market_84 : decode cX6_market 84 = .ok (.if_icmp .lt 36, 3) := by decide +kernel
theorem dX6_market_87 : decode cX6_market 87 = .ok (.aload_n 0, 1) := by decide +kernel
theorem dX6_market_88 : decode cX6_market 88 = .ok (.getfield 82, 3) := by decide +kernel
theorem dX6_market_91 : decode cX6_market 91 = .ok (.iload 4, 2) := by decide +kernel
theorem dX6_market_93 : decode cX6_market 93 = .ok (.laload, 1) := by decide +kernel
theorem dX6_market_94 : decode cX6_market 94 = .ok (.aload_n 0, 1) := by decide +kernel
theorem dX6_market_95 : decode cX6_market 95 = .ok (.getfield 36, 3) := by decide +kernel
theorem dX6_market_98 : decode cX6_market 98 = .ok (.iload_n 3, 1) := by decide +kernel
theorem dX6_market_99 : decode cX6_market 99 = .ok (.iaload, 1) := by decide +kernel
theorem dX6_market_100 : decode cX6_market 100 = .ok (.i2l, 1) := by decide +kernel
theorem dX6_market_101 : decode cX6_market 101 = .ok (.ladd, 1) := by decide +kernel
theorem dX6_market_102 : decode cX6_market 102 = .ok (.iload_n 1, 1) := by decide +kernel
theorem dX6_market_103 : decode cX6_market 103 = .ok (.i2l, 1) := by decide +kernel
theorem dX6_market_104 : decode cX6_market 104 = .ok (.lmul, 1) := by decide +kernel
theorem dX6_market_105 : decode cX6_market 105 = .ok (.aload_n 0, 1) := by decide +kernel
theorem dX6_market_106 : decode cX6_market 106 = .ok (.getfield 7, 3) := by decide +kernel
theorem dX6_market_109 : decode cX6_market 109 = .ok (.iload 4, 2) := by decide +kernel
theorem dX6_market_111 : decode cX6_market 111 = .ok (.laload, 1) := by decide +kernel
theorem dX6_market_112 : decode cX6_market 112 = .ok (.lcmp, 1) := by decide +kernel
theorem dX6_market_113 : decode cX6_market 113 = .ok (.ifCond .gt 7, 3) := by decide +kernel
theorem dX6_market_116 : decode cX6_market 116 = .ok (.iconst 1, 1) := by decide +kernel
theorem dX6_market_117 : decode cX6_market 117 = .ok (.goto 4, 3) := by decide +kernel
theorem dX6_market_120 : decode cX6_market 120 = .ok (.iconst 0, 1) := by decide +kernel
theorem dX6_market_121 : decode cX6_market 121 = .ok (.bastore, 1) := by decide +kernel
theorem dX6_market_122 : decode cX6_market 122 = .ok (.aload_n 0, 1) := by decide +kernel
theorem dX6_market_123 : decode cX6_market 123 = .ok (.getfield 82, 3) := by decide +kernel
theorem dX6_market_126 : decode cX6_market 126 = .ok (.iload 4, 2) := by decide +kernel
theorem dX6_market_128 : decode cX6_market 128 = .ok (.dup2, 1) := by decide +kernel
theorem dX6_market_129 : decode cX6_market 129 = .ok (.laload, 1) := by decide +kernel
theorem dX6_market_130 : decode cX6_market 130 = .ok (.aload_n 0, 1) := by decide +kernel
theorem dX6_market_131 : decode cX6_market 131 = .ok (.getfield 79, 3) := by decide +kernel
theorem dX6_market_134 : decode cX6_market 134 = .ok (.iload_n 3, 1) := by decide +kernel
theorem dX6_market_135 : decode cX6_market 135 = .ok (.baload, 1) := by decide +kernel
theorem dX6_market_136 : decode cX6_market 136 = .ok (.ifCond .eq 13, 3) := by decide +kernel
theorem dX6_market_139 : decode cX6_market 139 = .ok (.aload_n 0, 1) := by decide +kernel
theorem dX6_market_140 : decode cX6_market 140 = .ok (.getfield 36, 3) := by decide +kernel
theorem dX6_market_143 : decode cX6_market 143 = .ok (.iload_n 3, 1) := by decide +kernel
theorem dX6_market_144 : decode cX6_market 144 = .ok (.iaload, 1) := by decide +kernel
theorem dX6_market_145 : decode cX6_market 145 = .ok (.i2l, 1) := by decide +kernel
theorem dX6_market_146 : decode cX6_market 146 = .ok (.goto 4, 3) := by decide +kernel
theorem dX6_market_149 : decode cX6_market 149 = .ok (.lconst 0, 1) := by decide +kernel
theorem dX6_market_150 : decode cX6_market 150 = .ok (.ladd, 1) := by decide +kernel
theorem dX6_market_151 : decode cX6_market 151 = .ok (.lastore, 1) := by decide +kernel
theorem dX6_market_152 : decode cX6_market 152 = .ok (.aload_n 0, 1) := by decide +kernel
theorem dX6_market_153 : decode cX6_market 153 = .ok (.dup, 1) := by decide +kernel
theorem dX6_market_154 : decode cX6_market 154 = .ok (.getfield 200, 3) := by decide +kernel
theorem dX6_market_157 : decode cX6_market 157 = .ok (.aload_n 0, 1) := by decide +kernel
theorem dX6_market_158 : decode cX6_market 158 = .ok (.getfield 79, 3) := by decide +kernel
theorem dX6_market_161 : decode cX6_market 161 = .ok (.iload_n 3, 1) := by decide +kernel
theorem dX6_market_162 : decode cX6_market 162 = .ok (.baload, 1) := by decide +kernel
theorem dX6_market_163 : decode cX6_market 163 = .ok (.ifCond .eq 13, 3) := by decide +kernel
theorem dX6_market_166 : decode cX6_market 166 = .ok (.aload_n 0, 1) := by decide +kernel
theorem dX6_market_167 : decode cX6_market 167 = .ok (.getfield 36, 3) := by decide +kernel
theorem dX6_market_170 : decode cX6_market 170 = .ok (.iload_n 3, 1) := by decide +kernel
theorem dX6_market_171 : decode cX6_market 171 = .ok (.iaload, 1) := by decide +kernel
theorem dX6_market_172 : decode cX6_market 172 = .ok (.i2l, 1) := by decide +kernel
theorem dX6_market_173 : decode cX6_market 173 = .ok (.goto 4, 3) := by decide +kernel
theorem dX6_market_176 : decode cX6_market 176 = .ok (.lconst 0, 1) := by decide +kernel
theorem dX6_market_177 : decode cX6_market 177 = .ok (.ladd, 1) := by decide +kernel
theorem dX6_market_178 : decode cX6_market 178 = .ok (.putfield 200, 3) := by decide +kernel
theorem dX6_market_181 : decode cX6_market 181 = .ok (.goto 109, 3) := by decide +kernel
theorem dX6_market_184 : decode cX6_market 184 = .ok (.aload_n 0, 1) := by decide +kernel
theorem dX6_market_185 : decode cX6_market 185 = .ok (.getfield 79, 3) := by decide +kernel
theorem dX6_market_188 : decode cX6_market 188 = .ok (.iload_n 3, 1) := by decide +kernel
theorem dX6_market_189 : decode cX6_market 189 = .ok (.aload_n 0, 1) := by decide +kernel
theorem dX6_market_190 : decode cX6_market 190 = .ok (.getfield 33, 3) := by decide +kernel
theorem dX6_market_193 : decode cX6_market 193 = .ok (.iload_n 3, 1) := by decide +kernel
theorem dX6_market_194 : decode cX6_market 194 = .ok (.iaload, 1) := by decide +kernel
theorem dX6_market_195 : decode cX6_market 195 = .ok (.iload_n 1, 1) := by decide +kernel
theorem dX6_market_196 : decode cX6_market 196 = .ok (.if_icmp .gt 33, 3) := by decide +kernel
theorem dX6_market_199 : decode cX6_market 199 = .ok (.aload_n 0, 1) := by decide +kernel
theorem dX6_market_200 : decode cX6_market 200 = .ok (.getfield 85, 3) := by decide +kernel
theorem dX6_market_203 : decode cX6_market 203 = .ok (.iload 4, 2) := by decide +kernel
theorem dX6_market_205 : decode cX6_market 205 = .ok (.laload, 1) := by decide +kernel
theorem dX6_market_206 : decode cX6_market 206 = .ok (.aload_n 0, 1) := by decide +kernel
theorem dX6_market_207 : decode cX6_market 207 = .ok (.getfield 36, 3) := by decide +kernel
theorem dX6_market_210 : decode cX6_market 210 = .ok (.iload_n 3, 1) := by decide +kernel
theorem dX6_market_211 : decode cX6_market 211 = .ok (.iaload, 1) := by decide +kernel
theorem dX6_market_212 : decode cX6_market 212 = .ok (.i2l, 1) := by decide +kernel
theorem dX6_market_213 : decode cX6_market 213 = .ok (.ladd, 1) := by decide +kernel
theorem dX6_market_214 : decode cX6_market 214 = .ok (.aload_n 0, 1) := by decide +kernel
theorem dX6_market_215 : decode cX6_market 215 = .ok (.getfield 13, 3) := by decide +kernel
theorem dX6_market_218 : decode cX6_market 218 = .ok (.iload 4, 2) := by decide +kernel
theorem dX6_market_220 : decode cX6_market 220 = .ok (.laload, 1) := by decide +kernel
theorem dX6_market_221 : decode cX6_market 221 = .ok (.lcmp, 1) := by decide +kernel
theorem dX6_market_222 : decode cX6_market 222 = .ok (.ifCond .gt 7, 3) := by decide +kernel
theorem dX6_market_225 : decode cX6_market 225 = .ok (.iconst 1, 1) := by decide +kernel
theorem dX6_market_226 : decode cX6_market 226 = .ok (.goto 4, 3) := by decide +kernel
theorem dX6_market_229 : decode cX6_market 229 = .ok (.iconst 0, 1) := by decide +kernel
theorem dX6_market_230 : decode cX6_market 230 = .ok (.bastore, 1) := by decide +kernel
theorem dX6_market_231 : decode cX6_market 231 = .ok (.aload_n 0, 1) := by decide +kernel
theorem dX6_market_232 : decode cX6_market 232 = .ok (.getfield 85, 3) := by decide +kernel
theorem dX6_market_235 : decode cX6_market 235 = .ok (.iload 4, 2) := by decide +kernel
theorem dX6_market_237 : decode cX6_market 237 = .ok (.dup2, 1) := by decide +kernel
theorem dX6_market_238 : decode cX6_market 238 = .ok (.laload, 1) := by decide +kernel
theorem dX6_market_239 : decode cX6_market 239 = .ok (.aload_n 0, 1) := by decide +kernel
theorem dX6_market_240 : decode cX6_market 240 = .ok (.getfield 79, 3) := by decide +kernel
theorem dX6_market_243 : decode cX6_market 243 = .ok (.iload_n 3, 1) := by decide +kernel
theorem dX6_market_244 : decode cX6_market 244 = .ok (.baload, 1) := by decide +kernel
theorem dX6_market_245 : decode cX6_market 245 = .ok (.ifCond .eq 13, 3) := by decide +kernel
theorem dX6_market_248 : decode cX6_market 248 = .ok (.aload_n 0, 1) := by decide +kernel
theorem dX6_market_249 : decode cX6_market 249 = .ok (.getfield 36, 3) := by decide +kernel
theorem dX6_market_252 : decode cX6_market 252 = .ok (.iload_n 3, 1) := by decide +kernel
theorem dX6_market_253 : decode cX6_market 253 = .ok (.iaload, 1) := by decide +kernel
theorem dX6_market_254 : decode cX6_market 254 = .ok (.i2l, 1) := by decide +kernel
theorem dX6_market_255 : decode cX6_market 255 = .ok (.goto 4, 3) := by decide +kernel
theorem dX6_market_258 : decode cX6_market 258 = .ok (.lconst 0, 1) := by decide +kernel
theorem dX6_market_259 : decode cX6_market 259 = .ok (.ladd, 1) := by decide +kernel
theorem dX6_market_260 : decode cX6_market 260 = .ok (.lastore, 1) := by decide +kernel
theorem dX6_market_261 : decode cX6_market 261 = .ok (.aload_n 0, 1) := by decide +kernel
theorem dX6_market_262 : decode cX6_market 262 = .ok (.dup, 1) := by decide +kernel
theorem dX6_market_263 : decode cX6_market 263 = .ok (.getfield 203, 3) := by decide +kernel
theorem dX6_market_266 : decode cX6_market 266 = .ok (.aload_n 0, 1) := by decide +kernel
theorem dX6_market_267 : decode cX6_market 267 = .ok (.getfield 79, 3) := by decide +kernel
theorem dX6_market_270 : decode cX6_market 270 = .ok (.iload_n 3, 1) := by decide +kernel
theorem dX6_market_271 : decode cX6_market 271 = .ok (.baload, 1) := by decide +kernel
theorem dX6_market_272 : decode cX6_market 272 = .ok (.ifCond .eq 13, 3) := by decide +kernel
theorem dX6_market_275 : decode cX6_market 275 = .ok (.aload_n 0, 1) := by decide +kernel
theorem dX6_market_276 : decode cX6_market 276 = .ok (.getfield 36, 3) := by decide +kernel
theorem dX6_market_279 : decode cX6_market 279 = .ok (.iload_n 3, 1) := by decide +kernel
theorem dX6_market_280 : decode cX6_market 280 = .ok (.iaload, 1) := by decide +kernel
theorem dX6_market_281 : decode cX6_market 281 = .ok (.i2l, 1) := by decide +kernel
theorem dX6_market_282 : decode cX6_market 282 = .ok (.goto 4, 3) := by decide +kernel
theorem dX6_market_285 : decode cX6_market 285 = .ok (.lconst 0, 1) := by decide +kernel
theorem dX6_market_286 : decode cX6_market 286 = .ok (.ladd, 1) := by decide +kernel
theorem dX6_market_287 : decode cX6_market 287 = .ok (.putfield 203, 3) := by decide +kernel
theorem dX6_market_290 : decode cX6_market 290 = .ok (.iinc 2 1, 3) := by decide +kernel
theorem dX6_market_293 : decode cX6_market 293 = .ok (.goto (-253), 3) := by decide +kernel
theorem dX6_market_296 : decode cX6_market 296 = .ok (.aload_n 0, 1) := by decide +kernel
theorem dX6_market_297 : decode cX6_market 297 = .ok (.getfield 200, 3) := by decide +kernel
theorem dX6_market_300 : decode cX6_market 300 = .ok (.aload_n 0, 1) := by decide +kernel
theorem dX6_market_301 : decode cX6_market 301 = .ok (.getfield 203, 3) := by decide +kernel
theorem dX6_market_304 : decode cX6_market 304 = .ok (.lcmp, 1) := by decide +kernel
theorem dX6_market_305 : decode cX6_market 305 = .ok (.ifCond .ge 10, 3) := by decide +kernel
theorem dX6_market_308 : decode cX6_market 308 = .ok (.aload_n 0, 1) := by decide +kernel
theorem dX6_market_309 : decode cX6_market 309 = .ok (.getfield 200, 3) := by decide +kernel
theorem dX6_market_312 : decode cX6_market 312 = .ok (.goto 7, 3) := by decide +kernel
theorem dX6_market_315 : decode cX6_market 315 = .ok (.aload_n 0, 1) := by decide +kernel
theorem dX6_market_316 : decode cX6_market 316 = .ok (.getfield 203, 3) := by decide +kernel
theorem dX6_market_319 : decode cX6_market 319 = .ok (.lreturn, 1) := by decide +kernel
theorem dX6_batch_0 : decode cX6_batch 0 = .ok (.aload_n 0, 1) := by decide +kernel
theorem dX6_batch_1 : decode cX6_batch 1 = .ok (.invokevirtual 191, 3) := by decide +kernel
theorem dX6_batch_4 : decode cX6_batch 4 = .ok (.ifCond .ne 6, 3) := by decide +kernel
theorem dX6_batch_7 : decode cX6_batch 7 = .ok (.bipush (-4), 2) := by decide +kernel
theorem dX6_batch_9 : decode cX6_batch 9 = .ok (.ireturn, 1) := by decide +kernel
theorem dX6_batch_10 : decode cX6_batch 10 = .ok (.iconst (-1), 1) := by decide +kernel
theorem dX6_batch_11 : decode cX6_batch 11 = .ok (.istore_n 1, 1) := by decide +kernel
theorem dX6_batch_12 : decode cX6_batch 12 = .ok (.lconst 0, 1) := by decide +kernel
theorem dX6_batch_13 : decode cX6_batch 13 = .ok (.lstore_n 2, 1) := by decide +kernel
theorem dX6_batch_14 : decode cX6_batch 14 = .ok (.iconst 1, 1) := by decide +kernel
theorem dX6_batch_15 : decode cX6_batch 15 = .ok (.istore 4, 2) := by decide +kernel
theorem dX6_batch_17 : decode cX6_batch 17 = .ok (.iload 4, 2) := by decide +kernel
theorem dX6_batch_19 : decode cX6_batch 19 = .ok (.sipush 1000, 3) := by decide +kernel
theorem dX6_batch_22 : decode cX6_batch 22 = .ok (.if_icmp .gt 45, 3) := by decide +kernel
theorem dX6_batch_25 : decode cX6_batch 25 = .ok (.aload_n 0, 1) := by decide +kernel
theorem dX6_batch_26 : decode cX6_batch 26 = .ok (.iload 4, 2) := by decide +kernel
theorem dX6_batch_28 : decode cX6_batch 28 = .ok (.invokevirtual 206, 3) := by decide +kernel
theorem dX6_batch_31 : decode cX6_batch 31 = .ok (.lstore 5, 2) := by decide +kernel
theorem dX6_batch_33 : decode cX6_batch 33 = .ok (.lload 5, 2) := by decide +kernel
theorem dX6_batch_35 : decode cX6_batch 35 = .ok (.lload_n 2, 1) := by decide +kernel
theorem dX6_batch_36 : decode cX6_batch 36 = .ok (.lcmp, 1) := by decide +kernel
theorem dX6_batch_37 : decode cX6_batch 37 = .ok (.ifCond .le 8, 3) := by decide +kernel
theorem dX6_batch_40 : decode cX6_batch 40 = .ok (.iload 4, 2) := by decide +kernel
theorem dX6_batch_42 : decode cX6_batch 42 = .ok (.goto 4, 3) := by decide +kernel
theorem dX6_batch_45 : decode cX6_batch 45 = .ok (.iload_n 1, 1) := by decide +kernel
theorem dX6_batch_46 : decode cX6_batch 46 = .ok (.istore_n 1, 1) := by decide +kernel
theorem dX6_batch_47 : decode cX6_batch 47 = .ok (.lload 5, 2) := by decide +kernel
theorem dX6_batch_49 : decode cX6_batch 49 = .ok (.lload_n 2, 1) := by decide +kernel
theorem dX6_batch_50 : decode cX6_batch 50 = .ok (.lcmp, 1) := by decide +kernel
theorem dX6_batch_51 : decode cX6_batch 51 = .ok (.ifCond .le 8, 3) := by decide +kernel
theorem dX6_batch_54 : decode cX6_batch 54 = .ok (.lload 5, 2) := by decide +kernel
theorem dX6_batch_56 : decode cX6_batch 56 = .ok (.goto 4, 3) := by decide +kernel
theorem dX6_batch_59 : decode cX6_batch 59 = .ok (.lload_n 2, 1) := by decide +kernel
theorem dX6_batch_60 : decode cX6_batch 60 = .ok (.lstore_n 2, 1) := by decide +kernel
theorem dX6_batch_61 : decode cX6_batch 61 = .ok (.iinc 4 1, 3) := by decide +kernel
theorem dX6_batch_64 : decode cX6_batch 64 = .ok (.goto (-47), 3) := by decide +kernel
theorem dX6_batch_67 : decode cX6_batch 67 = .ok (.aload_n 0, 1) := by decide +kernel
theorem dX6_batch_68 : decode cX6_batch 68 = .ok (.invokevirtual 197, 3) := by decide +kernel
theorem dX6_batch_71 : decode cX6_batch 71 = .ok (.iload_n 1, 1) := by decide +kernel
theorem dX6_batch_72 : decode cX6_batch 72 = .ok (.iconst (-1), 1) := by decide +kernel
theorem dX6_batch_73 : decode cX6_batch 73 = .ok (.if_icmp .ne 5, 3) := by decide +kernel
theorem dX6_batch_76 : decode cX6_batch 76 = .ok (.iconst (-1), 1) := by decide +kernel
theorem dX6_batch_77 : decode cX6_batch 77 = .ok (.ireturn, 1) := by decide +kernel
theorem dX6_batch_78 : decode cX6_batch 78 = .ok (.aload_n 0, 1) := by decide +kernel
theorem dX6_batch_79 : decode cX6_batch 79 = .ok (.iload_n 1, 1) := by decide +kernel
theorem dX6_batch_80 : decode cX6_batch 80 = .ok (.invokevirtual 206, 3) := by decide +kernel
theorem dX6_batch_83 : decode cX6_batch 83 = .ok (.lstore 4, 2) := by decide +kernel
theorem dX6_batch_85 : decode cX6_batch 85 = .ok (.lload 4, 2) := by decide +kernel
theorem dX6_batch_87 : decode cX6_batch 87 = .ok (.lstore 6, 2) := by decide +kernel
theorem dX6_batch_89 : decode cX6_batch 89 = .ok (.lload 4, 2) := by decide +kernel
theorem dX6_batch_91 : decode cX6_batch 91 = .ok (.lstore 8, 2) := by decide +kernel
theorem dX6_batch_93 : decode cX6_batch 93 = .ok (.iconst 0, 1) := by decide +kernel
theorem dX6_batch_94 : decode cX6_batch 94 = .ok (.istore 10, 2) := by decide +kernel
theorem dX6_batch_96 : decode cX6_batch 96 = .ok (.iload 10, 2) := by decide +kernel
theorem dX6_batch_98 : decode cX6_batch 98 = .ok (.aload_n 0, 1) := by decide +kernel
theorem dX6_batch_99 : decode cX6_batch 99 = .ok (.getfield 42, 3) := by decide +kernel
theorem dX6_batch_102 : decode cX6_batch 102 = .ok (.if_icmp .ge 233, 3) := by decide +kernel
theorem dX6_batch_105 : decode cX6_batch 105 = .ok (.aload_n 0, 1) := by decide +kernel
theorem dX6_batch_106 : decode cX6_batch 106 = .ok (.getfield 46, 3) := by decide +kernel
theorem dX6_batch_109 : decode cX6_batch 109 = .ok (.iload 10, 2) := by decide +kernel
theorem dX6_batch_111 : decode cX6_batch 111 = .ok (.iaload, 1) := by decide +kernel
theorem dX6_batch_112 : decode cX6_batch 112 = .ok (.istore 11, 2) := by decide +kernel
theorem dX6_batch_114 : decode cX6_batch 114 = .ok (.aload_n 0, 1) := by decide +kernel
theorem dX6_batch_115 : decode cX6_batch 115 = .ok (.getfield 79, 3) := by decide +kernel
theorem dX6_batch_118 : decode cX6_batch 118 = .ok (.iload 11, 2) := by decide +kernel
theorem dX6_batch_120 : decode cX6_batch 120 = .ok (.baload, 1) := by decide +kernel
theorem dX6_batch_121 : decode cX6_batch 121 = .ok (.ifCond .ne 7, 3) := by decide +kernel
theorem dX6_batch_124 : decode cX6_batch 124 = .ok (.lconst 0, 1) := by decide +kernel
theorem dX6_batch_125 : decode cX6_batch 125 = .ok (.goto 20, 3) := by decide +kernel
theorem dX6_batch_128 : decode cX6_batch 128 = .ok (.aload_n 0, 1) := by decide +kernel
theorem dX6_batch_129 : decode cX6_batch 129 = .ok (.getfield 30, 3) := by decide +kernel
theorem dX6_batch_132 : decode cX6_batch 132 = .ok (.iload 11, 2) := by decide +kernel
theorem dX6_batch_134 : decode cX6_batch 134 = .ok (.iaload, 1) := by decide +kernel
theorem dX6_batch_135 : decode cX6_batch 135 = .ok (.ifCond .ne 8, 3) := by decide +kernel
theorem dX6_batch_138 : decode cX6_batch 138 = .ok (.lload 6, 2) := by decide +kernel
theorem dX6_batch_140 : decode cX6_batch 140 = .ok (.goto 5, 3) := by decide +kernel
theorem dX6_batch_143 : decode cX6_batch 143 = .ok (.lload 8, 2) := by decide +kernel
theorem dX6_batch_145 : decode cX6_batch 145 = .ok (.lstore 12, 2) := by decide +kernel
theorem dX6_batch_147 : decode cX6_batch 147 = .ok (.aload_n 0, 1) := by decide +kernel
theorem dX6_batch_148 : decode cX6_batch 148 = .ok (.getfield 49, 3) := by decide +kernel
theorem dX6_batch_151 : decode cX6_batch 151 = .ok (.iload 11, 2) := by decide +kernel
theorem dX6_batch_153 : decode cX6_batch 153 = .ok (.lload 12, 2) := by decide +kernel
theorem dX6_batch_155 : decode cX6_batch 155 = .ok (.aload_n 0, 1) := by decide +kernel
theorem dX6_batch_156 : decode cX6_batch 156 = .ok (.getfield 36, 3) := by decide +kernel
theorem dX6_batch_159 : decode cX6_batch 159 = .ok (.iload 11, 2) := by decide +kernel
theorem dX6_batch_161 : decode cX6_batch 161 = .ok (.iaload, 1) := by decide +kernel
theorem dX6_batch_162 : decode cX6_batch 162 = .ok (.i2l, 1) := by decide +kernel
theorem dX6_batch_163 : decode cX6_batch 163 = .ok (.lcmp, 1) := by decide +kernel
theorem dX6_batch_164 : decode cX6_batch 164 = .ok (.ifCond .ge 8, 3) := by decide +kernel
theorem dX6_batch_167 : decode cX6_batch 167 = .ok (.lload 12, 2) := by decide +kernel
theorem dX6_batch_169 : decode cX6_batch 169 = .ok (.goto 11, 3) := by decide +kernel
theorem dX6_batch_172 : decode cX6_batch 172 = .ok (.aload_n 0, 1) := by decide +kernel
theorem dX6_batch_173 : decode cX6_batch 173 = .ok (.getfield 36, 3) := by decide +kernel
theorem dX6_batch_176 : decode cX6_batch 176 = .ok (.iload 11, 2) := by decide +kernel
theorem dX6_batch_178 : decode cX6_batch 178 = .ok (.iaload, 1) := by decide +kernel
theorem dX6_batch_179 : decode cX6_batch 179 = .ok (.i2l, 1) := by decide +kernel
theorem dX6_batch_180 : decode cX6_batch 180 = .ok (.l2i, 1) := by decide +kernel
theorem dX6_batch_181 : decode cX6_batch 181 = .ok (.iastore, 1) := by decide +kernel
theorem dX6_batch_182 : decode cX6_batch 182 = .ok (.aload_n 0, 1) := by decide +kernel
theorem dX6_batch_183 : decode cX6_batch 183 = .ok (.getfield 52, 3) := by decide +kernel
theorem dX6_batch_186 : decode cX6_batch 186 = .ok (.iload 11, 2) := by decide +kernel
theorem dX6_batch_188 : decode cX6_batch 188 = .ok (.aload_n 0, 1) := by decide +kernel
theorem dX6_batch_189 : decode cX6_batch 189 = .ok (.getfield 49, 3) := by decide +kernel
theorem dX6_batch_192 : decode cX6_batch 192 = .ok (.iload 11, 2) := by decide +kernel
theorem dX6_batch_194 : decode cX6_batch 194 = .ok (.iaload, 1) := by decide +kernel
theorem dX6_batch_195 : decode cX6_batch 195 = .ok (.i2l, 1) := by decide +kernel
theorem dX6_batch_196 : decode cX6_batch 196 = .ok (.iload_n 1, 1) := by decide +kernel
theorem dX6_batch_197 : decode cX6_batch 197 = .ok (.i2l, 1) := by decide +kernel
theorem dX6_batch_198 : decode cX6_batch 198 = .ok (.lmul, 1) := by decide +kernel
theorem dX6_batch_199 : decode cX6_batch 199 = .ok (.lastore, 1) := by decide +kernel
theorem dX6_batch_200 : decode cX6_batch 200 = .ok (.aload_n 0, 1) := by decide +kernel
theorem dX6_batch_201 : decode cX6_batch 201 = .ok (.getfield 30, 3) := by decide +kernel
theorem dX6_batch_204 : decode cX6_batch 204 = .ok (.iload 11, 2) := by decide +kernel
theorem dX6_batch_206 : decode cX6_batch 206 = .ok (.iaload, 1) := by decide +kernel
theorem dX6_batch_207 : decode cX6_batch 207 = .ok (.ifCond .ne 64, 3) := by decide +kernel
theorem dX6_batch_210 : decode cX6_batch 210 = .ok (.lload 6, 2) := by decide +kernel
theorem dX6_batch_212 : decode cX6_batch 212 = .ok (.aload_n 0, 1) := by decide +kernel
theorem dX6_batch_213 : decode cX6_batch 213 = .ok (.getfield 49, 3) := by decide +kernel
theorem dX6_batch_216 : decode cX6_batch 216 = .ok (.iload 11, 2) := by decide +kernel
theorem dX6_batch_218 : decode cX6_batch 218 = .ok (.iaload, 1) := by decide +kernel
theorem dX6_batch_219 : decode cX6_batch 219 = .ok (.i2l, 1) := by decide +kernel
theorem dX6_batch_220 : decode cX6_batch 220 = .ok (.lsub, 1) := by decide +kernel
theorem dX6_batch_221 : decode cX6_batch 221 = .ok (.lstore 6, 2) := by decide +kernel
theorem dX6_batch_223 : decode cX6_batch 223 = .ok (.aload_n 0, 1) := by decide +kernel
theorem dX6_batch_224 : decode cX6_batch 224 = .ok (.getfield 7, 3) := by decide +kernel
theorem dX6_batch_227 : decode cX6_batch 227 = .ok (.aload_n 0, 1) := by decide +kernel
theorem dX6_batch_228 : decode cX6_batch 228 = .ok (.getfield 16, 3) := by decide +kernel
theorem dX6_batch_231 : decode cX6_batch 231 = .ok (.iload 11, 2) := by decide +kernel
theorem dX6_batch_233 : decode cX6_batch 233 = .ok (.iaload, 1) := by decide +kernel
theorem dX6_batch_234 : decode cX6_batch 234 = .ok (.dup2, 1) := by decide +kernel
theorem dX6_batch_235 : decode cX6_batch 235 = .ok (.laload, 1) := by decide +kernel
theorem dX6_batch_236 : decode cX6_batch 236 = .ok (.aload_n 0, 1) := by decide +kernel
theorem dX6_batch_237 : decode cX6_batch 237 = .ok (.getfield 52, 3) := by decide +kernel
theorem dX6_batch_240 : decode cX6_batch 240 = .ok (.iload 11, 2) := by decide +kernel
theorem dX6_batch_242 : decode cX6_batch 242 = .ok (.laload, 1) := by decide +kernel
theorem dX6_batch_243 : decode cX6_batch 243 = .ok (.lsub, 1) := by decide +kernel
theorem dX6_batch_244 : decode cX6_batch 244 = .ok (.lastore, 1) := by decide +kernel
theorem dX6_batch_245 : decode cX6_batch 245 = .ok (.aload_n 0, 1) := by decide +kernel
theorem dX6_batch_246 : decode cX6_batch 246 = .ok (.getfield 13, 3) := by decide +kernel
theorem dX6_batch_249 : decode cX6_batch 249 = .ok (.aload_n 0, 1) := by decide +kernel
theorem dX6_batch_250 : decode cX6_batch 250 = .ok (.getfield 16, 3) := by decide +kernel
theorem dX6_batch_253 : decode cX6_batch 253 = .ok (.iload 11, 2) := by decide +kernel
theorem dX6_batch_255 : decode cX6_batch 255 = .ok (.iaload, 1) := by decide +kernel
theorem dX6_batch_256 : decode cX6_batch 256 = .ok (.dup2, 1) := by decide +kernel
theorem dX6_batch_257 : decode cX6_batch 257 = .ok (.laload, 1) := by decide +kernel
theorem dX6_batch_258 : decode cX6_batch 258 = .ok (.aload_n 0, 1) := by decide +kernel
theorem dX6_batch_259 : decode cX6_batch 259 = .ok (.getfield 49, 3) := by decide +kernel
theorem dX6_batch_262 : decode cX6_batch 262 = .ok (.iload 11, 2) := by decide +kernel
theorem dX6_batch_264 : decode cX6_batch 264 = .ok (.iaload, 1) := by decide +kernel
theorem dX6_batch_265 : decode cX6_batch 265 = .ok (.i2l, 1) := by decide +kernel
theorem dX6_batch_266 : decode cX6_batch 266 = .ok (.ladd, 1) := by decide +kernel
theorem dX6_batch_267 : decode cX6_batch 267 = .ok (.lastore, 1) := by decide +kernel
theorem dX6_batch_268 : decode cX6_batch 268 = .ok (.goto 61, 3) := by decide +kernel
theorem dX6_batch_271 : decode cX6_batch 271 = .ok (.lload 8, 2) := by decide +kernel
theorem dX6_batch_273 : decode cX6_batch 273 = .ok (.aload_n 0, 1) := by decide +kernel
theorem dX6_batch_274 : decode cX6_batch 274 = .ok (.getfield 49, 3) := by decide +kernel
theorem dX6_batch_277 : decode cX6_batch 277 = .ok (.iload 11, 2) := by decide +kernel
theorem dX6_batch_279 : decode cX6_batch 279 = .ok (.iaload, 1) := by decide +kernel
theorem dX6_batch_280 : decode cX6_batch 280 = .ok (.i2l, 1) := by decide +kernel
theorem dX6_batch_281 : decode cX6_batch 281 = .ok (.lsub, 1) := by decide +kernel
theorem dX6_batch_282 : decode cX6_batch 282 = .ok (.lstore 8, 2) := by decide +kernel
theorem dX6_batch_284 : decode cX6_batch 284 = .ok (.aload_n 0, 1) := by decide +kernel
theorem dX6_batch_285 : decode cX6_batch 285 = .ok (.getfield 7, 3) := by decide +kernel
theorem dX6_batch_288 : decode cX6_batch 288 = .ok (.aload_n 0, 1) := by decide +kernel
theorem dX6_batch_289 : decode cX6_batch 289 = .ok (.getfield 16, 3) := by decide +kernel
theorem dX6_batch_292 : decode cX6_batch 292 = .ok (.iload 11, 2) := by decide +kernel
theorem dX6_batch_294 : decode cX6_batch 294 = .ok (.iaload, 1) := by decide +kernel
theorem dX6_batch_295 : decode cX6_batch 295 = .ok (.dup2, 1) := by decide +kernel
theorem dX6_batch_296 : decode cX6_batch 296 = .ok (.laload, 1) := by decide +kernel
theorem dX6_batch_297 : decode cX6_batch 297 = .ok (.aload_n 0, 1) := by decide +kernel
theorem dX6_batch_298 : decode cX6_batch 298 = .ok (.getfield 52, 3) := by decide +kernel
theorem dX6_batch_301 : decode cX6_batch 301 = .ok (.iload 11, 2) := by decide +kernel
theorem dX6_batch_303 : decode cX6_batch 303 = .ok (.laload, 1) := by decide +kernel
theorem dX6_batch_304 : decode cX6_batch 304 = .ok (.ladd, 1) := by decide +kernel
theorem dX6_batch_305 : decode cX6_batch 305 = .ok (.lastore, 1) := by decide +kernel
theorem dX6_batch_306 : decode cX6_batch 306 = .ok (.aload_n 0, 1) := by decide +kernel
theorem dX6_batch_307 : decode cX6_batch 307 = .ok (.getfield 13, 3) := by decide +kernel
theorem dX6_batch_310 : decode cX6_batch 310 = .ok (.aload_n 0, 1) := by decide +kernel
theorem dX6_batch_311 : decode cX6_batch 311 = .ok (.getfield 16, 3) := by decide +kernel
theorem dX6_batch_314 : decode cX6_batch 314 = .ok (.iload 11, 2) := by decide +kernel
theorem dX6_batch_316 : decode cX6_batch 316 = .ok (.iaload, 1) := by decide +kernel
theorem dX6_batch_317 : decode cX6_batch 317 = .ok (.dup2, 1) := by decide +kernel
theorem dX6_batch_318 : decode cX6_batch 318 = .ok (.laload, 1) := by decide +kernel
theorem dX6_batch_319 : decode cX6_batch 319 = .ok (.aload_n 0, 1) := by decide +kernel
theorem dX6_batch_320 : decode cX6_batch 320 = .ok (.getfield 49, 3) := by decide +kernel
theorem dX6_batch_323 : decode cX6_batch 323 = .ok (.iload 11, 2) := by decide +kernel
theorem dX6_batch_325 : decode cX6_batch 325 = .ok (.iaload, 1) := by decide +kernel
theorem dX6_batch_326 : decode cX6_batch 326 = .ok (.i2l, 1) := by decide +kernel
theorem dX6_batch_327 : decode cX6_batch 327 = .ok (.lsub, 1) := by decide +kernel
theorem dX6_batch_328 : decode cX6_batch 328 = .ok (.lastore, 1) := by decide +kernel
theorem dX6_batch_329 : decode cX6_batch 329 = .ok (.iinc 10 1, 3) := by decide +kernel
theorem dX6_batch_332 : decode cX6_batch 332 = .ok (.goto (-236), 3) := by decide +kernel
theorem dX6_batch_335 : decode cX6_batch 335 = .ok (.iload_n 1, 1) := by decide +kernel
theorem dX6_batch_336 : decode cX6_batch 336 = .ok (.ireturn, 1) := by decide +kernel
theorem dX6_done_0 : decode cX6_done 0 = .ok (.aload_n 0, 1) := by decide +kernel
theorem dX6_done_1 : decode cX6_done 1 = .ok (.iload_n 1, 1) := by decide +kernel
theorem dX6_done_2 : decode cX6_done 2 = .ok (.invokevirtual 141, 3) := by decide +kernel
theorem dX6_done_5 : decode cX6_done 5 = .ok (.ifCond .ne 8, 3) := by decide +kernel
theorem dX6_done_8 : decode cX6_done 8 = .ok (.bipush (-2), 2) := by decide +kernel
theorem dX6_done_10 : decode cX6_done 10 = .ok (.goto 20, 3) := by decide +kernel
theorem dX6_done_13 : decode cX6_done 13 = .ok (.aload_n 0, 1) := by decide +kernel
theorem dX6_done_14 : decode cX6_done 14 = .ok (.getfield 95, 3) := by decide +kernel
theorem dX6_done_17 : decode cX6_done 17 = .ok (.ifCond .ne 7, 3) := by decide +kernel
theorem dX6_done_20 : decode cX6_done 20 = .ok (.iconst (-1), 1) := by decide +kernel
theorem dX6_done_21 : decode cX6_done 21 = .ok (.goto 9, 3) := by decide +kernel
theorem dX6_done_24 : decode cX6_done 24 = .ok (.aload_n 0, 1) := by decide +kernel
theorem dX6_done_25 : decode cX6_done 25 = .ok (.getfield 49, 3) := by decide +kernel
theorem dX6_done_28 : decode cX6_done 28 = .ok (.iload_n 1, 1) := by decide +kernel
theorem dX6_done_29 : decode cX6_done 29 = .ok (.iaload, 1) := by decide +kernel
theorem dX6_done_30 : decode cX6_done 30 = .ok (.ireturn, 1) := by decide +kernel
theorem dX6_passed_0 : decode cX6_passed 0 = .ok (.aload_n 0, 1) := by decide +kernel
theorem dX6_passed_1 : decode cX6_passed 1 = .ok (.iload_n 1, 1) := by decide +kernel
theorem dX6_passed_2 : decode cX6_passed 2 = .ok (.invokevirtual 141, 3) := by decide +kernel
theorem dX6_passed_5 : decode cX6_passed 5 = .ok (.ifCond .ne 9, 3) := by decide +kernel
theorem dX6_passed_8 : decode cX6_passed 8 = .ok (.ldc2_w 210, 3) := by decide +kernel
theorem dX6_passed_11 : decode cX6_passed 11 = .ok (.goto 22, 3) := by decide +kernel
theorem dX6_passed_14 : decode cX6_passed 14 = .ok (.aload_n 0, 1) := by decide +kernel
theorem dX6_passed_15 : decode cX6_passed 15 = .ok (.getfield 95, 3) := by decide +kernel
theorem dX6_passed_18 : decode cX6_passed 18 = .ok (.ifCond .ne 9, 3) := by decide +kernel
theorem dX6_passed_21 : decode cX6_passed 21 = .ok (.ldc2_w 212, 3) := by decide +kernel
theorem dX6_passed_24 : decode cX6_passed 24 = .ok (.goto 9, 3) := by decide +kernel
theorem dX6_passed_27 : decode cX6_passed 27 = .ok (.aload_n 0, 1) := by decide +kernel
theorem dX6_passed_28 : decode cX6_passed 28 = .ok (.getfield 52, 3) := by decide +kernel
theorem dX6_passed_31 : decode cX6_passed 31 = .ok (.iload_n 1, 1) := by decide +kernel
theorem dX6_passed_32 : decode cX6_passed 32 = .ok (.laload, 1) := by decide +kernel
theorem dX6_passed_33 : decode cX6_passed 33 = .ok (.lreturn, 1) := by decide +kernel
theorem dX6_gain_0 : decode cX6_gain 0 = .ok (.aload_n 0, 1) := by decide +kernel
theorem dX6_gain_1 : decode cX6_gain 1 = .ok (.invokevirtual 191, 3) := by decide +kernel
theorem dX6_gain_4 : decode cX6_gain 4 = .ok (.ifCond .eq 36, 3) := by decide +kernel
theorem dX6_gain_7 : decode cX6_gain 7 = .ok (.iload_n 1, 1) := by decide +kernel
theorem dX6_gain_8 : decode cX6_gain 8 = .ok (.ifCond .lt 32, 3) := by decide +kernel
theorem dX6_gain_11 : decode cX6_gain 11 = .ok (.iload_n 1, 1) := by decide +kernel
theorem dX6_gain_12 : decode cX6_gain 12 = .ok (.aload_n 0, 1) := by decide +kernel
theorem dX6_gain_13 : decode cX6_gain 13 = .ok (.getfield 42, 3) := by decide +kernel
theorem dX6_gain_16 : decode cX6_gain 16 = .ok (.if_icmp .ge 24, 3) := by decide +kernel
theorem dX6_gain_19 : decode cX6_gain 19 = .ok (.iload_n 2, 1) := by decide +kernel
theorem dX6_gain_20 : decode cX6_gain 20 = .ok (.ifCond .lt 20, 3) := by decide +kernel
theorem dX6_gain_23 : decode cX6_gain 23 = .ok (.iload_n 2, 1) := by decide +kernel
theorem dX6_gain_24 : decode cX6_gain 24 = .ok (.aload_n 0, 1) := by decide +kernel
theorem dX6_gain_25 : decode cX6_gain 25 = .ok (.getfield 42, 3) := by decide +kernel
theorem dX6_gain_28 : decode cX6_gain 28 = .ok (.if_icmp .ge 12, 3) := by decide +kernel
theorem dX6_gain_31 : decode cX6_gain 31 = .ok (.iload_n 3, 1) := by decide +kernel
theorem dX6_gain_32 : decode cX6_gain 32 = .ok (.ifCond .eq 10, 3) := by decide +kernel
theorem dX6_gain_35 : decode cX6_gain 35 = .ok (.iload_n 3, 1) := by decide +kernel
theorem dX6_gain_36 : decode cX6_gain 36 = .ok (.iconst 1, 1) := by decide +kernel
theorem dX6_gain_37 : decode cX6_gain 37 = .ok (.if_icmp .eq 5, 3) := by decide +kernel
theorem dX6_gain_40 : decode cX6_gain 40 = .ok (.lconst 0, 1) := by decide +kernel
theorem dX6_gain_41 : decode cX6_gain 41 = .ok (.lreturn, 1) := by decide +kernel
theorem dX6_gain_42 : decode cX6_gain 42 = .ok (.aload_n 0, 1) := by decide +kernel
theorem dX6_gain_43 : decode cX6_gain 43 = .ok (.getfield 16, 3) := by decide +kernel
theorem dX6_gain_46 : decode cX6_gain 46 = .ok (.aload_n 0, 1) := by decide +kernel
theorem dX6_gain_47 : decode cX6_gain 47 = .ok (.getfield 46, 3) := by decide +kernel
theorem dX6_gain_50 : decode cX6_gain 50 = .ok (.iload_n 1, 1) := by decide +kernel
theorem dX6_gain_51 : decode cX6_gain 51 = .ok (.iaload, 1) := by decide +kernel
theorem dX6_gain_52 : decode cX6_gain 52 = .ok (.iaload, 1) := by decide +kernel
theorem dX6_gain_53 : decode cX6_gain 53 = .ok (.istore 4, 2) := by decide +kernel
theorem dX6_gain_55 : decode cX6_gain 55 = .ok (.iconst 0, 1) := by decide +kernel
theorem dX6_gain_56 : decode cX6_gain 56 = .ok (.istore 5, 2) := by decide +kernel
theorem dX6_gain_58 : decode cX6_gain 58 = .ok (.iload 5, 2) := by decide +kernel
theorem dX6_gain_60 : decode cX6_gain 60 = .ok (.aload_n 0, 1) := by decide +kernel
theorem dX6_gain_61 : decode cX6_gain 61 = .ok (.getfield 42, 3) := by decide +kernel
theorem dX6_gain_64 : decode cX6_gain 64 = .ok (.if_icmp .ge 23, 3) := by decide +kernel
theorem dX6_gain_67 : decode cX6_gain 67 = .ok (.aload_n 0, 1) := by decide +kernel
theorem dX6_gain_68 : decode cX6_gain 68 = .ok (.getfield 55, 3) := by decide +kernel
theorem dX6_gain_71 : decode cX6_gain 71 = .ok (.iload 5, 2) := by decide +kernel
theorem dX6_gain_73 : decode cX6_gain 73 = .ok (.aload_n 0, 1) := by decide +kernel
theorem dX6_gain_74 : decode cX6_gain 74 = .ok (.getfield 46, 3) := by decide +kernel
theorem dX6_gain_77 : decode cX6_gain 77 = .ok (.iload 5, 2) := by decide +kernel
theorem dX6_gain_79 : decode cX6_gain 79 = .ok (.iaload, 1) := by decide +kernel
theorem dX6_gain_80 : decode cX6_gain 80 = .ok (.iastore, 1) := by decide +kernel
theorem dX6_gain_81 : decode cX6_gain 81 = .ok (.iinc 5 1, 3) := by decide +kernel
theorem dX6_gain_84 : decode cX6_gain 84 = .ok (.goto (-26), 3) := by decide +kernel
theorem dX6_gain_87 : decode cX6_gain 87 = .ok (.aload_n 0, 1) := by decide +kernel
theorem dX6_gain_88 : decode cX6_gain 88 = .ok (.invokevirtual 194, 3) := by decide +kernel
theorem dX6_gain_91 : decode cX6_gain 91 = .ok (.iload_n 3, 1) := by decide +kernel
theorem dX6_gain_92 : decode cX6_gain 92 = .ok (.ifCond .ne 13, 3) := by decide +kernel
theorem dX6_gain_95 : decode cX6_gain 95 = .ok (.aload_n 0, 1) := by decide +kernel
theorem dX6_gain_96 : decode cX6_gain 96 = .ok (.getfield 58, 3) := by decide +kernel
theorem dX6_gain_99 : decode cX6_gain 99 = .ok (.iload 4, 2) := by decide +kernel
theorem dX6_gain_101 : decode cX6_gain 101 = .ok (.laload, 1) := by decide +kernel
theorem dX6_gain_102 : decode cX6_gain 102 = .ok (.goto 10, 3) := by decide +kernel
theorem dX6_gain_105 : decode cX6_gain 105 = .ok (.aload_n 0, 1) := by decide +kernel
theorem dX6_gain_106 : decode cX6_gain 106 = .ok (.getfield 61, 3) := by decide +kernel
theorem dX6_gain_109 : decode cX6_gain 109 = .ok (.iload 4, 2) := by decide +kernel
theorem dX6_gain_111 : decode cX6_gain 111 = .ok (.laload, 1) := by decide +kernel
theorem dX6_gain_112 : decode cX6_gain 112 = .ok (.lstore 5, 2) := by decide +kernel
theorem dX6_gain_114 : decode cX6_gain 114 = .ok (.iconst 0, 1) := by decide +kernel
theorem dX6_gain_115 : decode cX6_gain 115 = .ok (.istore 7, 2) := by decide +kernel
theorem dX6_gain_117 : decode cX6_gain 117 = .ok (.iconst 0, 1) := by decide +kernel
theorem dX6_gain_118 : decode cX6_gain 118 = .ok (.istore 8, 2) := by decide +kernel
theorem dX6_gain_120 : decode cX6_gain 120 = .ok (.iload 8, 2) := by decide +kernel
theorem dX6_gain_122 : decode cX6_gain 122 = .ok (.aload_n 0, 1) := by decide +kernel
theorem dX6_gain_123 : decode cX6_gain 123 = .ok (.getfield 42, 3) := by decide +kernel
theorem dX6_gain_126 : decode cX6_gain 126 = .ok (.if_icmp .ge 64, 3) := by decide +kernel
theorem dX6_gain_129 : decode cX6_gain 129 = .ok (.iload 8, 2) := by decide +kernel
theorem dX6_gain_131 : decode cX6_gain 131 = .ok (.iload_n 2, 1) := by decide +kernel
theorem dX6_gain_132 : decode cX6_gain 132 = .ok (.if_icmp .ne 19, 3) := by decide +kernel
theorem dX6_gain_135 : decode cX6_gain 135 = .ok (.aload_n 0, 1) := by decide +kernel
theorem dX6_gain_136 : decode cX6_gain 136 = .ok (.getfield 55, 3) := by decide +kernel
theorem dX6_gain_139 : decode cX6_gain 139 = .ok (.iload 8, 2) := by decide +kernel
theorem dX6_gain_141 : decode cX6_gain 141 = .ok (.aload_n 0, 1) := by decide +kernel
theorem dX6_gain_142 : decode cX6_gain 142 = .ok (.getfield 46, 3) := by decide +kernel
theorem dX6_gain_145 : decode cX6_gain 145 = .ok (.iload_n 1, 1) := by decide +kernel
theorem dX6_gain_146 : decode cX6_gain 146 = .ok (.iaload, 1) := by decide +kernel
theorem dX6_gain_147 : decode cX6_gain 147 = .ok (.iastore, 1) := by decide +kernel
theorem dX6_gain_148 : decode cX6_gain 148 = .ok (.goto 36, 3) := by decide +kernel
theorem dX6_gain_151 : decode cX6_gain 151 = .ok (.iload 7, 2) := by decide +kernel
theorem dX6_gain_153 : decode cX6_gain 153 = .ok (.iload 7, 2) := by decide +kernel
theorem dX6_gain_155 : decode cX6_gain 155 = .ok (.iload_n 1, 1) := by decide +kernel
theorem dX6_gain_156 : decode cX6_gain 156 = .ok (.if_icmp .ne 7, 3) := by decide +kernel
theorem dX6_gain_159 : decode cX6_gain 159 = .ok (.iconst 1, 1) := by decide +kernel
theorem dX6_gain_160 : decode cX6_gain 160 = .ok (.goto 4, 3) := by decide +kernel
theorem dX6_gain_163 : decode cX6_gain 163 = .ok (.iconst 0, 1) := by decide +kernel
theorem dX6_gain_164 : decode cX6_gain 164 = .ok (.iadd, 1) := by decide +kernel
theorem dX6_gain_165 : decode cX6_gain 165 = .ok (.istore 7, 2) := by decide +kernel
theorem dX6_gain_167 : decode cX6_gain 167 = .ok (.aload_n 0, 1) := by decide +kernel
theorem dX6_gain_168 : decode cX6_gain 168 = .ok (.getfield 55, 3) := by decide +kernel
theorem dX6_gain_171 : decode cX6_gain 171 = .ok (.iload 8, 2) := by decide +kernel
theorem dX6_gain_173 : decode cX6_gain 173 = .ok (.aload_n 0, 1) := by decide +kernel
theorem dX6_gain_174 : decode cX6_gain 174 = .ok (.getfield 46, 3) := by decide +kernel
theorem dX6_gain_177 : decode cX6_gain 177 = .ok (.iload 7, 2) := by decide +kernel
theorem dX6_gain_179 : decode cX6_gain 179 = .ok (.iaload, 1) := by decide +kernel
theorem dX6_gain_180 : decode cX6_gain 180 = .ok (.iastore, 1) := by decide +kernel
theorem dX6_gain_181 : decode cX6_gain 181 = .ok (.iinc 7 1, 3) := by decide +kernel
theorem dX6_gain_184 : decode cX6_gain 184 = .ok (.iinc 8 1, 3) := by decide +kernel
theorem dX6_gain_187 : decode cX6_gain 187 = .ok (.goto (-67), 3) := by decide +kernel
theorem dX6_gain_190 : decode cX6_gain 190 = .ok (.aload_n 0, 1) := by decide +kernel
theorem dX6_gain_191 : decode cX6_gain 191 = .ok (.invokevirtual 194, 3) := by decide +kernel
theorem dX6_gain_194 : decode cX6_gain 194 = .ok (.iload_n 3, 1) := by decide +kernel
theorem dX6_gain_195 : decode cX6_gain 195 = .ok (.ifCond .ne 13, 3) := by decide +kernel
theorem dX6_gain_198 : decode cX6_gain 198 = .ok (.aload_n 0, 1) := by decide +kernel
theorem dX6_gain_199 : decode cX6_gain 199 = .ok (.getfield 58, 3) := by decide +kernel
theorem dX6_gain_202 : decode cX6_gain 202 = .ok (.iload 4, 2) := by decide +kernel
theorem dX6_gain_204 : decode cX6_gain 204 = .ok (.laload, 1) := by decide +kernel
theorem dX6_gain_205 : decode cX6_gain 205 = .ok (.goto 10, 3) := by decide +kernel
theorem dX6_gain_208 : decode cX6_gain 208 = .ok (.aload_n 0, 1) := by decide +kernel
theorem dX6_gain_209 : decode cX6_gain 209 = .ok (.getfield 61, 3) := by decide +kernel
theorem dX6_gain_212 : decode cX6_gain 212 = .ok (.iload 4, 2) := by decide +kernel
theorem dX6_gain_214 : decode cX6_gain 214 = .ok (.laload, 1) := by decide +kernel
theorem dX6_gain_215 : decode cX6_gain 215 = .ok (.lload 5, 2) := by decide +kernel
theorem dX6_gain_217 : decode cX6_gain 217 = .ok (.lsub, 1) := by decide +kernel
theorem dX6_gain_218 : decode cX6_gain 218 = .ok (.lreturn, 1) := by decide +kernel
theorem dX6_has_0 : decode cX6_has 0 = .ok (.iload_n 2, 1) := by decide +kernel
theorem dX6_has_1 : decode cX6_has 1 = .ok (.ifCond .eq 8, 3) := by decide +kernel
theorem dX6_has_4 : decode cX6_has 4 = .ok (.iload_n 2, 1) := by decide +kernel
theorem dX6_has_5 : decode cX6_has 5 = .ok (.iconst 1, 1) := by decide +kernel
theorem dX6_has_6 : decode cX6_has 6 = .ok (.if_icmp .ne 17, 3) := by decide +kernel
theorem dX6_has_9 : decode cX6_has 9 = .ok (.iload_n 1, 1) := by decide +kernel
theorem dX6_has_10 : decode cX6_has 10 = .ok (.bipush (-2), 2) := by decide +kernel
theorem dX6_has_12 : decode cX6_has 12 = .ok (.if_icmp .lt 11, 3) := by decide +kernel
theorem dX6_has_15 : decode cX6_has 15 = .ok (.iload_n 1, 1) := by decide +kernel
theorem dX6_has_16 : decode cX6_has 16 = .ok (.aload_n 0, 1) := by decide +kernel
theorem dX6_has_17 : decode cX6_has 17 = .ok (.getfield 102, 3) := by decide +kernel
theorem dX6_has_20 : decode cX6_has 20 = .ok (.if_icmp .lt 5, 3) := by decide +kernel
theorem dX6_has_23 : decode cX6_has 23 = .ok (.lconst 0, 1) := by decide +kernel
theorem dX6_has_24 : decode cX6_has 24 = .ok (.lreturn, 1) := by decide +kernel
theorem dX6_has_25 : decode cX6_has 25 = .ok (.iload_n 1, 1) := by decide +kernel
theorem dX6_has_26 : decode cX6_has 26 = .ok (.bipush (-2), 2) := by decide +kernel
theorem dX6_has_28 : decode cX6_has 28 = .ok (.if_icmp .ne 16, 3) := by decide +kernel
theorem dX6_has_31 : decode cX6_has 31 = .ok (.iload_n 2, 1) := by decide +kernel
theorem dX6_has_32 : decode cX6_has 32 = .ok (.ifCond .ne 10, 3) := by decide +kernel
