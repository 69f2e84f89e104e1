theorem dX0_init_0 : decode cX0_init 0 = .ok (.aload_n 0, 1) := by decide +kernel
theorem dX0_init_1 : decode cX0_init 1 = .ok (.invokespecial 3, 3) := by decide +kernel
theorem dX0_init_4 : decode cX0_init 4 = .ok (.aload_n 0, 1) := by decide +kernel
theorem dX0_init_5 : decode cX0_init 5 = .ok (.new 9, 3) := by decide +kernel
theorem dX0_init_8 : decode cX0_init 8 = .ok (.dup, 1) := by decide +kernel
theorem dX0_init_9 : decode cX0_init 9 = .ok (.invokespecial 11, 3) := by decide +kernel
theorem dX0_init_12 : decode cX0_init 12 = .ok (.putfield 12, 3) := by decide +kernel
theorem dX0_init_15 : decode cX0_init 15 = .ok (.aload_n 0, 1) := by decide +kernel
theorem dX0_init_16 : decode cX0_init 16 = .ok (.new 9, 3) := by decide +kernel
theorem dX0_init_19 : decode cX0_init 19 = .ok (.dup, 1) := by decide +kernel
theorem dX0_init_20 : decode cX0_init 20 = .ok (.invokespecial 11, 3) := by decide +kernel
theorem dX0_init_23 : decode cX0_init 23 = .ok (.putfield 16, 3) := by decide +kernel
theorem dX0_init_26 : decode cX0_init 26 = .ok (.aload_n 0, 1) := by decide +kernel
theorem dX0_init_27 : decode cX0_init 27 = .ok (.bipush 16, 2) := by decide +kernel
theorem dX0_init_29 : decode cX0_init 29 = .ok (.anewarray 19, 3) := by decide +kernel
theorem dX0_init_32 : decode cX0_init 32 = .ok (.putfield 21, 3) := by decide +kernel
theorem dX0_init_35 : decode cX0_init 35 = .ok (.aload_n 0, 1) := by decide +kernel
theorem dX0_init_36 : decode cX0_init 36 = .ok (.new 25, 3) := by decide +kernel
theorem dX0_init_39 : decode cX0_init 39 = .ok (.dup, 1) := by decide +kernel
theorem dX0_init_40 : decode cX0_init 40 = .ok (.invokespecial 27, 3) := by decide +kernel
theorem dX0_init_43 : decode cX0_init 43 = .ok (.putfield 28, 3) := by decide +kernel
theorem dX0_init_46 : decode cX0_init 46 = .ok (.aload_n 0, 1) := by decide +kernel
theorem dX0_init_47 : decode cX0_init 47 = .ok (.new 25, 3) := by decide +kernel
theorem dX0_init_50 : decode cX0_init 50 = .ok (.dup, 1) := by decide +kernel
theorem dX0_init_51 : decode cX0_init 51 = .ok (.invokespecial 27, 3) := by decide +kernel
theorem dX0_init_54 : decode cX0_init 54 = .ok (.putfield 32, 3) := by decide +kernel
theorem dX0_init_57 : decode cX0_init 57 = .ok (.aload_n 0, 1) := by decide +kernel
theorem dX0_init_58 : decode cX0_init 58 = .ok (.bipush 16, 2) := by decide +kernel
theorem dX0_init_60 : decode cX0_init 60 = .ok (.newarray .int, 2) := by decide +kernel
theorem dX0_init_62 : decode cX0_init 62 = .ok (.putfield 35, 3) := by decide +kernel
theorem dX0_init_65 : decode cX0_init 65 = .ok (.aload_n 0, 1) := by decide +kernel
theorem dX0_init_66 : decode cX0_init 66 = .ok (.new 39, 3) := by decide +kernel
theorem dX0_init_69 : decode cX0_init 69 = .ok (.dup, 1) := by decide +kernel
theorem dX0_init_70 : decode cX0_init 70 = .ok (.invokespecial 41, 3) := by decide +kernel
theorem dX0_init_73 : decode cX0_init 73 = .ok (.putfield 42, 3) := by decide +kernel
theorem dX0_init_76 : decode cX0_init 76 = .ok (.aload_n 0, 1) := by decide +kernel
theorem dX0_init_77 : decode cX0_init 77 = .ok (.new 46, 3) := by decide +kernel
theorem dX0_init_80 : decode cX0_init 80 = .ok (.dup, 1) := by decide +kernel
theorem dX0_init_81 : decode cX0_init 81 = .ok (.invokespecial 48, 3) := by decide +kernel
theorem dX0_init_84 : decode cX0_init 84 = .ok (.putfield 49, 3) := by decide +kernel
theorem dX0_init_87 : decode cX0_init 87 = .ok (.iconst 0, 1) := by decide +kernel
theorem dX0_init_88 : decode cX0_init 88 = .ok (.istore_n 1, 1) := by decide +kernel
theorem dX0_init_89 : decode cX0_init 89 = .ok (.iload_n 1, 1) := by decide +kernel
theorem dX0_init_90 : decode cX0_init 90 = .ok (.bipush 16, 2) := by decide +kernel
theorem dX0_init_92 : decode cX0_init 92 = .ok (.if_icmp .ge 22, 3) := by decide +kernel
theorem dX0_init_95 : decode cX0_init 95 = .ok (.aload_n 0, 1) := by decide +kernel
theorem dX0_init_96 : decode cX0_init 96 = .ok (.getfield 21, 3) := by decide +kernel
theorem dX0_init_99 : decode cX0_init 99 = .ok (.iload_n 1, 1) := by decide +kernel
theorem dX0_init_100 : decode cX0_init 100 = .ok (.new 19, 3) := by decide +kernel
theorem dX0_init_103 : decode cX0_init 103 = .ok (.dup, 1) := by decide +kernel
theorem dX0_init_104 : decode cX0_init 104 = .ok (.invokespecial 53, 3) := by decide +kernel
theorem dX0_init_107 : decode cX0_init 107 = .ok (.aastore, 1) := by decide +kernel
theorem dX0_init_108 : decode cX0_init 108 = .ok (.iinc 1 1, 3) := by decide +kernel
theorem dX0_init_111 : decode cX0_init 111 = .ok (.goto (-22), 3) := by decide +kernel
theorem dX0_init_114 : decode cX0_init 114 = .ok (.return_, 1) := by decide +kernel
theorem dX0_clear_0 : decode cX0_clear 0 = .ok (.aload_n 0, 1) := by decide +kernel
theorem dX0_clear_1 : decode cX0_clear 1 = .ok (.getfield 54, 3) := by decide +kernel
theorem dX0_clear_4 : decode cX0_clear 4 = .ok (.istore_n 1, 1) := by decide +kernel
theorem dX0_clear_5 : decode cX0_clear 5 = .ok (.aload_n 0, 1) := by decide +kernel
theorem dX0_clear_6 : decode cX0_clear 6 = .ok (.iconst 0, 1) := by decide +kernel
theorem dX0_clear_7 : decode cX0_clear 7 = .ok (.putfield 54, 3) := by decide +kernel
theorem dX0_clear_10 : decode cX0_clear 10 = .ok (.aload_n 0, 1) := by decide +kernel
theorem dX0_clear_11 : decode cX0_clear 11 = .ok (.getfield 12, 3) := by decide +kernel
theorem dX0_clear_14 : decode cX0_clear 14 = .ok (.invokevirtual 58, 3) := by decide +kernel
theorem dX0_clear_17 : decode cX0_clear 17 = .ok (.aload_n 0, 1) := by decide +kernel
theorem dX0_clear_18 : decode cX0_clear 18 = .ok (.lconst 0, 1) := by decide +kernel
theorem dX0_clear_19 : decode cX0_clear 19 = .ok (.putfield 61, 3) := by decide +kernel
theorem dX0_clear_22 : decode cX0_clear 22 = .ok (.aload_n 0, 1) := by decide +kernel
theorem dX0_clear_23 : decode cX0_clear 23 = .ok (.iconst 0, 1) := by decide +kernel
theorem dX0_clear_24 : decode cX0_clear 24 = .ok (.putfield 65, 3) := by decide +kernel
theorem dX0_clear_27 : decode cX0_clear 27 = .ok (.aload_n 0, 1) := by decide +kernel
theorem dX0_clear_28 : decode cX0_clear 28 = .ok (.invokevirtual 68, 3) := by decide +kernel
theorem dX0_clear_31 : decode cX0_clear 31 = .ok (.iload_n 1, 1) := by decide +kernel
theorem dX0_clear_32 : decode cX0_clear 32 = .ok (.ireturn, 1) := by decide +kernel
theorem dX0_account_0 : decode cX0_account 0 = .ok (.lload_n 1, 1) := by decide +kernel
theorem dX0_account_1 : decode cX0_account 1 = .ok (.invokestatic 71, 3) := by decide +kernel
theorem dX0_account_4 : decode cX0_account 4 = .ok (.ifCond .eq 10, 3) := by decide +kernel
theorem dX0_account_7 : decode cX0_account 7 = .ok (.lload_n 3, 1) := by decide +kernel
theorem dX0_account_8 : decode cX0_account 8 = .ok (.invokestatic 71, 3) := by decide +kernel
theorem dX0_account_11 : decode cX0_account 11 = .ok (.ifCond .ne 6, 3) := by decide +kernel
theorem dX0_account_14 : decode cX0_account 14 = .ok (.bipush (-2), 2) := by decide +kernel
theorem dX0_account_16 : decode cX0_account 16 = .ok (.ireturn, 1) := by decide +kernel
theorem dX0_account_17 : decode cX0_account 17 = .ok (.aload_n 0, 1) := by decide +kernel
theorem dX0_account_18 : decode cX0_account 18 = .ok (.getfield 54, 3) := by decide +kernel
theorem dX0_account_21 : decode cX0_account 21 = .ok (.bipush 8, 2) := by decide +kernel
theorem dX0_account_23 : decode cX0_account 23 = .ok (.if_icmp .lt 6, 3) := by decide +kernel
theorem dX0_account_26 : decode cX0_account 26 = .ok (.bipush (-3), 2) := by decide +kernel
theorem dX0_account_28 : decode cX0_account 28 = .ok (.ireturn, 1) := by decide +kernel
theorem dX0_account_29 : decode cX0_account 29 = .ok (.aload_n 0, 1) := by decide +kernel
theorem dX0_account_30 : decode cX0_account 30 = .ok (.getfield 12, 3) := by decide +kernel
theorem dX0_account_33 : decode cX0_account 33 = .ok (.aload_n 0, 1) := by decide +kernel
theorem dX0_account_34 : decode cX0_account 34 = .ok (.getfield 54, 3) := by decide +kernel
theorem dX0_account_37 : decode cX0_account 37 = .ok (.lload_n 1, 1) := by decide +kernel
theorem dX0_account_38 : decode cX0_account 38 = .ok (.lload_n 3, 1) := by decide +kernel
theorem dX0_account_39 : decode cX0_account 39 = .ok (.invokevirtual 75, 3) := by decide +kernel
theorem dX0_account_42 : decode cX0_account 42 = .ok (.aload_n 0, 1) := by decide +kernel
theorem dX0_account_43 : decode cX0_account 43 = .ok (.dup, 1) := by decide +kernel
theorem dX0_account_44 : decode cX0_account 44 = .ok (.getfield 54, 3) := by decide +kernel
theorem dX0_account_47 : decode cX0_account 47 = .ok (.iconst 1, 1) := by decide +kernel
theorem dX0_account_48 : decode cX0_account 48 = .ok (.iadd, 1) := by decide +kernel
theorem dX0_account_49 : decode cX0_account 49 = .ok (.putfield 54, 3) := by decide +kernel
theorem dX0_account_52 : decode cX0_account 52 = .ok (.aload_n 0, 1) := by decide +kernel
theorem dX0_account_53 : decode cX0_account 53 = .ok (.getfield 54, 3) := by decide +kernel
theorem dX0_account_56 : decode cX0_account 56 = .ok (.iconst 1, 1) := by decide +kernel
theorem dX0_account_57 : decode cX0_account 57 = .ok (.isub, 1) := by decide +kernel
theorem dX0_account_58 : decode cX0_account 58 = .ok (.ireturn, 1) := by decide +kernel
theorem dX0_pool_0 : decode cX0_pool 0 = .ok (.lload_n 1, 1) := by decide +kernel
theorem dX0_pool_1 : decode cX0_pool 1 = .ok (.invokestatic 71, 3) := by decide +kernel
theorem dX0_pool_4 : decode cX0_pool 4 = .ok (.ifCond .eq 10, 3) := by decide +kernel
theorem dX0_pool_7 : decode cX0_pool 7 = .ok (.lload_n 3, 1) := by decide +kernel
theorem dX0_pool_8 : decode cX0_pool 8 = .ok (.invokestatic 71, 3) := by decide +kernel
theorem dX0_pool_11 : decode cX0_pool 11 = .ok (.ifCond .ne 6, 3) := by decide +kernel
theorem dX0_pool_14 : decode cX0_pool 14 = .ok (.bipush (-2), 2) := by decide +kernel
theorem dX0_pool_16 : decode cX0_pool 16 = .ok (.ireturn, 1) := by decide +kernel
theorem dX0_pool_17 : decode cX0_pool 17 = .ok (.aload_n 0, 1) := by decide +kernel
theorem dX0_pool_18 : decode cX0_pool 18 = .ok (.getfield 12, 3) := by decide +kernel
theorem dX0_pool_21 : decode cX0_pool 21 = .ok (.bipush 8, 2) := by decide +kernel
theorem dX0_pool_23 : decode cX0_pool 23 = .ok (.lload_n 1, 1) := by decide +kernel
theorem dX0_pool_24 : decode cX0_pool 24 = .ok (.lload_n 3, 1) := by decide +kernel
theorem dX0_pool_25 : decode cX0_pool 25 = .ok (.invokevirtual 75, 3) := by decide +kernel
theorem dX0_pool_28 : decode cX0_pool 28 = .ok (.iconst 1, 1) := by decide +kernel
theorem dX0_pool_29 : decode cX0_pool 29 = .ok (.ireturn, 1) := by decide +kernel
theorem dX0_seal_0 : decode cX0_seal 0 = .ok (.iload_n 1, 1) := by decide +kernel
theorem dX0_seal_1 : decode cX0_seal 1 = .ok (.iload_n 2, 1) := by decide +kernel
theorem dX0_seal_2 : decode cX0_seal 2 = .ok (.iload_n 3, 1) := by decide +kernel
theorem dX0_seal_3 : decode cX0_seal 3 = .ok (.invokestatic 79, 3) := by decide +kernel
theorem dX0_seal_6 : decode cX0_seal 6 = .ok (.ifCond .eq 14, 3) := by decide +kernel
theorem dX0_seal_9 : decode cX0_seal 9 = .ok (.iload_n 1, 1) := by decide +kernel
theorem dX0_seal_10 : decode cX0_seal 10 = .ok (.iload_n 2, 1) := by decide +kernel
theorem dX0_seal_11 : decode cX0_seal 11 = .ok (.iload_n 3, 1) := by decide +kernel
theorem dX0_seal_12 : decode cX0_seal 12 = .ok (.iload 4, 2) := by decide +kernel
theorem dX0_seal_14 : decode cX0_seal 14 = .ok (.invokestatic 83, 3) := by decide +kernel
theorem dX0_seal_17 : decode cX0_seal 17 = .ok (.goto 4, 3) := by decide +kernel
theorem dX0_seal_20 : decode cX0_seal 20 = .ok (.lconst 0, 1) := by decide +kernel
theorem dX0_seal_21 : decode cX0_seal 21 = .ok (.lreturn, 1) := by decide +kernel
theorem dX0_commit_0 : decode cX0_commit 0 = .ok (.aload_n 0, 1) := by decide +kernel
theorem dX0_commit_1 : decode cX0_commit 1 = .ok (.iload_n 1, 1) := by decide +kernel
theorem dX0_commit_2 : decode cX0_commit 2 = .ok (.invokevirtual 87, 3) := by decide +kernel
theorem dX0_commit_5 : decode cX0_commit 5 = .ok (.ifCond .eq 17, 3) := by decide +kernel
theorem dX0_commit_8 : decode cX0_commit 8 = .ok (.lload_n 2, 1) := by decide +kernel
theorem dX0_commit_9 : decode cX0_commit 9 = .ok (.lconst 0, 1) := by decide +kernel
theorem dX0_commit_10 : decode cX0_commit 10 = .ok (.lcmp, 1) := by decide +kernel
theorem dX0_commit_11 : decode cX0_commit 11 = .ok (.ifCond .lt 11, 3) := by decide +kernel
theorem dX0_commit_14 : decode cX0_commit 14 = .ok (.lload_n 2, 1) := by decide +kernel
theorem dX0_commit_15 : decode cX0_commit 15 = .ok (.ldc2_w 91, 3) := by decide +kernel
theorem dX0_commit_18 : decode cX0_commit 18 = .ok (.lcmp, 1) := by decide +kernel
theorem dX0_commit_19 : decode cX0_commit 19 = .ok (.ifCond .le 6, 3) := by decide +kernel
theorem dX0_commit_22 : decode cX0_commit 22 = .ok (.bipush (-2), 2) := by decide +kernel
theorem dX0_commit_24 : decode cX0_commit 24 = .ok (.ireturn, 1) := by decide +kernel
theorem dX0_commit_25 : decode cX0_commit 25 = .ok (.aload_n 0, 1) := by decide +kernel
theorem dX0_commit_26 : decode cX0_commit 26 = .ok (.getfield 93, 3) := by decide +kernel
theorem dX0_commit_29 : decode cX0_commit 29 = .ok (.ifCond .eq 6, 3) := by decide +kernel
theorem dX0_commit_32 : decode cX0_commit 32 = .ok (.bipush (-4), 2) := by decide +kernel
theorem dX0_commit_34 : decode cX0_commit 34 = .ok (.ireturn, 1) := by decide +kernel
theorem dX0_commit_35 : decode cX0_commit 35 = .ok (.aload_n 0, 1) := by decide +kernel
theorem dX0_commit_36 : decode cX0_commit 36 = .ok (.getfield 96, 3) := by decide +kernel
theorem dX0_commit_39 : decode cX0_commit 39 = .ok (.bipush 16, 2) := by decide +kernel
theorem dX0_commit_41 : decode cX0_commit 41 = .ok (.if_icmp .lt 6, 3) := by decide +kernel
theorem dX0_commit_44 : decode cX0_commit 44 = .ok (.bipush (-3), 2) := by decide +kernel
theorem dX0_commit_46 : decode cX0_commit 46 = .ok (.ireturn, 1) := by decide +kernel
theorem dX0_commit_47 : decode cX0_commit 47 = .ok (.aload_n 0, 1) := by decide +kernel
theorem dX0_commit_48 : decode cX0_commit 48 = .ok (.getfield 12, 3) := by decide +kernel
theorem dX0_commit_51 : decode cX0_commit 51 = .ok (.getfield 99, 3) := by decide +kernel
theorem dX0_commit_54 : decode cX0_commit 54 = .ok (.iload_n 1, 1) := by decide +kernel
theorem dX0_commit_55 : decode cX0_commit 55 = .ok (.laload, 1) := by decide +kernel
theorem dX0_commit_56 : decode cX0_commit 56 = .ok (.lload_n 2, 1) := by decide +kernel
theorem dX0_commit_57 : decode cX0_commit 57 = .ok (.lcmp, 1) := by decide +kernel
theorem dX0_commit_58 : decode cX0_commit 58 = .ok (.ifCond .ge 6, 3) := by decide +kernel
theorem dX0_commit_61 : decode cX0_commit 61 = .ok (.bipush (-5), 2) := by decide +kernel
theorem dX0_commit_63 : decode cX0_commit 63 = .ok (.ireturn, 1) := by decide +kernel
theorem dX0_commit_64 : decode cX0_commit 64 = .ok (.aload_n 0, 1) := by decide +kernel
theorem dX0_commit_65 : decode cX0_commit 65 = .ok (.getfield 12, 3) := by decide +kernel
theorem dX0_commit_68 : decode cX0_commit 68 = .ok (.getfield 99, 3) := by decide +kernel
theorem dX0_commit_71 : decode cX0_commit 71 = .ok (.iload_n 1, 1) := by decide +kernel
theorem dX0_commit_72 : decode cX0_commit 72 = .ok (.dup2, 1) := by decide +kernel
theorem dX0_commit_73 : decode cX0_commit 73 = .ok (.laload, 1) := by decide +kernel
theorem dX0_commit_74 : decode cX0_commit 74 = .ok (.lload_n 2, 1) := by decide +kernel
theorem dX0_commit_75 : decode cX0_commit 75 = .ok (.lsub, 1) := by decide +kernel
theorem dX0_commit_76 : decode cX0_commit 76 = .ok (.lastore, 1) := by decide +kernel
theorem dX0_commit_77 : decode cX0_commit 77 = .ok (.aload_n 0, 1) := by decide +kernel
theorem dX0_commit_78 : decode cX0_commit 78 = .ok (.getfield 21, 3) := by decide +kernel
theorem dX0_commit_81 : decode cX0_commit 81 = .ok (.aload_n 0, 1) := by decide +kernel
theorem dX0_commit_82 : decode cX0_commit 82 = .ok (.getfield 96, 3) := by decide +kernel
theorem dX0_commit_85 : decode cX0_commit 85 = .ok (.aaload, 1) := by decide +kernel
theorem dX0_commit_86 : decode cX0_commit 86 = .ok (.iload_n 1, 1) := by decide +kernel
theorem dX0_commit_87 : decode cX0_commit 87 = .ok (.lload_n 2, 1) := by decide +kernel
theorem dX0_commit_88 : decode cX0_commit 88 = .ok (.lload 4, 2) := by decide +kernel
theorem dX0_commit_90 : decode cX0_commit 90 = .ok (.invokevirtual 103, 3) := by decide +kernel
theorem dX0_commit_93 : decode cX0_commit 93 = .ok (.aload_n 0, 1) := by decide +kernel
theorem dX0_commit_94 : decode cX0_commit 94 = .ok (.dup, 1) := by decide +kernel
theorem dX0_commit_95 : decode cX0_commit 95 = .ok (.getfield 96, 3) := by decide +kernel
theorem dX0_commit_98 : decode cX0_commit 98 = .ok (.iconst 1, 1) := by decide +kernel
theorem dX0_commit_99 : decode cX0_commit 99 = .ok (.iadd, 1) := by decide +kernel
theorem dX0_commit_100 : decode cX0_commit 100 = .ok (.putfield 96, 3) := by decide +kernel
theorem dX0_commit_103 : decode cX0_commit 103 = .ok (.aload_n 0, 1) := by decide +kernel
theorem dX0_commit_104 : decode cX0_commit 104 = .ok (.getfield 96, 3) := by decide +kernel
theorem dX0_commit_107 : decode cX0_commit 107 = .ok (.iconst 1, 1) := by decide +kernel
theorem dX0_commit_108 : decode cX0_commit 108 = .ok (.isub, 1) := by decide +kernel
theorem dX0_commit_109 : decode cX0_commit 109 = .ok (.ireturn, 1) := by decide +kernel
theorem dX0_hear_0 : decode cX0_hear 0 = .ok (.iload_n 1, 1) := by decide +kernel
theorem dX0_hear_1 : decode cX0_hear 1 = .ok (.ifCond .lt 26, 3) := by decide +kernel
theorem dX0_hear_4 : decode cX0_hear 4 = .ok (.iload_n 1, 1) := by decide +kernel
theorem dX0_hear_5 : decode cX0_hear 5 = .ok (.iconst 5, 1) := by decide +kernel
theorem dX0_hear_6 : decode cX0_hear 6 = .ok (.if_icmp .ge 21, 3) := by decide +kernel
theorem dX0_hear_9 : decode cX0_hear 9 = .ok (.aload_n 0, 1) := by decide +kernel
theorem dX0_hear_10 : decode cX0_hear 10 = .ok (.iload_n 2, 1) := by decide +kernel
theorem dX0_hear_11 : decode cX0_hear 11 = .ok (.invokevirtual 106, 3) := by decide +kernel
theorem dX0_hear_14 : decode cX0_hear 14 = .ok (.ifCond .eq 13, 3) := by decide +kernel
theorem dX0_hear_17 : decode cX0_hear 17 = .ok (.iload_n 3, 1) := by decide +kernel
theorem dX0_hear_18 : decode cX0_hear 18 = .ok (.ifCond .lt 9, 3) := by decide +kernel
theorem dX0_hear_21 : decode cX0_hear 21 = .ok (.iload_n 3, 1) := by decide +kernel
theorem dX0_hear_22 : decode cX0_hear 22 = .ok (.ldc 109, 2) := by decide +kernel
theorem dX0_hear_24 : decode cX0_hear 24 = .ok (.if_icmp .le 6, 3) := by decide +kernel
theorem dX0_hear_27 : decode cX0_hear 27 = .ok (.bipush (-2), 2) := by decide +kernel
theorem dX0_hear_29 : decode cX0_hear 29 = .ok (.ireturn, 1) := by decide +kernel
theorem dX0_hear_30 : decode cX0_hear 30 = .ok (.aload_n 0, 1) := by decide +kernel
theorem dX0_hear_31 : decode cX0_hear 31 = .ok (.getfield 93, 3) := by decide +kernel
theorem dX0_hear_34 : decode cX0_hear 34 = .ok (.ifCond .eq 6, 3) := by decide +kernel
theorem dX0_hear_37 : decode cX0_hear 37 = .ok (.bipush (-4), 2) := by decide +kernel
theorem dX0_hear_39 : decode cX0_hear 39 = .ok (.ireturn, 1) := by decide +kernel
theorem dX0_hear_40 : decode cX0_hear 40 = .ok (.aload_n 0, 1) := by decide +kernel
theorem dX0_hear_41 : decode cX0_hear 41 = .ok (.getfield 21, 3) := by decide +kernel
theorem dX0_hear_44 : decode cX0_hear 44 = .ok (.iload_n 2, 1) := by decide +kernel
theorem dX0_hear_45 : decode cX0_hear 45 = .ok (.aaload, 1) := by decide +kernel
theorem dX0_hear_46 : decode cX0_hear 46 = .ok (.getfield 110, 3) := by decide +kernel
theorem dX0_hear_49 : decode cX0_hear 49 = .ok (.astore 4, 2) := by decide +kernel
theorem dX0_hear_51 : decode cX0_hear 51 = .ok (.aload 4, 2) := by decide +kernel
theorem dX0_hear_53 : decode cX0_hear 53 = .ok (.iload_n 1, 1) := by decide +kernel
theorem dX0_hear_54 : decode cX0_hear 54 = .ok (.iaload, 1) := by decide +kernel
theorem dX0_hear_55 : decode cX0_hear 55 = .ok (.ldc 113, 2) := by decide +kernel
theorem dX0_hear_57 : decode cX0_hear 57 = .ok (.if_icmp .eq 6, 3) := by decide +kernel
theorem dX0_hear_60 : decode cX0_hear 60 = .ok (.bipush (-6), 2) := by decide +kernel
theorem dX0_hear_62 : decode cX0_hear 62 = .ok (.ireturn, 1) := by decide +kernel
theorem dX0_hear_63 : decode cX0_hear 63 = .ok (.aload 4, 2) := by decide +kernel
theorem dX0_hear_65 : decode cX0_hear 65 = .ok (.iload_n 1, 1) := by decide +kernel
theorem dX0_hear_66 : decode cX0_hear 66 = .ok (.iload_n 3, 1) := by decide +kernel
theorem dX0_hear_67 : decode cX0_hear 67 = .ok (.iastore, 1) := by decide +kernel
theorem dX0_hear_68 : decode cX0_hear 68 = .ok (.iconst 1, 1) := by decide +kernel
theorem dX0_hear_69 : decode cX0_hear 69 = .ok (.ireturn, 1) := by decide +kernel
theorem dX0_open_0 : decode cX0_open 0 = .ok (.aload_n 0, 1) := by decide +kernel
theorem dX0_open_1 : decode cX0_open 1 = .ok (.iload_n 1, 1) := by decide +kernel
theorem dX0_open_2 : decode cX0_open 2 = .ok (.invokevirtual 106, 3) := by decide +kernel
theorem dX0_open_5 : decode cX0_open 5 = .ok (.ifCond .eq 13, 3) := by decide +kernel
theorem dX0_open_8 : decode cX0_open 8 = .ok (.iload_n 2, 1) := by decide +kernel
theorem dX0_open_9 : decode cX0_open 9 = .ok (.iload_n 3, 1) := by decide +kernel
theorem dX0_open_10 : decode cX0_open 10 = .ok (.iload 4, 2) := by decide +kernel
theorem dX0_open_12 : decode cX0_open 12 = .ok (.invokestatic 79, 3) := by decide +kernel
theorem dX0_open_15 : decode cX0_open 15 = .ok (.ifCond .ne 6, 3) := by decide +kernel
theorem dX0_open_18 : decode cX0_open 18 = .ok (.bipush (-2), 2) := by decide +kernel
theorem dX0_open_20 : decode cX0_open 20 = .ok (.ireturn, 1) := by decide +kernel
theorem dX0_open_21 : decode cX0_open 21 = .ok (.aload_n 0, 1) := by decide +kernel
theorem dX0_open_22 : decode cX0_open 22 = .ok (.getfield 21, 3) := by decide +kernel
theorem dX0_open_25 : decode cX0_open 25 = .ok (.iload_n 1, 1) := by decide +kernel
theorem dX0_open_26 : decode cX0_open 26 = .ok (.aaload, 1) := by decide +kernel
theorem dX0_open_27 : decode cX0_open 27 = .ok (.astore 6, 2) := by decide +kernel
theorem dX0_open_29 : decode cX0_open 29 = .ok (.aload_n 0, 1) := by decide +kernel
theorem dX0_open_30 : decode cX0_open 30 = .ok (.getfield 93, 3) := by decide +kernel
theorem dX0_open_33 : decode cX0_open 33 = .ok (.iconst 1, 1) := by decide +kernel
theorem dX0_open_34 : decode cX0_open 34 = .ok (.if_icmp .ne 11, 3) := by decide +kernel
theorem dX0_open_37 : decode cX0_open 37 = .ok (.aload 6, 2) := by decide +kernel
theorem dX0_open_39 : decode cX0_open 39 = .ok (.getfield 114, 3) := by decide +kernel
theorem dX0_open_42 : decode cX0_open 42 = .ok (.ifCond .eq 6, 3) := by decide +kernel
theorem dX0_open_45 : decode cX0_open 45 = .ok (.bipush (-4), 2) := by decide +kernel
theorem dX0_open_47 : decode cX0_open 47 = .ok (.ireturn, 1) := by decide +kernel
theorem dX0_open_48 : decode cX0_open 48 = .ok (.aload 6, 2) := by decide +kernel
theorem dX0_open_50 : decode cX0_open 50 = .ok (.getfield 118, 3) := by decide +kernel
theorem dX0_open_53 : decode cX0_open 53 = .ok (.iload_n 2, 1) := by decide +kernel
theorem dX0_open_54 : decode cX0_open 54 = .ok (.iload_n 3, 1) := by decide +kernel
theorem dX0_open_55 : decode cX0_open 55 = .ok (.iload 4, 2) := by decide +kernel
theorem dX0_open_57 : decode cX0_open 57 = .ok (.iload 5, 2) := by decide +kernel
theorem dX0_open_59 : decode cX0_open 59 = .ok (.invokestatic 83, 3) := by decide +kernel
theorem dX0_open_62 : decode cX0_open 62 = .ok (.lcmp, 1) := by decide +kernel
theorem dX0_open_63 : decode cX0_open 63 = .ok (.ifCond .eq 6, 3) := by decide +kernel
theorem dX0_open_66 : decode cX0_open 66 = .ok (.bipush (-6), 2) := by decide +kernel
theorem dX0_open_68 : decode cX0_open 68 = .ok (.ireturn, 1) := by decide +kernel
theorem dX0_open_69 : decode cX0_open 69 = .ok (.aload 6, 2) := by decide +kernel
theorem dX0_open_71 : decode cX0_open 71 = .ok (.iload_n 2, 1) := by decide +kernel
theorem dX0_open_72 : decode cX0_open 72 = .ok (.iload_n 3, 1) := by decide +kernel
theorem dX0_open_73 : decode cX0_open 73 = .ok (.iload 4, 2) := by decide +kernel
theorem dX0_open_75 : decode cX0_open 75 = .ok (.invokevirtual 121, 3) := by decide +kernel
theorem dX0_open_78 : decode cX0_open 78 = .ok (.aload_n 0, 1) := by decide +kernel
theorem dX0_open_79 : decode cX0_open 79 = .ok (.getfield 12, 3) := by decide +kernel
theorem dX0_open_82 : decode cX0_open 82 = .ok (.getfield 99, 3) := by decide +kernel
theorem dX0_open_85 : decode cX0_open 85 = .ok (.aload 6, 2) := by decide +kernel
theorem dX0_open_87 : decode cX0_open 87 = .ok (.getfield 125, 3) := by decide +kernel
theorem dX0_open_90 : decode cX0_open 90 = .ok (.dup2, 1) := by decide +kernel
theorem dX0_open_91 : decode cX0_open 91 = .ok (.laload, 1) := by decide +kernel
theorem dX0_open_92 : decode cX0_open 92 = .ok (.aload 6, 2) := by decide +kernel
theorem dX0_open_94 : decode cX0_open 94 = .ok (.getfield 128, 3) := by decide +kernel
theorem dX0_open_97 : decode cX0_open 97 = .ok (.ladd, 1) := by decide +kernel
theorem dX0_open_98 : decode cX0_open 98 = .ok (.lastore, 1) := by decide +kernel
theorem dX0_open_99 : decode cX0_open 99 = .ok (.iconst 1, 1) := by decide +kernel
theorem dX0_open_100 : decode cX0_open 100 = .ok (.ireturn, 1) := by decide +kernel
theorem dX0_next_0 : decode cX0_next 0 = .ok (.aload_n 0, 1) := by decide +kernel
theorem dX0_next_1 : decode cX0_next 1 = .ok (.getfield 93, 3) := by decide +kernel
theorem dX0_next_4 : decode cX0_next 4 = .ok (.ifCond .ne 11, 3) := by decide +kernel
theorem dX0_next_7 : decode cX0_next 7 = .ok (.aload_n 0, 1) := by decide +kernel
theorem dX0_next_8 : decode cX0_next 8 = .ok (.iconst 1, 1) := by decide +kernel
theorem dX0_next_9 : decode cX0_next 9 = .ok (.putfield 93, 3) := by decide +kernel
theorem dX0_next_12 : decode cX0_next 12 = .ok (.goto 37, 3) := by decide +kernel
theorem dX0_next_15 : decode cX0_next 15 = .ok (.aload_n 0, 1) := by decide +kernel
theorem dX0_next_16 : decode cX0_next 16 = .ok (.getfield 93, 3) := by decide +kernel
theorem dX0_next_19 : decode cX0_next 19 = .ok (.iconst 1, 1) := by decide +kernel
theorem dX0_next_20 : decode cX0_next 20 = .ok (.if_icmp .ne 15, 3) := by decide +kernel
theorem dX0_next_23 : decode cX0_next 23 = .ok (.aload_n 0, 1) := by decide +kernel
theorem dX0_next_24 : decode cX0_next 24 = .ok (.iconst 2, 1) := by decide +kernel
theorem dX0_next_25 : decode cX0_next 25 = .ok (.putfield 93, 3) := by decide +kernel
theorem dX0_next_28 : decode cX0_next 28 = .ok (.aload_n 0, 1) := by decide +kernel
theorem dX0_next_29 : decode cX0_next 29 = .ok (.invokevirtual 131, 3) := by decide +kernel
theorem dX0_next_32 : decode cX0_next 32 = .ok (.goto 17, 3) := by decide +kernel
theorem dX0_next_35 : decode cX0_next 35 = .ok (.aload_n 0, 1) := by decide +kernel
theorem dX0_next_36 : decode cX0_next 36 = .ok (.dup, 1) := by decide +kernel
theorem dX0_next_37 : decode cX0_next 37 = .ok (.getfield 65, 3) := by decide +kernel
theorem dX0_next_40 : decode cX0_next 40 = .ok (.iconst 1, 1) := by decide +kernel
theorem dX0_next_41 : decode cX0_next 41 = .ok (.iadd, 1) := by decide +kernel
theorem dX0_next_42 : decode cX0_next 42 = .ok (.putfield 65, 3) := by decide +kernel
theorem dX0_next_45 : decode cX0_next 45 = .ok (.aload_n 0, 1) := by decide +kernel
theorem dX0_next_46 : decode cX0_next 46 = .ok (.invokevirtual 68, 3) := by decide +kernel
theorem dX0_next_49 : decode cX0_next 49 = .ok (.aload_n 0, 1) := by decide +kernel
theorem dX0_next_50 : decode cX0_next 50 = .ok (.getfield 93, 3) := by decide +kernel
theorem dX0_next_53 : decode cX0_next 53 = .ok (.ireturn, 1) := by decide +kernel
theorem dX0_order_0 : decode cX0_order 0 = .ok (.iload_n 1, 1) := by decide +kernel
theorem dX0_order_1 : decode cX0_order 1 = .ok (.ifCond .lt 8, 3) := by decide +kernel
theorem dX0_order_4 : decode cX0_order 4 = .ok (.iload_n 1, 1) := by decide +kernel
theorem dX0_order_5 : decode cX0_order 5 = .ok (.iconst 4, 1) := by decide +kernel
theorem dX0_order_6 : decode cX0_order 6 = .ok (.if_icmp .le 6, 3) := by decide +kernel
theorem dX0_order_9 : decode cX0_order 9 = .ok (.bipush (-2), 2) := by decide +kernel
theorem dX0_order_11 : decode cX0_order 11 = .ok (.ireturn, 1) := by decide +kernel
theorem dX0_order_12 : decode cX0_order 12 = .ok (.aload_n 0, 1) := by decide +kernel
theorem dX0_order_13 : decode cX0_order 13 = .ok (.getfield 93, 3) := by decide +kernel
theorem dX0_order_16 : decode cX0_order 16 = .ok (.iconst 2, 1) := by decide +kernel
theorem dX0_order_17 : decode cX0_order 17 = .ok (.if_icmp .eq 6, 3) := by decide +kernel
theorem dX0_order_20 : decode cX0_order 20 = .ok (.bipush (-4), 2) := by decide +kernel
theorem dX0_order_22 : decode cX0_order 22 = .ok (.ireturn, 1) := by decide +kernel
theorem dX0_order_23 : decode cX0_order 23 = .ok (.aload_n 0, 1) := by decide +kernel
theorem dX0_order_24 : decode cX0_order 24 = .ok (.getfield 28, 3) := by decide +kernel
theorem dX0_order_27 : decode cX0_order 27 = .ok (.iconst 0, 1) := by decide +kernel
theorem dX0_order_28 : decode cX0_order 28 = .ok (.putfield 134, 3) := by decide +kernel
theorem dX0_order_31 : decode cX0_order 31 = .ok (.iload_n 1, 1) := by decide +kernel
theorem dX0_order_32 : decode cX0_order 32 = .ok (.iconst 3, 1) := by decide +kernel
theorem dX0_order_33 : decode cX0_order 33 = .ok (.if_icmp .ne 40, 3) := by decide +kernel
theorem dX0_order_36 : decode cX0_order 36 = .ok (.aload_n 0, 1) := by decide +kernel
theorem dX0_order_37 : decode cX0_order 37 = .ok (.getfield 42, 3) := by decide +kernel
theorem dX0_order_40 : decode cX0_order 40 = .ok (.aload_n 0, 1) := by decide +kernel
theorem dX0_order_41 : decode cX0_order 41 = .ok (.getfield 21, 3) := by decide +kernel
theorem dX0_order_44 : decode cX0_order 44 = .ok (.aload_n 0, 1) := by decide +kernel
theorem dX0_order_45 : decode cX0_order 45 = .ok (.getfield 96, 3) := by decide +kernel
theorem dX0_order_48 : decode cX0_order 48 = .ok (.invokevirtual 137, 3) := by decide +kernel
theorem dX0_order_51 : decode cX0_order 51 = .ok (.aload_n 0, 1) := by decide +kernel
theorem dX0_order_52 : decode cX0_order 52 = .ok (.getfield 42, 3) := by decide +kernel
theorem dX0_order_55 : decode cX0_order 55 = .ok (.aload_n 0, 1) := by decide +kernel
theorem dX0_order_56 : decode cX0_order 56 = .ok (.getfield 28, 3) := by decide +kernel
theorem dX0_order_59 : decode cX0_order 59 = .ok (.aload_n 0, 1) := by decide +kernel
theorem dX0_order_60 : decode cX0_order 60 = .ok (.invokevirtual 141, 3) := by decide +kernel
theorem dX0_order_63 : decode cX0_order 63 = .ok (.aload_n 0, 1) := by decide +kernel
theorem dX0_order_64 : decode cX0_order 64 = .ok (.getfield 96, 3) := by decide +kernel
theorem dX0_order_67 : decode cX0_order 67 = .ok (.invokevirtual 145, 3) := by decide +kernel
theorem dX0_order_70 : decode cX0_order 70 = .ok (.goto 13, 3) := by decide +kernel
theorem dX0_order_73 : decode cX0_order 73 = .ok (.aload_n 0, 1) := by decide +kernel
theorem dX0_order_74 : decode cX0_order 74 = .ok (.invokevirtual 149, 3) := by decide +kernel
theorem dX0_order_77 : decode cX0_order 77 = .ok (.aload_n 0, 1) := by decide +kernel
theorem dX0_order_78 : decode cX0_order 78 = .ok (.iload_n 1, 1) := by decide +kernel
theorem dX0_order_79 : decode cX0_order 79 = .ok (.lload_n 2, 1) := by decide +kernel
theorem dX0_order_80 : decode cX0_order 80 = .ok (.invokevirtual 152, 3) := by decide +kernel
theorem dX0_order_83 : decode cX0_order 83 = .ok (.aload_n 0, 1) := by decide +kernel
theorem dX0_order_84 : decode cX0_order 84 = .ok (.iconst 1, 1) := by decide +kernel
theorem dX0_order_85 : decode cX0_order 85 = .ok (.putfield 156, 3) := by decide +kernel
theorem dX0_order_88 : decode cX0_order 88 = .ok (.aload_n 0, 1) := by decide +kernel
theorem dX0_order_89 : decode cX0_order 89 = .ok (.getfield 28, 3) := by decide +kernel
theorem dX0_order_92 : decode cX0_order 92 = .ok (.getfield 134, 3) := by decide +kernel
theorem dX0_order_95 : decode cX0_order 95 = .ok (.ireturn, 1) := by decide +kernel
theorem dX0_at_0 : decode cX0_at 0 = .ok (.aload_n 0, 1) := by decide +kernel
theorem dX0_at_1 : decode cX0_at 1 = .ok (.getfield 28, 3) := by decide +kernel
theorem dX0_at_4 : decode cX0_at 4 = .ok (.iload_n 1, 1) := by decide +kernel
theorem dX0_at_5 : decode cX0_at 5 = .ok (.invokevirtual 159, 3) := by decide +kernel
theorem dX0_at_8 : decode cX0_at 8 = .ok (.ifCond .eq 15, 3) := by decide +kernel
theorem dX0_at_11 : decode cX0_at 11 = .ok (.aload_n 0, 1) := by decide +kernel
theorem dX0_at_12 : decode cX0_at 12 = .ok (.getfield 28, 3) := by decide +kernel
theorem dX0_at_15 : decode cX0_at 15 = .ok (.getfield 162, 3) := by decide +kernel
theorem dX0_at_18 : decode cX0_at 18 = .ok (.iload_n 1, 1) := by decide +kernel
theorem dX0_at_19 : decode cX0_at 19 = .ok (.iaload, 1) := by decide +kernel
theorem dX0_at_20 : decode cX0_at 20 = .ok (.goto 4, 3) := by decide +kernel
theorem dX0_at_23 : decode cX0_at 23 = .ok (.iconst (-1), 1) := by decide +kernel
theorem dX0_at_24 : decode cX0_at 24 = .ok (.ireturn, 1) := by decide +kernel
theorem dX0_linked_0 : decode cX0_linked 0 = .ok (.aload_n 0, 1) := by decide +kernel
theorem dX0_linked_1 : decode cX0_linked 1 = .ok (.iload_n 1, 1) := by decide +kernel
theorem dX0_linked_2 : decode cX0_linked 2 = .ok (.invokevirtual 165, 3) := by decide +kernel
theorem dX0_linked_5 : decode cX0_linked 5 = .ok (.ifCond .eq 11, 3) := by decide +kernel
theorem dX0_linked_8 : decode cX0_linked 8 = .ok (.aload_n 0, 1) := by decide +kernel
theorem dX0_linked_9 : decode cX0_linked 9 = .ok (.iload_n 2, 1) := by decide +kernel
theorem dX0_linked_10 : decode cX0_linked 10 = .ok (.invokevirtual 165, 3) := by decide +kernel
theorem dX0_linked_13 : decode cX0_linked 13 = .ok (.ifCond .ne 6, 3) := by decide +kernel
theorem dX0_linked_16 : decode cX0_linked 16 = .ok (.bipush (-2), 2) := by decide +kernel
theorem dX0_linked_18 : decode cX0_linked 18 = .ok (.ireturn, 1) := by decide +kernel
theorem dX0_linked_19 : decode cX0_linked 19 = .ok (.aload_n 0, 1) := by decide +kernel
theorem dX0_linked_20 : decode cX0_linked 20 = .ok (.getfield 42, 3) := by decide +kernel
theorem dX0_linked_23 : decode cX0_linked 23 = .ok (.aload_n 0, 1) := by decide +kernel
theorem dX0_linked_24 : decode cX0_linked 24 = .ok (.getfield 21, 3) := by decide +kernel
theorem dX0_linked_27 : decode cX0_linked 27 = .ok (.aload_n 0, 1) := by decide +kernel
theorem dX0_linked_28 : decode cX0_linked 28 = .ok (.getfield 96, 3) := by decide +kernel
theorem dX0_linked_31 : decode cX0_linked 31 = .ok (.invokevirtual 137, 3) := by decide +kernel
theorem dX0_linked_34 : decode cX0_linked 34 = .ok (.aload_n 0, 1) := by decide +kernel
theorem dX0_linked_35 : decode cX0_linked 35 = .ok (.getfield 42, 3) := by decide +kernel
theorem dX0_linked_38 : decode cX0_linked 38 = .ok (.iload_n 1, 1) := by decide +kernel
theorem dX0_linked_39 : decode cX0_linked 39 = .ok (.iload_n 2, 1) := by decide +kernel
theorem dX0_linked_40 : decode cX0_linked 40 = .ok (.invokevirtual 168, 3) := by decide +kernel
theorem dX0_linked_43 : decode cX0_linked 43 = .ok (.ifCond .eq 7, 3) := by decide +kernel
theorem dX0_linked_46 : decode cX0_linked 46 = .ok (.iconst 1, 1) := by decide +kernel
theorem dX0_linked_47 : decode cX0_linked 47 = .ok (.goto 4, 3) := by decide +kernel
theorem dX0_linked_50 : decode cX0_linked 50 = .ok (.iconst 0, 1) := by decide +kernel
theorem dX0_linked_51 : decode cX0_linked 51 = .ok (.ireturn, 1) := by decide +kernel
theorem dX0_heard_0 : decode cX0_heard 0 = .ok (.aload_n 0, 1) := by decide +kernel
theorem dX0_heard_1 : decode cX0_heard 1 = .ok (.iload_n 1, 1) := by decide +kernel
theorem dX0_heard_2 : decode cX0_heard 2 = .ok (.invokevirtual 106, 3) := by decide +kernel
theorem dX0_heard_5 : decode cX0_heard 5 = .ok (.ifCond .ne 6, 3) := by decide +kernel
theorem dX0_heard_8 : decode cX0_heard 8 = .ok (.bipush (-2), 2) := by decide +kernel
theorem dX0_heard_10 : decode cX0_heard 10 = .ok (.ireturn, 1) := by decide +kernel
theorem dX0_heard_11 : decode cX0_heard 11 = .ok (.aload_n 0, 1) := by decide +kernel
theorem dX0_heard_12 : decode cX0_heard 12 = .ok (.getfield 21, 3) := by decide +kernel
theorem dX0_heard_15 : decode cX0_heard 15 = .ok (.iload_n 1, 1) := by decide +kernel
theorem dX0_heard_16 : decode cX0_heard 16 = .ok (.aaload, 1) := by decide +kernel
theorem dX0_heard_17 : decode cX0_heard 17 = .ok (.invokevirtual 172, 3) := by decide +kernel
theorem dX0_heard_20 : decode cX0_heard 20 = .ok (.istore_n 2, 1) := by decide +kernel
theorem dX0_heard_21 : decode cX0_heard 21 = .ok (.iload_n 2, 1) := by decide +kernel
theorem dX0_heard_22 : decode cX0_heard 22 = .ok (.ldc 113, 2) := by decide +kernel
theorem dX0_heard_24 : decode cX0_heard 24 = .ok (.if_icmp .ne 7, 3) := by decide +kernel
theorem dX0_heard_27 : decode cX0_heard 27 = .ok (.iconst (-1), 1) := by decide +kernel
theorem dX0_heard_28 : decode cX0_heard 28 = .ok (.goto 4, 3) := by decide +kernel
theorem dX0_heard_31 : decode cX0_heard 31 = .ok (.iload_n 2, 1) := by decide +kernel
theorem dX0_heard_32 : decode cX0_heard 32 = .ok (.ireturn, 1) := by decide +kernel
theorem dX0_play_0 : decode cX0_play 0 = .ok (.aload_n 0, 1) := by decide +kernel
theorem dX0_play_1 : decode cX0_play 1 = .ok (.invokevirtual 175, 3) := by decide +kernel
theorem dX0_play_4 : decode cX0_play 4 = .ok (.ifCond .ne 6, 3) := by decide +kernel
theorem dX0_play_7 : decode cX0_play 7 = .ok (.bipush (-4), 2) := by decide +kernel
theorem dX0_play_9 : decode cX0_play 9 = .ok (.ireturn, 1) := by decide +kernel
theorem dX0_play_10 : decode cX0_play 10 = .ok (.aload_n 0, 1) := by decide +kernel
theorem dX0_play_11 : decode cX0_play 11 = .ok (.iconst 1, 1) := by decide +kernel
theorem dX0_play_12 : decode cX0_play 12 = .ok (.putfield 179, 3) := by decide +kernel
theorem dX0_play_15 : decode cX0_play 15 = .ok (.iconst 0, 1) := by decide +kernel
theorem dX0_play_16 : decode cX0_play 16 = .ok (.istore_n 1, 1) := by decide +kernel
theorem dX0_play_17 : decode cX0_play 17 = .ok (.iconst 0, 1) := by decide +kernel
theorem dX0_play_18 : decode cX0_play 18 = .ok (.istore_n 2, 1) := by decide +kernel
theorem dX0_play_19 : decode cX0_play 19 = .ok (.iload_n 2, 1) := by decide +kernel
theorem dX0_play_20 : decode cX0_play 20 = .ok (.aload_n 0, 1) := by decide +kernel
theorem dX0_play_21 : decode cX0_play 21 = .ok (.getfield 28, 3) := by decide +kernel
theorem dX0_play_24 : decode cX0_play 24 = .ok (.getfield 134, 3) := by decide +kernel
theorem dX0_play_27 : decode cX0_play 27 = .ok (.if_icmp .ge 56, 3) := by decide +kernel
theorem dX0_play_30 : decode cX0_play 30 = .ok (.aload_n 0, 1) := by decide +kernel
theorem dX0_play_31 : decode cX0_play 31 = .ok (.getfield 21, 3) := by decide +kernel
theorem dX0_play_34 : decode cX0_play 34 = .ok (.aload_n 0, 1) := by decide +kernel
theorem dX0_play_35 : decode cX0_play 35 = .ok (.getfield 28, 3) := by decide +kernel
theorem dX0_play_38 : decode cX0_play 38 = .ok (.getfield 162, 3) := by decide +kernel
theorem dX0_play_41 : decode cX0_play 41 = .ok (.iload_n 2, 1) := by decide +kernel
theorem dX0_play_42 : decode cX0_play 42 = .ok (.iaload, 1) := by decide +kernel
theorem dX0_play_43 : decode cX0_play 43 = .ok (.aaload, 1) := by decide +kernel
theorem dX0_play_44 : decode cX0_play 44 = .ok (.astore_n 3, 1) := by decide +kernel
theorem dX0_play_45 : decode cX0_play 45 = .ok (.aload_n 0, 1) := by decide +kernel
theorem dX0_play_46 : decode cX0_play 46 = .ok (.getfield 12, 3) := by decide +kernel
theorem dX0_play_49 : decode cX0_play 49 = .ok (.aload_n 3, 1) := by decide +kernel
theorem dX0_play_50 : decode cX0_play 50 = .ok (.invokevirtual 182, 3) := by decide +kernel
theorem dX0_play_53 : decode cX0_play 53 = .ok (.lstore 4, 2) := by decide +kernel
theorem dX0_play_55 : decode cX0_play 55 = .ok (.lload 4, 2) := by decide +kernel
theorem dX0_play_57 : decode cX0_play 57 = .ok (.ldc2_w 186, 3) := by decide +kernel
theorem dX0_play_60 : decode cX0_play 60 = .ok (.lcmp, 1) := by decide +kernel
theorem dX0_play_61 : decode cX0_play 61 = .ok (.ifCond .eq 16, 3) := by decide +kernel
theorem dX0_play_64 : decode cX0_play 64 = .ok (.aload_n 3, 1) := by decide +kernel
theorem dX0_play_65 : decode cX0_play 65 = .ok (.aload_n 3, 1) := by decide +kernel
theorem dX0_play_66 : decode cX0_play 66 = .ok (.getfield 188, 3) := by decide +kernel
theorem dX0_play_69 : decode cX0_play 69 = .ok (.lload 4, 2) := by decide +kernel
theorem dX0_play_71 : decode cX0_play 71 = .ok (.invokevirtual 191, 3) := by decide +kernel
theorem dX0_play_74 : decode cX0_play 74 = .ok (.iinc 1 1, 3) := by decide +kernel
theorem dX0_play_77 : decode cX0_play 77 = .ok (.iinc 2 1, 3) := by decide +kernel
theorem dX0_play_80 : decode cX0_play 80 = .ok (.goto (-61), 3) := by decide +kernel
theorem dX0_play_83 : decode cX0_play 83 = .ok (.iload_n 1, 1) := by decide +kernel
theorem dX0_play_84 : decode cX0_play 84 = .ok (.ireturn, 1) := by decide +kernel
theorem dX0_batch_0 : decode cX0_batch 0 = .ok (.aload_n 0, 1) := by decide +kernel
theorem dX0_batch_1 : decode cX0_batch 1 = .ok (.invokevirtual 175, 3) := by decide +kernel
theorem dX0_batch_4 : decode cX0_batch 4 = .ok (.ifCond .ne 6, 3) := by decide +kernel
theorem dX0_batch_7 : decode cX0_batch 7 = .ok (.bipush (-4), 2) := by decide +kernel
theorem dX0_batch_9 : decode cX0_batch 9 = .ok (.ireturn, 1) := by decide +kernel
theorem dX0_batch_10 : decode cX0_batch 10 = .ok (.aload_n 0, 1) := by decide +kernel
theorem dX0_batch_11 : decode cX0_batch 11 = .ok (.iconst 1, 1) := by decide +kernel
theorem dX0_batch_12 : decode cX0_batch 12 = .ok (.putfield 179, 3) := by decide +kernel
theorem dX0_batch_15 : decode cX0_batch 15 = .ok (.aload_n 0, 1) := by decide +kernel
theorem dX0_batch_16 : decode cX0_batch 16 = .ok (.getfield 49, 3) := by decide +kernel
theorem dX0_batch_19 : decode cX0_batch 19 = .ok (.aload_n 0, 1) := by decide +kernel
theorem dX0_batch_20 : decode cX0_batch 20 = .ok (.getfield 28, 3) := by decide +kernel
theorem dX0_batch_23 : decode cX0_batch 23 = .ok (.aload_n 0, 1) := by decide +kernel
theorem dX0_batch_24 : decode cX0_batch 24 = .ok (.getfield 21, 3) := by decide +kernel
theorem dX0_batch_27 : decode cX0_batch 27 = .ok (.aload_n 0, 1) := by decide +kernel
theorem dX0_batch_28 : decode cX0_batch 28 = .ok (.getfield 12, 3) := by decide +kernel
theorem dX0_batch_31 : decode cX0_batch 31 = .ok (.invokevirtual 194, 3) := by decide +kernel
theorem dX0_batch_34 : decode cX0_batch 34 = .ok (.istore_n 1, 1) := by decide +kernel
theorem dX0_batch_35 : decode cX0_batch 35 = .ok (.iload_n 1, 1) := by decide +kernel
theorem dX0_batch_36 : decode cX0_batch 36 = .ok (.iconst (-1), 1) := by decide +kernel
theorem dX0_batch_37 : decode cX0_batch 37 = .ok (.if_icmp .eq 23, 3) := by decide +kernel
theorem dX0_batch_40 : decode cX0_batch 40 = .ok (.aload_n 0, 1) := by decide +kernel
theorem dX0_batch_41 : decode cX0_batch 41 = .ok (.getfield 49, 3) := by decide +kernel
theorem dX0_batch_44 : decode cX0_batch 44 = .ok (.iload_n 1, 1) := by decide +kernel
theorem dX0_batch_45 : decode cX0_batch 45 = .ok (.aload_n 0, 1) := by decide +kernel
theorem dX0_batch_46 : decode cX0_batch 46 = .ok (.getfield 28, 3) := by decide +kernel
theorem dX0_batch_49 : decode cX0_batch 49 = .ok (.aload_n 0, 1) := by decide +kernel
theorem dX0_batch_50 : decode cX0_batch 50 = .ok (.getfield 21, 3) := by decide +kernel
theorem dX0_batch_53 : decode cX0_batch 53 = .ok (.aload_n 0, 1) := by decide +kernel
theorem dX0_batch_54 : decode cX0_batch 54 = .ok (.getfield 12, 3) := by decide +kernel
theorem dX0_batch_57 : decode cX0_batch 57 = .ok (.invokevirtual 198, 3) := by decide +kernel
theorem dX0_batch_60 : decode cX0_batch 60 = .ok (.iload_n 1, 1) := by decide +kernel
theorem dX0_batch_61 : decode cX0_batch 61 = .ok (.ireturn, 1) := by decide +kernel
theorem dX0_done_0 : decode cX0_done 0 = .ok (.aload_n 0, 1) := by decide +kernel
theorem dX0_done_1 : decode cX0_done 1 = .ok (.iload_n 1, 1) := by decide +kernel
theorem dX0_done_2 : decode cX0_done 2 = .ok (.invokevirtual 106, 3) := by decide +kernel
theorem dX0_done_5 : decode cX0_done 5 = .ok (.ifCond .ne 6, 3) := by decide +kernel
theorem dX0_done_8 : decode cX0_done 8 = .ok (.bipush (-2), 2) := by decide +kernel
theorem dX0_done_10 : decode cX0_done 10 = .ok (.ireturn, 1) := by decide +kernel
theorem dX0_done_11 : decode cX0_done 11 = .ok (.aload_n 0, 1) := by decide +kernel
theorem dX0_done_12 : decode cX0_done 12 = .ok (.getfield 179, 3) := by decide +kernel
theorem dX0_done_15 : decode cX0_done 15 = .ok (.ifCond .eq 15, 3) := by decide +kernel
theorem dX0_done_18 : decode cX0_done 18 = .ok (.aload_n 0, 1) := by decide +kernel
theorem dX0_done_19 : decode cX0_done 19 = .ok (.getfield 21, 3) := by decide +kernel
theorem dX0_done_22 : decode cX0_done 22 = .ok (.iload_n 1, 1) := by decide +kernel
theorem dX0_done_23 : decode cX0_done 23 = .ok (.aaload, 1) := by decide +kernel
theorem dX0_done_24 : decode cX0_done 24 = .ok (.getfield 202, 3) := by decide +kernel
theorem dX0_done_27 : decode cX0_done 27 = .ok (.goto 4, 3) := by decide +kernel
theorem dX0_done_30 : decode cX0_done 30 = .ok (.iconst (-1), 1) := by decide +kernel
theorem dX0_done_31 : decode cX0_done 31 = .ok (.ireturn, 1) := by decide +kernel
theorem dX0_passed_0 : decode cX0_passed 0 = .ok (.aload_n 0, 1) := by decide +kernel
theorem dX0_passed_1 : decode cX0_passed 1 = .ok (.iload_n 1, 1) := by decide +kernel
theorem dX0_passed_2 : decode cX0_passed 2 = .ok (.invokevirtual 106, 3) := by decide +kernel
theorem dX0_passed_5 : decode cX0_passed 5 = .ok (.ifCond .ne 7, 3) := by decide +kernel
theorem dX0_passed_8 : decode cX0_passed 8 = .ok (.ldc2_w 205, 3) := by decide +kernel
theorem dX0_passed_11 : decode cX0_passed 11 = .ok (.lreturn, 1) := by decide +kernel
theorem dX0_passed_12 : decode cX0_passed 12 = .ok (.aload_n 0, 1) := by decide +kernel
theorem dX0_passed_13 : decode cX0_passed 13 = .ok (.getfield 179, 3) := by decide +kernel
theorem dX0_passed_16 : decode cX0_passed 16 = .ok (.ifCond .eq 15, 3) := by decide +kernel
theorem dX0_passed_19 : decode cX0_passed 19 = .ok (.aload_n 0, 1) := by decide +kernel
theorem dX0_passed_20 : decode cX0_passed 20 = .ok (.getfield 21, 3) := by decide +kernel
theorem dX0_passed_23 : decode cX0_passed 23 = .ok (.iload_n 1, 1) := by decide +kernel
theorem dX0_passed_24 : decode cX0_passed 24 = .ok (.aaload, 1) := by decide +kernel
theorem dX0_passed_25 : decode cX0_passed 25 = .ok (.getfield 207, 3) := by decide +kernel
theorem dX0_passed_28 : decode cX0_passed 28 = .ok (.goto 6, 3) := by decide +kernel
theorem dX0_passed_31 : decode cX0_passed 31 = .ok (.ldc2_w 186, 3) := by decide +kernel
theorem dX0_passed_34 : decode cX0_passed 34 = .ok (.lreturn, 1) := by decide +kernel
theorem dX0_gain_0 : decode cX0_gain 0 = .ok (.aload_n 0, 1) := by decide +kernel
theorem dX0_gain_1 : decode cX0_gain 1 = .ok (.invokevirtual 175, 3) := by decide +kernel
theorem dX0_gain_4 : decode cX0_gain 4 = .ok (.ifCond .eq 32, 3) := by decide +kernel
theorem dX0_gain_7 : decode cX0_gain 7 = .ok (.aload_n 0, 1) := by decide +kernel
theorem dX0_gain_8 : decode cX0_gain 8 = .ok (.getfield 28, 3) := by decide +kernel
theorem dX0_gain_11 : decode cX0_gain 11 = .ok (.iload_n 1, 1) := by decide +kernel
theorem dX0_gain_12 : decode cX0_gain 12 = .ok (.invokevirtual 159, 3) := by decide +kernel
theorem dX0_gain_15 : decode cX0_gain 15 = .ok (.ifCond .eq 21, 3) := by decide +kernel
theorem dX0_gain_18 : decode cX0_gain 18 = .ok (.aload_n 0, 1) := by decide +kernel
theorem dX0_gain_19 : decode cX0_gain 19 = .ok (.getfield 28, 3) := by decide +kernel
theorem dX0_gain_22 : decode cX0_gain 22 = .ok (.iload_n 2, 1) := by decide +kernel
theorem dX0_gain_23 : decode cX0_gain 23 = .ok (.invokevirtual 159, 3) := by decide +kernel
theorem dX0_gain_26 : decode cX0_gain 26 = .ok (.ifCond .eq 10, 3) := by decide +kernel
theorem dX0_gain_29 : decode cX0_gain 29 = .ok (.iload_n 3, 1) := by decide +kernel
theorem dX0_gain_30 : decode cX0_gain 30 = .ok (.invokestatic 210, 3) := by decide +kernel
theorem dX0_gain_33 : decode cX0_gain 33 = .ok (.ifCond .ne 5, 3) := by decide +kernel
theorem dX0_gain_36 : decode cX0_gain 36 = .ok (.lconst 0, 1) := by decide +kernel
theorem dX0_gain_37 : decode cX0_gain 37 = .ok (.lreturn, 1) := by decide +kernel
theorem dX0_gain_38 : decode cX0_gain 38 = .ok (.aload_n 0, 1) := by decide +kernel
theorem dX0_gain_39 : decode cX0_gain 39 = .ok (.getfield 32, 3) := by decide +kernel
theorem dX0_gain_42 : decode cX0_gain 42 = .ok (.aload_n 0, 1) := by decide +kernel
theorem dX0_gain_43 : decode cX0_gain 43 = .ok (.getfield 28, 3) := by decide +kernel
theorem dX0_gain_46 : decode cX0_gain 46 = .ok (.invokevirtual 213, 3) := by decide +kernel
theorem dX0_gain_49 : decode cX0_gain 49 = .ok (.aload_n 0, 1) := by decide +kernel
theorem dX0_gain_50 : decode cX0_gain 50 = .ok (.getfield 32, 3) := by decide +kernel
theorem dX0_gain_53 : decode cX0_gain 53 = .ok (.iload_n 1, 1) := by decide +kernel
theorem dX0_gain_54 : decode cX0_gain 54 = .ok (.iload_n 2, 1) := by decide +kernel
theorem dX0_gain_55 : decode cX0_gain 55 = .ok (.invokevirtual 217, 3) := by decide +kernel
theorem dX0_gain_58 : decode cX0_gain 58 = .ok (.aload_n 0, 1) := by decide +kernel
theorem dX0_gain_59 : decode cX0_gain 59 = .ok (.getfield 21, 3) := by decide +kernel
theorem dX0_gain_62 : decode cX0_gain 62 = .ok (.aload_n 0, 1) := by decide +kernel
theorem dX0_gain_63 : decode cX0_gain 63 = .ok (.getfield 28, 3) := by decide +kernel
theorem dX0_gain_66 : decode cX0_gain 66 = .ok (.getfield 162, 3) := by decide +kernel
theorem dX0_gain_69 : decode cX0_gain 69 = .ok (.iload_n 1, 1) := by decide +kernel
theorem dX0_gain_70 : decode cX0_gain 70 = .ok (.iaload, 1) := by decide +kernel
theorem dX0_gain_71 : decode cX0_gain 71 = .ok (.aaload, 1) := by decide +kernel
theorem dX0_gain_72 : decode cX0_gain 72 = .ok (.getfield 125, 3) := by decide +kernel
theorem dX0_gain_75 : decode cX0_gain 75 = .ok (.istore 4, 2) := by decide +kernel
theorem dX0_gain_77 : decode cX0_gain 77 = .ok (.aload_n 0, 1) := by decide +kernel
theorem dX0_gain_78 : decode cX0_gain 78 = .ok (.aload_n 0, 1) := by decide +kernel
theorem dX0_gain_79 : decode cX0_gain 79 = .ok (.getfield 28, 3) := by decide +kernel
theorem dX0_gain_82 : decode cX0_gain 82 = .ok (.iload 4, 2) := by decide +kernel
theorem dX0_gain_84 : decode cX0_gain 84 = .ok (.iload_n 3, 1) := by decide +kernel
theorem dX0_gain_85 : decode cX0_gain 85 = .ok (.invokevirtual 221, 3) := by decide +kernel
theorem dX0_gain_88 : decode cX0_gain 88 = .ok (.lstore 5, 2) := by decide +kernel
theorem dX0_gain_90 : decode cX0_gain 90 = .ok (.aload_n 0, 1) := by decide +kernel
theorem dX0_gain_91 : decode cX0_gain 91 = .ok (.aload_n 0, 1) := by decide +kernel
theorem dX0_gain_92 : decode cX0_gain 92 = .ok (.getfield 32, 3) := by decide +kernel
theorem dX0_gain_95 : decode cX0_gain 95 = .ok (.iload 4, 2) := by decide +kernel
theorem dX0_gain_97 : decode cX0_gain 97 = .ok (.iload_n 3, 1) := by decide +kernel
theorem dX0_gain_98 : decode cX0_gain 98 = .ok (.invokevirtual 221, 3) := by decide +kernel
theorem dX0_gain_101 : decode cX0_gain 101 = .ok (.lstore 7, 2) := by decide +kernel
theorem dX0_gain_103 : decode cX0_gain 103 = .ok (.lload 7, 2) := by decide +kernel
theorem dX0_gain_105 : decode cX0_gain 105 = .ok (.lload 5, 2) := by decide +kernel
theorem dX0_gain_107 : decode cX0_gain 107 = .ok (.lsub, 1) := by decide +kernel
theorem dX0_gain_108 : decode cX0_gain 108 = .ok (.lreturn, 1) := by decide +kernel
theorem dX0_has_0 : decode cX0_has 0 = .ok (.iload_n 2, 1) := by decide +kernel
theorem dX0_has_1 : decode cX0_has 1 = .ok (.invokestatic 210, 3) := by decide +kernel
theorem dX0_has_4 : decode cX0_has 4 = .ok (.ifCond .ne 5, 3) := by decide +kernel
theorem dX0_has_7 : decode cX0_has 7 = .ok (.lconst 0, 1) := by decide +kernel
theorem dX0_has_8 : decode cX0_has 8 = .ok (.lreturn, 1) := by decide +kernel
theorem dX0_has_9 : decode cX0_has 9 = .ok (.iload_n 1, 1) := by decide +kernel
theorem dX0_has_10 : decode cX0_has 10 = .ok (.iconst (-1), 1) := by decide +kernel
theorem dX0_has_11 : decode cX0_has 11 = .ok (.if_icmp .ne 14, 3) := by decide +kernel
theorem dX0_has_14 : decode cX0_has 14 = .ok (.aload_n 0, 1) := by decide +kernel
theorem dX0_has_15 : decode cX0_has 15 = .ok (.getfield 12, 3) := by decide +kernel
theorem dX0_has_18 : decode cX0_has 18 = .ok (.bipush 8, 2) := by decide +kernel
theorem dX0_has_20 : decode cX0_has 20 = .ok (.iload_n 2, 1) := by decide +kernel
theorem dX0_has_21 : decode cX0_has 21 = .ok (.invokevirtual 225, 3) := by decide +kernel
theorem dX0_has_24 : decode cX0_has 24 = .ok (.lreturn, 1) := by decide +kernel
theorem dX0_has_25 : decode cX0_has 25 = .ok (.iload_n 1, 1) := by decide +kernel
theorem dX0_has_26 : decode cX0_has 26 = .ok (.bipush (-2), 2) := by decide +kernel
theorem dX0_has_28 : decode cX0_has 28 = .ok (.if_icmp .ne 16, 3) := by decide +kernel
theorem dX0_has_31 : decode cX0_has 31 = .ok (.iload_n 2, 1) := by decide +kernel
theorem dX0_has_32 : decode cX0_has 32 = .ok (.ifCond .ne 10, 3) := by decide +kernel
theorem dX0_has_35 : decode cX0_has 35 = .ok (.aload_n 0, 1) := by decide +kernel
theorem dX0_has_36 : decode cX0_has 36 = .ok (.getfield 61, 3) := by decide +kernel
theorem dX0_has_39 : decode cX0_has 39 = .ok (.goto 4, 3) := by decide +kernel
theorem dX0_has_42 : decode cX0_has 42 = .ok (.lconst 0, 1) := by decide +kernel
theorem dX0_has_43 : decode cX0_has 43 = .ok (.lreturn, 1) := by decide +kernel
theorem dX0_has_44 : decode cX0_has 44 = .ok (.aload_n 0, 1) := by decide +kernel
theorem dX0_has_45 : decode cX0_has 45 = .ok (.iload_n 1, 1) := by decide +kernel
theorem dX0_has_46 : decode cX0_has 46 = .ok (.invokevirtual 87, 3) := by decide +kernel
theorem dX0_has_49 : decode cX0_has 49 = .ok (.ifCond .eq 15, 3) := by decide +kernel
theorem dX0_has_52 : decode cX0_has 52 = .ok (.aload_n 0, 1) := by decide +kernel
theorem dX0_has_53 : decode cX0_has 53 = .ok (.getfield 12, 3) := by decide +kernel
theorem dX0_has_56 : decode cX0_has 56 = .ok (.iload_n 1, 1) := by decide +kernel
theorem dX0_has_57 : decode cX0_has 57 = .ok (.iload_n 2, 1) := by decide +kernel
theorem dX0_has_58 : decode cX0_has 58 = .ok (.invokevirtual 225, 3) := by decide +kernel
theorem dX0_has_61 : decode cX0_has 61 = .ok (.goto 4, 3) := by decide +kernel
theorem dX0_has_64 : decode cX0_has 64 = .ok (.lconst 0, 1) := by decide +kernel
theorem dX0_has_65 : decode cX0_has 65 = .ok (.lreturn, 1) := by decide +kernel
theorem dX0_of_0 : decode cX0_of 0 = .ok (.aload_n 0, 1) := by decide +kernel
theorem dX0_of_1 : decode cX0_of 1 = .ok (.iload_n 1, 1) := by decide +kernel
theorem dX0_of_2 : decode cX0_of 2 = .ok (.invokevirtual 106, 3) := by decide +kernel
theorem dX0_of_5 : decode cX0_of 5 = .ok (.ifCond .eq 12, 3) := by decide +kernel
theorem dX0_of_8 : decode cX0_of 8 = .ok (.iload_n 2, 1) := by decide +kernel
theorem dX0_of_9 : decode cX0_of 9 = .ok (.ifCond .lt 8, 3) := by decide +kernel
theorem dX0_of_12 : decode cX0_of 12 = .ok (.iload_n 2, 1) := by decide +kernel
theorem dX0_of_13 : decode cX0_of 13 = .ok (.iconst 4, 1) := by decide +kernel
theorem dX0_of_14 : decode cX0_of 14 = .ok (.if_icmp .le 6, 3) := by decide +kernel
theorem dX0_of_17 : decode cX0_of 17 = .ok (.bipush (-2), 2) := by decide +kernel
theorem dX0_of_19 : decode cX0_of 19 = .ok (.ireturn, 1) := by decide +kernel
theorem dX0_of_20 : decode cX0_of 20 = .ok (.aload_n 0, 1) := by decide +kernel
theorem dX0_of_21 : decode cX0_of 21 = .ok (.getfield 21, 3) := by decide +kernel
theorem dX0_of_24 : decode cX0_of 24 = .ok (.iload_n 1, 1) := by decide +kernel
theorem dX0_of_25 : decode cX0_of 25 = .ok (.aaload, 1) := by decide +kernel
theorem dX0_of_26 : decode cX0_of 26 = .ok (.astore_n 3, 1) := by decide +kernel
theorem dX0_of_27 : decode cX0_of 27 = .ok (.iload_n 2, 1) := by decide +kernel
theorem dX0_of_28 : decode cX0_of 28 = .ok (.ifCond .ne 8, 3) := by decide +kernel
theorem dX0_of_31 : decode cX0_of 31 = .ok (.aload_n 3, 1) := by decide +kernel
theorem dX0_of_32 : decode cX0_of 32 = .ok (.getfield 125, 3) := by decide +kernel
theorem dX0_of_35 : decode cX0_of 35 = .ok (.ireturn, 1) := by decide +kernel
theorem dX0_of_36 : decode cX0_of 36 = .ok (.iload_n 2, 1) := by decide +kernel
theorem dX0_of_37 : decode cX0_of 37 = .ok (.iconst 1, 1) := by decide +kernel
theorem dX0_of_38 : decode cX0_of 38 = .ok (.if_icmp .ne 16, 3) := by decide +kernel
theorem dX0_of_41 : decode cX0_of 41 = .ok (.aload_n 3, 1) := by decide +kernel
theorem dX0_of_42 : decode cX0_of 42 = .ok (.getfield 114, 3) := by decide +kernel
theorem dX0_of_45 : decode cX0_of 45 = .ok (.ifCond .eq 7, 3) := by decide +kernel
theorem dX0_of_48 : decode cX0_of 48 = .ok (.iconst 1, 1) := by decide +kernel
theorem dX0_of_49 : decode cX0_of 49 = .ok (.goto 4, 3) := by decide +kernel
theorem dX0_of_52 : decode cX0_of 52 = .ok (.iconst 0, 1) := by decide +kernel
theorem dX0_of_53 : decode cX0_of 53 = .ok (.ireturn, 1) := by decide +kernel
theorem dX0_of_54 : decode cX0_of 54 = .ok (.aload_n 3, 1) := by decide +kernel
theorem dX0_of_55 : decode cX0_of 55 = .ok (.getfield 114, 3) := by decide +kernel
theorem dX0_of_58 : decode cX0_of 58 = .ok (.ifCond .eq 11, 3) := by decide +kernel
theorem dX0_of_61 : decode cX0_of 61 = .ok (.aload_n 3, 1) := by decide +kernel
theorem dX0_of_62 : decode cX0_of 62 = .ok (.iload_n 2, 1) := by decide +kernel
theorem dX0_of_63 : decode cX0_of 63 = .ok (.invokevirtual 229, 3) := by decide +kernel
theorem dX0_of_66 : decode cX0_of 66 = .ok (.goto 4, 3) := by decide +kernel
theorem dX0_of_69 : decode cX0_of 69 = .ok (.iconst (-1), 1) := by decide +kernel
theorem dX0_of_70 : decode cX0_of 70 = .ok (.ireturn, 1) := by decide +kernel
theorem dX0_count_0 : decode cX0_count 0 = .ok (.iload_n 1, 1) := by decide +kernel
theorem dX0_count_1 : decode cX0_count 1 = .ok (.tableswitch 75 0 5 #[39, 44, 49, 54, 62, 67], 39) := by decide +kernel
theorem dX0_count_40 : decode cX0_count 40 = .ok (.aload_n 0, 1) := by decide +kernel
theorem dX0_count_41 : decode cX0_count 41 = .ok (.getfield 54, 3) := by decide +kernel
theorem dX0_count_44 : decode cX0_count 44 = .ok (.ireturn, 1) := by decide +kernel
theorem dX0_count_45 : decode cX0_count 45 = .ok (.aload_n 0, 1) := by decide +kernel
theorem dX0_count_46 : decode cX0_count 46 = .ok (.getfield 96, 3) := by decide +kernel
theorem dX0_count_49 : decode cX0_count 49 = .ok (.ireturn, 1) := by decide +kernel
theorem dX0_count_50 : decode cX0_count 50 = .ok (.aload_n 0, 1) := by decide +kernel
theorem dX0_count_51 : decode cX0_count 51 = .ok (.getfield 93, 3) := by decide +kernel
theorem dX0_count_54 : decode cX0_count 54 = .ok (.ireturn, 1) := by decide +kernel
theorem dX0_count_55 : decode cX0_count 55 = .ok (.aload_n 0, 1) := by decide +kernel
theorem dX0_count_56 : decode cX0_count 56 = .ok (.invokevirtual 141, 3) := by decide +kernel
theorem dX0_count_59 : decode cX0_count 59 = .ok (.invokestatic 233, 3) := by decide +kernel
theorem dX0_count_62 : decode cX0_count 62 = .ok (.ireturn, 1) := by decide +kernel
theorem dX0_count_63 : decode cX0_count 63 = .ok (.aload_n 0, 1) := by decide +kernel
theorem dX0_count_64 : decode cX0_count 64 = .ok (.getfield 65, 3) := by decide +kernel
theorem dX0_count_67 : decode cX0_count 67 = .ok (.ireturn, 1) := by decide +kernel
theorem dX0_count_68 : decode cX0_count 68 = .ok (.aload_n 0, 1) := by decide +kernel
theorem dX0_count_69 : decode cX0_count 69 = .ok (.getfield 28, 3) := by decide +kernel
theorem dX0_count_72 : decode cX0_count 72 = .ok (.getfield 134, 3) := by decide +kernel
theorem dX0_count_75 : decode cX0_count 75 = .ok (.ireturn, 1) := by decide +kernel
theorem dX0_count_76 : decode cX0_count 76 = .ok (.bipush (-2), 2) := by decide +kernel
theorem dX0_count_78 : decode cX0_count 78 = .ok (.ireturn, 1) := by decide +kernel
theorem dX0_mayBeginWith_0 : decode cX0_mayBeginWith 0 = .ok (.lload_n 0, 1) := by decide +kernel
theorem dX0_mayBeginWith_1 : decode cX0_mayBeginWith 1 = .ok (.lconst 0, 1) := by decide +kernel
theorem dX0_mayBeginWith_2 : decode cX0_mayBeginWith 2 = .ok (.lcmp, 1) := by decide +kernel
theorem dX0_mayBeginWith_3 : decode cX0_mayBeginWith 3 = .ok (.ifCond .lt 15, 3) := by decide +kernel
theorem dX0_mayBeginWith_6 : decode cX0_mayBeginWith 6 = .ok (.lload_n 0, 1) := by decide +kernel
theorem dX0_mayBeginWith_7 : decode cX0_mayBeginWith 7 = .ok (.ldc2_w 238, 3) := by decide +kernel
theorem dX0_mayBeginWith_10 : decode cX0_mayBeginWith 10 = .ok (.lcmp, 1) := by decide +kernel
theorem dX0_mayBeginWith_11 : decode cX0_mayBeginWith 11 = .ok (.ifCond .gt 7, 3) := by decide +kernel
theorem dX0_mayBeginWith_14 : decode cX0_mayBeginWith 14 = .ok (.iconst 1, 1) := by decide +kernel
theorem dX0_mayBeginWith_15 : decode cX0_mayBeginWith 15 = .ok (.goto 4, 3) := by decide +kernel
theorem dX0_mayBeginWith_18 : decode cX0_mayBeginWith 18 = .ok (.iconst 0, 1) := by decide +kernel
theorem dX0_mayBeginWith_19 : decode cX0_mayBeginWith 19 = .ok (.ireturn, 1) := by decide +kernel
theorem dX0_areTerms_0 : decode cX0_areTerms 0 = .ok (.iload_n 0, 1) := by decide +kernel
theorem dX0_areTerms_1 : decode cX0_areTerms 1 = .ok (.ifCond .eq 8, 3) := by decide +kernel
theorem dX0_areTerms_4 : decode cX0_areTerms 4 = .ok (.iload_n 0, 1) := by decide +kernel
theorem dX0_areTerms_5 : decode cX0_areTerms 5 = .ok (.iconst 1, 1) := by decide +kernel
theorem dX0_areTerms_6 : decode cX0_areTerms 6 = .ok (.if_icmp .ne 31, 3) := by decide +kernel
theorem dX0_areTerms_9 : decode cX0_areTerms 9 = .ok (.iload_n 1, 1) := by decide +kernel
theorem dX0_areTerms_10 : decode cX0_areTerms 10 = .ok (.iconst 1, 1) := by decide +kernel
theorem dX0_areTerms_11 : decode cX0_areTerms 11 = .ok (.if_icmp .lt 26, 3) := by decide +kernel
theorem dX0_areTerms_14 : decode cX0_areTerms 14 = .ok (.iload_n 1, 1) := by decide +kernel
theorem dX0_areTerms_15 : decode cX0_areTerms 15 = .ok (.sipush 1000, 3) := by decide +kernel
theorem dX0_areTerms_18 : decode cX0_areTerms 18 = .ok (.if_icmp .gt 19, 3) := by decide +kernel
theorem dX0_areTerms_21 : decode cX0_areTerms 21 = .ok (.iload_n 2, 1) := by decide +kernel
theorem dX0_areTerms_22 : decode cX0_areTerms 22 = .ok (.iconst 1, 1) := by decide +kernel
theorem dX0_areTerms_23 : decode cX0_areTerms 23 = .ok (.if_icmp .lt 14, 3) := by decide +kernel
theorem dX0_areTerms_26 : decode cX0_areTerms 26 = .ok (.iload_n 2, 1) := by decide +kernel
theorem dX0_areTerms_27 : decode cX0_areTerms 27 = .ok (.sipush 1000, 3) := by decide +kernel
theorem dX0_areTerms_30 : decode cX0_areTerms 30 = .ok (.if_icmp .gt 7, 3) := by decide +kernel
theorem dX0_areTerms_33 : decode cX0_areTerms 33 = .ok (.iconst 1, 1) := by decide +kernel
theorem dX0_areTerms_34 : decode cX0_areTerms 34 = .ok (.goto 4, 3) := by decide +kernel
theorem dX0_areTerms_37 : decode cX0_areTerms 37 = .ok (.iconst 0, 1) := by decide +kernel
theorem dX0_areTerms_38 : decode cX0_areTerms 38 = .ok (.ireturn, 1) := by decide +kernel
theorem dX0_isHolding_0 : decode cX0_isHolding 0 = .ok (.iload_n 0, 1) := by decide +kernel
theorem dX0_isHolding_1 : decode cX0_isHolding 1 = .ok (.ifCond .eq 8, 3) := by decide +kernel
theorem dX0_isHolding_4 : decode cX0_isHolding 4 = .ok (.iload_n 0, 1) := by decide +kernel
theorem dX0_isHolding_5 : decode cX0_isHolding 5 = .ok (.iconst 1, 1) := by decide +kernel
theorem dX0_isHolding_6 : decode cX0_isHolding 6 = .ok (.if_icmp .ne 7, 3) := by decide +kernel
theorem dX0_isHolding_9 : decode cX0_isHolding 9 = .ok (.iconst 1, 1) := by decide +kernel
theorem dX0_isHolding_10 : decode cX0_isHolding 10 = .ok (.goto 4, 3) := by decide +kernel
theorem dX0_isHolding_13 : decode cX0_isHolding 13 = .ok (.iconst 0, 1) := by decide +kernel
theorem dX0_isHolding_14 : decode cX0_isHolding 14 = .ok (.ireturn, 1) := by decide +kernel
theorem dX0_sealOf_0 : decode cX0_sealOf 0 = .ok (.iload_n 3, 1) := by decide +kernel
theorem dX0_sealOf_1 : decode cX0_sealOf 1 = .ok (.i2l, 1) := by decide +kernel
theorem dX0_sealOf_2 : decode cX0_sealOf 2 = .ok (.ldc2_w 240, 3) := by decide +kernel
theorem dX0_sealOf_5 : decode cX0_sealOf 5 = .ok (.lmul, 1) := by decide +kernel
theorem dX0_sealOf_6 : decode cX0_sealOf 6 = .ok (.iload_n 0, 1) := by decide +kernel
theorem dX0_sealOf_7 : decode cX0_sealOf 7 = .ok (.i2l, 1) := by decide +kernel
theorem dX0_sealOf_8 : decode cX0_sealOf 8 = .ok (.ladd, 1) := by decide +kernel
theorem dX0_sealOf_9 : decode cX0_sealOf 9 = .ok (.ldc2_w 242, 3) := by decide +kernel
theorem dX0_sealOf_12 : decode cX0_sealOf 12 = .ok (.lmul, 1) := by decide +kernel
theorem dX0_sealOf_13 : decode cX0_sealOf 13 = .ok (.iload_n 1, 1) := by decide +kernel
theorem dX0_sealOf_14 : decode cX0_sealOf 14 = .ok (.i2l, 1) := by decide +kernel
theorem dX0_sealOf_15 : decode cX0_sealOf 15 = .ok (.ladd, 1) := by decide +kernel
theorem dX0_sealOf_16 : decode cX0_sealOf 16 = .ok (.ldc2_w 244, 3) := by decide +kernel
theorem dX0_sealOf_19 : decode cX0_sealOf 19 = .ok (.lmul, 1) := by decide +kernel
theorem dX0_sealOf_20 : decode cX0_sealOf 20 = .ok (.iload_n 2, 1) := by decide +kernel
theorem dX0_sealOf_21 : decode cX0_sealOf 21 = .ok (.i2l, 1) := by decide +kernel
theorem dX0_sealOf_22 : decode cX0_sealOf 22 = .ok (.ladd, 1) := by decide +kernel
theorem dX0_sealOf_23 : decode cX0_sealOf 23 = .ok (.lstore 4, 2) := by decide +kernel
theorem dX0_sealOf_25 : decode cX0_sealOf 25 = .ok (.lload 4, 2) := by decide +kernel
theorem dX0_sealOf_27 : decode cX0_sealOf 27 = .ok (.ldc2_w 246, 3) := by decide +kernel
theorem dX0_sealOf_30 : decode cX0_sealOf 30 = .ok (.lmul, 1) := by decide +kernel
theorem dX0_sealOf_31 : decode cX0_sealOf 31 = .ok (.lstore 4, 2) := by decide +kernel
theorem dX0_sealOf_33 : decode cX0_sealOf 33 = .ok (.lload 4, 2) := by decide +kernel
theorem dX0_sealOf_35 : decode cX0_sealOf 35 = .ok (.lload 4, 2) := by decide +kernel
theorem dX0_sealOf_37 : decode cX0_sealOf 37 = .ok (.bipush 29, 2) := by decide +kernel
theorem dX0_sealOf_39 : decode cX0_sealOf 39 = .ok (.lushr, 1) := by decide +kernel
theorem dX0_sealOf_40 : decode cX0_sealOf 40 = .ok (.lxor, 1) := by decide +kernel
theorem dX0_sealOf_41 : decode cX0_sealOf 41 = .ok (.lreturn, 1) := by decide +kernel
theorem dX0_isAccount_0 : decode cX0_isAccount 0 = .ok (.iload_n 1, 1) := by decide +kernel
theorem dX0_isAccount_1 : decode cX0_isAccount 1 = .ok (.ifCond .lt 15, 3) := by decide +kernel
theorem dX0_isAccount_4 : decode cX0_isAccount 4 = .ok (.iload_n 1, 1) := by decide +kernel
theorem dX0_isAccount_5 : decode cX0_isAccount 5 = .ok (.aload_n 0, 1) := by decide +kernel
theorem dX0_isAccount_6 : decode cX0_isAccount 6 = .ok (.getfield 54, 3) := by decide +kernel
theorem dX0_isAccount_9 : decode cX0_isAccount 9 = .ok (.if_icmp .ge 7, 3) := by decide +kernel
theorem dX0_isAccount_12 : decode cX0_isAccount 12 = .ok (.iconst 1, 1) := by decide +kernel
theorem dX0_isAccount_13 : decode cX0_isAccount 13 = .ok (.goto 4, 3) := by decide +kernel
theorem dX0_isAccount_16 : decode cX0_isAccount 16 = .ok (.iconst 0, 1) := by decide +kernel
theorem dX0_isAccount_17 : decode cX0_isAccount 17 = .ok (.ireturn, 1) := by decide +kernel
theorem dX0_isCall_0 : decode cX0_isCall 0 = .ok (.iload_n 1, 1) := by decide +kernel
theorem dX0_isCall_1 : decode cX0_isCall 1 = .ok (.ifCond .lt 15, 3) := by decide +kernel
theorem dX0_isCall_4 : decode cX0_isCall 4 = .ok (.iload_n 1, 1) := by decide +kernel
theorem dX0_isCall_5 : decode cX0_isCall 5 = .ok (.aload_n 0, 1) := by decide +kernel
theorem dX0_isCall_6 : decode cX0_isCall 6 = .ok (.getfield 96, 3) := by decide +kernel
theorem dX0_isCall_9 : decode cX0_isCall 9 = .ok (.if_icmp .ge 7, 3) := by decide +kernel
theorem dX0_isCall_12 : decode cX0_isCall 12 = .ok (.iconst 1, 1) := by decide +kernel
theorem dX0_isCall_13 : decode cX0_isCall 13 = .ok (.goto 4, 3) := by decide +kernel
theorem dX0_isCall_16 : decode cX0_isCall 16 = .ok (.iconst 0, 1) := by decide +kernel
theorem dX0_isCall_17 : decode cX0_isCall 17 = .ok (.ireturn, 1) := by decide +kernel
theorem dX0_isOpenedCall_0 : decode cX0_isOpenedCall 0 = .ok (.aload_n 0, 1) := by decide +kernel
theorem dX0_isOpenedCall_1 : decode cX0_isOpenedCall 1 = .ok (.iload_n 1, 1) := by decide +kernel
theorem dX0_isOpenedCall_2 : decode cX0_isOpenedCall 2 = .ok (.invokevirtual 106, 3) := by decide +kernel
theorem dX0_isOpenedCall_5 : decode cX0_isOpenedCall 5 = .ok (.ifCond .eq 19, 3) := by decide +kernel
theorem dX0_isOpenedCall_8 : decode cX0_isOpenedCall 8 = .ok (.aload_n 0, 1) := by decide +kernel
theorem dX0_isOpenedCall_9 : decode cX0_isOpenedCall 9 = .ok (.getfield 21, 3) := by decide +kernel
theorem dX0_isOpenedCall_12 : decode cX0_isOpenedCall 12 = .ok (.iload_n 1, 1) := by decide +kernel
theorem dX0_isOpenedCall_13 : decode cX0_isOpenedCall 13 = .ok (.aaload, 1) := by decide +kernel
theorem dX0_isOpenedCall_14 : decode cX0_isOpenedCall 14 = .ok (.getfield 114, 3) := by decide +kernel
theorem dX0_isOpenedCall_17 : decode cX0_isOpenedCall 17 = .ok (.ifCond .eq 7, 3) := by decide +kernel
theorem dX0_isOpenedCall_20 : decode cX0_isOpenedCall 20 = .ok (.iconst 1, 1) := by decide +kernel
theorem dX0_isOpenedCall_21 : decode cX0_isOpenedCall 21 = .ok (.goto 4, 3) := by decide +kernel
theorem dX0_isOpenedCall_24 : decode cX0_isOpenedCall 24 = .ok (.iconst 0, 1) := by decide +kernel
theorem dX0_isOpenedCall_25 : decode cX0_isOpenedCall 25 = .ok (.ireturn, 1) := by decide +kernel
theorem dX0_mayPlay_0 : decode cX0_mayPlay 0 = .ok (.aload_n 0, 1) := by decide +kernel
theorem dX0_mayPlay_1 : decode cX0_mayPlay 1 = .ok (.getfield 156, 3) := by decide +kernel
theorem dX0_mayPlay_4 : decode cX0_mayPlay 4 = .ok (.ifCond .eq 14, 3) := by decide +kernel
theorem dX0_mayPlay_7 : decode cX0_mayPlay 7 = .ok (.aload_n 0, 1) := by decide +kernel
theorem dX0_mayPlay_8 : decode cX0_mayPlay 8 = .ok (.getfield 179, 3) := by decide +kernel
theorem dX0_mayPlay_11 : decode cX0_mayPlay 11 = .ok (.ifCond .ne 7, 3) := by decide +kernel
theorem dX0_mayPlay_14 : decode cX0_mayPlay 14 = .ok (.iconst 1, 1) := by decide +kernel
theorem dX0_mayPlay_15 : decode cX0_mayPlay 15 = .ok (.goto 4, 3) := by decide +kernel
theorem dX0_mayPlay_18 : decode cX0_mayPlay 18 = .ok (.iconst 0, 1) := by decide +kernel
theorem dX0_mayPlay_19 : decode cX0_mayPlay 19 = .ok (.ireturn, 1) := by decide +kernel
theorem dX0_beginBlock_0 : decode cX0_beginBlock 0 = .ok (.aload_n 0, 1) := by decide +kernel
theorem dX0_beginBlock_1 : decode cX0_beginBlock 1 = .ok (.iconst 0, 1) := by decide +kernel
theorem dX0_beginBlock_2 : decode cX0_beginBlock 2 = .ok (.putfield 96, 3) := by decide +kernel
theorem dX0_beginBlock_5 : decode cX0_beginBlock 5 = .ok (.aload_n 0, 1) := by decide +kernel
theorem dX0_beginBlock_6 : decode cX0_beginBlock 6 = .ok (.iconst 0, 1) := by decide +kernel
theorem dX0_beginBlock_7 : decode cX0_beginBlock 7 = .ok (.putfield 93, 3) := by decide +kernel
theorem dX0_beginBlock_10 : decode cX0_beginBlock 10 = .ok (.aload_n 0, 1) := by decide +kernel
theorem dX0_beginBlock_11 : decode cX0_beginBlock 11 = .ok (.getfield 28, 3) := by decide +kernel
theorem dX0_beginBlock_14 : decode cX0_beginBlock 14 = .ok (.iconst 0, 1) := by decide +kernel
theorem dX0_beginBlock_15 : decode cX0_beginBlock 15 = .ok (.putfield 134, 3) := by decide +kernel
theorem dX0_beginBlock_18 : decode cX0_beginBlock 18 = .ok (.aload_n 0, 1) := by decide +kernel
theorem dX0_beginBlock_19 : decode cX0_beginBlock 19 = .ok (.iconst 0, 1) := by decide +kernel
theorem dX0_beginBlock_20 : decode cX0_beginBlock 20 = .ok (.putfield 156, 3) := by decide +kernel
theorem dX0_beginBlock_23 : decode cX0_beginBlock 23 = .ok (.aload_n 0, 1) := by decide +kernel
theorem dX0_beginBlock_24 : decode cX0_beginBlock 24 = .ok (.iconst 0, 1) := by decide +kernel
theorem dX0_beginBlock_25 : decode cX0_beginBlock 25 = .ok (.putfield 179, 3) := by decide +kernel
theorem dX0_beginBlock_28 : decode cX0_beginBlock 28 = .ok (.return_, 1) := by decide +kernel
theorem dX0_takeLostDeposits_0 : decode cX0_takeLostDeposits 0 = .ok (.iconst 0, 1) := by decide +kernel
theorem dX0_takeLostDeposits_1 : decode cX0_takeLostDeposits 1 = .ok (.istore_n 1, 1) := by decide +kernel
theorem dX0_takeLostDeposits_2 : decode cX0_takeLostDeposits 2 = .ok (.iload_n 1, 1) := by decide +kernel
theorem dX0_takeLostDeposits_3 : decode cX0_takeLostDeposits 3 = .ok (.aload_n 0, 1) := by decide +kernel
theorem dX0_takeLostDeposits_4 : decode cX0_takeLostDeposits 4 = .ok (.getfield 96, 3) := by decide +kernel
theorem dX0_takeLostDeposits_7 : decode cX0_takeLostDeposits 7 = .ok (.if_icmp .ge 39, 3) := by decide +kernel
theorem dX0_takeLostDeposits_10 : decode cX0_takeLostDeposits 10 = .ok (.aload_n 0, 1) := by decide +kernel
theorem dX0_takeLostDeposits_11 : decode cX0_takeLostDeposits 11 = .ok (.getfield 21, 3) := by decide +kernel
theorem dX0_takeLostDeposits_14 : decode cX0_takeLostDeposits 14 = .ok (.iload_n 1, 1) := by decide +kernel
theorem dX0_takeLostDeposits_15 : decode cX0_takeLostDeposits 15 = .ok (.aaload, 1) := by decide +kernel
theorem dX0_takeLostDeposits_16 : decode cX0_takeLostDeposits 16 = .ok (.getfield 114, 3) := by decide +kernel
theorem dX0_takeLostDeposits_19 : decode cX0_takeLostDeposits 19 = .ok (.ifCond .ne 21, 3) := by decide +kernel
theorem dX0_takeLostDeposits_22 : decode cX0_takeLostDeposits 22 = .ok (.aload_n 0, 1) := by decide +kernel
theorem dX0_takeLostDeposits_23 : decode cX0_takeLostDeposits 23 = .ok (.dup, 1) := by decide +kernel
theorem dX0_takeLostDeposits_24 : decode cX0_takeLostDeposits 24 = .ok (.getfield 61, 3) := by decide +kernel
theorem dX0_takeLostDeposits_27 : decode cX0_takeLostDeposits 27 = .ok (.aload_n 0, 1) := by decide +kernel
theorem dX0_takeLostDeposits_28 : decode cX0_takeLostDeposits 28 = .ok (.getfield 21, 3) := by decide +kernel
theorem dX0_takeLostDeposits_31 : decode cX0_takeLostDeposits 31 = .ok (.iload_n 1, 1) := by decide +kernel
theorem dX0_takeLostDeposits_32 : decode cX0_takeLostDeposits 32 = .ok (.aaload, 1) := by decide +kernel
theorem dX0_takeLostDeposits_33 : decode cX0_takeLostDeposits 33 = .ok (.getfield 128, 3) := by decide +kernel
theorem dX0_takeLostDeposits_36 : decode cX0_takeLostDeposits 36 = .ok (.ladd, 1) := by decide +kernel
theorem dX0_takeLostDeposits_37 : decode cX0_takeLostDeposits 37 = .ok (.putfield 61, 3) := by decide +kernel
theorem dX0_takeLostDeposits_40 : decode cX0_takeLostDeposits 40 = .ok (.iinc 1 1, 3) := by decide +kernel
theorem dX0_takeLostDeposits_43 : decode cX0_takeLostDeposits 43 = .ok (.goto (-41), 3) := by decide +kernel
theorem dX0_takeLostDeposits_46 : decode cX0_takeLostDeposits 46 = .ok (.return_, 1) := by decide +kernel
theorem dX0_openedSet_0 : decode cX0_openedSet 0 = .ok (.iconst 0, 1) := by decide +kernel
theorem dX0_openedSet_1 : decode cX0_openedSet 1 = .ok (.istore_n 1, 1) := by decide +kernel
theorem dX0_openedSet_2 : decode cX0_openedSet 2 = .ok (.iconst 0, 1) := by decide +kernel
theorem dX0_openedSet_3 : decode cX0_openedSet 3 = .ok (.istore_n 2, 1) := by decide +kernel
theorem dX0_openedSet_4 : decode cX0_openedSet 4 = .ok (.iload_n 2, 1) := by decide +kernel
theorem dX0_openedSet_5 : decode cX0_openedSet 5 = .ok (.aload_n 0, 1) := by decide +kernel
theorem dX0_openedSet_6 : decode cX0_openedSet 6 = .ok (.getfield 96, 3) := by decide +kernel
theorem dX0_openedSet_9 : decode cX0_openedSet 9 = .ok (.if_icmp .ge 27, 3) := by decide +kernel
theorem dX0_openedSet_12 : decode cX0_openedSet 12 = .ok (.aload_n 0, 1) := by decide +kernel
theorem dX0_openedSet_13 : decode cX0_openedSet 13 = .ok (.getfield 21, 3) := by decide +kernel
theorem dX0_openedSet_16 : decode cX0_openedSet 16 = .ok (.iload_n 2, 1) := by decide +kernel
theorem dX0_openedSet_17 : decode cX0_openedSet 17 = .ok (.aaload, 1) := by decide +kernel
theorem dX0_openedSet_18 : decode cX0_openedSet 18 = .ok (.getfield 114, 3) := by decide +kernel
theorem dX0_openedSet_21 : decode cX0_openedSet 21 = .ok (.ifCond .eq 9, 3) := by decide +kernel
theorem dX0_openedSet_24 : decode cX0_openedSet 24 = .ok (.iload_n 1, 1) := by decide +kernel
theorem dX0_openedSet_25 : decode cX0_openedSet 25 = .ok (.iconst 1, 1) := by decide +kernel
theorem dX0_openedSet_26 : decode cX0_openedSet 26 = .ok (.iload_n 2, 1) := by decide +kernel
theorem dX0_openedSet_27 : decode cX0_openedSet 27 = .ok (.ishl, 1) := by decide +kernel
theorem dX0_openedSet_28 : decode cX0_openedSet 28 = .ok (.ior, 1) := by decide +kernel
theorem dX0_openedSet_29 : decode cX0_openedSet 29 = .ok (.istore_n 1, 1) := by decide +kernel
theorem dX0_openedSet_30 : decode cX0_openedSet 30 = .ok (.iinc 2 1, 3) := by decide +kernel
theorem dX0_openedSet_33 : decode cX0_openedSet 33 = .ok (.goto (-29), 3) := by decide +kernel
theorem dX0_openedSet_36 : decode cX0_openedSet 36 = .ok (.iload_n 1, 1) := by decide +kernel
theorem dX0_openedSet_37 : decode cX0_openedSet 37 = .ok (.ireturn, 1) := by decide +kernel
theorem dX0_addByNumbers_0 : decode cX0_addByNumbers 0 = .ok (.iconst 0, 1) := by decide +kernel
theorem dX0_addByNumbers_1 : decode cX0_addByNumbers 1 = .ok (.istore_n 1, 1) := by decide +kernel
theorem dX0_addByNumbers_2 : decode cX0_addByNumbers 2 = .ok (.iload_n 1, 1) := by decide +kernel
theorem dX0_addByNumbers_3 : decode cX0_addByNumbers 3 = .ok (.aload_n 0, 1) := by decide +kernel
theorem dX0_addByNumbers_4 : decode cX0_addByNumbers 4 = .ok (.getfield 96, 3) := by decide +kernel
theorem dX0_addByNumbers_7 : decode cX0_addByNumbers 7 = .ok (.if_icmp .ge 29, 3) := by decide +kernel
theorem dX0_addByNumbers_10 : decode cX0_addByNumbers 10 = .ok (.aload_n 0, 1) := by decide +kernel
theorem dX0_addByNumbers_11 : decode cX0_addByNumbers 11 = .ok (.getfield 21, 3) := by decide +kernel
theorem dX0_addByNumbers_14 : decode cX0_addByNumbers 14 = .ok (.iload_n 1, 1) := by decide +kernel
theorem dX0_addByNumbers_15 : decode cX0_addByNumbers 15 = .ok (.aaload, 1) := by decide +kernel
theorem dX0_addByNumbers_16 : decode cX0_addByNumbers 16 = .ok (.getfield 114, 3) := by decide +kernel
theorem dX0_addByNumbers_19 : decode cX0_addByNumbers 19 = .ok (.ifCond .eq 11, 3) := by decide +kernel
theorem dX0_addByNumbers_22 : decode cX0_addByNumbers 22 = .ok (.aload_n 0, 1) := by decide +kernel
theorem dX0_addByNumbers_23 : decode cX0_addByNumbers 23 = .ok (.getfield 28, 3) := by decide +kernel
theorem dX0_addByNumbers_26 : decode cX0_addByNumbers 26 = .ok (.iload_n 1, 1) := by decide +kernel
theorem dX0_addByNumbers_27 : decode cX0_addByNumbers 27 = .ok (.invokevirtual 248, 3) := by decide +kernel
theorem dX0_addByNumbers_30 : decode cX0_addByNumbers 30 = .ok (.iinc 1 1, 3) := by decide +kernel
theorem dX0_addByNumbers_33 : decode cX0_addByNumbers 33 = .ok (.goto (-31), 3) := by decide +kernel
theorem dX0_addByNumbers_36 : decode cX0_addByNumbers 36 = .ok (.return_, 1) := by decide +kernel
theorem dX0_arrange_0 : decode cX0_arrange 0 = .ok (.iload_n 1, 1) := by decide +kernel
theorem dX0_arrange_1 : decode cX0_arrange 1 = .ok (.iconst 4, 1) := by decide +kernel
theorem dX0_arrange_2 : decode cX0_arrange 2 = .ok (.if_icmp .ne 12, 3) := by decide +kernel
theorem dX0_arrange_5 : decode cX0_arrange 5 = .ok (.aload_n 0, 1) := by decide +kernel
theorem dX0_arrange_6 : decode cX0_arrange 6 = .ok (.getfield 28, 3) := by decide +kernel
theorem dX0_arrange_9 : decode cX0_arrange 9 = .ok (.lload_n 2, 1) := by decide +kernel
theorem dX0_arrange_10 : decode cX0_arrange 10 = .ok (.invokevirtual 252, 3) := by decide +kernel
theorem dX0_arrange_13 : decode cX0_arrange 13 = .ok (.return_, 1) := by decide +kernel
theorem dX0_arrange_14 : decode cX0_arrange 14 = .ok (.iconst 0, 1) := by decide +kernel
theorem dX0_arrange_15 : decode cX0_arrange 15 = .ok (.istore 4, 2) := by decide +kernel
theorem dX0_arrange_17 : decode cX0_arrange 17 = .ok (.iload 4, 2) := by decide +kernel
theorem dX0_arrange_19 : decode cX0_arrange 19 = .ok (.aload_n 0, 1) := by decide +kernel
theorem dX0_arrange_20 : decode cX0_arrange 20 = .ok (.getfield 96, 3) := by decide +kernel
theorem dX0_arrange_23 : decode cX0_arrange 23 = .ok (.if_icmp .ge 27, 3) := by decide +kernel
theorem dX0_arrange_26 : decode cX0_arrange 26 = .ok (.aload_n 0, 1) := by decide +kernel
theorem dX0_arrange_27 : decode cX0_arrange 27 = .ok (.getfield 35, 3) := by decide +kernel
theorem dX0_arrange_30 : decode cX0_arrange 30 = .ok (.iload 4, 2) := by decide +kernel
theorem dX0_arrange_32 : decode cX0_arrange 32 = .ok (.aload_n 0, 1) := by decide +kernel
theorem dX0_arrange_33 : decode cX0_arrange 33 = .ok (.getfield 21, 3) := by decide +kernel
theorem dX0_arrange_36 : decode cX0_arrange 36 = .ok (.iload 4, 2) := by decide +kernel
theorem dX0_arrange_38 : decode cX0_arrange 38 = .ok (.aaload, 1) := by decide +kernel
theorem dX0_arrange_39 : decode cX0_arrange 39 = .ok (.iload_n 1, 1) := by decide +kernel
theorem dX0_arrange_40 : decode cX0_arrange 40 = .ok (.invokestatic 256, 3) := by decide +kernel
theorem dX0_arrange_43 : decode cX0_arrange 43 = .ok (.iastore, 1) := by decide +kernel
theorem dX0_arrange_44 : decode cX0_arrange 44 = .ok (.iinc 4 1, 3) := by decide +kernel
theorem dX0_arrange_47 : decode cX0_arrange 47 = .ok (.goto (-30), 3) := by decide +kernel
theorem dX0_arrange_50 : decode cX0_arrange 50 = .ok (.aload_n 0, 1) := by decide +kernel
theorem dX0_arrange_51 : decode cX0_arrange 51 = .ok (.getfield 28, 3) := by decide +kernel
theorem dX0_arrange_54 : decode cX0_arrange 54 = .ok (.aload_n 0, 1) := by decide +kernel
theorem dX0_arrange_55 : decode cX0_arrange 55 = .ok (.getfield 35, 3) := by decide +kernel
theorem dX0_arrange_58 : decode cX0_arrange 58 = .ok (.invokevirtual 260, 3) := by decide +kernel
theorem dX0_arrange_61 : decode cX0_arrange 61 = .ok (.return_, 1) := by decide +kernel
theorem dX0_keyOf_0 : decode cX0_keyOf 0 = .ok (.iload_n 1, 1) := by decide +kernel
theorem dX0_keyOf_1 : decode cX0_keyOf 1 = .ok (.lookupswitch 38 #[(1, 27), (2, 33)], 27) := by decide +kernel
theorem dX0_keyOf_28 : decode cX0_keyOf 28 = .ok (.aload_n 0, 1) := by decide +kernel
theorem dX0_keyOf_29 : decode cX0_keyOf 29 = .ok (.getfield 264, 3) := by decide +kernel
theorem dX0_keyOf_32 : decode cX0_keyOf 32 = .ok (.ineg, 1) := by decide +kernel
theorem dX0_keyOf_33 : decode cX0_keyOf 33 = .ok (.ireturn, 1) := by decide +kernel
theorem dX0_keyOf_34 : decode cX0_keyOf 34 = .ok (.aload_n 0, 1) := by decide +kernel
theorem dX0_keyOf_35 : decode cX0_keyOf 35 = .ok (.invokevirtual 172, 3) := by decide +kernel
theorem dX0_keyOf_38 : decode cX0_keyOf 38 = .ok (.ireturn, 1) := by decide +kernel
theorem dX0_keyOf_39 : decode cX0_keyOf 39 = .ok (.iconst 0, 1) := by decide +kernel
theorem dX0_keyOf_40 : decode cX0_keyOf 40 = .ok (.ireturn, 1) := by decide +kernel
theorem dX0_heldAfterTrial_0 : decode cX0_heldAfterTrial 0 = .ok (.aload_n 0, 1) := by decide +kernel
theorem dX0_heldAfterTrial_1 : decode cX0_heldAfterTrial 1 = .ok (.getfield 16, 3) := by decide +kernel
theorem dX0_heldAfterTrial_4 : decode cX0_heldAfterTrial 4 = .ok (.aload_n 0, 1) := by decide +kernel
theorem dX0_heldAfterTrial_5 : decode cX0_heldAfterTrial 5 = .ok (.getfield 12, 3) := by decide +kernel
theorem dX0_heldAfterTrial_8 : decode cX0_heldAfterTrial 8 = .ok (.invokevirtual 267, 3) := by decide +kernel
theorem dX0_heldAfterTrial_11 : decode cX0_heldAfterTrial 11 = .ok (.iconst 0, 1) := by decide +kernel
theorem dX0_heldAfterTrial_12 : decode cX0_heldAfterTrial 12 = .ok (.istore 4, 2) := by decide +kernel
theorem dX0_heldAfterTrial_14 : decode cX0_heldAfterTrial 14 = .ok (.iload 4, 2) := by decide +kernel
theorem dX0_heldAfterTrial_16 : decode cX0_heldAfterTrial 16 = .ok (.aload_n 1, 1) := by decide +kernel
theorem dX0_heldAfterTrial_17 : decode cX0_heldAfterTrial 17 = .ok (.getfield 134, 3) := by decide +kernel
theorem dX0_heldAfterTrial_20 : decode cX0_heldAfterTrial 20 = .ok (.if_icmp .ge 29, 3) := by decide +kernel
theorem dX0_heldAfterTrial_23 : decode cX0_heldAfterTrial 23 = .ok (.aload_n 0, 1) := by decide +kernel
theorem dX0_heldAfterTrial_24 : decode cX0_heldAfterTrial 24 = .ok (.getfield 16, 3) := by decide +kernel
theorem dX0_heldAfterTrial_27 : decode cX0_heldAfterTrial 27 = .ok (.aload_n 0, 1) := by decide +kernel
theorem dX0_heldAfterTrial_28 : decode cX0_heldAfterTrial 28 = .ok (.getfield 21, 3) := by decide +kernel
theorem dX0_heldAfterTrial_31 : decode cX0_heldAfterTrial 31 = .ok (.aload_n 1, 1) := by decide +kernel
theorem dX0_heldAfterTrial_32 : decode cX0_heldAfterTrial 32 = .ok (.getfield 162, 3) := by decide +kernel
theorem dX0_heldAfterTrial_35 : decode cX0_heldAfterTrial 35 = .ok (.iload 4, 2) := by decide +kernel
theorem dX0_heldAfterTrial_37 : decode cX0_heldAfterTrial 37 = .ok (.iaload, 1) := by decide +kernel
theorem dX0_heldAfterTrial_38 : decode cX0_heldAfterTrial 38 = .ok (.aaload, 1) := by decide +kernel
theorem dX0_heldAfterTrial_39 : decode cX0_heldAfterTrial 39 = .ok (.invokevirtual 182, 3) := by decide +kernel
theorem dX0_heldAfterTrial_42 : decode cX0_heldAfterTrial 42 = .ok (.pop2, 1) := by decide +kernel
theorem dX0_heldAfterTrial_43 : decode cX0_heldAfterTrial 43 = .ok (.iinc 4 1, 3) := by decide +kernel
theorem dX0_heldAfterTrial_46 : decode cX0_heldAfterTrial 46 = .ok (.goto (-32), 3) := by decide +kernel
theorem dX0_heldAfterTrial_49 : decode cX0_heldAfterTrial 49 = .ok (.aload_n 0, 1) := by decide +kernel
theorem dX0_heldAfterTrial_50 : decode cX0_heldAfterTrial 50 = .ok (.getfield 16, 3) := by decide +kernel
theorem dX0_heldAfterTrial_53 : decode cX0_heldAfterTrial 53 = .ok (.iload_n 2, 1) := by decide +kernel
theorem dX0_heldAfterTrial_54 : decode cX0_heldAfterTrial 54 = .ok (.iload_n 3, 1) := by decide +kernel
theorem dX0_heldAfterTrial_55 : decode cX0_heldAfterTrial 55 = .ok (.invokevirtual 225, 3) := by decide +kernel
theorem dX0_heldAfterTrial_58 : decode cX0_heldAfterTrial 58 = .ok (.lreturn, 1) := by decide +kernel
theorem dX6_init_0 : decode cX6_init 0 = .ok (.aload_n 0, 1) := by decide +kernel
theorem dX6_init_1 : decode cX6_init 1 = .ok (.invokespecial 1, 3) := by decide +kernel
theorem dX6_init_4 : decode cX6_init 4 = .ok (.aload_n 0, 1) := by decide +kernel
theorem dX6_init_5 : decode cX6_init 5 = .ok (.bipush 8, 2) := by decide +kernel
theorem dX6_init_7 : decode cX6_init 7 = .ok (.newarray .long, 2) := by decide +kernel
theorem dX6_init_9 : decode cX6_init 9 = .ok (.putfield 7, 3) := by decide +kernel
theorem dX6_init_12 : decode cX6_init 12 = .ok (.aload_n 0, 1) := by decide +kernel
theorem dX6_init_13 : decode cX6_init 13 = .ok (.bipush 8, 2) := by decide +kernel
theorem dX6_init_15 : decode cX6_init 15 = .ok (.newarray .long, 2) := by decide +kernel
theorem dX6_init_17 : decode cX6_init 17 = .ok (.putfield 13, 3) := by decide +kernel
theorem dX6_init_20 : decode cX6_init 20 = .ok (.aload_n 0, 1) := by decide +kernel
theorem dX6_init_21 : decode cX6_init 21 = .ok (.bipush 16, 2) := by decide +kernel
theorem dX6_init_23 : decode cX6_init 23 = .ok (.newarray .int, 2) := by decide +kernel
theorem dX6_init_25 : decode cX6_init 25 = .ok (.putfield 16, 3) := by decide +kernel
theorem dX6_init_28 : decode cX6_init 28 = .ok (.aload_n 0, 1) := by decide +kernel
theorem dX6_init_29 : decode cX6_init 29 = .ok (.bipush 16, 2) := by decide +kernel
theorem dX6_init_31 : decode cX6_init 31 = .ok (.newarray .long, 2) := by decide +kernel
theorem dX6_init_33 : decode cX6_init 33 = .ok (.putfield 20, 3) := by decide +kernel
theorem dX6_init_36 : decode cX6_init 36 = .ok (.aload_n 0, 1) := by decide +kernel
theorem dX6_init_37 : decode cX6_init 37 = .ok (.bipush 16, 2) := by decide +kernel
theorem dX6_init_39 : decode cX6_init 39 = .ok (.newarray .long, 2) := by decide +kernel
theorem dX6_init_41 : decode cX6_init 41 = .ok (.putfield 23, 3) := by decide +kernel
theorem dX6_init_44 : decode cX6_init 44 = .ok (.aload_n 0, 1) := by decide +kernel
theorem dX6_init_45 : decode cX6_init 45 = .ok (.bipush 16, 2) := by decide +kernel
theorem dX6_init_47 : decode cX6_init 47 = .ok (.newarray .boolean, 2) := by decide +kernel
theorem dX6_init_49 : decode cX6_init 49 = .ok (.putfield 26, 3) := by decide +kernel
theorem dX6_init_52 : decode cX6_init 52 = .ok (.aload_n 0, 1) := by decide +kernel
theorem dX6_init_53 : decode cX6_init 53 = .ok (.bipush 16, 2) := by decide +kernel
theorem dX6_init_55 : decode cX6_init 55 = .ok (.newarray .int, 2) := by decide +kernel
theorem dX6_init_57 : decode cX6_init 57 = .ok (.putfield 30, 3) := by decide +kernel
theorem dX6_init_60 : decode cX6_init 60 = .ok (.aload_n 0, 1) := by decide +kernel
theorem dX6_init_61 : decode cX6_init 61 = .ok (.bipush 16, 2) := by decide +kernel
theorem dX6_init_63 : decode cX6_init 63 = .ok (.newarray .int, 2) := by decide +kernel
theorem dX6_init_65 : decode cX6_init 65 = .ok (.putfield 33, 3) := by decide +kernel
theorem dX6_init_68 : decode cX6_init 68 = .ok (.aload_n 0, 1) := by decide +kernel
theorem dX6_init_69 : decode cX6_init 69 = .ok (.bipush 16, 2) := by decide +kernel
theorem dX6_init_71 : decode cX6_init 71 = .ok (.newarray .int, 2) := by decide +kernel
theorem dX6_init_73 : decode cX6_init 73 = .ok (.putfield 36, 3) := by decide +kernel
theorem dX6_init_76 : decode cX6_init 76 = .ok (.aload_n 0, 1) := by decide +kernel
theorem dX6_init_77 : decode cX6_init 77 = .ok (.bipush 80, 2) := by decide +kernel
theorem dX6_init_79 : decode cX6_init 79 = .ok (.newarray .int, 2) := by decide +kernel
theorem dX6_init_81 : decode cX6_init 81 = .ok (.putfield 39, 3) := by decide +kernel
theorem dX6_init_84 : decode cX6_init 84 = .ok (.aload_n 0, 1) := by decide +kernel
theorem dX6_init_85 : decode cX6_init 85 = .ok (.iconst (-1), 1) := by decide +kernel
theorem dX6_init_86 : decode cX6_init 86 = .ok (.putfield 42, 3) := by decide +kernel
theorem dX6_init_89 : decode cX6_init 89 = .ok (.aload_n 0, 1) := by decide +kernel
theorem dX6_init_90 : decode cX6_init 90 = .ok (.bipush 16, 2) := by decide +kernel
theorem dX6_init_92 : decode cX6_init 92 = .ok (.newarray .int, 2) := by decide +kernel
theorem dX6_init_94 : decode cX6_init 94 = .ok (.putfield 46, 3) := by decide +kernel
theorem dX6_init_97 : decode cX6_init 97 = .ok (.aload_n 0, 1) := by decide +kernel
theorem dX6_init_98 : decode cX6_init 98 = .ok (.bipush 16, 2) := by decide +kernel
theorem dX6_init_100 : decode cX6_init 100 = .ok (.newarray .int, 2) := by decide +kernel
theorem dX6_init_102 : decode cX6_init 102 = .ok (.putfield 49, 3) := by decide +kernel
theorem dX6_init_105 : decode cX6_init 105 = .ok (.aload_n 0, 1) := by decide +kernel
theorem dX6_init_106 : decode cX6_init 106 = .ok (.bipush 16, 2) := by decide +kernel
theorem dX6_init_108 : decode cX6_init 108 = .ok (.newarray .long, 2) := by decide +kernel
theorem dX6_init_110 : decode cX6_init 110 = .ok (.putfield 52, 3) := by decide +kernel
theorem dX6_init_113 : decode cX6_init 113 = .ok (.aload_n 0, 1) := by decide +kernel
theorem dX6_init_114 : decode cX6_init 114 = .ok (.bipush 16, 2) := by decide +kernel
theorem dX6_init_116 : decode cX6_init 116 = .ok (.newarray .int, 2) := by decide +kernel
theorem dX6_init_118 : decode cX6_init 118 = .ok (.putfield 55, 3) := by decide +kernel
theorem dX6_init_121 : decode cX6_init 121 = .ok (.aload_n 0, 1) := by decide +kernel
theorem dX6_init_122 : decode cX6_init 122 = .ok (.bipush 8, 2) := by decide +kernel
theorem dX6_init_124 : decode cX6_init 124 = .ok (.newarray .long, 2) := by decide +kernel
theorem dX6_init_126 : decode cX6_init 126 = .ok (.putfield 58, 3) := by decide +kernel
theorem dX6_init_129 : decode cX6_init 129 = .ok (.aload_n 0, 1) := by decide +kernel
theorem dX6_init_130 : decode cX6_init 130 = .ok (.bipush 8, 2) := by decide +kernel
theorem dX6_init_132 : decode cX6_init 132 = .ok (.newarray .long, 2) := by decide +kernel
theorem dX6_init_134 : decode cX6_init 134 = .ok (.putfield 61, 3) := by decide +kernel
theorem dX6_init_137 : decode cX6_init 137 = .ok (.aload_n 0, 1) := by decide +kernel
theorem dX6_init_138 : decode cX6_init 138 = .ok (.bipush 16, 2) := by decide +kernel
theorem dX6_init_140 : decode cX6_init 140 = .ok (.newarray .int, 2) := by decide +kernel
theorem dX6_init_142 : decode cX6_init 142 = .ok (.putfield 64, 3) := by decide +kernel
theorem dX6_init_145 : decode cX6_init 145 = .ok (.aload_n 0, 1) := by decide +kernel
theorem dX6_init_146 : decode cX6_init 146 = .ok (.bipush 16, 2) := by decide +kernel
theorem dX6_init_148 : decode cX6_init 148 = .ok (.newarray .long, 2) := by decide +kernel
theorem dX6_init_150 : decode cX6_init 150 = .ok (.putfield 67, 3) := by decide +kernel
theorem dX6_init_153 : decode cX6_init 153 = .ok (.aload_n 0, 1) := by decide +kernel
theorem dX6_init_154 : decode cX6_init 154 = .ok (.bipush 16, 2) := by decide +kernel
theorem dX6_init_156 : decode cX6_init 156 = .ok (.newarray .boolean, 2) := by decide +kernel
theorem dX6_init_158 : decode cX6_init 158 = .ok (.putfield 70, 3) := by decide +kernel
theorem dX6_init_161 : decode cX6_init 161 = .ok (.aload_n 0, 1) := by decide +kernel
theorem dX6_init_162 : decode cX6_init 162 = .ok (.bipush 16, 2) := by decide +kernel
theorem dX6_init_164 : decode cX6_init 164 = .ok (.newarray .boolean, 2) := by decide +kernel
theorem dX6_init_166 : decode cX6_init 166 = .ok (.putfield 73, 3) := by decide +kernel
theorem dX6_init_169 : decode cX6_init 169 = .ok (.aload_n 0, 1) := by decide +kernel
theorem dX6_init_170 : decode cX6_init 170 = .ok (.bipush 16, 2) := by decide +kernel
theorem dX6_init_172 : decode cX6_init 172 = .ok (.newarray .boolean, 2) := by decide +kernel
theorem dX6_init_174 : decode cX6_init 174 = .ok (.putfield 76, 3) := by decide +kernel
theorem dX6_init_177 : decode cX6_init 177 = .ok (.aload_n 0, 1) := by decide +kernel
theorem dX6_init_178 : decode cX6_init 178 = .ok (.bipush 16, 2) := by decide +kernel
theorem dX6_init_180 : decode cX6_init 180 = .ok (.newarray .boolean, 2) := by decide +kernel
theorem dX6_init_182 : decode cX6_init 182 = .ok (.putfield 79, 3) := by decide +kernel
theorem dX6_init_185 : decode cX6_init 185 = .ok (.aload_n 0, 1) := by decide +kernel
theorem dX6_init_186 : decode cX6_init 186 = .ok (.bipush 8, 2) := by decide +kernel
theorem dX6_init_188 : decode cX6_init 188 = .ok (.newarray .long, 2) := by decide +kernel
theorem dX6_init_190 : decode cX6_init 190 = .ok (.putfield 82, 3) := by decide +kernel
theorem dX6_init_193 : decode cX6_init 193 = .ok (.aload_n 0, 1) := by decide +kernel
theorem dX6_init_194 : decode cX6_init 194 = .ok (.bipush 8, 2) := by decide +kernel
theorem dX6_init_196 : decode cX6_init 196 = .ok (.newarray .long, 2) := by decide +kernel
theorem dX6_init_198 : decode cX6_init 198 = .ok (.putfield 85, 3) := by decide +kernel
theorem dX6_init_201 : decode cX6_init 201 = .ok (.return_, 1) := by decide +kernel
theorem dX6_in_0 : decode cX6_in 0 = .ok (.lload_n 0, 1) := by decide +kernel
theorem dX6_in_1 : decode cX6_in 1 = .ok (.lload_n 2, 1) := by decide +kernel
theorem dX6_in_2 : decode cX6_in 2 = .ok (.lcmp, 1) := by decide +kernel
theorem dX6_in_3 : decode cX6_in 3 = .ok (.ifCond .lt 14, 3) := by decide +kernel
theorem dX6_in_6 : decode cX6_in 6 = .ok (.lload_n 0, 1) := by decide +kernel
theorem dX6_in_7 : decode cX6_in 7 = .ok (.lload 4, 2) := by decide +kernel
theorem dX6_in_9 : decode cX6_in 9 = .ok (.lcmp, 1) := by decide +kernel
theorem dX6_in_10 : decode cX6_in 10 = .ok (.ifCond .gt 7, 3) := by decide +kernel
theorem dX6_in_13 : decode cX6_in 13 = .ok (.iconst 1, 1) := by decide +kernel
theorem dX6_in_14 : decode cX6_in 14 = .ok (.goto 4, 3) := by decide +kernel
theorem dX6_in_17 : decode cX6_in 17 = .ok (.iconst 0, 1) := by decide +kernel
theorem dX6_in_18 : decode cX6_in 18 = .ok (.ireturn, 1) := by decide +kernel
theorem dX6_isCall_0 : decode cX6_isCall 0 = .ok (.iload_n 1, 1) := by decide +kernel
theorem dX6_isCall_1 : decode cX6_isCall 1 = .ok (.i2l, 1) := by decide +kernel
theorem dX6_isCall_2 : decode cX6_isCall 2 = .ok (.lconst 0, 1) := by decide +kernel
theorem dX6_isCall_3 : decode cX6_isCall 3 = .ok (.aload_n 0, 1) := by decide +kernel
theorem dX6_isCall_4 : decode cX6_isCall 4 = .ok (.getfield 88, 3) := by decide +kernel
theorem dX6_isCall_7 : decode cX6_isCall 7 = .ok (.i2l, 1) := by decide +kernel
theorem dX6_isCall_8 : decode cX6_isCall 8 = .ok (.lconst 1, 1) := by decide +kernel
theorem dX6_isCall_9 : decode cX6_isCall 9 = .ok (.lsub, 1) := by decide +kernel
theorem dX6_isCall_10 : decode cX6_isCall 10 = .ok (.invokestatic 91, 3) := by decide +kernel
theorem dX6_isCall_13 : decode cX6_isCall 13 = .ok (.ireturn, 1) := by decide +kernel
theorem dX6_newBlock_0 : decode cX6_newBlock 0 = .ok (.aload_n 0, 1) := by decide +kernel
theorem dX6_newBlock_1 : decode cX6_newBlock 1 = .ok (.iconst 0, 1) := by decide +kernel
theorem dX6_newBlock_2 : decode cX6_newBlock 2 = .ok (.putfield 88, 3) := by decide +kernel
theorem dX6_newBlock_5 : decode cX6_newBlock 5 = .ok (.aload_n 0, 1) := by decide +kernel
theorem dX6_newBlock_6 : decode cX6_newBlock 6 = .ok (.iconst (-1), 1) := by decide +kernel
theorem dX6_newBlock_7 : decode cX6_newBlock 7 = .ok (.putfield 42, 3) := by decide +kernel
theorem dX6_newBlock_10 : decode cX6_newBlock 10 = .ok (.aload_n 0, 1) := by decide +kernel
theorem dX6_newBlock_11 : decode cX6_newBlock 11 = .ok (.iconst 0, 1) := by decide +kernel
theorem dX6_newBlock_12 : decode cX6_newBlock 12 = .ok (.putfield 95, 3) := by decide +kernel
theorem dX6_newBlock_15 : decode cX6_newBlock 15 = .ok (.aload_n 0, 1) := by decide +kernel
theorem dX6_newBlock_16 : decode cX6_newBlock 16 = .ok (.iconst 0, 1) := by decide +kernel
theorem dX6_newBlock_17 : decode cX6_newBlock 17 = .ok (.putfield 99, 3) := by decide +kernel
theorem dX6_newBlock_20 : decode cX6_newBlock 20 = .ok (.return_, 1) := by decide +kernel
theorem dX6_clear_0 : decode cX6_clear 0 = .ok (.aload_n 0, 1) := by decide +kernel
theorem dX6_clear_1 : decode cX6_clear 1 = .ok (.getfield 102, 3) := by decide +kernel
theorem dX6_clear_4 : decode cX6_clear 4 = .ok (.istore_n 1, 1) := by decide +kernel
theorem dX6_clear_5 : decode cX6_clear 5 = .ok (.aload_n 0, 1) := by decide +kernel
theorem dX6_clear_6 : decode cX6_clear 6 = .ok (.iconst 0, 1) := by decide +kernel
theorem dX6_clear_7 : decode cX6_clear 7 = .ok (.putfield 102, 3) := by decide +kernel
theorem dX6_clear_10 : decode cX6_clear 10 = .ok (.aload_n 0, 1) := by decide +kernel
theorem dX6_clear_11 : decode cX6_clear 11 = .ok (.lconst 0, 1) := by decide +kernel
theorem dX6_clear_12 : decode cX6_clear 12 = .ok (.putfield 105, 3) := by decide +kernel
theorem dX6_clear_15 : decode cX6_clear 15 = .ok (.aload_n 0, 1) := by decide +kernel
theorem dX6_clear_16 : decode cX6_clear 16 = .ok (.lconst 0, 1) := by decide +kernel
theorem dX6_clear_17 : decode cX6_clear 17 = .ok (.putfield 109, 3) := by decide +kernel
theorem dX6_clear_20 : decode cX6_clear 20 = .ok (.aload_n 0, 1) := by decide +kernel
theorem dX6_clear_21 : decode cX6_clear 21 = .ok (.lconst 0, 1) := by decide +kernel
theorem dX6_clear_22 : decode cX6_clear 22 = .ok (.putfield 112, 3) := by decide +kernel
theorem dX6_clear_25 : decode cX6_clear 25 = .ok (.aload_n 0, 1) := by decide +kernel
theorem dX6_clear_26 : decode cX6_clear 26 = .ok (.iconst 0, 1) := by decide +kernel
theorem dX6_clear_27 : decode cX6_clear 27 = .ok (.putfield 115, 3) := by decide +kernel
theorem dX6_clear_30 : decode cX6_clear 30 = .ok (.aload_n 0, 1) := by decide +kernel
theorem dX6_clear_31 : decode cX6_clear 31 = .ok (.invokevirtual 118, 3) := by decide +kernel
theorem dX6_clear_34 : decode cX6_clear 34 = .ok (.iload_n 1, 1) := by decide +kernel
theorem dX6_clear_35 : decode cX6_clear 35 = .ok (.ireturn, 1) := by decide +kernel
theorem dX6_account_0 : decode cX6_account 0 = .ok (.lload_n 1, 1) := by decide +kernel
theorem dX6_account_1 : decode cX6_account 1 = .ok (.lconst 0, 1) := by decide +kernel
theorem dX6_account_2 : decode cX6_account 2 = .ok (.ldc2_w 121, 3) := by decide +kernel
theorem dX6_account_5 : decode cX6_account 5 = .ok (.invokestatic 91, 3) := by decide +kernel
theorem dX6_account_8 : decode cX6_account 8 = .ok (.ifCond .eq 14, 3) := by decide +kernel
theorem dX6_account_11 : decode cX6_account 11 = .ok (.lload_n 3, 1) := by decide +kernel
theorem dX6_account_12 : decode cX6_account 12 = .ok (.lconst 0, 1) := by decide +kernel
theorem dX6_account_13 : decode cX6_account 13 = .ok (.ldc2_w 121, 3) := by decide +kernel
theorem dX6_account_16 : decode cX6_account 16 = .ok (.invokestatic 91, 3) := by decide +kernel
theorem dX6_account_19 : decode cX6_account 19 = .ok (.ifCond .ne 6, 3) := by decide +kernel
theorem dX6_account_22 : decode cX6_account 22 = .ok (.bipush (-2), 2) := by decide +kernel
theorem dX6_account_24 : decode cX6_account 24 = .ok (.ireturn, 1) := by decide +kernel
theorem dX6_account_25 : decode cX6_account 25 = .ok (.aload_n 0, 1) := by decide +kernel
theorem dX6_account_26 : decode cX6_account 26 = .ok (.getfield 102, 3) := by decide +kernel
theorem dX6_account_29 : decode cX6_account 29 = .ok (.bipush 8, 2) := by decide +kernel
theorem dX6_account_31 : decode cX6_account 31 = .ok (.if_icmp .ne 6, 3) := by decide +kernel
theorem dX6_account_34 : decode cX6_account 34 = .ok (.bipush (-3), 2) := by decide +kernel
theorem dX6_account_36 : decode cX6_account 36 = .ok (.ireturn, 1) := by decide +kernel
theorem dX6_account_37 : decode cX6_account 37 = .ok (.aload_n 0, 1) := by decide +kernel
theorem dX6_account_38 : decode cX6_account 38 = .ok (.getfield 7, 3) := by decide +kernel
theorem dX6_account_41 : decode cX6_account 41 = .ok (.aload_n 0, 1) := by decide +kernel
theorem dX6_account_42 : decode cX6_account 42 = .ok (.getfield 102, 3) := by decide +kernel
theorem dX6_account_45 : decode cX6_account 45 = .ok (.lload_n 1, 1) := by decide +kernel
theorem dX6_account_46 : decode cX6_account 46 = .ok (.lastore, 1) := by decide +kernel
theorem dX6_account_47 : decode cX6_account 47 = .ok (.aload_n 0, 1) := by decide +kernel
theorem dX6_account_48 : decode cX6_account 48 = .ok (.getfield 13, 3) := by decide +kernel
theorem dX6_account_51 : decode cX6_account 51 = .ok (.aload_n 0, 1) := by decide +kernel
theorem dX6_account_52 : decode cX6_account 52 = .ok (.getfield 102, 3) := by decide +kernel
theorem dX6_account_55 : decode cX6_account 55 = .ok (.lload_n 3, 1) := by decide +kernel
theorem dX6_account_56 : decode cX6_account 56 = .ok (.lastore, 1) := by decide +kernel
theorem dX6_account_57 : decode cX6_account 57 = .ok (.aload_n 0, 1) := by decide +kernel
theorem dX6_account_58 : decode cX6_account 58 = .ok (.dup, 1) := by decide +kernel
theorem dX6_account_59 : decode cX6_account 59 = .ok (.getfield 102, 3) := by decide +kernel
theorem dX6_account_62 : decode cX6_account 62 = .ok (.iconst 1, 1) := by decide +kernel
theorem dX6_account_63 : decode cX6_account 63 = .ok (.iadd, 1) := by decide +kernel
theorem dX6_account_64 : decode cX6_account 64 = .ok (.putfield 102, 3) := by decide +kernel
theorem dX6_account_67 : decode cX6_account 67 = .ok (.aload_n 0, 1) := by decide +kernel
theorem dX6_account_68 : decode cX6_account 68 = .ok (.getfield 102, 3) := by decide +kernel
theorem dX6_account_71 : decode cX6_account 71 = .ok (.iconst 1, 1) := by decide +kernel
theorem dX6_account_72 : decode cX6_account 72 = .ok (.isub, 1) := by decide +kernel
theorem dX6_account_73 : decode cX6_account 73 = .ok (.ireturn, 1) := by decide +kernel
theorem dX6_pool_0 : decode cX6_pool 0 = .ok (.lload_n 1, 1) := by decide +kernel
theorem dX6_pool_1 : decode cX6_pool 1 = .ok (.lconst 0, 1) := by decide +kernel
theorem dX6_pool_2 : decode cX6_pool 2 = .ok (.ldc2_w 121, 3) := by decide +kernel
theorem dX6_pool_5 : decode cX6_pool 5 = .ok (.invokestatic 91, 3) := by decide +kernel
theorem dX6_pool_8 : decode cX6_pool 8 = .ok (.ifCond .eq 14, 3) := by decide +kernel
theorem dX6_pool_11 : decode cX6_pool 11 = .ok (.lload_n 3, 1) := by decide +kernel
theorem dX6_pool_12 : decode cX6_pool 12 = .ok (.lconst 0, 1) := by decide +kernel
theorem dX6_pool_13 : decode cX6_pool 13 = .ok (.ldc2_w 121, 3) := by decide +kernel
theorem dX6_pool_16 : decode cX6_pool 16 = .ok (.invokestatic 91, 3) := by decide +kernel
theorem dX6_pool_19 : decode cX6_pool 19 = .ok (.ifCond .ne 6, 3) := by decide +kernel
theorem dX6_pool_22 : decode cX6_pool 22 = .ok (.bipush (-2), 2) := by decide +kernel
theorem dX6_pool_24 : decode cX6_pool 24 = .ok (.ireturn, 1) := by decide +kernel
theorem dX6_pool_25 : decode cX6_pool 25 = .ok (.aload_n 0, 1) := by decide +kernel
theorem dX6_pool_26 : decode cX6_pool 26 = .ok (.lload_n 1, 1) := by decide +kernel
theorem dX6_pool_27 : decode cX6_pool 27 = .ok (.putfield 105, 3) := by decide +kernel
theorem dX6_pool_30 : decode cX6_pool 30 = .ok (.aload_n 0, 1) := by decide +kernel
theorem dX6_pool_31 : decode cX6_pool 31 = .ok (.lload_n 3, 1) := by decide +kernel
theorem dX6_pool_32 : decode cX6_pool 32 = .ok (.putfield 109, 3) := by decide +kernel
theorem dX6_pool_35 : decode cX6_pool 35 = .ok (.iconst 1, 1) := by decide +kernel
theorem dX6_pool_36 : decode cX6_pool 36 = .ok (.ireturn, 1) := by decide +kernel
theorem dX6_isOffer_0 : decode cX6_isOffer 0 = .ok (.iload_n 0, 1) := by decide +kernel
theorem dX6_isOffer_1 : decode cX6_isOffer 1 = .ok (.i2l, 1) := by decide +kernel
theorem dX6_isOffer_2 : decode cX6_isOffer 2 = .ok (.lconst 0, 1) := by decide +kernel
theorem dX6_isOffer_3 : decode cX6_isOffer 3 = .ok (.lconst 1, 1) := by decide +kernel
theorem dX6_isOffer_4 : decode cX6_isOffer 4 = .ok (.invokestatic 91, 3) := by decide +kernel
theorem dX6_isOffer_7 : decode cX6_isOffer 7 = .ok (.ifCond .eq 31, 3) := by decide +kernel
theorem dX6_isOffer_10 : decode cX6_isOffer 10 = .ok (.iload_n 1, 1) := by decide +kernel
theorem dX6_isOffer_11 : decode cX6_isOffer 11 = .ok (.i2l, 1) := by decide +kernel
theorem dX6_isOffer_12 : decode cX6_isOffer 12 = .ok (.lconst 1, 1) := by decide +kernel
theorem dX6_isOffer_13 : decode cX6_isOffer 13 = .ok (.ldc2_w 123, 3) := by decide +kernel
theorem dX6_isOffer_16 : decode cX6_isOffer 16 = .ok (.invokestatic 91, 3) := by decide +kernel
theorem dX6_isOffer_19 : decode cX6_isOffer 19 = .ok (.ifCond .eq 19, 3) := by decide +kernel
theorem dX6_isOffer_22 : decode cX6_isOffer 22 = .ok (.iload_n 2, 1) := by decide +kernel
theorem dX6_isOffer_23 : decode cX6_isOffer 23 = .ok (.i2l, 1) := by decide +kernel
theorem dX6_isOffer_24 : decode cX6_isOffer 24 = .ok (.lconst 1, 1) := by decide +kernel
theorem dX6_isOffer_25 : decode cX6_isOffer 25 = .ok (.ldc2_w 123, 3) := by decide +kernel
theorem dX6_isOffer_28 : decode cX6_isOffer 28 = .ok (.invokestatic 91, 3) := by decide +kernel
theorem dX6_isOffer_31 : decode cX6_isOffer 31 = .ok (.ifCond .eq 7, 3) := by decide +kernel
theorem dX6_isOffer_34 : decode cX6_isOffer 34 = .ok (.iconst 1, 1) := by decide +kernel
theorem dX6_isOffer_35 : decode cX6_isOffer 35 = .ok (.goto 4, 3) := by decide +kernel
theorem dX6_isOffer_38 : decode cX6_isOffer 38 = .ok (.iconst 0, 1) := by decide +kernel
theorem dX6_isOffer_39 : decode cX6_isOffer 39 = .ok (.ireturn, 1) := by decide +kernel
theorem dX6_seal_0 : decode cX6_seal 0 = .ok (.iload_n 1, 1) := by decide +kernel
theorem dX6_seal_1 : decode cX6_seal 1 = .ok (.iload_n 2, 1) := by decide +kernel
theorem dX6_seal_2 : decode cX6_seal 2 = .ok (.iload_n 3, 1) := by decide +kernel
theorem dX6_seal_3 : decode cX6_seal 3 = .ok (.invokestatic 125, 3) := by decide +kernel
theorem dX6_seal_6 : decode cX6_seal 6 = .ok (.ifCond .ne 5, 3) := by decide +kernel
theorem dX6_seal_9 : decode cX6_seal 9 = .ok (.lconst 0, 1) := by decide +kernel
theorem dX6_seal_10 : decode cX6_seal 10 = .ok (.lreturn, 1) := by decide +kernel
theorem dX6_seal_11 : decode cX6_seal 11 = .ok (.iload 4, 2) := by decide +kernel
theorem dX6_seal_13 : decode cX6_seal 13 = .ok (.i2l, 1) := by decide +kernel
theorem dX6_seal_14 : decode cX6_seal 14 = .ok (.ldc2_w 129, 3) := by decide +kernel
theorem dX6_seal_17 : decode cX6_seal 17 = .ok (.lmul, 1) := by decide +kernel
theorem dX6_seal_18 : decode cX6_seal 18 = .ok (.iload_n 1, 1) := by decide +kernel
theorem dX6_seal_19 : decode cX6_seal 19 = .ok (.i2l, 1) := by decide +kernel
theorem dX6_seal_20 : decode cX6_seal 20 = .ok (.ladd, 1) := by decide +kernel
theorem dX6_seal_21 : decode cX6_seal 21 = .ok (.lstore 5, 2) := by decide +kernel
theorem dX6_seal_23 : decode cX6_seal 23 = .ok (.lload 5, 2) := by decide +kernel
theorem dX6_seal_25 : decode cX6_seal 25 = .ok (.ldc2_w 131, 3) := by decide +kernel
theorem dX6_seal_28 : decode cX6_seal 28 = .ok (.lmul, 1) := by decide +kernel
theorem dX6_seal_29 : decode cX6_seal 29 = .ok (.iload_n 2, 1) := by decide +kernel
theorem dX6_seal_30 : decode cX6_seal 30 = .ok (.i2l, 1) := by decide +kernel
theorem dX6_seal_31 : decode cX6_seal 31 = .ok (.ladd, 1) := by decide +kernel
theorem dX6_seal_32 : decode cX6_seal 32 = .ok (.lstore 5, 2) := by decide +kernel
theorem dX6_seal_34 : decode cX6_seal 34 = .ok (.lload 5, 2) := by decide +kernel
theorem dX6_seal_36 : decode cX6_seal 36 = .ok (.ldc2_w 133, 3) := by decide +kernel
theorem dX6_seal_39 : decode cX6_seal 39 = .ok (.lmul, 1) := by decide +kernel
theorem dX6_seal_40 : decode cX6_seal 40 = .ok (.iload_n 3, 1) := by decide +kernel
theorem dX6_seal_41 : decode cX6_seal 41 = .ok (.i2l, 1) := by decide +kernel
theorem dX6_seal_42 : decode cX6_seal 42 = .ok (.ladd, 1) := by decide +kernel
theorem dX6_seal_43 : decode cX6_seal 43 = .ok (.lstore 5, 2) := by decide +kernel
theorem dX6_seal_45 : decode cX6_seal 45 = .ok (.lload 5, 2) := by decide +kernel
theorem dX6_seal_47 : decode cX6_seal 47 = .ok (.ldc2_w 135, 3) := by decide +kernel
theorem dX6_seal_50 : decode cX6_seal 50 = .ok (.lmul, 1) := by decide +kernel
theorem dX6_seal_51 : decode cX6_seal 51 = .ok (.lstore 5, 2) := by decide +kernel
theorem dX6_seal_53 : decode cX6_seal 53 = .ok (.lload 5, 2) := by decide +kernel
theorem dX6_seal_55 : decode cX6_seal 55 = .ok (.lload 5, 2) := by decide +kernel
theorem dX6_seal_57 : decode cX6_seal 57 = .ok (.bipush 29, 2) := by decide +kernel
theorem dX6_seal_59 : decode cX6_seal 59 = .ok (.lushr, 1) := by decide +kernel
theorem dX6_seal_60 : decode cX6_seal 60 = .ok (.lxor, 1) := by decide +kernel
theorem dX6_seal_61 : decode cX6_seal 61 = .ok (.lreturn, 1) := by decide +kernel
theorem dX6_commit_0 : decode cX6_commit 0 = .ok (.iload_n 1, 1) := by decide +kernel
theorem dX6_commit_1 : decode cX6_commit 1 = .ok (.i2l, 1) := by decide +kernel
theorem dX6_commit_2 : decode cX6_commit 2 = .ok (.lconst 0, 1) := by decide +kernel
theorem dX6_commit_3 : decode cX6_commit 3 = .ok (.aload_n 0, 1) := by decide +kernel
theorem dX6_commit_4 : decode cX6_commit 4 = .ok (.getfield 102, 3) := by decide +kernel
theorem dX6_commit_7 : decode cX6_commit 7 = .ok (.i2l, 1) := by decide +kernel
theorem dX6_commit_8 : decode cX6_commit 8 = .ok (.lconst 1, 1) := by decide +kernel
theorem dX6_commit_9 : decode cX6_commit 9 = .ok (.lsub, 1) := by decide +kernel
theorem dX6_commit_10 : decode cX6_commit 10 = .ok (.invokestatic 91, 3) := by decide +kernel
theorem dX6_commit_13 : decode cX6_commit 13 = .ok (.ifCond .eq 14, 3) := by decide +kernel
theorem dX6_commit_16 : decode cX6_commit 16 = .ok (.lload_n 2, 1) := by decide +kernel
theorem dX6_commit_17 : decode cX6_commit 17 = .ok (.lconst 0, 1) := by decide +kernel
theorem dX6_commit_18 : decode cX6_commit 18 = .ok (.ldc2_w 137, 3) := by decide +kernel
theorem dX6_commit_21 : decode cX6_commit 21 = .ok (.invokestatic 91, 3) := by decide +kernel
theorem dX6_commit_24 : decode cX6_commit 24 = .ok (.ifCond .ne 6, 3) := by decide +kernel
theorem dX6_commit_27 : decode cX6_commit 27 = .ok (.bipush (-2), 2) := by decide +kernel
theorem dX6_commit_29 : decode cX6_commit 29 = .ok (.ireturn, 1) := by decide +kernel
theorem dX6_commit_30 : decode cX6_commit 30 = .ok (.aload_n 0, 1) := by decide +kernel
theorem dX6_commit_31 : decode cX6_commit 31 = .ok (.getfield 99, 3) := by decide +kernel
theorem dX6_commit_34 : decode cX6_commit 34 = .ok (.ifCond .eq 6, 3) := by decide +kernel
theorem dX6_commit_37 : decode cX6_commit 37 = .ok (.bipush (-4), 2) := by decide +kernel
theorem dX6_commit_39 : decode cX6_commit 39 = .ok (.ireturn, 1) := by decide +kernel
theorem dX6_commit_40 : decode cX6_commit 40 = .ok (.aload_n 0, 1) := by decide +kernel
theorem dX6_commit_41 : decode cX6_commit 41 = .ok (.getfield 88, 3) := by decide +kernel
theorem dX6_commit_44 : decode cX6_commit 44 = .ok (.bipush 16, 2) := by decide +kernel
theorem dX6_commit_46 : decode cX6_commit 46 = .ok (.if_icmp .ne 6, 3) := by decide +kernel
theorem dX6_commit_49 : decode cX6_commit 49 = .ok (.bipush (-3), 2) := by decide +kernel
theorem dX6_commit_51 : decode cX6_commit 51 = .ok (.ireturn, 1) := by decide +kernel
theorem dX6_commit_52 : decode cX6_commit 52 = .ok (.aload_n 0, 1) := by decide +kernel
theorem dX6_commit_53 : decode cX6_commit 53 = .ok (.getfield 7, 3) := by decide +kernel
theorem dX6_commit_56 : decode cX6_commit 56 = .ok (.iload_n 1, 1) := by decide +kernel
theorem dX6_commit_57 : decode cX6_commit 57 = .ok (.laload, 1) := by decide +kernel
theorem dX6_commit_58 : decode cX6_commit 58 = .ok (.lload_n 2, 1) := by decide +kernel
theorem dX6_commit_59 : decode cX6_commit 59 = .ok (.lcmp, 1) := by decide +kernel
theorem dX6_commit_60 : decode cX6_commit 60 = .ok (.ifCond .ge 6, 3) := by decide +kernel
theorem dX6_commit_63 : decode cX6_commit 63 = .ok (.bipush (-5), 2) := by decide +kernel
theorem dX6_commit_65 : decode cX6_commit 65 = .ok (.ireturn, 1) := by decide +kernel
theorem dX6_commit_66 : decode cX6_commit 66 = .ok (.aload_n 0, 1) := by decide +kernel
theorem dX6_commit_67 : decode cX6_commit 67 = .ok (.getfield 7, 3) := by decide +kernel
theorem dX6_commit_70 : decode cX6_commit 70 = .ok (.iload_n 1, 1) := by decide +kernel
theorem dX6_commit_71 : decode cX6_commit 71 = .ok (.dup2, 1) := by decide +kernel
theorem dX6_commit_72 : decode cX6_commit 72 = .ok (.laload, 1) := by decide +kernel
theorem dX6_commit_73 : decode cX6_commit 73 = .ok (.lload_n 2, 1) := by decide +kernel
theorem dX6_commit_74 : decode cX6_commit 74 = .ok (.lsub, 1) := by decide +kernel
theorem dX6_commit_75 : decode cX6_commit 75 = .ok (.lastore, 1) := by decide +kernel
theorem dX6_commit_76 : decode cX6_commit 76 = .ok (.aload_n 0, 1) := by decide +kernel
theorem dX6_commit_77 : decode cX6_commit 77 = .ok (.getfield 16, 3) := by decide +kernel
theorem dX6_commit_80 : decode cX6_commit 80 = .ok (.aload_n 0, 1) := by decide +kernel
theorem dX6_commit_81 : decode cX6_commit 81 = .ok (.getfield 88, 3) := by decide +kernel
theorem dX6_commit_84 : decode cX6_commit 84 = .ok (.iload_n 1, 1) := by decide +kernel
theorem dX6_commit_85 : decode cX6_commit 85 = .ok (.iastore, 1) := by decide +kernel
theorem dX6_commit_86 : decode cX6_commit 86 = .ok (.aload_n 0, 1) := by decide +kernel
theorem dX6_commit_87 : decode cX6_commit 87 = .ok (.getfield 20, 3) := by decide +kernel
theorem dX6_commit_90 : decode cX6_commit 90 = .ok (.aload_n 0, 1) := by decide +kernel
theorem dX6_commit_91 : decode cX6_commit 91 = .ok (.getfield 88, 3) := by decide +kernel
theorem dX6_commit_94 : decode cX6_commit 94 = .ok (.lload_n 2, 1) := by decide +kernel
theorem dX6_commit_95 : decode cX6_commit 95 = .ok (.lastore, 1) := by decide +kernel
theorem dX6_commit_96 : decode cX6_commit 96 = .ok (.aload_n 0, 1) := by decide +kernel
theorem dX6_commit_97 : decode cX6_commit 97 = .ok (.getfield 23, 3) := by decide +kernel
theorem dX6_commit_100 : decode cX6_commit 100 = .ok (.aload_n 0, 1) := by decide +kernel
theorem dX6_commit_101 : decode cX6_commit 101 = .ok (.getfield 88, 3) := by decide +kernel
theorem dX6_commit_104 : decode cX6_commit 104 = .ok (.lload 4, 2) := by decide +kernel
theorem dX6_commit_106 : decode cX6_commit 106 = .ok (.lastore, 1) := by decide +kernel
theorem dX6_commit_107 : decode cX6_commit 107 = .ok (.aload_n 0, 1) := by decide +kernel
theorem dX6_commit_108 : decode cX6_commit 108 = .ok (.getfield 26, 3) := by decide +kernel
theorem dX6_commit_111 : decode cX6_commit 111 = .ok (.aload_n 0, 1) := by decide +kernel
theorem dX6_commit_112 : decode cX6_commit 112 = .ok (.getfield 88, 3) := by decide +kernel
theorem dX6_commit_115 : decode cX6_commit 115 = .ok (.iconst 0, 1) := by decide +kernel
theorem dX6_commit_116 : decode cX6_commit 116 = .ok (.bastore, 1) := by decide +kernel
theorem dX6_commit_117 : decode cX6_commit 117 = .ok (.iconst 0, 1) := by decide +kernel
theorem dX6_commit_118 : decode cX6_commit 118 = .ok (.istore 6, 2) := by decide +kernel
theorem dX6_commit_120 : decode cX6_commit 120 = .ok (.iload 6, 2) := by decide +kernel
theorem dX6_commit_122 : decode cX6_commit 122 = .ok (.iconst 5, 1) := by decide +kernel
theorem dX6_commit_123 : decode cX6_commit 123 = .ok (.if_icmp .ge 24, 3) := by decide +kernel
theorem dX6_commit_126 : decode cX6_commit 126 = .ok (.aload_n 0, 1) := by decide +kernel
theorem dX6_commit_127 : decode cX6_commit 127 = .ok (.getfield 39, 3) := by decide +kernel
theorem dX6_commit_130 : decode cX6_commit 130 = .ok (.iconst 5, 1) := by decide +kernel
theorem dX6_commit_131 : decode cX6_commit 131 = .ok (.aload_n 0, 1) := by decide +kernel
theorem dX6_commit_132 : decode cX6_commit 132 = .ok (.getfield 88, 3) := by decide +kernel
theorem dX6_commit_135 : decode cX6_commit 135 = .ok (.imul, 1) := by decide +kernel
theorem dX6_commit_136 : decode cX6_commit 136 = .ok (.iload 6, 2) := by decide +kernel
theorem dX6_commit_138 : decode cX6_commit 138 = .ok (.iadd, 1) := by decide +kernel
theorem dX6_commit_139 : decode cX6_commit 139 = .ok (.iconst (-1), 1) := by decide +kernel
theorem dX6_commit_140 : decode cX6_commit 140 = .ok (.iastore, 1) := by decide +kernel
theorem dX6_commit_141 : decode cX6_commit 141 = .ok (.iinc 6 1, 3) := by decide +kernel
theorem dX6_commit_144 : decode cX6_commit 144 = .ok (.goto (-24), 3) := by decide +kernel
theorem dX6_commit_147 : decode cX6_commit 147 = .ok (.aload_n 0, 1) := by decide +kernel
theorem dX6_commit_148 : decode cX6_commit 148 = .ok (.dup, 1) := by decide +kernel
theorem dX6_commit_149 : decode cX6_commit 149 = .ok (.getfield 88, 3) := by decide +kernel
theorem dX6_commit_152 : decode cX6_commit 152 = .ok (.iconst 1, 1) := by decide +kernel
theorem dX6_commit_153 : decode cX6_commit 153 = .ok (.iadd, 1) := by decide +kernel
theorem dX6_commit_154 : decode cX6_commit 154 = .ok (.putfield 88, 3) := by decide +kernel
theorem dX6_commit_157 : decode cX6_commit 157 = .ok (.aload_n 0, 1) := by decide +kernel
theorem dX6_commit_158 : decode cX6_commit 158 = .ok (.getfield 88, 3) := by decide +kernel
theorem dX6_commit_161 : decode cX6_commit 161 = .ok (.iconst 1, 1) := by decide +kernel
theorem dX6_commit_162 : decode cX6_commit 162 = .ok (.isub, 1) := by decide +kernel
theorem dX6_commit_163 : decode cX6_commit 163 = .ok (.ireturn, 1) := by decide +kernel
theorem dX6_hear_0 : decode cX6_hear 0 = .ok (.iload_n 1, 1) := by decide +kernel
theorem dX6_hear_1 : decode cX6_hear 1 = .ok (.i2l, 1) := by decide +kernel
theorem dX6_hear_2 : decode cX6_hear 2 = .ok (.lconst 0, 1) := by decide +kernel
theorem dX6_hear_3 : decode cX6_hear 3 = .ok (.ldc2_w 139, 3) := by decide +kernel
theorem dX6_hear_6 : decode cX6_hear 6 = .ok (.invokestatic 91, 3) := by decide +kernel
theorem dX6_hear_9 : decode cX6_hear 9 = .ok (.ifCond .eq 23, 3) := by decide +kernel
theorem dX6_hear_12 : decode cX6_hear 12 = .ok (.aload_n 0, 1) := by decide +kernel
theorem dX6_hear_13 : decode cX6_hear 13 = .ok (.iload_n 2, 1) := by decide +kernel
theorem dX6_hear_14 : decode cX6_hear 14 = .ok (.invokevirtual 141, 3) := by decide +kernel
theorem dX6_hear_17 : decode cX6_hear 17 = .ok (.ifCond .eq 15, 3) := by decide +kernel
theorem dX6_hear_20 : decode cX6_hear 20 = .ok (.iload_n 3, 1) := by decide +kernel
theorem dX6_hear_21 : decode cX6_hear 21 = .ok (.i2l, 1) := by decide +kernel
theorem dX6_hear_22 : decode cX6_hear 22 = .ok (.lconst 0, 1) := by decide +kernel
theorem dX6_hear_23 : decode cX6_hear 23 = .ok (.ldc2_w 137, 3) := by decide +kernel
theorem dX6_hear_26 : decode cX6_hear 26 = .ok (.invokestatic 91, 3) := by decide +kernel
theorem dX6_hear_29 : decode cX6_hear 29 = .ok (.ifCond .ne 6, 3) := by decide +kernel
theorem dX6_hear_32 : decode cX6_hear 32 = .ok (.bipush (-2), 2) := by decide +kernel
theorem dX6_hear_34 : decode cX6_hear 34 = .ok (.ireturn, 1) := by decide +kernel
theorem dX6_hear_35 : decode cX6_hear 35 = .ok (.aload_n 0, 1) := by decide +kernel
theorem dX6_hear_36 : decode cX6_hear 36 = .ok (.getfield 99, 3) := by decide +kernel
theorem dX6_hear_39 : decode cX6_hear 39 = .ok (.ifCond .eq 6, 3) := by decide +kernel
theorem dX6_hear_42 : decode cX6_hear 42 = .ok (.bipush (-4), 2) := by decide +kernel
theorem dX6_hear_44 : decode cX6_hear 44 = .ok (.ireturn, 1) := by decide +kernel
theorem dX6_hear_45 : decode cX6_hear 45 = .ok (.aload_n 0, 1) := by decide +kernel
theorem dX6_hear_46 : decode cX6_hear 46 = .ok (.getfield 39, 3) := by decide +kernel
theorem dX6_hear_49 : decode cX6_hear 49 = .ok (.iconst 5, 1) := by decide +kernel
theorem dX6_hear_50 : decode cX6_hear 50 = .ok (.iload_n 2, 1) := by decide +kernel
theorem dX6_hear_51 : decode cX6_hear 51 = .ok (.imul, 1) := by decide +kernel
theorem dX6_hear_52 : decode cX6_hear 52 = .ok (.iload_n 1, 1) := by decide +kernel
theorem dX6_hear_53 : decode cX6_hear 53 = .ok (.iadd, 1) := by decide +kernel
theorem dX6_hear_54 : decode cX6_hear 54 = .ok (.iaload, 1) := by decide +kernel
theorem dX6_hear_55 : decode cX6_hear 55 = .ok (.ifCond .lt 6, 3) := by decide +kernel
theorem dX6_hear_58 : decode cX6_hear 58 = .ok (.bipush (-6), 2) := by decide +kernel
theorem dX6_hear_60 : decode cX6_hear 60 = .ok (.ireturn, 1) := by decide +kernel
theorem dX6_hear_61 : decode cX6_hear 61 = .ok (.aload_n 0, 1) := by decide +kernel
theorem dX6_hear_62 : decode cX6_hear 62 = .ok (.getfield 39, 3) := by decide +kernel
theorem dX6_hear_65 : decode cX6_hear 65 = .ok (.iconst 5, 1) := by decide +kernel
theorem dX6_hear_66 : decode cX6_hear 66 = .ok (.iload_n 2, 1) := by decide +kernel
theorem dX6_hear_67 : decode cX6_hear 67 = .ok (.imul, 1) := by decide +kernel
theorem dX6_hear_68 : decode cX6_hear 68 = .ok (.iload_n 1, 1) := by decide +kernel
theorem dX6_hear_69 : decode cX6_hear 69 = .ok (.iadd, 1) := by decide +kernel
theorem dX6_hear_70 : decode cX6_hear 70 = .ok (.iload_n 3, 1) := by decide +kernel
theorem dX6_hear_71 : decode cX6_hear 71 = .ok (.iastore, 1) := by decide +kernel
theorem dX6_hear_72 : decode cX6_hear 72 = .ok (.iconst 1, 1) := by decide +kernel
theorem dX6_hear_73 : decode cX6_hear 73 = .ok (.ireturn, 1) := by decide +kernel
theorem dX6_open_0 : decode cX6_open 0 = .ok (.iload_n 2, 1) := by decide +kernel
theorem dX6_open_1 : decode cX6_open 1 = .ok (.iload_n 3, 1) := by decide +kernel
theorem dX6_open_2 : decode cX6_open 2 = .ok (.iload 4, 2) := by decide +kernel
theorem dX6_open_4 : decode cX6_open 4 = .ok (.invokestatic 125, 3) := by decide +kernel
theorem dX6_open_7 : decode cX6_open 7 = .ok (.ifCond .eq 11, 3) := by decide +kernel
theorem dX6_open_10 : decode cX6_open 10 = .ok (.aload_n 0, 1) := by decide +kernel
theorem dX6_open_11 : decode cX6_open 11 = .ok (.iload_n 1, 1) := by decide +kernel
theorem dX6_open_12 : decode cX6_open 12 = .ok (.invokevirtual 141, 3) := by decide +kernel
theorem dX6_open_15 : decode cX6_open 15 = .ok (.ifCond .ne 6, 3) := by decide +kernel
theorem dX6_open_18 : decode cX6_open 18 = .ok (.bipush (-2), 2) := by decide +kernel
theorem dX6_open_20 : decode cX6_open 20 = .ok (.ireturn, 1) := by decide +kernel
theorem dX6_open_21 : decode cX6_open 21 = .ok (.aload_n 0, 1) := by decide +kernel
theorem dX6_open_22 : decode cX6_open 22 = .ok (.getfield 99, 3) := by decide +kernel
theorem dX6_open_25 : decode cX6_open 25 = .ok (.iconst 1, 1) := by decide +kernel
theorem dX6_open_26 : decode cX6_open 26 = .ok (.if_icmp .ne 12, 3) := by decide +kernel
theorem dX6_open_29 : decode cX6_open 29 = .ok (.aload_n 0, 1) := by decide +kernel
theorem dX6_open_30 : decode cX6_open 30 = .ok (.getfield 26, 3) := by decide +kernel
theorem dX6_open_33 : decode cX6_open 33 = .ok (.iload_n 1, 1) := by decide +kernel
theorem dX6_open_34 : decode cX6_open 34 = .ok (.baload, 1) := by decide +kernel
theorem dX6_open_35 : decode cX6_open 35 = .ok (.ifCond .eq 6, 3) := by decide +kernel
theorem dX6_open_38 : decode cX6_open 38 = .ok (.bipush (-4), 2) := by decide +kernel
theorem dX6_open_40 : decode cX6_open 40 = .ok (.ireturn, 1) := by decide +kernel
theorem dX6_open_41 : decode cX6_open 41 = .ok (.aload_n 0, 1) := by decide +kernel
theorem dX6_open_42 : decode cX6_open 42 = .ok (.iload_n 2, 1) := by decide +kernel
theorem dX6_open_43 : decode cX6_open 43 = .ok (.iload_n 3, 1) := by decide +kernel
theorem dX6_open_44 : decode cX6_open 44 = .ok (.iload 4, 2) := by decide +kernel
theorem dX6_open_46 : decode cX6_open 46 = .ok (.iload 5, 2) := by decide +kernel
theorem dX6_open_48 : decode cX6_open 48 = .ok (.invokevirtual 145, 3) := by decide +kernel
theorem dX6_open_51 : decode cX6_open 51 = .ok (.aload_n 0, 1) := by decide +kernel
theorem dX6_open_52 : decode cX6_open 52 = .ok (.getfield 23, 3) := by decide +kernel
theorem dX6_open_55 : decode cX6_open 55 = .ok (.iload_n 1, 1) := by decide +kernel
theorem dX6_open_56 : decode cX6_open 56 = .ok (.laload, 1) := by decide +kernel
theorem dX6_open_57 : decode cX6_open 57 = .ok (.lcmp, 1) := by decide +kernel
theorem dX6_open_58 : decode cX6_open 58 = .ok (.ifCond .eq 6, 3) := by decide +kernel
theorem dX6_open_61 : decode cX6_open 61 = .ok (.bipush (-6), 2) := by decide +kernel
theorem dX6_open_63 : decode cX6_open 63 = .ok (.ireturn, 1) := by decide +kernel
theorem dX6_open_64 : decode cX6_open 64 = .ok (.aload_n 0, 1) := by decide +kernel
theorem dX6_open_65 : decode cX6_open 65 = .ok (.getfield 26, 3) := by decide +kernel
theorem dX6_open_68 : decode cX6_open 68 = .ok (.iload_n 1, 1) := by decide +kernel
theorem dX6_open_69 : decode cX6_open 69 = .ok (.iconst 1, 1) := by decide +kernel
theorem dX6_open_70 : decode cX6_open 70 = .ok (.bastore, 1) := by decide +kernel
theorem dX6_open_71 : decode cX6_open 71 = .ok (.aload_n 0, 1) := by decide +kernel
theorem dX6_open_72 : decode cX6_open 72 = .ok (.getfield 30, 3) := by decide +kernel
theorem dX6_open_75 : decode cX6_open 75 = .ok (.iload_n 1, 1) := by decide +kernel
theorem dX6_open_76 : decode cX6_open 76 = .ok (.iload_n 2, 1) := by decide +kernel
theorem dX6_open_77 : decode cX6_open 77 = .ok (.iastore, 1) := by decide +kernel
theorem dX6_open_78 : decode cX6_open 78 = .ok (.aload_n 0, 1) := by decide +kernel
theorem dX6_open_79 : decode cX6_open 79 = .ok (.getfield 33, 3) := by decide +kernel
theorem dX6_open_82 : decode cX6_open 82 = .ok (.iload_n 1, 1) := by decide +kernel
theorem dX6_open_83 : decode cX6_open 83 = .ok (.iload_n 3, 1) := by decide +kernel
theorem dX6_open_84 : decode cX6_open 84 = .ok (.iastore, 1) := by decide +kernel
theorem dX6_open_85 : decode cX6_open 85 = .ok (.aload_n 0, 1) := by decide +kernel
theorem dX6_open_86 : decode cX6_open 86 = .ok (.getfield 36, 3) := by decide +kernel
theorem dX6_open_89 : decode cX6_open 89 = .ok (.iload_n 1, 1) := by decide +kernel
theorem dX6_open_90 : decode cX6_open 90 = .ok (.iload 4, 2) := by decide +kernel
theorem dX6_open_92 : decode cX6_open 92 = .ok (.iastore, 1) := by decide +kernel
theorem dX6_open_93 : decode cX6_open 93 = .ok (.aload_n 0, 1) := by decide +kernel
theorem dX6_open_94 : decode cX6_open 94 = .ok (.getfield 7, 3) := by decide +kernel
theorem dX6_open_97 : decode cX6_open 97 = .ok (.aload_n 0, 1) := by decide +kernel
theorem dX6_open_98 : decode cX6_open 98 = .ok (.getfield 16, 3) := by decide +kernel
theorem dX6_open_101 : decode cX6_open 101 = .ok (.iload_n 1, 1) := by decide +kernel
theorem dX6_open_102 : decode cX6_open 102 = .ok (.iaload, 1) := by decide +kernel
theorem dX6_open_103 : decode cX6_open 103 = .ok (.dup2, 1) := by decide +kernel
theorem dX6_open_104 : decode cX6_open 104 = .ok (.laload, 1) := by decide +kernel
theorem dX6_open_105 : decode cX6_open 105 = .ok (.aload_n 0, 1) := by decide +kernel
theorem dX6_open_106 : decode cX6_open 106 = .ok (.getfield 20, 3) := by decide +kernel
theorem dX6_open_109 : decode cX6_open 109 = .ok (.iload_n 1, 1) := by decide +kernel
theorem dX6_open_110 : decode cX6_open 110 = .ok (.laload, 1) := by decide +kernel
theorem dX6_open_111 : decode cX6_open 111 = .ok (.ladd, 1) := by decide +kernel
theorem dX6_open_112 : decode cX6_open 112 = .ok (.lastore, 1) := by decide +kernel
theorem dX6_open_113 : decode cX6_open 113 = .ok (.iconst 1, 1) := by decide +kernel
theorem dX6_open_114 : decode cX6_open 114 = .ok (.ireturn, 1) := by decide +kernel
theorem dX6_next_0 : decode cX6_next 0 = .ok (.aload_n 0, 1) := by decide +kernel
theorem dX6_next_1 : decode cX6_next 1 = .ok (.getfield 99, 3) := by decide +kernel
theorem dX6_next_4 : decode cX6_next 4 = .ok (.iconst 2, 1) := by decide +kernel
theorem dX6_next_5 : decode cX6_next 5 = .ok (.if_icmp .ne 19, 3) := by decide +kernel
theorem dX6_next_8 : decode cX6_next 8 = .ok (.aload_n 0, 1) := by decide +kernel
theorem dX6_next_9 : decode cX6_next 9 = .ok (.dup, 1) := by decide +kernel
theorem dX6_next_10 : decode cX6_next 10 = .ok (.getfield 115, 3) := by decide +kernel
theorem dX6_next_13 : decode cX6_next 13 = .ok (.iconst 1, 1) := by decide +kernel
theorem dX6_next_14 : decode cX6_next 14 = .ok (.iadd, 1) := by decide +kernel
theorem dX6_next_15 : decode cX6_next 15 = .ok (.putfield 115, 3) := by decide +kernel
theorem dX6_next_18 : decode cX6_next 18 = .ok (.aload_n 0, 1) := by decide +kernel
theorem dX6_next_19 : decode cX6_next 19 = .ok (.invokevirtual 118, 3) := by decide +kernel
theorem dX6_next_22 : decode cX6_next 22 = .ok (.iconst 0, 1) := by decide +kernel
theorem dX6_next_23 : decode cX6_next 23 = .ok (.ireturn, 1) := by decide +kernel
theorem dX6_next_24 : decode cX6_next 24 = .ok (.aload_n 0, 1) := by decide +kernel
theorem dX6_next_25 : decode cX6_next 25 = .ok (.dup, 1) := by decide +kernel
theorem dX6_next_26 : decode cX6_next 26 = .ok (.getfield 99, 3) := by decide +kernel
theorem dX6_next_29 : decode cX6_next 29 = .ok (.iconst 1, 1) := by decide +kernel
theorem dX6_next_30 : decode cX6_next 30 = .ok (.iadd, 1) := by decide +kernel
theorem dX6_next_31 : decode cX6_next 31 = .ok (.putfield 99, 3) := by decide +kernel
theorem dX6_next_34 : decode cX6_next 34 = .ok (.iconst 0, 1) := by decide +kernel
theorem dX6_next_35 : decode cX6_next 35 = .ok (.istore_n 1, 1) := by decide +kernel
theorem dX6_next_36 : decode cX6_next 36 = .ok (.aload_n 0, 1) := by decide +kernel
theorem dX6_next_37 : decode cX6_next 37 = .ok (.getfield 99, 3) := by decide +kernel
theorem dX6_next_40 : decode cX6_next 40 = .ok (.iconst 2, 1) := by decide +kernel
theorem dX6_next_41 : decode cX6_next 41 = .ok (.if_icmp .ne 45, 3) := by decide +kernel
theorem dX6_next_44 : decode cX6_next 44 = .ok (.iload_n 1, 1) := by decide +kernel
theorem dX6_next_45 : decode cX6_next 45 = .ok (.aload_n 0, 1) := by decide +kernel
theorem dX6_next_46 : decode cX6_next 46 = .ok (.getfield 88, 3) := by decide +kernel
theorem dX6_next_49 : decode cX6_next 49 = .ok (.if_icmp .ge 37, 3) := by decide +kernel
theorem dX6_next_52 : decode cX6_next 52 = .ok (.aload_n 0, 1) := by decide +kernel
theorem dX6_next_53 : decode cX6_next 53 = .ok (.dup, 1) := by decide +kernel
theorem dX6_next_54 : decode cX6_next 54 = .ok (.getfield 112, 3) := by decide +kernel
theorem dX6_next_57 : decode cX6_next 57 = .ok (.aload_n 0, 1) := by decide +kernel
theorem dX6_next_58 : decode cX6_next 58 = .ok (.getfield 26, 3) := by decide +kernel
