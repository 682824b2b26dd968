theorem d_Jo_commit_0 : decode b_Jo_commit 0 = .ok (.iconst 1, 1) := by decide +kernel
theorem d_Jo_commit_1 : decode b_Jo_commit 1 = .ok (.istore_n 2, 1) := by decide +kernel
theorem d_Jo_commit_2 : decode b_Jo_commit 2 = .ok (.iconst 0, 1) := by decide +kernel
theorem d_Jo_commit_3 : decode b_Jo_commit 3 = .ok (.istore_n 3, 1) := by decide +kernel
theorem d_Jo_commit_4 : decode b_Jo_commit 4 = .ok (.iload_n 2, 1) := by decide +kernel
theorem d_Jo_commit_5 : decode b_Jo_commit 5 = .ok (.ifCond .eq 33, 3) := by decide +kernel
theorem d_Jo_commit_8 : decode b_Jo_commit 8 = .ok (.iload_n 3, 1) := by decide +kernel
theorem d_Jo_commit_9 : decode b_Jo_commit 9 = .ok (.aload_n 0, 1) := by decide +kernel
theorem d_Jo_commit_10 : decode b_Jo_commit 10 = .ok (.getfield 18, 3) := by decide +kernel
theorem d_Jo_commit_13 : decode b_Jo_commit 13 = .ok (.if_icmp .ge 25, 3) := by decide +kernel
theorem d_Jo_commit_16 : decode b_Jo_commit 16 = .ok (.aload_n 1, 1) := by decide +kernel
theorem d_Jo_commit_17 : decode b_Jo_commit 17 = .ok (.iconst 3, 1) := by decide +kernel
theorem d_Jo_commit_18 : decode b_Jo_commit 18 = .ok (.iload_n 3, 1) := by decide +kernel
theorem d_Jo_commit_19 : decode b_Jo_commit 19 = .ok (.iadd, 1) := by decide +kernel
theorem d_Jo_commit_20 : decode b_Jo_commit 20 = .ok (.aload_n 0, 1) := by decide +kernel
theorem d_Jo_commit_21 : decode b_Jo_commit 21 = .ok (.getfield 9, 3) := by decide +kernel
theorem d_Jo_commit_24 : decode b_Jo_commit 24 = .ok (.iload_n 3, 1) := by decide +kernel
theorem d_Jo_commit_25 : decode b_Jo_commit 25 = .ok (.bipush 16, 2) := by decide +kernel
theorem d_Jo_commit_27 : decode b_Jo_commit 27 = .ok (.imul, 1) := by decide +kernel
theorem d_Jo_commit_28 : decode b_Jo_commit 28 = .ok (.invokevirtual 42, 3) := by decide +kernel
theorem d_Jo_commit_31 : decode b_Jo_commit 31 = .ok (.istore_n 2, 1) := by decide +kernel
theorem d_Jo_commit_32 : decode b_Jo_commit 32 = .ok (.iinc 3 1, 3) := by decide +kernel
theorem d_Jo_commit_35 : decode b_Jo_commit 35 = .ok (.goto (-31), 3) := by decide +kernel
theorem d_Jo_commit_38 : decode b_Jo_commit 38 = .ok (.iload_n 2, 1) := by decide +kernel
theorem d_Jo_commit_39 : decode b_Jo_commit 39 = .ok (.ifCond .eq 20, 3) := by decide +kernel
theorem d_Jo_commit_42 : decode b_Jo_commit 42 = .ok (.aload_n 1, 1) := by decide +kernel
theorem d_Jo_commit_43 : decode b_Jo_commit 43 = .ok (.iconst 2, 1) := by decide +kernel
theorem d_Jo_commit_44 : decode b_Jo_commit 44 = .ok (.aload_n 0, 1) := by decide +kernel
theorem d_Jo_commit_45 : decode b_Jo_commit 45 = .ok (.getfield 15, 3) := by decide +kernel
theorem d_Jo_commit_48 : decode b_Jo_commit 48 = .ok (.iconst 0, 1) := by decide +kernel
theorem d_Jo_commit_49 : decode b_Jo_commit 49 = .ok (.invokevirtual 42, 3) := by decide +kernel
theorem d_Jo_commit_52 : decode b_Jo_commit 52 = .ok (.ifCond .eq 7, 3) := by decide +kernel
theorem d_Jo_commit_55 : decode b_Jo_commit 55 = .ok (.iconst 1, 1) := by decide +kernel
theorem d_Jo_commit_56 : decode b_Jo_commit 56 = .ok (.goto 4, 3) := by decide +kernel
theorem d_Jo_commit_59 : decode b_Jo_commit 59 = .ok (.iconst 0, 1) := by decide +kernel
theorem d_Jo_commit_60 : decode b_Jo_commit 60 = .ok (.istore_n 2, 1) := by decide +kernel
theorem d_Jo_commit_61 : decode b_Jo_commit 61 = .ok (.iconst 0, 1) := by decide +kernel
theorem d_Jo_commit_62 : decode b_Jo_commit 62 = .ok (.istore_n 3, 1) := by decide +kernel
theorem d_Jo_commit_63 : decode b_Jo_commit 63 = .ok (.iload_n 2, 1) := by decide +kernel
theorem d_Jo_commit_64 : decode b_Jo_commit 64 = .ok (.ifCond .eq 38, 3) := by decide +kernel
theorem d_Jo_commit_67 : decode b_Jo_commit 67 = .ok (.iload_n 3, 1) := by decide +kernel
theorem d_Jo_commit_68 : decode b_Jo_commit 68 = .ok (.aload_n 0, 1) := by decide +kernel
theorem d_Jo_commit_69 : decode b_Jo_commit 69 = .ok (.getfield 18, 3) := by decide +kernel
theorem d_Jo_commit_72 : decode b_Jo_commit 72 = .ok (.if_icmp .ge 30, 3) := by decide +kernel
theorem d_Jo_commit_75 : decode b_Jo_commit 75 = .ok (.aload_n 1, 1) := by decide +kernel
theorem d_Jo_commit_76 : decode b_Jo_commit 76 = .ok (.aload_n 0, 1) := by decide +kernel
theorem d_Jo_commit_77 : decode b_Jo_commit 77 = .ok (.getfield 15, 3) := by decide +kernel
theorem d_Jo_commit_80 : decode b_Jo_commit 80 = .ok (.iconst 1, 1) := by decide +kernel
theorem d_Jo_commit_81 : decode b_Jo_commit 81 = .ok (.iload_n 3, 1) := by decide +kernel
theorem d_Jo_commit_82 : decode b_Jo_commit 82 = .ok (.iadd, 1) := by decide +kernel
theorem d_Jo_commit_83 : decode b_Jo_commit 83 = .ok (.iaload, 1) := by decide +kernel
theorem d_Jo_commit_84 : decode b_Jo_commit 84 = .ok (.aload_n 0, 1) := by decide +kernel
theorem d_Jo_commit_85 : decode b_Jo_commit 85 = .ok (.getfield 9, 3) := by decide +kernel
theorem d_Jo_commit_88 : decode b_Jo_commit 88 = .ok (.iload_n 3, 1) := by decide +kernel
theorem d_Jo_commit_89 : decode b_Jo_commit 89 = .ok (.bipush 16, 2) := by decide +kernel
theorem d_Jo_commit_91 : decode b_Jo_commit 91 = .ok (.imul, 1) := by decide +kernel
theorem d_Jo_commit_92 : decode b_Jo_commit 92 = .ok (.invokevirtual 42, 3) := by decide +kernel
theorem d_Jo_commit_95 : decode b_Jo_commit 95 = .ok (.istore_n 2, 1) := by decide +kernel
theorem d_Jo_commit_96 : decode b_Jo_commit 96 = .ok (.iinc 3 1, 3) := by decide +kernel
theorem d_Jo_commit_99 : decode b_Jo_commit 99 = .ok (.goto (-36), 3) := by decide +kernel
theorem d_Jo_commit_102 : decode b_Jo_commit 102 = .ok (.iload_n 2, 1) := by decide +kernel
theorem d_Jo_commit_103 : decode b_Jo_commit 103 = .ok (.ifCond .eq 19, 3) := by decide +kernel
theorem d_Jo_commit_106 : decode b_Jo_commit 106 = .ok (.aload_n 1, 1) := by decide +kernel
theorem d_Jo_commit_107 : decode b_Jo_commit 107 = .ok (.iconst 2, 1) := by decide +kernel
theorem d_Jo_commit_108 : decode b_Jo_commit 108 = .ok (.getstatic 46, 3) := by decide +kernel
theorem d_Jo_commit_111 : decode b_Jo_commit 111 = .ok (.iconst 0, 1) := by decide +kernel
theorem d_Jo_commit_112 : decode b_Jo_commit 112 = .ok (.invokevirtual 42, 3) := by decide +kernel
theorem d_Jo_commit_115 : decode b_Jo_commit 115 = .ok (.ifCond .eq 7, 3) := by decide +kernel
theorem d_Jo_commit_118 : decode b_Jo_commit 118 = .ok (.iconst 1, 1) := by decide +kernel
theorem d_Jo_commit_119 : decode b_Jo_commit 119 = .ok (.goto 4, 3) := by decide +kernel
theorem d_Jo_commit_122 : decode b_Jo_commit 122 = .ok (.iconst 0, 1) := by decide +kernel
theorem d_Jo_commit_123 : decode b_Jo_commit 123 = .ok (.ireturn, 1) := by decide +kernel
theorem d_Jo_replay_0 : decode b_Jo_replay 0 = .ok (.bipush 32, 2) := by decide +kernel
theorem d_Jo_replay_2 : decode b_Jo_replay 2 = .ok (.istore_n 2, 1) := by decide +kernel
theorem d_Jo_replay_3 : decode b_Jo_replay 3 = .ok (.aload_n 1, 1) := by decide +kernel
theorem d_Jo_replay_4 : decode b_Jo_replay 4 = .ok (.iload_n 2, 1) := by decide +kernel
theorem d_Jo_replay_5 : decode b_Jo_replay 5 = .ok (.invokevirtual 32, 3) := by decide +kernel
theorem d_Jo_replay_8 : decode b_Jo_replay 8 = .ok (.istore_n 3, 1) := by decide +kernel
theorem d_Jo_replay_9 : decode b_Jo_replay 9 = .ok (.iload_n 3, 1) := by decide +kernel
theorem d_Jo_replay_10 : decode b_Jo_replay 10 = .ok (.ifCond .ne 5, 3) := by decide +kernel
theorem d_Jo_replay_13 : decode b_Jo_replay 13 = .ok (.iconst 1, 1) := by decide +kernel
theorem d_Jo_replay_14 : decode b_Jo_replay 14 = .ok (.ireturn, 1) := by decide +kernel
theorem d_Jo_replay_15 : decode b_Jo_replay 15 = .ok (.iconst 1, 1) := by decide +kernel
theorem d_Jo_replay_16 : decode b_Jo_replay 16 = .ok (.istore 4, 2) := by decide +kernel
theorem d_Jo_replay_18 : decode b_Jo_replay 18 = .ok (.iconst 0, 1) := by decide +kernel
theorem d_Jo_replay_19 : decode b_Jo_replay 19 = .ok (.istore 5, 2) := by decide +kernel
theorem d_Jo_replay_21 : decode b_Jo_replay 21 = .ok (.iload 4, 2) := by decide +kernel
theorem d_Jo_replay_23 : decode b_Jo_replay 23 = .ok (.ifCond .eq 42, 3) := by decide +kernel
theorem d_Jo_replay_26 : decode b_Jo_replay 26 = .ok (.iload 5, 2) := by decide +kernel
theorem d_Jo_replay_28 : decode b_Jo_replay 28 = .ok (.iload_n 3, 1) := by decide +kernel
theorem d_Jo_replay_29 : decode b_Jo_replay 29 = .ok (.if_icmp .ge 36, 3) := by decide +kernel
theorem d_Jo_replay_32 : decode b_Jo_replay 32 = .ok (.iload 5, 2) := by decide +kernel
theorem d_Jo_replay_34 : decode b_Jo_replay 34 = .ok (.bipush 6, 2) := by decide +kernel
theorem d_Jo_replay_36 : decode b_Jo_replay 36 = .ok (.if_icmp .ge 29, 3) := by decide +kernel
theorem d_Jo_replay_39 : decode b_Jo_replay 39 = .ok (.aload_n 1, 1) := by decide +kernel
theorem d_Jo_replay_40 : decode b_Jo_replay 40 = .ok (.iconst 3, 1) := by decide +kernel
theorem d_Jo_replay_41 : decode b_Jo_replay 41 = .ok (.iload 5, 2) := by decide +kernel
theorem d_Jo_replay_43 : decode b_Jo_replay 43 = .ok (.iadd, 1) := by decide +kernel
theorem d_Jo_replay_44 : decode b_Jo_replay 44 = .ok (.aload_n 1, 1) := by decide +kernel
theorem d_Jo_replay_45 : decode b_Jo_replay 45 = .ok (.iload_n 2, 1) := by decide +kernel
theorem d_Jo_replay_46 : decode b_Jo_replay 46 = .ok (.iconst 1, 1) := by decide +kernel
theorem d_Jo_replay_47 : decode b_Jo_replay 47 = .ok (.iadd, 1) := by decide +kernel
theorem d_Jo_replay_48 : decode b_Jo_replay 48 = .ok (.iload 5, 2) := by decide +kernel
theorem d_Jo_replay_50 : decode b_Jo_replay 50 = .ok (.iadd, 1) := by decide +kernel
theorem d_Jo_replay_51 : decode b_Jo_replay 51 = .ok (.invokevirtual 32, 3) := by decide +kernel
theorem d_Jo_replay_54 : decode b_Jo_replay 54 = .ok (.invokevirtual 49, 3) := by decide +kernel
theorem d_Jo_replay_57 : decode b_Jo_replay 57 = .ok (.istore 4, 2) := by decide +kernel
theorem d_Jo_replay_59 : decode b_Jo_replay 59 = .ok (.iinc 5 1, 3) := by decide +kernel
theorem d_Jo_replay_62 : decode b_Jo_replay 62 = .ok (.goto (-41), 3) := by decide +kernel
theorem d_Jo_replay_65 : decode b_Jo_replay 65 = .ok (.iload 4, 2) := by decide +kernel
theorem d_Jo_replay_67 : decode b_Jo_replay 67 = .ok (.ifCond .eq 19, 3) := by decide +kernel
theorem d_Jo_replay_70 : decode b_Jo_replay 70 = .ok (.aload_n 1, 1) := by decide +kernel
theorem d_Jo_replay_71 : decode b_Jo_replay 71 = .ok (.iconst 2, 1) := by decide +kernel
theorem d_Jo_replay_72 : decode b_Jo_replay 72 = .ok (.getstatic 46, 3) := by decide +kernel
theorem d_Jo_replay_75 : decode b_Jo_replay 75 = .ok (.iconst 0, 1) := by decide +kernel
theorem d_Jo_replay_76 : decode b_Jo_replay 76 = .ok (.invokevirtual 42, 3) := by decide +kernel
theorem d_Jo_replay_79 : decode b_Jo_replay 79 = .ok (.ifCond .eq 7, 3) := by decide +kernel
theorem d_Jo_replay_82 : decode b_Jo_replay 82 = .ok (.iconst 1, 1) := by decide +kernel
theorem d_Jo_replay_83 : decode b_Jo_replay 83 = .ok (.goto 4, 3) := by decide +kernel
theorem d_Jo_replay_86 : decode b_Jo_replay 86 = .ok (.iconst 0, 1) := by decide +kernel
theorem d_Jo_replay_87 : decode b_Jo_replay 87 = .ok (.ireturn, 1) := by decide +kernel
theorem d_Sm_init_0 : decode b_Sm_init 0 = .ok (.aload_n 0, 1) := by decide +kernel
theorem d_Sm_init_1 : decode b_Sm_init 1 = .ok (.invokespecial 3, 3) := by decide +kernel
theorem d_Sm_init_4 : decode b_Sm_init 4 = .ok (.aload_n 0, 1) := by decide +kernel
theorem d_Sm_init_5 : decode b_Sm_init 5 = .ok (.bipush 12, 2) := by decide +kernel
theorem d_Sm_init_7 : decode b_Sm_init 7 = .ok (.newarray .int, 2) := by decide +kernel
theorem d_Sm_init_9 : decode b_Sm_init 9 = .ok (.putfield 9, 3) := by decide +kernel
theorem d_Sm_init_12 : decode b_Sm_init 12 = .ok (.aload_n 0, 1) := by decide +kernel
theorem d_Sm_init_13 : decode b_Sm_init 13 = .ok (.bipush 8, 2) := by decide +kernel
theorem d_Sm_init_15 : decode b_Sm_init 15 = .ok (.newarray .int, 2) := by decide +kernel
theorem d_Sm_init_17 : decode b_Sm_init 17 = .ok (.putfield 15, 3) := by decide +kernel
theorem d_Sm_init_20 : decode b_Sm_init 20 = .ok (.aload_n 0, 1) := by decide +kernel
theorem d_Sm_init_21 : decode b_Sm_init 21 = .ok (.iconst 0, 1) := by decide +kernel
theorem d_Sm_init_22 : decode b_Sm_init 22 = .ok (.putfield 18, 3) := by decide +kernel
theorem d_Sm_init_25 : decode b_Sm_init 25 = .ok (.aload_n 0, 1) := by decide +kernel
theorem d_Sm_init_26 : decode b_Sm_init 26 = .ok (.iconst 0, 1) := by decide +kernel
theorem d_Sm_init_27 : decode b_Sm_init 27 = .ok (.putfield 22, 3) := by decide +kernel
theorem d_Sm_init_30 : decode b_Sm_init 30 = .ok (.aload_n 0, 1) := by decide +kernel
theorem d_Sm_init_31 : decode b_Sm_init 31 = .ok (.iconst 0, 1) := by decide +kernel
theorem d_Sm_init_32 : decode b_Sm_init 32 = .ok (.putfield 25, 3) := by decide +kernel
theorem d_Sm_init_35 : decode b_Sm_init 35 = .ok (.aload_n 0, 1) := by decide +kernel
theorem d_Sm_init_36 : decode b_Sm_init 36 = .ok (.iconst 0, 1) := by decide +kernel
theorem d_Sm_init_37 : decode b_Sm_init 37 = .ok (.putfield 29, 3) := by decide +kernel
theorem d_Sm_init_40 : decode b_Sm_init 40 = .ok (.aload_n 0, 1) := by decide +kernel
theorem d_Sm_init_41 : decode b_Sm_init 41 = .ok (.iconst 0, 1) := by decide +kernel
theorem d_Sm_init_42 : decode b_Sm_init 42 = .ok (.putfield 32, 3) := by decide +kernel
theorem d_Sm_init_45 : decode b_Sm_init 45 = .ok (.aload_n 0, 1) := by decide +kernel
theorem d_Sm_init_46 : decode b_Sm_init 46 = .ok (.iconst 0, 1) := by decide +kernel
theorem d_Sm_init_47 : decode b_Sm_init 47 = .ok (.putfield 35, 3) := by decide +kernel
theorem d_Sm_init_50 : decode b_Sm_init 50 = .ok (.aload_n 0, 1) := by decide +kernel
theorem d_Sm_init_51 : decode b_Sm_init 51 = .ok (.iconst 0, 1) := by decide +kernel
theorem d_Sm_init_52 : decode b_Sm_init 52 = .ok (.putfield 38, 3) := by decide +kernel
theorem d_Sm_init_55 : decode b_Sm_init 55 = .ok (.aload_n 0, 1) := by decide +kernel
theorem d_Sm_init_56 : decode b_Sm_init 56 = .ok (.iconst 0, 1) := by decide +kernel
theorem d_Sm_init_57 : decode b_Sm_init 57 = .ok (.putfield 41, 3) := by decide +kernel
theorem d_Sm_init_60 : decode b_Sm_init 60 = .ok (.aload_n 0, 1) := by decide +kernel
theorem d_Sm_init_61 : decode b_Sm_init 61 = .ok (.iconst 0, 1) := by decide +kernel
theorem d_Sm_init_62 : decode b_Sm_init 62 = .ok (.putfield 44, 3) := by decide +kernel
theorem d_Sm_init_65 : decode b_Sm_init 65 = .ok (.aload_n 0, 1) := by decide +kernel
theorem d_Sm_init_66 : decode b_Sm_init 66 = .ok (.iconst 0, 1) := by decide +kernel
theorem d_Sm_init_67 : decode b_Sm_init 67 = .ok (.putfield 47, 3) := by decide +kernel
theorem d_Sm_init_70 : decode b_Sm_init 70 = .ok (.return_, 1) := by decide +kernel
theorem d_Sm_read_0 : decode b_Sm_read 0 = .ok (.aload_n 0, 1) := by decide +kernel
theorem d_Sm_read_1 : decode b_Sm_read 1 = .ok (.aload_n 0, 1) := by decide +kernel
theorem d_Sm_read_2 : decode b_Sm_read 2 = .ok (.aload_n 1, 1) := by decide +kernel
theorem d_Sm_read_3 : decode b_Sm_read 3 = .ok (.iload_n 2, 1) := by decide +kernel
theorem d_Sm_read_4 : decode b_Sm_read 4 = .ok (.iload_n 3, 1) := by decide +kernel
theorem d_Sm_read_5 : decode b_Sm_read 5 = .ok (.aload 4, 2) := by decide +kernel
theorem d_Sm_read_7 : decode b_Sm_read 7 = .ok (.invokevirtual 50, 3) := by decide +kernel
theorem d_Sm_read_10 : decode b_Sm_read 10 = .ok (.putfield 25, 3) := by decide +kernel
theorem d_Sm_read_13 : decode b_Sm_read 13 = .ok (.aload_n 0, 1) := by decide +kernel
theorem d_Sm_read_14 : decode b_Sm_read 14 = .ok (.getfield 29, 3) := by decide +kernel
theorem d_Sm_read_17 : decode b_Sm_read 17 = .ok (.lookupswitch 243 #[(61, 67), (69, 159), (71, 148), (73, 105), (80, 93), (82, 203), (87, 162)], 67) := by decide +kernel
theorem d_Sm_read_84 : decode b_Sm_read 84 = .ok (.aload_n 0, 1) := by decide +kernel
theorem d_Sm_read_85 : decode b_Sm_read 85 = .ok (.aload_n 0, 1) := by decide +kernel
theorem d_Sm_read_86 : decode b_Sm_read 86 = .ok (.invokevirtual 54, 3) := by decide +kernel
theorem d_Sm_read_89 : decode b_Sm_read 89 = .ok (.putfield 32, 3) := by decide +kernel
theorem d_Sm_read_92 : decode b_Sm_read 92 = .ok (.aload_n 0, 1) := by decide +kernel
theorem d_Sm_read_93 : decode b_Sm_read 93 = .ok (.bipush 61, 2) := by decide +kernel
theorem d_Sm_read_95 : decode b_Sm_read 95 = .ok (.invokevirtual 57, 3) := by decide +kernel
theorem d_Sm_read_98 : decode b_Sm_read 98 = .ok (.aload_n 0, 1) := by decide +kernel
theorem d_Sm_read_99 : decode b_Sm_read 99 = .ok (.aload_n 0, 1) := by decide +kernel
theorem d_Sm_read_100 : decode b_Sm_read 100 = .ok (.iconst 0, 1) := by decide +kernel
theorem d_Sm_read_101 : decode b_Sm_read 101 = .ok (.invokevirtual 61, 3) := by decide +kernel
theorem d_Sm_read_104 : decode b_Sm_read 104 = .ok (.putfield 38, 3) := by decide +kernel
theorem d_Sm_read_107 : decode b_Sm_read 107 = .ok (.goto 158, 3) := by decide +kernel
theorem d_Sm_read_110 : decode b_Sm_read 110 = .ok (.aload_n 0, 1) := by decide +kernel
theorem d_Sm_read_111 : decode b_Sm_read 111 = .ok (.aload_n 0, 1) := by decide +kernel
theorem d_Sm_read_112 : decode b_Sm_read 112 = .ok (.iconst 0, 1) := by decide +kernel
theorem d_Sm_read_113 : decode b_Sm_read 113 = .ok (.invokevirtual 61, 3) := by decide +kernel
theorem d_Sm_read_116 : decode b_Sm_read 116 = .ok (.putfield 38, 3) := by decide +kernel
theorem d_Sm_read_119 : decode b_Sm_read 119 = .ok (.goto 146, 3) := by decide +kernel
theorem d_Sm_read_122 : decode b_Sm_read 122 = .ok (.aload_n 0, 1) := by decide +kernel
theorem d_Sm_read_123 : decode b_Sm_read 123 = .ok (.aload_n 0, 1) := by decide +kernel
theorem d_Sm_read_124 : decode b_Sm_read 124 = .ok (.iconst 0, 1) := by decide +kernel
theorem d_Sm_read_125 : decode b_Sm_read 125 = .ok (.invokevirtual 61, 3) := by decide +kernel
theorem d_Sm_read_128 : decode b_Sm_read 128 = .ok (.putfield 38, 3) := by decide +kernel
theorem d_Sm_read_131 : decode b_Sm_read 131 = .ok (.aload_n 0, 1) := by decide +kernel
theorem d_Sm_read_132 : decode b_Sm_read 132 = .ok (.aload_n 0, 1) := by decide +kernel
theorem d_Sm_read_133 : decode b_Sm_read 133 = .ok (.invokevirtual 65, 3) := by decide +kernel
theorem d_Sm_read_136 : decode b_Sm_read 136 = .ok (.putfield 41, 3) := by decide +kernel
theorem d_Sm_read_139 : decode b_Sm_read 139 = .ok (.aload_n 0, 1) := by decide +kernel
theorem d_Sm_read_140 : decode b_Sm_read 140 = .ok (.aload_n 0, 1) := by decide +kernel
theorem d_Sm_read_141 : decode b_Sm_read 141 = .ok (.iconst 0, 1) := by decide +kernel
theorem d_Sm_read_142 : decode b_Sm_read 142 = .ok (.invokevirtual 61, 3) := by decide +kernel
theorem d_Sm_read_145 : decode b_Sm_read 145 = .ok (.putfield 44, 3) := by decide +kernel
theorem d_Sm_read_148 : decode b_Sm_read 148 = .ok (.aload_n 0, 1) := by decide +kernel
theorem d_Sm_read_149 : decode b_Sm_read 149 = .ok (.bipush 71, 2) := by decide +kernel
theorem d_Sm_read_151 : decode b_Sm_read 151 = .ok (.invokevirtual 57, 3) := by decide +kernel
theorem d_Sm_read_154 : decode b_Sm_read 154 = .ok (.aload_n 0, 1) := by decide +kernel
theorem d_Sm_read_155 : decode b_Sm_read 155 = .ok (.aload_n 0, 1) := by decide +kernel
theorem d_Sm_read_156 : decode b_Sm_read 156 = .ok (.invokevirtual 67, 3) := by decide +kernel
theorem d_Sm_read_159 : decode b_Sm_read 159 = .ok (.putfield 47, 3) := by decide +kernel
theorem d_Sm_read_162 : decode b_Sm_read 162 = .ok (.goto 103, 3) := by decide +kernel
theorem d_Sm_read_165 : decode b_Sm_read 165 = .ok (.aload_n 0, 1) := by decide +kernel
theorem d_Sm_read_166 : decode b_Sm_read 166 = .ok (.aload_n 0, 1) := by decide +kernel
theorem d_Sm_read_167 : decode b_Sm_read 167 = .ok (.invokevirtual 67, 3) := by decide +kernel
theorem d_Sm_read_170 : decode b_Sm_read 170 = .ok (.putfield 47, 3) := by decide +kernel
theorem d_Sm_read_173 : decode b_Sm_read 173 = .ok (.goto 92, 3) := by decide +kernel
theorem d_Sm_read_176 : decode b_Sm_read 176 = .ok (.goto 89, 3) := by decide +kernel
theorem d_Sm_read_179 : decode b_Sm_read 179 = .ok (.aload_n 0, 1) := by decide +kernel
theorem d_Sm_read_180 : decode b_Sm_read 180 = .ok (.aload_n 0, 1) := by decide +kernel
theorem d_Sm_read_181 : decode b_Sm_read 181 = .ok (.invokevirtual 70, 3) := by decide +kernel
theorem d_Sm_read_184 : decode b_Sm_read 184 = .ok (.putfield 35, 3) := by decide +kernel
theorem d_Sm_read_187 : decode b_Sm_read 187 = .ok (.aload_n 0, 1) := by decide +kernel
theorem d_Sm_read_188 : decode b_Sm_read 188 = .ok (.bipush 44, 2) := by decide +kernel
theorem d_Sm_read_190 : decode b_Sm_read 190 = .ok (.invokevirtual 57, 3) := by decide +kernel
theorem d_Sm_read_193 : decode b_Sm_read 193 = .ok (.aload_n 0, 1) := by decide +kernel
theorem d_Sm_read_194 : decode b_Sm_read 194 = .ok (.aload_n 0, 1) := by decide +kernel
theorem d_Sm_read_195 : decode b_Sm_read 195 = .ok (.iconst 0, 1) := by decide +kernel
theorem d_Sm_read_196 : decode b_Sm_read 196 = .ok (.invokevirtual 61, 3) := by decide +kernel
theorem d_Sm_read_199 : decode b_Sm_read 199 = .ok (.putfield 38, 3) := by decide +kernel
theorem d_Sm_read_202 : decode b_Sm_read 202 = .ok (.aload_n 0, 1) := by decide +kernel
theorem d_Sm_read_203 : decode b_Sm_read 203 = .ok (.bipush 44, 2) := by decide +kernel
theorem d_Sm_read_205 : decode b_Sm_read 205 = .ok (.invokevirtual 57, 3) := by decide +kernel
theorem d_Sm_read_208 : decode b_Sm_read 208 = .ok (.aload_n 0, 1) := by decide +kernel
theorem d_Sm_read_209 : decode b_Sm_read 209 = .ok (.aload_n 0, 1) := by decide +kernel
theorem d_Sm_read_210 : decode b_Sm_read 210 = .ok (.iconst 0, 1) := by decide +kernel
theorem d_Sm_read_211 : decode b_Sm_read 211 = .ok (.invokevirtual 61, 3) := by decide +kernel
theorem d_Sm_read_214 : decode b_Sm_read 214 = .ok (.putfield 44, 3) := by decide +kernel
theorem d_Sm_read_217 : decode b_Sm_read 217 = .ok (.goto 48, 3) := by decide +kernel
theorem d_Sm_read_220 : decode b_Sm_read 220 = .ok (.aload_n 0, 1) := by decide +kernel
theorem d_Sm_read_221 : decode b_Sm_read 221 = .ok (.aload_n 0, 1) := by decide +kernel
theorem d_Sm_read_222 : decode b_Sm_read 222 = .ok (.invokevirtual 70, 3) := by decide +kernel
theorem d_Sm_read_225 : decode b_Sm_read 225 = .ok (.putfield 35, 3) := by decide +kernel
theorem d_Sm_read_228 : decode b_Sm_read 228 = .ok (.aload_n 0, 1) := by decide +kernel
theorem d_Sm_read_229 : decode b_Sm_read 229 = .ok (.bipush 44, 2) := by decide +kernel
theorem d_Sm_read_231 : decode b_Sm_read 231 = .ok (.invokevirtual 57, 3) := by decide +kernel
theorem d_Sm_read_234 : decode b_Sm_read 234 = .ok (.aload_n 0, 1) := by decide +kernel
theorem d_Sm_read_235 : decode b_Sm_read 235 = .ok (.aload_n 0, 1) := by decide +kernel
theorem d_Sm_read_236 : decode b_Sm_read 236 = .ok (.iconst 0, 1) := by decide +kernel
theorem d_Sm_read_237 : decode b_Sm_read 237 = .ok (.invokevirtual 61, 3) := by decide +kernel
theorem d_Sm_read_240 : decode b_Sm_read 240 = .ok (.putfield 38, 3) := by decide +kernel
theorem d_Sm_read_243 : decode b_Sm_read 243 = .ok (.aload_n 0, 1) := by decide +kernel
theorem d_Sm_read_244 : decode b_Sm_read 244 = .ok (.bipush 44, 2) := by decide +kernel
theorem d_Sm_read_246 : decode b_Sm_read 246 = .ok (.invokevirtual 57, 3) := by decide +kernel
theorem d_Sm_read_249 : decode b_Sm_read 249 = .ok (.aload_n 0, 1) := by decide +kernel
theorem d_Sm_read_250 : decode b_Sm_read 250 = .ok (.aload_n 0, 1) := by decide +kernel
theorem d_Sm_read_251 : decode b_Sm_read 251 = .ok (.invokevirtual 54, 3) := by decide +kernel
theorem d_Sm_read_254 : decode b_Sm_read 254 = .ok (.putfield 32, 3) := by decide +kernel
theorem d_Sm_read_257 : decode b_Sm_read 257 = .ok (.goto 8, 3) := by decide +kernel
theorem d_Sm_read_260 : decode b_Sm_read 260 = .ok (.aload_n 0, 1) := by decide +kernel
theorem d_Sm_read_261 : decode b_Sm_read 261 = .ok (.iconst 0, 1) := by decide +kernel
theorem d_Sm_read_262 : decode b_Sm_read 262 = .ok (.putfield 25, 3) := by decide +kernel
theorem d_Sm_read_265 : decode b_Sm_read 265 = .ok (.aload_n 0, 1) := by decide +kernel
theorem d_Sm_read_266 : decode b_Sm_read 266 = .ok (.getfield 25, 3) := by decide +kernel
theorem d_Sm_read_269 : decode b_Sm_read 269 = .ok (.ifCond .eq 18, 3) := by decide +kernel
theorem d_Sm_read_272 : decode b_Sm_read 272 = .ok (.aload_n 0, 1) := by decide +kernel
theorem d_Sm_read_273 : decode b_Sm_read 273 = .ok (.getfield 22, 3) := by decide +kernel
theorem d_Sm_read_276 : decode b_Sm_read 276 = .ok (.aload_n 0, 1) := by decide +kernel
theorem d_Sm_read_277 : decode b_Sm_read 277 = .ok (.getfield 18, 3) := by decide +kernel
theorem d_Sm_read_280 : decode b_Sm_read 280 = .ok (.if_icmp .ne 7, 3) := by decide +kernel
theorem d_Sm_read_283 : decode b_Sm_read 283 = .ok (.iconst 1, 1) := by decide +kernel
theorem d_Sm_read_284 : decode b_Sm_read 284 = .ok (.goto 4, 3) := by decide +kernel
theorem d_Sm_read_287 : decode b_Sm_read 287 = .ok (.iconst 0, 1) := by decide +kernel
theorem d_Sm_read_288 : decode b_Sm_read 288 = .ok (.ireturn, 1) := by decide +kernel
theorem d_Sm_jumps_0 : decode b_Sm_jumps 0 = .ok (.aload_n 0, 1) := by decide +kernel
theorem d_Sm_jumps_1 : decode b_Sm_jumps 1 = .ok (.getfield 29, 3) := by decide +kernel
theorem d_Sm_jumps_4 : decode b_Sm_jumps 4 = .ok (.bipush 73, 2) := by decide +kernel
theorem d_Sm_jumps_6 : decode b_Sm_jumps 6 = .ok (.if_icmp .eq 18, 3) := by decide +kernel
theorem d_Sm_jumps_9 : decode b_Sm_jumps 9 = .ok (.aload_n 0, 1) := by decide +kernel
theorem d_Sm_jumps_10 : decode b_Sm_jumps 10 = .ok (.getfield 29, 3) := by decide +kernel
theorem d_Sm_jumps_13 : decode b_Sm_jumps 13 = .ok (.bipush 71, 2) := by decide +kernel
theorem d_Sm_jumps_15 : decode b_Sm_jumps 15 = .ok (.if_icmp .ne 7, 3) := by decide +kernel
theorem d_Sm_jumps_18 : decode b_Sm_jumps 18 = .ok (.iconst 1, 1) := by decide +kernel
theorem d_Sm_jumps_19 : decode b_Sm_jumps 19 = .ok (.goto 4, 3) := by decide +kernel
theorem d_Sm_jumps_22 : decode b_Sm_jumps 22 = .ok (.iconst 0, 1) := by decide +kernel
theorem d_Sm_jumps_23 : decode b_Sm_jumps 23 = .ok (.ireturn, 1) := by decide +kernel
theorem d_Sm_jumps_24 : decode b_Sm_jumps 24 = .ok (.aload_n 0, 1) := by decide +kernel
theorem d_Sm_jumps_25 : decode b_Sm_jumps 25 = .ok (.getfield 41, 3) := by decide +kernel
theorem d_Sm_jumps_28 : decode b_Sm_jumps 28 = .ok (.bipush 60, 2) := by decide +kernel
theorem d_Sm_jumps_30 : decode b_Sm_jumps 30 = .ok (.if_icmp .ne 22, 3) := by decide +kernel
theorem d_Sm_jumps_33 : decode b_Sm_jumps 33 = .ok (.aload_n 0, 1) := by decide +kernel
theorem d_Sm_jumps_34 : decode b_Sm_jumps 34 = .ok (.getfield 38, 3) := by decide +kernel
theorem d_Sm_jumps_37 : decode b_Sm_jumps 37 = .ok (.aload_n 0, 1) := by decide +kernel
theorem d_Sm_jumps_38 : decode b_Sm_jumps 38 = .ok (.getfield 44, 3) := by decide +kernel
theorem d_Sm_jumps_41 : decode b_Sm_jumps 41 = .ok (.if_icmp .ge 7, 3) := by decide +kernel
theorem d_Sm_jumps_44 : decode b_Sm_jumps 44 = .ok (.iconst 1, 1) := by decide +kernel
theorem d_Sm_jumps_45 : decode b_Sm_jumps 45 = .ok (.goto 51, 3) := by decide +kernel
theorem d_Sm_jumps_48 : decode b_Sm_jumps 48 = .ok (.iconst 0, 1) := by decide +kernel
theorem d_Sm_jumps_49 : decode b_Sm_jumps 49 = .ok (.goto 47, 3) := by decide +kernel
theorem d_Sm_jumps_52 : decode b_Sm_jumps 52 = .ok (.aload_n 0, 1) := by decide +kernel
theorem d_Sm_jumps_53 : decode b_Sm_jumps 53 = .ok (.getfield 41, 3) := by decide +kernel
theorem d_Sm_jumps_56 : decode b_Sm_jumps 56 = .ok (.bipush 62, 2) := by decide +kernel
theorem d_Sm_jumps_58 : decode b_Sm_jumps 58 = .ok (.if_icmp .ne 22, 3) := by decide +kernel
theorem d_Sm_jumps_61 : decode b_Sm_jumps 61 = .ok (.aload_n 0, 1) := by decide +kernel
theorem d_Sm_jumps_62 : decode b_Sm_jumps 62 = .ok (.getfield 38, 3) := by decide +kernel
theorem d_Sm_jumps_65 : decode b_Sm_jumps 65 = .ok (.aload_n 0, 1) := by decide +kernel
theorem d_Sm_jumps_66 : decode b_Sm_jumps 66 = .ok (.getfield 44, 3) := by decide +kernel
theorem d_Sm_jumps_69 : decode b_Sm_jumps 69 = .ok (.if_icmp .le 7, 3) := by decide +kernel
theorem d_Sm_jumps_72 : decode b_Sm_jumps 72 = .ok (.iconst 1, 1) := by decide +kernel
theorem d_Sm_jumps_73 : decode b_Sm_jumps 73 = .ok (.goto 23, 3) := by decide +kernel
theorem d_Sm_jumps_76 : decode b_Sm_jumps 76 = .ok (.iconst 0, 1) := by decide +kernel
theorem d_Sm_jumps_77 : decode b_Sm_jumps 77 = .ok (.goto 19, 3) := by decide +kernel
theorem d_Sm_jumps_80 : decode b_Sm_jumps 80 = .ok (.aload_n 0, 1) := by decide +kernel
theorem d_Sm_jumps_81 : decode b_Sm_jumps 81 = .ok (.getfield 38, 3) := by decide +kernel
theorem d_Sm_jumps_84 : decode b_Sm_jumps 84 = .ok (.aload_n 0, 1) := by decide +kernel
theorem d_Sm_jumps_85 : decode b_Sm_jumps 85 = .ok (.getfield 44, 3) := by decide +kernel
theorem d_Sm_jumps_88 : decode b_Sm_jumps 88 = .ok (.if_icmp .ne 7, 3) := by decide +kernel
theorem d_Sm_jumps_91 : decode b_Sm_jumps 91 = .ok (.iconst 1, 1) := by decide +kernel
theorem d_Sm_jumps_92 : decode b_Sm_jumps 92 = .ok (.goto 4, 3) := by decide +kernel
theorem d_Sm_jumps_95 : decode b_Sm_jumps 95 = .ok (.iconst 0, 1) := by decide +kernel
theorem d_Sm_jumps_96 : decode b_Sm_jumps 96 = .ok (.ireturn, 1) := by decide +kernel
theorem d_Sm_take_0 : decode b_Sm_take 0 = .ok (.aload_n 0, 1) := by decide +kernel
theorem d_Sm_take_1 : decode b_Sm_take 1 = .ok (.iconst 0, 1) := by decide +kernel
theorem d_Sm_take_2 : decode b_Sm_take 2 = .ok (.putfield 29, 3) := by decide +kernel
theorem d_Sm_take_5 : decode b_Sm_take 5 = .ok (.iload_n 3, 1) := by decide +kernel
theorem d_Sm_take_6 : decode b_Sm_take 6 = .ok (.iconst 1, 1) := by decide +kernel
theorem d_Sm_take_7 : decode b_Sm_take 7 = .ok (.if_icmp .lt 21, 3) := by decide +kernel
theorem d_Sm_take_10 : decode b_Sm_take 10 = .ok (.iload_n 3, 1) := by decide +kernel
theorem d_Sm_take_11 : decode b_Sm_take 11 = .ok (.bipush 12, 2) := by decide +kernel
theorem d_Sm_take_13 : decode b_Sm_take 13 = .ok (.if_icmp .gt 15, 3) := by decide +kernel
theorem d_Sm_take_16 : decode b_Sm_take 16 = .ok (.iload_n 2, 1) := by decide +kernel
theorem d_Sm_take_17 : decode b_Sm_take 17 = .ok (.ifCond .lt 11, 3) := by decide +kernel
theorem d_Sm_take_20 : decode b_Sm_take 20 = .ok (.iload_n 2, 1) := by decide +kernel
theorem d_Sm_take_21 : decode b_Sm_take 21 = .ok (.aload_n 1, 1) := by decide +kernel
theorem d_Sm_take_22 : decode b_Sm_take 22 = .ok (.arraylength, 1) := by decide +kernel
theorem d_Sm_take_23 : decode b_Sm_take 23 = .ok (.iload_n 3, 1) := by decide +kernel
theorem d_Sm_take_24 : decode b_Sm_take 24 = .ok (.isub, 1) := by decide +kernel
theorem d_Sm_take_25 : decode b_Sm_take 25 = .ok (.if_icmp .le 5, 3) := by decide +kernel
theorem d_Sm_take_28 : decode b_Sm_take 28 = .ok (.iconst 0, 1) := by decide +kernel
theorem d_Sm_take_29 : decode b_Sm_take 29 = .ok (.ireturn, 1) := by decide +kernel
theorem d_Sm_take_30 : decode b_Sm_take 30 = .ok (.aload_n 1, 1) := by decide +kernel
theorem d_Sm_take_31 : decode b_Sm_take 31 = .ok (.iload_n 2, 1) := by decide +kernel
theorem d_Sm_take_32 : decode b_Sm_take 32 = .ok (.aload_n 0, 1) := by decide +kernel
theorem d_Sm_take_33 : decode b_Sm_take 33 = .ok (.getfield 9, 3) := by decide +kernel
theorem d_Sm_take_36 : decode b_Sm_take 36 = .ok (.iconst 0, 1) := by decide +kernel
theorem d_Sm_take_37 : decode b_Sm_take 37 = .ok (.iload_n 3, 1) := by decide +kernel
theorem d_Sm_take_38 : decode b_Sm_take 38 = .ok (.invokestatic 73, 3) := by decide +kernel
theorem d_Sm_take_41 : decode b_Sm_take 41 = .ok (.aload 4, 2) := by decide +kernel
theorem d_Sm_take_43 : decode b_Sm_take 43 = .ok (.iconst 0, 1) := by decide +kernel
theorem d_Sm_take_44 : decode b_Sm_take 44 = .ok (.aload_n 0, 1) := by decide +kernel
theorem d_Sm_take_45 : decode b_Sm_take 45 = .ok (.getfield 15, 3) := by decide +kernel
theorem d_Sm_take_48 : decode b_Sm_take 48 = .ok (.iconst 0, 1) := by decide +kernel
theorem d_Sm_take_49 : decode b_Sm_take 49 = .ok (.bipush 8, 2) := by decide +kernel
theorem d_Sm_take_51 : decode b_Sm_take 51 = .ok (.invokestatic 73, 3) := by decide +kernel
theorem d_Sm_take_54 : decode b_Sm_take 54 = .ok (.aload_n 0, 1) := by decide +kernel
theorem d_Sm_take_55 : decode b_Sm_take 55 = .ok (.iload_n 3, 1) := by decide +kernel
theorem d_Sm_take_56 : decode b_Sm_take 56 = .ok (.putfield 18, 3) := by decide +kernel
theorem d_Sm_take_59 : decode b_Sm_take 59 = .ok (.aload_n 0, 1) := by decide +kernel
theorem d_Sm_take_60 : decode b_Sm_take 60 = .ok (.iload_n 3, 1) := by decide +kernel
theorem d_Sm_take_61 : decode b_Sm_take 61 = .ok (.iconst 1, 1) := by decide +kernel
theorem d_Sm_take_62 : decode b_Sm_take 62 = .ok (.if_icmp .le 31, 3) := by decide +kernel
theorem d_Sm_take_65 : decode b_Sm_take 65 = .ok (.aload_n 0, 1) := by decide +kernel
theorem d_Sm_take_66 : decode b_Sm_take 66 = .ok (.getfield 9, 3) := by decide +kernel
theorem d_Sm_take_69 : decode b_Sm_take 69 = .ok (.iconst 0, 1) := by decide +kernel
theorem d_Sm_take_70 : decode b_Sm_take 70 = .ok (.iaload, 1) := by decide +kernel
theorem d_Sm_take_71 : decode b_Sm_take 71 = .ok (.invokestatic 79, 3) := by decide +kernel
theorem d_Sm_take_74 : decode b_Sm_take 74 = .ok (.ifCond .eq 19, 3) := by decide +kernel
theorem d_Sm_take_77 : decode b_Sm_take 77 = .ok (.aload_n 0, 1) := by decide +kernel
theorem d_Sm_take_78 : decode b_Sm_take 78 = .ok (.getfield 9, 3) := by decide +kernel
theorem d_Sm_take_81 : decode b_Sm_take 81 = .ok (.iconst 1, 1) := by decide +kernel
theorem d_Sm_take_82 : decode b_Sm_take 82 = .ok (.iaload, 1) := by decide +kernel
theorem d_Sm_take_83 : decode b_Sm_take 83 = .ok (.bipush 61, 2) := by decide +kernel
theorem d_Sm_take_85 : decode b_Sm_take 85 = .ok (.if_icmp .ne 8, 3) := by decide +kernel
theorem d_Sm_take_88 : decode b_Sm_take 88 = .ok (.bipush 61, 2) := by decide +kernel
theorem d_Sm_take_90 : decode b_Sm_take 90 = .ok (.goto 9, 3) := by decide +kernel
theorem d_Sm_take_93 : decode b_Sm_take 93 = .ok (.aload_n 0, 1) := by decide +kernel
theorem d_Sm_take_94 : decode b_Sm_take 94 = .ok (.getfield 9, 3) := by decide +kernel
theorem d_Sm_take_97 : decode b_Sm_take 97 = .ok (.iconst 0, 1) := by decide +kernel
theorem d_Sm_take_98 : decode b_Sm_take 98 = .ok (.iaload, 1) := by decide +kernel
theorem d_Sm_take_99 : decode b_Sm_take 99 = .ok (.putfield 29, 3) := by decide +kernel
theorem d_Sm_take_102 : decode b_Sm_take 102 = .ok (.aload_n 0, 1) := by decide +kernel
theorem d_Sm_take_103 : decode b_Sm_take 103 = .ok (.aload_n 0, 1) := by decide +kernel
theorem d_Sm_take_104 : decode b_Sm_take 104 = .ok (.getfield 29, 3) := by decide +kernel
theorem d_Sm_take_107 : decode b_Sm_take 107 = .ok (.bipush 61, 2) := by decide +kernel
theorem d_Sm_take_109 : decode b_Sm_take 109 = .ok (.if_icmp .ne 7, 3) := by decide +kernel
theorem d_Sm_take_112 : decode b_Sm_take 112 = .ok (.iconst 0, 1) := by decide +kernel
theorem d_Sm_take_113 : decode b_Sm_take 113 = .ok (.goto 4, 3) := by decide +kernel
theorem d_Sm_take_116 : decode b_Sm_take 116 = .ok (.iconst 1, 1) := by decide +kernel
theorem d_Sm_take_117 : decode b_Sm_take 117 = .ok (.putfield 22, 3) := by decide +kernel
theorem d_Sm_take_120 : decode b_Sm_take 120 = .ok (.iconst 1, 1) := by decide +kernel
theorem d_Sm_take_121 : decode b_Sm_take 121 = .ok (.ireturn, 1) := by decide +kernel
theorem d_Sm_value_0 : decode b_Sm_value 0 = .ok (.aload_n 0, 1) := by decide +kernel
theorem d_Sm_value_1 : decode b_Sm_value 1 = .ok (.iload_n 1, 1) := by decide +kernel
theorem d_Sm_value_2 : decode b_Sm_value 2 = .ok (.invokevirtual 83, 3) := by decide +kernel
theorem d_Sm_value_5 : decode b_Sm_value 5 = .ok (.istore_n 2, 1) := by decide +kernel
theorem d_Sm_value_6 : decode b_Sm_value 6 = .ok (.iconst 0, 1) := by decide +kernel
theorem d_Sm_value_7 : decode b_Sm_value 7 = .ok (.istore_n 3, 1) := by decide +kernel
theorem d_Sm_value_8 : decode b_Sm_value 8 = .ok (.iload_n 3, 1) := by decide +kernel
theorem d_Sm_value_9 : decode b_Sm_value 9 = .ok (.bipush 12, 2) := by decide +kernel
theorem d_Sm_value_11 : decode b_Sm_value 11 = .ok (.if_icmp .ge 77, 3) := by decide +kernel
theorem d_Sm_value_14 : decode b_Sm_value 14 = .ok (.aload_n 0, 1) := by decide +kernel
theorem d_Sm_value_15 : decode b_Sm_value 15 = .ok (.invokevirtual 86, 3) := by decide +kernel
theorem d_Sm_value_18 : decode b_Sm_value 18 = .ok (.bipush 43, 2) := by decide +kernel
theorem d_Sm_value_20 : decode b_Sm_value 20 = .ok (.if_icmp .eq 12, 3) := by decide +kernel
theorem d_Sm_value_23 : decode b_Sm_value 23 = .ok (.aload_n 0, 1) := by decide +kernel
theorem d_Sm_value_24 : decode b_Sm_value 24 = .ok (.invokevirtual 86, 3) := by decide +kernel
theorem d_Sm_value_27 : decode b_Sm_value 27 = .ok (.bipush 45, 2) := by decide +kernel
theorem d_Sm_value_29 : decode b_Sm_value 29 = .ok (.if_icmp .ne 59, 3) := by decide +kernel
theorem d_Sm_value_32 : decode b_Sm_value 32 = .ok (.aload_n 0, 1) := by decide +kernel
theorem d_Sm_value_33 : decode b_Sm_value 33 = .ok (.invokevirtual 86, 3) := by decide +kernel
theorem d_Sm_value_36 : decode b_Sm_value 36 = .ok (.bipush 43, 2) := by decide +kernel
theorem d_Sm_value_38 : decode b_Sm_value 38 = .ok (.if_icmp .ne 7, 3) := by decide +kernel
theorem d_Sm_value_41 : decode b_Sm_value 41 = .ok (.iconst 1, 1) := by decide +kernel
theorem d_Sm_value_42 : decode b_Sm_value 42 = .ok (.goto 4, 3) := by decide +kernel
theorem d_Sm_value_45 : decode b_Sm_value 45 = .ok (.iconst 0, 1) := by decide +kernel
theorem d_Sm_value_46 : decode b_Sm_value 46 = .ok (.istore 4, 2) := by decide +kernel
theorem d_Sm_value_48 : decode b_Sm_value 48 = .ok (.aload_n 0, 1) := by decide +kernel
theorem d_Sm_value_49 : decode b_Sm_value 49 = .ok (.dup, 1) := by decide +kernel
theorem d_Sm_value_50 : decode b_Sm_value 50 = .ok (.getfield 22, 3) := by decide +kernel
theorem d_Sm_value_53 : decode b_Sm_value 53 = .ok (.iconst 1, 1) := by decide +kernel
theorem d_Sm_value_54 : decode b_Sm_value 54 = .ok (.iadd, 1) := by decide +kernel
theorem d_Sm_value_55 : decode b_Sm_value 55 = .ok (.putfield 22, 3) := by decide +kernel
theorem d_Sm_value_58 : decode b_Sm_value 58 = .ok (.aload_n 0, 1) := by decide +kernel
theorem d_Sm_value_59 : decode b_Sm_value 59 = .ok (.iload_n 1, 1) := by decide +kernel
theorem d_Sm_value_60 : decode b_Sm_value 60 = .ok (.invokevirtual 83, 3) := by decide +kernel
theorem d_Sm_value_63 : decode b_Sm_value 63 = .ok (.istore 5, 2) := by decide +kernel
theorem d_Sm_value_65 : decode b_Sm_value 65 = .ok (.iload 4, 2) := by decide +kernel
theorem d_Sm_value_67 : decode b_Sm_value 67 = .ok (.ifCond .eq 10, 3) := by decide +kernel
theorem d_Sm_value_70 : decode b_Sm_value 70 = .ok (.iload_n 2, 1) := by decide +kernel
theorem d_Sm_value_71 : decode b_Sm_value 71 = .ok (.iload 5, 2) := by decide +kernel
theorem d_Sm_value_73 : decode b_Sm_value 73 = .ok (.iadd, 1) := by decide +kernel
theorem d_Sm_value_74 : decode b_Sm_value 74 = .ok (.goto 7, 3) := by decide +kernel
theorem d_Sm_value_77 : decode b_Sm_value 77 = .ok (.iload_n 2, 1) := by decide +kernel
theorem d_Sm_value_78 : decode b_Sm_value 78 = .ok (.iload 5, 2) := by decide +kernel
theorem d_Sm_value_80 : decode b_Sm_value 80 = .ok (.isub, 1) := by decide +kernel
theorem d_Sm_value_81 : decode b_Sm_value 81 = .ok (.istore_n 2, 1) := by decide +kernel
theorem d_Sm_value_82 : decode b_Sm_value 82 = .ok (.iinc 3 1, 3) := by decide +kernel
theorem d_Sm_value_85 : decode b_Sm_value 85 = .ok (.goto (-77), 3) := by decide +kernel
theorem d_Sm_value_88 : decode b_Sm_value 88 = .ok (.iload_n 2, 1) := by decide +kernel
theorem d_Sm_value_89 : decode b_Sm_value 89 = .ok (.ireturn, 1) := by decide +kernel
theorem d_Sm_product_0 : decode b_Sm_product 0 = .ok (.aload_n 0, 1) := by decide +kernel
theorem d_Sm_product_1 : decode b_Sm_product 1 = .ok (.iload_n 1, 1) := by decide +kernel
theorem d_Sm_product_2 : decode b_Sm_product 2 = .ok (.invokevirtual 89, 3) := by decide +kernel
theorem d_Sm_product_5 : decode b_Sm_product 5 = .ok (.istore_n 2, 1) := by decide +kernel
theorem d_Sm_product_6 : decode b_Sm_product 6 = .ok (.iconst 0, 1) := by decide +kernel
theorem d_Sm_product_7 : decode b_Sm_product 7 = .ok (.istore_n 3, 1) := by decide +kernel
theorem d_Sm_product_8 : decode b_Sm_product 8 = .ok (.iload_n 3, 1) := by decide +kernel
theorem d_Sm_product_9 : decode b_Sm_product 9 = .ok (.bipush 12, 2) := by decide +kernel
theorem d_Sm_product_11 : decode b_Sm_product 11 = .ok (.if_icmp .ge 36, 3) := by decide +kernel
theorem d_Sm_product_14 : decode b_Sm_product 14 = .ok (.aload_n 0, 1) := by decide +kernel
theorem d_Sm_product_15 : decode b_Sm_product 15 = .ok (.invokevirtual 86, 3) := by decide +kernel
theorem d_Sm_product_18 : decode b_Sm_product 18 = .ok (.bipush 42, 2) := by decide +kernel
theorem d_Sm_product_20 : decode b_Sm_product 20 = .ok (.if_icmp .ne 27, 3) := by decide +kernel
theorem d_Sm_product_23 : decode b_Sm_product 23 = .ok (.aload_n 0, 1) := by decide +kernel
theorem d_Sm_product_24 : decode b_Sm_product 24 = .ok (.dup, 1) := by decide +kernel
theorem d_Sm_product_25 : decode b_Sm_product 25 = .ok (.getfield 22, 3) := by decide +kernel
theorem d_Sm_product_28 : decode b_Sm_product 28 = .ok (.iconst 1, 1) := by decide +kernel
theorem d_Sm_product_29 : decode b_Sm_product 29 = .ok (.iadd, 1) := by decide +kernel
theorem d_Sm_product_30 : decode b_Sm_product 30 = .ok (.putfield 22, 3) := by decide +kernel
theorem d_Sm_product_33 : decode b_Sm_product 33 = .ok (.iload_n 2, 1) := by decide +kernel
theorem d_Sm_product_34 : decode b_Sm_product 34 = .ok (.aload_n 0, 1) := by decide +kernel
theorem d_Sm_product_35 : decode b_Sm_product 35 = .ok (.iload_n 1, 1) := by decide +kernel
theorem d_Sm_product_36 : decode b_Sm_product 36 = .ok (.invokevirtual 89, 3) := by decide +kernel
theorem d_Sm_product_39 : decode b_Sm_product 39 = .ok (.imul, 1) := by decide +kernel
theorem d_Sm_product_40 : decode b_Sm_product 40 = .ok (.istore_n 2, 1) := by decide +kernel
theorem d_Sm_product_41 : decode b_Sm_product 41 = .ok (.iinc 3 1, 3) := by decide +kernel
theorem d_Sm_product_44 : decode b_Sm_product 44 = .ok (.goto (-36), 3) := by decide +kernel
theorem d_Sm_product_47 : decode b_Sm_product 47 = .ok (.iload_n 2, 1) := by decide +kernel
theorem d_Sm_product_48 : decode b_Sm_product 48 = .ok (.ireturn, 1) := by decide +kernel
theorem d_Sm_piece_0 : decode b_Sm_piece 0 = .ok (.aload_n 0, 1) := by decide +kernel
theorem d_Sm_piece_1 : decode b_Sm_piece 1 = .ok (.invokevirtual 86, 3) := by decide +kernel
theorem d_Sm_piece_4 : decode b_Sm_piece 4 = .ok (.invokestatic 92, 3) := by decide +kernel
theorem d_Sm_piece_7 : decode b_Sm_piece 7 = .ok (.ifCond .eq 9, 3) := by decide +kernel
theorem d_Sm_piece_10 : decode b_Sm_piece 10 = .ok (.aload_n 0, 1) := by decide +kernel
theorem d_Sm_piece_11 : decode b_Sm_piece 11 = .ok (.iconst 5, 1) := by decide +kernel
theorem d_Sm_piece_12 : decode b_Sm_piece 12 = .ok (.invokevirtual 95, 3) := by decide +kernel
theorem d_Sm_piece_15 : decode b_Sm_piece 15 = .ok (.ireturn, 1) := by decide +kernel
theorem d_Sm_piece_16 : decode b_Sm_piece 16 = .ok (.aload_n 0, 1) := by decide +kernel
theorem d_Sm_piece_17 : decode b_Sm_piece 17 = .ok (.invokevirtual 86, 3) := by decide +kernel
theorem d_Sm_piece_20 : decode b_Sm_piece 20 = .ok (.bipush 40, 2) := by decide +kernel
theorem d_Sm_piece_22 : decode b_Sm_piece 22 = .ok (.if_icmp .eq 13, 3) := by decide +kernel
theorem d_Sm_piece_25 : decode b_Sm_piece 25 = .ok (.aload_n 0, 1) := by decide +kernel
theorem d_Sm_piece_26 : decode b_Sm_piece 26 = .ok (.getfield 15, 3) := by decide +kernel
theorem d_Sm_piece_29 : decode b_Sm_piece 29 = .ok (.aload_n 0, 1) := by decide +kernel
theorem d_Sm_piece_30 : decode b_Sm_piece 30 = .ok (.invokevirtual 54, 3) := by decide +kernel
theorem d_Sm_piece_33 : decode b_Sm_piece 33 = .ok (.iaload, 1) := by decide +kernel
theorem d_Sm_piece_34 : decode b_Sm_piece 34 = .ok (.ireturn, 1) := by decide +kernel
theorem d_Sm_piece_35 : decode b_Sm_piece 35 = .ok (.iload_n 1, 1) := by decide +kernel
theorem d_Sm_piece_36 : decode b_Sm_piece 36 = .ok (.bipush 12, 2) := by decide +kernel
theorem d_Sm_piece_38 : decode b_Sm_piece 38 = .ok (.if_icmp .lt 10, 3) := by decide +kernel
theorem d_Sm_piece_41 : decode b_Sm_piece 41 = .ok (.aload_n 0, 1) := by decide +kernel
theorem d_Sm_piece_42 : decode b_Sm_piece 42 = .ok (.iconst 0, 1) := by decide +kernel
theorem d_Sm_piece_43 : decode b_Sm_piece 43 = .ok (.putfield 25, 3) := by decide +kernel
theorem d_Sm_piece_46 : decode b_Sm_piece 46 = .ok (.iconst 0, 1) := by decide +kernel
theorem d_Sm_piece_47 : decode b_Sm_piece 47 = .ok (.ireturn, 1) := by decide +kernel
theorem d_Sm_piece_48 : decode b_Sm_piece 48 = .ok (.aload_n 0, 1) := by decide +kernel
theorem d_Sm_piece_49 : decode b_Sm_piece 49 = .ok (.dup, 1) := by decide +kernel
theorem d_Sm_piece_50 : decode b_Sm_piece 50 = .ok (.getfield 22, 3) := by decide +kernel
theorem d_Sm_piece_53 : decode b_Sm_piece 53 = .ok (.iconst 1, 1) := by decide +kernel
theorem d_Sm_piece_54 : decode b_Sm_piece 54 = .ok (.iadd, 1) := by decide +kernel
theorem d_Sm_piece_55 : decode b_Sm_piece 55 = .ok (.putfield 22, 3) := by decide +kernel
theorem d_Sm_piece_58 : decode b_Sm_piece 58 = .ok (.aload_n 0, 1) := by decide +kernel
theorem d_Sm_piece_59 : decode b_Sm_piece 59 = .ok (.iload_n 1, 1) := by decide +kernel
theorem d_Sm_piece_60 : decode b_Sm_piece 60 = .ok (.iconst 1, 1) := by decide +kernel
theorem d_Sm_piece_61 : decode b_Sm_piece 61 = .ok (.iadd, 1) := by decide +kernel
theorem d_Sm_piece_62 : decode b_Sm_piece 62 = .ok (.invokevirtual 61, 3) := by decide +kernel
theorem d_Sm_piece_65 : decode b_Sm_piece 65 = .ok (.istore_n 2, 1) := by decide +kernel
theorem d_Sm_piece_66 : decode b_Sm_piece 66 = .ok (.aload_n 0, 1) := by decide +kernel
theorem d_Sm_piece_67 : decode b_Sm_piece 67 = .ok (.bipush 41, 2) := by decide +kernel
theorem d_Sm_piece_69 : decode b_Sm_piece 69 = .ok (.invokevirtual 57, 3) := by decide +kernel
theorem d_Sm_piece_72 : decode b_Sm_piece 72 = .ok (.iload_n 2, 1) := by decide +kernel
theorem d_Sm_piece_73 : decode b_Sm_piece 73 = .ok (.ireturn, 1) := by decide +kernel
theorem d_Sm_peek_0 : decode b_Sm_peek 0 = .ok (.aload_n 0, 1) := by decide +kernel
theorem d_Sm_peek_1 : decode b_Sm_peek 1 = .ok (.getfield 22, 3) := by decide +kernel
theorem d_Sm_peek_4 : decode b_Sm_peek 4 = .ok (.aload_n 0, 1) := by decide +kernel
theorem d_Sm_peek_5 : decode b_Sm_peek 5 = .ok (.getfield 18, 3) := by decide +kernel
theorem d_Sm_peek_8 : decode b_Sm_peek 8 = .ok (.if_icmp .ge 15, 3) := by decide +kernel
theorem d_Sm_peek_11 : decode b_Sm_peek 11 = .ok (.aload_n 0, 1) := by decide +kernel
theorem d_Sm_peek_12 : decode b_Sm_peek 12 = .ok (.getfield 9, 3) := by decide +kernel
theorem d_Sm_peek_15 : decode b_Sm_peek 15 = .ok (.aload_n 0, 1) := by decide +kernel
theorem d_Sm_peek_16 : decode b_Sm_peek 16 = .ok (.getfield 22, 3) := by decide +kernel
theorem d_Sm_peek_19 : decode b_Sm_peek 19 = .ok (.iaload, 1) := by decide +kernel
theorem d_Sm_peek_20 : decode b_Sm_peek 20 = .ok (.goto 4, 3) := by decide +kernel
theorem d_Sm_peek_23 : decode b_Sm_peek 23 = .ok (.iconst (-1), 1) := by decide +kernel
theorem d_Sm_peek_24 : decode b_Sm_peek 24 = .ok (.ireturn, 1) := by decide +kernel
theorem d_Sm_expect_0 : decode b_Sm_expect 0 = .ok (.aload_n 0, 1) := by decide +kernel
theorem d_Sm_expect_1 : decode b_Sm_expect 1 = .ok (.invokevirtual 86, 3) := by decide +kernel
theorem d_Sm_expect_4 : decode b_Sm_expect 4 = .ok (.iload_n 1, 1) := by decide +kernel
theorem d_Sm_expect_5 : decode b_Sm_expect 5 = .ok (.if_icmp .ne 16, 3) := by decide +kernel
theorem d_Sm_expect_8 : decode b_Sm_expect 8 = .ok (.aload_n 0, 1) := by decide +kernel
theorem d_Sm_expect_9 : decode b_Sm_expect 9 = .ok (.dup, 1) := by decide +kernel
theorem d_Sm_expect_10 : decode b_Sm_expect 10 = .ok (.getfield 22, 3) := by decide +kernel
theorem d_Sm_expect_13 : decode b_Sm_expect 13 = .ok (.iconst 1, 1) := by decide +kernel
theorem d_Sm_expect_14 : decode b_Sm_expect 14 = .ok (.iadd, 1) := by decide +kernel
theorem d_Sm_expect_15 : decode b_Sm_expect 15 = .ok (.putfield 22, 3) := by decide +kernel
theorem d_Sm_expect_18 : decode b_Sm_expect 18 = .ok (.goto 8, 3) := by decide +kernel
theorem d_Sm_expect_21 : decode b_Sm_expect 21 = .ok (.aload_n 0, 1) := by decide +kernel
theorem d_Sm_expect_22 : decode b_Sm_expect 22 = .ok (.iconst 0, 1) := by decide +kernel
theorem d_Sm_expect_23 : decode b_Sm_expect 23 = .ok (.putfield 25, 3) := by decide +kernel
theorem d_Sm_expect_26 : decode b_Sm_expect 26 = .ok (.return_, 1) := by decide +kernel
theorem d_Sm_digits_0 : decode b_Sm_digits 0 = .ok (.iconst 0, 1) := by decide +kernel
theorem d_Sm_digits_1 : decode b_Sm_digits 1 = .ok (.istore_n 2, 1) := by decide +kernel
theorem d_Sm_digits_2 : decode b_Sm_digits 2 = .ok (.aload_n 0, 1) := by decide +kernel
theorem d_Sm_digits_3 : decode b_Sm_digits 3 = .ok (.getfield 22, 3) := by decide +kernel
theorem d_Sm_digits_6 : decode b_Sm_digits 6 = .ok (.istore_n 3, 1) := by decide +kernel
theorem d_Sm_digits_7 : decode b_Sm_digits 7 = .ok (.aload_n 0, 1) := by decide +kernel
theorem d_Sm_digits_8 : decode b_Sm_digits 8 = .ok (.getfield 22, 3) := by decide +kernel
theorem d_Sm_digits_11 : decode b_Sm_digits 11 = .ok (.iload_n 3, 1) := by decide +kernel
theorem d_Sm_digits_12 : decode b_Sm_digits 12 = .ok (.iload_n 1, 1) := by decide +kernel
theorem d_Sm_digits_13 : decode b_Sm_digits 13 = .ok (.iadd, 1) := by decide +kernel
theorem d_Sm_digits_14 : decode b_Sm_digits 14 = .ok (.if_icmp .ge 39, 3) := by decide +kernel
theorem d_Sm_digits_17 : decode b_Sm_digits 17 = .ok (.aload_n 0, 1) := by decide +kernel
theorem d_Sm_digits_18 : decode b_Sm_digits 18 = .ok (.invokevirtual 86, 3) := by decide +kernel
theorem d_Sm_digits_21 : decode b_Sm_digits 21 = .ok (.invokestatic 92, 3) := by decide +kernel
theorem d_Sm_digits_24 : decode b_Sm_digits 24 = .ok (.ifCond .eq 29, 3) := by decide +kernel
theorem d_Sm_digits_27 : decode b_Sm_digits 27 = .ok (.bipush 10, 2) := by decide +kernel
theorem d_Sm_digits_29 : decode b_Sm_digits 29 = .ok (.iload_n 2, 1) := by decide +kernel
theorem d_Sm_digits_30 : decode b_Sm_digits 30 = .ok (.imul, 1) := by decide +kernel
theorem d_Sm_digits_31 : decode b_Sm_digits 31 = .ok (.aload_n 0, 1) := by decide +kernel
theorem d_Sm_digits_32 : decode b_Sm_digits 32 = .ok (.invokevirtual 86, 3) := by decide +kernel
theorem d_Sm_digits_35 : decode b_Sm_digits 35 = .ok (.iadd, 1) := by decide +kernel
theorem d_Sm_digits_36 : decode b_Sm_digits 36 = .ok (.bipush 48, 2) := by decide +kernel
theorem d_Sm_digits_38 : decode b_Sm_digits 38 = .ok (.isub, 1) := by decide +kernel
theorem d_Sm_digits_39 : decode b_Sm_digits 39 = .ok (.istore_n 2, 1) := by decide +kernel
theorem d_Sm_digits_40 : decode b_Sm_digits 40 = .ok (.aload_n 0, 1) := by decide +kernel
theorem d_Sm_digits_41 : decode b_Sm_digits 41 = .ok (.dup, 1) := by decide +kernel
theorem d_Sm_digits_42 : decode b_Sm_digits 42 = .ok (.getfield 22, 3) := by decide +kernel
theorem d_Sm_digits_45 : decode b_Sm_digits 45 = .ok (.iconst 1, 1) := by decide +kernel
theorem d_Sm_digits_46 : decode b_Sm_digits 46 = .ok (.iadd, 1) := by decide +kernel
theorem d_Sm_digits_47 : decode b_Sm_digits 47 = .ok (.putfield 22, 3) := by decide +kernel
theorem d_Sm_digits_50 : decode b_Sm_digits 50 = .ok (.goto (-43), 3) := by decide +kernel
theorem d_Sm_digits_53 : decode b_Sm_digits 53 = .ok (.iload_n 2, 1) := by decide +kernel
theorem d_Sm_digits_54 : decode b_Sm_digits 54 = .ok (.ireturn, 1) := by decide +kernel
theorem d_Sm_lineNumber_0 : decode b_Sm_lineNumber 0 = .ok (.aload_n 0, 1) := by decide +kernel
theorem d_Sm_lineNumber_1 : decode b_Sm_lineNumber 1 = .ok (.iconst 2, 1) := by decide +kernel
theorem d_Sm_lineNumber_2 : decode b_Sm_lineNumber 2 = .ok (.invokevirtual 95, 3) := by decide +kernel
theorem d_Sm_lineNumber_5 : decode b_Sm_lineNumber 5 = .ok (.istore_n 1, 1) := by decide +kernel
theorem d_Sm_lineNumber_6 : decode b_Sm_lineNumber 6 = .ok (.iload_n 1, 1) := by decide +kernel
theorem d_Sm_lineNumber_7 : decode b_Sm_lineNumber 7 = .ok (.ifCond .ne 8, 3) := by decide +kernel
theorem d_Sm_lineNumber_10 : decode b_Sm_lineNumber 10 = .ok (.aload_n 0, 1) := by decide +kernel
theorem d_Sm_lineNumber_11 : decode b_Sm_lineNumber 11 = .ok (.iconst 0, 1) := by decide +kernel
theorem d_Sm_lineNumber_12 : decode b_Sm_lineNumber 12 = .ok (.putfield 25, 3) := by decide +kernel
theorem d_Sm_lineNumber_15 : decode b_Sm_lineNumber 15 = .ok (.iload_n 1, 1) := by decide +kernel
theorem d_Sm_lineNumber_16 : decode b_Sm_lineNumber 16 = .ok (.ireturn, 1) := by decide +kernel
theorem d_Sm_variable_0 : decode b_Sm_variable 0 = .ok (.aload_n 0, 1) := by decide +kernel
theorem d_Sm_variable_1 : decode b_Sm_variable 1 = .ok (.invokevirtual 86, 3) := by decide +kernel
theorem d_Sm_variable_4 : decode b_Sm_variable 4 = .ok (.invokestatic 79, 3) := by decide +kernel
theorem d_Sm_variable_7 : decode b_Sm_variable 7 = .ok (.ifCond .ne 10, 3) := by decide +kernel
theorem d_Sm_variable_10 : decode b_Sm_variable 10 = .ok (.aload_n 0, 1) := by decide +kernel
theorem d_Sm_variable_11 : decode b_Sm_variable 11 = .ok (.iconst 0, 1) := by decide +kernel
theorem d_Sm_variable_12 : decode b_Sm_variable 12 = .ok (.putfield 25, 3) := by decide +kernel
theorem d_Sm_variable_15 : decode b_Sm_variable 15 = .ok (.iconst 0, 1) := by decide +kernel
theorem d_Sm_variable_16 : decode b_Sm_variable 16 = .ok (.ireturn, 1) := by decide +kernel
theorem d_Sm_variable_17 : decode b_Sm_variable 17 = .ok (.aload_n 0, 1) := by decide +kernel
theorem d_Sm_variable_18 : decode b_Sm_variable 18 = .ok (.invokevirtual 86, 3) := by decide +kernel
theorem d_Sm_variable_21 : decode b_Sm_variable 21 = .ok (.bipush 65, 2) := by decide +kernel
theorem d_Sm_variable_23 : decode b_Sm_variable 23 = .ok (.isub, 1) := by decide +kernel
theorem d_Sm_variable_24 : decode b_Sm_variable 24 = .ok (.istore_n 1, 1) := by decide +kernel
theorem d_Sm_variable_25 : decode b_Sm_variable 25 = .ok (.aload_n 0, 1) := by decide +kernel
theorem d_Sm_variable_26 : decode b_Sm_variable 26 = .ok (.dup, 1) := by decide +kernel
theorem d_Sm_variable_27 : decode b_Sm_variable 27 = .ok (.getfield 22, 3) := by decide +kernel
theorem d_Sm_variable_30 : decode b_Sm_variable 30 = .ok (.iconst 1, 1) := by decide +kernel
theorem d_Sm_variable_31 : decode b_Sm_variable 31 = .ok (.iadd, 1) := by decide +kernel
theorem d_Sm_variable_32 : decode b_Sm_variable 32 = .ok (.putfield 22, 3) := by decide +kernel
theorem d_Sm_variable_35 : decode b_Sm_variable 35 = .ok (.iload_n 1, 1) := by decide +kernel
theorem d_Sm_variable_36 : decode b_Sm_variable 36 = .ok (.ireturn, 1) := by decide +kernel
theorem d_Sm_fileDigit_0 : decode b_Sm_fileDigit 0 = .ok (.aload_n 0, 1) := by decide +kernel
theorem d_Sm_fileDigit_1 : decode b_Sm_fileDigit 1 = .ok (.invokevirtual 86, 3) := by decide +kernel
theorem d_Sm_fileDigit_4 : decode b_Sm_fileDigit 4 = .ok (.invokestatic 98, 3) := by decide +kernel
theorem d_Sm_fileDigit_7 : decode b_Sm_fileDigit 7 = .ok (.ifCond .ne 10, 3) := by decide +kernel
theorem d_Sm_fileDigit_10 : decode b_Sm_fileDigit 10 = .ok (.aload_n 0, 1) := by decide +kernel
theorem d_Sm_fileDigit_11 : decode b_Sm_fileDigit 11 = .ok (.iconst 0, 1) := by decide +kernel
theorem d_Sm_fileDigit_12 : decode b_Sm_fileDigit 12 = .ok (.putfield 25, 3) := by decide +kernel
theorem d_Sm_fileDigit_15 : decode b_Sm_fileDigit 15 = .ok (.iconst 0, 1) := by decide +kernel
theorem d_Sm_fileDigit_16 : decode b_Sm_fileDigit 16 = .ok (.ireturn, 1) := by decide +kernel
theorem d_Sm_fileDigit_17 : decode b_Sm_fileDigit 17 = .ok (.aload_n 0, 1) := by decide +kernel
theorem d_Sm_fileDigit_18 : decode b_Sm_fileDigit 18 = .ok (.invokevirtual 86, 3) := by decide +kernel
theorem d_Sm_fileDigit_21 : decode b_Sm_fileDigit 21 = .ok (.bipush 48, 2) := by decide +kernel
theorem d_Sm_fileDigit_23 : decode b_Sm_fileDigit 23 = .ok (.isub, 1) := by decide +kernel
theorem d_Sm_fileDigit_24 : decode b_Sm_fileDigit 24 = .ok (.istore_n 1, 1) := by decide +kernel
theorem d_Sm_fileDigit_25 : decode b_Sm_fileDigit 25 = .ok (.aload_n 0, 1) := by decide +kernel
theorem d_Sm_fileDigit_26 : decode b_Sm_fileDigit 26 = .ok (.dup, 1) := by decide +kernel
theorem d_Sm_fileDigit_27 : decode b_Sm_fileDigit 27 = .ok (.getfield 22, 3) := by decide +kernel
theorem d_Sm_fileDigit_30 : decode b_Sm_fileDigit 30 = .ok (.iconst 1, 1) := by decide +kernel
theorem d_Sm_fileDigit_31 : decode b_Sm_fileDigit 31 = .ok (.iadd, 1) := by decide +kernel
theorem d_Sm_fileDigit_32 : decode b_Sm_fileDigit 32 = .ok (.putfield 22, 3) := by decide +kernel
theorem d_Sm_fileDigit_35 : decode b_Sm_fileDigit 35 = .ok (.iload_n 1, 1) := by decide +kernel
theorem d_Sm_fileDigit_36 : decode b_Sm_fileDigit 36 = .ok (.ireturn, 1) := by decide +kernel
theorem d_Sm_sign_0 : decode b_Sm_sign 0 = .ok (.aload_n 0, 1) := by decide +kernel
theorem d_Sm_sign_1 : decode b_Sm_sign 1 = .ok (.invokevirtual 86, 3) := by decide +kernel
theorem d_Sm_sign_4 : decode b_Sm_sign 4 = .ok (.istore_n 1, 1) := by decide +kernel
theorem d_Sm_sign_5 : decode b_Sm_sign 5 = .ok (.iload_n 1, 1) := by decide +kernel
theorem d_Sm_sign_6 : decode b_Sm_sign 6 = .ok (.bipush 60, 2) := by decide +kernel
theorem d_Sm_sign_8 : decode b_Sm_sign 8 = .ok (.if_icmp .eq 23, 3) := by decide +kernel
theorem d_Sm_sign_11 : decode b_Sm_sign 11 = .ok (.iload_n 1, 1) := by decide +kernel
theorem d_Sm_sign_12 : decode b_Sm_sign 12 = .ok (.bipush 61, 2) := by decide +kernel
theorem d_Sm_sign_14 : decode b_Sm_sign 14 = .ok (.if_icmp .eq 17, 3) := by decide +kernel
theorem d_Sm_sign_17 : decode b_Sm_sign 17 = .ok (.iload_n 1, 1) := by decide +kernel
theorem d_Sm_sign_18 : decode b_Sm_sign 18 = .ok (.bipush 62, 2) := by decide +kernel
theorem d_Sm_sign_20 : decode b_Sm_sign 20 = .ok (.if_icmp .eq 11, 3) := by decide +kernel
theorem d_Sm_sign_23 : decode b_Sm_sign 23 = .ok (.aload_n 0, 1) := by decide +kernel
theorem d_Sm_sign_24 : decode b_Sm_sign 24 = .ok (.iconst 0, 1) := by decide +kernel
theorem d_Sm_sign_25 : decode b_Sm_sign 25 = .ok (.putfield 25, 3) := by decide +kernel
theorem d_Sm_sign_28 : decode b_Sm_sign 28 = .ok (.bipush 61, 2) := by decide +kernel
theorem d_Sm_sign_30 : decode b_Sm_sign 30 = .ok (.ireturn, 1) := by decide +kernel
theorem d_Sm_sign_31 : decode b_Sm_sign 31 = .ok (.aload_n 0, 1) := by decide +kernel
theorem d_Sm_sign_32 : decode b_Sm_sign 32 = .ok (.dup, 1) := by decide +kernel
theorem d_Sm_sign_33 : decode b_Sm_sign 33 = .ok (.getfield 22, 3) := by decide +kernel
theorem d_Sm_sign_36 : decode b_Sm_sign 36 = .ok (.iconst 1, 1) := by decide +kernel
theorem d_Sm_sign_37 : decode b_Sm_sign 37 = .ok (.iadd, 1) := by decide +kernel
theorem d_Sm_sign_38 : decode b_Sm_sign 38 = .ok (.putfield 22, 3) := by decide +kernel
theorem d_Sm_sign_41 : decode b_Sm_sign 41 = .ok (.iload_n 1, 1) := by decide +kernel
theorem d_Sm_sign_42 : decode b_Sm_sign 42 = .ok (.ireturn, 1) := by decide +kernel
theorem d_St_init_0 : decode b_St_init 0 = .ok (.aload_n 0, 1) := by decide +kernel
theorem d_St_init_1 : decode b_St_init 1 = .ok (.invokespecial 3, 3) := by decide +kernel
theorem d_St_init_4 : decode b_St_init 4 = .ok (.aload_n 0, 1) := by decide +kernel
theorem d_St_init_5 : decode b_St_init 5 = .ok (.sipush 512, 3) := by decide +kernel
theorem d_St_init_8 : decode b_St_init 8 = .ok (.newarray .int, 2) := by decide +kernel
theorem d_St_init_10 : decode b_St_init 10 = .ok (.putfield 9, 3) := by decide +kernel
theorem d_St_init_13 : decode b_St_init 13 = .ok (.aload_n 0, 1) := by decide +kernel
theorem d_St_init_14 : decode b_St_init 14 = .ok (.iconst (-1), 1) := by decide +kernel
theorem d_St_init_15 : decode b_St_init 15 = .ok (.putfield 15, 3) := by decide +kernel
theorem d_St_init_18 : decode b_St_init 18 = .ok (.aload_n 0, 1) := by decide +kernel
theorem d_St_init_19 : decode b_St_init 19 = .ok (.iconst 0, 1) := by decide +kernel
theorem d_St_init_20 : decode b_St_init 20 = .ok (.putfield 19, 3) := by decide +kernel
theorem d_St_init_23 : decode b_St_init 23 = .ok (.aload_n 0, 1) := by decide +kernel
theorem d_St_init_24 : decode b_St_init 24 = .ok (.iconst 0, 1) := by decide +kernel
theorem d_St_init_25 : decode b_St_init 25 = .ok (.putfield 23, 3) := by decide +kernel
theorem d_St_init_28 : decode b_St_init 28 = .ok (.return_, 1) := by decide +kernel
theorem d_St_cell_0 : decode b_St_cell 0 = .ok (.iload_n 1, 1) := by decide +kernel
theorem d_St_cell_1 : decode b_St_cell 1 = .ok (.ifCond .lt 21, 3) := by decide +kernel
theorem d_St_cell_4 : decode b_St_cell 4 = .ok (.iload_n 1, 1) := by decide +kernel
theorem d_St_cell_5 : decode b_St_cell 5 = .ok (.aload_n 0, 1) := by decide +kernel
theorem d_St_cell_6 : decode b_St_cell 6 = .ok (.getfield 9, 3) := by decide +kernel
theorem d_St_cell_9 : decode b_St_cell 9 = .ok (.arraylength, 1) := by decide +kernel
theorem d_St_cell_10 : decode b_St_cell 10 = .ok (.if_icmp .ge 12, 3) := by decide +kernel
theorem d_St_cell_13 : decode b_St_cell 13 = .ok (.aload_n 0, 1) := by decide +kernel
theorem d_St_cell_14 : decode b_St_cell 14 = .ok (.getfield 9, 3) := by decide +kernel
theorem d_St_cell_17 : decode b_St_cell 17 = .ok (.iload_n 1, 1) := by decide +kernel
theorem d_St_cell_18 : decode b_St_cell 18 = .ok (.iaload, 1) := by decide +kernel
theorem d_St_cell_19 : decode b_St_cell 19 = .ok (.goto 4, 3) := by decide +kernel
theorem d_St_cell_22 : decode b_St_cell 22 = .ok (.iconst 0, 1) := by decide +kernel
theorem d_St_cell_23 : decode b_St_cell 23 = .ok (.ireturn, 1) := by decide +kernel
theorem d_St_isFormatted_0 : decode b_St_isFormatted 0 = .ok (.aload_n 0, 1) := by decide +kernel
theorem d_St_isFormatted_1 : decode b_St_isFormatted 1 = .ok (.getfield 9, 3) := by decide +kernel
theorem d_St_isFormatted_4 : decode b_St_isFormatted 4 = .ok (.iconst 0, 1) := by decide +kernel
theorem d_St_isFormatted_5 : decode b_St_isFormatted 5 = .ok (.iaload, 1) := by decide +kernel
theorem d_St_isFormatted_6 : decode b_St_isFormatted 6 = .ok (.sipush 7077, 3) := by decide +kernel
theorem d_St_isFormatted_9 : decode b_St_isFormatted 9 = .ok (.if_icmp .ne 7, 3) := by decide +kernel
theorem d_St_isFormatted_12 : decode b_St_isFormatted 12 = .ok (.iconst 1, 1) := by decide +kernel
theorem d_St_isFormatted_13 : decode b_St_isFormatted 13 = .ok (.goto 4, 3) := by decide +kernel
theorem d_St_isFormatted_16 : decode b_St_isFormatted 16 = .ok (.iconst 0, 1) := by decide +kernel
theorem d_St_isFormatted_17 : decode b_St_isFormatted 17 = .ok (.ireturn, 1) := by decide +kernel
