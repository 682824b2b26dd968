theorem d_Ld_deleteFile_0 : decode b_Ld_deleteFile 0 = .ok (.aload_n 0, 1) := by decide +kernel
theorem d_Ld_deleteFile_1 : decode b_Ld_deleteFile 1 = .ok (.getfield 10, 3) := by decide +kernel
theorem d_Ld_deleteFile_4 : decode b_Ld_deleteFile 4 = .ok (.iload_n 1, 1) := by decide +kernel
theorem d_Ld_deleteFile_5 : decode b_Ld_deleteFile 5 = .ok (.invokevirtual 128, 3) := by decide +kernel
theorem d_Ld_deleteFile_8 : decode b_Ld_deleteFile 8 = .ok (.ifCond .ne 5, 3) := by decide +kernel
theorem d_Ld_deleteFile_11 : decode b_Ld_deleteFile 11 = .ok (.iconst 3, 1) := by decide +kernel
theorem d_Ld_deleteFile_12 : decode b_Ld_deleteFile 12 = .ok (.ireturn, 1) := by decide +kernel
theorem d_Ld_deleteFile_13 : decode b_Ld_deleteFile 13 = .ok (.aload_n 0, 1) := by decide +kernel
theorem d_Ld_deleteFile_14 : decode b_Ld_deleteFile 14 = .ok (.iload_n 1, 1) := by decide +kernel
theorem d_Ld_deleteFile_15 : decode b_Ld_deleteFile 15 = .ok (.iconst 0, 1) := by decide +kernel
theorem d_Ld_deleteFile_16 : decode b_Ld_deleteFile 16 = .ok (.iconst 0, 1) := by decide +kernel
theorem d_Ld_deleteFile_17 : decode b_Ld_deleteFile 17 = .ok (.invokevirtual 196, 3) := by decide +kernel
theorem d_Ld_deleteFile_20 : decode b_Ld_deleteFile 20 = .ok (.aload_n 0, 1) := by decide +kernel
theorem d_Ld_deleteFile_21 : decode b_Ld_deleteFile 21 = .ok (.invokevirtual 209, 3) := by decide +kernel
theorem d_Ld_deleteFile_24 : decode b_Ld_deleteFile 24 = .ok (.ireturn, 1) := by decide +kernel
theorem d_Ld_beginFile_0 : decode b_Ld_beginFile 0 = .ok (.aload_n 0, 1) := by decide +kernel
theorem d_Ld_beginFile_1 : decode b_Ld_beginFile 1 = .ok (.getfield 19, 3) := by decide +kernel
theorem d_Ld_beginFile_4 : decode b_Ld_beginFile 4 = .ok (.invokevirtual 219, 3) := by decide +kernel
theorem d_Ld_beginFile_7 : decode b_Ld_beginFile 7 = .ok (.aload_n 0, 1) := by decide +kernel
theorem d_Ld_beginFile_8 : decode b_Ld_beginFile 8 = .ok (.getfield 19, 3) := by decide +kernel
theorem d_Ld_beginFile_11 : decode b_Ld_beginFile 11 = .ok (.aload_n 0, 1) := by decide +kernel
theorem d_Ld_beginFile_12 : decode b_Ld_beginFile 12 = .ok (.getfield 10, 3) := by decide +kernel
theorem d_Ld_beginFile_15 : decode b_Ld_beginFile 15 = .ok (.iconst 1, 1) := by decide +kernel
theorem d_Ld_beginFile_16 : decode b_Ld_beginFile 16 = .ok (.invokevirtual 222, 3) := by decide +kernel
theorem d_Ld_beginFile_19 : decode b_Ld_beginFile 19 = .ok (.aload_n 0, 1) := by decide +kernel
theorem d_Ld_beginFile_20 : decode b_Ld_beginFile 20 = .ok (.getfield 19, 3) := by decide +kernel
theorem d_Ld_beginFile_23 : decode b_Ld_beginFile 23 = .ok (.iconst 2, 1) := by decide +kernel
theorem d_Ld_beginFile_24 : decode b_Ld_beginFile 24 = .ok (.iload_n 1, 1) := by decide +kernel
theorem d_Ld_beginFile_25 : decode b_Ld_beginFile 25 = .ok (.imul, 1) := by decide +kernel
theorem d_Ld_beginFile_26 : decode b_Ld_beginFile 26 = .ok (.iload_n 2, 1) := by decide +kernel
theorem d_Ld_beginFile_27 : decode b_Ld_beginFile 27 = .ok (.invokevirtual 200, 3) := by decide +kernel
theorem d_Ld_beginFile_30 : decode b_Ld_beginFile 30 = .ok (.aload_n 0, 1) := by decide +kernel
theorem d_Ld_beginFile_31 : decode b_Ld_beginFile 31 = .ok (.getfield 19, 3) := by decide +kernel
theorem d_Ld_beginFile_34 : decode b_Ld_beginFile 34 = .ok (.iconst 2, 1) := by decide +kernel
theorem d_Ld_beginFile_35 : decode b_Ld_beginFile 35 = .ok (.iload_n 1, 1) := by decide +kernel
theorem d_Ld_beginFile_36 : decode b_Ld_beginFile 36 = .ok (.imul, 1) := by decide +kernel
theorem d_Ld_beginFile_37 : decode b_Ld_beginFile 37 = .ok (.iconst 1, 1) := by decide +kernel
theorem d_Ld_beginFile_38 : decode b_Ld_beginFile 38 = .ok (.iadd, 1) := by decide +kernel
theorem d_Ld_beginFile_39 : decode b_Ld_beginFile 39 = .ok (.iload_n 3, 1) := by decide +kernel
theorem d_Ld_beginFile_40 : decode b_Ld_beginFile 40 = .ok (.invokevirtual 200, 3) := by decide +kernel
theorem d_Ld_beginFile_43 : decode b_Ld_beginFile 43 = .ok (.iload_n 2, 1) := by decide +kernel
theorem d_Ld_beginFile_44 : decode b_Ld_beginFile 44 = .ok (.invokestatic 190, 3) := by decide +kernel
theorem d_Ld_beginFile_47 : decode b_Ld_beginFile 47 = .ok (.istore 4, 2) := by decide +kernel
theorem d_Ld_beginFile_49 : decode b_Ld_beginFile 49 = .ok (.iconst 0, 1) := by decide +kernel
theorem d_Ld_beginFile_50 : decode b_Ld_beginFile 50 = .ok (.istore 5, 2) := by decide +kernel
theorem d_Ld_beginFile_52 : decode b_Ld_beginFile 52 = .ok (.iload 5, 2) := by decide +kernel
theorem d_Ld_beginFile_54 : decode b_Ld_beginFile 54 = .ok (.iload 4, 2) := by decide +kernel
theorem d_Ld_beginFile_56 : decode b_Ld_beginFile 56 = .ok (.if_icmp .ge 20, 3) := by decide +kernel
theorem d_Ld_beginFile_59 : decode b_Ld_beginFile 59 = .ok (.aload_n 0, 1) := by decide +kernel
theorem d_Ld_beginFile_60 : decode b_Ld_beginFile 60 = .ok (.getfield 19, 3) := by decide +kernel
theorem d_Ld_beginFile_63 : decode b_Ld_beginFile 63 = .ok (.iload_n 3, 1) := by decide +kernel
theorem d_Ld_beginFile_64 : decode b_Ld_beginFile 64 = .ok (.iload 5, 2) := by decide +kernel
theorem d_Ld_beginFile_66 : decode b_Ld_beginFile 66 = .ok (.iadd, 1) := by decide +kernel
theorem d_Ld_beginFile_67 : decode b_Ld_beginFile 67 = .ok (.invokevirtual 226, 3) := by decide +kernel
theorem d_Ld_beginFile_70 : decode b_Ld_beginFile 70 = .ok (.iinc 5 1, 3) := by decide +kernel
theorem d_Ld_beginFile_73 : decode b_Ld_beginFile 73 = .ok (.goto (-21), 3) := by decide +kernel
theorem d_Ld_beginFile_76 : decode b_Ld_beginFile 76 = .ok (.return_, 1) := by decide +kernel
theorem d_Ld_commit_0 : decode b_Ld_commit 0 = .ok (.aload_n 0, 1) := by decide +kernel
theorem d_Ld_commit_1 : decode b_Ld_commit 1 = .ok (.getfield 19, 3) := by decide +kernel
theorem d_Ld_commit_4 : decode b_Ld_commit 4 = .ok (.aload_n 0, 1) := by decide +kernel
theorem d_Ld_commit_5 : decode b_Ld_commit 5 = .ok (.getfield 10, 3) := by decide +kernel
theorem d_Ld_commit_8 : decode b_Ld_commit 8 = .ok (.invokevirtual 229, 3) := by decide +kernel
theorem d_Ld_commit_11 : decode b_Ld_commit 11 = .ok (.ifCond .eq 7, 3) := by decide +kernel
theorem d_Ld_commit_14 : decode b_Ld_commit 14 = .ok (.iconst 0, 1) := by decide +kernel
theorem d_Ld_commit_15 : decode b_Ld_commit 15 = .ok (.goto 7, 3) := by decide +kernel
theorem d_Ld_commit_18 : decode b_Ld_commit 18 = .ok (.aload_n 0, 1) := by decide +kernel
theorem d_Ld_commit_19 : decode b_Ld_commit 19 = .ok (.invokevirtual 59, 3) := by decide +kernel
theorem d_Ld_commit_22 : decode b_Ld_commit 22 = .ok (.ireturn, 1) := by decide +kernel
theorem d_Ld_oneStep_0 : decode b_Ld_oneStep 0 = .ok (.aload_n 0, 1) := by decide +kernel
theorem d_Ld_oneStep_1 : decode b_Ld_oneStep 1 = .ok (.getfield 26, 3) := by decide +kernel
theorem d_Ld_oneStep_4 : decode b_Ld_oneStep 4 = .ok (.invokevirtual 140, 3) := by decide +kernel
theorem d_Ld_oneStep_7 : decode b_Ld_oneStep 7 = .ok (.istore_n 1, 1) := by decide +kernel
theorem d_Ld_oneStep_8 : decode b_Ld_oneStep 8 = .ok (.iload_n 1, 1) := by decide +kernel
theorem d_Ld_oneStep_9 : decode b_Ld_oneStep 9 = .ok (.iconst (-1), 1) := by decide +kernel
theorem d_Ld_oneStep_10 : decode b_Ld_oneStep 10 = .ok (.if_icmp .eq 44, 3) := by decide +kernel
theorem d_Ld_oneStep_13 : decode b_Ld_oneStep 13 = .ok (.aload_n 0, 1) := by decide +kernel
theorem d_Ld_oneStep_14 : decode b_Ld_oneStep 14 = .ok (.getfield 33, 3) := by decide +kernel
theorem d_Ld_oneStep_17 : decode b_Ld_oneStep 17 = .ok (.aload_n 0, 1) := by decide +kernel
theorem d_Ld_oneStep_18 : decode b_Ld_oneStep 18 = .ok (.getfield 26, 3) := by decide +kernel
theorem d_Ld_oneStep_21 : decode b_Ld_oneStep 21 = .ok (.getfield 231, 3) := by decide +kernel
theorem d_Ld_oneStep_24 : decode b_Ld_oneStep 24 = .ok (.iload_n 1, 1) := by decide +kernel
theorem d_Ld_oneStep_25 : decode b_Ld_oneStep 25 = .ok (.bipush 12, 2) := by decide +kernel
theorem d_Ld_oneStep_27 : decode b_Ld_oneStep 27 = .ok (.imul, 1) := by decide +kernel
theorem d_Ld_oneStep_28 : decode b_Ld_oneStep 28 = .ok (.aload_n 0, 1) := by decide +kernel
theorem d_Ld_oneStep_29 : decode b_Ld_oneStep 29 = .ok (.getfield 26, 3) := by decide +kernel
theorem d_Ld_oneStep_32 : decode b_Ld_oneStep 32 = .ok (.getfield 234, 3) := by decide +kernel
theorem d_Ld_oneStep_35 : decode b_Ld_oneStep 35 = .ok (.iload_n 1, 1) := by decide +kernel
theorem d_Ld_oneStep_36 : decode b_Ld_oneStep 36 = .ok (.iaload, 1) := by decide +kernel
theorem d_Ld_oneStep_37 : decode b_Ld_oneStep 37 = .ok (.aload_n 0, 1) := by decide +kernel
theorem d_Ld_oneStep_38 : decode b_Ld_oneStep 38 = .ok (.getfield 26, 3) := by decide +kernel
theorem d_Ld_oneStep_41 : decode b_Ld_oneStep 41 = .ok (.getfield 134, 3) := by decide +kernel
theorem d_Ld_oneStep_44 : decode b_Ld_oneStep 44 = .ok (.invokevirtual 149, 3) := by decide +kernel
theorem d_Ld_oneStep_47 : decode b_Ld_oneStep 47 = .ok (.ifCond .eq 7, 3) := by decide +kernel
theorem d_Ld_oneStep_50 : decode b_Ld_oneStep 50 = .ok (.iconst 1, 1) := by decide +kernel
theorem d_Ld_oneStep_51 : decode b_Ld_oneStep 51 = .ok (.goto 4, 3) := by decide +kernel
theorem d_Ld_oneStep_54 : decode b_Ld_oneStep 54 = .ok (.iconst 0, 1) := by decide +kernel
theorem d_Ld_oneStep_55 : decode b_Ld_oneStep 55 = .ok (.istore_n 2, 1) := by decide +kernel
theorem d_Ld_oneStep_56 : decode b_Ld_oneStep 56 = .ok (.iload_n 2, 1) := by decide +kernel
theorem d_Ld_oneStep_57 : decode b_Ld_oneStep 57 = .ok (.ifCond .eq 15, 3) := by decide +kernel
theorem d_Ld_oneStep_60 : decode b_Ld_oneStep 60 = .ok (.aload_n 0, 1) := by decide +kernel
theorem d_Ld_oneStep_61 : decode b_Ld_oneStep 61 = .ok (.getfield 33, 3) := by decide +kernel
theorem d_Ld_oneStep_64 : decode b_Ld_oneStep 64 = .ok (.getfield 237, 3) := by decide +kernel
theorem d_Ld_oneStep_67 : decode b_Ld_oneStep 67 = .ok (.bipush 69, 2) := by decide +kernel
theorem d_Ld_oneStep_69 : decode b_Ld_oneStep 69 = .ok (.if_icmp .ne 13, 3) := by decide +kernel
theorem d_Ld_oneStep_72 : decode b_Ld_oneStep 72 = .ok (.aload_n 0, 1) := by decide +kernel
theorem d_Ld_oneStep_73 : decode b_Ld_oneStep 73 = .ok (.getfield 26, 3) := by decide +kernel
theorem d_Ld_oneStep_76 : decode b_Ld_oneStep 76 = .ok (.iconst 0, 1) := by decide +kernel
theorem d_Ld_oneStep_77 : decode b_Ld_oneStep 77 = .ok (.putfield 175, 3) := by decide +kernel
theorem d_Ld_oneStep_80 : decode b_Ld_oneStep 80 = .ok (.iconst 0, 1) := by decide +kernel
theorem d_Ld_oneStep_81 : decode b_Ld_oneStep 81 = .ok (.ireturn, 1) := by decide +kernel
theorem d_Ld_oneStep_82 : decode b_Ld_oneStep 82 = .ok (.aload_n 0, 1) := by decide +kernel
theorem d_Ld_oneStep_83 : decode b_Ld_oneStep 83 = .ok (.invokevirtual 240, 3) := by decide +kernel
theorem d_Ld_oneStep_86 : decode b_Ld_oneStep 86 = .ok (.istore_n 3, 1) := by decide +kernel
theorem d_Ld_oneStep_87 : decode b_Ld_oneStep 87 = .ok (.iload_n 3, 1) := by decide +kernel
theorem d_Ld_oneStep_88 : decode b_Ld_oneStep 88 = .ok (.ifCond .eq 5, 3) := by decide +kernel
theorem d_Ld_oneStep_91 : decode b_Ld_oneStep 91 = .ok (.iload_n 3, 1) := by decide +kernel
theorem d_Ld_oneStep_92 : decode b_Ld_oneStep 92 = .ok (.ireturn, 1) := by decide +kernel
theorem d_Ld_oneStep_93 : decode b_Ld_oneStep 93 = .ok (.aload_n 0, 1) := by decide +kernel
theorem d_Ld_oneStep_94 : decode b_Ld_oneStep 94 = .ok (.getfield 26, 3) := by decide +kernel
theorem d_Ld_oneStep_97 : decode b_Ld_oneStep 97 = .ok (.aload_n 0, 1) := by decide +kernel
theorem d_Ld_oneStep_98 : decode b_Ld_oneStep 98 = .ok (.getfield 33, 3) := by decide +kernel
theorem d_Ld_oneStep_101 : decode b_Ld_oneStep 101 = .ok (.invokevirtual 243, 3) := by decide +kernel
theorem d_Ld_oneStep_104 : decode b_Ld_oneStep 104 = .ok (.ifCond .eq 13, 3) := by decide +kernel
theorem d_Ld_oneStep_107 : decode b_Ld_oneStep 107 = .ok (.aload_n 0, 1) := by decide +kernel
theorem d_Ld_oneStep_108 : decode b_Ld_oneStep 108 = .ok (.getfield 33, 3) := by decide +kernel
theorem d_Ld_oneStep_111 : decode b_Ld_oneStep 111 = .ok (.getfield 246, 3) := by decide +kernel
theorem d_Ld_oneStep_114 : decode b_Ld_oneStep 114 = .ok (.goto 13, 3) := by decide +kernel
theorem d_Ld_oneStep_117 : decode b_Ld_oneStep 117 = .ok (.aload_n 0, 1) := by decide +kernel
theorem d_Ld_oneStep_118 : decode b_Ld_oneStep 118 = .ok (.getfield 26, 3) := by decide +kernel
theorem d_Ld_oneStep_121 : decode b_Ld_oneStep 121 = .ok (.iload_n 1, 1) := by decide +kernel
theorem d_Ld_oneStep_122 : decode b_Ld_oneStep 122 = .ok (.invokevirtual 143, 3) := by decide +kernel
theorem d_Ld_oneStep_125 : decode b_Ld_oneStep 125 = .ok (.iconst 1, 1) := by decide +kernel
theorem d_Ld_oneStep_126 : decode b_Ld_oneStep 126 = .ok (.iadd, 1) := by decide +kernel
theorem d_Ld_oneStep_127 : decode b_Ld_oneStep 127 = .ok (.putfield 175, 3) := by decide +kernel
theorem d_Ld_oneStep_130 : decode b_Ld_oneStep 130 = .ok (.bipush 6, 2) := by decide +kernel
theorem d_Ld_oneStep_132 : decode b_Ld_oneStep 132 = .ok (.ireturn, 1) := by decide +kernel
theorem d_Ld_perform_0 : decode b_Ld_perform 0 = .ok (.aload_n 0, 1) := by decide +kernel
theorem d_Ld_perform_1 : decode b_Ld_perform 1 = .ok (.getfield 33, 3) := by decide +kernel
theorem d_Ld_perform_4 : decode b_Ld_perform 4 = .ok (.getfield 237, 3) := by decide +kernel
theorem d_Ld_perform_7 : decode b_Ld_perform 7 = .ok (.lookupswitch 130 #[(61, 41), (80, 65), (82, 104), (87, 78)], 41) := by decide +kernel
theorem d_Ld_perform_48 : decode b_Ld_perform 48 = .ok (.aload_n 0, 1) := by decide +kernel
theorem d_Ld_perform_49 : decode b_Ld_perform 49 = .ok (.getfield 26, 3) := by decide +kernel
theorem d_Ld_perform_52 : decode b_Ld_perform 52 = .ok (.getfield 134, 3) := by decide +kernel
theorem d_Ld_perform_55 : decode b_Ld_perform 55 = .ok (.aload_n 0, 1) := by decide +kernel
theorem d_Ld_perform_56 : decode b_Ld_perform 56 = .ok (.getfield 33, 3) := by decide +kernel
theorem d_Ld_perform_59 : decode b_Ld_perform 59 = .ok (.getfield 249, 3) := by decide +kernel
theorem d_Ld_perform_62 : decode b_Ld_perform 62 = .ok (.aload_n 0, 1) := by decide +kernel
theorem d_Ld_perform_63 : decode b_Ld_perform 63 = .ok (.getfield 33, 3) := by decide +kernel
theorem d_Ld_perform_66 : decode b_Ld_perform 66 = .ok (.getfield 252, 3) := by decide +kernel
theorem d_Ld_perform_69 : decode b_Ld_perform 69 = .ok (.iastore, 1) := by decide +kernel
theorem d_Ld_perform_70 : decode b_Ld_perform 70 = .ok (.iconst 0, 1) := by decide +kernel
theorem d_Ld_perform_71 : decode b_Ld_perform 71 = .ok (.ireturn, 1) := by decide +kernel
theorem d_Ld_perform_72 : decode b_Ld_perform 72 = .ok (.aload_n 0, 1) := by decide +kernel
theorem d_Ld_perform_73 : decode b_Ld_perform 73 = .ok (.aload_n 0, 1) := by decide +kernel
theorem d_Ld_perform_74 : decode b_Ld_perform 74 = .ok (.getfield 33, 3) := by decide +kernel
theorem d_Ld_perform_77 : decode b_Ld_perform 77 = .ok (.getfield 252, 3) := by decide +kernel
theorem d_Ld_perform_80 : decode b_Ld_perform 80 = .ok (.invokevirtual 187, 3) := by decide +kernel
theorem d_Ld_perform_83 : decode b_Ld_perform 83 = .ok (.iconst 0, 1) := by decide +kernel
theorem d_Ld_perform_84 : decode b_Ld_perform 84 = .ok (.ireturn, 1) := by decide +kernel
theorem d_Ld_perform_85 : decode b_Ld_perform 85 = .ok (.aload_n 0, 1) := by decide +kernel
theorem d_Ld_perform_86 : decode b_Ld_perform 86 = .ok (.aload_n 0, 1) := by decide +kernel
theorem d_Ld_perform_87 : decode b_Ld_perform 87 = .ok (.getfield 33, 3) := by decide +kernel
theorem d_Ld_perform_90 : decode b_Ld_perform 90 = .ok (.getfield 255, 3) := by decide +kernel
theorem d_Ld_perform_93 : decode b_Ld_perform 93 = .ok (.aload_n 0, 1) := by decide +kernel
theorem d_Ld_perform_94 : decode b_Ld_perform 94 = .ok (.getfield 33, 3) := by decide +kernel
theorem d_Ld_perform_97 : decode b_Ld_perform 97 = .ok (.getfield 252, 3) := by decide +kernel
theorem d_Ld_perform_100 : decode b_Ld_perform 100 = .ok (.aload_n 0, 1) := by decide +kernel
theorem d_Ld_perform_101 : decode b_Ld_perform 101 = .ok (.getfield 33, 3) := by decide +kernel
theorem d_Ld_perform_104 : decode b_Ld_perform 104 = .ok (.getfield 258, 3) := by decide +kernel
theorem d_Ld_perform_107 : decode b_Ld_perform 107 = .ok (.invokevirtual 261, 3) := by decide +kernel
theorem d_Ld_perform_110 : decode b_Ld_perform 110 = .ok (.ireturn, 1) := by decide +kernel
theorem d_Ld_perform_111 : decode b_Ld_perform 111 = .ok (.aload_n 0, 1) := by decide +kernel
theorem d_Ld_perform_112 : decode b_Ld_perform 112 = .ok (.aload_n 0, 1) := by decide +kernel
theorem d_Ld_perform_113 : decode b_Ld_perform 113 = .ok (.getfield 33, 3) := by decide +kernel
theorem d_Ld_perform_116 : decode b_Ld_perform 116 = .ok (.getfield 255, 3) := by decide +kernel
theorem d_Ld_perform_119 : decode b_Ld_perform 119 = .ok (.aload_n 0, 1) := by decide +kernel
theorem d_Ld_perform_120 : decode b_Ld_perform 120 = .ok (.getfield 33, 3) := by decide +kernel
theorem d_Ld_perform_123 : decode b_Ld_perform 123 = .ok (.getfield 252, 3) := by decide +kernel
theorem d_Ld_perform_126 : decode b_Ld_perform 126 = .ok (.aload_n 0, 1) := by decide +kernel
theorem d_Ld_perform_127 : decode b_Ld_perform 127 = .ok (.getfield 33, 3) := by decide +kernel
theorem d_Ld_perform_130 : decode b_Ld_perform 130 = .ok (.getfield 249, 3) := by decide +kernel
theorem d_Ld_perform_133 : decode b_Ld_perform 133 = .ok (.invokevirtual 265, 3) := by decide +kernel
theorem d_Ld_perform_136 : decode b_Ld_perform 136 = .ok (.ireturn, 1) := by decide +kernel
theorem d_Ld_perform_137 : decode b_Ld_perform 137 = .ok (.iconst 0, 1) := by decide +kernel
theorem d_Ld_perform_138 : decode b_Ld_perform 138 = .ok (.ireturn, 1) := by decide +kernel
theorem d_Ld_writeRecord_0 : decode b_Ld_writeRecord 0 = .ok (.aload_n 0, 1) := by decide +kernel
theorem d_Ld_writeRecord_1 : decode b_Ld_writeRecord 1 = .ok (.iload_n 1, 1) := by decide +kernel
theorem d_Ld_writeRecord_2 : decode b_Ld_writeRecord 2 = .ok (.iload_n 2, 1) := by decide +kernel
theorem d_Ld_writeRecord_3 : decode b_Ld_writeRecord 3 = .ok (.invokevirtual 268, 3) := by decide +kernel
theorem d_Ld_writeRecord_6 : decode b_Ld_writeRecord 6 = .ok (.istore 4, 2) := by decide +kernel
theorem d_Ld_writeRecord_8 : decode b_Ld_writeRecord 8 = .ok (.iload 4, 2) := by decide +kernel
theorem d_Ld_writeRecord_10 : decode b_Ld_writeRecord 10 = .ok (.ifCond .eq 6, 3) := by decide +kernel
theorem d_Ld_writeRecord_13 : decode b_Ld_writeRecord 13 = .ok (.iload 4, 2) := by decide +kernel
theorem d_Ld_writeRecord_15 : decode b_Ld_writeRecord 15 = .ok (.ireturn, 1) := by decide +kernel
theorem d_Ld_writeRecord_16 : decode b_Ld_writeRecord 16 = .ok (.aload_n 0, 1) := by decide +kernel
theorem d_Ld_writeRecord_17 : decode b_Ld_writeRecord 17 = .ok (.getfield 10, 3) := by decide +kernel
theorem d_Ld_writeRecord_20 : decode b_Ld_writeRecord 20 = .ok (.iload_n 1, 1) := by decide +kernel
theorem d_Ld_writeRecord_21 : decode b_Ld_writeRecord 21 = .ok (.invokevirtual 128, 3) := by decide +kernel
theorem d_Ld_writeRecord_24 : decode b_Ld_writeRecord 24 = .ok (.ifCond .eq 46, 3) := by decide +kernel
theorem d_Ld_writeRecord_27 : decode b_Ld_writeRecord 27 = .ok (.aload_n 0, 1) := by decide +kernel
theorem d_Ld_writeRecord_28 : decode b_Ld_writeRecord 28 = .ok (.getfield 19, 3) := by decide +kernel
theorem d_Ld_writeRecord_31 : decode b_Ld_writeRecord 31 = .ok (.invokevirtual 219, 3) := by decide +kernel
theorem d_Ld_writeRecord_34 : decode b_Ld_writeRecord 34 = .ok (.aload_n 0, 1) := by decide +kernel
theorem d_Ld_writeRecord_35 : decode b_Ld_writeRecord 35 = .ok (.getfield 19, 3) := by decide +kernel
theorem d_Ld_writeRecord_38 : decode b_Ld_writeRecord 38 = .ok (.aload_n 0, 1) := by decide +kernel
theorem d_Ld_writeRecord_39 : decode b_Ld_writeRecord 39 = .ok (.getfield 10, 3) := by decide +kernel
theorem d_Ld_writeRecord_42 : decode b_Ld_writeRecord 42 = .ok (.aload_n 0, 1) := by decide +kernel
theorem d_Ld_writeRecord_43 : decode b_Ld_writeRecord 43 = .ok (.getfield 10, 3) := by decide +kernel
theorem d_Ld_writeRecord_46 : decode b_Ld_writeRecord 46 = .ok (.iload_n 1, 1) := by decide +kernel
theorem d_Ld_writeRecord_47 : decode b_Ld_writeRecord 47 = .ok (.invokevirtual 212, 3) := by decide +kernel
theorem d_Ld_writeRecord_50 : decode b_Ld_writeRecord 50 = .ok (.bipush 16, 2) := by decide +kernel
theorem d_Ld_writeRecord_52 : decode b_Ld_writeRecord 52 = .ok (.idiv, 1) := by decide +kernel
theorem d_Ld_writeRecord_53 : decode b_Ld_writeRecord 53 = .ok (.invokevirtual 222, 3) := by decide +kernel
theorem d_Ld_writeRecord_56 : decode b_Ld_writeRecord 56 = .ok (.aload_n 0, 1) := by decide +kernel
theorem d_Ld_writeRecord_57 : decode b_Ld_writeRecord 57 = .ok (.getfield 19, 3) := by decide +kernel
theorem d_Ld_writeRecord_60 : decode b_Ld_writeRecord 60 = .ok (.iload_n 2, 1) := by decide +kernel
theorem d_Ld_writeRecord_61 : decode b_Ld_writeRecord 61 = .ok (.iload_n 3, 1) := by decide +kernel
theorem d_Ld_writeRecord_62 : decode b_Ld_writeRecord 62 = .ok (.invokevirtual 200, 3) := by decide +kernel
theorem d_Ld_writeRecord_65 : decode b_Ld_writeRecord 65 = .ok (.aload_n 0, 1) := by decide +kernel
theorem d_Ld_writeRecord_66 : decode b_Ld_writeRecord 66 = .ok (.invokevirtual 209, 3) := by decide +kernel
theorem d_Ld_writeRecord_69 : decode b_Ld_writeRecord 69 = .ok (.ireturn, 1) := by decide +kernel
theorem d_Ld_writeRecord_70 : decode b_Ld_writeRecord 70 = .ok (.aload_n 0, 1) := by decide +kernel
theorem d_Ld_writeRecord_71 : decode b_Ld_writeRecord 71 = .ok (.getfield 10, 3) := by decide +kernel
theorem d_Ld_writeRecord_74 : decode b_Ld_writeRecord 74 = .ok (.iconst 1, 1) := by decide +kernel
theorem d_Ld_writeRecord_75 : decode b_Ld_writeRecord 75 = .ok (.iload_n 1, 1) := by decide +kernel
theorem d_Ld_writeRecord_76 : decode b_Ld_writeRecord 76 = .ok (.invokevirtual 193, 3) := by decide +kernel
theorem d_Ld_writeRecord_79 : decode b_Ld_writeRecord 79 = .ok (.istore 5, 2) := by decide +kernel
theorem d_Ld_writeRecord_81 : decode b_Ld_writeRecord 81 = .ok (.iload 5, 2) := by decide +kernel
theorem d_Ld_writeRecord_83 : decode b_Ld_writeRecord 83 = .ok (.iconst (-1), 1) := by decide +kernel
theorem d_Ld_writeRecord_84 : decode b_Ld_writeRecord 84 = .ok (.if_icmp .ne 6, 3) := by decide +kernel
theorem d_Ld_writeRecord_87 : decode b_Ld_writeRecord 87 = .ok (.bipush 9, 2) := by decide +kernel
theorem d_Ld_writeRecord_89 : decode b_Ld_writeRecord 89 = .ok (.ireturn, 1) := by decide +kernel
theorem d_Ld_writeRecord_90 : decode b_Ld_writeRecord 90 = .ok (.aload_n 0, 1) := by decide +kernel
theorem d_Ld_writeRecord_91 : decode b_Ld_writeRecord 91 = .ok (.iload_n 1, 1) := by decide +kernel
theorem d_Ld_writeRecord_92 : decode b_Ld_writeRecord 92 = .ok (.bipush 16, 2) := by decide +kernel
theorem d_Ld_writeRecord_94 : decode b_Ld_writeRecord 94 = .ok (.iload 5, 2) := by decide +kernel
theorem d_Ld_writeRecord_96 : decode b_Ld_writeRecord 96 = .ok (.invokevirtual 196, 3) := by decide +kernel
theorem d_Ld_writeRecord_99 : decode b_Ld_writeRecord 99 = .ok (.aload_n 0, 1) := by decide +kernel
theorem d_Ld_writeRecord_100 : decode b_Ld_writeRecord 100 = .ok (.getfield 19, 3) := by decide +kernel
theorem d_Ld_writeRecord_103 : decode b_Ld_writeRecord 103 = .ok (.bipush 16, 2) := by decide +kernel
theorem d_Ld_writeRecord_105 : decode b_Ld_writeRecord 105 = .ok (.iload_n 2, 1) := by decide +kernel
theorem d_Ld_writeRecord_106 : decode b_Ld_writeRecord 106 = .ok (.iadd, 1) := by decide +kernel
theorem d_Ld_writeRecord_107 : decode b_Ld_writeRecord 107 = .ok (.iload_n 3, 1) := by decide +kernel
theorem d_Ld_writeRecord_108 : decode b_Ld_writeRecord 108 = .ok (.invokevirtual 200, 3) := by decide +kernel
theorem d_Ld_writeRecord_111 : decode b_Ld_writeRecord 111 = .ok (.aload_n 0, 1) := by decide +kernel
theorem d_Ld_writeRecord_112 : decode b_Ld_writeRecord 112 = .ok (.invokevirtual 209, 3) := by decide +kernel
theorem d_Ld_writeRecord_115 : decode b_Ld_writeRecord 115 = .ok (.ireturn, 1) := by decide +kernel
theorem d_Ld_readRecord_0 : decode b_Ld_readRecord 0 = .ok (.aload_n 0, 1) := by decide +kernel
theorem d_Ld_readRecord_1 : decode b_Ld_readRecord 1 = .ok (.iload_n 1, 1) := by decide +kernel
theorem d_Ld_readRecord_2 : decode b_Ld_readRecord 2 = .ok (.iload_n 2, 1) := by decide +kernel
theorem d_Ld_readRecord_3 : decode b_Ld_readRecord 3 = .ok (.invokevirtual 268, 3) := by decide +kernel
theorem d_Ld_readRecord_6 : decode b_Ld_readRecord 6 = .ok (.istore 4, 2) := by decide +kernel
theorem d_Ld_readRecord_8 : decode b_Ld_readRecord 8 = .ok (.iload 4, 2) := by decide +kernel
theorem d_Ld_readRecord_10 : decode b_Ld_readRecord 10 = .ok (.ifCond .eq 6, 3) := by decide +kernel
theorem d_Ld_readRecord_13 : decode b_Ld_readRecord 13 = .ok (.iload 4, 2) := by decide +kernel
theorem d_Ld_readRecord_15 : decode b_Ld_readRecord 15 = .ok (.ireturn, 1) := by decide +kernel
theorem d_Ld_readRecord_16 : decode b_Ld_readRecord 16 = .ok (.aload_n 0, 1) := by decide +kernel
theorem d_Ld_readRecord_17 : decode b_Ld_readRecord 17 = .ok (.getfield 10, 3) := by decide +kernel
theorem d_Ld_readRecord_20 : decode b_Ld_readRecord 20 = .ok (.iload_n 1, 1) := by decide +kernel
theorem d_Ld_readRecord_21 : decode b_Ld_readRecord 21 = .ok (.invokevirtual 128, 3) := by decide +kernel
theorem d_Ld_readRecord_24 : decode b_Ld_readRecord 24 = .ok (.ifCond .ne 5, 3) := by decide +kernel
theorem d_Ld_readRecord_27 : decode b_Ld_readRecord 27 = .ok (.iconst 3, 1) := by decide +kernel
theorem d_Ld_readRecord_28 : decode b_Ld_readRecord 28 = .ok (.ireturn, 1) := by decide +kernel
theorem d_Ld_readRecord_29 : decode b_Ld_readRecord 29 = .ok (.aload_n 0, 1) := by decide +kernel
theorem d_Ld_readRecord_30 : decode b_Ld_readRecord 30 = .ok (.getfield 26, 3) := by decide +kernel
theorem d_Ld_readRecord_33 : decode b_Ld_readRecord 33 = .ok (.getfield 134, 3) := by decide +kernel
theorem d_Ld_readRecord_36 : decode b_Ld_readRecord 36 = .ok (.iload_n 3, 1) := by decide +kernel
theorem d_Ld_readRecord_37 : decode b_Ld_readRecord 37 = .ok (.aload_n 0, 1) := by decide +kernel
theorem d_Ld_readRecord_38 : decode b_Ld_readRecord 38 = .ok (.getfield 10, 3) := by decide +kernel
theorem d_Ld_readRecord_41 : decode b_Ld_readRecord 41 = .ok (.aload_n 0, 1) := by decide +kernel
theorem d_Ld_readRecord_42 : decode b_Ld_readRecord 42 = .ok (.getfield 10, 3) := by decide +kernel
theorem d_Ld_readRecord_45 : decode b_Ld_readRecord 45 = .ok (.iload_n 1, 1) := by decide +kernel
theorem d_Ld_readRecord_46 : decode b_Ld_readRecord 46 = .ok (.invokevirtual 212, 3) := by decide +kernel
theorem d_Ld_readRecord_49 : decode b_Ld_readRecord 49 = .ok (.iload_n 2, 1) := by decide +kernel
theorem d_Ld_readRecord_50 : decode b_Ld_readRecord 50 = .ok (.iadd, 1) := by decide +kernel
theorem d_Ld_readRecord_51 : decode b_Ld_readRecord 51 = .ok (.invokevirtual 124, 3) := by decide +kernel
theorem d_Ld_readRecord_54 : decode b_Ld_readRecord 54 = .ok (.iastore, 1) := by decide +kernel
theorem d_Ld_readRecord_55 : decode b_Ld_readRecord 55 = .ok (.iconst 0, 1) := by decide +kernel
theorem d_Ld_readRecord_56 : decode b_Ld_readRecord 56 = .ok (.ireturn, 1) := by decide +kernel
theorem d_Ld_recordFault_0 : decode b_Ld_recordFault 0 = .ok (.aload_n 0, 1) := by decide +kernel
theorem d_Ld_recordFault_1 : decode b_Ld_recordFault 1 = .ok (.getfield 10, 3) := by decide +kernel
theorem d_Ld_recordFault_4 : decode b_Ld_recordFault 4 = .ok (.invokevirtual 66, 3) := by decide +kernel
theorem d_Ld_recordFault_7 : decode b_Ld_recordFault 7 = .ok (.ifCond .ne 6, 3) := by decide +kernel
theorem d_Ld_recordFault_10 : decode b_Ld_recordFault 10 = .ok (.bipush 8, 2) := by decide +kernel
theorem d_Ld_recordFault_12 : decode b_Ld_recordFault 12 = .ok (.ireturn, 1) := by decide +kernel
theorem d_Ld_recordFault_13 : decode b_Ld_recordFault 13 = .ok (.iload_n 2, 1) := by decide +kernel
theorem d_Ld_recordFault_14 : decode b_Ld_recordFault 14 = .ok (.ifCond .lt 9, 3) := by decide +kernel
theorem d_Ld_recordFault_17 : decode b_Ld_recordFault 17 = .ok (.iload_n 2, 1) := by decide +kernel
theorem d_Ld_recordFault_18 : decode b_Ld_recordFault 18 = .ok (.bipush 16, 2) := by decide +kernel
theorem d_Ld_recordFault_20 : decode b_Ld_recordFault 20 = .ok (.if_icmp .lt 5, 3) := by decide +kernel
theorem d_Ld_recordFault_23 : decode b_Ld_recordFault 23 = .ok (.iconst 4, 1) := by decide +kernel
theorem d_Ld_recordFault_24 : decode b_Ld_recordFault 24 = .ok (.ireturn, 1) := by decide +kernel
theorem d_Ld_recordFault_25 : decode b_Ld_recordFault 25 = .ok (.aload_n 0, 1) := by decide +kernel
theorem d_Ld_recordFault_26 : decode b_Ld_recordFault 26 = .ok (.getfield 10, 3) := by decide +kernel
theorem d_Ld_recordFault_29 : decode b_Ld_recordFault 29 = .ok (.iload_n 1, 1) := by decide +kernel
theorem d_Ld_recordFault_30 : decode b_Ld_recordFault 30 = .ok (.invokevirtual 128, 3) := by decide +kernel
theorem d_Ld_recordFault_33 : decode b_Ld_recordFault 33 = .ok (.istore_n 3, 1) := by decide +kernel
theorem d_Ld_recordFault_34 : decode b_Ld_recordFault 34 = .ok (.iload_n 3, 1) := by decide +kernel
theorem d_Ld_recordFault_35 : decode b_Ld_recordFault 35 = .ok (.ifCond .eq 9, 3) := by decide +kernel
theorem d_Ld_recordFault_38 : decode b_Ld_recordFault 38 = .ok (.iload_n 3, 1) := by decide +kernel
theorem d_Ld_recordFault_39 : decode b_Ld_recordFault 39 = .ok (.bipush 16, 2) := by decide +kernel
theorem d_Ld_recordFault_41 : decode b_Ld_recordFault 41 = .ok (.if_icmp .ne 7, 3) := by decide +kernel
theorem d_Ld_recordFault_44 : decode b_Ld_recordFault 44 = .ok (.iconst 0, 1) := by decide +kernel
theorem d_Ld_recordFault_45 : decode b_Ld_recordFault 45 = .ok (.goto 4, 3) := by decide +kernel
theorem d_Ld_recordFault_48 : decode b_Ld_recordFault 48 = .ok (.iconst 4, 1) := by decide +kernel
theorem d_Ld_recordFault_49 : decode b_Ld_recordFault 49 = .ok (.ireturn, 1) := by decide +kernel
theorem d_Mo_init_0 : decode b_Mo_init 0 = .ok (.aload_n 0, 1) := by decide +kernel
theorem d_Mo_init_1 : decode b_Mo_init 1 = .ok (.invokespecial 1, 3) := by decide +kernel
theorem d_Mo_init_4 : decode b_Mo_init 4 = .ok (.aload_n 0, 1) := by decide +kernel
theorem d_Mo_init_5 : decode b_Mo_init 5 = .ok (.sipush 512, 3) := by decide +kernel
theorem d_Mo_init_8 : decode b_Mo_init 8 = .ok (.newarray .int, 2) := by decide +kernel
theorem d_Mo_init_10 : decode b_Mo_init 10 = .ok (.putfield 7, 3) := by decide +kernel
theorem d_Mo_init_13 : decode b_Mo_init 13 = .ok (.aload_n 0, 1) := by decide +kernel
theorem d_Mo_init_14 : decode b_Mo_init 14 = .ok (.iconst (-1), 1) := by decide +kernel
theorem d_Mo_init_15 : decode b_Mo_init 15 = .ok (.putfield 13, 3) := by decide +kernel
theorem d_Mo_init_18 : decode b_Mo_init 18 = .ok (.aload_n 0, 1) := by decide +kernel
theorem d_Mo_init_19 : decode b_Mo_init 19 = .ok (.bipush 100, 2) := by decide +kernel
theorem d_Mo_init_21 : decode b_Mo_init 21 = .ok (.newarray .int, 2) := by decide +kernel
theorem d_Mo_init_23 : decode b_Mo_init 23 = .ok (.putfield 17, 3) := by decide +kernel
theorem d_Mo_init_26 : decode b_Mo_init 26 = .ok (.aload_n 0, 1) := by decide +kernel
theorem d_Mo_init_27 : decode b_Mo_init 27 = .ok (.sipush 1200, 3) := by decide +kernel
theorem d_Mo_init_30 : decode b_Mo_init 30 = .ok (.newarray .int, 2) := by decide +kernel
theorem d_Mo_init_32 : decode b_Mo_init 32 = .ok (.putfield 20, 3) := by decide +kernel
theorem d_Mo_init_35 : decode b_Mo_init 35 = .ok (.aload_n 0, 1) := by decide +kernel
theorem d_Mo_init_36 : decode b_Mo_init 36 = .ok (.bipush 8, 2) := by decide +kernel
theorem d_Mo_init_38 : decode b_Mo_init 38 = .ok (.newarray .int, 2) := by decide +kernel
theorem d_Mo_init_40 : decode b_Mo_init 40 = .ok (.putfield 23, 3) := by decide +kernel
theorem d_Mo_init_43 : decode b_Mo_init 43 = .ok (.aload_n 0, 1) := by decide +kernel
theorem d_Mo_init_44 : decode b_Mo_init 44 = .ok (.bipush 60, 2) := by decide +kernel
theorem d_Mo_init_46 : decode b_Mo_init 46 = .ok (.newarray .int, 2) := by decide +kernel
theorem d_Mo_init_48 : decode b_Mo_init 48 = .ok (.putfield 26, 3) := by decide +kernel
theorem d_Mo_init_51 : decode b_Mo_init 51 = .ok (.aload_n 0, 1) := by decide +kernel
theorem d_Mo_init_52 : decode b_Mo_init 52 = .ok (.bipush 15, 2) := by decide +kernel
theorem d_Mo_init_54 : decode b_Mo_init 54 = .ok (.newarray .int, 2) := by decide +kernel
theorem d_Mo_init_56 : decode b_Mo_init 56 = .ok (.putfield 29, 3) := by decide +kernel
theorem d_Mo_init_59 : decode b_Mo_init 59 = .ok (.aload_n 0, 1) := by decide +kernel
theorem d_Mo_init_60 : decode b_Mo_init 60 = .ok (.bipush 16, 2) := by decide +kernel
theorem d_Mo_init_62 : decode b_Mo_init 62 = .ok (.newarray .int, 2) := by decide +kernel
theorem d_Mo_init_64 : decode b_Mo_init 64 = .ok (.putfield 32, 3) := by decide +kernel
theorem d_Mo_init_67 : decode b_Mo_init 67 = .ok (.aload_n 0, 1) := by decide +kernel
theorem d_Mo_init_68 : decode b_Mo_init 68 = .ok (.bipush 16, 2) := by decide +kernel
theorem d_Mo_init_70 : decode b_Mo_init 70 = .ok (.newarray .int, 2) := by decide +kernel
theorem d_Mo_init_72 : decode b_Mo_init 72 = .ok (.putfield 35, 3) := by decide +kernel
theorem d_Mo_init_75 : decode b_Mo_init 75 = .ok (.aload_n 0, 1) := by decide +kernel
theorem d_Mo_init_76 : decode b_Mo_init 76 = .ok (.bipush 6, 2) := by decide +kernel
theorem d_Mo_init_78 : decode b_Mo_init 78 = .ok (.newarray .int, 2) := by decide +kernel
theorem d_Mo_init_80 : decode b_Mo_init 80 = .ok (.putfield 38, 3) := by decide +kernel
theorem d_Mo_init_83 : decode b_Mo_init 83 = .ok (.aload_n 0, 1) := by decide +kernel
theorem d_Mo_init_84 : decode b_Mo_init 84 = .ok (.bipush 96, 2) := by decide +kernel
theorem d_Mo_init_86 : decode b_Mo_init 86 = .ok (.newarray .int, 2) := by decide +kernel
theorem d_Mo_init_88 : decode b_Mo_init 88 = .ok (.putfield 41, 3) := by decide +kernel
theorem d_Mo_init_91 : decode b_Mo_init 91 = .ok (.aload_n 0, 1) := by decide +kernel
theorem d_Mo_init_92 : decode b_Mo_init 92 = .ok (.invokevirtual 44, 3) := by decide +kernel
theorem d_Mo_init_95 : decode b_Mo_init 95 = .ok (.return_, 1) := by decide +kernel
theorem d_Mo_nothing_0 : decode b_Mo_nothing 0 = .ok (.iconst 0, 1) := by decide +kernel
theorem d_Mo_nothing_1 : decode b_Mo_nothing 1 = .ok (.istore_n 1, 1) := by decide +kernel
theorem d_Mo_nothing_2 : decode b_Mo_nothing 2 = .ok (.iload_n 1, 1) := by decide +kernel
theorem d_Mo_nothing_3 : decode b_Mo_nothing 3 = .ok (.bipush 100, 2) := by decide +kernel
theorem d_Mo_nothing_5 : decode b_Mo_nothing 5 = .ok (.if_icmp .ge 16, 3) := by decide +kernel
theorem d_Mo_nothing_8 : decode b_Mo_nothing 8 = .ok (.aload_n 0, 1) := by decide +kernel
theorem d_Mo_nothing_9 : decode b_Mo_nothing 9 = .ok (.getfield 17, 3) := by decide +kernel
theorem d_Mo_nothing_12 : decode b_Mo_nothing 12 = .ok (.iload_n 1, 1) := by decide +kernel
theorem d_Mo_nothing_13 : decode b_Mo_nothing 13 = .ok (.iconst (-1), 1) := by decide +kernel
theorem d_Mo_nothing_14 : decode b_Mo_nothing 14 = .ok (.iastore, 1) := by decide +kernel
theorem d_Mo_nothing_15 : decode b_Mo_nothing 15 = .ok (.iinc 1 1, 3) := by decide +kernel
theorem d_Mo_nothing_18 : decode b_Mo_nothing 18 = .ok (.goto (-16), 3) := by decide +kernel
theorem d_Mo_nothing_21 : decode b_Mo_nothing 21 = .ok (.iconst 0, 1) := by decide +kernel
theorem d_Mo_nothing_22 : decode b_Mo_nothing 22 = .ok (.istore_n 1, 1) := by decide +kernel
theorem d_Mo_nothing_23 : decode b_Mo_nothing 23 = .ok (.iload_n 1, 1) := by decide +kernel
theorem d_Mo_nothing_24 : decode b_Mo_nothing 24 = .ok (.bipush 8, 2) := by decide +kernel
theorem d_Mo_nothing_26 : decode b_Mo_nothing 26 = .ok (.if_icmp .ge 16, 3) := by decide +kernel
theorem d_Mo_nothing_29 : decode b_Mo_nothing 29 = .ok (.aload_n 0, 1) := by decide +kernel
theorem d_Mo_nothing_30 : decode b_Mo_nothing 30 = .ok (.getfield 23, 3) := by decide +kernel
theorem d_Mo_nothing_33 : decode b_Mo_nothing 33 = .ok (.iload_n 1, 1) := by decide +kernel
theorem d_Mo_nothing_34 : decode b_Mo_nothing 34 = .ok (.iconst 0, 1) := by decide +kernel
theorem d_Mo_nothing_35 : decode b_Mo_nothing 35 = .ok (.iastore, 1) := by decide +kernel
theorem d_Mo_nothing_36 : decode b_Mo_nothing 36 = .ok (.iinc 1 1, 3) := by decide +kernel
theorem d_Mo_nothing_39 : decode b_Mo_nothing 39 = .ok (.goto (-16), 3) := by decide +kernel
theorem d_Mo_nothing_42 : decode b_Mo_nothing 42 = .ok (.aload_n 0, 1) := by decide +kernel
theorem d_Mo_nothing_43 : decode b_Mo_nothing 43 = .ok (.iconst 0, 1) := by decide +kernel
theorem d_Mo_nothing_44 : decode b_Mo_nothing 44 = .ok (.putfield 50, 3) := by decide +kernel
theorem d_Mo_nothing_47 : decode b_Mo_nothing 47 = .ok (.aload_n 0, 1) := by decide +kernel
theorem d_Mo_nothing_48 : decode b_Mo_nothing 48 = .ok (.iconst 0, 1) := by decide +kernel
theorem d_Mo_nothing_49 : decode b_Mo_nothing 49 = .ok (.putfield 53, 3) := by decide +kernel
theorem d_Mo_nothing_52 : decode b_Mo_nothing 52 = .ok (.return_, 1) := by decide +kernel
theorem d_Mo_dies_0 : decode b_Mo_dies 0 = .ok (.aload_n 0, 1) := by decide +kernel
theorem d_Mo_dies_1 : decode b_Mo_dies 1 = .ok (.iconst 1, 1) := by decide +kernel
theorem d_Mo_dies_2 : decode b_Mo_dies 2 = .ok (.putfield 56, 3) := by decide +kernel
theorem d_Mo_dies_5 : decode b_Mo_dies 5 = .ok (.aload_n 0, 1) := by decide +kernel
theorem d_Mo_dies_6 : decode b_Mo_dies 6 = .ok (.iconst (-1), 1) := by decide +kernel
theorem d_Mo_dies_7 : decode b_Mo_dies 7 = .ok (.putfield 13, 3) := by decide +kernel
theorem d_Mo_dies_10 : decode b_Mo_dies 10 = .ok (.aload_n 0, 1) := by decide +kernel
theorem d_Mo_dies_11 : decode b_Mo_dies 11 = .ok (.invokevirtual 44, 3) := by decide +kernel
theorem d_Mo_dies_14 : decode b_Mo_dies 14 = .ok (.return_, 1) := by decide +kernel
theorem d_Mo_write_0 : decode b_Mo_write 0 = .ok (.aload_n 0, 1) := by decide +kernel
theorem d_Mo_write_1 : decode b_Mo_write 1 = .ok (.getfield 56, 3) := by decide +kernel
theorem d_Mo_write_4 : decode b_Mo_write 4 = .ok (.ifCond .eq 4, 3) := by decide +kernel
theorem d_Mo_write_7 : decode b_Mo_write 7 = .ok (.return_, 1) := by decide +kernel
theorem d_Mo_write_8 : decode b_Mo_write 8 = .ok (.aload_n 0, 1) := by decide +kernel
theorem d_Mo_write_9 : decode b_Mo_write 9 = .ok (.getfield 13, 3) := by decide +kernel
theorem d_Mo_write_12 : decode b_Mo_write 12 = .ok (.ifCond .ne 8, 3) := by decide +kernel
theorem d_Mo_write_15 : decode b_Mo_write 15 = .ok (.aload_n 0, 1) := by decide +kernel
theorem d_Mo_write_16 : decode b_Mo_write 16 = .ok (.invokevirtual 60, 3) := by decide +kernel
theorem d_Mo_write_19 : decode b_Mo_write 19 = .ok (.return_, 1) := by decide +kernel
theorem d_Mo_write_20 : decode b_Mo_write 20 = .ok (.aload_n 0, 1) := by decide +kernel
theorem d_Mo_write_21 : decode b_Mo_write 21 = .ok (.dup, 1) := by decide +kernel
theorem d_Mo_write_22 : decode b_Mo_write 22 = .ok (.getfield 13, 3) := by decide +kernel
theorem d_Mo_write_25 : decode b_Mo_write 25 = .ok (.aload_n 0, 1) := by decide +kernel
theorem d_Mo_write_26 : decode b_Mo_write 26 = .ok (.getfield 13, 3) := by decide +kernel
theorem d_Mo_write_29 : decode b_Mo_write 29 = .ok (.ifCond .le 7, 3) := by decide +kernel
theorem d_Mo_write_32 : decode b_Mo_write 32 = .ok (.iconst 1, 1) := by decide +kernel
theorem d_Mo_write_33 : decode b_Mo_write 33 = .ok (.goto 4, 3) := by decide +kernel
theorem d_Mo_write_36 : decode b_Mo_write 36 = .ok (.iconst 0, 1) := by decide +kernel
theorem d_Mo_write_37 : decode b_Mo_write 37 = .ok (.isub, 1) := by decide +kernel
theorem d_Mo_write_38 : decode b_Mo_write 38 = .ok (.putfield 13, 3) := by decide +kernel
theorem d_Mo_write_41 : decode b_Mo_write 41 = .ok (.aload_n 0, 1) := by decide +kernel
theorem d_Mo_write_42 : decode b_Mo_write 42 = .ok (.dup, 1) := by decide +kernel
theorem d_Mo_write_43 : decode b_Mo_write 43 = .ok (.getfield 63, 3) := by decide +kernel
theorem d_Mo_write_46 : decode b_Mo_write 46 = .ok (.iconst 1, 1) := by decide +kernel
theorem d_Mo_write_47 : decode b_Mo_write 47 = .ok (.iadd, 1) := by decide +kernel
theorem d_Mo_write_48 : decode b_Mo_write 48 = .ok (.putfield 63, 3) := by decide +kernel
theorem d_Mo_write_51 : decode b_Mo_write 51 = .ok (.iconst 0, 1) := by decide +kernel
theorem d_Mo_write_52 : decode b_Mo_write 52 = .ok (.istore_n 3, 1) := by decide +kernel
theorem d_Mo_write_53 : decode b_Mo_write 53 = .ok (.iload_n 3, 1) := by decide +kernel
theorem d_Mo_write_54 : decode b_Mo_write 54 = .ok (.bipush 16, 2) := by decide +kernel
theorem d_Mo_write_56 : decode b_Mo_write 56 = .ok (.if_icmp .ge 37, 3) := by decide +kernel
theorem d_Mo_write_59 : decode b_Mo_write 59 = .ok (.aload_n 0, 1) := by decide +kernel
theorem d_Mo_write_60 : decode b_Mo_write 60 = .ok (.getfield 7, 3) := by decide +kernel
theorem d_Mo_write_63 : decode b_Mo_write 63 = .ok (.bipush 16, 2) := by decide +kernel
theorem d_Mo_write_65 : decode b_Mo_write 65 = .ok (.iload_n 1, 1) := by decide +kernel
theorem d_Mo_write_66 : decode b_Mo_write 66 = .ok (.imul, 1) := by decide +kernel
theorem d_Mo_write_67 : decode b_Mo_write 67 = .ok (.iload_n 3, 1) := by decide +kernel
theorem d_Mo_write_68 : decode b_Mo_write 68 = .ok (.iadd, 1) := by decide +kernel
theorem d_Mo_write_69 : decode b_Mo_write 69 = .ok (.iload_n 2, 1) := by decide +kernel
theorem d_Mo_write_70 : decode b_Mo_write 70 = .ok (.iconst (-1), 1) := by decide +kernel
theorem d_Mo_write_71 : decode b_Mo_write 71 = .ok (.if_icmp .ne 7, 3) := by decide +kernel
theorem d_Mo_write_74 : decode b_Mo_write 74 = .ok (.iconst 0, 1) := by decide +kernel
theorem d_Mo_write_75 : decode b_Mo_write 75 = .ok (.goto 11, 3) := by decide +kernel
theorem d_Mo_write_78 : decode b_Mo_write 78 = .ok (.aload_n 0, 1) := by decide +kernel
theorem d_Mo_write_79 : decode b_Mo_write 79 = .ok (.getfield 41, 3) := by decide +kernel
theorem d_Mo_write_82 : decode b_Mo_write 82 = .ok (.iload_n 2, 1) := by decide +kernel
theorem d_Mo_write_83 : decode b_Mo_write 83 = .ok (.iload_n 3, 1) := by decide +kernel
theorem d_Mo_write_84 : decode b_Mo_write 84 = .ok (.iadd, 1) := by decide +kernel
theorem d_Mo_write_85 : decode b_Mo_write 85 = .ok (.iaload, 1) := by decide +kernel
theorem d_Mo_write_86 : decode b_Mo_write 86 = .ok (.iastore, 1) := by decide +kernel
theorem d_Mo_write_87 : decode b_Mo_write 87 = .ok (.iinc 3 1, 3) := by decide +kernel
theorem d_Mo_write_90 : decode b_Mo_write 90 = .ok (.goto (-37), 3) := by decide +kernel
theorem d_Mo_write_93 : decode b_Mo_write 93 = .ok (.return_, 1) := by decide +kernel
theorem d_Mo_formatted_0 : decode b_Mo_formatted 0 = .ok (.aload_n 0, 1) := by decide +kernel
theorem d_Mo_formatted_1 : decode b_Mo_formatted 1 = .ok (.getfield 7, 3) := by decide +kernel
theorem d_Mo_formatted_4 : decode b_Mo_formatted 4 = .ok (.iconst 0, 1) := by decide +kernel
theorem d_Mo_formatted_5 : decode b_Mo_formatted 5 = .ok (.iaload, 1) := by decide +kernel
theorem d_Mo_formatted_6 : decode b_Mo_formatted 6 = .ok (.sipush 7077, 3) := by decide +kernel
theorem d_Mo_formatted_9 : decode b_Mo_formatted 9 = .ok (.if_icmp .ne 7, 3) := by decide +kernel
theorem d_Mo_formatted_12 : decode b_Mo_formatted 12 = .ok (.iconst 1, 1) := by decide +kernel
theorem d_Mo_formatted_13 : decode b_Mo_formatted 13 = .ok (.goto 4, 3) := by decide +kernel
theorem d_Mo_formatted_16 : decode b_Mo_formatted 16 = .ok (.iconst 0, 1) := by decide +kernel
theorem d_Mo_formatted_17 : decode b_Mo_formatted 17 = .ok (.ireturn, 1) := by decide +kernel
theorem d_Mo_format_0 : decode b_Mo_format 0 = .ok (.aload_n 0, 1) := by decide +kernel
theorem d_Mo_format_1 : decode b_Mo_format 1 = .ok (.iconst 0, 1) := by decide +kernel
theorem d_Mo_format_2 : decode b_Mo_format 2 = .ok (.putfield 47, 3) := by decide +kernel
theorem d_Mo_format_5 : decode b_Mo_format 5 = .ok (.aload_n 0, 1) := by decide +kernel
theorem d_Mo_format_6 : decode b_Mo_format 6 = .ok (.getfield 56, 3) := by decide +kernel
theorem d_Mo_format_9 : decode b_Mo_format 9 = .ok (.ifCond .eq 6, 3) := by decide +kernel
theorem d_Mo_format_12 : decode b_Mo_format 12 = .ok (.bipush 7, 2) := by decide +kernel
theorem d_Mo_format_14 : decode b_Mo_format 14 = .ok (.ireturn, 1) := by decide +kernel
theorem d_Mo_format_15 : decode b_Mo_format 15 = .ok (.iconst 0, 1) := by decide +kernel
theorem d_Mo_format_16 : decode b_Mo_format 16 = .ok (.istore_n 1, 1) := by decide +kernel
theorem d_Mo_format_17 : decode b_Mo_format 17 = .ok (.iload_n 1, 1) := by decide +kernel
theorem d_Mo_format_18 : decode b_Mo_format 18 = .ok (.bipush 16, 2) := by decide +kernel
theorem d_Mo_format_20 : decode b_Mo_format 20 = .ok (.if_icmp .ge 26, 3) := by decide +kernel
theorem d_Mo_format_23 : decode b_Mo_format 23 = .ok (.aload_n 0, 1) := by decide +kernel
theorem d_Mo_format_24 : decode b_Mo_format 24 = .ok (.getfield 41, 3) := by decide +kernel
theorem d_Mo_format_27 : decode b_Mo_format 27 = .ok (.iload_n 1, 1) := by decide +kernel
theorem d_Mo_format_28 : decode b_Mo_format 28 = .ok (.iload_n 1, 1) := by decide +kernel
theorem d_Mo_format_29 : decode b_Mo_format 29 = .ok (.ifCond .ne 9, 3) := by decide +kernel
theorem d_Mo_format_32 : decode b_Mo_format 32 = .ok (.sipush 7077, 3) := by decide +kernel
theorem d_Mo_format_35 : decode b_Mo_format 35 = .ok (.goto 4, 3) := by decide +kernel
theorem d_Mo_format_38 : decode b_Mo_format 38 = .ok (.iconst 0, 1) := by decide +kernel
theorem d_Mo_format_39 : decode b_Mo_format 39 = .ok (.iastore, 1) := by decide +kernel
theorem d_Mo_format_40 : decode b_Mo_format 40 = .ok (.iinc 1 1, 3) := by decide +kernel
theorem d_Mo_format_43 : decode b_Mo_format 43 = .ok (.goto (-26), 3) := by decide +kernel
theorem d_Mo_format_46 : decode b_Mo_format 46 = .ok (.aload_n 0, 1) := by decide +kernel
theorem d_Mo_format_47 : decode b_Mo_format 47 = .ok (.iconst 2, 1) := by decide +kernel
theorem d_Mo_format_48 : decode b_Mo_format 48 = .ok (.iconst (-1), 1) := by decide +kernel
theorem d_Mo_format_49 : decode b_Mo_format 49 = .ok (.invokevirtual 66, 3) := by decide +kernel
theorem d_Mo_format_52 : decode b_Mo_format 52 = .ok (.aload_n 0, 1) := by decide +kernel
theorem d_Mo_format_53 : decode b_Mo_format 53 = .ok (.iconst 1, 1) := by decide +kernel
theorem d_Mo_format_54 : decode b_Mo_format 54 = .ok (.iconst (-1), 1) := by decide +kernel
theorem d_Mo_format_55 : decode b_Mo_format 55 = .ok (.invokevirtual 66, 3) := by decide +kernel
theorem d_Mo_format_58 : decode b_Mo_format 58 = .ok (.aload_n 0, 1) := by decide +kernel
theorem d_Mo_format_59 : decode b_Mo_format 59 = .ok (.iconst 0, 1) := by decide +kernel
theorem d_Mo_format_60 : decode b_Mo_format 60 = .ok (.iconst 0, 1) := by decide +kernel
theorem d_Mo_format_61 : decode b_Mo_format 61 = .ok (.invokevirtual 66, 3) := by decide +kernel
theorem d_Mo_format_64 : decode b_Mo_format 64 = .ok (.aload_n 0, 1) := by decide +kernel
theorem d_Mo_format_65 : decode b_Mo_format 65 = .ok (.getfield 56, 3) := by decide +kernel
theorem d_Mo_format_68 : decode b_Mo_format 68 = .ok (.ifCond .eq 8, 3) := by decide +kernel
theorem d_Mo_format_71 : decode b_Mo_format 71 = .ok (.bipush 7, 2) := by decide +kernel
theorem d_Mo_format_73 : decode b_Mo_format 73 = .ok (.goto 4, 3) := by decide +kernel
theorem d_Mo_format_76 : decode b_Mo_format 76 = .ok (.iconst 0, 1) := by decide +kernel
theorem d_Mo_format_77 : decode b_Mo_format 77 = .ok (.ireturn, 1) := by decide +kernel
theorem d_Mo_head_0 : decode b_Mo_head 0 = .ok (.aload_n 0, 1) := by decide +kernel
theorem d_Mo_head_1 : decode b_Mo_head 1 = .ok (.getfield 56, 3) := by decide +kernel
theorem d_Mo_head_4 : decode b_Mo_head 4 = .ok (.ifCond .eq 4, 3) := by decide +kernel
theorem d_Mo_head_7 : decode b_Mo_head 7 = .ok (.return_, 1) := by decide +kernel
theorem d_Mo_head_8 : decode b_Mo_head 8 = .ok (.aload_n 0, 1) := by decide +kernel
theorem d_Mo_head_9 : decode b_Mo_head 9 = .ok (.getfield 13, 3) := by decide +kernel
theorem d_Mo_head_12 : decode b_Mo_head 12 = .ok (.ifCond .ne 8, 3) := by decide +kernel
theorem d_Mo_head_15 : decode b_Mo_head 15 = .ok (.aload_n 0, 1) := by decide +kernel
theorem d_Mo_head_16 : decode b_Mo_head 16 = .ok (.invokevirtual 60, 3) := by decide +kernel
theorem d_Mo_head_19 : decode b_Mo_head 19 = .ok (.return_, 1) := by decide +kernel
theorem d_Mo_head_20 : decode b_Mo_head 20 = .ok (.aload_n 0, 1) := by decide +kernel
theorem d_Mo_head_21 : decode b_Mo_head 21 = .ok (.dup, 1) := by decide +kernel
theorem d_Mo_head_22 : decode b_Mo_head 22 = .ok (.getfield 13, 3) := by decide +kernel
theorem d_Mo_head_25 : decode b_Mo_head 25 = .ok (.aload_n 0, 1) := by decide +kernel
theorem d_Mo_head_26 : decode b_Mo_head 26 = .ok (.getfield 13, 3) := by decide +kernel
theorem d_Mo_head_29 : decode b_Mo_head 29 = .ok (.ifCond .le 7, 3) := by decide +kernel
theorem d_Mo_head_32 : decode b_Mo_head 32 = .ok (.iconst 1, 1) := by decide +kernel
theorem d_Mo_head_33 : decode b_Mo_head 33 = .ok (.goto 4, 3) := by decide +kernel
theorem d_Mo_head_36 : decode b_Mo_head 36 = .ok (.iconst 0, 1) := by decide +kernel
theorem d_Mo_head_37 : decode b_Mo_head 37 = .ok (.isub, 1) := by decide +kernel
theorem d_Mo_head_38 : decode b_Mo_head 38 = .ok (.putfield 13, 3) := by decide +kernel
theorem d_Mo_head_41 : decode b_Mo_head 41 = .ok (.aload_n 0, 1) := by decide +kernel
theorem d_Mo_head_42 : decode b_Mo_head 42 = .ok (.dup, 1) := by decide +kernel
theorem d_Mo_head_43 : decode b_Mo_head 43 = .ok (.getfield 63, 3) := by decide +kernel
theorem d_Mo_head_46 : decode b_Mo_head 46 = .ok (.iconst 1, 1) := by decide +kernel
theorem d_Mo_head_47 : decode b_Mo_head 47 = .ok (.iadd, 1) := by decide +kernel
theorem d_Mo_head_48 : decode b_Mo_head 48 = .ok (.putfield 63, 3) := by decide +kernel
theorem d_Mo_head_51 : decode b_Mo_head 51 = .ok (.iconst 0, 1) := by decide +kernel
theorem d_Mo_head_52 : decode b_Mo_head 52 = .ok (.istore_n 1, 1) := by decide +kernel
theorem d_Mo_head_53 : decode b_Mo_head 53 = .ok (.iload_n 1, 1) := by decide +kernel
theorem d_Mo_head_54 : decode b_Mo_head 54 = .ok (.bipush 16, 2) := by decide +kernel
theorem d_Mo_head_56 : decode b_Mo_head 56 = .ok (.if_icmp .ge 49, 3) := by decide +kernel
theorem d_Mo_head_59 : decode b_Mo_head 59 = .ok (.aload_n 0, 1) := by decide +kernel
theorem d_Mo_head_60 : decode b_Mo_head 60 = .ok (.getfield 7, 3) := by decide +kernel
theorem d_Mo_head_63 : decode b_Mo_head 63 = .ok (.bipush 32, 2) := by decide +kernel
theorem d_Mo_head_65 : decode b_Mo_head 65 = .ok (.iload_n 1, 1) := by decide +kernel
theorem d_Mo_head_66 : decode b_Mo_head 66 = .ok (.iadd, 1) := by decide +kernel
theorem d_Mo_head_67 : decode b_Mo_head 67 = .ok (.iload_n 1, 1) := by decide +kernel
theorem d_Mo_head_68 : decode b_Mo_head 68 = .ok (.ifCond .ne 10, 3) := by decide +kernel
theorem d_Mo_head_71 : decode b_Mo_head 71 = .ok (.aload_n 0, 1) := by decide +kernel
theorem d_Mo_head_72 : decode b_Mo_head 72 = .ok (.getfield 70, 3) := by decide +kernel
theorem d_Mo_head_75 : decode b_Mo_head 75 = .ok (.goto 23, 3) := by decide +kernel
theorem d_Mo_head_78 : decode b_Mo_head 78 = .ok (.iload_n 1, 1) := by decide +kernel
theorem d_Mo_head_79 : decode b_Mo_head 79 = .ok (.aload_n 0, 1) := by decide +kernel
theorem d_Mo_head_80 : decode b_Mo_head 80 = .ok (.getfield 70, 3) := by decide +kernel
theorem d_Mo_head_83 : decode b_Mo_head 83 = .ok (.if_icmp .gt 14, 3) := by decide +kernel
theorem d_Mo_head_86 : decode b_Mo_head 86 = .ok (.aload_n 0, 1) := by decide +kernel
theorem d_Mo_head_87 : decode b_Mo_head 87 = .ok (.getfield 38, 3) := by decide +kernel
theorem d_Mo_head_90 : decode b_Mo_head 90 = .ok (.iload_n 1, 1) := by decide +kernel
theorem d_Mo_head_91 : decode b_Mo_head 91 = .ok (.iconst 1, 1) := by decide +kernel
theorem d_Mo_head_92 : decode b_Mo_head 92 = .ok (.isub, 1) := by decide +kernel
theorem d_Mo_head_93 : decode b_Mo_head 93 = .ok (.iaload, 1) := by decide +kernel
theorem d_Mo_head_94 : decode b_Mo_head 94 = .ok (.goto 4, 3) := by decide +kernel
theorem d_Mo_head_97 : decode b_Mo_head 97 = .ok (.iconst 0, 1) := by decide +kernel
theorem d_Mo_head_98 : decode b_Mo_head 98 = .ok (.iastore, 1) := by decide +kernel
theorem d_Mo_head_99 : decode b_Mo_head 99 = .ok (.iinc 1 1, 3) := by decide +kernel
theorem d_Mo_head_102 : decode b_Mo_head 102 = .ok (.goto (-49), 3) := by decide +kernel
theorem d_Mo_head_105 : decode b_Mo_head 105 = .ok (.return_, 1) := by decide +kernel
theorem d_Mo_commits_0 : decode b_Mo_commits 0 = .ok (.iconst 0, 1) := by decide +kernel
theorem d_Mo_commits_1 : decode b_Mo_commits 1 = .ok (.istore_n 1, 1) := by decide +kernel
theorem d_Mo_commits_2 : decode b_Mo_commits 2 = .ok (.iload_n 1, 1) := by decide +kernel
theorem d_Mo_commits_3 : decode b_Mo_commits 3 = .ok (.aload_n 0, 1) := by decide +kernel
theorem d_Mo_commits_4 : decode b_Mo_commits 4 = .ok (.getfield 70, 3) := by decide +kernel
theorem d_Mo_commits_7 : decode b_Mo_commits 7 = .ok (.if_icmp .ge 20, 3) := by decide +kernel
theorem d_Mo_commits_10 : decode b_Mo_commits 10 = .ok (.aload_n 0, 1) := by decide +kernel
theorem d_Mo_commits_11 : decode b_Mo_commits 11 = .ok (.iconst 3, 1) := by decide +kernel
theorem d_Mo_commits_12 : decode b_Mo_commits 12 = .ok (.iload_n 1, 1) := by decide +kernel
theorem d_Mo_commits_13 : decode b_Mo_commits 13 = .ok (.iadd, 1) := by decide +kernel
theorem d_Mo_commits_14 : decode b_Mo_commits 14 = .ok (.bipush 16, 2) := by decide +kernel
theorem d_Mo_commits_16 : decode b_Mo_commits 16 = .ok (.iload_n 1, 1) := by decide +kernel
theorem d_Mo_commits_17 : decode b_Mo_commits 17 = .ok (.imul, 1) := by decide +kernel
theorem d_Mo_commits_18 : decode b_Mo_commits 18 = .ok (.invokevirtual 66, 3) := by decide +kernel
theorem d_Mo_commits_21 : decode b_Mo_commits 21 = .ok (.iinc 1 1, 3) := by decide +kernel
theorem d_Mo_commits_24 : decode b_Mo_commits 24 = .ok (.goto (-22), 3) := by decide +kernel
theorem d_Mo_commits_27 : decode b_Mo_commits 27 = .ok (.aload_n 0, 1) := by decide +kernel
theorem d_Mo_commits_28 : decode b_Mo_commits 28 = .ok (.invokevirtual 73, 3) := by decide +kernel
theorem d_Mo_commits_31 : decode b_Mo_commits 31 = .ok (.iconst 0, 1) := by decide +kernel
theorem d_Mo_commits_32 : decode b_Mo_commits 32 = .ok (.istore_n 1, 1) := by decide +kernel
theorem d_Mo_commits_33 : decode b_Mo_commits 33 = .ok (.iload_n 1, 1) := by decide +kernel
theorem d_Mo_commits_34 : decode b_Mo_commits 34 = .ok (.aload_n 0, 1) := by decide +kernel
theorem d_Mo_commits_35 : decode b_Mo_commits 35 = .ok (.getfield 70, 3) := by decide +kernel
theorem d_Mo_commits_38 : decode b_Mo_commits 38 = .ok (.if_icmp .ge 23, 3) := by decide +kernel
theorem d_Mo_commits_41 : decode b_Mo_commits 41 = .ok (.aload_n 0, 1) := by decide +kernel
theorem d_Mo_commits_42 : decode b_Mo_commits 42 = .ok (.aload_n 0, 1) := by decide +kernel
theorem d_Mo_commits_43 : decode b_Mo_commits 43 = .ok (.getfield 38, 3) := by decide +kernel
theorem d_Mo_commits_46 : decode b_Mo_commits 46 = .ok (.iload_n 1, 1) := by decide +kernel
theorem d_Mo_commits_47 : decode b_Mo_commits 47 = .ok (.iaload, 1) := by decide +kernel
theorem d_Mo_commits_48 : decode b_Mo_commits 48 = .ok (.bipush 16, 2) := by decide +kernel
theorem d_Mo_commits_50 : decode b_Mo_commits 50 = .ok (.iload_n 1, 1) := by decide +kernel
theorem d_Mo_commits_51 : decode b_Mo_commits 51 = .ok (.imul, 1) := by decide +kernel
theorem d_Mo_commits_52 : decode b_Mo_commits 52 = .ok (.invokevirtual 66, 3) := by decide +kernel
theorem d_Mo_commits_55 : decode b_Mo_commits 55 = .ok (.iinc 1 1, 3) := by decide +kernel
theorem d_Mo_commits_58 : decode b_Mo_commits 58 = .ok (.goto (-25), 3) := by decide +kernel
theorem d_Mo_commits_61 : decode b_Mo_commits 61 = .ok (.aload_n 0, 1) := by decide +kernel
theorem d_Mo_commits_62 : decode b_Mo_commits 62 = .ok (.iconst 2, 1) := by decide +kernel
theorem d_Mo_commits_63 : decode b_Mo_commits 63 = .ok (.iconst (-1), 1) := by decide +kernel
theorem d_Mo_commits_64 : decode b_Mo_commits 64 = .ok (.invokevirtual 66, 3) := by decide +kernel
theorem d_Mo_commits_67 : decode b_Mo_commits 67 = .ok (.aload_n 0, 1) := by decide +kernel
theorem d_Mo_commits_68 : decode b_Mo_commits 68 = .ok (.getfield 56, 3) := by decide +kernel
theorem d_Mo_commits_71 : decode b_Mo_commits 71 = .ok (.ifCond .ne 7, 3) := by decide +kernel
theorem d_Mo_commits_74 : decode b_Mo_commits 74 = .ok (.iconst 1, 1) := by decide +kernel
theorem d_Mo_commits_75 : decode b_Mo_commits 75 = .ok (.goto 4, 3) := by decide +kernel
theorem d_Mo_commits_78 : decode b_Mo_commits 78 = .ok (.iconst 0, 1) := by decide +kernel
theorem d_Mo_commits_79 : decode b_Mo_commits 79 = .ok (.ireturn, 1) := by decide +kernel
theorem d_Mo_recover_0 : decode b_Mo_recover 0 = .ok (.aload_n 0, 1) := by decide +kernel
theorem d_Mo_recover_1 : decode b_Mo_recover 1 = .ok (.iconst 0, 1) := by decide +kernel
theorem d_Mo_recover_2 : decode b_Mo_recover 2 = .ok (.putfield 47, 3) := by decide +kernel
theorem d_Mo_recover_5 : decode b_Mo_recover 5 = .ok (.aload_n 0, 1) := by decide +kernel
theorem d_Mo_recover_6 : decode b_Mo_recover 6 = .ok (.iconst 0, 1) := by decide +kernel
theorem d_Mo_recover_7 : decode b_Mo_recover 7 = .ok (.putfield 56, 3) := by decide +kernel
theorem d_Mo_recover_10 : decode b_Mo_recover 10 = .ok (.aload_n 0, 1) := by decide +kernel
theorem d_Mo_recover_11 : decode b_Mo_recover 11 = .ok (.invokevirtual 44, 3) := by decide +kernel
theorem d_Mo_recover_14 : decode b_Mo_recover 14 = .ok (.aload_n 0, 1) := by decide +kernel
theorem d_Mo_recover_15 : decode b_Mo_recover 15 = .ok (.invokevirtual 76, 3) := by decide +kernel
theorem d_Mo_recover_18 : decode b_Mo_recover 18 = .ok (.istore_n 1, 1) := by decide +kernel
theorem d_Mo_recover_19 : decode b_Mo_recover 19 = .ok (.iload_n 1, 1) := by decide +kernel
theorem d_Mo_recover_20 : decode b_Mo_recover 20 = .ok (.ifCond .eq 96, 3) := by decide +kernel
theorem d_Mo_recover_23 : decode b_Mo_recover 23 = .ok (.aload_n 0, 1) := by decide +kernel
theorem d_Mo_recover_24 : decode b_Mo_recover 24 = .ok (.getfield 7, 3) := by decide +kernel
theorem d_Mo_recover_27 : decode b_Mo_recover 27 = .ok (.bipush 32, 2) := by decide +kernel
theorem d_Mo_recover_29 : decode b_Mo_recover 29 = .ok (.iaload, 1) := by decide +kernel
theorem d_Mo_recover_30 : decode b_Mo_recover 30 = .ok (.ifCond .eq 86, 3) := by decide +kernel
theorem d_Mo_recover_33 : decode b_Mo_recover 33 = .ok (.aload_n 0, 1) := by decide +kernel
theorem d_Mo_recover_34 : decode b_Mo_recover 34 = .ok (.getfield 7, 3) := by decide +kernel
theorem d_Mo_recover_37 : decode b_Mo_recover 37 = .ok (.bipush 32, 2) := by decide +kernel
theorem d_Mo_recover_39 : decode b_Mo_recover 39 = .ok (.iaload, 1) := by decide +kernel
theorem d_Mo_recover_40 : decode b_Mo_recover 40 = .ok (.istore_n 2, 1) := by decide +kernel
theorem d_Mo_recover_41 : decode b_Mo_recover 41 = .ok (.iconst 0, 1) := by decide +kernel
theorem d_Mo_recover_42 : decode b_Mo_recover 42 = .ok (.istore_n 3, 1) := by decide +kernel
theorem d_Mo_recover_43 : decode b_Mo_recover 43 = .ok (.iload_n 3, 1) := by decide +kernel
theorem d_Mo_recover_44 : decode b_Mo_recover 44 = .ok (.iload_n 2, 1) := by decide +kernel
theorem d_Mo_recover_45 : decode b_Mo_recover 45 = .ok (.if_icmp .ge 65, 3) := by decide +kernel
theorem d_Mo_recover_48 : decode b_Mo_recover 48 = .ok (.aload_n 0, 1) := by decide +kernel
theorem d_Mo_recover_49 : decode b_Mo_recover 49 = .ok (.getfield 7, 3) := by decide +kernel
theorem d_Mo_recover_52 : decode b_Mo_recover 52 = .ok (.bipush 33, 2) := by decide +kernel
theorem d_Mo_recover_54 : decode b_Mo_recover 54 = .ok (.iload_n 3, 1) := by decide +kernel
theorem d_Mo_recover_55 : decode b_Mo_recover 55 = .ok (.iadd, 1) := by decide +kernel
theorem d_Mo_recover_56 : decode b_Mo_recover 56 = .ok (.iaload, 1) := by decide +kernel
theorem d_Mo_recover_57 : decode b_Mo_recover 57 = .ok (.istore 4, 2) := by decide +kernel
theorem d_Mo_recover_59 : decode b_Mo_recover 59 = .ok (.iconst 0, 1) := by decide +kernel
theorem d_Mo_recover_60 : decode b_Mo_recover 60 = .ok (.istore 5, 2) := by decide +kernel
theorem d_Mo_recover_62 : decode b_Mo_recover 62 = .ok (.iload 5, 2) := by decide +kernel
theorem d_Mo_recover_64 : decode b_Mo_recover 64 = .ok (.bipush 16, 2) := by decide +kernel
theorem d_Mo_recover_66 : decode b_Mo_recover 66 = .ok (.if_icmp .ge 31, 3) := by decide +kernel
theorem d_Mo_recover_69 : decode b_Mo_recover 69 = .ok (.aload_n 0, 1) := by decide +kernel
theorem d_Mo_recover_70 : decode b_Mo_recover 70 = .ok (.getfield 41, 3) := by decide +kernel
theorem d_Mo_recover_73 : decode b_Mo_recover 73 = .ok (.iload 5, 2) := by decide +kernel
theorem d_Mo_recover_75 : decode b_Mo_recover 75 = .ok (.aload_n 0, 1) := by decide +kernel
theorem d_Mo_recover_76 : decode b_Mo_recover 76 = .ok (.getfield 7, 3) := by decide +kernel
theorem d_Mo_recover_79 : decode b_Mo_recover 79 = .ok (.bipush 48, 2) := by decide +kernel
theorem d_Mo_recover_81 : decode b_Mo_recover 81 = .ok (.bipush 16, 2) := by decide +kernel
theorem d_Mo_recover_83 : decode b_Mo_recover 83 = .ok (.iload_n 3, 1) := by decide +kernel
theorem d_Mo_recover_84 : decode b_Mo_recover 84 = .ok (.imul, 1) := by decide +kernel
theorem d_Mo_recover_85 : decode b_Mo_recover 85 = .ok (.iadd, 1) := by decide +kernel
theorem d_Mo_recover_86 : decode b_Mo_recover 86 = .ok (.iload 5, 2) := by decide +kernel
theorem d_Mo_recover_88 : decode b_Mo_recover 88 = .ok (.iadd, 1) := by decide +kernel
theorem d_Mo_recover_89 : decode b_Mo_recover 89 = .ok (.iaload, 1) := by decide +kernel
theorem d_Mo_recover_90 : decode b_Mo_recover 90 = .ok (.iastore, 1) := by decide +kernel
theorem d_Mo_recover_91 : decode b_Mo_recover 91 = .ok (.iinc 5 1, 3) := by decide +kernel
theorem d_Mo_recover_94 : decode b_Mo_recover 94 = .ok (.goto (-32), 3) := by decide +kernel
theorem d_Mo_recover_97 : decode b_Mo_recover 97 = .ok (.aload_n 0, 1) := by decide +kernel
theorem d_Mo_recover_98 : decode b_Mo_recover 98 = .ok (.iload 4, 2) := by decide +kernel
theorem d_Mo_recover_100 : decode b_Mo_recover 100 = .ok (.iconst 0, 1) := by decide +kernel
theorem d_Mo_recover_101 : decode b_Mo_recover 101 = .ok (.invokevirtual 66, 3) := by decide +kernel
theorem d_Mo_recover_104 : decode b_Mo_recover 104 = .ok (.iinc 3 1, 3) := by decide +kernel
theorem d_Mo_recover_107 : decode b_Mo_recover 107 = .ok (.goto (-64), 3) := by decide +kernel
theorem d_Mo_recover_110 : decode b_Mo_recover 110 = .ok (.aload_n 0, 1) := by decide +kernel
theorem d_Mo_recover_111 : decode b_Mo_recover 111 = .ok (.iconst 2, 1) := by decide +kernel
theorem d_Mo_recover_112 : decode b_Mo_recover 112 = .ok (.iconst (-1), 1) := by decide +kernel
theorem d_Mo_recover_113 : decode b_Mo_recover 113 = .ok (.invokevirtual 66, 3) := by decide +kernel
theorem d_Mo_recover_116 : decode b_Mo_recover 116 = .ok (.aload_n 0, 1) := by decide +kernel
theorem d_Mo_recover_117 : decode b_Mo_recover 117 = .ok (.iconst (-1), 1) := by decide +kernel
theorem d_Mo_recover_118 : decode b_Mo_recover 118 = .ok (.putfield 13, 3) := by decide +kernel
theorem d_Mo_recover_121 : decode b_Mo_recover 121 = .ok (.aload_n 0, 1) := by decide +kernel
theorem d_Mo_recover_122 : decode b_Mo_recover 122 = .ok (.getfield 56, 3) := by decide +kernel
theorem d_Mo_recover_125 : decode b_Mo_recover 125 = .ok (.ifCond .eq 8, 3) := by decide +kernel
theorem d_Mo_recover_128 : decode b_Mo_recover 128 = .ok (.bipush 7, 2) := by decide +kernel
theorem d_Mo_recover_130 : decode b_Mo_recover 130 = .ok (.goto 13, 3) := by decide +kernel
theorem d_Mo_recover_133 : decode b_Mo_recover 133 = .ok (.iload_n 1, 1) := by decide +kernel
theorem d_Mo_recover_134 : decode b_Mo_recover 134 = .ok (.ifCond .eq 7, 3) := by decide +kernel
theorem d_Mo_recover_137 : decode b_Mo_recover 137 = .ok (.iconst 0, 1) := by decide +kernel
theorem d_Mo_recover_138 : decode b_Mo_recover 138 = .ok (.goto 5, 3) := by decide +kernel
theorem d_Mo_recover_141 : decode b_Mo_recover 141 = .ok (.bipush 8, 2) := by decide +kernel
theorem d_Mo_recover_143 : decode b_Mo_recover 143 = .ok (.ireturn, 1) := by decide +kernel
theorem d_Mo_sizeOf_0 : decode b_Mo_sizeOf 0 = .ok (.aload_n 0, 1) := by decide +kernel
theorem d_Mo_sizeOf_1 : decode b_Mo_sizeOf 1 = .ok (.getfield 7, 3) := by decide +kernel
theorem d_Mo_sizeOf_4 : decode b_Mo_sizeOf 4 = .ok (.bipush 16, 2) := by decide +kernel
theorem d_Mo_sizeOf_6 : decode b_Mo_sizeOf 6 = .ok (.iconst 2, 1) := by decide +kernel
theorem d_Mo_sizeOf_7 : decode b_Mo_sizeOf 7 = .ok (.iload_n 1, 1) := by decide +kernel
theorem d_Mo_sizeOf_8 : decode b_Mo_sizeOf 8 = .ok (.imul, 1) := by decide +kernel
theorem d_Mo_sizeOf_9 : decode b_Mo_sizeOf 9 = .ok (.iadd, 1) := by decide +kernel
theorem d_Mo_sizeOf_10 : decode b_Mo_sizeOf 10 = .ok (.iaload, 1) := by decide +kernel
theorem d_Mo_sizeOf_11 : decode b_Mo_sizeOf 11 = .ok (.ireturn, 1) := by decide +kernel
