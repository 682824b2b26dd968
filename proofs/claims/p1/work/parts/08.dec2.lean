theorem d_Mo_sizeOf_0 : decode b_Mo_sizeOf 0 = .ok (.aload_n 0, 1) := by decide +kernel
theorem d_Mo_sizeOf_1 : decode b_Mo_sizeOf 1 = .ok (.getfield 7, 3) := by decide +kernel
theorem d_Mo_sizeOf_4 : decode b_Mo_sizeOf 4 = .ok (.bipush 16, 2) := by decide +kernel
theorem d_Mo_sizeOf_6 : decode b_Mo_sizeOf 6 = .ok (.iconst 2, 1) := by decide +kernel
theorem d_Mo_sizeOf_7 : decode b_Mo_sizeOf 7 = .ok (.iload_n 1, 1) := by decide +kernel
theorem d_Mo_sizeOf_8 : decode b_Mo_sizeOf 8 = .ok (.imul, 1) := by decide +kernel
theorem d_Mo_sizeOf_9 : decode b_Mo_sizeOf 9 = .ok (.iadd, 1) := by decide +kernel
theorem d_Mo_sizeOf_10 : decode b_Mo_sizeOf 10 = .ok (.iaload, 1) := by decide +kernel
theorem d_Mo_sizeOf_11 : decode b_Mo_sizeOf 11 = .ok (.ireturn, 1) := by decide +kernel
theorem d_Mo_lines_0 : decode b_Mo_lines 0 = .ok (.iconst 0, 1) := by decide +kernel
theorem d_Mo_lines_1 : decode b_Mo_lines 1 = .ok (.istore_n 1, 1) := by decide +kernel
theorem d_Mo_lines_2 : decode b_Mo_lines 2 = .ok (.iconst 1, 1) := by decide +kernel
theorem d_Mo_lines_3 : decode b_Mo_lines 3 = .ok (.istore_n 2, 1) := by decide +kernel
theorem d_Mo_lines_4 : decode b_Mo_lines 4 = .ok (.iload_n 2, 1) := by decide +kernel
theorem d_Mo_lines_5 : decode b_Mo_lines 5 = .ok (.bipush 100, 2) := by decide +kernel
theorem d_Mo_lines_7 : decode b_Mo_lines 7 = .ok (.if_icmp .ge 27, 3) := by decide +kernel
theorem d_Mo_lines_10 : decode b_Mo_lines 10 = .ok (.iload_n 1, 1) := by decide +kernel
theorem d_Mo_lines_11 : decode b_Mo_lines 11 = .ok (.aload_n 0, 1) := by decide +kernel
theorem d_Mo_lines_12 : decode b_Mo_lines 12 = .ok (.getfield 17, 3) := by decide +kernel
theorem d_Mo_lines_15 : decode b_Mo_lines 15 = .ok (.iload_n 2, 1) := by decide +kernel
theorem d_Mo_lines_16 : decode b_Mo_lines 16 = .ok (.iaload, 1) := by decide +kernel
theorem d_Mo_lines_17 : decode b_Mo_lines 17 = .ok (.iconst (-1), 1) := by decide +kernel
theorem d_Mo_lines_18 : decode b_Mo_lines 18 = .ok (.if_icmp .eq 7, 3) := by decide +kernel
theorem d_Mo_lines_21 : decode b_Mo_lines 21 = .ok (.iconst 1, 1) := by decide +kernel
theorem d_Mo_lines_22 : decode b_Mo_lines 22 = .ok (.goto 4, 3) := by decide +kernel
theorem d_Mo_lines_25 : decode b_Mo_lines 25 = .ok (.iconst 0, 1) := by decide +kernel
theorem d_Mo_lines_26 : decode b_Mo_lines 26 = .ok (.iadd, 1) := by decide +kernel
theorem d_Mo_lines_27 : decode b_Mo_lines 27 = .ok (.istore_n 1, 1) := by decide +kernel
theorem d_Mo_lines_28 : decode b_Mo_lines 28 = .ok (.iinc 2 1, 3) := by decide +kernel
theorem d_Mo_lines_31 : decode b_Mo_lines 31 = .ok (.goto (-27), 3) := by decide +kernel
theorem d_Mo_lines_34 : decode b_Mo_lines 34 = .ok (.iload_n 1, 1) := by decide +kernel
theorem d_Mo_lines_35 : decode b_Mo_lines 35 = .ok (.ireturn, 1) := by decide +kernel
theorem d_Mo_nextLine_0 : decode b_Mo_nextLine 0 = .ok (.aload_n 0, 1) := by decide +kernel
theorem d_Mo_nextLine_1 : decode b_Mo_nextLine 1 = .ok (.getfield 50, 3) := by decide +kernel
theorem d_Mo_nextLine_4 : decode b_Mo_nextLine 4 = .ok (.iconst 1, 1) := by decide +kernel
theorem d_Mo_nextLine_5 : decode b_Mo_nextLine 5 = .ok (.if_icmp .ge 7, 3) := by decide +kernel
theorem d_Mo_nextLine_8 : decode b_Mo_nextLine 8 = .ok (.iconst 1, 1) := by decide +kernel
theorem d_Mo_nextLine_9 : decode b_Mo_nextLine 9 = .ok (.goto 7, 3) := by decide +kernel
theorem d_Mo_nextLine_12 : decode b_Mo_nextLine 12 = .ok (.aload_n 0, 1) := by decide +kernel
theorem d_Mo_nextLine_13 : decode b_Mo_nextLine 13 = .ok (.getfield 50, 3) := by decide +kernel
theorem d_Mo_nextLine_16 : decode b_Mo_nextLine 16 = .ok (.istore_n 1, 1) := by decide +kernel
theorem d_Mo_nextLine_17 : decode b_Mo_nextLine 17 = .ok (.iload_n 1, 1) := by decide +kernel
theorem d_Mo_nextLine_18 : decode b_Mo_nextLine 18 = .ok (.bipush 100, 2) := by decide +kernel
theorem d_Mo_nextLine_20 : decode b_Mo_nextLine 20 = .ok (.if_icmp .ge 21, 3) := by decide +kernel
theorem d_Mo_nextLine_23 : decode b_Mo_nextLine 23 = .ok (.aload_n 0, 1) := by decide +kernel
theorem d_Mo_nextLine_24 : decode b_Mo_nextLine 24 = .ok (.getfield 17, 3) := by decide +kernel
theorem d_Mo_nextLine_27 : decode b_Mo_nextLine 27 = .ok (.iload_n 1, 1) := by decide +kernel
theorem d_Mo_nextLine_28 : decode b_Mo_nextLine 28 = .ok (.iaload, 1) := by decide +kernel
theorem d_Mo_nextLine_29 : decode b_Mo_nextLine 29 = .ok (.iconst (-1), 1) := by decide +kernel
theorem d_Mo_nextLine_30 : decode b_Mo_nextLine 30 = .ok (.if_icmp .eq 5, 3) := by decide +kernel
theorem d_Mo_nextLine_33 : decode b_Mo_nextLine 33 = .ok (.iload_n 1, 1) := by decide +kernel
theorem d_Mo_nextLine_34 : decode b_Mo_nextLine 34 = .ok (.ireturn, 1) := by decide +kernel
theorem d_Mo_nextLine_35 : decode b_Mo_nextLine 35 = .ok (.iinc 1 1, 3) := by decide +kernel
theorem d_Mo_nextLine_38 : decode b_Mo_nextLine 38 = .ok (.goto (-21), 3) := by decide +kernel
theorem d_Mo_nextLine_41 : decode b_Mo_nextLine 41 = .ok (.iconst (-1), 1) := by decide +kernel
theorem d_Mo_nextLine_42 : decode b_Mo_nextLine 42 = .ok (.ireturn, 1) := by decide +kernel
theorem d_Mo_step_0 : decode b_Mo_step 0 = .ok (.aload_n 0, 1) := by decide +kernel
theorem d_Mo_step_1 : decode b_Mo_step 1 = .ok (.iconst 0, 1) := by decide +kernel
theorem d_Mo_step_2 : decode b_Mo_step 2 = .ok (.putfield 47, 3) := by decide +kernel
theorem d_Mo_step_5 : decode b_Mo_step 5 = .ok (.aload_n 0, 1) := by decide +kernel
theorem d_Mo_step_6 : decode b_Mo_step 6 = .ok (.getfield 56, 3) := by decide +kernel
theorem d_Mo_step_9 : decode b_Mo_step 9 = .ok (.ifCond .eq 6, 3) := by decide +kernel
theorem d_Mo_step_12 : decode b_Mo_step 12 = .ok (.bipush 7, 2) := by decide +kernel
theorem d_Mo_step_14 : decode b_Mo_step 14 = .ok (.ireturn, 1) := by decide +kernel
theorem d_Mo_step_15 : decode b_Mo_step 15 = .ok (.iload_n 1, 1) := by decide +kernel
theorem d_Mo_step_16 : decode b_Mo_step 16 = .ok (.iconst 1, 1) := by decide +kernel
theorem d_Mo_step_17 : decode b_Mo_step 17 = .ok (.if_icmp .ge 7, 3) := by decide +kernel
theorem d_Mo_step_20 : decode b_Mo_step 20 = .ok (.iconst 1, 1) := by decide +kernel
theorem d_Mo_step_21 : decode b_Mo_step 21 = .ok (.goto 15, 3) := by decide +kernel
theorem d_Mo_step_24 : decode b_Mo_step 24 = .ok (.iload_n 1, 1) := by decide +kernel
theorem d_Mo_step_25 : decode b_Mo_step 25 = .ok (.bipush 50, 2) := by decide +kernel
theorem d_Mo_step_27 : decode b_Mo_step 27 = .ok (.if_icmp .le 8, 3) := by decide +kernel
theorem d_Mo_step_30 : decode b_Mo_step 30 = .ok (.bipush 50, 2) := by decide +kernel
theorem d_Mo_step_32 : decode b_Mo_step 32 = .ok (.goto 4, 3) := by decide +kernel
theorem d_Mo_step_35 : decode b_Mo_step 35 = .ok (.iload_n 1, 1) := by decide +kernel
theorem d_Mo_step_36 : decode b_Mo_step 36 = .ok (.istore_n 2, 1) := by decide +kernel
theorem d_Mo_step_37 : decode b_Mo_step 37 = .ok (.iconst 0, 1) := by decide +kernel
theorem d_Mo_step_38 : decode b_Mo_step 38 = .ok (.istore_n 3, 1) := by decide +kernel
theorem d_Mo_step_39 : decode b_Mo_step 39 = .ok (.iload_n 3, 1) := by decide +kernel
theorem d_Mo_step_40 : decode b_Mo_step 40 = .ok (.iload_n 2, 1) := by decide +kernel
theorem d_Mo_step_41 : decode b_Mo_step 41 = .ok (.if_icmp .ge 72, 3) := by decide +kernel
theorem d_Mo_step_44 : decode b_Mo_step 44 = .ok (.aload_n 0, 1) := by decide +kernel
theorem d_Mo_step_45 : decode b_Mo_step 45 = .ok (.invokevirtual 178, 3) := by decide +kernel
theorem d_Mo_step_48 : decode b_Mo_step 48 = .ok (.istore 4, 2) := by decide +kernel
theorem d_Mo_step_50 : decode b_Mo_step 50 = .ok (.iload 4, 2) := by decide +kernel
theorem d_Mo_step_52 : decode b_Mo_step 52 = .ok (.iconst (-1), 1) := by decide +kernel
theorem d_Mo_step_53 : decode b_Mo_step 53 = .ok (.if_icmp .ne 10, 3) := by decide +kernel
theorem d_Mo_step_56 : decode b_Mo_step 56 = .ok (.aload_n 0, 1) := by decide +kernel
theorem d_Mo_step_57 : decode b_Mo_step 57 = .ok (.iconst 0, 1) := by decide +kernel
theorem d_Mo_step_58 : decode b_Mo_step 58 = .ok (.putfield 50, 3) := by decide +kernel
theorem d_Mo_step_61 : decode b_Mo_step 61 = .ok (.iconst 0, 1) := by decide +kernel
theorem d_Mo_step_62 : decode b_Mo_step 62 = .ok (.ireturn, 1) := by decide +kernel
theorem d_Mo_step_63 : decode b_Mo_step 63 = .ok (.aload_n 0, 1) := by decide +kernel
theorem d_Mo_step_64 : decode b_Mo_step 64 = .ok (.iconst 1, 1) := by decide +kernel
theorem d_Mo_step_65 : decode b_Mo_step 65 = .ok (.bipush 12, 2) := by decide +kernel
theorem d_Mo_step_67 : decode b_Mo_step 67 = .ok (.iload 4, 2) := by decide +kernel
theorem d_Mo_step_69 : decode b_Mo_step 69 = .ok (.imul, 1) := by decide +kernel
theorem d_Mo_step_70 : decode b_Mo_step 70 = .ok (.aload_n 0, 1) := by decide +kernel
theorem d_Mo_step_71 : decode b_Mo_step 71 = .ok (.getfield 17, 3) := by decide +kernel
theorem d_Mo_step_74 : decode b_Mo_step 74 = .ok (.iload 4, 2) := by decide +kernel
theorem d_Mo_step_76 : decode b_Mo_step 76 = .ok (.iaload, 1) := by decide +kernel
theorem d_Mo_step_77 : decode b_Mo_step 77 = .ok (.invokevirtual 181, 3) := by decide +kernel
theorem d_Mo_step_80 : decode b_Mo_step 80 = .ok (.aload_n 0, 1) := by decide +kernel
theorem d_Mo_step_81 : decode b_Mo_step 81 = .ok (.iconst 1, 1) := by decide +kernel
theorem d_Mo_step_82 : decode b_Mo_step 82 = .ok (.iload 4, 2) := by decide +kernel
theorem d_Mo_step_84 : decode b_Mo_step 84 = .ok (.invokevirtual 185, 3) := by decide +kernel
theorem d_Mo_step_87 : decode b_Mo_step 87 = .ok (.istore 5, 2) := by decide +kernel
theorem d_Mo_step_89 : decode b_Mo_step 89 = .ok (.iload 5, 2) := by decide +kernel
theorem d_Mo_step_91 : decode b_Mo_step 91 = .ok (.ifCond .eq 16, 3) := by decide +kernel
theorem d_Mo_step_94 : decode b_Mo_step 94 = .ok (.iload 5, 2) := by decide +kernel
theorem d_Mo_step_96 : decode b_Mo_step 96 = .ok (.iconst (-1), 1) := by decide +kernel
theorem d_Mo_step_97 : decode b_Mo_step 97 = .ok (.if_icmp .ne 7, 3) := by decide +kernel
theorem d_Mo_step_100 : decode b_Mo_step 100 = .ok (.iconst 0, 1) := by decide +kernel
theorem d_Mo_step_101 : decode b_Mo_step 101 = .ok (.goto 5, 3) := by decide +kernel
theorem d_Mo_step_104 : decode b_Mo_step 104 = .ok (.iload 5, 2) := by decide +kernel
theorem d_Mo_step_106 : decode b_Mo_step 106 = .ok (.ireturn, 1) := by decide +kernel
theorem d_Mo_step_107 : decode b_Mo_step 107 = .ok (.iinc 3 1, 3) := by decide +kernel
theorem d_Mo_step_110 : decode b_Mo_step 110 = .ok (.goto (-71), 3) := by decide +kernel
theorem d_Mo_step_113 : decode b_Mo_step 113 = .ok (.bipush 6, 2) := by decide +kernel
theorem d_Mo_step_115 : decode b_Mo_step 115 = .ok (.ireturn, 1) := by decide +kernel
theorem d_Mo_feed_0 : decode b_Mo_feed 0 = .ok (.aload_n 0, 1) := by decide +kernel
theorem d_Mo_feed_1 : decode b_Mo_feed 1 = .ok (.iconst 0, 1) := by decide +kernel
theorem d_Mo_feed_2 : decode b_Mo_feed 2 = .ok (.putfield 47, 3) := by decide +kernel
theorem d_Mo_feed_5 : decode b_Mo_feed 5 = .ok (.aload_n 0, 1) := by decide +kernel
theorem d_Mo_feed_6 : decode b_Mo_feed 6 = .ok (.getfield 56, 3) := by decide +kernel
theorem d_Mo_feed_9 : decode b_Mo_feed 9 = .ok (.ifCond .eq 6, 3) := by decide +kernel
theorem d_Mo_feed_12 : decode b_Mo_feed 12 = .ok (.bipush 7, 2) := by decide +kernel
theorem d_Mo_feed_14 : decode b_Mo_feed 14 = .ok (.ireturn, 1) := by decide +kernel
theorem d_Mo_feed_15 : decode b_Mo_feed 15 = .ok (.iload_n 1, 1) := by decide +kernel
theorem d_Mo_feed_16 : decode b_Mo_feed 16 = .ok (.bipush 10, 2) := by decide +kernel
theorem d_Mo_feed_18 : decode b_Mo_feed 18 = .ok (.if_icmp .eq 34, 3) := by decide +kernel
theorem d_Mo_feed_21 : decode b_Mo_feed 21 = .ok (.aload_n 0, 1) := by decide +kernel
theorem d_Mo_feed_22 : decode b_Mo_feed 22 = .ok (.getfield 53, 3) := by decide +kernel
theorem d_Mo_feed_25 : decode b_Mo_feed 25 = .ok (.bipush 15, 2) := by decide +kernel
theorem d_Mo_feed_27 : decode b_Mo_feed 27 = .ok (.if_icmp .ge 23, 3) := by decide +kernel
theorem d_Mo_feed_30 : decode b_Mo_feed 30 = .ok (.aload_n 0, 1) := by decide +kernel
theorem d_Mo_feed_31 : decode b_Mo_feed 31 = .ok (.getfield 29, 3) := by decide +kernel
theorem d_Mo_feed_34 : decode b_Mo_feed 34 = .ok (.aload_n 0, 1) := by decide +kernel
theorem d_Mo_feed_35 : decode b_Mo_feed 35 = .ok (.getfield 53, 3) := by decide +kernel
theorem d_Mo_feed_38 : decode b_Mo_feed 38 = .ok (.iload_n 1, 1) := by decide +kernel
theorem d_Mo_feed_39 : decode b_Mo_feed 39 = .ok (.iastore, 1) := by decide +kernel
theorem d_Mo_feed_40 : decode b_Mo_feed 40 = .ok (.aload_n 0, 1) := by decide +kernel
theorem d_Mo_feed_41 : decode b_Mo_feed 41 = .ok (.dup, 1) := by decide +kernel
theorem d_Mo_feed_42 : decode b_Mo_feed 42 = .ok (.getfield 53, 3) := by decide +kernel
theorem d_Mo_feed_45 : decode b_Mo_feed 45 = .ok (.iconst 1, 1) := by decide +kernel
theorem d_Mo_feed_46 : decode b_Mo_feed 46 = .ok (.iadd, 1) := by decide +kernel
theorem d_Mo_feed_47 : decode b_Mo_feed 47 = .ok (.putfield 53, 3) := by decide +kernel
theorem d_Mo_feed_50 : decode b_Mo_feed 50 = .ok (.iconst 0, 1) := by decide +kernel
theorem d_Mo_feed_51 : decode b_Mo_feed 51 = .ok (.ireturn, 1) := by decide +kernel
theorem d_Mo_feed_52 : decode b_Mo_feed 52 = .ok (.aload_n 0, 1) := by decide +kernel
theorem d_Mo_feed_53 : decode b_Mo_feed 53 = .ok (.getfield 53, 3) := by decide +kernel
theorem d_Mo_feed_56 : decode b_Mo_feed 56 = .ok (.ifCond .ne 7, 3) := by decide +kernel
theorem d_Mo_feed_59 : decode b_Mo_feed 59 = .ok (.iconst 0, 1) := by decide +kernel
theorem d_Mo_feed_60 : decode b_Mo_feed 60 = .ok (.goto 26, 3) := by decide +kernel
theorem d_Mo_feed_63 : decode b_Mo_feed 63 = .ok (.aload_n 0, 1) := by decide +kernel
theorem d_Mo_feed_64 : decode b_Mo_feed 64 = .ok (.getfield 29, 3) := by decide +kernel
theorem d_Mo_feed_67 : decode b_Mo_feed 67 = .ok (.iconst 0, 1) := by decide +kernel
theorem d_Mo_feed_68 : decode b_Mo_feed 68 = .ok (.iaload, 1) := by decide +kernel
theorem d_Mo_feed_69 : decode b_Mo_feed 69 = .ok (.invokestatic 134, 3) := by decide +kernel
theorem d_Mo_feed_72 : decode b_Mo_feed 72 = .ok (.ifCond .eq 10, 3) := by decide +kernel
theorem d_Mo_feed_75 : decode b_Mo_feed 75 = .ok (.aload_n 0, 1) := by decide +kernel
theorem d_Mo_feed_76 : decode b_Mo_feed 76 = .ok (.invokevirtual 198, 3) := by decide +kernel
theorem d_Mo_feed_79 : decode b_Mo_feed 79 = .ok (.goto 7, 3) := by decide +kernel
theorem d_Mo_feed_82 : decode b_Mo_feed 82 = .ok (.aload_n 0, 1) := by decide +kernel
theorem d_Mo_feed_83 : decode b_Mo_feed 83 = .ok (.invokevirtual 201, 3) := by decide +kernel
theorem d_Mo_feed_86 : decode b_Mo_feed 86 = .ok (.istore_n 2, 1) := by decide +kernel
theorem d_Mo_feed_87 : decode b_Mo_feed 87 = .ok (.aload_n 0, 1) := by decide +kernel
theorem d_Mo_feed_88 : decode b_Mo_feed 88 = .ok (.iconst 0, 1) := by decide +kernel
theorem d_Mo_feed_89 : decode b_Mo_feed 89 = .ok (.putfield 53, 3) := by decide +kernel
theorem d_Mo_feed_92 : decode b_Mo_feed 92 = .ok (.iload_n 2, 1) := by decide +kernel
theorem d_Mo_feed_93 : decode b_Mo_feed 93 = .ok (.ireturn, 1) := by decide +kernel
theorem d_Mo_arm_0 : decode b_Mo_arm 0 = .ok (.aload_n 0, 1) := by decide +kernel
theorem d_Mo_arm_1 : decode b_Mo_arm 1 = .ok (.iload_n 1, 1) := by decide +kernel
theorem d_Mo_arm_2 : decode b_Mo_arm 2 = .ok (.ifCond .lt 10, 3) := by decide +kernel
theorem d_Mo_arm_5 : decode b_Mo_arm 5 = .ok (.iload_n 1, 1) := by decide +kernel
theorem d_Mo_arm_6 : decode b_Mo_arm 6 = .ok (.sipush 1000, 3) := by decide +kernel
theorem d_Mo_arm_9 : decode b_Mo_arm 9 = .ok (.if_icmp .le 7, 3) := by decide +kernel
theorem d_Mo_arm_12 : decode b_Mo_arm 12 = .ok (.iconst 1, 1) := by decide +kernel
theorem d_Mo_arm_13 : decode b_Mo_arm 13 = .ok (.goto 4, 3) := by decide +kernel
theorem d_Mo_arm_16 : decode b_Mo_arm 16 = .ok (.iconst 0, 1) := by decide +kernel
theorem d_Mo_arm_17 : decode b_Mo_arm 17 = .ok (.putfield 47, 3) := by decide +kernel
theorem d_Mo_arm_20 : decode b_Mo_arm 20 = .ok (.aload_n 0, 1) := by decide +kernel
theorem d_Mo_arm_21 : decode b_Mo_arm 21 = .ok (.getfield 47, 3) := by decide +kernel
theorem d_Mo_arm_24 : decode b_Mo_arm 24 = .ok (.ifCond .le 5, 3) := by decide +kernel
theorem d_Mo_arm_27 : decode b_Mo_arm 27 = .ok (.iconst 0, 1) := by decide +kernel
theorem d_Mo_arm_28 : decode b_Mo_arm 28 = .ok (.ireturn, 1) := by decide +kernel
theorem d_Mo_arm_29 : decode b_Mo_arm 29 = .ok (.aload_n 0, 1) := by decide +kernel
theorem d_Mo_arm_30 : decode b_Mo_arm 30 = .ok (.iload_n 1, 1) := by decide +kernel
theorem d_Mo_arm_31 : decode b_Mo_arm 31 = .ok (.putfield 13, 3) := by decide +kernel
theorem d_Mo_arm_34 : decode b_Mo_arm 34 = .ok (.iconst 1, 1) := by decide +kernel
theorem d_Mo_arm_35 : decode b_Mo_arm 35 = .ok (.ireturn, 1) := by decide +kernel
theorem d_Mo_out_0 : decode b_Mo_out 0 = .ok (.aload_n 0, 1) := by decide +kernel
theorem d_Mo_out_1 : decode b_Mo_out 1 = .ok (.iload_n 1, 1) := by decide +kernel
theorem d_Mo_out_2 : decode b_Mo_out 2 = .ok (.ifCond .lt 17, 3) := by decide +kernel
theorem d_Mo_out_5 : decode b_Mo_out 5 = .ok (.iload_n 1, 1) := by decide +kernel
theorem d_Mo_out_6 : decode b_Mo_out 6 = .ok (.aload_n 0, 1) := by decide +kernel
theorem d_Mo_out_7 : decode b_Mo_out 7 = .ok (.getfield 109, 3) := by decide +kernel
theorem d_Mo_out_10 : decode b_Mo_out 10 = .ok (.if_icmp .ge 9, 3) := by decide +kernel
theorem d_Mo_out_13 : decode b_Mo_out 13 = .ok (.iload_n 1, 1) := by decide +kernel
theorem d_Mo_out_14 : decode b_Mo_out 14 = .ok (.bipush 60, 2) := by decide +kernel
theorem d_Mo_out_16 : decode b_Mo_out 16 = .ok (.if_icmp .lt 7, 3) := by decide +kernel
theorem d_Mo_out_19 : decode b_Mo_out 19 = .ok (.iconst 1, 1) := by decide +kernel
theorem d_Mo_out_20 : decode b_Mo_out 20 = .ok (.goto 4, 3) := by decide +kernel
theorem d_Mo_out_23 : decode b_Mo_out 23 = .ok (.iconst 0, 1) := by decide +kernel
theorem d_Mo_out_24 : decode b_Mo_out 24 = .ok (.putfield 47, 3) := by decide +kernel
theorem d_Mo_out_27 : decode b_Mo_out 27 = .ok (.aload_n 0, 1) := by decide +kernel
theorem d_Mo_out_28 : decode b_Mo_out 28 = .ok (.getfield 47, 3) := by decide +kernel
theorem d_Mo_out_31 : decode b_Mo_out 31 = .ok (.ifCond .le 7, 3) := by decide +kernel
theorem d_Mo_out_34 : decode b_Mo_out 34 = .ok (.iconst 0, 1) := by decide +kernel
theorem d_Mo_out_35 : decode b_Mo_out 35 = .ok (.goto 9, 3) := by decide +kernel
theorem d_Mo_out_38 : decode b_Mo_out 38 = .ok (.aload_n 0, 1) := by decide +kernel
theorem d_Mo_out_39 : decode b_Mo_out 39 = .ok (.getfield 26, 3) := by decide +kernel
theorem d_Mo_out_42 : decode b_Mo_out 42 = .ok (.iload_n 1, 1) := by decide +kernel
theorem d_Mo_out_43 : decode b_Mo_out 43 = .ok (.iaload, 1) := by decide +kernel
theorem d_Mo_out_44 : decode b_Mo_out 44 = .ok (.ireturn, 1) := by decide +kernel
theorem d_Mo_outs_0 : decode b_Mo_outs 0 = .ok (.aload_n 0, 1) := by decide +kernel
theorem d_Mo_outs_1 : decode b_Mo_outs 1 = .ok (.iconst 0, 1) := by decide +kernel
theorem d_Mo_outs_2 : decode b_Mo_outs 2 = .ok (.putfield 47, 3) := by decide +kernel
theorem d_Mo_outs_5 : decode b_Mo_outs 5 = .ok (.aload_n 0, 1) := by decide +kernel
theorem d_Mo_outs_6 : decode b_Mo_outs 6 = .ok (.getfield 109, 3) := by decide +kernel
theorem d_Mo_outs_9 : decode b_Mo_outs 9 = .ok (.ireturn, 1) := by decide +kernel
theorem d_Mo_disk_0 : decode b_Mo_disk 0 = .ok (.aload_n 0, 1) := by decide +kernel
theorem d_Mo_disk_1 : decode b_Mo_disk 1 = .ok (.iload_n 1, 1) := by decide +kernel
theorem d_Mo_disk_2 : decode b_Mo_disk 2 = .ok (.ifCond .lt 10, 3) := by decide +kernel
theorem d_Mo_disk_5 : decode b_Mo_disk 5 = .ok (.iload_n 1, 1) := by decide +kernel
theorem d_Mo_disk_6 : decode b_Mo_disk 6 = .ok (.sipush 511, 3) := by decide +kernel
theorem d_Mo_disk_9 : decode b_Mo_disk 9 = .ok (.if_icmp .le 7, 3) := by decide +kernel
theorem d_Mo_disk_12 : decode b_Mo_disk 12 = .ok (.iconst 1, 1) := by decide +kernel
theorem d_Mo_disk_13 : decode b_Mo_disk 13 = .ok (.goto 4, 3) := by decide +kernel
theorem d_Mo_disk_16 : decode b_Mo_disk 16 = .ok (.iconst 0, 1) := by decide +kernel
theorem d_Mo_disk_17 : decode b_Mo_disk 17 = .ok (.putfield 47, 3) := by decide +kernel
theorem d_Mo_disk_20 : decode b_Mo_disk 20 = .ok (.aload_n 0, 1) := by decide +kernel
theorem d_Mo_disk_21 : decode b_Mo_disk 21 = .ok (.getfield 47, 3) := by decide +kernel
theorem d_Mo_disk_24 : decode b_Mo_disk 24 = .ok (.ifCond .le 7, 3) := by decide +kernel
theorem d_Mo_disk_27 : decode b_Mo_disk 27 = .ok (.iconst 0, 1) := by decide +kernel
theorem d_Mo_disk_28 : decode b_Mo_disk 28 = .ok (.goto 9, 3) := by decide +kernel
theorem d_Mo_disk_31 : decode b_Mo_disk 31 = .ok (.aload_n 0, 1) := by decide +kernel
theorem d_Mo_disk_32 : decode b_Mo_disk 32 = .ok (.getfield 7, 3) := by decide +kernel
theorem d_Mo_disk_35 : decode b_Mo_disk 35 = .ok (.iload_n 1, 1) := by decide +kernel
theorem d_Mo_disk_36 : decode b_Mo_disk 36 = .ok (.iaload, 1) := by decide +kernel
theorem d_Mo_disk_37 : decode b_Mo_disk 37 = .ok (.ireturn, 1) := by decide +kernel
theorem d_Mo_files_0 : decode b_Mo_files 0 = .ok (.aload_n 0, 1) := by decide +kernel
theorem d_Mo_files_1 : decode b_Mo_files 1 = .ok (.iconst 0, 1) := by decide +kernel
theorem d_Mo_files_2 : decode b_Mo_files 2 = .ok (.putfield 47, 3) := by decide +kernel
theorem d_Mo_files_5 : decode b_Mo_files 5 = .ok (.aload_n 0, 1) := by decide +kernel
theorem d_Mo_files_6 : decode b_Mo_files 6 = .ok (.getfield 56, 3) := by decide +kernel
theorem d_Mo_files_9 : decode b_Mo_files 9 = .ok (.ifCond .eq 6, 3) := by decide +kernel
theorem d_Mo_files_12 : decode b_Mo_files 12 = .ok (.bipush 7, 2) := by decide +kernel
theorem d_Mo_files_14 : decode b_Mo_files 14 = .ok (.ireturn, 1) := by decide +kernel
theorem d_Mo_files_15 : decode b_Mo_files 15 = .ok (.iconst 0, 1) := by decide +kernel
theorem d_Mo_files_16 : decode b_Mo_files 16 = .ok (.istore_n 1, 1) := by decide +kernel
theorem d_Mo_files_17 : decode b_Mo_files 17 = .ok (.iconst 0, 1) := by decide +kernel
theorem d_Mo_files_18 : decode b_Mo_files 18 = .ok (.istore_n 2, 1) := by decide +kernel
theorem d_Mo_files_19 : decode b_Mo_files 19 = .ok (.iload_n 2, 1) := by decide +kernel
theorem d_Mo_files_20 : decode b_Mo_files 20 = .ok (.bipush 8, 2) := by decide +kernel
theorem d_Mo_files_22 : decode b_Mo_files 22 = .ok (.if_icmp .ge 25, 3) := by decide +kernel
theorem d_Mo_files_25 : decode b_Mo_files 25 = .ok (.iload_n 1, 1) := by decide +kernel
theorem d_Mo_files_26 : decode b_Mo_files 26 = .ok (.aload_n 0, 1) := by decide +kernel
theorem d_Mo_files_27 : decode b_Mo_files 27 = .ok (.iload_n 2, 1) := by decide +kernel
theorem d_Mo_files_28 : decode b_Mo_files 28 = .ok (.invokevirtual 84, 3) := by decide +kernel
theorem d_Mo_files_31 : decode b_Mo_files 31 = .ok (.ifCond .eq 7, 3) := by decide +kernel
theorem d_Mo_files_34 : decode b_Mo_files 34 = .ok (.iconst 1, 1) := by decide +kernel
theorem d_Mo_files_35 : decode b_Mo_files 35 = .ok (.goto 4, 3) := by decide +kernel
theorem d_Mo_files_38 : decode b_Mo_files 38 = .ok (.iconst 0, 1) := by decide +kernel
theorem d_Mo_files_39 : decode b_Mo_files 39 = .ok (.iadd, 1) := by decide +kernel
theorem d_Mo_files_40 : decode b_Mo_files 40 = .ok (.istore_n 1, 1) := by decide +kernel
theorem d_Mo_files_41 : decode b_Mo_files 41 = .ok (.iinc 2 1, 3) := by decide +kernel
theorem d_Mo_files_44 : decode b_Mo_files 44 = .ok (.goto (-25), 3) := by decide +kernel
theorem d_Mo_files_47 : decode b_Mo_files 47 = .ok (.aload_n 0, 1) := by decide +kernel
theorem d_Mo_files_48 : decode b_Mo_files 48 = .ok (.invokevirtual 76, 3) := by decide +kernel
theorem d_Mo_files_51 : decode b_Mo_files 51 = .ok (.ifCond .eq 7, 3) := by decide +kernel
theorem d_Mo_files_54 : decode b_Mo_files 54 = .ok (.iload_n 1, 1) := by decide +kernel
theorem d_Mo_files_55 : decode b_Mo_files 55 = .ok (.goto 5, 3) := by decide +kernel
theorem d_Mo_files_58 : decode b_Mo_files 58 = .ok (.bipush 8, 2) := by decide +kernel
theorem d_Mo_files_60 : decode b_Mo_files 60 = .ok (.ireturn, 1) := by decide +kernel
theorem d_Mo_about_0 : decode b_Mo_about 0 = .ok (.aload_n 0, 1) := by decide +kernel
theorem d_Mo_about_1 : decode b_Mo_about 1 = .ok (.iconst 0, 1) := by decide +kernel
theorem d_Mo_about_2 : decode b_Mo_about 2 = .ok (.putfield 47, 3) := by decide +kernel
theorem d_Mo_about_5 : decode b_Mo_about 5 = .ok (.iload_n 1, 1) := by decide +kernel
theorem d_Mo_about_6 : decode b_Mo_about 6 = .ok (.ifCond .lt 9, 3) := by decide +kernel
theorem d_Mo_about_9 : decode b_Mo_about 9 = .ok (.iload_n 1, 1) := by decide +kernel
theorem d_Mo_about_10 : decode b_Mo_about 10 = .ok (.bipush 11, 2) := by decide +kernel
theorem d_Mo_about_12 : decode b_Mo_about 12 = .ok (.if_icmp .le 5, 3) := by decide +kernel
theorem d_Mo_about_15 : decode b_Mo_about 15 = .ok (.iconst (-1), 1) := by decide +kernel
theorem d_Mo_about_16 : decode b_Mo_about 16 = .ok (.ireturn, 1) := by decide +kernel
theorem d_Mo_about_17 : decode b_Mo_about 17 = .ok (.iload_n 1, 1) := by decide +kernel
theorem d_Mo_about_18 : decode b_Mo_about 18 = .ok (.bipush 11, 2) := by decide +kernel
theorem d_Mo_about_20 : decode b_Mo_about 20 = .ok (.if_icmp .ne 8, 3) := by decide +kernel
theorem d_Mo_about_23 : decode b_Mo_about 23 = .ok (.aload_n 0, 1) := by decide +kernel
theorem d_Mo_about_24 : decode b_Mo_about 24 = .ok (.getfield 63, 3) := by decide +kernel
theorem d_Mo_about_27 : decode b_Mo_about 27 = .ok (.ireturn, 1) := by decide +kernel
theorem d_Mo_about_28 : decode b_Mo_about 28 = .ok (.aload_n 0, 1) := by decide +kernel
theorem d_Mo_about_29 : decode b_Mo_about 29 = .ok (.getfield 56, 3) := by decide +kernel
theorem d_Mo_about_32 : decode b_Mo_about 32 = .ok (.ifCond .eq 6, 3) := by decide +kernel
theorem d_Mo_about_35 : decode b_Mo_about 35 = .ok (.bipush 7, 2) := by decide +kernel
theorem d_Mo_about_37 : decode b_Mo_about 37 = .ok (.ireturn, 1) := by decide +kernel
theorem d_Mo_about_38 : decode b_Mo_about 38 = .ok (.aload_n 0, 1) := by decide +kernel
theorem d_Mo_about_39 : decode b_Mo_about 39 = .ok (.invokevirtual 178, 3) := by decide +kernel
theorem d_Mo_about_42 : decode b_Mo_about 42 = .ok (.istore_n 2, 1) := by decide +kernel
theorem d_Mo_about_43 : decode b_Mo_about 43 = .ok (.iload_n 1, 1) := by decide +kernel
theorem d_Mo_about_44 : decode b_Mo_about 44 = .ok (.ifCond .ne 10, 3) := by decide +kernel
theorem d_Mo_about_47 : decode b_Mo_about 47 = .ok (.aload_n 0, 1) := by decide +kernel
theorem d_Mo_about_48 : decode b_Mo_about 48 = .ok (.invokevirtual 94, 3) := by decide +kernel
theorem d_Mo_about_51 : decode b_Mo_about 51 = .ok (.goto 43, 3) := by decide +kernel
theorem d_Mo_about_54 : decode b_Mo_about 54 = .ok (.iload_n 1, 1) := by decide +kernel
theorem d_Mo_about_55 : decode b_Mo_about 55 = .ok (.bipush 9, 2) := by decide +kernel
theorem d_Mo_about_57 : decode b_Mo_about 57 = .ok (.if_icmp .ge 14, 3) := by decide +kernel
theorem d_Mo_about_60 : decode b_Mo_about 60 = .ok (.aload_n 0, 1) := by decide +kernel
theorem d_Mo_about_61 : decode b_Mo_about 61 = .ok (.getfield 23, 3) := by decide +kernel
theorem d_Mo_about_64 : decode b_Mo_about 64 = .ok (.iload_n 1, 1) := by decide +kernel
theorem d_Mo_about_65 : decode b_Mo_about 65 = .ok (.iconst 1, 1) := by decide +kernel
theorem d_Mo_about_66 : decode b_Mo_about 66 = .ok (.isub, 1) := by decide +kernel
theorem d_Mo_about_67 : decode b_Mo_about 67 = .ok (.iaload, 1) := by decide +kernel
theorem d_Mo_about_68 : decode b_Mo_about 68 = .ok (.goto 26, 3) := by decide +kernel
theorem d_Mo_about_71 : decode b_Mo_about 71 = .ok (.iload_n 1, 1) := by decide +kernel
theorem d_Mo_about_72 : decode b_Mo_about 72 = .ok (.bipush 10, 2) := by decide +kernel
theorem d_Mo_about_74 : decode b_Mo_about 74 = .ok (.if_icmp .ne 10, 3) := by decide +kernel
theorem d_Mo_about_77 : decode b_Mo_about 77 = .ok (.aload_n 0, 1) := by decide +kernel
theorem d_Mo_about_78 : decode b_Mo_about 78 = .ok (.getfield 53, 3) := by decide +kernel
theorem d_Mo_about_81 : decode b_Mo_about 81 = .ok (.goto 13, 3) := by decide +kernel
theorem d_Mo_about_84 : decode b_Mo_about 84 = .ok (.iload_n 2, 1) := by decide +kernel
theorem d_Mo_about_85 : decode b_Mo_about 85 = .ok (.iconst (-1), 1) := by decide +kernel
theorem d_Mo_about_86 : decode b_Mo_about 86 = .ok (.if_icmp .ne 7, 3) := by decide +kernel
theorem d_Mo_about_89 : decode b_Mo_about 89 = .ok (.iconst 0, 1) := by decide +kernel
theorem d_Mo_about_90 : decode b_Mo_about 90 = .ok (.goto 4, 3) := by decide +kernel
theorem d_Mo_about_93 : decode b_Mo_about 93 = .ok (.iload_n 2, 1) := by decide +kernel
theorem d_Mo_about_94 : decode b_Mo_about 94 = .ok (.ireturn, 1) := by decide +kernel
theorem d_Mo_thrown_0 : decode b_Mo_thrown 0 = .ok (.aload_n 0, 1) := by decide +kernel
theorem d_Mo_thrown_1 : decode b_Mo_thrown 1 = .ok (.getfield 47, 3) := by decide +kernel
theorem d_Mo_thrown_4 : decode b_Mo_thrown 4 = .ok (.ireturn, 1) := by decide +kernel
theorem d_La_arm_0 : decode b_La_arm 0 = .ok (.aload_n 2, 1) := by decide +kernel
theorem d_La_arm_1 : decode b_La_arm 1 = .ok (.iconst 0, 1) := by decide +kernel
theorem d_La_arm_2 : decode b_La_arm 2 = .ok (.aload_n 0, 1) := by decide +kernel
theorem d_La_arm_3 : decode b_La_arm 3 = .ok (.iload_n 1, 1) := by decide +kernel
theorem d_La_arm_4 : decode b_La_arm 4 = .ok (.invokevirtual 7, 3) := by decide +kernel
theorem d_La_arm_7 : decode b_La_arm 7 = .ok (.ifCond .eq 7, 3) := by decide +kernel
theorem d_La_arm_10 : decode b_La_arm 10 = .ok (.lconst 1, 1) := by decide +kernel
theorem d_La_arm_11 : decode b_La_arm 11 = .ok (.goto 4, 3) := by decide +kernel
theorem d_La_arm_14 : decode b_La_arm 14 = .ok (.lconst 0, 1) := by decide +kernel
theorem d_La_arm_15 : decode b_La_arm 15 = .ok (.lastore, 1) := by decide +kernel
theorem d_La_arm_16 : decode b_La_arm 16 = .ok (.goto 6, 3) := by decide +kernel
theorem d_La_arm_19 : decode b_La_arm 19 = .ok (.astore_n 3, 1) := by decide +kernel
theorem d_La_arm_20 : decode b_La_arm 20 = .ok (.iconst 1, 1) := by decide +kernel
theorem d_La_arm_21 : decode b_La_arm 21 = .ok (.ireturn, 1) := by decide +kernel
theorem d_La_arm_22 : decode b_La_arm 22 = .ok (.iconst 0, 1) := by decide +kernel
theorem d_La_arm_23 : decode b_La_arm 23 = .ok (.ireturn, 1) := by decide +kernel
theorem d_La_out_0 : decode b_La_out 0 = .ok (.aload_n 2, 1) := by decide +kernel
theorem d_La_out_1 : decode b_La_out 1 = .ok (.iconst 0, 1) := by decide +kernel
theorem d_La_out_2 : decode b_La_out 2 = .ok (.aload_n 0, 1) := by decide +kernel
theorem d_La_out_3 : decode b_La_out 3 = .ok (.iload_n 1, 1) := by decide +kernel
theorem d_La_out_4 : decode b_La_out 4 = .ok (.invokevirtual 15, 3) := by decide +kernel
theorem d_La_out_7 : decode b_La_out 7 = .ok (.i2l, 1) := by decide +kernel
theorem d_La_out_8 : decode b_La_out 8 = .ok (.lastore, 1) := by decide +kernel
theorem d_La_out_9 : decode b_La_out 9 = .ok (.goto 6, 3) := by decide +kernel
theorem d_La_out_12 : decode b_La_out 12 = .ok (.astore_n 3, 1) := by decide +kernel
theorem d_La_out_13 : decode b_La_out 13 = .ok (.iconst 1, 1) := by decide +kernel
theorem d_La_out_14 : decode b_La_out 14 = .ok (.ireturn, 1) := by decide +kernel
theorem d_La_out_15 : decode b_La_out 15 = .ok (.iconst 0, 1) := by decide +kernel
theorem d_La_out_16 : decode b_La_out 16 = .ok (.ireturn, 1) := by decide +kernel
theorem d_La_disk_0 : decode b_La_disk 0 = .ok (.aload_n 2, 1) := by decide +kernel
theorem d_La_disk_1 : decode b_La_disk 1 = .ok (.iconst 0, 1) := by decide +kernel
theorem d_La_disk_2 : decode b_La_disk 2 = .ok (.aload_n 0, 1) := by decide +kernel
theorem d_La_disk_3 : decode b_La_disk 3 = .ok (.iload_n 1, 1) := by decide +kernel
theorem d_La_disk_4 : decode b_La_disk 4 = .ok (.invokevirtual 21, 3) := by decide +kernel
theorem d_La_disk_7 : decode b_La_disk 7 = .ok (.i2l, 1) := by decide +kernel
theorem d_La_disk_8 : decode b_La_disk 8 = .ok (.lastore, 1) := by decide +kernel
theorem d_La_disk_9 : decode b_La_disk 9 = .ok (.goto 6, 3) := by decide +kernel
theorem d_La_disk_12 : decode b_La_disk 12 = .ok (.astore_n 3, 1) := by decide +kernel
theorem d_La_disk_13 : decode b_La_disk 13 = .ok (.iconst 1, 1) := by decide +kernel
theorem d_La_disk_14 : decode b_La_disk 14 = .ok (.ireturn, 1) := by decide +kernel
theorem d_La_disk_15 : decode b_La_disk 15 = .ok (.iconst 0, 1) := by decide +kernel
theorem d_La_disk_16 : decode b_La_disk 16 = .ok (.ireturn, 1) := by decide +kernel
theorem d_La_law_0 : decode b_La_law 0 = .ok (.new 8, 3) := by decide +kernel
theorem d_La_law_3 : decode b_La_law 3 = .ok (.dup, 1) := by decide +kernel
theorem d_La_law_4 : decode b_La_law 4 = .ok (.invokespecial 24, 3) := by decide +kernel
theorem d_La_law_7 : decode b_La_law 7 = .ok (.astore_n 1, 1) := by decide +kernel
theorem d_La_law_8 : decode b_La_law 8 = .ok (.new 25, 3) := by decide +kernel
theorem d_La_law_11 : decode b_La_law 11 = .ok (.dup, 1) := by decide +kernel
theorem d_La_law_12 : decode b_La_law 12 = .ok (.invokespecial 27, 3) := by decide +kernel
theorem d_La_law_15 : decode b_La_law 15 = .ok (.astore_n 2, 1) := by decide +kernel
theorem d_La_law_16 : decode b_La_law 16 = .ok (.iconst 1, 1) := by decide +kernel
theorem d_La_law_17 : decode b_La_law 17 = .ok (.newarray .long, 2) := by decide +kernel
theorem d_La_law_19 : decode b_La_law 19 = .ok (.astore_n 3, 1) := by decide +kernel
theorem d_La_law_20 : decode b_La_law 20 = .ok (.iconst 0, 1) := by decide +kernel
theorem d_La_law_21 : decode b_La_law 21 = .ok (.istore 4, 2) := by decide +kernel
theorem d_La_law_23 : decode b_La_law 23 = .ok (.iload 4, 2) := by decide +kernel
theorem d_La_law_25 : decode b_La_law 25 = .ok (.aload_n 0, 1) := by decide +kernel
theorem d_La_law_26 : decode b_La_law 26 = .ok (.arraylength, 1) := by decide +kernel
theorem d_La_law_27 : decode b_La_law 27 = .ok (.iconst 2, 1) := by decide +kernel
theorem d_La_law_28 : decode b_La_law 28 = .ok (.isub, 1) := by decide +kernel
theorem d_La_law_29 : decode b_La_law 29 = .ok (.if_icmp .gt 371, 3) := by decide +kernel
theorem d_La_law_32 : decode b_La_law 32 = .ok (.aload_n 0, 1) := by decide +kernel
theorem d_La_law_33 : decode b_La_law 33 = .ok (.iload 4, 2) := by decide +kernel
theorem d_La_law_35 : decode b_La_law 35 = .ok (.iaload, 1) := by decide +kernel
theorem d_La_law_36 : decode b_La_law 36 = .ok (.bipush 15, 2) := by decide +kernel
theorem d_La_law_38 : decode b_La_law 38 = .ok (.iand, 1) := by decide +kernel
theorem d_La_law_39 : decode b_La_law 39 = .ok (.tableswitch 355 0 9 #[53, 66, 79, 104, 129, 192, 248, 261, 317, 330], 53) := by decide +kernel
theorem d_La_law_92 : decode b_La_law 92 = .ok (.aload_n 1, 1) := by decide +kernel
theorem d_La_law_93 : decode b_La_law 93 = .ok (.invokevirtual 28, 3) := by decide +kernel
theorem d_La_law_96 : decode b_La_law 96 = .ok (.aload_n 2, 1) := by decide +kernel
theorem d_La_law_97 : decode b_La_law 97 = .ok (.invokevirtual 32, 3) := by decide +kernel
theorem d_La_law_100 : decode b_La_law 100 = .ok (.if_icmp .eq 294, 3) := by decide +kernel
theorem d_La_law_103 : decode b_La_law 103 = .ok (.iconst 0, 1) := by decide +kernel
theorem d_La_law_104 : decode b_La_law 104 = .ok (.ireturn, 1) := by decide +kernel
theorem d_La_law_105 : decode b_La_law 105 = .ok (.aload_n 1, 1) := by decide +kernel
theorem d_La_law_106 : decode b_La_law 106 = .ok (.invokevirtual 33, 3) := by decide +kernel
theorem d_La_law_109 : decode b_La_law 109 = .ok (.aload_n 2, 1) := by decide +kernel
theorem d_La_law_110 : decode b_La_law 110 = .ok (.invokevirtual 36, 3) := by decide +kernel
theorem d_La_law_113 : decode b_La_law 113 = .ok (.if_icmp .eq 281, 3) := by decide +kernel
theorem d_La_law_116 : decode b_La_law 116 = .ok (.iconst 0, 1) := by decide +kernel
theorem d_La_law_117 : decode b_La_law 117 = .ok (.ireturn, 1) := by decide +kernel
theorem d_La_law_118 : decode b_La_law 118 = .ok (.aload_n 1, 1) := by decide +kernel
theorem d_La_law_119 : decode b_La_law 119 = .ok (.aload_n 0, 1) := by decide +kernel
theorem d_La_law_120 : decode b_La_law 120 = .ok (.iload 4, 2) := by decide +kernel
theorem d_La_law_122 : decode b_La_law 122 = .ok (.iconst 1, 1) := by decide +kernel
theorem d_La_law_123 : decode b_La_law 123 = .ok (.iadd, 1) := by decide +kernel
theorem d_La_law_124 : decode b_La_law 124 = .ok (.iaload, 1) := by decide +kernel
theorem d_La_law_125 : decode b_La_law 125 = .ok (.invokevirtual 37, 3) := by decide +kernel
theorem d_La_law_128 : decode b_La_law 128 = .ok (.aload_n 2, 1) := by decide +kernel
theorem d_La_law_129 : decode b_La_law 129 = .ok (.aload_n 0, 1) := by decide +kernel
theorem d_La_law_130 : decode b_La_law 130 = .ok (.iload 4, 2) := by decide +kernel
theorem d_La_law_132 : decode b_La_law 132 = .ok (.iconst 1, 1) := by decide +kernel
theorem d_La_law_133 : decode b_La_law 133 = .ok (.iadd, 1) := by decide +kernel
theorem d_La_law_134 : decode b_La_law 134 = .ok (.iaload, 1) := by decide +kernel
theorem d_La_law_135 : decode b_La_law 135 = .ok (.invokevirtual 40, 3) := by decide +kernel
theorem d_La_law_138 : decode b_La_law 138 = .ok (.if_icmp .eq 256, 3) := by decide +kernel
theorem d_La_law_141 : decode b_La_law 141 = .ok (.iconst 0, 1) := by decide +kernel
theorem d_La_law_142 : decode b_La_law 142 = .ok (.ireturn, 1) := by decide +kernel
theorem d_La_law_143 : decode b_La_law 143 = .ok (.aload_n 1, 1) := by decide +kernel
theorem d_La_law_144 : decode b_La_law 144 = .ok (.aload_n 0, 1) := by decide +kernel
theorem d_La_law_145 : decode b_La_law 145 = .ok (.iload 4, 2) := by decide +kernel
theorem d_La_law_147 : decode b_La_law 147 = .ok (.iconst 1, 1) := by decide +kernel
theorem d_La_law_148 : decode b_La_law 148 = .ok (.iadd, 1) := by decide +kernel
theorem d_La_law_149 : decode b_La_law 149 = .ok (.iaload, 1) := by decide +kernel
theorem d_La_law_150 : decode b_La_law 150 = .ok (.invokevirtual 41, 3) := by decide +kernel
theorem d_La_law_153 : decode b_La_law 153 = .ok (.aload_n 2, 1) := by decide +kernel
theorem d_La_law_154 : decode b_La_law 154 = .ok (.aload_n 0, 1) := by decide +kernel
theorem d_La_law_155 : decode b_La_law 155 = .ok (.iload 4, 2) := by decide +kernel
theorem d_La_law_157 : decode b_La_law 157 = .ok (.iconst 1, 1) := by decide +kernel
theorem d_La_law_158 : decode b_La_law 158 = .ok (.iadd, 1) := by decide +kernel
theorem d_La_law_159 : decode b_La_law 159 = .ok (.iaload, 1) := by decide +kernel
theorem d_La_law_160 : decode b_La_law 160 = .ok (.invokevirtual 44, 3) := by decide +kernel
theorem d_La_law_163 : decode b_La_law 163 = .ok (.if_icmp .eq 231, 3) := by decide +kernel
theorem d_La_law_166 : decode b_La_law 166 = .ok (.iconst 0, 1) := by decide +kernel
theorem d_La_law_167 : decode b_La_law 167 = .ok (.ireturn, 1) := by decide +kernel
theorem d_La_law_168 : decode b_La_law 168 = .ok (.aload_n 1, 1) := by decide +kernel
theorem d_La_law_169 : decode b_La_law 169 = .ok (.aload_n 0, 1) := by decide +kernel
theorem d_La_law_170 : decode b_La_law 170 = .ok (.iload 4, 2) := by decide +kernel
theorem d_La_law_172 : decode b_La_law 172 = .ok (.iconst 1, 1) := by decide +kernel
theorem d_La_law_173 : decode b_La_law 173 = .ok (.iadd, 1) := by decide +kernel
theorem d_La_law_174 : decode b_La_law 174 = .ok (.iaload, 1) := by decide +kernel
theorem d_La_law_175 : decode b_La_law 175 = .ok (.aload_n 3, 1) := by decide +kernel
theorem d_La_law_176 : decode b_La_law 176 = .ok (.invokestatic 45, 3) := by decide +kernel
theorem d_La_law_179 : decode b_La_law 179 = .ok (.istore 5, 2) := by decide +kernel
theorem d_La_law_181 : decode b_La_law 181 = .ok (.aload_n 2, 1) := by decide +kernel
theorem d_La_law_182 : decode b_La_law 182 = .ok (.aload_n 0, 1) := by decide +kernel
theorem d_La_law_183 : decode b_La_law 183 = .ok (.iload 4, 2) := by decide +kernel
theorem d_La_law_185 : decode b_La_law 185 = .ok (.iconst 1, 1) := by decide +kernel
theorem d_La_law_186 : decode b_La_law 186 = .ok (.iadd, 1) := by decide +kernel
theorem d_La_law_187 : decode b_La_law 187 = .ok (.iaload, 1) := by decide +kernel
theorem d_La_law_188 : decode b_La_law 188 = .ok (.invokevirtual 50, 3) := by decide +kernel
theorem d_La_law_191 : decode b_La_law 191 = .ok (.istore 6, 2) := by decide +kernel
theorem d_La_law_193 : decode b_La_law 193 = .ok (.aload_n 2, 1) := by decide +kernel
theorem d_La_law_194 : decode b_La_law 194 = .ok (.invokevirtual 51, 3) := by decide +kernel
theorem d_La_law_197 : decode b_La_law 197 = .ok (.iload 5, 2) := by decide +kernel
theorem d_La_law_199 : decode b_La_law 199 = .ok (.if_icmp .eq 5, 3) := by decide +kernel
theorem d_La_law_202 : decode b_La_law 202 = .ok (.iconst 0, 1) := by decide +kernel
theorem d_La_law_203 : decode b_La_law 203 = .ok (.ireturn, 1) := by decide +kernel
theorem d_La_law_204 : decode b_La_law 204 = .ok (.iload 5, 2) := by decide +kernel
theorem d_La_law_206 : decode b_La_law 206 = .ok (.ifCond .ne 22, 3) := by decide +kernel
theorem d_La_law_209 : decode b_La_law 209 = .ok (.aload_n 3, 1) := by decide +kernel
theorem d_La_law_210 : decode b_La_law 210 = .ok (.iconst 0, 1) := by decide +kernel
theorem d_La_law_211 : decode b_La_law 211 = .ok (.laload, 1) := by decide +kernel
theorem d_La_law_212 : decode b_La_law 212 = .ok (.iload 6, 2) := by decide +kernel
theorem d_La_law_214 : decode b_La_law 214 = .ok (.ifCond .eq 7, 3) := by decide +kernel
theorem d_La_law_217 : decode b_La_law 217 = .ok (.lconst 1, 1) := by decide +kernel
theorem d_La_law_218 : decode b_La_law 218 = .ok (.goto 4, 3) := by decide +kernel
theorem d_La_law_221 : decode b_La_law 221 = .ok (.lconst 0, 1) := by decide +kernel
theorem d_La_law_222 : decode b_La_law 222 = .ok (.lcmp, 1) := by decide +kernel
theorem d_La_law_223 : decode b_La_law 223 = .ok (.ifCond .eq 5, 3) := by decide +kernel
theorem d_La_law_226 : decode b_La_law 226 = .ok (.iconst 0, 1) := by decide +kernel
theorem d_La_law_227 : decode b_La_law 227 = .ok (.ireturn, 1) := by decide +kernel
theorem d_La_law_228 : decode b_La_law 228 = .ok (.goto 166, 3) := by decide +kernel
theorem d_La_law_231 : decode b_La_law 231 = .ok (.aload_n 1, 1) := by decide +kernel
theorem d_La_law_232 : decode b_La_law 232 = .ok (.aload_n 0, 1) := by decide +kernel
theorem d_La_law_233 : decode b_La_law 233 = .ok (.iload 4, 2) := by decide +kernel
theorem d_La_law_235 : decode b_La_law 235 = .ok (.iconst 1, 1) := by decide +kernel
theorem d_La_law_236 : decode b_La_law 236 = .ok (.iadd, 1) := by decide +kernel
theorem d_La_law_237 : decode b_La_law 237 = .ok (.iaload, 1) := by decide +kernel
theorem d_La_law_238 : decode b_La_law 238 = .ok (.aload_n 3, 1) := by decide +kernel
theorem d_La_law_239 : decode b_La_law 239 = .ok (.invokestatic 54, 3) := by decide +kernel
theorem d_La_law_242 : decode b_La_law 242 = .ok (.istore 5, 2) := by decide +kernel
theorem d_La_law_244 : decode b_La_law 244 = .ok (.aload_n 2, 1) := by decide +kernel
theorem d_La_law_245 : decode b_La_law 245 = .ok (.aload_n 0, 1) := by decide +kernel
theorem d_La_law_246 : decode b_La_law 246 = .ok (.iload 4, 2) := by decide +kernel
theorem d_La_law_248 : decode b_La_law 248 = .ok (.iconst 1, 1) := by decide +kernel
theorem d_La_law_249 : decode b_La_law 249 = .ok (.iadd, 1) := by decide +kernel
theorem d_La_law_250 : decode b_La_law 250 = .ok (.iaload, 1) := by decide +kernel
theorem d_La_law_251 : decode b_La_law 251 = .ok (.invokevirtual 56, 3) := by decide +kernel
theorem d_La_law_254 : decode b_La_law 254 = .ok (.istore 6, 2) := by decide +kernel
theorem d_La_law_256 : decode b_La_law 256 = .ok (.aload_n 2, 1) := by decide +kernel
theorem d_La_law_257 : decode b_La_law 257 = .ok (.invokevirtual 51, 3) := by decide +kernel
theorem d_La_law_260 : decode b_La_law 260 = .ok (.iload 5, 2) := by decide +kernel
theorem d_La_law_262 : decode b_La_law 262 = .ok (.if_icmp .eq 5, 3) := by decide +kernel
theorem d_La_law_265 : decode b_La_law 265 = .ok (.iconst 0, 1) := by decide +kernel
theorem d_La_law_266 : decode b_La_law 266 = .ok (.ireturn, 1) := by decide +kernel
theorem d_La_law_267 : decode b_La_law 267 = .ok (.iload 5, 2) := by decide +kernel
theorem d_La_law_269 : decode b_La_law 269 = .ok (.ifCond .ne 15, 3) := by decide +kernel
theorem d_La_law_272 : decode b_La_law 272 = .ok (.aload_n 3, 1) := by decide +kernel
theorem d_La_law_273 : decode b_La_law 273 = .ok (.iconst 0, 1) := by decide +kernel
theorem d_La_law_274 : decode b_La_law 274 = .ok (.laload, 1) := by decide +kernel
theorem d_La_law_275 : decode b_La_law 275 = .ok (.iload 6, 2) := by decide +kernel
theorem d_La_law_277 : decode b_La_law 277 = .ok (.i2l, 1) := by decide +kernel
theorem d_La_law_278 : decode b_La_law 278 = .ok (.lcmp, 1) := by decide +kernel
theorem d_La_law_279 : decode b_La_law 279 = .ok (.ifCond .eq 5, 3) := by decide +kernel
theorem d_La_law_282 : decode b_La_law 282 = .ok (.iconst 0, 1) := by decide +kernel
theorem d_La_law_283 : decode b_La_law 283 = .ok (.ireturn, 1) := by decide +kernel
theorem d_La_law_284 : decode b_La_law 284 = .ok (.goto 110, 3) := by decide +kernel
theorem d_La_law_287 : decode b_La_law 287 = .ok (.aload_n 1, 1) := by decide +kernel
theorem d_La_law_288 : decode b_La_law 288 = .ok (.invokevirtual 57, 3) := by decide +kernel
theorem d_La_law_291 : decode b_La_law 291 = .ok (.aload_n 2, 1) := by decide +kernel
theorem d_La_law_292 : decode b_La_law 292 = .ok (.invokevirtual 60, 3) := by decide +kernel
theorem d_La_law_295 : decode b_La_law 295 = .ok (.if_icmp .eq 99, 3) := by decide +kernel
theorem d_La_law_298 : decode b_La_law 298 = .ok (.iconst 0, 1) := by decide +kernel
theorem d_La_law_299 : decode b_La_law 299 = .ok (.ireturn, 1) := by decide +kernel
theorem d_La_law_300 : decode b_La_law 300 = .ok (.aload_n 1, 1) := by decide +kernel
theorem d_La_law_301 : decode b_La_law 301 = .ok (.aload_n 0, 1) := by decide +kernel
theorem d_La_law_302 : decode b_La_law 302 = .ok (.iload 4, 2) := by decide +kernel
theorem d_La_law_304 : decode b_La_law 304 = .ok (.iconst 1, 1) := by decide +kernel
theorem d_La_law_305 : decode b_La_law 305 = .ok (.iadd, 1) := by decide +kernel
theorem d_La_law_306 : decode b_La_law 306 = .ok (.iaload, 1) := by decide +kernel
theorem d_La_law_307 : decode b_La_law 307 = .ok (.aload_n 3, 1) := by decide +kernel
theorem d_La_law_308 : decode b_La_law 308 = .ok (.invokestatic 61, 3) := by decide +kernel
theorem d_La_law_311 : decode b_La_law 311 = .ok (.istore 5, 2) := by decide +kernel
theorem d_La_law_313 : decode b_La_law 313 = .ok (.aload_n 2, 1) := by decide +kernel
theorem d_La_law_314 : decode b_La_law 314 = .ok (.aload_n 0, 1) := by decide +kernel
theorem d_La_law_315 : decode b_La_law 315 = .ok (.iload 4, 2) := by decide +kernel
theorem d_La_law_317 : decode b_La_law 317 = .ok (.iconst 1, 1) := by decide +kernel
theorem d_La_law_318 : decode b_La_law 318 = .ok (.iadd, 1) := by decide +kernel
theorem d_La_law_319 : decode b_La_law 319 = .ok (.iaload, 1) := by decide +kernel
theorem d_La_law_320 : decode b_La_law 320 = .ok (.invokevirtual 63, 3) := by decide +kernel
theorem d_La_law_323 : decode b_La_law 323 = .ok (.istore 6, 2) := by decide +kernel
theorem d_La_law_325 : decode b_La_law 325 = .ok (.aload_n 2, 1) := by decide +kernel
theorem d_La_law_326 : decode b_La_law 326 = .ok (.invokevirtual 51, 3) := by decide +kernel
theorem d_La_law_329 : decode b_La_law 329 = .ok (.iload 5, 2) := by decide +kernel
theorem d_La_law_331 : decode b_La_law 331 = .ok (.if_icmp .eq 5, 3) := by decide +kernel
theorem d_La_law_334 : decode b_La_law 334 = .ok (.iconst 0, 1) := by decide +kernel
theorem d_La_law_335 : decode b_La_law 335 = .ok (.ireturn, 1) := by decide +kernel
theorem d_La_law_336 : decode b_La_law 336 = .ok (.iload 5, 2) := by decide +kernel
theorem d_La_law_338 : decode b_La_law 338 = .ok (.ifCond .ne 15, 3) := by decide +kernel
theorem d_La_law_341 : decode b_La_law 341 = .ok (.aload_n 3, 1) := by decide +kernel
theorem d_La_law_342 : decode b_La_law 342 = .ok (.iconst 0, 1) := by decide +kernel
theorem d_La_law_343 : decode b_La_law 343 = .ok (.laload, 1) := by decide +kernel
theorem d_La_law_344 : decode b_La_law 344 = .ok (.iload 6, 2) := by decide +kernel
theorem d_La_law_346 : decode b_La_law 346 = .ok (.i2l, 1) := by decide +kernel
theorem d_La_law_347 : decode b_La_law 347 = .ok (.lcmp, 1) := by decide +kernel
theorem d_La_law_348 : decode b_La_law 348 = .ok (.ifCond .eq 5, 3) := by decide +kernel
theorem d_La_law_351 : decode b_La_law 351 = .ok (.iconst 0, 1) := by decide +kernel
theorem d_La_law_352 : decode b_La_law 352 = .ok (.ireturn, 1) := by decide +kernel
theorem d_La_law_353 : decode b_La_law 353 = .ok (.goto 41, 3) := by decide +kernel
theorem d_La_law_356 : decode b_La_law 356 = .ok (.aload_n 1, 1) := by decide +kernel
theorem d_La_law_357 : decode b_La_law 357 = .ok (.invokevirtual 64, 3) := by decide +kernel
theorem d_La_law_360 : decode b_La_law 360 = .ok (.aload_n 2, 1) := by decide +kernel
theorem d_La_law_361 : decode b_La_law 361 = .ok (.invokevirtual 67, 3) := by decide +kernel
theorem d_La_law_364 : decode b_La_law 364 = .ok (.if_icmp .eq 30, 3) := by decide +kernel
theorem d_La_law_367 : decode b_La_law 367 = .ok (.iconst 0, 1) := by decide +kernel
theorem d_La_law_368 : decode b_La_law 368 = .ok (.ireturn, 1) := by decide +kernel
theorem d_La_law_369 : decode b_La_law 369 = .ok (.aload_n 1, 1) := by decide +kernel
theorem d_La_law_370 : decode b_La_law 370 = .ok (.aload_n 0, 1) := by decide +kernel
theorem d_La_law_371 : decode b_La_law 371 = .ok (.iload 4, 2) := by decide +kernel
theorem d_La_law_373 : decode b_La_law 373 = .ok (.iconst 1, 1) := by decide +kernel
theorem d_La_law_374 : decode b_La_law 374 = .ok (.iadd, 1) := by decide +kernel
theorem d_La_law_375 : decode b_La_law 375 = .ok (.iaload, 1) := by decide +kernel
theorem d_La_law_376 : decode b_La_law 376 = .ok (.invokevirtual 68, 3) := by decide +kernel
theorem d_La_law_379 : decode b_La_law 379 = .ok (.aload_n 2, 1) := by decide +kernel
theorem d_La_law_380 : decode b_La_law 380 = .ok (.aload_n 0, 1) := by decide +kernel
theorem d_La_law_381 : decode b_La_law 381 = .ok (.iload 4, 2) := by decide +kernel
theorem d_La_law_383 : decode b_La_law 383 = .ok (.iconst 1, 1) := by decide +kernel
theorem d_La_law_384 : decode b_La_law 384 = .ok (.iadd, 1) := by decide +kernel
theorem d_La_law_385 : decode b_La_law 385 = .ok (.iaload, 1) := by decide +kernel
theorem d_La_law_386 : decode b_La_law 386 = .ok (.invokevirtual 71, 3) := by decide +kernel
theorem d_La_law_389 : decode b_La_law 389 = .ok (.if_icmp .eq 5, 3) := by decide +kernel
theorem d_La_law_392 : decode b_La_law 392 = .ok (.iconst 0, 1) := by decide +kernel
theorem d_La_law_393 : decode b_La_law 393 = .ok (.ireturn, 1) := by decide +kernel
theorem d_La_law_394 : decode b_La_law 394 = .ok (.iinc 4 2, 3) := by decide +kernel
theorem d_La_law_397 : decode b_La_law 397 = .ok (.goto (-374), 3) := by decide +kernel
theorem d_La_law_400 : decode b_La_law 400 = .ok (.iconst 1, 1) := by decide +kernel
theorem d_La_law_401 : decode b_La_law 401 = .ok (.ireturn, 1) := by decide +kernel
theorem d_Ar_fill_0 : decode b_Ar_fill 0 = .ok (.iconst 0, 1) := by decide +kernel
theorem d_Ar_fill_1 : decode b_Ar_fill 1 = .ok (.istore_n 2, 1) := by decide +kernel
theorem d_Ar_fill_2 : decode b_Ar_fill 2 = .ok (.aload_n 0, 1) := by decide +kernel
theorem d_Ar_fill_3 : decode b_Ar_fill 3 = .ok (.arraylength, 1) := by decide +kernel
theorem d_Ar_fill_4 : decode b_Ar_fill 4 = .ok (.istore_n 3, 1) := by decide +kernel
theorem d_Ar_fill_5 : decode b_Ar_fill 5 = .ok (.iload_n 2, 1) := by decide +kernel
theorem d_Ar_fill_6 : decode b_Ar_fill 6 = .ok (.iload_n 3, 1) := by decide +kernel
theorem d_Ar_fill_7 : decode b_Ar_fill 7 = .ok (.if_icmp .ge 13, 3) := by decide +kernel
theorem d_Ar_fill_10 : decode b_Ar_fill 10 = .ok (.aload_n 0, 1) := by decide +kernel
theorem d_Ar_fill_11 : decode b_Ar_fill 11 = .ok (.iload_n 2, 1) := by decide +kernel
theorem d_Ar_fill_12 : decode b_Ar_fill 12 = .ok (.iload_n 1, 1) := by decide +kernel
theorem d_Ar_fill_13 : decode b_Ar_fill 13 = .ok (.iastore, 1) := by decide +kernel
theorem d_Ar_fill_14 : decode b_Ar_fill 14 = .ok (.iinc 2 1, 3) := by decide +kernel
theorem d_Ar_fill_17 : decode b_Ar_fill 17 = .ok (.goto (-12), 3) := by decide +kernel
theorem d_Ar_fill_20 : decode b_Ar_fill 20 = .ok (.return_, 1) := by decide +kernel
