theorem d_Mo_firstOf_0 : decode b_Mo_firstOf 0 = .ok (.aload_n 0, 1) := by decide +kernel
theorem d_Mo_firstOf_1 : decode b_Mo_firstOf 1 = .ok (.getfield 7, 3) := by decide +kernel
theorem d_Mo_firstOf_4 : decode b_Mo_firstOf 4 = .ok (.bipush 17, 2) := by decide +kernel
theorem d_Mo_firstOf_6 : decode b_Mo_firstOf 6 = .ok (.iconst 2, 1) := by decide +kernel
theorem d_Mo_firstOf_7 : decode b_Mo_firstOf 7 = .ok (.iload_n 1, 1) := by decide +kernel
theorem d_Mo_firstOf_8 : decode b_Mo_firstOf 8 = .ok (.imul, 1) := by decide +kernel
theorem d_Mo_firstOf_9 : decode b_Mo_firstOf 9 = .ok (.iadd, 1) := by decide +kernel
theorem d_Mo_firstOf_10 : decode b_Mo_firstOf 10 = .ok (.iaload, 1) := by decide +kernel
theorem d_Mo_firstOf_11 : decode b_Mo_firstOf 11 = .ok (.ireturn, 1) := by decide +kernel
theorem d_Mo_blocksOf_0 : decode b_Mo_blocksOf 0 = .ok (.iload_n 0, 1) := by decide +kernel
theorem d_Mo_blocksOf_1 : decode b_Mo_blocksOf 1 = .ok (.bipush 15, 2) := by decide +kernel
theorem d_Mo_blocksOf_3 : decode b_Mo_blocksOf 3 = .ok (.iadd, 1) := by decide +kernel
theorem d_Mo_blocksOf_4 : decode b_Mo_blocksOf 4 = .ok (.bipush 16, 2) := by decide +kernel
theorem d_Mo_blocksOf_6 : decode b_Mo_blocksOf 6 = .ok (.idiv, 1) := by decide +kernel
theorem d_Mo_blocksOf_7 : decode b_Mo_blocksOf 7 = .ok (.ireturn, 1) := by decide +kernel
theorem d_Mo_used_0 : decode b_Mo_used 0 = .ok (.iconst 0, 1) := by decide +kernel
theorem d_Mo_used_1 : decode b_Mo_used 1 = .ok (.istore_n 3, 1) := by decide +kernel
theorem d_Mo_used_2 : decode b_Mo_used 2 = .ok (.iconst 0, 1) := by decide +kernel
theorem d_Mo_used_3 : decode b_Mo_used 3 = .ok (.istore 4, 2) := by decide +kernel
theorem d_Mo_used_5 : decode b_Mo_used 5 = .ok (.iload 4, 2) := by decide +kernel
theorem d_Mo_used_7 : decode b_Mo_used 7 = .ok (.bipush 8, 2) := by decide +kernel
theorem d_Mo_used_9 : decode b_Mo_used 9 = .ok (.if_icmp .ge 55, 3) := by decide +kernel
theorem d_Mo_used_12 : decode b_Mo_used 12 = .ok (.iload_n 3, 1) := by decide +kernel
theorem d_Mo_used_13 : decode b_Mo_used 13 = .ok (.ifCond .ne 39, 3) := by decide +kernel
theorem d_Mo_used_16 : decode b_Mo_used 16 = .ok (.iload 4, 2) := by decide +kernel
theorem d_Mo_used_18 : decode b_Mo_used 18 = .ok (.iload_n 2, 1) := by decide +kernel
theorem d_Mo_used_19 : decode b_Mo_used 19 = .ok (.if_icmp .eq 37, 3) := by decide +kernel
theorem d_Mo_used_22 : decode b_Mo_used 22 = .ok (.iload_n 1, 1) := by decide +kernel
theorem d_Mo_used_23 : decode b_Mo_used 23 = .ok (.aload_n 0, 1) := by decide +kernel
theorem d_Mo_used_24 : decode b_Mo_used 24 = .ok (.iload 4, 2) := by decide +kernel
theorem d_Mo_used_26 : decode b_Mo_used 26 = .ok (.invokevirtual 80, 3) := by decide +kernel
theorem d_Mo_used_29 : decode b_Mo_used 29 = .ok (.if_icmp .lt 27, 3) := by decide +kernel
theorem d_Mo_used_32 : decode b_Mo_used 32 = .ok (.iload_n 1, 1) := by decide +kernel
theorem d_Mo_used_33 : decode b_Mo_used 33 = .ok (.aload_n 0, 1) := by decide +kernel
theorem d_Mo_used_34 : decode b_Mo_used 34 = .ok (.iload 4, 2) := by decide +kernel
theorem d_Mo_used_36 : decode b_Mo_used 36 = .ok (.invokevirtual 80, 3) := by decide +kernel
theorem d_Mo_used_39 : decode b_Mo_used 39 = .ok (.aload_n 0, 1) := by decide +kernel
theorem d_Mo_used_40 : decode b_Mo_used 40 = .ok (.iload 4, 2) := by decide +kernel
theorem d_Mo_used_42 : decode b_Mo_used 42 = .ok (.invokevirtual 84, 3) := by decide +kernel
theorem d_Mo_used_45 : decode b_Mo_used 45 = .ok (.invokestatic 87, 3) := by decide +kernel
theorem d_Mo_used_48 : decode b_Mo_used 48 = .ok (.iadd, 1) := by decide +kernel
theorem d_Mo_used_49 : decode b_Mo_used 49 = .ok (.if_icmp .ge 7, 3) := by decide +kernel
theorem d_Mo_used_52 : decode b_Mo_used 52 = .ok (.iconst 1, 1) := by decide +kernel
theorem d_Mo_used_53 : decode b_Mo_used 53 = .ok (.goto 4, 3) := by decide +kernel
theorem d_Mo_used_56 : decode b_Mo_used 56 = .ok (.iconst 0, 1) := by decide +kernel
theorem d_Mo_used_57 : decode b_Mo_used 57 = .ok (.istore_n 3, 1) := by decide +kernel
theorem d_Mo_used_58 : decode b_Mo_used 58 = .ok (.iinc 4 1, 3) := by decide +kernel
theorem d_Mo_used_61 : decode b_Mo_used 61 = .ok (.goto (-56), 3) := by decide +kernel
theorem d_Mo_used_64 : decode b_Mo_used 64 = .ok (.iload_n 3, 1) := by decide +kernel
theorem d_Mo_used_65 : decode b_Mo_used 65 = .ok (.ireturn, 1) := by decide +kernel
theorem d_Mo_room_0 : decode b_Mo_room 0 = .ok (.bipush 9, 2) := by decide +kernel
theorem d_Mo_room_2 : decode b_Mo_room 2 = .ok (.istore_n 3, 1) := by decide +kernel
theorem d_Mo_room_3 : decode b_Mo_room 3 = .ok (.iload_n 3, 1) := by decide +kernel
theorem d_Mo_room_4 : decode b_Mo_room 4 = .ok (.iload_n 1, 1) := by decide +kernel
theorem d_Mo_room_5 : decode b_Mo_room 5 = .ok (.iadd, 1) := by decide +kernel
theorem d_Mo_room_6 : decode b_Mo_room 6 = .ok (.bipush 32, 2) := by decide +kernel
theorem d_Mo_room_8 : decode b_Mo_room 8 = .ok (.if_icmp .gt 58, 3) := by decide +kernel
theorem d_Mo_room_11 : decode b_Mo_room 11 = .ok (.iconst 1, 1) := by decide +kernel
theorem d_Mo_room_12 : decode b_Mo_room 12 = .ok (.istore 4, 2) := by decide +kernel
theorem d_Mo_room_14 : decode b_Mo_room 14 = .ok (.iconst 0, 1) := by decide +kernel
theorem d_Mo_room_15 : decode b_Mo_room 15 = .ok (.istore 5, 2) := by decide +kernel
theorem d_Mo_room_17 : decode b_Mo_room 17 = .ok (.iload 5, 2) := by decide +kernel
theorem d_Mo_room_19 : decode b_Mo_room 19 = .ok (.iload_n 1, 1) := by decide +kernel
theorem d_Mo_room_20 : decode b_Mo_room 20 = .ok (.if_icmp .ge 33, 3) := by decide +kernel
theorem d_Mo_room_23 : decode b_Mo_room 23 = .ok (.iload 4, 2) := by decide +kernel
theorem d_Mo_room_25 : decode b_Mo_room 25 = .ok (.ifCond .eq 19, 3) := by decide +kernel
theorem d_Mo_room_28 : decode b_Mo_room 28 = .ok (.aload_n 0, 1) := by decide +kernel
theorem d_Mo_room_29 : decode b_Mo_room 29 = .ok (.iload_n 3, 1) := by decide +kernel
theorem d_Mo_room_30 : decode b_Mo_room 30 = .ok (.iload 5, 2) := by decide +kernel
theorem d_Mo_room_32 : decode b_Mo_room 32 = .ok (.iadd, 1) := by decide +kernel
theorem d_Mo_room_33 : decode b_Mo_room 33 = .ok (.iload_n 2, 1) := by decide +kernel
theorem d_Mo_room_34 : decode b_Mo_room 34 = .ok (.invokevirtual 90, 3) := by decide +kernel
theorem d_Mo_room_37 : decode b_Mo_room 37 = .ok (.ifCond .ne 7, 3) := by decide +kernel
theorem d_Mo_room_40 : decode b_Mo_room 40 = .ok (.iconst 1, 1) := by decide +kernel
theorem d_Mo_room_41 : decode b_Mo_room 41 = .ok (.goto 4, 3) := by decide +kernel
theorem d_Mo_room_44 : decode b_Mo_room 44 = .ok (.iconst 0, 1) := by decide +kernel
theorem d_Mo_room_45 : decode b_Mo_room 45 = .ok (.istore 4, 2) := by decide +kernel
theorem d_Mo_room_47 : decode b_Mo_room 47 = .ok (.iinc 5 1, 3) := by decide +kernel
theorem d_Mo_room_50 : decode b_Mo_room 50 = .ok (.goto (-33), 3) := by decide +kernel
theorem d_Mo_room_53 : decode b_Mo_room 53 = .ok (.iload 4, 2) := by decide +kernel
theorem d_Mo_room_55 : decode b_Mo_room 55 = .ok (.ifCond .eq 5, 3) := by decide +kernel
theorem d_Mo_room_58 : decode b_Mo_room 58 = .ok (.iload_n 3, 1) := by decide +kernel
theorem d_Mo_room_59 : decode b_Mo_room 59 = .ok (.ireturn, 1) := by decide +kernel
theorem d_Mo_room_60 : decode b_Mo_room 60 = .ok (.iinc 3 1, 3) := by decide +kernel
theorem d_Mo_room_63 : decode b_Mo_room 63 = .ok (.goto (-60), 3) := by decide +kernel
theorem d_Mo_room_66 : decode b_Mo_room 66 = .ok (.iconst (-1), 1) := by decide +kernel
theorem d_Mo_room_67 : decode b_Mo_room 67 = .ok (.ireturn, 1) := by decide +kernel
theorem d_Mo_directory_0 : decode b_Mo_directory 0 = .ok (.aload_n 0, 1) := by decide +kernel
theorem d_Mo_directory_1 : decode b_Mo_directory 1 = .ok (.getfield 38, 3) := by decide +kernel
theorem d_Mo_directory_4 : decode b_Mo_directory 4 = .ok (.iconst 0, 1) := by decide +kernel
theorem d_Mo_directory_5 : decode b_Mo_directory 5 = .ok (.iconst 1, 1) := by decide +kernel
theorem d_Mo_directory_6 : decode b_Mo_directory 6 = .ok (.iastore, 1) := by decide +kernel
theorem d_Mo_directory_7 : decode b_Mo_directory 7 = .ok (.iconst 0, 1) := by decide +kernel
theorem d_Mo_directory_8 : decode b_Mo_directory 8 = .ok (.istore 4, 2) := by decide +kernel
theorem d_Mo_directory_10 : decode b_Mo_directory 10 = .ok (.iload 4, 2) := by decide +kernel
theorem d_Mo_directory_12 : decode b_Mo_directory 12 = .ok (.bipush 16, 2) := by decide +kernel
theorem d_Mo_directory_14 : decode b_Mo_directory 14 = .ok (.if_icmp .ge 52, 3) := by decide +kernel
theorem d_Mo_directory_17 : decode b_Mo_directory 17 = .ok (.aload_n 0, 1) := by decide +kernel
theorem d_Mo_directory_18 : decode b_Mo_directory 18 = .ok (.getfield 41, 3) := by decide +kernel
theorem d_Mo_directory_21 : decode b_Mo_directory 21 = .ok (.iload 4, 2) := by decide +kernel
theorem d_Mo_directory_23 : decode b_Mo_directory 23 = .ok (.iload 4, 2) := by decide +kernel
theorem d_Mo_directory_25 : decode b_Mo_directory 25 = .ok (.iconst 2, 1) := by decide +kernel
theorem d_Mo_directory_26 : decode b_Mo_directory 26 = .ok (.iload_n 1, 1) := by decide +kernel
theorem d_Mo_directory_27 : decode b_Mo_directory 27 = .ok (.imul, 1) := by decide +kernel
theorem d_Mo_directory_28 : decode b_Mo_directory 28 = .ok (.if_icmp .ne 7, 3) := by decide +kernel
theorem d_Mo_directory_31 : decode b_Mo_directory 31 = .ok (.iload_n 2, 1) := by decide +kernel
theorem d_Mo_directory_32 : decode b_Mo_directory 32 = .ok (.goto 27, 3) := by decide +kernel
theorem d_Mo_directory_35 : decode b_Mo_directory 35 = .ok (.iload 4, 2) := by decide +kernel
theorem d_Mo_directory_37 : decode b_Mo_directory 37 = .ok (.iconst 2, 1) := by decide +kernel
theorem d_Mo_directory_38 : decode b_Mo_directory 38 = .ok (.iload_n 1, 1) := by decide +kernel
theorem d_Mo_directory_39 : decode b_Mo_directory 39 = .ok (.imul, 1) := by decide +kernel
theorem d_Mo_directory_40 : decode b_Mo_directory 40 = .ok (.iconst 1, 1) := by decide +kernel
theorem d_Mo_directory_41 : decode b_Mo_directory 41 = .ok (.iadd, 1) := by decide +kernel
theorem d_Mo_directory_42 : decode b_Mo_directory 42 = .ok (.if_icmp .ne 7, 3) := by decide +kernel
theorem d_Mo_directory_45 : decode b_Mo_directory 45 = .ok (.iload_n 3, 1) := by decide +kernel
theorem d_Mo_directory_46 : decode b_Mo_directory 46 = .ok (.goto 13, 3) := by decide +kernel
theorem d_Mo_directory_49 : decode b_Mo_directory 49 = .ok (.aload_n 0, 1) := by decide +kernel
theorem d_Mo_directory_50 : decode b_Mo_directory 50 = .ok (.getfield 7, 3) := by decide +kernel
theorem d_Mo_directory_53 : decode b_Mo_directory 53 = .ok (.bipush 16, 2) := by decide +kernel
theorem d_Mo_directory_55 : decode b_Mo_directory 55 = .ok (.iload 4, 2) := by decide +kernel
theorem d_Mo_directory_57 : decode b_Mo_directory 57 = .ok (.iadd, 1) := by decide +kernel
theorem d_Mo_directory_58 : decode b_Mo_directory 58 = .ok (.iaload, 1) := by decide +kernel
theorem d_Mo_directory_59 : decode b_Mo_directory 59 = .ok (.iastore, 1) := by decide +kernel
theorem d_Mo_directory_60 : decode b_Mo_directory 60 = .ok (.iinc 4 1, 3) := by decide +kernel
theorem d_Mo_directory_63 : decode b_Mo_directory 63 = .ok (.goto (-53), 3) := by decide +kernel
theorem d_Mo_directory_66 : decode b_Mo_directory 66 = .ok (.aload_n 0, 1) := by decide +kernel
theorem d_Mo_directory_67 : decode b_Mo_directory 67 = .ok (.iconst 1, 1) := by decide +kernel
theorem d_Mo_directory_68 : decode b_Mo_directory 68 = .ok (.putfield 70, 3) := by decide +kernel
theorem d_Mo_directory_71 : decode b_Mo_directory 71 = .ok (.return_, 1) := by decide +kernel
theorem d_Mo_lines_0 : decode b_Mo_lines 0 = .ok (.iconst 0, 1) := by decide +kernel
theorem d_Mo_lines_1 : decode b_Mo_lines 1 = .ok (.istore_n 1, 1) := by decide +kernel
theorem d_Mo_lines_2 : decode b_Mo_lines 2 = .ok (.iconst 1, 1) := by decide +kernel
theorem d_Mo_lines_3 : decode b_Mo_lines 3 = .ok (.istore_n 2, 1) := by decide +kernel
theorem d_Mo_lines_4 : decode b_Mo_lines 4 = .ok (.iload_n 2, 1) := by decide +kernel
theorem d_Mo_lines_5 : decode b_Mo_lines 5 = .ok (.bipush 100, 2) := by decide +kernel
theorem d_Mo_lines_7 : decode b_Mo_lines 7 = .ok (.if_icmp .ge 27, 3) := by decide +kernel
theorem d_Mo_lines_10 : decode b_Mo_lines 10 = .ok (.iload_n 1, 1) := by decide +kernel
theorem d_Mo_lines_11 : decode b_Mo_lines 11 = .ok (.aload_n 0, 1) := by decide +kernel
theorem d_Mo_lines_12 : decode b_Mo_lines 12 = .ok (.getfield 17, 3) := by decide +kernel
theorem d_Mo_lines_15 : decode b_Mo_lines 15 = .ok (.iload_n 2, 1) := by decide +kernel
theorem d_Mo_lines_16 : decode b_Mo_lines 16 = .ok (.iaload, 1) := by decide +kernel
theorem d_Mo_lines_17 : decode b_Mo_lines 17 = .ok (.iconst (-1), 1) := by decide +kernel
theorem d_Mo_lines_18 : decode b_Mo_lines 18 = .ok (.if_icmp .eq 7, 3) := by decide +kernel
theorem d_Mo_lines_21 : decode b_Mo_lines 21 = .ok (.iconst 1, 1) := by decide +kernel
theorem d_Mo_lines_22 : decode b_Mo_lines 22 = .ok (.goto 4, 3) := by decide +kernel
theorem d_Mo_lines_25 : decode b_Mo_lines 25 = .ok (.iconst 0, 1) := by decide +kernel
theorem d_Mo_lines_26 : decode b_Mo_lines 26 = .ok (.iadd, 1) := by decide +kernel
theorem d_Mo_lines_27 : decode b_Mo_lines 27 = .ok (.istore_n 1, 1) := by decide +kernel
theorem d_Mo_lines_28 : decode b_Mo_lines 28 = .ok (.iinc 2 1, 3) := by decide +kernel
theorem d_Mo_lines_31 : decode b_Mo_lines 31 = .ok (.goto (-27), 3) := by decide +kernel
theorem d_Mo_lines_34 : decode b_Mo_lines 34 = .ok (.iload_n 1, 1) := by decide +kernel
theorem d_Mo_lines_35 : decode b_Mo_lines 35 = .ok (.ireturn, 1) := by decide +kernel
theorem d_Mo_saves_0 : decode b_Mo_saves 0 = .ok (.iconst 1, 1) := by decide +kernel
theorem d_Mo_saves_1 : decode b_Mo_saves 1 = .ok (.iconst 4, 1) := by decide +kernel
theorem d_Mo_saves_2 : decode b_Mo_saves 2 = .ok (.aload_n 0, 1) := by decide +kernel
theorem d_Mo_saves_3 : decode b_Mo_saves 3 = .ok (.invokevirtual 94, 3) := by decide +kernel
theorem d_Mo_saves_6 : decode b_Mo_saves 6 = .ok (.imul, 1) := by decide +kernel
theorem d_Mo_saves_7 : decode b_Mo_saves 7 = .ok (.iadd, 1) := by decide +kernel
theorem d_Mo_saves_8 : decode b_Mo_saves 8 = .ok (.istore_n 2, 1) := by decide +kernel
theorem d_Mo_saves_9 : decode b_Mo_saves 9 = .ok (.iload_n 2, 1) := by decide +kernel
theorem d_Mo_saves_10 : decode b_Mo_saves 10 = .ok (.invokestatic 87, 3) := by decide +kernel
theorem d_Mo_saves_13 : decode b_Mo_saves 13 = .ok (.istore_n 3, 1) := by decide +kernel
theorem d_Mo_saves_14 : decode b_Mo_saves 14 = .ok (.aload_n 0, 1) := by decide +kernel
theorem d_Mo_saves_15 : decode b_Mo_saves 15 = .ok (.iload_n 3, 1) := by decide +kernel
theorem d_Mo_saves_16 : decode b_Mo_saves 16 = .ok (.iload_n 1, 1) := by decide +kernel
theorem d_Mo_saves_17 : decode b_Mo_saves 17 = .ok (.invokevirtual 98, 3) := by decide +kernel
theorem d_Mo_saves_20 : decode b_Mo_saves 20 = .ok (.istore 4, 2) := by decide +kernel
theorem d_Mo_saves_22 : decode b_Mo_saves 22 = .ok (.aload_n 0, 1) := by decide +kernel
theorem d_Mo_saves_23 : decode b_Mo_saves 23 = .ok (.invokevirtual 94, 3) := by decide +kernel
theorem d_Mo_saves_26 : decode b_Mo_saves 26 = .ok (.ifCond .eq 9, 3) := by decide +kernel
theorem d_Mo_saves_29 : decode b_Mo_saves 29 = .ok (.iload 4, 2) := by decide +kernel
theorem d_Mo_saves_31 : decode b_Mo_saves 31 = .ok (.iconst (-1), 1) := by decide +kernel
theorem d_Mo_saves_32 : decode b_Mo_saves 32 = .ok (.if_icmp .ne 6, 3) := by decide +kernel
theorem d_Mo_saves_35 : decode b_Mo_saves 35 = .ok (.bipush 9, 2) := by decide +kernel
theorem d_Mo_saves_37 : decode b_Mo_saves 37 = .ok (.ireturn, 1) := by decide +kernel
theorem d_Mo_saves_38 : decode b_Mo_saves 38 = .ok (.aload_n 0, 1) := by decide +kernel
theorem d_Mo_saves_39 : decode b_Mo_saves 39 = .ok (.iload_n 1, 1) := by decide +kernel
theorem d_Mo_saves_40 : decode b_Mo_saves 40 = .ok (.iload_n 2, 1) := by decide +kernel
theorem d_Mo_saves_41 : decode b_Mo_saves 41 = .ok (.iload 4, 2) := by decide +kernel
theorem d_Mo_saves_43 : decode b_Mo_saves 43 = .ok (.invokevirtual 102, 3) := by decide +kernel
theorem d_Mo_saves_46 : decode b_Mo_saves 46 = .ok (.bipush 16, 2) := by decide +kernel
theorem d_Mo_saves_48 : decode b_Mo_saves 48 = .ok (.istore 5, 2) := by decide +kernel
theorem d_Mo_saves_50 : decode b_Mo_saves 50 = .ok (.iload 5, 2) := by decide +kernel
theorem d_Mo_saves_52 : decode b_Mo_saves 52 = .ok (.bipush 96, 2) := by decide +kernel
theorem d_Mo_saves_54 : decode b_Mo_saves 54 = .ok (.if_icmp .ge 17, 3) := by decide +kernel
theorem d_Mo_saves_57 : decode b_Mo_saves 57 = .ok (.aload_n 0, 1) := by decide +kernel
theorem d_Mo_saves_58 : decode b_Mo_saves 58 = .ok (.getfield 41, 3) := by decide +kernel
theorem d_Mo_saves_61 : decode b_Mo_saves 61 = .ok (.iload 5, 2) := by decide +kernel
theorem d_Mo_saves_63 : decode b_Mo_saves 63 = .ok (.iconst 0, 1) := by decide +kernel
theorem d_Mo_saves_64 : decode b_Mo_saves 64 = .ok (.iastore, 1) := by decide +kernel
theorem d_Mo_saves_65 : decode b_Mo_saves 65 = .ok (.iinc 5 1, 3) := by decide +kernel
theorem d_Mo_saves_68 : decode b_Mo_saves 68 = .ok (.goto (-18), 3) := by decide +kernel
theorem d_Mo_saves_71 : decode b_Mo_saves 71 = .ok (.aload_n 0, 1) := by decide +kernel
theorem d_Mo_saves_72 : decode b_Mo_saves 72 = .ok (.getfield 41, 3) := by decide +kernel
theorem d_Mo_saves_75 : decode b_Mo_saves 75 = .ok (.bipush 16, 2) := by decide +kernel
theorem d_Mo_saves_77 : decode b_Mo_saves 77 = .ok (.aload_n 0, 1) := by decide +kernel
theorem d_Mo_saves_78 : decode b_Mo_saves 78 = .ok (.invokevirtual 94, 3) := by decide +kernel
theorem d_Mo_saves_81 : decode b_Mo_saves 81 = .ok (.iastore, 1) := by decide +kernel
theorem d_Mo_saves_82 : decode b_Mo_saves 82 = .ok (.bipush 17, 2) := by decide +kernel
theorem d_Mo_saves_84 : decode b_Mo_saves 84 = .ok (.istore 5, 2) := by decide +kernel
theorem d_Mo_saves_86 : decode b_Mo_saves 86 = .ok (.iconst 1, 1) := by decide +kernel
theorem d_Mo_saves_87 : decode b_Mo_saves 87 = .ok (.istore 6, 2) := by decide +kernel
theorem d_Mo_saves_89 : decode b_Mo_saves 89 = .ok (.iload 6, 2) := by decide +kernel
theorem d_Mo_saves_91 : decode b_Mo_saves 91 = .ok (.bipush 100, 2) := by decide +kernel
theorem d_Mo_saves_93 : decode b_Mo_saves 93 = .ok (.if_icmp .ge 125, 3) := by decide +kernel
theorem d_Mo_saves_96 : decode b_Mo_saves 96 = .ok (.aload_n 0, 1) := by decide +kernel
theorem d_Mo_saves_97 : decode b_Mo_saves 97 = .ok (.getfield 17, 3) := by decide +kernel
theorem d_Mo_saves_100 : decode b_Mo_saves 100 = .ok (.iload 6, 2) := by decide +kernel
theorem d_Mo_saves_102 : decode b_Mo_saves 102 = .ok (.iaload, 1) := by decide +kernel
theorem d_Mo_saves_103 : decode b_Mo_saves 103 = .ok (.iconst (-1), 1) := by decide +kernel
theorem d_Mo_saves_104 : decode b_Mo_saves 104 = .ok (.if_icmp .eq 108, 3) := by decide +kernel
theorem d_Mo_saves_107 : decode b_Mo_saves 107 = .ok (.aload_n 0, 1) := by decide +kernel
theorem d_Mo_saves_108 : decode b_Mo_saves 108 = .ok (.getfield 41, 3) := by decide +kernel
theorem d_Mo_saves_111 : decode b_Mo_saves 111 = .ok (.iload 5, 2) := by decide +kernel
theorem d_Mo_saves_113 : decode b_Mo_saves 113 = .ok (.bipush 16, 2) := by decide +kernel
theorem d_Mo_saves_115 : decode b_Mo_saves 115 = .ok (.iload 6, 2) := by decide +kernel
theorem d_Mo_saves_117 : decode b_Mo_saves 117 = .ok (.imul, 1) := by decide +kernel
theorem d_Mo_saves_118 : decode b_Mo_saves 118 = .ok (.aload_n 0, 1) := by decide +kernel
theorem d_Mo_saves_119 : decode b_Mo_saves 119 = .ok (.getfield 17, 3) := by decide +kernel
theorem d_Mo_saves_122 : decode b_Mo_saves 122 = .ok (.iload 6, 2) := by decide +kernel
theorem d_Mo_saves_124 : decode b_Mo_saves 124 = .ok (.iaload, 1) := by decide +kernel
theorem d_Mo_saves_125 : decode b_Mo_saves 125 = .ok (.iadd, 1) := by decide +kernel
theorem d_Mo_saves_126 : decode b_Mo_saves 126 = .ok (.iastore, 1) := by decide +kernel
theorem d_Mo_saves_127 : decode b_Mo_saves 127 = .ok (.iconst 0, 1) := by decide +kernel
theorem d_Mo_saves_128 : decode b_Mo_saves 128 = .ok (.istore 7, 2) := by decide +kernel
theorem d_Mo_saves_130 : decode b_Mo_saves 130 = .ok (.iload 7, 2) := by decide +kernel
theorem d_Mo_saves_132 : decode b_Mo_saves 132 = .ok (.bipush 12, 2) := by decide +kernel
theorem d_Mo_saves_134 : decode b_Mo_saves 134 = .ok (.if_icmp .ge 75, 3) := by decide +kernel
theorem d_Mo_saves_137 : decode b_Mo_saves 137 = .ok (.iload 7, 2) := by decide +kernel
theorem d_Mo_saves_139 : decode b_Mo_saves 139 = .ok (.aload_n 0, 1) := by decide +kernel
theorem d_Mo_saves_140 : decode b_Mo_saves 140 = .ok (.getfield 17, 3) := by decide +kernel
theorem d_Mo_saves_143 : decode b_Mo_saves 143 = .ok (.iload 6, 2) := by decide +kernel
theorem d_Mo_saves_145 : decode b_Mo_saves 145 = .ok (.iaload, 1) := by decide +kernel
theorem d_Mo_saves_146 : decode b_Mo_saves 146 = .ok (.if_icmp .ge 19, 3) := by decide +kernel
theorem d_Mo_saves_149 : decode b_Mo_saves 149 = .ok (.aload_n 0, 1) := by decide +kernel
theorem d_Mo_saves_150 : decode b_Mo_saves 150 = .ok (.getfield 20, 3) := by decide +kernel
theorem d_Mo_saves_153 : decode b_Mo_saves 153 = .ok (.bipush 12, 2) := by decide +kernel
theorem d_Mo_saves_155 : decode b_Mo_saves 155 = .ok (.iload 6, 2) := by decide +kernel
theorem d_Mo_saves_157 : decode b_Mo_saves 157 = .ok (.imul, 1) := by decide +kernel
theorem d_Mo_saves_158 : decode b_Mo_saves 158 = .ok (.iload 7, 2) := by decide +kernel
theorem d_Mo_saves_160 : decode b_Mo_saves 160 = .ok (.iadd, 1) := by decide +kernel
theorem d_Mo_saves_161 : decode b_Mo_saves 161 = .ok (.iaload, 1) := by decide +kernel
theorem d_Mo_saves_162 : decode b_Mo_saves 162 = .ok (.goto 4, 3) := by decide +kernel
theorem d_Mo_saves_165 : decode b_Mo_saves 165 = .ok (.iconst 0, 1) := by decide +kernel
theorem d_Mo_saves_166 : decode b_Mo_saves 166 = .ok (.istore 8, 2) := by decide +kernel
theorem d_Mo_saves_168 : decode b_Mo_saves 168 = .ok (.aload_n 0, 1) := by decide +kernel
theorem d_Mo_saves_169 : decode b_Mo_saves 169 = .ok (.getfield 41, 3) := by decide +kernel
theorem d_Mo_saves_172 : decode b_Mo_saves 172 = .ok (.iload 5, 2) := by decide +kernel
theorem d_Mo_saves_174 : decode b_Mo_saves 174 = .ok (.iconst 1, 1) := by decide +kernel
theorem d_Mo_saves_175 : decode b_Mo_saves 175 = .ok (.iadd, 1) := by decide +kernel
theorem d_Mo_saves_176 : decode b_Mo_saves 176 = .ok (.iload 7, 2) := by decide +kernel
theorem d_Mo_saves_178 : decode b_Mo_saves 178 = .ok (.iconst 4, 1) := by decide +kernel
theorem d_Mo_saves_179 : decode b_Mo_saves 179 = .ok (.idiv, 1) := by decide +kernel
theorem d_Mo_saves_180 : decode b_Mo_saves 180 = .ok (.iadd, 1) := by decide +kernel
theorem d_Mo_saves_181 : decode b_Mo_saves 181 = .ok (.aload_n 0, 1) := by decide +kernel
theorem d_Mo_saves_182 : decode b_Mo_saves 182 = .ok (.getfield 41, 3) := by decide +kernel
theorem d_Mo_saves_185 : decode b_Mo_saves 185 = .ok (.iload 5, 2) := by decide +kernel
theorem d_Mo_saves_187 : decode b_Mo_saves 187 = .ok (.iconst 1, 1) := by decide +kernel
theorem d_Mo_saves_188 : decode b_Mo_saves 188 = .ok (.iadd, 1) := by decide +kernel
theorem d_Mo_saves_189 : decode b_Mo_saves 189 = .ok (.iload 7, 2) := by decide +kernel
theorem d_Mo_saves_191 : decode b_Mo_saves 191 = .ok (.iconst 4, 1) := by decide +kernel
theorem d_Mo_saves_192 : decode b_Mo_saves 192 = .ok (.idiv, 1) := by decide +kernel
theorem d_Mo_saves_193 : decode b_Mo_saves 193 = .ok (.iadd, 1) := by decide +kernel
theorem d_Mo_saves_194 : decode b_Mo_saves 194 = .ok (.iaload, 1) := by decide +kernel
theorem d_Mo_saves_195 : decode b_Mo_saves 195 = .ok (.sipush 256, 3) := by decide +kernel
theorem d_Mo_saves_198 : decode b_Mo_saves 198 = .ok (.imul, 1) := by decide +kernel
theorem d_Mo_saves_199 : decode b_Mo_saves 199 = .ok (.iload 8, 2) := by decide +kernel
theorem d_Mo_saves_201 : decode b_Mo_saves 201 = .ok (.iadd, 1) := by decide +kernel
theorem d_Mo_saves_202 : decode b_Mo_saves 202 = .ok (.iastore, 1) := by decide +kernel
theorem d_Mo_saves_203 : decode b_Mo_saves 203 = .ok (.iinc 7 1, 3) := by decide +kernel
theorem d_Mo_saves_206 : decode b_Mo_saves 206 = .ok (.goto (-76), 3) := by decide +kernel
theorem d_Mo_saves_209 : decode b_Mo_saves 209 = .ok (.iinc 5 4, 3) := by decide +kernel
theorem d_Mo_saves_212 : decode b_Mo_saves 212 = .ok (.iinc 6 1, 3) := by decide +kernel
theorem d_Mo_saves_215 : decode b_Mo_saves 215 = .ok (.goto (-126), 3) := by decide +kernel
theorem d_Mo_saves_218 : decode b_Mo_saves 218 = .ok (.iconst 0, 1) := by decide +kernel
theorem d_Mo_saves_219 : decode b_Mo_saves 219 = .ok (.istore 6, 2) := by decide +kernel
theorem d_Mo_saves_221 : decode b_Mo_saves 221 = .ok (.iload 6, 2) := by decide +kernel
theorem d_Mo_saves_223 : decode b_Mo_saves 223 = .ok (.iload_n 3, 1) := by decide +kernel
theorem d_Mo_saves_224 : decode b_Mo_saves 224 = .ok (.if_icmp .ge 23, 3) := by decide +kernel
theorem d_Mo_saves_227 : decode b_Mo_saves 227 = .ok (.aload_n 0, 1) := by decide +kernel
theorem d_Mo_saves_228 : decode b_Mo_saves 228 = .ok (.getfield 38, 3) := by decide +kernel
theorem d_Mo_saves_231 : decode b_Mo_saves 231 = .ok (.iconst 1, 1) := by decide +kernel
theorem d_Mo_saves_232 : decode b_Mo_saves 232 = .ok (.iload 6, 2) := by decide +kernel
theorem d_Mo_saves_234 : decode b_Mo_saves 234 = .ok (.iadd, 1) := by decide +kernel
theorem d_Mo_saves_235 : decode b_Mo_saves 235 = .ok (.iload 4, 2) := by decide +kernel
theorem d_Mo_saves_237 : decode b_Mo_saves 237 = .ok (.iload 6, 2) := by decide +kernel
theorem d_Mo_saves_239 : decode b_Mo_saves 239 = .ok (.iadd, 1) := by decide +kernel
theorem d_Mo_saves_240 : decode b_Mo_saves 240 = .ok (.iastore, 1) := by decide +kernel
theorem d_Mo_saves_241 : decode b_Mo_saves 241 = .ok (.iinc 6 1, 3) := by decide +kernel
theorem d_Mo_saves_244 : decode b_Mo_saves 244 = .ok (.goto (-23), 3) := by decide +kernel
theorem d_Mo_saves_247 : decode b_Mo_saves 247 = .ok (.aload_n 0, 1) := by decide +kernel
theorem d_Mo_saves_248 : decode b_Mo_saves 248 = .ok (.iconst 1, 1) := by decide +kernel
theorem d_Mo_saves_249 : decode b_Mo_saves 249 = .ok (.iload_n 3, 1) := by decide +kernel
theorem d_Mo_saves_250 : decode b_Mo_saves 250 = .ok (.iadd, 1) := by decide +kernel
theorem d_Mo_saves_251 : decode b_Mo_saves 251 = .ok (.putfield 70, 3) := by decide +kernel
theorem d_Mo_saves_254 : decode b_Mo_saves 254 = .ok (.aload_n 0, 1) := by decide +kernel
theorem d_Mo_saves_255 : decode b_Mo_saves 255 = .ok (.invokevirtual 106, 3) := by decide +kernel
theorem d_Mo_saves_258 : decode b_Mo_saves 258 = .ok (.istore 6, 2) := by decide +kernel
theorem d_Mo_saves_260 : decode b_Mo_saves 260 = .ok (.iload 6, 2) := by decide +kernel
theorem d_Mo_saves_262 : decode b_Mo_saves 262 = .ok (.ifCond .eq 7, 3) := by decide +kernel
theorem d_Mo_saves_265 : decode b_Mo_saves 265 = .ok (.iconst 0, 1) := by decide +kernel
theorem d_Mo_saves_266 : decode b_Mo_saves 266 = .ok (.goto 5, 3) := by decide +kernel
theorem d_Mo_saves_269 : decode b_Mo_saves 269 = .ok (.bipush 7, 2) := by decide +kernel
theorem d_Mo_saves_271 : decode b_Mo_saves 271 = .ok (.ireturn, 1) := by decide +kernel
theorem d_Mo_loads_0 : decode b_Mo_loads 0 = .ok (.aload_n 0, 1) := by decide +kernel
theorem d_Mo_loads_1 : decode b_Mo_loads 1 = .ok (.iload_n 1, 1) := by decide +kernel
theorem d_Mo_loads_2 : decode b_Mo_loads 2 = .ok (.invokevirtual 84, 3) := by decide +kernel
theorem d_Mo_loads_5 : decode b_Mo_loads 5 = .ok (.ifCond .eq 13, 3) := by decide +kernel
theorem d_Mo_loads_8 : decode b_Mo_loads 8 = .ok (.aload_n 0, 1) := by decide +kernel
theorem d_Mo_loads_9 : decode b_Mo_loads 9 = .ok (.iload_n 1, 1) := by decide +kernel
theorem d_Mo_loads_10 : decode b_Mo_loads 10 = .ok (.invokevirtual 84, 3) := by decide +kernel
theorem d_Mo_loads_13 : decode b_Mo_loads 13 = .ok (.bipush 16, 2) := by decide +kernel
theorem d_Mo_loads_15 : decode b_Mo_loads 15 = .ok (.if_icmp .ne 5, 3) := by decide +kernel
theorem d_Mo_loads_18 : decode b_Mo_loads 18 = .ok (.iconst 3, 1) := by decide +kernel
theorem d_Mo_loads_19 : decode b_Mo_loads 19 = .ok (.ireturn, 1) := by decide +kernel
theorem d_Mo_loads_20 : decode b_Mo_loads 20 = .ok (.iconst 0, 1) := by decide +kernel
theorem d_Mo_loads_21 : decode b_Mo_loads 21 = .ok (.istore_n 2, 1) := by decide +kernel
theorem d_Mo_loads_22 : decode b_Mo_loads 22 = .ok (.iload_n 2, 1) := by decide +kernel
theorem d_Mo_loads_23 : decode b_Mo_loads 23 = .ok (.bipush 100, 2) := by decide +kernel
theorem d_Mo_loads_25 : decode b_Mo_loads 25 = .ok (.if_icmp .ge 16, 3) := by decide +kernel
theorem d_Mo_loads_28 : decode b_Mo_loads 28 = .ok (.aload_n 0, 1) := by decide +kernel
theorem d_Mo_loads_29 : decode b_Mo_loads 29 = .ok (.getfield 17, 3) := by decide +kernel
theorem d_Mo_loads_32 : decode b_Mo_loads 32 = .ok (.iload_n 2, 1) := by decide +kernel
theorem d_Mo_loads_33 : decode b_Mo_loads 33 = .ok (.iconst (-1), 1) := by decide +kernel
theorem d_Mo_loads_34 : decode b_Mo_loads 34 = .ok (.iastore, 1) := by decide +kernel
theorem d_Mo_loads_35 : decode b_Mo_loads 35 = .ok (.iinc 2 1, 3) := by decide +kernel
theorem d_Mo_loads_38 : decode b_Mo_loads 38 = .ok (.goto (-16), 3) := by decide +kernel
theorem d_Mo_loads_41 : decode b_Mo_loads 41 = .ok (.bipush 16, 2) := by decide +kernel
theorem d_Mo_loads_43 : decode b_Mo_loads 43 = .ok (.aload_n 0, 1) := by decide +kernel
theorem d_Mo_loads_44 : decode b_Mo_loads 44 = .ok (.iload_n 1, 1) := by decide +kernel
theorem d_Mo_loads_45 : decode b_Mo_loads 45 = .ok (.invokevirtual 80, 3) := by decide +kernel
theorem d_Mo_loads_48 : decode b_Mo_loads 48 = .ok (.imul, 1) := by decide +kernel
theorem d_Mo_loads_49 : decode b_Mo_loads 49 = .ok (.istore_n 2, 1) := by decide +kernel
theorem d_Mo_loads_50 : decode b_Mo_loads 50 = .ok (.iconst 0, 1) := by decide +kernel
theorem d_Mo_loads_51 : decode b_Mo_loads 51 = .ok (.istore_n 3, 1) := by decide +kernel
theorem d_Mo_loads_52 : decode b_Mo_loads 52 = .ok (.iload_n 3, 1) := by decide +kernel
theorem d_Mo_loads_53 : decode b_Mo_loads 53 = .ok (.aload_n 0, 1) := by decide +kernel
theorem d_Mo_loads_54 : decode b_Mo_loads 54 = .ok (.getfield 7, 3) := by decide +kernel
theorem d_Mo_loads_57 : decode b_Mo_loads 57 = .ok (.iload_n 2, 1) := by decide +kernel
theorem d_Mo_loads_58 : decode b_Mo_loads 58 = .ok (.iaload, 1) := by decide +kernel
theorem d_Mo_loads_59 : decode b_Mo_loads 59 = .ok (.if_icmp .ge 105, 3) := by decide +kernel
theorem d_Mo_loads_62 : decode b_Mo_loads 62 = .ok (.iload_n 2, 1) := by decide +kernel
theorem d_Mo_loads_63 : decode b_Mo_loads 63 = .ok (.iconst 1, 1) := by decide +kernel
theorem d_Mo_loads_64 : decode b_Mo_loads 64 = .ok (.iadd, 1) := by decide +kernel
theorem d_Mo_loads_65 : decode b_Mo_loads 65 = .ok (.iconst 4, 1) := by decide +kernel
theorem d_Mo_loads_66 : decode b_Mo_loads 66 = .ok (.iload_n 3, 1) := by decide +kernel
theorem d_Mo_loads_67 : decode b_Mo_loads 67 = .ok (.imul, 1) := by decide +kernel
theorem d_Mo_loads_68 : decode b_Mo_loads 68 = .ok (.iadd, 1) := by decide +kernel
theorem d_Mo_loads_69 : decode b_Mo_loads 69 = .ok (.istore 4, 2) := by decide +kernel
theorem d_Mo_loads_71 : decode b_Mo_loads 71 = .ok (.aload_n 0, 1) := by decide +kernel
theorem d_Mo_loads_72 : decode b_Mo_loads 72 = .ok (.getfield 7, 3) := by decide +kernel
theorem d_Mo_loads_75 : decode b_Mo_loads 75 = .ok (.iload 4, 2) := by decide +kernel
theorem d_Mo_loads_77 : decode b_Mo_loads 77 = .ok (.iaload, 1) := by decide +kernel
theorem d_Mo_loads_78 : decode b_Mo_loads 78 = .ok (.bipush 16, 2) := by decide +kernel
theorem d_Mo_loads_80 : decode b_Mo_loads 80 = .ok (.idiv, 1) := by decide +kernel
theorem d_Mo_loads_81 : decode b_Mo_loads 81 = .ok (.istore 5, 2) := by decide +kernel
theorem d_Mo_loads_83 : decode b_Mo_loads 83 = .ok (.aload_n 0, 1) := by decide +kernel
theorem d_Mo_loads_84 : decode b_Mo_loads 84 = .ok (.getfield 17, 3) := by decide +kernel
theorem d_Mo_loads_87 : decode b_Mo_loads 87 = .ok (.iload 5, 2) := by decide +kernel
theorem d_Mo_loads_89 : decode b_Mo_loads 89 = .ok (.aload_n 0, 1) := by decide +kernel
theorem d_Mo_loads_90 : decode b_Mo_loads 90 = .ok (.getfield 7, 3) := by decide +kernel
theorem d_Mo_loads_93 : decode b_Mo_loads 93 = .ok (.iload 4, 2) := by decide +kernel
theorem d_Mo_loads_95 : decode b_Mo_loads 95 = .ok (.iaload, 1) := by decide +kernel
theorem d_Mo_loads_96 : decode b_Mo_loads 96 = .ok (.bipush 16, 2) := by decide +kernel
theorem d_Mo_loads_98 : decode b_Mo_loads 98 = .ok (.irem, 1) := by decide +kernel
theorem d_Mo_loads_99 : decode b_Mo_loads 99 = .ok (.iastore, 1) := by decide +kernel
theorem d_Mo_loads_100 : decode b_Mo_loads 100 = .ok (.iconst 0, 1) := by decide +kernel
theorem d_Mo_loads_101 : decode b_Mo_loads 101 = .ok (.istore 6, 2) := by decide +kernel
theorem d_Mo_loads_103 : decode b_Mo_loads 103 = .ok (.iload 6, 2) := by decide +kernel
theorem d_Mo_loads_105 : decode b_Mo_loads 105 = .ok (.bipush 12, 2) := by decide +kernel
theorem d_Mo_loads_107 : decode b_Mo_loads 107 = .ok (.if_icmp .ge 51, 3) := by decide +kernel
theorem d_Mo_loads_110 : decode b_Mo_loads 110 = .ok (.aload_n 0, 1) := by decide +kernel
theorem d_Mo_loads_111 : decode b_Mo_loads 111 = .ok (.getfield 20, 3) := by decide +kernel
theorem d_Mo_loads_114 : decode b_Mo_loads 114 = .ok (.bipush 12, 2) := by decide +kernel
theorem d_Mo_loads_116 : decode b_Mo_loads 116 = .ok (.iload 5, 2) := by decide +kernel
theorem d_Mo_loads_118 : decode b_Mo_loads 118 = .ok (.imul, 1) := by decide +kernel
theorem d_Mo_loads_119 : decode b_Mo_loads 119 = .ok (.iload 6, 2) := by decide +kernel
theorem d_Mo_loads_121 : decode b_Mo_loads 121 = .ok (.iadd, 1) := by decide +kernel
theorem d_Mo_loads_122 : decode b_Mo_loads 122 = .ok (.aload_n 0, 1) := by decide +kernel
theorem d_Mo_loads_123 : decode b_Mo_loads 123 = .ok (.getfield 7, 3) := by decide +kernel
theorem d_Mo_loads_126 : decode b_Mo_loads 126 = .ok (.iload 4, 2) := by decide +kernel
theorem d_Mo_loads_128 : decode b_Mo_loads 128 = .ok (.iconst 1, 1) := by decide +kernel
theorem d_Mo_loads_129 : decode b_Mo_loads 129 = .ok (.iadd, 1) := by decide +kernel
theorem d_Mo_loads_130 : decode b_Mo_loads 130 = .ok (.iload 6, 2) := by decide +kernel
theorem d_Mo_loads_132 : decode b_Mo_loads 132 = .ok (.iconst 4, 1) := by decide +kernel
theorem d_Mo_loads_133 : decode b_Mo_loads 133 = .ok (.idiv, 1) := by decide +kernel
theorem d_Mo_loads_134 : decode b_Mo_loads 134 = .ok (.iadd, 1) := by decide +kernel
theorem d_Mo_loads_135 : decode b_Mo_loads 135 = .ok (.iaload, 1) := by decide +kernel
theorem d_Mo_loads_136 : decode b_Mo_loads 136 = .ok (.bipush 24, 2) := by decide +kernel
theorem d_Mo_loads_138 : decode b_Mo_loads 138 = .ok (.bipush 8, 2) := by decide +kernel
theorem d_Mo_loads_140 : decode b_Mo_loads 140 = .ok (.iload 6, 2) := by decide +kernel
theorem d_Mo_loads_142 : decode b_Mo_loads 142 = .ok (.iconst 4, 1) := by decide +kernel
theorem d_Mo_loads_143 : decode b_Mo_loads 143 = .ok (.irem, 1) := by decide +kernel
theorem d_Mo_loads_144 : decode b_Mo_loads 144 = .ok (.imul, 1) := by decide +kernel
theorem d_Mo_loads_145 : decode b_Mo_loads 145 = .ok (.isub, 1) := by decide +kernel
theorem d_Mo_loads_146 : decode b_Mo_loads 146 = .ok (.ishr, 1) := by decide +kernel
theorem d_Mo_loads_147 : decode b_Mo_loads 147 = .ok (.sipush 255, 3) := by decide +kernel
theorem d_Mo_loads_150 : decode b_Mo_loads 150 = .ok (.iand, 1) := by decide +kernel
theorem d_Mo_loads_151 : decode b_Mo_loads 151 = .ok (.iastore, 1) := by decide +kernel
theorem d_Mo_loads_152 : decode b_Mo_loads 152 = .ok (.iinc 6 1, 3) := by decide +kernel
theorem d_Mo_loads_155 : decode b_Mo_loads 155 = .ok (.goto (-52), 3) := by decide +kernel
theorem d_Mo_loads_158 : decode b_Mo_loads 158 = .ok (.iinc 3 1, 3) := by decide +kernel
theorem d_Mo_loads_161 : decode b_Mo_loads 161 = .ok (.goto (-109), 3) := by decide +kernel
theorem d_Mo_loads_164 : decode b_Mo_loads 164 = .ok (.aload_n 0, 1) := by decide +kernel
theorem d_Mo_loads_165 : decode b_Mo_loads 165 = .ok (.iconst 0, 1) := by decide +kernel
theorem d_Mo_loads_166 : decode b_Mo_loads 166 = .ok (.putfield 50, 3) := by decide +kernel
theorem d_Mo_loads_169 : decode b_Mo_loads 169 = .ok (.iconst 0, 1) := by decide +kernel
theorem d_Mo_loads_170 : decode b_Mo_loads 170 = .ok (.ireturn, 1) := by decide +kernel
theorem d_Mo_drops_0 : decode b_Mo_drops 0 = .ok (.aload_n 0, 1) := by decide +kernel
theorem d_Mo_drops_1 : decode b_Mo_drops 1 = .ok (.iload_n 1, 1) := by decide +kernel
theorem d_Mo_drops_2 : decode b_Mo_drops 2 = .ok (.invokevirtual 84, 3) := by decide +kernel
theorem d_Mo_drops_5 : decode b_Mo_drops 5 = .ok (.ifCond .ne 5, 3) := by decide +kernel
theorem d_Mo_drops_8 : decode b_Mo_drops 8 = .ok (.iconst 3, 1) := by decide +kernel
theorem d_Mo_drops_9 : decode b_Mo_drops 9 = .ok (.ireturn, 1) := by decide +kernel
theorem d_Mo_drops_10 : decode b_Mo_drops 10 = .ok (.aload_n 0, 1) := by decide +kernel
theorem d_Mo_drops_11 : decode b_Mo_drops 11 = .ok (.iload_n 1, 1) := by decide +kernel
theorem d_Mo_drops_12 : decode b_Mo_drops 12 = .ok (.iconst 0, 1) := by decide +kernel
theorem d_Mo_drops_13 : decode b_Mo_drops 13 = .ok (.iconst 0, 1) := by decide +kernel
theorem d_Mo_drops_14 : decode b_Mo_drops 14 = .ok (.invokevirtual 102, 3) := by decide +kernel
theorem d_Mo_drops_17 : decode b_Mo_drops 17 = .ok (.aload_n 0, 1) := by decide +kernel
theorem d_Mo_drops_18 : decode b_Mo_drops 18 = .ok (.invokevirtual 106, 3) := by decide +kernel
theorem d_Mo_drops_21 : decode b_Mo_drops 21 = .ok (.istore_n 2, 1) := by decide +kernel
theorem d_Mo_drops_22 : decode b_Mo_drops 22 = .ok (.iload_n 2, 1) := by decide +kernel
theorem d_Mo_drops_23 : decode b_Mo_drops 23 = .ok (.ifCond .eq 7, 3) := by decide +kernel
theorem d_Mo_drops_26 : decode b_Mo_drops 26 = .ok (.iconst 0, 1) := by decide +kernel
theorem d_Mo_drops_27 : decode b_Mo_drops 27 = .ok (.goto 5, 3) := by decide +kernel
theorem d_Mo_drops_30 : decode b_Mo_drops 30 = .ok (.bipush 7, 2) := by decide +kernel
theorem d_Mo_drops_32 : decode b_Mo_drops 32 = .ok (.ireturn, 1) := by decide +kernel
theorem d_Mo_comesOut_0 : decode b_Mo_comesOut 0 = .ok (.aload_n 0, 1) := by decide +kernel
theorem d_Mo_comesOut_1 : decode b_Mo_comesOut 1 = .ok (.getfield 109, 3) := by decide +kernel
theorem d_Mo_comesOut_4 : decode b_Mo_comesOut 4 = .ok (.bipush 60, 2) := by decide +kernel
theorem d_Mo_comesOut_6 : decode b_Mo_comesOut 6 = .ok (.if_icmp .ge 13, 3) := by decide +kernel
theorem d_Mo_comesOut_9 : decode b_Mo_comesOut 9 = .ok (.aload_n 0, 1) := by decide +kernel
theorem d_Mo_comesOut_10 : decode b_Mo_comesOut 10 = .ok (.getfield 26, 3) := by decide +kernel
theorem d_Mo_comesOut_13 : decode b_Mo_comesOut 13 = .ok (.aload_n 0, 1) := by decide +kernel
theorem d_Mo_comesOut_14 : decode b_Mo_comesOut 14 = .ok (.getfield 109, 3) := by decide +kernel
theorem d_Mo_comesOut_17 : decode b_Mo_comesOut 17 = .ok (.iload_n 1, 1) := by decide +kernel
theorem d_Mo_comesOut_18 : decode b_Mo_comesOut 18 = .ok (.iastore, 1) := by decide +kernel
theorem d_Mo_comesOut_19 : decode b_Mo_comesOut 19 = .ok (.aload_n 0, 1) := by decide +kernel
theorem d_Mo_comesOut_20 : decode b_Mo_comesOut 20 = .ok (.dup, 1) := by decide +kernel
theorem d_Mo_comesOut_21 : decode b_Mo_comesOut 21 = .ok (.getfield 109, 3) := by decide +kernel
theorem d_Mo_comesOut_24 : decode b_Mo_comesOut 24 = .ok (.iconst 1, 1) := by decide +kernel
theorem d_Mo_comesOut_25 : decode b_Mo_comesOut 25 = .ok (.iadd, 1) := by decide +kernel
theorem d_Mo_comesOut_26 : decode b_Mo_comesOut 26 = .ok (.putfield 109, 3) := by decide +kernel
theorem d_Mo_comesOut_29 : decode b_Mo_comesOut 29 = .ok (.return_, 1) := by decide +kernel
theorem d_Mo_here_0 : decode b_Mo_here 0 = .ok (.aload_n 0, 1) := by decide +kernel
theorem d_Mo_here_1 : decode b_Mo_here 1 = .ok (.getfield 112, 3) := by decide +kernel
theorem d_Mo_here_4 : decode b_Mo_here 4 = .ok (.aload_n 0, 1) := by decide +kernel
theorem d_Mo_here_5 : decode b_Mo_here 5 = .ok (.getfield 115, 3) := by decide +kernel
theorem d_Mo_here_8 : decode b_Mo_here 8 = .ok (.if_icmp .lt 7, 3) := by decide +kernel
theorem d_Mo_here_11 : decode b_Mo_here 11 = .ok (.iconst (-1), 1) := by decide +kernel
theorem d_Mo_here_12 : decode b_Mo_here 12 = .ok (.goto 41, 3) := by decide +kernel
theorem d_Mo_here_15 : decode b_Mo_here 15 = .ok (.aload_n 0, 1) := by decide +kernel
theorem d_Mo_here_16 : decode b_Mo_here 16 = .ok (.getfield 118, 3) := by decide +kernel
theorem d_Mo_here_19 : decode b_Mo_here 19 = .ok (.ifCond .eq 20, 3) := by decide +kernel
theorem d_Mo_here_22 : decode b_Mo_here 22 = .ok (.aload_n 0, 1) := by decide +kernel
theorem d_Mo_here_23 : decode b_Mo_here 23 = .ok (.getfield 20, 3) := by decide +kernel
theorem d_Mo_here_26 : decode b_Mo_here 26 = .ok (.aload_n 0, 1) := by decide +kernel
theorem d_Mo_here_27 : decode b_Mo_here 27 = .ok (.getfield 121, 3) := by decide +kernel
theorem d_Mo_here_30 : decode b_Mo_here 30 = .ok (.aload_n 0, 1) := by decide +kernel
theorem d_Mo_here_31 : decode b_Mo_here 31 = .ok (.getfield 112, 3) := by decide +kernel
theorem d_Mo_here_34 : decode b_Mo_here 34 = .ok (.iadd, 1) := by decide +kernel
theorem d_Mo_here_35 : decode b_Mo_here 35 = .ok (.iaload, 1) := by decide +kernel
theorem d_Mo_here_36 : decode b_Mo_here 36 = .ok (.goto 17, 3) := by decide +kernel
theorem d_Mo_here_39 : decode b_Mo_here 39 = .ok (.aload_n 0, 1) := by decide +kernel
theorem d_Mo_here_40 : decode b_Mo_here 40 = .ok (.getfield 29, 3) := by decide +kernel
theorem d_Mo_here_43 : decode b_Mo_here 43 = .ok (.aload_n 0, 1) := by decide +kernel
theorem d_Mo_here_44 : decode b_Mo_here 44 = .ok (.getfield 121, 3) := by decide +kernel
theorem d_Mo_here_47 : decode b_Mo_here 47 = .ok (.aload_n 0, 1) := by decide +kernel
theorem d_Mo_here_48 : decode b_Mo_here 48 = .ok (.getfield 112, 3) := by decide +kernel
theorem d_Mo_here_51 : decode b_Mo_here 51 = .ok (.iadd, 1) := by decide +kernel
theorem d_Mo_here_52 : decode b_Mo_here 52 = .ok (.iaload, 1) := by decide +kernel
theorem d_Mo_here_53 : decode b_Mo_here 53 = .ok (.ireturn, 1) := by decide +kernel
theorem d_Mo_takes_0 : decode b_Mo_takes 0 = .ok (.aload_n 0, 1) := by decide +kernel
theorem d_Mo_takes_1 : decode b_Mo_takes 1 = .ok (.invokevirtual 124, 3) := by decide +kernel
theorem d_Mo_takes_4 : decode b_Mo_takes 4 = .ok (.iload_n 1, 1) := by decide +kernel
theorem d_Mo_takes_5 : decode b_Mo_takes 5 = .ok (.if_icmp .eq 5, 3) := by decide +kernel
theorem d_Mo_takes_8 : decode b_Mo_takes 8 = .ok (.iconst 0, 1) := by decide +kernel
theorem d_Mo_takes_9 : decode b_Mo_takes 9 = .ok (.ireturn, 1) := by decide +kernel
theorem d_Mo_takes_10 : decode b_Mo_takes 10 = .ok (.aload_n 0, 1) := by decide +kernel
theorem d_Mo_takes_11 : decode b_Mo_takes 11 = .ok (.dup, 1) := by decide +kernel
theorem d_Mo_takes_12 : decode b_Mo_takes 12 = .ok (.getfield 112, 3) := by decide +kernel
theorem d_Mo_takes_15 : decode b_Mo_takes 15 = .ok (.iconst 1, 1) := by decide +kernel
theorem d_Mo_takes_16 : decode b_Mo_takes 16 = .ok (.iadd, 1) := by decide +kernel
theorem d_Mo_takes_17 : decode b_Mo_takes 17 = .ok (.putfield 112, 3) := by decide +kernel
theorem d_Mo_takes_20 : decode b_Mo_takes 20 = .ok (.iconst 1, 1) := by decide +kernel
theorem d_Mo_takes_21 : decode b_Mo_takes 21 = .ok (.ireturn, 1) := by decide +kernel
theorem d_Mo_must_0 : decode b_Mo_must 0 = .ok (.aload_n 0, 1) := by decide +kernel
theorem d_Mo_must_1 : decode b_Mo_must 1 = .ok (.iload_n 1, 1) := by decide +kernel
theorem d_Mo_must_2 : decode b_Mo_must 2 = .ok (.invokevirtual 127, 3) := by decide +kernel
theorem d_Mo_must_5 : decode b_Mo_must 5 = .ok (.istore_n 2, 1) := by decide +kernel
theorem d_Mo_must_6 : decode b_Mo_must 6 = .ok (.aload_n 0, 1) := by decide +kernel
theorem d_Mo_must_7 : decode b_Mo_must 7 = .ok (.aload_n 0, 1) := by decide +kernel
theorem d_Mo_must_8 : decode b_Mo_must 8 = .ok (.getfield 131, 3) := by decide +kernel
theorem d_Mo_must_11 : decode b_Mo_must 11 = .ok (.ifCond .eq 11, 3) := by decide +kernel
theorem d_Mo_must_14 : decode b_Mo_must 14 = .ok (.iload_n 2, 1) := by decide +kernel
theorem d_Mo_must_15 : decode b_Mo_must 15 = .ok (.ifCond .eq 7, 3) := by decide +kernel
theorem d_Mo_must_18 : decode b_Mo_must 18 = .ok (.iconst 1, 1) := by decide +kernel
theorem d_Mo_must_19 : decode b_Mo_must 19 = .ok (.goto 4, 3) := by decide +kernel
theorem d_Mo_must_22 : decode b_Mo_must 22 = .ok (.iconst 0, 1) := by decide +kernel
theorem d_Mo_must_23 : decode b_Mo_must 23 = .ok (.putfield 131, 3) := by decide +kernel
theorem d_Mo_must_26 : decode b_Mo_must 26 = .ok (.return_, 1) := by decide +kernel
theorem d_Mo_isDigit_0 : decode b_Mo_isDigit 0 = .ok (.iload_n 0, 1) := by decide +kernel
theorem d_Mo_isDigit_1 : decode b_Mo_isDigit 1 = .ok (.bipush 48, 2) := by decide +kernel
theorem d_Mo_isDigit_3 : decode b_Mo_isDigit 3 = .ok (.if_icmp .lt 13, 3) := by decide +kernel
theorem d_Mo_isDigit_6 : decode b_Mo_isDigit 6 = .ok (.iload_n 0, 1) := by decide +kernel
theorem d_Mo_isDigit_7 : decode b_Mo_isDigit 7 = .ok (.bipush 57, 2) := by decide +kernel
theorem d_Mo_isDigit_9 : decode b_Mo_isDigit 9 = .ok (.if_icmp .gt 7, 3) := by decide +kernel
theorem d_Mo_isDigit_12 : decode b_Mo_isDigit 12 = .ok (.iconst 1, 1) := by decide +kernel
theorem d_Mo_isDigit_13 : decode b_Mo_isDigit 13 = .ok (.goto 4, 3) := by decide +kernel
theorem d_Mo_isDigit_16 : decode b_Mo_isDigit 16 = .ok (.iconst 0, 1) := by decide +kernel
theorem d_Mo_isDigit_17 : decode b_Mo_isDigit 17 = .ok (.ireturn, 1) := by decide +kernel
theorem d_Mo_isVariable_0 : decode b_Mo_isVariable 0 = .ok (.iload_n 0, 1) := by decide +kernel
theorem d_Mo_isVariable_1 : decode b_Mo_isVariable 1 = .ok (.bipush 65, 2) := by decide +kernel
theorem d_Mo_isVariable_3 : decode b_Mo_isVariable 3 = .ok (.if_icmp .lt 13, 3) := by decide +kernel
theorem d_Mo_isVariable_6 : decode b_Mo_isVariable 6 = .ok (.iload_n 0, 1) := by decide +kernel
theorem d_Mo_isVariable_7 : decode b_Mo_isVariable 7 = .ok (.bipush 72, 2) := by decide +kernel
theorem d_Mo_isVariable_9 : decode b_Mo_isVariable 9 = .ok (.if_icmp .gt 7, 3) := by decide +kernel
theorem d_Mo_isVariable_12 : decode b_Mo_isVariable 12 = .ok (.iconst 1, 1) := by decide +kernel
theorem d_Mo_isVariable_13 : decode b_Mo_isVariable 13 = .ok (.goto 4, 3) := by decide +kernel
theorem d_Mo_isVariable_16 : decode b_Mo_isVariable 16 = .ok (.iconst 0, 1) := by decide +kernel
theorem d_Mo_isVariable_17 : decode b_Mo_isVariable 17 = .ok (.ireturn, 1) := by decide +kernel
theorem d_Mo_digit_0 : decode b_Mo_digit 0 = .ok (.aload_n 0, 1) := by decide +kernel
theorem d_Mo_digit_1 : decode b_Mo_digit 1 = .ok (.invokevirtual 124, 3) := by decide +kernel
theorem d_Mo_digit_4 : decode b_Mo_digit 4 = .ok (.istore_n 1, 1) := by decide +kernel
theorem d_Mo_digit_5 : decode b_Mo_digit 5 = .ok (.aload_n 0, 1) := by decide +kernel
theorem d_Mo_digit_6 : decode b_Mo_digit 6 = .ok (.aload_n 0, 1) := by decide +kernel
theorem d_Mo_digit_7 : decode b_Mo_digit 7 = .ok (.getfield 131, 3) := by decide +kernel
theorem d_Mo_digit_10 : decode b_Mo_digit 10 = .ok (.ifCond .eq 19, 3) := by decide +kernel
theorem d_Mo_digit_13 : decode b_Mo_digit 13 = .ok (.iload_n 1, 1) := by decide +kernel
theorem d_Mo_digit_14 : decode b_Mo_digit 14 = .ok (.bipush 48, 2) := by decide +kernel
theorem d_Mo_digit_16 : decode b_Mo_digit 16 = .ok (.if_icmp .lt 13, 3) := by decide +kernel
theorem d_Mo_digit_19 : decode b_Mo_digit 19 = .ok (.iload_n 1, 1) := by decide +kernel
theorem d_Mo_digit_20 : decode b_Mo_digit 20 = .ok (.bipush 55, 2) := by decide +kernel
theorem d_Mo_digit_22 : decode b_Mo_digit 22 = .ok (.if_icmp .gt 7, 3) := by decide +kernel
theorem d_Mo_digit_25 : decode b_Mo_digit 25 = .ok (.iconst 1, 1) := by decide +kernel
theorem d_Mo_digit_26 : decode b_Mo_digit 26 = .ok (.goto 4, 3) := by decide +kernel
theorem d_Mo_digit_29 : decode b_Mo_digit 29 = .ok (.iconst 0, 1) := by decide +kernel
theorem d_Mo_digit_30 : decode b_Mo_digit 30 = .ok (.putfield 131, 3) := by decide +kernel
theorem d_Mo_digit_33 : decode b_Mo_digit 33 = .ok (.aload_n 0, 1) := by decide +kernel
theorem d_Mo_digit_34 : decode b_Mo_digit 34 = .ok (.dup, 1) := by decide +kernel
theorem d_Mo_digit_35 : decode b_Mo_digit 35 = .ok (.getfield 112, 3) := by decide +kernel
theorem d_Mo_digit_38 : decode b_Mo_digit 38 = .ok (.iconst 1, 1) := by decide +kernel
theorem d_Mo_digit_39 : decode b_Mo_digit 39 = .ok (.iadd, 1) := by decide +kernel
theorem d_Mo_digit_40 : decode b_Mo_digit 40 = .ok (.putfield 112, 3) := by decide +kernel
theorem d_Mo_digit_43 : decode b_Mo_digit 43 = .ok (.iload_n 1, 1) := by decide +kernel
theorem d_Mo_digit_44 : decode b_Mo_digit 44 = .ok (.bipush 48, 2) := by decide +kernel
theorem d_Mo_digit_46 : decode b_Mo_digit 46 = .ok (.isub, 1) := by decide +kernel
theorem d_Mo_digit_47 : decode b_Mo_digit 47 = .ok (.ireturn, 1) := by decide +kernel
theorem d_Mo_lineNumber_0 : decode b_Mo_lineNumber 0 = .ok (.iconst 0, 1) := by decide +kernel
theorem d_Mo_lineNumber_1 : decode b_Mo_lineNumber 1 = .ok (.istore_n 1, 1) := by decide +kernel
theorem d_Mo_lineNumber_2 : decode b_Mo_lineNumber 2 = .ok (.iconst 0, 1) := by decide +kernel
theorem d_Mo_lineNumber_3 : decode b_Mo_lineNumber 3 = .ok (.istore_n 2, 1) := by decide +kernel
theorem d_Mo_lineNumber_4 : decode b_Mo_lineNumber 4 = .ok (.iload_n 2, 1) := by decide +kernel
theorem d_Mo_lineNumber_5 : decode b_Mo_lineNumber 5 = .ok (.iconst 2, 1) := by decide +kernel
theorem d_Mo_lineNumber_6 : decode b_Mo_lineNumber 6 = .ok (.if_icmp .ge 42, 3) := by decide +kernel
theorem d_Mo_lineNumber_9 : decode b_Mo_lineNumber 9 = .ok (.aload_n 0, 1) := by decide +kernel
theorem d_Mo_lineNumber_10 : decode b_Mo_lineNumber 10 = .ok (.invokevirtual 124, 3) := by decide +kernel
theorem d_Mo_lineNumber_13 : decode b_Mo_lineNumber 13 = .ok (.invokestatic 134, 3) := by decide +kernel
theorem d_Mo_lineNumber_16 : decode b_Mo_lineNumber 16 = .ok (.ifCond .eq 32, 3) := by decide +kernel
theorem d_Mo_lineNumber_19 : decode b_Mo_lineNumber 19 = .ok (.bipush 10, 2) := by decide +kernel
theorem d_Mo_lineNumber_21 : decode b_Mo_lineNumber 21 = .ok (.iload_n 1, 1) := by decide +kernel
theorem d_Mo_lineNumber_22 : decode b_Mo_lineNumber 22 = .ok (.imul, 1) := by decide +kernel
theorem d_Mo_lineNumber_23 : decode b_Mo_lineNumber 23 = .ok (.aload_n 0, 1) := by decide +kernel
theorem d_Mo_lineNumber_24 : decode b_Mo_lineNumber 24 = .ok (.invokevirtual 124, 3) := by decide +kernel
theorem d_Mo_lineNumber_27 : decode b_Mo_lineNumber 27 = .ok (.iadd, 1) := by decide +kernel
theorem d_Mo_lineNumber_28 : decode b_Mo_lineNumber 28 = .ok (.bipush 48, 2) := by decide +kernel
theorem d_Mo_lineNumber_30 : decode b_Mo_lineNumber 30 = .ok (.isub, 1) := by decide +kernel
theorem d_Mo_lineNumber_31 : decode b_Mo_lineNumber 31 = .ok (.istore_n 1, 1) := by decide +kernel
theorem d_Mo_lineNumber_32 : decode b_Mo_lineNumber 32 = .ok (.aload_n 0, 1) := by decide +kernel
theorem d_Mo_lineNumber_33 : decode b_Mo_lineNumber 33 = .ok (.dup, 1) := by decide +kernel
theorem d_Mo_lineNumber_34 : decode b_Mo_lineNumber 34 = .ok (.getfield 112, 3) := by decide +kernel
theorem d_Mo_lineNumber_37 : decode b_Mo_lineNumber 37 = .ok (.iconst 1, 1) := by decide +kernel
theorem d_Mo_lineNumber_38 : decode b_Mo_lineNumber 38 = .ok (.iadd, 1) := by decide +kernel
theorem d_Mo_lineNumber_39 : decode b_Mo_lineNumber 39 = .ok (.putfield 112, 3) := by decide +kernel
theorem d_Mo_lineNumber_42 : decode b_Mo_lineNumber 42 = .ok (.iinc 2 1, 3) := by decide +kernel
theorem d_Mo_lineNumber_45 : decode b_Mo_lineNumber 45 = .ok (.goto (-41), 3) := by decide +kernel
theorem d_Mo_lineNumber_48 : decode b_Mo_lineNumber 48 = .ok (.aload_n 0, 1) := by decide +kernel
theorem d_Mo_lineNumber_49 : decode b_Mo_lineNumber 49 = .ok (.aload_n 0, 1) := by decide +kernel
theorem d_Mo_lineNumber_50 : decode b_Mo_lineNumber 50 = .ok (.getfield 131, 3) := by decide +kernel
theorem d_Mo_lineNumber_53 : decode b_Mo_lineNumber 53 = .ok (.ifCond .eq 11, 3) := by decide +kernel
theorem d_Mo_lineNumber_56 : decode b_Mo_lineNumber 56 = .ok (.iload_n 1, 1) := by decide +kernel
theorem d_Mo_lineNumber_57 : decode b_Mo_lineNumber 57 = .ok (.ifCond .le 7, 3) := by decide +kernel
theorem d_Mo_lineNumber_60 : decode b_Mo_lineNumber 60 = .ok (.iconst 1, 1) := by decide +kernel
theorem d_Mo_lineNumber_61 : decode b_Mo_lineNumber 61 = .ok (.goto 4, 3) := by decide +kernel
theorem d_Mo_lineNumber_64 : decode b_Mo_lineNumber 64 = .ok (.iconst 0, 1) := by decide +kernel
theorem d_Mo_lineNumber_65 : decode b_Mo_lineNumber 65 = .ok (.putfield 131, 3) := by decide +kernel
theorem d_Mo_lineNumber_68 : decode b_Mo_lineNumber 68 = .ok (.iload_n 1, 1) := by decide +kernel
theorem d_Mo_lineNumber_69 : decode b_Mo_lineNumber 69 = .ok (.ireturn, 1) := by decide +kernel
theorem d_Mo_reduce_0 : decode b_Mo_reduce 0 = .ok (.aload_n 0, 1) := by decide +kernel
theorem d_Mo_reduce_1 : decode b_Mo_reduce 1 = .ok (.dup, 1) := by decide +kernel
theorem d_Mo_reduce_2 : decode b_Mo_reduce 2 = .ok (.getfield 137, 3) := by decide +kernel
theorem d_Mo_reduce_5 : decode b_Mo_reduce 5 = .ok (.iconst 1, 1) := by decide +kernel
theorem d_Mo_reduce_6 : decode b_Mo_reduce 6 = .ok (.isub, 1) := by decide +kernel
theorem d_Mo_reduce_7 : decode b_Mo_reduce 7 = .ok (.putfield 137, 3) := by decide +kernel
theorem d_Mo_reduce_10 : decode b_Mo_reduce 10 = .ok (.aload_n 0, 1) := by decide +kernel
theorem d_Mo_reduce_11 : decode b_Mo_reduce 11 = .ok (.dup, 1) := by decide +kernel
theorem d_Mo_reduce_12 : decode b_Mo_reduce 12 = .ok (.getfield 140, 3) := by decide +kernel
theorem d_Mo_reduce_15 : decode b_Mo_reduce 15 = .ok (.iconst 1, 1) := by decide +kernel
theorem d_Mo_reduce_16 : decode b_Mo_reduce 16 = .ok (.isub, 1) := by decide +kernel
theorem d_Mo_reduce_17 : decode b_Mo_reduce 17 = .ok (.putfield 140, 3) := by decide +kernel
theorem d_Mo_reduce_20 : decode b_Mo_reduce 20 = .ok (.aload_n 0, 1) := by decide +kernel
theorem d_Mo_reduce_21 : decode b_Mo_reduce 21 = .ok (.getfield 32, 3) := by decide +kernel
theorem d_Mo_reduce_24 : decode b_Mo_reduce 24 = .ok (.aload_n 0, 1) := by decide +kernel
theorem d_Mo_reduce_25 : decode b_Mo_reduce 25 = .ok (.getfield 140, 3) := by decide +kernel
theorem d_Mo_reduce_28 : decode b_Mo_reduce 28 = .ok (.iconst 1, 1) := by decide +kernel
theorem d_Mo_reduce_29 : decode b_Mo_reduce 29 = .ok (.isub, 1) := by decide +kernel
theorem d_Mo_reduce_30 : decode b_Mo_reduce 30 = .ok (.iaload, 1) := by decide +kernel
theorem d_Mo_reduce_31 : decode b_Mo_reduce 31 = .ok (.istore_n 1, 1) := by decide +kernel
theorem d_Mo_reduce_32 : decode b_Mo_reduce 32 = .ok (.aload_n 0, 1) := by decide +kernel
theorem d_Mo_reduce_33 : decode b_Mo_reduce 33 = .ok (.getfield 32, 3) := by decide +kernel
theorem d_Mo_reduce_36 : decode b_Mo_reduce 36 = .ok (.aload_n 0, 1) := by decide +kernel
theorem d_Mo_reduce_37 : decode b_Mo_reduce 37 = .ok (.getfield 140, 3) := by decide +kernel
theorem d_Mo_reduce_40 : decode b_Mo_reduce 40 = .ok (.iaload, 1) := by decide +kernel
theorem d_Mo_reduce_41 : decode b_Mo_reduce 41 = .ok (.istore_n 2, 1) := by decide +kernel
theorem d_Mo_reduce_42 : decode b_Mo_reduce 42 = .ok (.aload_n 0, 1) := by decide +kernel
theorem d_Mo_reduce_43 : decode b_Mo_reduce 43 = .ok (.getfield 32, 3) := by decide +kernel
theorem d_Mo_reduce_46 : decode b_Mo_reduce 46 = .ok (.aload_n 0, 1) := by decide +kernel
theorem d_Mo_reduce_47 : decode b_Mo_reduce 47 = .ok (.getfield 140, 3) := by decide +kernel
theorem d_Mo_reduce_50 : decode b_Mo_reduce 50 = .ok (.iconst 1, 1) := by decide +kernel
theorem d_Mo_reduce_51 : decode b_Mo_reduce 51 = .ok (.isub, 1) := by decide +kernel
theorem d_Mo_reduce_52 : decode b_Mo_reduce 52 = .ok (.aload_n 0, 1) := by decide +kernel
theorem d_Mo_reduce_53 : decode b_Mo_reduce 53 = .ok (.getfield 35, 3) := by decide +kernel
theorem d_Mo_reduce_56 : decode b_Mo_reduce 56 = .ok (.aload_n 0, 1) := by decide +kernel
theorem d_Mo_reduce_57 : decode b_Mo_reduce 57 = .ok (.getfield 137, 3) := by decide +kernel
theorem d_Mo_reduce_60 : decode b_Mo_reduce 60 = .ok (.iaload, 1) := by decide +kernel
theorem d_Mo_reduce_61 : decode b_Mo_reduce 61 = .ok (.bipush 43, 2) := by decide +kernel
theorem d_Mo_reduce_63 : decode b_Mo_reduce 63 = .ok (.if_icmp .ne 9, 3) := by decide +kernel
theorem d_Mo_reduce_66 : decode b_Mo_reduce 66 = .ok (.iload_n 1, 1) := by decide +kernel
theorem d_Mo_reduce_67 : decode b_Mo_reduce 67 = .ok (.iload_n 2, 1) := by decide +kernel
theorem d_Mo_reduce_68 : decode b_Mo_reduce 68 = .ok (.iadd, 1) := by decide +kernel
theorem d_Mo_reduce_69 : decode b_Mo_reduce 69 = .ok (.goto 26, 3) := by decide +kernel
theorem d_Mo_reduce_72 : decode b_Mo_reduce 72 = .ok (.aload_n 0, 1) := by decide +kernel
theorem d_Mo_reduce_73 : decode b_Mo_reduce 73 = .ok (.getfield 35, 3) := by decide +kernel
theorem d_Mo_reduce_76 : decode b_Mo_reduce 76 = .ok (.aload_n 0, 1) := by decide +kernel
theorem d_Mo_reduce_77 : decode b_Mo_reduce 77 = .ok (.getfield 137, 3) := by decide +kernel
theorem d_Mo_reduce_80 : decode b_Mo_reduce 80 = .ok (.iaload, 1) := by decide +kernel
theorem d_Mo_reduce_81 : decode b_Mo_reduce 81 = .ok (.bipush 45, 2) := by decide +kernel
theorem d_Mo_reduce_83 : decode b_Mo_reduce 83 = .ok (.if_icmp .ne 9, 3) := by decide +kernel
theorem d_Mo_reduce_86 : decode b_Mo_reduce 86 = .ok (.iload_n 1, 1) := by decide +kernel
theorem d_Mo_reduce_87 : decode b_Mo_reduce 87 = .ok (.iload_n 2, 1) := by decide +kernel
theorem d_Mo_reduce_88 : decode b_Mo_reduce 88 = .ok (.isub, 1) := by decide +kernel
theorem d_Mo_reduce_89 : decode b_Mo_reduce 89 = .ok (.goto 6, 3) := by decide +kernel
theorem d_Mo_reduce_92 : decode b_Mo_reduce 92 = .ok (.iload_n 1, 1) := by decide +kernel
theorem d_Mo_reduce_93 : decode b_Mo_reduce 93 = .ok (.iload_n 2, 1) := by decide +kernel
theorem d_Mo_reduce_94 : decode b_Mo_reduce 94 = .ok (.imul, 1) := by decide +kernel
theorem d_Mo_reduce_95 : decode b_Mo_reduce 95 = .ok (.iastore, 1) := by decide +kernel
theorem d_Mo_reduce_96 : decode b_Mo_reduce 96 = .ok (.return_, 1) := by decide +kernel
theorem d_Mo_level_0 : decode b_Mo_level 0 = .ok (.iload_n 0, 1) := by decide +kernel
theorem d_Mo_level_1 : decode b_Mo_level 1 = .ok (.bipush 42, 2) := by decide +kernel
theorem d_Mo_level_3 : decode b_Mo_level 3 = .ok (.if_icmp .ne 7, 3) := by decide +kernel
theorem d_Mo_level_6 : decode b_Mo_level 6 = .ok (.iconst 2, 1) := by decide +kernel
theorem d_Mo_level_7 : decode b_Mo_level 7 = .ok (.goto 20, 3) := by decide +kernel
theorem d_Mo_level_10 : decode b_Mo_level 10 = .ok (.iload_n 0, 1) := by decide +kernel
theorem d_Mo_level_11 : decode b_Mo_level 11 = .ok (.bipush 43, 2) := by decide +kernel
theorem d_Mo_level_13 : decode b_Mo_level 13 = .ok (.if_icmp .eq 9, 3) := by decide +kernel
theorem d_Mo_level_16 : decode b_Mo_level 16 = .ok (.iload_n 0, 1) := by decide +kernel
theorem d_Mo_level_17 : decode b_Mo_level 17 = .ok (.bipush 45, 2) := by decide +kernel
theorem d_Mo_level_19 : decode b_Mo_level 19 = .ok (.if_icmp .ne 7, 3) := by decide +kernel
theorem d_Mo_level_22 : decode b_Mo_level 22 = .ok (.iconst 1, 1) := by decide +kernel
theorem d_Mo_level_23 : decode b_Mo_level 23 = .ok (.goto 4, 3) := by decide +kernel
theorem d_Mo_level_26 : decode b_Mo_level 26 = .ok (.iconst 0, 1) := by decide +kernel
theorem d_Mo_level_27 : decode b_Mo_level 27 = .ok (.ireturn, 1) := by decide +kernel
