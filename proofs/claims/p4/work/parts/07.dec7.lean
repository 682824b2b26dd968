theorem d_St_write_0 : decode b_St_write 0 = .ok (.aload_n 0, 1) := by decide +kernel
theorem d_St_write_1 : decode b_St_write 1 = .ok (.getfield 15, 3) := by decide +kernel
theorem d_St_write_4 : decode b_St_write 4 = .ok (.ifCond .ne 15, 3) := by decide +kernel
theorem d_St_write_7 : decode b_St_write 7 = .ok (.aload_n 0, 1) := by decide +kernel
theorem d_St_write_8 : decode b_St_write 8 = .ok (.iconst (-1), 1) := by decide +kernel
theorem d_St_write_9 : decode b_St_write 9 = .ok (.putfield 15, 3) := by decide +kernel
theorem d_St_write_12 : decode b_St_write 12 = .ok (.aload_n 0, 1) := by decide +kernel
theorem d_St_write_13 : decode b_St_write 13 = .ok (.iconst 1, 1) := by decide +kernel
theorem d_St_write_14 : decode b_St_write 14 = .ok (.putfield 19, 3) := by decide +kernel
theorem d_St_write_17 : decode b_St_write 17 = .ok (.iconst 0, 1) := by decide +kernel
theorem d_St_write_18 : decode b_St_write 18 = .ok (.ireturn, 1) := by decide +kernel
theorem d_St_write_19 : decode b_St_write 19 = .ok (.aload_n 0, 1) := by decide +kernel
theorem d_St_write_20 : decode b_St_write 20 = .ok (.getfield 15, 3) := by decide +kernel
theorem d_St_write_23 : decode b_St_write 23 = .ok (.ifCond .le 13, 3) := by decide +kernel
theorem d_St_write_26 : decode b_St_write 26 = .ok (.aload_n 0, 1) := by decide +kernel
theorem d_St_write_27 : decode b_St_write 27 = .ok (.dup, 1) := by decide +kernel
theorem d_St_write_28 : decode b_St_write 28 = .ok (.getfield 15, 3) := by decide +kernel
theorem d_St_write_31 : decode b_St_write 31 = .ok (.iconst 1, 1) := by decide +kernel
theorem d_St_write_32 : decode b_St_write 32 = .ok (.isub, 1) := by decide +kernel
theorem d_St_write_33 : decode b_St_write 33 = .ok (.putfield 15, 3) := by decide +kernel
theorem d_St_write_36 : decode b_St_write 36 = .ok (.iload_n 1, 1) := by decide +kernel
theorem d_St_write_37 : decode b_St_write 37 = .ok (.ifCond .lt 47, 3) := by decide +kernel
theorem d_St_write_40 : decode b_St_write 40 = .ok (.iload_n 1, 1) := by decide +kernel
theorem d_St_write_41 : decode b_St_write 41 = .ok (.bipush 32, 2) := by decide +kernel
theorem d_St_write_43 : decode b_St_write 43 = .ok (.if_icmp .ge 41, 3) := by decide +kernel
theorem d_St_write_46 : decode b_St_write 46 = .ok (.iload_n 3, 1) := by decide +kernel
theorem d_St_write_47 : decode b_St_write 47 = .ok (.ifCond .lt 37, 3) := by decide +kernel
theorem d_St_write_50 : decode b_St_write 50 = .ok (.iload_n 3, 1) := by decide +kernel
theorem d_St_write_51 : decode b_St_write 51 = .ok (.aload_n 2, 1) := by decide +kernel
theorem d_St_write_52 : decode b_St_write 52 = .ok (.arraylength, 1) := by decide +kernel
theorem d_St_write_53 : decode b_St_write 53 = .ok (.bipush 16, 2) := by decide +kernel
theorem d_St_write_55 : decode b_St_write 55 = .ok (.isub, 1) := by decide +kernel
theorem d_St_write_56 : decode b_St_write 56 = .ok (.if_icmp .gt 28, 3) := by decide +kernel
theorem d_St_write_59 : decode b_St_write 59 = .ok (.aload_n 2, 1) := by decide +kernel
theorem d_St_write_60 : decode b_St_write 60 = .ok (.iload_n 3, 1) := by decide +kernel
theorem d_St_write_61 : decode b_St_write 61 = .ok (.aload_n 0, 1) := by decide +kernel
theorem d_St_write_62 : decode b_St_write 62 = .ok (.getfield 9, 3) := by decide +kernel
theorem d_St_write_65 : decode b_St_write 65 = .ok (.iload_n 1, 1) := by decide +kernel
theorem d_St_write_66 : decode b_St_write 66 = .ok (.bipush 16, 2) := by decide +kernel
theorem d_St_write_68 : decode b_St_write 68 = .ok (.imul, 1) := by decide +kernel
theorem d_St_write_69 : decode b_St_write 69 = .ok (.bipush 16, 2) := by decide +kernel
theorem d_St_write_71 : decode b_St_write 71 = .ok (.invokestatic 26, 3) := by decide +kernel
theorem d_St_write_74 : decode b_St_write 74 = .ok (.aload_n 0, 1) := by decide +kernel
theorem d_St_write_75 : decode b_St_write 75 = .ok (.dup, 1) := by decide +kernel
theorem d_St_write_76 : decode b_St_write 76 = .ok (.getfield 23, 3) := by decide +kernel
theorem d_St_write_79 : decode b_St_write 79 = .ok (.iconst 1, 1) := by decide +kernel
theorem d_St_write_80 : decode b_St_write 80 = .ok (.iadd, 1) := by decide +kernel
theorem d_St_write_81 : decode b_St_write 81 = .ok (.putfield 23, 3) := by decide +kernel
theorem d_St_write_84 : decode b_St_write 84 = .ok (.iconst 1, 1) := by decide +kernel
theorem d_St_write_85 : decode b_St_write 85 = .ok (.ireturn, 1) := by decide +kernel
theorem d_St_copyBlock_0 : decode b_St_copyBlock 0 = .ok (.aload_n 0, 1) := by decide +kernel
theorem d_St_copyBlock_1 : decode b_St_copyBlock 1 = .ok (.iload_n 2, 1) := by decide +kernel
theorem d_St_copyBlock_2 : decode b_St_copyBlock 2 = .ok (.aload_n 0, 1) := by decide +kernel
theorem d_St_copyBlock_3 : decode b_St_copyBlock 3 = .ok (.getfield 9, 3) := by decide +kernel
theorem d_St_copyBlock_6 : decode b_St_copyBlock 6 = .ok (.iload_n 1, 1) := by decide +kernel
theorem d_St_copyBlock_7 : decode b_St_copyBlock 7 = .ok (.bipush 16, 2) := by decide +kernel
theorem d_St_copyBlock_9 : decode b_St_copyBlock 9 = .ok (.imul, 1) := by decide +kernel
theorem d_St_copyBlock_10 : decode b_St_copyBlock 10 = .ok (.invokevirtual 32, 3) := by decide +kernel
theorem d_St_copyBlock_13 : decode b_St_copyBlock 13 = .ok (.ireturn, 1) := by decide +kernel
theorem d_St_fileCells_0 : decode b_St_fileCells 0 = .ok (.aload_n 0, 1) := by decide +kernel
theorem d_St_fileCells_1 : decode b_St_fileCells 1 = .ok (.bipush 16, 2) := by decide +kernel
theorem d_St_fileCells_3 : decode b_St_fileCells 3 = .ok (.iconst 2, 1) := by decide +kernel
theorem d_St_fileCells_4 : decode b_St_fileCells 4 = .ok (.iload_n 1, 1) := by decide +kernel
theorem d_St_fileCells_5 : decode b_St_fileCells 5 = .ok (.imul, 1) := by decide +kernel
theorem d_St_fileCells_6 : decode b_St_fileCells 6 = .ok (.iadd, 1) := by decide +kernel
theorem d_St_fileCells_7 : decode b_St_fileCells 7 = .ok (.invokevirtual 36, 3) := by decide +kernel
theorem d_St_fileCells_10 : decode b_St_fileCells 10 = .ok (.ireturn, 1) := by decide +kernel
theorem d_St_fileStart_0 : decode b_St_fileStart 0 = .ok (.aload_n 0, 1) := by decide +kernel
theorem d_St_fileStart_1 : decode b_St_fileStart 1 = .ok (.bipush 16, 2) := by decide +kernel
theorem d_St_fileStart_3 : decode b_St_fileStart 3 = .ok (.iconst 2, 1) := by decide +kernel
theorem d_St_fileStart_4 : decode b_St_fileStart 4 = .ok (.iload_n 1, 1) := by decide +kernel
theorem d_St_fileStart_5 : decode b_St_fileStart 5 = .ok (.imul, 1) := by decide +kernel
theorem d_St_fileStart_6 : decode b_St_fileStart 6 = .ok (.iadd, 1) := by decide +kernel
theorem d_St_fileStart_7 : decode b_St_fileStart 7 = .ok (.iconst 1, 1) := by decide +kernel
theorem d_St_fileStart_8 : decode b_St_fileStart 8 = .ok (.iadd, 1) := by decide +kernel
theorem d_St_fileStart_9 : decode b_St_fileStart 9 = .ok (.invokevirtual 36, 3) := by decide +kernel
theorem d_St_fileStart_12 : decode b_St_fileStart 12 = .ok (.bipush 16, 2) := by decide +kernel
theorem d_St_fileStart_14 : decode b_St_fileStart 14 = .ok (.imul, 1) := by decide +kernel
theorem d_St_fileStart_15 : decode b_St_fileStart 15 = .ok (.ireturn, 1) := by decide +kernel
theorem d_St_room_0 : decode b_St_room 0 = .ok (.bipush 9, 2) := by decide +kernel
theorem d_St_room_2 : decode b_St_room 2 = .ok (.istore_n 3, 1) := by decide +kernel
theorem d_St_room_3 : decode b_St_room 3 = .ok (.iload_n 3, 1) := by decide +kernel
theorem d_St_room_4 : decode b_St_room 4 = .ok (.iload_n 1, 1) := by decide +kernel
theorem d_St_room_5 : decode b_St_room 5 = .ok (.iadd, 1) := by decide +kernel
theorem d_St_room_6 : decode b_St_room 6 = .ok (.bipush 32, 2) := by decide +kernel
theorem d_St_room_8 : decode b_St_room 8 = .ok (.if_icmp .gt 23, 3) := by decide +kernel
theorem d_St_room_11 : decode b_St_room 11 = .ok (.aload_n 0, 1) := by decide +kernel
theorem d_St_room_12 : decode b_St_room 12 = .ok (.iload_n 2, 1) := by decide +kernel
theorem d_St_room_13 : decode b_St_room 13 = .ok (.iload_n 3, 1) := by decide +kernel
theorem d_St_room_14 : decode b_St_room 14 = .ok (.iload_n 3, 1) := by decide +kernel
theorem d_St_room_15 : decode b_St_room 15 = .ok (.iload_n 1, 1) := by decide +kernel
theorem d_St_room_16 : decode b_St_room 16 = .ok (.iadd, 1) := by decide +kernel
theorem d_St_room_17 : decode b_St_room 17 = .ok (.invokevirtual 40, 3) := by decide +kernel
theorem d_St_room_20 : decode b_St_room 20 = .ok (.ifCond .eq 5, 3) := by decide +kernel
theorem d_St_room_23 : decode b_St_room 23 = .ok (.iload_n 3, 1) := by decide +kernel
theorem d_St_room_24 : decode b_St_room 24 = .ok (.ireturn, 1) := by decide +kernel
theorem d_St_room_25 : decode b_St_room 25 = .ok (.iinc 3 1, 3) := by decide +kernel
theorem d_St_room_28 : decode b_St_room 28 = .ok (.goto (-25), 3) := by decide +kernel
theorem d_St_room_31 : decode b_St_room 31 = .ok (.iconst (-1), 1) := by decide +kernel
theorem d_St_room_32 : decode b_St_room 32 = .ok (.ireturn, 1) := by decide +kernel
theorem d_St_isFreeFor_0 : decode b_St_isFreeFor 0 = .ok (.iconst 0, 1) := by decide +kernel
theorem d_St_isFreeFor_1 : decode b_St_isFreeFor 1 = .ok (.istore 4, 2) := by decide +kernel
theorem d_St_isFreeFor_3 : decode b_St_isFreeFor 3 = .ok (.iload 4, 2) := by decide +kernel
theorem d_St_isFreeFor_5 : decode b_St_isFreeFor 5 = .ok (.bipush 8, 2) := by decide +kernel
theorem d_St_isFreeFor_7 : decode b_St_isFreeFor 7 = .ok (.if_icmp .ge 54, 3) := by decide +kernel
theorem d_St_isFreeFor_10 : decode b_St_isFreeFor 10 = .ok (.aload_n 0, 1) := by decide +kernel
theorem d_St_isFreeFor_11 : decode b_St_isFreeFor 11 = .ok (.iload 4, 2) := by decide +kernel
theorem d_St_isFreeFor_13 : decode b_St_isFreeFor 13 = .ok (.invokevirtual 44, 3) := by decide +kernel
theorem d_St_isFreeFor_16 : decode b_St_isFreeFor 16 = .ok (.bipush 16, 2) := by decide +kernel
theorem d_St_isFreeFor_18 : decode b_St_isFreeFor 18 = .ok (.idiv, 1) := by decide +kernel
theorem d_St_isFreeFor_19 : decode b_St_isFreeFor 19 = .ok (.istore 5, 2) := by decide +kernel
theorem d_St_isFreeFor_21 : decode b_St_isFreeFor 21 = .ok (.iload 5, 2) := by decide +kernel
theorem d_St_isFreeFor_23 : decode b_St_isFreeFor 23 = .ok (.aload_n 0, 1) := by decide +kernel
theorem d_St_isFreeFor_24 : decode b_St_isFreeFor 24 = .ok (.iload 4, 2) := by decide +kernel
theorem d_St_isFreeFor_26 : decode b_St_isFreeFor 26 = .ok (.invokevirtual 47, 3) := by decide +kernel
theorem d_St_isFreeFor_29 : decode b_St_isFreeFor 29 = .ok (.invokestatic 50, 3) := by decide +kernel
theorem d_St_isFreeFor_32 : decode b_St_isFreeFor 32 = .ok (.iadd, 1) := by decide +kernel
theorem d_St_isFreeFor_33 : decode b_St_isFreeFor 33 = .ok (.istore 6, 2) := by decide +kernel
theorem d_St_isFreeFor_35 : decode b_St_isFreeFor 35 = .ok (.iload 4, 2) := by decide +kernel
theorem d_St_isFreeFor_37 : decode b_St_isFreeFor 37 = .ok (.iload_n 1, 1) := by decide +kernel
theorem d_St_isFreeFor_38 : decode b_St_isFreeFor 38 = .ok (.if_icmp .eq 17, 3) := by decide +kernel
theorem d_St_isFreeFor_41 : decode b_St_isFreeFor 41 = .ok (.iload 5, 2) := by decide +kernel
theorem d_St_isFreeFor_43 : decode b_St_isFreeFor 43 = .ok (.iload_n 3, 1) := by decide +kernel
theorem d_St_isFreeFor_44 : decode b_St_isFreeFor 44 = .ok (.if_icmp .ge 11, 3) := by decide +kernel
theorem d_St_isFreeFor_47 : decode b_St_isFreeFor 47 = .ok (.iload_n 2, 1) := by decide +kernel
theorem d_St_isFreeFor_48 : decode b_St_isFreeFor 48 = .ok (.iload 6, 2) := by decide +kernel
theorem d_St_isFreeFor_50 : decode b_St_isFreeFor 50 = .ok (.if_icmp .ge 5, 3) := by decide +kernel
theorem d_St_isFreeFor_53 : decode b_St_isFreeFor 53 = .ok (.iconst 0, 1) := by decide +kernel
theorem d_St_isFreeFor_54 : decode b_St_isFreeFor 54 = .ok (.ireturn, 1) := by decide +kernel
theorem d_St_isFreeFor_55 : decode b_St_isFreeFor 55 = .ok (.iinc 4 1, 3) := by decide +kernel
theorem d_St_isFreeFor_58 : decode b_St_isFreeFor 58 = .ok (.goto (-55), 3) := by decide +kernel
theorem d_St_isFreeFor_61 : decode b_St_isFreeFor 61 = .ok (.iconst 1, 1) := by decide +kernel
theorem d_St_isFreeFor_62 : decode b_St_isFreeFor 62 = .ok (.ireturn, 1) := by decide +kernel
theorem d_Wo_init_0 : decode b_Wo_init 0 = .ok (.aload_n 0, 1) := by decide +kernel
theorem d_Wo_init_1 : decode b_Wo_init 1 = .ok (.invokespecial 3, 3) := by decide +kernel
theorem d_Wo_init_4 : decode b_Wo_init 4 = .ok (.aload_n 0, 1) := by decide +kernel
theorem d_Wo_init_5 : decode b_Wo_init 5 = .ok (.bipush 10, 2) := by decide +kernel
theorem d_Wo_init_7 : decode b_Wo_init 7 = .ok (.newarray .int, 2) := by decide +kernel
theorem d_Wo_init_9 : decode b_Wo_init 9 = .ok (.putfield 9, 3) := by decide +kernel
theorem d_Wo_init_12 : decode b_Wo_init 12 = .ok (.aload_n 0, 1) := by decide +kernel
theorem d_Wo_init_13 : decode b_Wo_init 13 = .ok (.bipush 10, 2) := by decide +kernel
theorem d_Wo_init_15 : decode b_Wo_init 15 = .ok (.newarray .int, 2) := by decide +kernel
theorem d_Wo_init_17 : decode b_Wo_init 17 = .ok (.putfield 15, 3) := by decide +kernel
theorem d_Wo_init_20 : decode b_Wo_init 20 = .ok (.aload_n 0, 1) := by decide +kernel
theorem d_Wo_init_21 : decode b_Wo_init 21 = .ok (.bipush 120, 2) := by decide +kernel
theorem d_Wo_init_23 : decode b_Wo_init 23 = .ok (.newarray .int, 2) := by decide +kernel
theorem d_Wo_init_25 : decode b_Wo_init 25 = .ok (.putfield 18, 3) := by decide +kernel
theorem d_Wo_init_28 : decode b_Wo_init 28 = .ok (.aload_n 0, 1) := by decide +kernel
theorem d_Wo_init_29 : decode b_Wo_init 29 = .ok (.bipush 12, 2) := by decide +kernel
theorem d_Wo_init_31 : decode b_Wo_init 31 = .ok (.newarray .int, 2) := by decide +kernel
theorem d_Wo_init_33 : decode b_Wo_init 33 = .ok (.putfield 21, 3) := by decide +kernel
theorem d_Wo_init_36 : decode b_Wo_init 36 = .ok (.aload_n 0, 1) := by decide +kernel
theorem d_Wo_init_37 : decode b_Wo_init 37 = .ok (.bipush 8, 2) := by decide +kernel
theorem d_Wo_init_39 : decode b_Wo_init 39 = .ok (.newarray .int, 2) := by decide +kernel
theorem d_Wo_init_41 : decode b_Wo_init 41 = .ok (.putfield 24, 3) := by decide +kernel
theorem d_Wo_init_44 : decode b_Wo_init 44 = .ok (.aload_n 0, 1) := by decide +kernel
theorem d_Wo_init_45 : decode b_Wo_init 45 = .ok (.bipush 15, 2) := by decide +kernel
theorem d_Wo_init_47 : decode b_Wo_init 47 = .ok (.newarray .int, 2) := by decide +kernel
theorem d_Wo_init_49 : decode b_Wo_init 49 = .ok (.putfield 27, 3) := by decide +kernel
theorem d_Wo_init_52 : decode b_Wo_init 52 = .ok (.aload_n 0, 1) := by decide +kernel
theorem d_Wo_init_53 : decode b_Wo_init 53 = .ok (.iconst 0, 1) := by decide +kernel
theorem d_Wo_init_54 : decode b_Wo_init 54 = .ok (.putfield 30, 3) := by decide +kernel
theorem d_Wo_init_57 : decode b_Wo_init 57 = .ok (.aload_n 0, 1) := by decide +kernel
theorem d_Wo_init_58 : decode b_Wo_init 58 = .ok (.iconst 0, 1) := by decide +kernel
theorem d_Wo_init_59 : decode b_Wo_init 59 = .ok (.putfield 34, 3) := by decide +kernel
theorem d_Wo_init_62 : decode b_Wo_init 62 = .ok (.aload_n 0, 1) := by decide +kernel
theorem d_Wo_init_63 : decode b_Wo_init 63 = .ok (.iconst 0, 1) := by decide +kernel
theorem d_Wo_init_64 : decode b_Wo_init 64 = .ok (.putfield 37, 3) := by decide +kernel
theorem d_Wo_init_67 : decode b_Wo_init 67 = .ok (.return_, 1) := by decide +kernel
theorem d_Wo_empty_0 : decode b_Wo_empty 0 = .ok (.aload_n 0, 1) := by decide +kernel
theorem d_Wo_empty_1 : decode b_Wo_empty 1 = .ok (.iconst 0, 1) := by decide +kernel
theorem d_Wo_empty_2 : decode b_Wo_empty 2 = .ok (.putfield 30, 3) := by decide +kernel
theorem d_Wo_empty_5 : decode b_Wo_empty 5 = .ok (.aload_n 0, 1) := by decide +kernel
theorem d_Wo_empty_6 : decode b_Wo_empty 6 = .ok (.iconst 0, 1) := by decide +kernel
theorem d_Wo_empty_7 : decode b_Wo_empty 7 = .ok (.putfield 34, 3) := by decide +kernel
theorem d_Wo_empty_10 : decode b_Wo_empty 10 = .ok (.aload_n 0, 1) := by decide +kernel
theorem d_Wo_empty_11 : decode b_Wo_empty 11 = .ok (.iconst 0, 1) := by decide +kernel
theorem d_Wo_empty_12 : decode b_Wo_empty 12 = .ok (.putfield 37, 3) := by decide +kernel
theorem d_Wo_empty_15 : decode b_Wo_empty 15 = .ok (.aload_n 0, 1) := by decide +kernel
theorem d_Wo_empty_16 : decode b_Wo_empty 16 = .ok (.getfield 24, 3) := by decide +kernel
theorem d_Wo_empty_19 : decode b_Wo_empty 19 = .ok (.iconst 0, 1) := by decide +kernel
theorem d_Wo_empty_20 : decode b_Wo_empty 20 = .ok (.invokestatic 40, 3) := by decide +kernel
theorem d_Wo_empty_23 : decode b_Wo_empty 23 = .ok (.return_, 1) := by decide +kernel
theorem d_Wo_keepTyped_0 : decode b_Wo_keepTyped 0 = .ok (.aload_n 0, 1) := by decide +kernel
theorem d_Wo_keepTyped_1 : decode b_Wo_keepTyped 1 = .ok (.getfield 37, 3) := by decide +kernel
theorem d_Wo_keepTyped_4 : decode b_Wo_keepTyped 4 = .ok (.bipush 15, 2) := by decide +kernel
theorem d_Wo_keepTyped_6 : decode b_Wo_keepTyped 6 = .ok (.if_icmp .ge 23, 3) := by decide +kernel
theorem d_Wo_keepTyped_9 : decode b_Wo_keepTyped 9 = .ok (.aload_n 0, 1) := by decide +kernel
theorem d_Wo_keepTyped_10 : decode b_Wo_keepTyped 10 = .ok (.getfield 27, 3) := by decide +kernel
theorem d_Wo_keepTyped_13 : decode b_Wo_keepTyped 13 = .ok (.aload_n 0, 1) := by decide +kernel
theorem d_Wo_keepTyped_14 : decode b_Wo_keepTyped 14 = .ok (.getfield 37, 3) := by decide +kernel
theorem d_Wo_keepTyped_17 : decode b_Wo_keepTyped 17 = .ok (.iload_n 1, 1) := by decide +kernel
theorem d_Wo_keepTyped_18 : decode b_Wo_keepTyped 18 = .ok (.iastore, 1) := by decide +kernel
theorem d_Wo_keepTyped_19 : decode b_Wo_keepTyped 19 = .ok (.aload_n 0, 1) := by decide +kernel
theorem d_Wo_keepTyped_20 : decode b_Wo_keepTyped 20 = .ok (.dup, 1) := by decide +kernel
theorem d_Wo_keepTyped_21 : decode b_Wo_keepTyped 21 = .ok (.getfield 37, 3) := by decide +kernel
theorem d_Wo_keepTyped_24 : decode b_Wo_keepTyped 24 = .ok (.iconst 1, 1) := by decide +kernel
theorem d_Wo_keepTyped_25 : decode b_Wo_keepTyped 25 = .ok (.iadd, 1) := by decide +kernel
theorem d_Wo_keepTyped_26 : decode b_Wo_keepTyped 26 = .ok (.putfield 37, 3) := by decide +kernel
theorem d_Wo_keepTyped_29 : decode b_Wo_keepTyped 29 = .ok (.return_, 1) := by decide +kernel
theorem d_Wo_removeLines_0 : decode b_Wo_removeLines 0 = .ok (.aload_n 0, 1) := by decide +kernel
theorem d_Wo_removeLines_1 : decode b_Wo_removeLines 1 = .ok (.iconst 0, 1) := by decide +kernel
theorem d_Wo_removeLines_2 : decode b_Wo_removeLines 2 = .ok (.putfield 30, 3) := by decide +kernel
theorem d_Wo_removeLines_5 : decode b_Wo_removeLines 5 = .ok (.aload_n 0, 1) := by decide +kernel
theorem d_Wo_removeLines_6 : decode b_Wo_removeLines 6 = .ok (.iconst 0, 1) := by decide +kernel
theorem d_Wo_removeLines_7 : decode b_Wo_removeLines 7 = .ok (.putfield 34, 3) := by decide +kernel
theorem d_Wo_removeLines_10 : decode b_Wo_removeLines 10 = .ok (.return_, 1) := by decide +kernel
theorem d_Wo_clearVariables_0 : decode b_Wo_clearVariables 0 = .ok (.aload_n 0, 1) := by decide +kernel
theorem d_Wo_clearVariables_1 : decode b_Wo_clearVariables 1 = .ok (.getfield 24, 3) := by decide +kernel
theorem d_Wo_clearVariables_4 : decode b_Wo_clearVariables 4 = .ok (.iconst 0, 1) := by decide +kernel
theorem d_Wo_clearVariables_5 : decode b_Wo_clearVariables 5 = .ok (.invokestatic 40, 3) := by decide +kernel
theorem d_Wo_clearVariables_8 : decode b_Wo_clearVariables 8 = .ok (.return_, 1) := by decide +kernel
theorem d_Wo_nextLine_0 : decode b_Wo_nextLine 0 = .ok (.aload_n 0, 1) := by decide +kernel
theorem d_Wo_nextLine_1 : decode b_Wo_nextLine 1 = .ok (.aload_n 0, 1) := by decide +kernel
theorem d_Wo_nextLine_2 : decode b_Wo_nextLine 2 = .ok (.getfield 34, 3) := by decide +kernel
theorem d_Wo_nextLine_5 : decode b_Wo_nextLine 5 = .ok (.invokevirtual 46, 3) := by decide +kernel
theorem d_Wo_nextLine_8 : decode b_Wo_nextLine 8 = .ok (.istore_n 1, 1) := by decide +kernel
theorem d_Wo_nextLine_9 : decode b_Wo_nextLine 9 = .ok (.iload_n 1, 1) := by decide +kernel
theorem d_Wo_nextLine_10 : decode b_Wo_nextLine 10 = .ok (.aload_n 0, 1) := by decide +kernel
theorem d_Wo_nextLine_11 : decode b_Wo_nextLine 11 = .ok (.getfield 30, 3) := by decide +kernel
theorem d_Wo_nextLine_14 : decode b_Wo_nextLine 14 = .ok (.if_icmp .ge 7, 3) := by decide +kernel
theorem d_Wo_nextLine_17 : decode b_Wo_nextLine 17 = .ok (.iload_n 1, 1) := by decide +kernel
theorem d_Wo_nextLine_18 : decode b_Wo_nextLine 18 = .ok (.goto 4, 3) := by decide +kernel
theorem d_Wo_nextLine_21 : decode b_Wo_nextLine 21 = .ok (.iconst (-1), 1) := by decide +kernel
theorem d_Wo_nextLine_22 : decode b_Wo_nextLine 22 = .ok (.ireturn, 1) := by decide +kernel
theorem d_Wo_numberOf_0 : decode b_Wo_numberOf 0 = .ok (.iload_n 1, 1) := by decide +kernel
theorem d_Wo_numberOf_1 : decode b_Wo_numberOf 1 = .ok (.ifCond .lt 20, 3) := by decide +kernel
theorem d_Wo_numberOf_4 : decode b_Wo_numberOf 4 = .ok (.iload_n 1, 1) := by decide +kernel
theorem d_Wo_numberOf_5 : decode b_Wo_numberOf 5 = .ok (.aload_n 0, 1) := by decide +kernel
theorem d_Wo_numberOf_6 : decode b_Wo_numberOf 6 = .ok (.getfield 30, 3) := by decide +kernel
theorem d_Wo_numberOf_9 : decode b_Wo_numberOf 9 = .ok (.if_icmp .ge 12, 3) := by decide +kernel
theorem d_Wo_numberOf_12 : decode b_Wo_numberOf 12 = .ok (.aload_n 0, 1) := by decide +kernel
theorem d_Wo_numberOf_13 : decode b_Wo_numberOf 13 = .ok (.getfield 9, 3) := by decide +kernel
theorem d_Wo_numberOf_16 : decode b_Wo_numberOf 16 = .ok (.iload_n 1, 1) := by decide +kernel
theorem d_Wo_numberOf_17 : decode b_Wo_numberOf 17 = .ok (.iaload, 1) := by decide +kernel
theorem d_Wo_numberOf_18 : decode b_Wo_numberOf 18 = .ok (.goto 4, 3) := by decide +kernel
theorem d_Wo_numberOf_21 : decode b_Wo_numberOf 21 = .ok (.iconst 0, 1) := by decide +kernel
theorem d_Wo_numberOf_22 : decode b_Wo_numberOf 22 = .ok (.ireturn, 1) := by decide +kernel
theorem d_Wo_remove_0 : decode b_Wo_remove 0 = .ok (.aload_n 0, 1) := by decide +kernel
theorem d_Wo_remove_1 : decode b_Wo_remove 1 = .ok (.iload_n 1, 1) := by decide +kernel
theorem d_Wo_remove_2 : decode b_Wo_remove 2 = .ok (.invokevirtual 46, 3) := by decide +kernel
theorem d_Wo_remove_5 : decode b_Wo_remove 5 = .ok (.istore_n 2, 1) := by decide +kernel
theorem d_Wo_remove_6 : decode b_Wo_remove 6 = .ok (.aload_n 0, 1) := by decide +kernel
theorem d_Wo_remove_7 : decode b_Wo_remove 7 = .ok (.iload_n 2, 1) := by decide +kernel
theorem d_Wo_remove_8 : decode b_Wo_remove 8 = .ok (.invokevirtual 50, 3) := by decide +kernel
theorem d_Wo_remove_11 : decode b_Wo_remove 11 = .ok (.iload_n 1, 1) := by decide +kernel
theorem d_Wo_remove_12 : decode b_Wo_remove 12 = .ok (.if_icmp .ne 21, 3) := by decide +kernel
theorem d_Wo_remove_15 : decode b_Wo_remove 15 = .ok (.aload_n 0, 1) := by decide +kernel
theorem d_Wo_remove_16 : decode b_Wo_remove 16 = .ok (.iload_n 2, 1) := by decide +kernel
theorem d_Wo_remove_17 : decode b_Wo_remove 17 = .ok (.iconst 1, 1) := by decide +kernel
theorem d_Wo_remove_18 : decode b_Wo_remove 18 = .ok (.iadd, 1) := by decide +kernel
theorem d_Wo_remove_19 : decode b_Wo_remove 19 = .ok (.iload_n 2, 1) := by decide +kernel
theorem d_Wo_remove_20 : decode b_Wo_remove 20 = .ok (.invokevirtual 53, 3) := by decide +kernel
theorem d_Wo_remove_23 : decode b_Wo_remove 23 = .ok (.aload_n 0, 1) := by decide +kernel
theorem d_Wo_remove_24 : decode b_Wo_remove 24 = .ok (.dup, 1) := by decide +kernel
theorem d_Wo_remove_25 : decode b_Wo_remove 25 = .ok (.getfield 30, 3) := by decide +kernel
theorem d_Wo_remove_28 : decode b_Wo_remove 28 = .ok (.iconst 1, 1) := by decide +kernel
theorem d_Wo_remove_29 : decode b_Wo_remove 29 = .ok (.isub, 1) := by decide +kernel
theorem d_Wo_remove_30 : decode b_Wo_remove 30 = .ok (.putfield 30, 3) := by decide +kernel
theorem d_Wo_remove_33 : decode b_Wo_remove 33 = .ok (.return_, 1) := by decide +kernel
theorem d_Wo_put_0 : decode b_Wo_put 0 = .ok (.iload 4, 2) := by decide +kernel
theorem d_Wo_put_2 : decode b_Wo_put 2 = .ok (.iconst 1, 1) := by decide +kernel
theorem d_Wo_put_3 : decode b_Wo_put 3 = .ok (.if_icmp .lt 23, 3) := by decide +kernel
theorem d_Wo_put_6 : decode b_Wo_put 6 = .ok (.iload 4, 2) := by decide +kernel
theorem d_Wo_put_8 : decode b_Wo_put 8 = .ok (.bipush 12, 2) := by decide +kernel
theorem d_Wo_put_10 : decode b_Wo_put 10 = .ok (.if_icmp .gt 16, 3) := by decide +kernel
theorem d_Wo_put_13 : decode b_Wo_put 13 = .ok (.iload_n 3, 1) := by decide +kernel
theorem d_Wo_put_14 : decode b_Wo_put 14 = .ok (.ifCond .lt 12, 3) := by decide +kernel
theorem d_Wo_put_17 : decode b_Wo_put 17 = .ok (.iload_n 3, 1) := by decide +kernel
theorem d_Wo_put_18 : decode b_Wo_put 18 = .ok (.aload_n 2, 1) := by decide +kernel
theorem d_Wo_put_19 : decode b_Wo_put 19 = .ok (.arraylength, 1) := by decide +kernel
theorem d_Wo_put_20 : decode b_Wo_put 20 = .ok (.iload 4, 2) := by decide +kernel
theorem d_Wo_put_22 : decode b_Wo_put 22 = .ok (.isub, 1) := by decide +kernel
theorem d_Wo_put_23 : decode b_Wo_put 23 = .ok (.if_icmp .le 5, 3) := by decide +kernel
theorem d_Wo_put_26 : decode b_Wo_put 26 = .ok (.iconst 0, 1) := by decide +kernel
theorem d_Wo_put_27 : decode b_Wo_put 27 = .ok (.ireturn, 1) := by decide +kernel
theorem d_Wo_put_28 : decode b_Wo_put 28 = .ok (.aload_n 0, 1) := by decide +kernel
theorem d_Wo_put_29 : decode b_Wo_put 29 = .ok (.iload_n 1, 1) := by decide +kernel
theorem d_Wo_put_30 : decode b_Wo_put 30 = .ok (.invokevirtual 46, 3) := by decide +kernel
theorem d_Wo_put_33 : decode b_Wo_put 33 = .ok (.istore 5, 2) := by decide +kernel
theorem d_Wo_put_35 : decode b_Wo_put 35 = .ok (.aload_n 0, 1) := by decide +kernel
theorem d_Wo_put_36 : decode b_Wo_put 36 = .ok (.iload 5, 2) := by decide +kernel
theorem d_Wo_put_38 : decode b_Wo_put 38 = .ok (.invokevirtual 50, 3) := by decide +kernel
theorem d_Wo_put_41 : decode b_Wo_put 41 = .ok (.iload_n 1, 1) := by decide +kernel
theorem d_Wo_put_42 : decode b_Wo_put 42 = .ok (.if_icmp .eq 34, 3) := by decide +kernel
theorem d_Wo_put_45 : decode b_Wo_put 45 = .ok (.aload_n 0, 1) := by decide +kernel
theorem d_Wo_put_46 : decode b_Wo_put 46 = .ok (.getfield 30, 3) := by decide +kernel
theorem d_Wo_put_49 : decode b_Wo_put 49 = .ok (.bipush 10, 2) := by decide +kernel
theorem d_Wo_put_51 : decode b_Wo_put 51 = .ok (.if_icmp .ne 5, 3) := by decide +kernel
theorem d_Wo_put_54 : decode b_Wo_put 54 = .ok (.iconst 0, 1) := by decide +kernel
theorem d_Wo_put_55 : decode b_Wo_put 55 = .ok (.ireturn, 1) := by decide +kernel
theorem d_Wo_put_56 : decode b_Wo_put 56 = .ok (.aload_n 0, 1) := by decide +kernel
theorem d_Wo_put_57 : decode b_Wo_put 57 = .ok (.iload 5, 2) := by decide +kernel
theorem d_Wo_put_59 : decode b_Wo_put 59 = .ok (.iload 5, 2) := by decide +kernel
theorem d_Wo_put_61 : decode b_Wo_put 61 = .ok (.iconst 1, 1) := by decide +kernel
theorem d_Wo_put_62 : decode b_Wo_put 62 = .ok (.iadd, 1) := by decide +kernel
theorem d_Wo_put_63 : decode b_Wo_put 63 = .ok (.invokevirtual 53, 3) := by decide +kernel
theorem d_Wo_put_66 : decode b_Wo_put 66 = .ok (.aload_n 0, 1) := by decide +kernel
theorem d_Wo_put_67 : decode b_Wo_put 67 = .ok (.dup, 1) := by decide +kernel
theorem d_Wo_put_68 : decode b_Wo_put 68 = .ok (.getfield 30, 3) := by decide +kernel
theorem d_Wo_put_71 : decode b_Wo_put 71 = .ok (.iconst 1, 1) := by decide +kernel
theorem d_Wo_put_72 : decode b_Wo_put 72 = .ok (.iadd, 1) := by decide +kernel
theorem d_Wo_put_73 : decode b_Wo_put 73 = .ok (.putfield 30, 3) := by decide +kernel
theorem d_Wo_put_76 : decode b_Wo_put 76 = .ok (.aload_n 0, 1) := by decide +kernel
theorem d_Wo_put_77 : decode b_Wo_put 77 = .ok (.getfield 9, 3) := by decide +kernel
theorem d_Wo_put_80 : decode b_Wo_put 80 = .ok (.iload 5, 2) := by decide +kernel
theorem d_Wo_put_82 : decode b_Wo_put 82 = .ok (.iload_n 1, 1) := by decide +kernel
theorem d_Wo_put_83 : decode b_Wo_put 83 = .ok (.iastore, 1) := by decide +kernel
theorem d_Wo_put_84 : decode b_Wo_put 84 = .ok (.aload_n 0, 1) := by decide +kernel
theorem d_Wo_put_85 : decode b_Wo_put 85 = .ok (.getfield 15, 3) := by decide +kernel
theorem d_Wo_put_88 : decode b_Wo_put 88 = .ok (.iload 5, 2) := by decide +kernel
theorem d_Wo_put_90 : decode b_Wo_put 90 = .ok (.iload 4, 2) := by decide +kernel
theorem d_Wo_put_92 : decode b_Wo_put 92 = .ok (.iastore, 1) := by decide +kernel
theorem d_Wo_put_93 : decode b_Wo_put 93 = .ok (.aload_n 2, 1) := by decide +kernel
theorem d_Wo_put_94 : decode b_Wo_put 94 = .ok (.iload_n 3, 1) := by decide +kernel
theorem d_Wo_put_95 : decode b_Wo_put 95 = .ok (.aload_n 0, 1) := by decide +kernel
theorem d_Wo_put_96 : decode b_Wo_put 96 = .ok (.getfield 18, 3) := by decide +kernel
theorem d_Wo_put_99 : decode b_Wo_put 99 = .ok (.iload 5, 2) := by decide +kernel
theorem d_Wo_put_101 : decode b_Wo_put 101 = .ok (.bipush 12, 2) := by decide +kernel
theorem d_Wo_put_103 : decode b_Wo_put 103 = .ok (.imul, 1) := by decide +kernel
theorem d_Wo_put_104 : decode b_Wo_put 104 = .ok (.iload 4, 2) := by decide +kernel
theorem d_Wo_put_106 : decode b_Wo_put 106 = .ok (.invokestatic 57, 3) := by decide +kernel
theorem d_Wo_put_109 : decode b_Wo_put 109 = .ok (.iconst 1, 1) := by decide +kernel
theorem d_Wo_put_110 : decode b_Wo_put 110 = .ok (.ireturn, 1) := by decide +kernel
theorem d_Wo_tag_0 : decode b_Wo_tag 0 = .ok (.bipush 16, 2) := by decide +kernel
theorem d_Wo_tag_2 : decode b_Wo_tag 2 = .ok (.aload_n 0, 1) := by decide +kernel
theorem d_Wo_tag_3 : decode b_Wo_tag 3 = .ok (.getfield 9, 3) := by decide +kernel
theorem d_Wo_tag_6 : decode b_Wo_tag 6 = .ok (.iload_n 1, 1) := by decide +kernel
theorem d_Wo_tag_7 : decode b_Wo_tag 7 = .ok (.iaload, 1) := by decide +kernel
theorem d_Wo_tag_8 : decode b_Wo_tag 8 = .ok (.imul, 1) := by decide +kernel
theorem d_Wo_tag_9 : decode b_Wo_tag 9 = .ok (.aload_n 0, 1) := by decide +kernel
theorem d_Wo_tag_10 : decode b_Wo_tag 10 = .ok (.getfield 15, 3) := by decide +kernel
theorem d_Wo_tag_13 : decode b_Wo_tag 13 = .ok (.iload_n 1, 1) := by decide +kernel
theorem d_Wo_tag_14 : decode b_Wo_tag 14 = .ok (.iaload, 1) := by decide +kernel
theorem d_Wo_tag_15 : decode b_Wo_tag 15 = .ok (.iadd, 1) := by decide +kernel
theorem d_Wo_tag_16 : decode b_Wo_tag 16 = .ok (.ireturn, 1) := by decide +kernel
theorem d_Wo_packed_0 : decode b_Wo_packed 0 = .ok (.iconst 0, 1) := by decide +kernel
theorem d_Wo_packed_1 : decode b_Wo_packed 1 = .ok (.istore_n 3, 1) := by decide +kernel
theorem d_Wo_packed_2 : decode b_Wo_packed 2 = .ok (.iconst 0, 1) := by decide +kernel
theorem d_Wo_packed_3 : decode b_Wo_packed 3 = .ok (.istore 4, 2) := by decide +kernel
theorem d_Wo_packed_5 : decode b_Wo_packed 5 = .ok (.iload 4, 2) := by decide +kernel
theorem d_Wo_packed_7 : decode b_Wo_packed 7 = .ok (.iconst 4, 1) := by decide +kernel
theorem d_Wo_packed_8 : decode b_Wo_packed 8 = .ok (.if_icmp .ge 50, 3) := by decide +kernel
theorem d_Wo_packed_11 : decode b_Wo_packed 11 = .ok (.iconst 4, 1) := by decide +kernel
theorem d_Wo_packed_12 : decode b_Wo_packed 12 = .ok (.iload_n 2, 1) := by decide +kernel
theorem d_Wo_packed_13 : decode b_Wo_packed 13 = .ok (.imul, 1) := by decide +kernel
theorem d_Wo_packed_14 : decode b_Wo_packed 14 = .ok (.iload 4, 2) := by decide +kernel
theorem d_Wo_packed_16 : decode b_Wo_packed 16 = .ok (.iadd, 1) := by decide +kernel
theorem d_Wo_packed_17 : decode b_Wo_packed 17 = .ok (.istore 5, 2) := by decide +kernel
theorem d_Wo_packed_19 : decode b_Wo_packed 19 = .ok (.iload_n 3, 1) := by decide +kernel
theorem d_Wo_packed_20 : decode b_Wo_packed 20 = .ok (.bipush 8, 2) := by decide +kernel
theorem d_Wo_packed_22 : decode b_Wo_packed 22 = .ok (.ishl, 1) := by decide +kernel
theorem d_Wo_packed_23 : decode b_Wo_packed 23 = .ok (.iload 5, 2) := by decide +kernel
theorem d_Wo_packed_25 : decode b_Wo_packed 25 = .ok (.aload_n 0, 1) := by decide +kernel
theorem d_Wo_packed_26 : decode b_Wo_packed 26 = .ok (.getfield 15, 3) := by decide +kernel
theorem d_Wo_packed_29 : decode b_Wo_packed 29 = .ok (.iload_n 1, 1) := by decide +kernel
theorem d_Wo_packed_30 : decode b_Wo_packed 30 = .ok (.iaload, 1) := by decide +kernel
theorem d_Wo_packed_31 : decode b_Wo_packed 31 = .ok (.if_icmp .ge 18, 3) := by decide +kernel
theorem d_Wo_packed_34 : decode b_Wo_packed 34 = .ok (.aload_n 0, 1) := by decide +kernel
theorem d_Wo_packed_35 : decode b_Wo_packed 35 = .ok (.getfield 18, 3) := by decide +kernel
theorem d_Wo_packed_38 : decode b_Wo_packed 38 = .ok (.iload_n 1, 1) := by decide +kernel
theorem d_Wo_packed_39 : decode b_Wo_packed 39 = .ok (.bipush 12, 2) := by decide +kernel
theorem d_Wo_packed_41 : decode b_Wo_packed 41 = .ok (.imul, 1) := by decide +kernel
theorem d_Wo_packed_42 : decode b_Wo_packed 42 = .ok (.iload 5, 2) := by decide +kernel
theorem d_Wo_packed_44 : decode b_Wo_packed 44 = .ok (.iadd, 1) := by decide +kernel
theorem d_Wo_packed_45 : decode b_Wo_packed 45 = .ok (.iaload, 1) := by decide +kernel
theorem d_Wo_packed_46 : decode b_Wo_packed 46 = .ok (.goto 4, 3) := by decide +kernel
theorem d_Wo_packed_49 : decode b_Wo_packed 49 = .ok (.iconst 0, 1) := by decide +kernel
theorem d_Wo_packed_50 : decode b_Wo_packed 50 = .ok (.ior, 1) := by decide +kernel
theorem d_Wo_packed_51 : decode b_Wo_packed 51 = .ok (.istore_n 3, 1) := by decide +kernel
theorem d_Wo_packed_52 : decode b_Wo_packed 52 = .ok (.iinc 4 1, 3) := by decide +kernel
theorem d_Wo_packed_55 : decode b_Wo_packed 55 = .ok (.goto (-50), 3) := by decide +kernel
theorem d_Wo_packed_58 : decode b_Wo_packed 58 = .ok (.iload_n 3, 1) := by decide +kernel
theorem d_Wo_packed_59 : decode b_Wo_packed 59 = .ok (.ireturn, 1) := by decide +kernel
theorem d_Wo_putPacked_0 : decode b_Wo_putPacked 0 = .ok (.aload_n 0, 1) := by decide +kernel
theorem d_Wo_putPacked_1 : decode b_Wo_putPacked 1 = .ok (.iload_n 2, 1) := by decide +kernel
theorem d_Wo_putPacked_2 : decode b_Wo_putPacked 2 = .ok (.iconst 0, 1) := by decide +kernel
theorem d_Wo_putPacked_3 : decode b_Wo_putPacked 3 = .ok (.invokevirtual 63, 3) := by decide +kernel
theorem d_Wo_putPacked_6 : decode b_Wo_putPacked 6 = .ok (.aload_n 0, 1) := by decide +kernel
theorem d_Wo_putPacked_7 : decode b_Wo_putPacked 7 = .ok (.iload_n 3, 1) := by decide +kernel
theorem d_Wo_putPacked_8 : decode b_Wo_putPacked 8 = .ok (.iconst 4, 1) := by decide +kernel
theorem d_Wo_putPacked_9 : decode b_Wo_putPacked 9 = .ok (.invokevirtual 63, 3) := by decide +kernel
theorem d_Wo_putPacked_12 : decode b_Wo_putPacked 12 = .ok (.aload_n 0, 1) := by decide +kernel
theorem d_Wo_putPacked_13 : decode b_Wo_putPacked 13 = .ok (.iload 4, 2) := by decide +kernel
theorem d_Wo_putPacked_15 : decode b_Wo_putPacked 15 = .ok (.bipush 8, 2) := by decide +kernel
theorem d_Wo_putPacked_17 : decode b_Wo_putPacked 17 = .ok (.invokevirtual 63, 3) := by decide +kernel
theorem d_Wo_putPacked_20 : decode b_Wo_putPacked 20 = .ok (.aload_n 0, 1) := by decide +kernel
theorem d_Wo_putPacked_21 : decode b_Wo_putPacked 21 = .ok (.iload_n 1, 1) := by decide +kernel
theorem d_Wo_putPacked_22 : decode b_Wo_putPacked 22 = .ok (.bipush 16, 2) := by decide +kernel
theorem d_Wo_putPacked_24 : decode b_Wo_putPacked 24 = .ok (.idiv, 1) := by decide +kernel
theorem d_Wo_putPacked_25 : decode b_Wo_putPacked 25 = .ok (.aload_n 0, 1) := by decide +kernel
theorem d_Wo_putPacked_26 : decode b_Wo_putPacked 26 = .ok (.getfield 21, 3) := by decide +kernel
theorem d_Wo_putPacked_29 : decode b_Wo_putPacked 29 = .ok (.iconst 0, 1) := by decide +kernel
theorem d_Wo_putPacked_30 : decode b_Wo_putPacked 30 = .ok (.iload_n 1, 1) := by decide +kernel
theorem d_Wo_putPacked_31 : decode b_Wo_putPacked 31 = .ok (.bipush 16, 2) := by decide +kernel
theorem d_Wo_putPacked_33 : decode b_Wo_putPacked 33 = .ok (.irem, 1) := by decide +kernel
theorem d_Wo_putPacked_34 : decode b_Wo_putPacked 34 = .ok (.invokevirtual 66, 3) := by decide +kernel
theorem d_Wo_putPacked_37 : decode b_Wo_putPacked 37 = .ok (.pop, 1) := by decide +kernel
theorem d_Wo_putPacked_38 : decode b_Wo_putPacked 38 = .ok (.return_, 1) := by decide +kernel
theorem d_Wo_unpack_0 : decode b_Wo_unpack 0 = .ok (.iconst 0, 1) := by decide +kernel
theorem d_Wo_unpack_1 : decode b_Wo_unpack 1 = .ok (.istore_n 3, 1) := by decide +kernel
theorem d_Wo_unpack_2 : decode b_Wo_unpack 2 = .ok (.iload_n 3, 1) := by decide +kernel
theorem d_Wo_unpack_3 : decode b_Wo_unpack 3 = .ok (.iconst 4, 1) := by decide +kernel
theorem d_Wo_unpack_4 : decode b_Wo_unpack 4 = .ok (.if_icmp .ge 29, 3) := by decide +kernel
theorem d_Wo_unpack_7 : decode b_Wo_unpack 7 = .ok (.aload_n 0, 1) := by decide +kernel
theorem d_Wo_unpack_8 : decode b_Wo_unpack 8 = .ok (.getfield 21, 3) := by decide +kernel
theorem d_Wo_unpack_11 : decode b_Wo_unpack 11 = .ok (.iload_n 2, 1) := by decide +kernel
theorem d_Wo_unpack_12 : decode b_Wo_unpack 12 = .ok (.iload_n 3, 1) := by decide +kernel
theorem d_Wo_unpack_13 : decode b_Wo_unpack 13 = .ok (.iadd, 1) := by decide +kernel
theorem d_Wo_unpack_14 : decode b_Wo_unpack 14 = .ok (.iload_n 1, 1) := by decide +kernel
theorem d_Wo_unpack_15 : decode b_Wo_unpack 15 = .ok (.bipush 8, 2) := by decide +kernel
theorem d_Wo_unpack_17 : decode b_Wo_unpack 17 = .ok (.iconst 3, 1) := by decide +kernel
theorem d_Wo_unpack_18 : decode b_Wo_unpack 18 = .ok (.iload_n 3, 1) := by decide +kernel
theorem d_Wo_unpack_19 : decode b_Wo_unpack 19 = .ok (.isub, 1) := by decide +kernel
theorem d_Wo_unpack_20 : decode b_Wo_unpack 20 = .ok (.imul, 1) := by decide +kernel
theorem d_Wo_unpack_21 : decode b_Wo_unpack 21 = .ok (.ishr, 1) := by decide +kernel
theorem d_Wo_unpack_22 : decode b_Wo_unpack 22 = .ok (.sipush 255, 3) := by decide +kernel
theorem d_Wo_unpack_25 : decode b_Wo_unpack 25 = .ok (.iand, 1) := by decide +kernel
theorem d_Wo_unpack_26 : decode b_Wo_unpack 26 = .ok (.iastore, 1) := by decide +kernel
theorem d_Wo_unpack_27 : decode b_Wo_unpack 27 = .ok (.iinc 3 1, 3) := by decide +kernel
theorem d_Wo_unpack_30 : decode b_Wo_unpack 30 = .ok (.goto (-28), 3) := by decide +kernel
theorem d_Wo_unpack_33 : decode b_Wo_unpack 33 = .ok (.return_, 1) := by decide +kernel
theorem d_Wo_placeOf_0 : decode b_Wo_placeOf 0 = .ok (.iconst 0, 1) := by decide +kernel
theorem d_Wo_placeOf_1 : decode b_Wo_placeOf 1 = .ok (.istore_n 2, 1) := by decide +kernel
theorem d_Wo_placeOf_2 : decode b_Wo_placeOf 2 = .ok (.iload_n 2, 1) := by decide +kernel
theorem d_Wo_placeOf_3 : decode b_Wo_placeOf 3 = .ok (.aload_n 0, 1) := by decide +kernel
theorem d_Wo_placeOf_4 : decode b_Wo_placeOf 4 = .ok (.getfield 30, 3) := by decide +kernel
theorem d_Wo_placeOf_7 : decode b_Wo_placeOf 7 = .ok (.if_icmp .ge 19, 3) := by decide +kernel
theorem d_Wo_placeOf_10 : decode b_Wo_placeOf 10 = .ok (.aload_n 0, 1) := by decide +kernel
theorem d_Wo_placeOf_11 : decode b_Wo_placeOf 11 = .ok (.getfield 9, 3) := by decide +kernel
theorem d_Wo_placeOf_14 : decode b_Wo_placeOf 14 = .ok (.iload_n 2, 1) := by decide +kernel
theorem d_Wo_placeOf_15 : decode b_Wo_placeOf 15 = .ok (.iaload, 1) := by decide +kernel
theorem d_Wo_placeOf_16 : decode b_Wo_placeOf 16 = .ok (.iload_n 1, 1) := by decide +kernel
theorem d_Wo_placeOf_17 : decode b_Wo_placeOf 17 = .ok (.if_icmp .ge 9, 3) := by decide +kernel
theorem d_Wo_placeOf_20 : decode b_Wo_placeOf 20 = .ok (.iinc 2 1, 3) := by decide +kernel
theorem d_Wo_placeOf_23 : decode b_Wo_placeOf 23 = .ok (.goto (-21), 3) := by decide +kernel
theorem d_Wo_placeOf_26 : decode b_Wo_placeOf 26 = .ok (.iload_n 2, 1) := by decide +kernel
theorem d_Wo_placeOf_27 : decode b_Wo_placeOf 27 = .ok (.ireturn, 1) := by decide +kernel
theorem d_Wo_moveLines_0 : decode b_Wo_moveLines 0 = .ok (.aload_n 0, 1) := by decide +kernel
theorem d_Wo_moveLines_1 : decode b_Wo_moveLines 1 = .ok (.getfield 30, 3) := by decide +kernel
theorem d_Wo_moveLines_4 : decode b_Wo_moveLines 4 = .ok (.iload_n 1, 1) := by decide +kernel
theorem d_Wo_moveLines_5 : decode b_Wo_moveLines 5 = .ok (.isub, 1) := by decide +kernel
theorem d_Wo_moveLines_6 : decode b_Wo_moveLines 6 = .ok (.istore_n 3, 1) := by decide +kernel
theorem d_Wo_moveLines_7 : decode b_Wo_moveLines 7 = .ok (.aload_n 0, 1) := by decide +kernel
theorem d_Wo_moveLines_8 : decode b_Wo_moveLines 8 = .ok (.getfield 9, 3) := by decide +kernel
theorem d_Wo_moveLines_11 : decode b_Wo_moveLines 11 = .ok (.iload_n 1, 1) := by decide +kernel
theorem d_Wo_moveLines_12 : decode b_Wo_moveLines 12 = .ok (.aload_n 0, 1) := by decide +kernel
theorem d_Wo_moveLines_13 : decode b_Wo_moveLines 13 = .ok (.getfield 9, 3) := by decide +kernel
theorem d_Wo_moveLines_16 : decode b_Wo_moveLines 16 = .ok (.iload_n 2, 1) := by decide +kernel
theorem d_Wo_moveLines_17 : decode b_Wo_moveLines 17 = .ok (.iload_n 3, 1) := by decide +kernel
theorem d_Wo_moveLines_18 : decode b_Wo_moveLines 18 = .ok (.invokestatic 57, 3) := by decide +kernel
theorem d_Wo_moveLines_21 : decode b_Wo_moveLines 21 = .ok (.aload_n 0, 1) := by decide +kernel
theorem d_Wo_moveLines_22 : decode b_Wo_moveLines 22 = .ok (.getfield 15, 3) := by decide +kernel
theorem d_Wo_moveLines_25 : decode b_Wo_moveLines 25 = .ok (.iload_n 1, 1) := by decide +kernel
theorem d_Wo_moveLines_26 : decode b_Wo_moveLines 26 = .ok (.aload_n 0, 1) := by decide +kernel
theorem d_Wo_moveLines_27 : decode b_Wo_moveLines 27 = .ok (.getfield 15, 3) := by decide +kernel
theorem d_Wo_moveLines_30 : decode b_Wo_moveLines 30 = .ok (.iload_n 2, 1) := by decide +kernel
theorem d_Wo_moveLines_31 : decode b_Wo_moveLines 31 = .ok (.iload_n 3, 1) := by decide +kernel
theorem d_Wo_moveLines_32 : decode b_Wo_moveLines 32 = .ok (.invokestatic 57, 3) := by decide +kernel
theorem d_Wo_moveLines_35 : decode b_Wo_moveLines 35 = .ok (.aload_n 0, 1) := by decide +kernel
theorem d_Wo_moveLines_36 : decode b_Wo_moveLines 36 = .ok (.getfield 18, 3) := by decide +kernel
theorem d_Wo_moveLines_39 : decode b_Wo_moveLines 39 = .ok (.iload_n 1, 1) := by decide +kernel
theorem d_Wo_moveLines_40 : decode b_Wo_moveLines 40 = .ok (.bipush 12, 2) := by decide +kernel
theorem d_Wo_moveLines_42 : decode b_Wo_moveLines 42 = .ok (.imul, 1) := by decide +kernel
theorem d_Wo_moveLines_43 : decode b_Wo_moveLines 43 = .ok (.aload_n 0, 1) := by decide +kernel
theorem d_Wo_moveLines_44 : decode b_Wo_moveLines 44 = .ok (.getfield 18, 3) := by decide +kernel
theorem d_Wo_moveLines_47 : decode b_Wo_moveLines 47 = .ok (.iload_n 2, 1) := by decide +kernel
theorem d_Wo_moveLines_48 : decode b_Wo_moveLines 48 = .ok (.bipush 12, 2) := by decide +kernel
theorem d_Wo_moveLines_50 : decode b_Wo_moveLines 50 = .ok (.imul, 1) := by decide +kernel
theorem d_Wo_moveLines_51 : decode b_Wo_moveLines 51 = .ok (.iload_n 3, 1) := by decide +kernel
theorem d_Wo_moveLines_52 : decode b_Wo_moveLines 52 = .ok (.bipush 12, 2) := by decide +kernel
theorem d_Wo_moveLines_54 : decode b_Wo_moveLines 54 = .ok (.imul, 1) := by decide +kernel
theorem d_Wo_moveLines_55 : decode b_Wo_moveLines 55 = .ok (.invokestatic 57, 3) := by decide +kernel
theorem d_Wo_moveLines_58 : decode b_Wo_moveLines 58 = .ok (.return_, 1) := by decide +kernel
theorem d_La_arm_0 : decode b_La_arm 0 = .ok (.aload_n 2, 1) := by decide +kernel
theorem d_La_arm_1 : decode b_La_arm 1 = .ok (.iconst 0, 1) := by decide +kernel
theorem d_La_arm_2 : decode b_La_arm 2 = .ok (.aload_n 0, 1) := by decide +kernel
theorem d_La_arm_3 : decode b_La_arm 3 = .ok (.iload_n 1, 1) := by decide +kernel
theorem d_La_arm_4 : decode b_La_arm 4 = .ok (.invokevirtual 7, 3) := by decide +kernel
theorem d_La_arm_7 : decode b_La_arm 7 = .ok (.ifCond .eq 7, 3) := by decide +kernel
theorem d_La_arm_10 : decode b_La_arm 10 = .ok (.lconst 1, 1) := by decide +kernel
theorem d_La_arm_11 : decode b_La_arm 11 = .ok (.goto 4, 3) := by decide +kernel
theorem d_La_arm_14 : decode b_La_arm 14 = .ok (.lconst 0, 1) := by decide +kernel
theorem d_La_arm_15 : decode b_La_arm 15 = .ok (.lastore, 1) := by decide +kernel
theorem d_La_arm_16 : decode b_La_arm 16 = .ok (.goto 6, 3) := by decide +kernel
theorem d_La_arm_19 : decode b_La_arm 19 = .ok (.astore_n 3, 1) := by decide +kernel
theorem d_La_arm_20 : decode b_La_arm 20 = .ok (.iconst 1, 1) := by decide +kernel
theorem d_La_arm_21 : decode b_La_arm 21 = .ok (.ireturn, 1) := by decide +kernel
theorem d_La_arm_22 : decode b_La_arm 22 = .ok (.iconst 0, 1) := by decide +kernel
theorem d_La_arm_23 : decode b_La_arm 23 = .ok (.ireturn, 1) := by decide +kernel
theorem d_La_out_0 : decode b_La_out 0 = .ok (.aload_n 2, 1) := by decide +kernel
theorem d_La_out_1 : decode b_La_out 1 = .ok (.iconst 0, 1) := by decide +kernel
theorem d_La_out_2 : decode b_La_out 2 = .ok (.aload_n 0, 1) := by decide +kernel
theorem d_La_out_3 : decode b_La_out 3 = .ok (.iload_n 1, 1) := by decide +kernel
theorem d_La_out_4 : decode b_La_out 4 = .ok (.invokevirtual 15, 3) := by decide +kernel
theorem d_La_out_7 : decode b_La_out 7 = .ok (.i2l, 1) := by decide +kernel
theorem d_La_out_8 : decode b_La_out 8 = .ok (.lastore, 1) := by decide +kernel
theorem d_La_out_9 : decode b_La_out 9 = .ok (.goto 6, 3) := by decide +kernel
theorem d_La_out_12 : decode b_La_out 12 = .ok (.astore_n 3, 1) := by decide +kernel
theorem d_La_out_13 : decode b_La_out 13 = .ok (.iconst 1, 1) := by decide +kernel
theorem d_La_out_14 : decode b_La_out 14 = .ok (.ireturn, 1) := by decide +kernel
theorem d_La_out_15 : decode b_La_out 15 = .ok (.iconst 0, 1) := by decide +kernel
theorem d_La_out_16 : decode b_La_out 16 = .ok (.ireturn, 1) := by decide +kernel
theorem d_La_disk_0 : decode b_La_disk 0 = .ok (.aload_n 2, 1) := by decide +kernel
theorem d_La_disk_1 : decode b_La_disk 1 = .ok (.iconst 0, 1) := by decide +kernel
theorem d_La_disk_2 : decode b_La_disk 2 = .ok (.aload_n 0, 1) := by decide +kernel
theorem d_La_disk_3 : decode b_La_disk 3 = .ok (.iload_n 1, 1) := by decide +kernel
theorem d_La_disk_4 : decode b_La_disk 4 = .ok (.invokevirtual 21, 3) := by decide +kernel
theorem d_La_disk_7 : decode b_La_disk 7 = .ok (.i2l, 1) := by decide +kernel
theorem d_La_disk_8 : decode b_La_disk 8 = .ok (.lastore, 1) := by decide +kernel
theorem d_La_disk_9 : decode b_La_disk 9 = .ok (.goto 6, 3) := by decide +kernel
theorem d_La_disk_12 : decode b_La_disk 12 = .ok (.astore_n 3, 1) := by decide +kernel
theorem d_La_disk_13 : decode b_La_disk 13 = .ok (.iconst 1, 1) := by decide +kernel
theorem d_La_disk_14 : decode b_La_disk 14 = .ok (.ireturn, 1) := by decide +kernel
theorem d_La_disk_15 : decode b_La_disk 15 = .ok (.iconst 0, 1) := by decide +kernel
theorem d_La_disk_16 : decode b_La_disk 16 = .ok (.ireturn, 1) := by decide +kernel
theorem d_La_law_0 : decode b_La_law 0 = .ok (.new 8, 3) := by decide +kernel
theorem d_La_law_3 : decode b_La_law 3 = .ok (.dup, 1) := by decide +kernel
theorem d_La_law_4 : decode b_La_law 4 = .ok (.invokespecial 24, 3) := by decide +kernel
theorem d_La_law_7 : decode b_La_law 7 = .ok (.astore_n 1, 1) := by decide +kernel
theorem d_La_law_8 : decode b_La_law 8 = .ok (.new 25, 3) := by decide +kernel
theorem d_La_law_11 : decode b_La_law 11 = .ok (.dup, 1) := by decide +kernel
theorem d_La_law_12 : decode b_La_law 12 = .ok (.invokespecial 27, 3) := by decide +kernel
theorem d_La_law_15 : decode b_La_law 15 = .ok (.astore_n 2, 1) := by decide +kernel
theorem d_La_law_16 : decode b_La_law 16 = .ok (.iconst 1, 1) := by decide +kernel
theorem d_La_law_17 : decode b_La_law 17 = .ok (.newarray .long, 2) := by decide +kernel
theorem d_La_law_19 : decode b_La_law 19 = .ok (.astore_n 3, 1) := by decide +kernel
theorem d_La_law_20 : decode b_La_law 20 = .ok (.iconst 0, 1) := by decide +kernel
theorem d_La_law_21 : decode b_La_law 21 = .ok (.istore 4, 2) := by decide +kernel
theorem d_La_law_23 : decode b_La_law 23 = .ok (.iload 4, 2) := by decide +kernel
theorem d_La_law_25 : decode b_La_law 25 = .ok (.aload_n 0, 1) := by decide +kernel
theorem d_La_law_26 : decode b_La_law 26 = .ok (.arraylength, 1) := by decide +kernel
theorem d_La_law_27 : decode b_La_law 27 = .ok (.iconst 2, 1) := by decide +kernel
theorem d_La_law_28 : decode b_La_law 28 = .ok (.isub, 1) := by decide +kernel
theorem d_La_law_29 : decode b_La_law 29 = .ok (.if_icmp .gt 280, 3) := by decide +kernel
theorem d_La_law_32 : decode b_La_law 32 = .ok (.aload_n 0, 1) := by decide +kernel
theorem d_La_law_33 : decode b_La_law 33 = .ok (.iload 4, 2) := by decide +kernel
theorem d_La_law_35 : decode b_La_law 35 = .ok (.iaload, 1) := by decide +kernel
theorem d_La_law_36 : decode b_La_law 36 = .ok (.bipush 15, 2) := by decide +kernel
theorem d_La_law_38 : decode b_La_law 38 = .ok (.iand, 1) := by decide +kernel
theorem d_La_law_39 : decode b_La_law 39 = .ok (.tableswitch 264 0 9 #[53, 66, 79, 104, 129, 157, 185, 198, 226, 239], 53) := by decide +kernel
theorem d_La_law_92 : decode b_La_law 92 = .ok (.aload_n 1, 1) := by decide +kernel
theorem d_La_law_93 : decode b_La_law 93 = .ok (.invokevirtual 28, 3) := by decide +kernel
theorem d_La_law_96 : decode b_La_law 96 = .ok (.pop, 1) := by decide +kernel
theorem d_La_law_97 : decode b_La_law 97 = .ok (.aload_n 2, 1) := by decide +kernel
theorem d_La_law_98 : decode b_La_law 98 = .ok (.invokevirtual 32, 3) := by decide +kernel
theorem d_La_law_101 : decode b_La_law 101 = .ok (.pop, 1) := by decide +kernel
theorem d_La_law_102 : decode b_La_law 102 = .ok (.goto 201, 3) := by decide +kernel
theorem d_La_law_105 : decode b_La_law 105 = .ok (.aload_n 1, 1) := by decide +kernel
theorem d_La_law_106 : decode b_La_law 106 = .ok (.invokevirtual 33, 3) := by decide +kernel
theorem d_La_law_109 : decode b_La_law 109 = .ok (.pop, 1) := by decide +kernel
theorem d_La_law_110 : decode b_La_law 110 = .ok (.aload_n 2, 1) := by decide +kernel
theorem d_La_law_111 : decode b_La_law 111 = .ok (.invokevirtual 36, 3) := by decide +kernel
theorem d_La_law_114 : decode b_La_law 114 = .ok (.pop, 1) := by decide +kernel
theorem d_La_law_115 : decode b_La_law 115 = .ok (.goto 188, 3) := by decide +kernel
theorem d_La_law_118 : decode b_La_law 118 = .ok (.aload_n 1, 1) := by decide +kernel
theorem d_La_law_119 : decode b_La_law 119 = .ok (.aload_n 0, 1) := by decide +kernel
theorem d_La_law_120 : decode b_La_law 120 = .ok (.iload 4, 2) := by decide +kernel
theorem d_La_law_122 : decode b_La_law 122 = .ok (.iconst 1, 1) := by decide +kernel
theorem d_La_law_123 : decode b_La_law 123 = .ok (.iadd, 1) := by decide +kernel
theorem d_La_law_124 : decode b_La_law 124 = .ok (.iaload, 1) := by decide +kernel
theorem d_La_law_125 : decode b_La_law 125 = .ok (.invokevirtual 37, 3) := by decide +kernel
theorem d_La_law_128 : decode b_La_law 128 = .ok (.aload_n 2, 1) := by decide +kernel
theorem d_La_law_129 : decode b_La_law 129 = .ok (.aload_n 0, 1) := by decide +kernel
theorem d_La_law_130 : decode b_La_law 130 = .ok (.iload 4, 2) := by decide +kernel
theorem d_La_law_132 : decode b_La_law 132 = .ok (.iconst 1, 1) := by decide +kernel
theorem d_La_law_133 : decode b_La_law 133 = .ok (.iadd, 1) := by decide +kernel
theorem d_La_law_134 : decode b_La_law 134 = .ok (.iaload, 1) := by decide +kernel
theorem d_La_law_135 : decode b_La_law 135 = .ok (.invokevirtual 40, 3) := by decide +kernel
theorem d_La_law_138 : decode b_La_law 138 = .ok (.if_icmp .eq 165, 3) := by decide +kernel
theorem d_La_law_141 : decode b_La_law 141 = .ok (.iconst 0, 1) := by decide +kernel
theorem d_La_law_142 : decode b_La_law 142 = .ok (.ireturn, 1) := by decide +kernel
theorem d_La_law_143 : decode b_La_law 143 = .ok (.aload_n 1, 1) := by decide +kernel
theorem d_La_law_144 : decode b_La_law 144 = .ok (.aload_n 0, 1) := by decide +kernel
theorem d_La_law_145 : decode b_La_law 145 = .ok (.iload 4, 2) := by decide +kernel
theorem d_La_law_147 : decode b_La_law 147 = .ok (.iconst 1, 1) := by decide +kernel
theorem d_La_law_148 : decode b_La_law 148 = .ok (.iadd, 1) := by decide +kernel
theorem d_La_law_149 : decode b_La_law 149 = .ok (.iaload, 1) := by decide +kernel
theorem d_La_law_150 : decode b_La_law 150 = .ok (.invokevirtual 41, 3) := by decide +kernel
theorem d_La_law_153 : decode b_La_law 153 = .ok (.pop, 1) := by decide +kernel
theorem d_La_law_154 : decode b_La_law 154 = .ok (.aload_n 2, 1) := by decide +kernel
theorem d_La_law_155 : decode b_La_law 155 = .ok (.aload_n 0, 1) := by decide +kernel
theorem d_La_law_156 : decode b_La_law 156 = .ok (.iload 4, 2) := by decide +kernel
theorem d_La_law_158 : decode b_La_law 158 = .ok (.iconst 1, 1) := by decide +kernel
theorem d_La_law_159 : decode b_La_law 159 = .ok (.iadd, 1) := by decide +kernel
theorem d_La_law_160 : decode b_La_law 160 = .ok (.iaload, 1) := by decide +kernel
theorem d_La_law_161 : decode b_La_law 161 = .ok (.invokevirtual 44, 3) := by decide +kernel
theorem d_La_law_164 : decode b_La_law 164 = .ok (.pop, 1) := by decide +kernel
theorem d_La_law_165 : decode b_La_law 165 = .ok (.goto 138, 3) := by decide +kernel
theorem d_La_law_168 : decode b_La_law 168 = .ok (.aload_n 1, 1) := by decide +kernel
theorem d_La_law_169 : decode b_La_law 169 = .ok (.aload_n 0, 1) := by decide +kernel
theorem d_La_law_170 : decode b_La_law 170 = .ok (.iload 4, 2) := by decide +kernel
theorem d_La_law_172 : decode b_La_law 172 = .ok (.iconst 1, 1) := by decide +kernel
theorem d_La_law_173 : decode b_La_law 173 = .ok (.iadd, 1) := by decide +kernel
theorem d_La_law_174 : decode b_La_law 174 = .ok (.iaload, 1) := by decide +kernel
theorem d_La_law_175 : decode b_La_law 175 = .ok (.aload_n 3, 1) := by decide +kernel
theorem d_La_law_176 : decode b_La_law 176 = .ok (.invokestatic 45, 3) := by decide +kernel
theorem d_La_law_179 : decode b_La_law 179 = .ok (.istore 5, 2) := by decide +kernel
theorem d_La_law_181 : decode b_La_law 181 = .ok (.aload_n 2, 1) := by decide +kernel
theorem d_La_law_182 : decode b_La_law 182 = .ok (.aload_n 0, 1) := by decide +kernel
theorem d_La_law_183 : decode b_La_law 183 = .ok (.iload 4, 2) := by decide +kernel
theorem d_La_law_185 : decode b_La_law 185 = .ok (.iconst 1, 1) := by decide +kernel
theorem d_La_law_186 : decode b_La_law 186 = .ok (.iadd, 1) := by decide +kernel
theorem d_La_law_187 : decode b_La_law 187 = .ok (.iaload, 1) := by decide +kernel
theorem d_La_law_188 : decode b_La_law 188 = .ok (.invokevirtual 50, 3) := by decide +kernel
theorem d_La_law_191 : decode b_La_law 191 = .ok (.istore 6, 2) := by decide +kernel
theorem d_La_law_193 : decode b_La_law 193 = .ok (.goto 110, 3) := by decide +kernel
theorem d_La_law_196 : decode b_La_law 196 = .ok (.aload_n 1, 1) := by decide +kernel
theorem d_La_law_197 : decode b_La_law 197 = .ok (.aload_n 0, 1) := by decide +kernel
theorem d_La_law_198 : decode b_La_law 198 = .ok (.iload 4, 2) := by decide +kernel
theorem d_La_law_200 : decode b_La_law 200 = .ok (.iconst 1, 1) := by decide +kernel
theorem d_La_law_201 : decode b_La_law 201 = .ok (.iadd, 1) := by decide +kernel
theorem d_La_law_202 : decode b_La_law 202 = .ok (.iaload, 1) := by decide +kernel
theorem d_La_law_203 : decode b_La_law 203 = .ok (.aload_n 3, 1) := by decide +kernel
theorem d_La_law_204 : decode b_La_law 204 = .ok (.invokestatic 51, 3) := by decide +kernel
theorem d_La_law_207 : decode b_La_law 207 = .ok (.istore 5, 2) := by decide +kernel
theorem d_La_law_209 : decode b_La_law 209 = .ok (.aload_n 2, 1) := by decide +kernel
theorem d_La_law_210 : decode b_La_law 210 = .ok (.aload_n 0, 1) := by decide +kernel
theorem d_La_law_211 : decode b_La_law 211 = .ok (.iload 4, 2) := by decide +kernel
theorem d_La_law_213 : decode b_La_law 213 = .ok (.iconst 1, 1) := by decide +kernel
theorem d_La_law_214 : decode b_La_law 214 = .ok (.iadd, 1) := by decide +kernel
theorem d_La_law_215 : decode b_La_law 215 = .ok (.iaload, 1) := by decide +kernel
theorem d_La_law_216 : decode b_La_law 216 = .ok (.invokevirtual 53, 3) := by decide +kernel
theorem d_La_law_219 : decode b_La_law 219 = .ok (.istore 6, 2) := by decide +kernel
theorem d_La_law_221 : decode b_La_law 221 = .ok (.goto 82, 3) := by decide +kernel
theorem d_La_law_224 : decode b_La_law 224 = .ok (.aload_n 1, 1) := by decide +kernel
theorem d_La_law_225 : decode b_La_law 225 = .ok (.invokevirtual 54, 3) := by decide +kernel
theorem d_La_law_228 : decode b_La_law 228 = .ok (.pop, 1) := by decide +kernel
theorem d_La_law_229 : decode b_La_law 229 = .ok (.aload_n 2, 1) := by decide +kernel
theorem d_La_law_230 : decode b_La_law 230 = .ok (.invokevirtual 57, 3) := by decide +kernel
theorem d_La_law_233 : decode b_La_law 233 = .ok (.pop, 1) := by decide +kernel
theorem d_La_law_234 : decode b_La_law 234 = .ok (.goto 69, 3) := by decide +kernel
theorem d_La_law_237 : decode b_La_law 237 = .ok (.aload_n 1, 1) := by decide +kernel
theorem d_La_law_238 : decode b_La_law 238 = .ok (.aload_n 0, 1) := by decide +kernel
theorem d_La_law_239 : decode b_La_law 239 = .ok (.iload 4, 2) := by decide +kernel
theorem d_La_law_241 : decode b_La_law 241 = .ok (.iconst 1, 1) := by decide +kernel
theorem d_La_law_242 : decode b_La_law 242 = .ok (.iadd, 1) := by decide +kernel
theorem d_La_law_243 : decode b_La_law 243 = .ok (.iaload, 1) := by decide +kernel
theorem d_La_law_244 : decode b_La_law 244 = .ok (.aload_n 3, 1) := by decide +kernel
theorem d_La_law_245 : decode b_La_law 245 = .ok (.invokestatic 58, 3) := by decide +kernel
theorem d_La_law_248 : decode b_La_law 248 = .ok (.istore 5, 2) := by decide +kernel
theorem d_La_law_250 : decode b_La_law 250 = .ok (.aload_n 2, 1) := by decide +kernel
theorem d_La_law_251 : decode b_La_law 251 = .ok (.aload_n 0, 1) := by decide +kernel
theorem d_La_law_252 : decode b_La_law 252 = .ok (.iload 4, 2) := by decide +kernel
theorem d_La_law_254 : decode b_La_law 254 = .ok (.iconst 1, 1) := by decide +kernel
theorem d_La_law_255 : decode b_La_law 255 = .ok (.iadd, 1) := by decide +kernel
theorem d_La_law_256 : decode b_La_law 256 = .ok (.iaload, 1) := by decide +kernel
theorem d_La_law_257 : decode b_La_law 257 = .ok (.invokevirtual 60, 3) := by decide +kernel
theorem d_La_law_260 : decode b_La_law 260 = .ok (.istore 6, 2) := by decide +kernel
theorem d_La_law_262 : decode b_La_law 262 = .ok (.goto 41, 3) := by decide +kernel
theorem d_La_law_265 : decode b_La_law 265 = .ok (.aload_n 1, 1) := by decide +kernel
theorem d_La_law_266 : decode b_La_law 266 = .ok (.invokevirtual 61, 3) := by decide +kernel
theorem d_La_law_269 : decode b_La_law 269 = .ok (.pop, 1) := by decide +kernel
theorem d_La_law_270 : decode b_La_law 270 = .ok (.aload_n 2, 1) := by decide +kernel
theorem d_La_law_271 : decode b_La_law 271 = .ok (.invokevirtual 64, 3) := by decide +kernel
theorem d_La_law_274 : decode b_La_law 274 = .ok (.pop, 1) := by decide +kernel
theorem d_La_law_275 : decode b_La_law 275 = .ok (.goto 28, 3) := by decide +kernel
theorem d_La_law_278 : decode b_La_law 278 = .ok (.aload_n 1, 1) := by decide +kernel
theorem d_La_law_279 : decode b_La_law 279 = .ok (.aload_n 0, 1) := by decide +kernel
theorem d_La_law_280 : decode b_La_law 280 = .ok (.iload 4, 2) := by decide +kernel
theorem d_La_law_282 : decode b_La_law 282 = .ok (.iconst 1, 1) := by decide +kernel
theorem d_La_law_283 : decode b_La_law 283 = .ok (.iadd, 1) := by decide +kernel
theorem d_La_law_284 : decode b_La_law 284 = .ok (.iaload, 1) := by decide +kernel
theorem d_La_law_285 : decode b_La_law 285 = .ok (.invokevirtual 65, 3) := by decide +kernel
theorem d_La_law_288 : decode b_La_law 288 = .ok (.pop, 1) := by decide +kernel
theorem d_La_law_289 : decode b_La_law 289 = .ok (.aload_n 2, 1) := by decide +kernel
theorem d_La_law_290 : decode b_La_law 290 = .ok (.aload_n 0, 1) := by decide +kernel
theorem d_La_law_291 : decode b_La_law 291 = .ok (.iload 4, 2) := by decide +kernel
theorem d_La_law_293 : decode b_La_law 293 = .ok (.iconst 1, 1) := by decide +kernel
theorem d_La_law_294 : decode b_La_law 294 = .ok (.iadd, 1) := by decide +kernel
theorem d_La_law_295 : decode b_La_law 295 = .ok (.iaload, 1) := by decide +kernel
theorem d_La_law_296 : decode b_La_law 296 = .ok (.invokevirtual 68, 3) := by decide +kernel
theorem d_La_law_299 : decode b_La_law 299 = .ok (.pop, 1) := by decide +kernel
theorem d_La_law_300 : decode b_La_law 300 = .ok (.goto 3, 3) := by decide +kernel
theorem d_La_law_303 : decode b_La_law 303 = .ok (.iinc 4 2, 3) := by decide +kernel
theorem d_La_law_306 : decode b_La_law 306 = .ok (.goto (-283), 3) := by decide +kernel
theorem d_La_law_309 : decode b_La_law 309 = .ok (.iconst 1, 1) := by decide +kernel
theorem d_La_law_310 : decode b_La_law 310 = .ok (.ireturn, 1) := by decide +kernel
theorem d_Ar_fill_0 : decode b_Ar_fill 0 = .ok (.iconst 0, 1) := by decide +kernel
theorem d_Ar_fill_1 : decode b_Ar_fill 1 = .ok (.istore_n 2, 1) := by decide +kernel
theorem d_Ar_fill_2 : decode b_Ar_fill 2 = .ok (.aload_n 0, 1) := by decide +kernel
theorem d_Ar_fill_3 : decode b_Ar_fill 3 = .ok (.arraylength, 1) := by decide +kernel
theorem d_Ar_fill_4 : decode b_Ar_fill 4 = .ok (.istore_n 3, 1) := by decide +kernel
theorem d_Ar_fill_5 : decode b_Ar_fill 5 = .ok (.iload_n 2, 1) := by decide +kernel
theorem d_Ar_fill_6 : decode b_Ar_fill 6 = .ok (.iload_n 3, 1) := by decide +kernel
theorem d_Ar_fill_7 : decode b_Ar_fill 7 = .ok (.if_icmp .ge 13, 3) := by decide +kernel
theorem d_Ar_fill_10 : decode b_Ar_fill 10 = .ok (.aload_n 0, 1) := by decide +kernel
theorem d_Ar_fill_11 : decode b_Ar_fill 11 = .ok (.iload_n 2, 1) := by decide +kernel
theorem d_Ar_fill_12 : decode b_Ar_fill 12 = .ok (.iload_n 1, 1) := by decide +kernel
theorem d_Ar_fill_13 : decode b_Ar_fill 13 = .ok (.iastore, 1) := by decide +kernel
theorem d_Ar_fill_14 : decode b_Ar_fill 14 = .ok (.iinc 2 1, 3) := by decide +kernel
theorem d_Ar_fill_17 : decode b_Ar_fill 17 = .ok (.goto (-12), 3) := by decide +kernel
theorem d_Ar_fill_20 : decode b_Ar_fill 20 = .ok (.return_, 1) := by decide +kernel
