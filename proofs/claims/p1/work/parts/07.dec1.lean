theorem d_Ld_init_0 : decode b_Ld_init 0 = .ok (.aload_n 0, 1) := by decide +kernel
theorem d_Ld_init_1 : decode b_Ld_init 1 = .ok (.invokespecial 1, 3) := by decide +kernel
theorem d_Ld_init_4 : decode b_Ld_init 4 = .ok (.aload_n 0, 1) := by decide +kernel
theorem d_Ld_init_5 : decode b_Ld_init 5 = .ok (.new 7, 3) := by decide +kernel
theorem d_Ld_init_8 : decode b_Ld_init 8 = .ok (.dup, 1) := by decide +kernel
theorem d_Ld_init_9 : decode b_Ld_init 9 = .ok (.invokespecial 9, 3) := by decide +kernel
theorem d_Ld_init_12 : decode b_Ld_init 12 = .ok (.putfield 10, 3) := by decide +kernel
theorem d_Ld_init_15 : decode b_Ld_init 15 = .ok (.aload_n 0, 1) := by decide +kernel
theorem d_Ld_init_16 : decode b_Ld_init 16 = .ok (.new 16, 3) := by decide +kernel
theorem d_Ld_init_19 : decode b_Ld_init 19 = .ok (.dup, 1) := by decide +kernel
theorem d_Ld_init_20 : decode b_Ld_init 20 = .ok (.invokespecial 18, 3) := by decide +kernel
theorem d_Ld_init_23 : decode b_Ld_init 23 = .ok (.putfield 19, 3) := by decide +kernel
theorem d_Ld_init_26 : decode b_Ld_init 26 = .ok (.aload_n 0, 1) := by decide +kernel
theorem d_Ld_init_27 : decode b_Ld_init 27 = .ok (.new 23, 3) := by decide +kernel
theorem d_Ld_init_30 : decode b_Ld_init 30 = .ok (.dup, 1) := by decide +kernel
theorem d_Ld_init_31 : decode b_Ld_init 31 = .ok (.invokespecial 25, 3) := by decide +kernel
theorem d_Ld_init_34 : decode b_Ld_init 34 = .ok (.putfield 26, 3) := by decide +kernel
theorem d_Ld_init_37 : decode b_Ld_init 37 = .ok (.aload_n 0, 1) := by decide +kernel
theorem d_Ld_init_38 : decode b_Ld_init 38 = .ok (.new 30, 3) := by decide +kernel
theorem d_Ld_init_41 : decode b_Ld_init 41 = .ok (.dup, 1) := by decide +kernel
theorem d_Ld_init_42 : decode b_Ld_init 42 = .ok (.invokespecial 32, 3) := by decide +kernel
theorem d_Ld_init_45 : decode b_Ld_init 45 = .ok (.putfield 33, 3) := by decide +kernel
theorem d_Ld_init_48 : decode b_Ld_init 48 = .ok (.aload_n 0, 1) := by decide +kernel
theorem d_Ld_init_49 : decode b_Ld_init 49 = .ok (.bipush 60, 2) := by decide +kernel
theorem d_Ld_init_51 : decode b_Ld_init 51 = .ok (.newarray .int, 2) := by decide +kernel
theorem d_Ld_init_53 : decode b_Ld_init 53 = .ok (.putfield 37, 3) := by decide +kernel
theorem d_Ld_init_56 : decode b_Ld_init 56 = .ok (.aload_n 0, 1) := by decide +kernel
theorem d_Ld_init_57 : decode b_Ld_init 57 = .ok (.iconst 0, 1) := by decide +kernel
theorem d_Ld_init_58 : decode b_Ld_init 58 = .ok (.putfield 41, 3) := by decide +kernel
theorem d_Ld_init_61 : decode b_Ld_init 61 = .ok (.return_, 1) := by decide +kernel
theorem d_Ld_format_0 : decode b_Ld_format 0 = .ok (.aload_n 0, 1) := by decide +kernel
theorem d_Ld_format_1 : decode b_Ld_format 1 = .ok (.getfield 10, 3) := by decide +kernel
theorem d_Ld_format_4 : decode b_Ld_format 4 = .ok (.getfield 45, 3) := by decide +kernel
theorem d_Ld_format_7 : decode b_Ld_format 7 = .ok (.ifCond .eq 6, 3) := by decide +kernel
theorem d_Ld_format_10 : decode b_Ld_format 10 = .ok (.bipush 7, 2) := by decide +kernel
theorem d_Ld_format_12 : decode b_Ld_format 12 = .ok (.ireturn, 1) := by decide +kernel
theorem d_Ld_format_13 : decode b_Ld_format 13 = .ok (.aload_n 0, 1) := by decide +kernel
theorem d_Ld_format_14 : decode b_Ld_format 14 = .ok (.getfield 10, 3) := by decide +kernel
theorem d_Ld_format_17 : decode b_Ld_format 17 = .ok (.iconst 2, 1) := by decide +kernel
theorem d_Ld_format_18 : decode b_Ld_format 18 = .ok (.getstatic 49, 3) := by decide +kernel
theorem d_Ld_format_21 : decode b_Ld_format 21 = .ok (.iconst 0, 1) := by decide +kernel
theorem d_Ld_format_22 : decode b_Ld_format 22 = .ok (.invokevirtual 52, 3) := by decide +kernel
theorem d_Ld_format_25 : decode b_Ld_format 25 = .ok (.ifCond .eq 37, 3) := by decide +kernel
theorem d_Ld_format_28 : decode b_Ld_format 28 = .ok (.aload_n 0, 1) := by decide +kernel
theorem d_Ld_format_29 : decode b_Ld_format 29 = .ok (.getfield 10, 3) := by decide +kernel
theorem d_Ld_format_32 : decode b_Ld_format 32 = .ok (.iconst 1, 1) := by decide +kernel
theorem d_Ld_format_33 : decode b_Ld_format 33 = .ok (.getstatic 49, 3) := by decide +kernel
theorem d_Ld_format_36 : decode b_Ld_format 36 = .ok (.iconst 0, 1) := by decide +kernel
theorem d_Ld_format_37 : decode b_Ld_format 37 = .ok (.invokevirtual 52, 3) := by decide +kernel
theorem d_Ld_format_40 : decode b_Ld_format 40 = .ok (.ifCond .eq 22, 3) := by decide +kernel
theorem d_Ld_format_43 : decode b_Ld_format 43 = .ok (.aload_n 0, 1) := by decide +kernel
theorem d_Ld_format_44 : decode b_Ld_format 44 = .ok (.getfield 10, 3) := by decide +kernel
theorem d_Ld_format_47 : decode b_Ld_format 47 = .ok (.iconst 0, 1) := by decide +kernel
theorem d_Ld_format_48 : decode b_Ld_format 48 = .ok (.getstatic 56, 3) := by decide +kernel
theorem d_Ld_format_51 : decode b_Ld_format 51 = .ok (.iconst 0, 1) := by decide +kernel
theorem d_Ld_format_52 : decode b_Ld_format 52 = .ok (.invokevirtual 52, 3) := by decide +kernel
theorem d_Ld_format_55 : decode b_Ld_format 55 = .ok (.ifCond .eq 7, 3) := by decide +kernel
theorem d_Ld_format_58 : decode b_Ld_format 58 = .ok (.iconst 1, 1) := by decide +kernel
theorem d_Ld_format_59 : decode b_Ld_format 59 = .ok (.goto 4, 3) := by decide +kernel
theorem d_Ld_format_62 : decode b_Ld_format 62 = .ok (.iconst 0, 1) := by decide +kernel
theorem d_Ld_format_63 : decode b_Ld_format 63 = .ok (.istore_n 1, 1) := by decide +kernel
theorem d_Ld_format_64 : decode b_Ld_format 64 = .ok (.iload_n 1, 1) := by decide +kernel
theorem d_Ld_format_65 : decode b_Ld_format 65 = .ok (.ifCond .eq 7, 3) := by decide +kernel
theorem d_Ld_format_68 : decode b_Ld_format 68 = .ok (.iconst 0, 1) := by decide +kernel
theorem d_Ld_format_69 : decode b_Ld_format 69 = .ok (.goto 7, 3) := by decide +kernel
theorem d_Ld_format_72 : decode b_Ld_format 72 = .ok (.aload_n 0, 1) := by decide +kernel
theorem d_Ld_format_73 : decode b_Ld_format 73 = .ok (.invokevirtual 59, 3) := by decide +kernel
theorem d_Ld_format_76 : decode b_Ld_format 76 = .ok (.ireturn, 1) := by decide +kernel
theorem d_Ld_recover_0 : decode b_Ld_recover 0 = .ok (.aload_n 0, 1) := by decide +kernel
theorem d_Ld_recover_1 : decode b_Ld_recover 1 = .ok (.getfield 10, 3) := by decide +kernel
theorem d_Ld_recover_4 : decode b_Ld_recover 4 = .ok (.iconst 0, 1) := by decide +kernel
theorem d_Ld_recover_5 : decode b_Ld_recover 5 = .ok (.putfield 45, 3) := by decide +kernel
theorem d_Ld_recover_8 : decode b_Ld_recover 8 = .ok (.aload_n 0, 1) := by decide +kernel
theorem d_Ld_recover_9 : decode b_Ld_recover 9 = .ok (.getfield 26, 3) := by decide +kernel
theorem d_Ld_recover_12 : decode b_Ld_recover 12 = .ok (.invokevirtual 63, 3) := by decide +kernel
theorem d_Ld_recover_15 : decode b_Ld_recover 15 = .ok (.bipush 8, 2) := by decide +kernel
theorem d_Ld_recover_17 : decode b_Ld_recover 17 = .ok (.istore_n 1, 1) := by decide +kernel
theorem d_Ld_recover_18 : decode b_Ld_recover 18 = .ok (.aload_n 0, 1) := by decide +kernel
theorem d_Ld_recover_19 : decode b_Ld_recover 19 = .ok (.getfield 10, 3) := by decide +kernel
theorem d_Ld_recover_22 : decode b_Ld_recover 22 = .ok (.invokevirtual 66, 3) := by decide +kernel
theorem d_Ld_recover_25 : decode b_Ld_recover 25 = .ok (.ifCond .eq 26, 3) := by decide +kernel
theorem d_Ld_recover_28 : decode b_Ld_recover 28 = .ok (.aload_n 0, 1) := by decide +kernel
theorem d_Ld_recover_29 : decode b_Ld_recover 29 = .ok (.getfield 19, 3) := by decide +kernel
theorem d_Ld_recover_32 : decode b_Ld_recover 32 = .ok (.aload_n 0, 1) := by decide +kernel
theorem d_Ld_recover_33 : decode b_Ld_recover 33 = .ok (.getfield 10, 3) := by decide +kernel
theorem d_Ld_recover_36 : decode b_Ld_recover 36 = .ok (.invokevirtual 70, 3) := by decide +kernel
theorem d_Ld_recover_39 : decode b_Ld_recover 39 = .ok (.ifCond .eq 7, 3) := by decide +kernel
theorem d_Ld_recover_42 : decode b_Ld_recover 42 = .ok (.iconst 0, 1) := by decide +kernel
theorem d_Ld_recover_43 : decode b_Ld_recover 43 = .ok (.goto 7, 3) := by decide +kernel
theorem d_Ld_recover_46 : decode b_Ld_recover 46 = .ok (.aload_n 0, 1) := by decide +kernel
theorem d_Ld_recover_47 : decode b_Ld_recover 47 = .ok (.invokevirtual 59, 3) := by decide +kernel
theorem d_Ld_recover_50 : decode b_Ld_recover 50 = .ok (.istore_n 1, 1) := by decide +kernel
theorem d_Ld_recover_51 : decode b_Ld_recover 51 = .ok (.aload_n 0, 1) := by decide +kernel
theorem d_Ld_recover_52 : decode b_Ld_recover 52 = .ok (.getfield 10, 3) := by decide +kernel
theorem d_Ld_recover_55 : decode b_Ld_recover 55 = .ok (.iconst (-1), 1) := by decide +kernel
theorem d_Ld_recover_56 : decode b_Ld_recover 56 = .ok (.putfield 74, 3) := by decide +kernel
theorem d_Ld_recover_59 : decode b_Ld_recover 59 = .ok (.iload_n 1, 1) := by decide +kernel
theorem d_Ld_recover_60 : decode b_Ld_recover 60 = .ok (.ireturn, 1) := by decide +kernel
theorem d_Ld_feed_0 : decode b_Ld_feed 0 = .ok (.aload_n 0, 1) := by decide +kernel
theorem d_Ld_feed_1 : decode b_Ld_feed 1 = .ok (.getfield 10, 3) := by decide +kernel
theorem d_Ld_feed_4 : decode b_Ld_feed 4 = .ok (.getfield 45, 3) := by decide +kernel
theorem d_Ld_feed_7 : decode b_Ld_feed 7 = .ok (.ifCond .eq 6, 3) := by decide +kernel
theorem d_Ld_feed_10 : decode b_Ld_feed 10 = .ok (.bipush 7, 2) := by decide +kernel
theorem d_Ld_feed_12 : decode b_Ld_feed 12 = .ok (.ireturn, 1) := by decide +kernel
theorem d_Ld_feed_13 : decode b_Ld_feed 13 = .ok (.iload_n 1, 1) := by decide +kernel
theorem d_Ld_feed_14 : decode b_Ld_feed 14 = .ok (.bipush 10, 2) := by decide +kernel
theorem d_Ld_feed_16 : decode b_Ld_feed 16 = .ok (.if_icmp .eq 13, 3) := by decide +kernel
theorem d_Ld_feed_19 : decode b_Ld_feed 19 = .ok (.aload_n 0, 1) := by decide +kernel
theorem d_Ld_feed_20 : decode b_Ld_feed 20 = .ok (.getfield 26, 3) := by decide +kernel
theorem d_Ld_feed_23 : decode b_Ld_feed 23 = .ok (.iload_n 1, 1) := by decide +kernel
theorem d_Ld_feed_24 : decode b_Ld_feed 24 = .ok (.invokevirtual 77, 3) := by decide +kernel
theorem d_Ld_feed_27 : decode b_Ld_feed 27 = .ok (.iconst 0, 1) := by decide +kernel
theorem d_Ld_feed_28 : decode b_Ld_feed 28 = .ok (.ireturn, 1) := by decide +kernel
theorem d_Ld_feed_29 : decode b_Ld_feed 29 = .ok (.aload_n 0, 1) := by decide +kernel
theorem d_Ld_feed_30 : decode b_Ld_feed 30 = .ok (.getfield 26, 3) := by decide +kernel
theorem d_Ld_feed_33 : decode b_Ld_feed 33 = .ok (.getfield 81, 3) := by decide +kernel
theorem d_Ld_feed_36 : decode b_Ld_feed 36 = .ok (.astore_n 2, 1) := by decide +kernel
theorem d_Ld_feed_37 : decode b_Ld_feed 37 = .ok (.aload_n 0, 1) := by decide +kernel
theorem d_Ld_feed_38 : decode b_Ld_feed 38 = .ok (.getfield 26, 3) := by decide +kernel
theorem d_Ld_feed_41 : decode b_Ld_feed 41 = .ok (.getfield 84, 3) := by decide +kernel
theorem d_Ld_feed_44 : decode b_Ld_feed 44 = .ok (.istore_n 3, 1) := by decide +kernel
theorem d_Ld_feed_45 : decode b_Ld_feed 45 = .ok (.aload_n 0, 1) := by decide +kernel
theorem d_Ld_feed_46 : decode b_Ld_feed 46 = .ok (.getfield 26, 3) := by decide +kernel
theorem d_Ld_feed_49 : decode b_Ld_feed 49 = .ok (.iconst 0, 1) := by decide +kernel
theorem d_Ld_feed_50 : decode b_Ld_feed 50 = .ok (.putfield 84, 3) := by decide +kernel
theorem d_Ld_feed_53 : decode b_Ld_feed 53 = .ok (.iload_n 3, 1) := by decide +kernel
theorem d_Ld_feed_54 : decode b_Ld_feed 54 = .ok (.ifCond .ne 5, 3) := by decide +kernel
theorem d_Ld_feed_57 : decode b_Ld_feed 57 = .ok (.iconst 0, 1) := by decide +kernel
theorem d_Ld_feed_58 : decode b_Ld_feed 58 = .ok (.ireturn, 1) := by decide +kernel
theorem d_Ld_feed_59 : decode b_Ld_feed 59 = .ok (.aload_n 2, 1) := by decide +kernel
theorem d_Ld_feed_60 : decode b_Ld_feed 60 = .ok (.iconst 0, 1) := by decide +kernel
theorem d_Ld_feed_61 : decode b_Ld_feed 61 = .ok (.iaload, 1) := by decide +kernel
theorem d_Ld_feed_62 : decode b_Ld_feed 62 = .ok (.invokestatic 87, 3) := by decide +kernel
theorem d_Ld_feed_65 : decode b_Ld_feed 65 = .ok (.ifCond .eq 12, 3) := by decide +kernel
theorem d_Ld_feed_68 : decode b_Ld_feed 68 = .ok (.aload_n 0, 1) := by decide +kernel
theorem d_Ld_feed_69 : decode b_Ld_feed 69 = .ok (.aload_n 2, 1) := by decide +kernel
theorem d_Ld_feed_70 : decode b_Ld_feed 70 = .ok (.iload_n 3, 1) := by decide +kernel
theorem d_Ld_feed_71 : decode b_Ld_feed 71 = .ok (.invokevirtual 91, 3) := by decide +kernel
theorem d_Ld_feed_74 : decode b_Ld_feed 74 = .ok (.goto 9, 3) := by decide +kernel
theorem d_Ld_feed_77 : decode b_Ld_feed 77 = .ok (.aload_n 0, 1) := by decide +kernel
theorem d_Ld_feed_78 : decode b_Ld_feed 78 = .ok (.aload_n 2, 1) := by decide +kernel
theorem d_Ld_feed_79 : decode b_Ld_feed 79 = .ok (.iload_n 3, 1) := by decide +kernel
theorem d_Ld_feed_80 : decode b_Ld_feed 80 = .ok (.invokevirtual 95, 3) := by decide +kernel
theorem d_Ld_feed_83 : decode b_Ld_feed 83 = .ok (.ireturn, 1) := by decide +kernel
theorem d_Ld_step_0 : decode b_Ld_step 0 = .ok (.aload_n 0, 1) := by decide +kernel
theorem d_Ld_step_1 : decode b_Ld_step 1 = .ok (.getfield 10, 3) := by decide +kernel
theorem d_Ld_step_4 : decode b_Ld_step 4 = .ok (.getfield 45, 3) := by decide +kernel
theorem d_Ld_step_7 : decode b_Ld_step 7 = .ok (.ifCond .eq 6, 3) := by decide +kernel
theorem d_Ld_step_10 : decode b_Ld_step 10 = .ok (.bipush 7, 2) := by decide +kernel
theorem d_Ld_step_12 : decode b_Ld_step 12 = .ok (.ireturn, 1) := by decide +kernel
theorem d_Ld_step_13 : decode b_Ld_step 13 = .ok (.iconst 1, 1) := by decide +kernel
theorem d_Ld_step_14 : decode b_Ld_step 14 = .ok (.bipush 50, 2) := by decide +kernel
theorem d_Ld_step_16 : decode b_Ld_step 16 = .ok (.iload_n 1, 1) := by decide +kernel
theorem d_Ld_step_17 : decode b_Ld_step 17 = .ok (.invokestatic 98, 3) := by decide +kernel
theorem d_Ld_step_20 : decode b_Ld_step 20 = .ok (.invokestatic 104, 3) := by decide +kernel
theorem d_Ld_step_23 : decode b_Ld_step 23 = .ok (.istore_n 2, 1) := by decide +kernel
theorem d_Ld_step_24 : decode b_Ld_step 24 = .ok (.iconst 0, 1) := by decide +kernel
theorem d_Ld_step_25 : decode b_Ld_step 25 = .ok (.istore_n 3, 1) := by decide +kernel
theorem d_Ld_step_26 : decode b_Ld_step 26 = .ok (.iload_n 3, 1) := by decide +kernel
theorem d_Ld_step_27 : decode b_Ld_step 27 = .ok (.iload_n 2, 1) := by decide +kernel
theorem d_Ld_step_28 : decode b_Ld_step 28 = .ok (.if_icmp .ge 25, 3) := by decide +kernel
theorem d_Ld_step_31 : decode b_Ld_step 31 = .ok (.aload_n 0, 1) := by decide +kernel
theorem d_Ld_step_32 : decode b_Ld_step 32 = .ok (.invokevirtual 107, 3) := by decide +kernel
theorem d_Ld_step_35 : decode b_Ld_step 35 = .ok (.istore 4, 2) := by decide +kernel
theorem d_Ld_step_37 : decode b_Ld_step 37 = .ok (.iload 4, 2) := by decide +kernel
theorem d_Ld_step_39 : decode b_Ld_step 39 = .ok (.bipush 6, 2) := by decide +kernel
theorem d_Ld_step_41 : decode b_Ld_step 41 = .ok (.if_icmp .eq 6, 3) := by decide +kernel
theorem d_Ld_step_44 : decode b_Ld_step 44 = .ok (.iload 4, 2) := by decide +kernel
theorem d_Ld_step_46 : decode b_Ld_step 46 = .ok (.ireturn, 1) := by decide +kernel
theorem d_Ld_step_47 : decode b_Ld_step 47 = .ok (.iinc 3 1, 3) := by decide +kernel
theorem d_Ld_step_50 : decode b_Ld_step 50 = .ok (.goto (-24), 3) := by decide +kernel
theorem d_Ld_step_53 : decode b_Ld_step 53 = .ok (.bipush 6, 2) := by decide +kernel
theorem d_Ld_step_55 : decode b_Ld_step 55 = .ok (.ireturn, 1) := by decide +kernel
theorem d_Ld_arm_0 : decode b_Ld_arm 0 = .ok (.iload_n 1, 1) := by decide +kernel
theorem d_Ld_arm_1 : decode b_Ld_arm 1 = .ok (.ifCond .lt 10, 3) := by decide +kernel
theorem d_Ld_arm_4 : decode b_Ld_arm 4 = .ok (.iload_n 1, 1) := by decide +kernel
theorem d_Ld_arm_5 : decode b_Ld_arm 5 = .ok (.sipush 1000, 3) := by decide +kernel
theorem d_Ld_arm_8 : decode b_Ld_arm 8 = .ok (.if_icmp .le 13, 3) := by decide +kernel
theorem d_Ld_arm_11 : decode b_Ld_arm 11 = .ok (.new 110, 3) := by decide +kernel
theorem d_Ld_arm_14 : decode b_Ld_arm 14 = .ok (.dup, 1) := by decide +kernel
theorem d_Ld_arm_15 : decode b_Ld_arm 15 = .ok (.ldc 112, 2) := by decide +kernel
theorem d_Ld_arm_17 : decode b_Ld_arm 17 = .ok (.invokespecial 114, 3) := by decide +kernel
theorem d_Ld_arm_20 : decode b_Ld_arm 20 = .ok (.athrow, 1) := by decide +kernel
theorem d_Ld_arm_21 : decode b_Ld_arm 21 = .ok (.aload_n 0, 1) := by decide +kernel
theorem d_Ld_arm_22 : decode b_Ld_arm 22 = .ok (.getfield 10, 3) := by decide +kernel
theorem d_Ld_arm_25 : decode b_Ld_arm 25 = .ok (.iload_n 1, 1) := by decide +kernel
theorem d_Ld_arm_26 : decode b_Ld_arm 26 = .ok (.putfield 74, 3) := by decide +kernel
theorem d_Ld_arm_29 : decode b_Ld_arm 29 = .ok (.iconst 1, 1) := by decide +kernel
theorem d_Ld_arm_30 : decode b_Ld_arm 30 = .ok (.ireturn, 1) := by decide +kernel
theorem d_Ld_out_0 : decode b_Ld_out 0 = .ok (.iload_n 1, 1) := by decide +kernel
theorem d_Ld_out_1 : decode b_Ld_out 1 = .ok (.ifCond .lt 17, 3) := by decide +kernel
theorem d_Ld_out_4 : decode b_Ld_out 4 = .ok (.iload_n 1, 1) := by decide +kernel
theorem d_Ld_out_5 : decode b_Ld_out 5 = .ok (.aload_n 0, 1) := by decide +kernel
theorem d_Ld_out_6 : decode b_Ld_out 6 = .ok (.getfield 41, 3) := by decide +kernel
theorem d_Ld_out_9 : decode b_Ld_out 9 = .ok (.if_icmp .ge 9, 3) := by decide +kernel
theorem d_Ld_out_12 : decode b_Ld_out 12 = .ok (.iload_n 1, 1) := by decide +kernel
theorem d_Ld_out_13 : decode b_Ld_out 13 = .ok (.bipush 60, 2) := by decide +kernel
theorem d_Ld_out_15 : decode b_Ld_out 15 = .ok (.if_icmp .lt 13, 3) := by decide +kernel
theorem d_Ld_out_18 : decode b_Ld_out 18 = .ok (.new 117, 3) := by decide +kernel
theorem d_Ld_out_21 : decode b_Ld_out 21 = .ok (.dup, 1) := by decide +kernel
theorem d_Ld_out_22 : decode b_Ld_out 22 = .ok (.ldc 119, 2) := by decide +kernel
theorem d_Ld_out_24 : decode b_Ld_out 24 = .ok (.invokespecial 121, 3) := by decide +kernel
theorem d_Ld_out_27 : decode b_Ld_out 27 = .ok (.athrow, 1) := by decide +kernel
theorem d_Ld_out_28 : decode b_Ld_out 28 = .ok (.aload_n 0, 1) := by decide +kernel
theorem d_Ld_out_29 : decode b_Ld_out 29 = .ok (.getfield 37, 3) := by decide +kernel
theorem d_Ld_out_32 : decode b_Ld_out 32 = .ok (.iload_n 1, 1) := by decide +kernel
theorem d_Ld_out_33 : decode b_Ld_out 33 = .ok (.iaload, 1) := by decide +kernel
theorem d_Ld_out_34 : decode b_Ld_out 34 = .ok (.ireturn, 1) := by decide +kernel
theorem d_Ld_outs_0 : decode b_Ld_outs 0 = .ok (.aload_n 0, 1) := by decide +kernel
theorem d_Ld_outs_1 : decode b_Ld_outs 1 = .ok (.getfield 41, 3) := by decide +kernel
theorem d_Ld_outs_4 : decode b_Ld_outs 4 = .ok (.ireturn, 1) := by decide +kernel
theorem d_Ld_disk_0 : decode b_Ld_disk 0 = .ok (.iload_n 1, 1) := by decide +kernel
theorem d_Ld_disk_1 : decode b_Ld_disk 1 = .ok (.ifCond .lt 10, 3) := by decide +kernel
theorem d_Ld_disk_4 : decode b_Ld_disk 4 = .ok (.iload_n 1, 1) := by decide +kernel
theorem d_Ld_disk_5 : decode b_Ld_disk 5 = .ok (.sipush 512, 3) := by decide +kernel
theorem d_Ld_disk_8 : decode b_Ld_disk 8 = .ok (.if_icmp .lt 13, 3) := by decide +kernel
theorem d_Ld_disk_11 : decode b_Ld_disk 11 = .ok (.new 117, 3) := by decide +kernel
theorem d_Ld_disk_14 : decode b_Ld_disk 14 = .ok (.dup, 1) := by decide +kernel
theorem d_Ld_disk_15 : decode b_Ld_disk 15 = .ok (.ldc 122, 2) := by decide +kernel
theorem d_Ld_disk_17 : decode b_Ld_disk 17 = .ok (.invokespecial 121, 3) := by decide +kernel
theorem d_Ld_disk_20 : decode b_Ld_disk 20 = .ok (.athrow, 1) := by decide +kernel
theorem d_Ld_disk_21 : decode b_Ld_disk 21 = .ok (.aload_n 0, 1) := by decide +kernel
theorem d_Ld_disk_22 : decode b_Ld_disk 22 = .ok (.getfield 10, 3) := by decide +kernel
theorem d_Ld_disk_25 : decode b_Ld_disk 25 = .ok (.iload_n 1, 1) := by decide +kernel
theorem d_Ld_disk_26 : decode b_Ld_disk 26 = .ok (.invokevirtual 124, 3) := by decide +kernel
theorem d_Ld_disk_29 : decode b_Ld_disk 29 = .ok (.ireturn, 1) := by decide +kernel
theorem d_Ld_files_0 : decode b_Ld_files 0 = .ok (.aload_n 0, 1) := by decide +kernel
theorem d_Ld_files_1 : decode b_Ld_files 1 = .ok (.getfield 10, 3) := by decide +kernel
theorem d_Ld_files_4 : decode b_Ld_files 4 = .ok (.getfield 45, 3) := by decide +kernel
theorem d_Ld_files_7 : decode b_Ld_files 7 = .ok (.ifCond .eq 6, 3) := by decide +kernel
theorem d_Ld_files_10 : decode b_Ld_files 10 = .ok (.bipush 7, 2) := by decide +kernel
theorem d_Ld_files_12 : decode b_Ld_files 12 = .ok (.ireturn, 1) := by decide +kernel
theorem d_Ld_files_13 : decode b_Ld_files 13 = .ok (.aload_n 0, 1) := by decide +kernel
theorem d_Ld_files_14 : decode b_Ld_files 14 = .ok (.getfield 10, 3) := by decide +kernel
theorem d_Ld_files_17 : decode b_Ld_files 17 = .ok (.invokevirtual 66, 3) := by decide +kernel
theorem d_Ld_files_20 : decode b_Ld_files 20 = .ok (.ifCond .ne 6, 3) := by decide +kernel
theorem d_Ld_files_23 : decode b_Ld_files 23 = .ok (.bipush 8, 2) := by decide +kernel
theorem d_Ld_files_25 : decode b_Ld_files 25 = .ok (.ireturn, 1) := by decide +kernel
theorem d_Ld_files_26 : decode b_Ld_files 26 = .ok (.iconst 0, 1) := by decide +kernel
theorem d_Ld_files_27 : decode b_Ld_files 27 = .ok (.istore_n 1, 1) := by decide +kernel
theorem d_Ld_files_28 : decode b_Ld_files 28 = .ok (.iconst 0, 1) := by decide +kernel
theorem d_Ld_files_29 : decode b_Ld_files 29 = .ok (.istore_n 2, 1) := by decide +kernel
theorem d_Ld_files_30 : decode b_Ld_files 30 = .ok (.iload_n 2, 1) := by decide +kernel
theorem d_Ld_files_31 : decode b_Ld_files 31 = .ok (.bipush 8, 2) := by decide +kernel
theorem d_Ld_files_33 : decode b_Ld_files 33 = .ok (.if_icmp .ge 23, 3) := by decide +kernel
theorem d_Ld_files_36 : decode b_Ld_files 36 = .ok (.aload_n 0, 1) := by decide +kernel
theorem d_Ld_files_37 : decode b_Ld_files 37 = .ok (.getfield 10, 3) := by decide +kernel
theorem d_Ld_files_40 : decode b_Ld_files 40 = .ok (.iload_n 2, 1) := by decide +kernel
theorem d_Ld_files_41 : decode b_Ld_files 41 = .ok (.invokevirtual 128, 3) := by decide +kernel
theorem d_Ld_files_44 : decode b_Ld_files 44 = .ok (.ifCond .eq 6, 3) := by decide +kernel
theorem d_Ld_files_47 : decode b_Ld_files 47 = .ok (.iinc 1 1, 3) := by decide +kernel
theorem d_Ld_files_50 : decode b_Ld_files 50 = .ok (.iinc 2 1, 3) := by decide +kernel
theorem d_Ld_files_53 : decode b_Ld_files 53 = .ok (.goto (-23), 3) := by decide +kernel
theorem d_Ld_files_56 : decode b_Ld_files 56 = .ok (.iload_n 1, 1) := by decide +kernel
theorem d_Ld_files_57 : decode b_Ld_files 57 = .ok (.ireturn, 1) := by decide +kernel
theorem d_Ld_about_0 : decode b_Ld_about 0 = .ok (.iload_n 1, 1) := by decide +kernel
theorem d_Ld_about_1 : decode b_Ld_about 1 = .ok (.bipush 11, 2) := by decide +kernel
theorem d_Ld_about_3 : decode b_Ld_about 3 = .ok (.if_icmp .ne 11, 3) := by decide +kernel
theorem d_Ld_about_6 : decode b_Ld_about 6 = .ok (.aload_n 0, 1) := by decide +kernel
theorem d_Ld_about_7 : decode b_Ld_about 7 = .ok (.getfield 10, 3) := by decide +kernel
theorem d_Ld_about_10 : decode b_Ld_about 10 = .ok (.getfield 131, 3) := by decide +kernel
theorem d_Ld_about_13 : decode b_Ld_about 13 = .ok (.ireturn, 1) := by decide +kernel
theorem d_Ld_about_14 : decode b_Ld_about 14 = .ok (.aload_n 0, 1) := by decide +kernel
theorem d_Ld_about_15 : decode b_Ld_about 15 = .ok (.getfield 10, 3) := by decide +kernel
theorem d_Ld_about_18 : decode b_Ld_about 18 = .ok (.getfield 45, 3) := by decide +kernel
theorem d_Ld_about_21 : decode b_Ld_about 21 = .ok (.ifCond .eq 6, 3) := by decide +kernel
theorem d_Ld_about_24 : decode b_Ld_about 24 = .ok (.bipush 7, 2) := by decide +kernel
theorem d_Ld_about_26 : decode b_Ld_about 26 = .ok (.ireturn, 1) := by decide +kernel
theorem d_Ld_about_27 : decode b_Ld_about 27 = .ok (.iload_n 1, 1) := by decide +kernel
theorem d_Ld_about_28 : decode b_Ld_about 28 = .ok (.iconst 1, 1) := by decide +kernel
theorem d_Ld_about_29 : decode b_Ld_about 29 = .ok (.if_icmp .lt 21, 3) := by decide +kernel
theorem d_Ld_about_32 : decode b_Ld_about 32 = .ok (.iload_n 1, 1) := by decide +kernel
theorem d_Ld_about_33 : decode b_Ld_about 33 = .ok (.bipush 8, 2) := by decide +kernel
theorem d_Ld_about_35 : decode b_Ld_about 35 = .ok (.if_icmp .gt 15, 3) := by decide +kernel
theorem d_Ld_about_38 : decode b_Ld_about 38 = .ok (.aload_n 0, 1) := by decide +kernel
theorem d_Ld_about_39 : decode b_Ld_about 39 = .ok (.getfield 26, 3) := by decide +kernel
theorem d_Ld_about_42 : decode b_Ld_about 42 = .ok (.getfield 134, 3) := by decide +kernel
theorem d_Ld_about_45 : decode b_Ld_about 45 = .ok (.iload_n 1, 1) := by decide +kernel
theorem d_Ld_about_46 : decode b_Ld_about 46 = .ok (.iconst 1, 1) := by decide +kernel
theorem d_Ld_about_47 : decode b_Ld_about 47 = .ok (.isub, 1) := by decide +kernel
theorem d_Ld_about_48 : decode b_Ld_about 48 = .ok (.iaload, 1) := by decide +kernel
theorem d_Ld_about_49 : decode b_Ld_about 49 = .ok (.ireturn, 1) := by decide +kernel
theorem d_Ld_about_50 : decode b_Ld_about 50 = .ok (.iload_n 1, 1) := by decide +kernel
theorem d_Ld_about_51 : decode b_Ld_about 51 = .ok (.lookupswitch 64 #[(0, 33), (9, 41), (10, 56)], 33) := by decide +kernel
theorem d_Ld_about_84 : decode b_Ld_about 84 = .ok (.aload_n 0, 1) := by decide +kernel
theorem d_Ld_about_85 : decode b_Ld_about 85 = .ok (.getfield 26, 3) := by decide +kernel
theorem d_Ld_about_88 : decode b_Ld_about 88 = .ok (.getfield 137, 3) := by decide +kernel
theorem d_Ld_about_91 : decode b_Ld_about 91 = .ok (.ireturn, 1) := by decide +kernel
theorem d_Ld_about_92 : decode b_Ld_about 92 = .ok (.aload_n 0, 1) := by decide +kernel
theorem d_Ld_about_93 : decode b_Ld_about 93 = .ok (.getfield 26, 3) := by decide +kernel
theorem d_Ld_about_96 : decode b_Ld_about 96 = .ok (.aload_n 0, 1) := by decide +kernel
theorem d_Ld_about_97 : decode b_Ld_about 97 = .ok (.getfield 26, 3) := by decide +kernel
theorem d_Ld_about_100 : decode b_Ld_about 100 = .ok (.invokevirtual 140, 3) := by decide +kernel
theorem d_Ld_about_103 : decode b_Ld_about 103 = .ok (.invokevirtual 143, 3) := by decide +kernel
theorem d_Ld_about_106 : decode b_Ld_about 106 = .ok (.ireturn, 1) := by decide +kernel
theorem d_Ld_about_107 : decode b_Ld_about 107 = .ok (.aload_n 0, 1) := by decide +kernel
theorem d_Ld_about_108 : decode b_Ld_about 108 = .ok (.getfield 26, 3) := by decide +kernel
theorem d_Ld_about_111 : decode b_Ld_about 111 = .ok (.getfield 84, 3) := by decide +kernel
theorem d_Ld_about_114 : decode b_Ld_about 114 = .ok (.ireturn, 1) := by decide +kernel
theorem d_Ld_about_115 : decode b_Ld_about 115 = .ok (.iconst (-1), 1) := by decide +kernel
theorem d_Ld_about_116 : decode b_Ld_about 116 = .ok (.ireturn, 1) := by decide +kernel
theorem d_Ld_oneStep_0 : decode b_Ld_oneStep 0 = .ok (.aload_n 0, 1) := by decide +kernel
theorem d_Ld_oneStep_1 : decode b_Ld_oneStep 1 = .ok (.getfield 26, 3) := by decide +kernel
theorem d_Ld_oneStep_4 : decode b_Ld_oneStep 4 = .ok (.invokevirtual 140, 3) := by decide +kernel
theorem d_Ld_oneStep_7 : decode b_Ld_oneStep 7 = .ok (.istore_n 1, 1) := by decide +kernel
theorem d_Ld_oneStep_8 : decode b_Ld_oneStep 8 = .ok (.iload_n 1, 1) := by decide +kernel
theorem d_Ld_oneStep_9 : decode b_Ld_oneStep 9 = .ok (.iconst (-1), 1) := by decide +kernel
theorem d_Ld_oneStep_10 : decode b_Ld_oneStep 10 = .ok (.if_icmp .eq 44, 3) := by decide +kernel
theorem d_Ld_oneStep_13 : decode b_Ld_oneStep 13 = .ok (.aload_n 0, 1) := by decide +kernel
theorem d_Ld_oneStep_14 : decode b_Ld_oneStep 14 = .ok (.getfield 33, 3) := by decide +kernel
theorem d_Ld_oneStep_17 : decode b_Ld_oneStep 17 = .ok (.aload_n 0, 1) := by decide +kernel
theorem d_Ld_oneStep_18 : decode b_Ld_oneStep 18 = .ok (.getfield 26, 3) := by decide +kernel
theorem d_Ld_oneStep_21 : decode b_Ld_oneStep 21 = .ok (.getfield 231, 3) := by decide +kernel
theorem d_Ld_oneStep_24 : decode b_Ld_oneStep 24 = .ok (.iload_n 1, 1) := by decide +kernel
theorem d_Ld_oneStep_25 : decode b_Ld_oneStep 25 = .ok (.bipush 12, 2) := by decide +kernel
theorem d_Ld_oneStep_27 : decode b_Ld_oneStep 27 = .ok (.imul, 1) := by decide +kernel
theorem d_Ld_oneStep_28 : decode b_Ld_oneStep 28 = .ok (.aload_n 0, 1) := by decide +kernel
theorem d_Ld_oneStep_29 : decode b_Ld_oneStep 29 = .ok (.getfield 26, 3) := by decide +kernel
theorem d_Ld_oneStep_32 : decode b_Ld_oneStep 32 = .ok (.getfield 234, 3) := by decide +kernel
theorem d_Ld_oneStep_35 : decode b_Ld_oneStep 35 = .ok (.iload_n 1, 1) := by decide +kernel
theorem d_Ld_oneStep_36 : decode b_Ld_oneStep 36 = .ok (.iaload, 1) := by decide +kernel
theorem d_Ld_oneStep_37 : decode b_Ld_oneStep 37 = .ok (.aload_n 0, 1) := by decide +kernel
theorem d_Ld_oneStep_38 : decode b_Ld_oneStep 38 = .ok (.getfield 26, 3) := by decide +kernel
theorem d_Ld_oneStep_41 : decode b_Ld_oneStep 41 = .ok (.getfield 134, 3) := by decide +kernel
theorem d_Ld_oneStep_44 : decode b_Ld_oneStep 44 = .ok (.invokevirtual 149, 3) := by decide +kernel
theorem d_Ld_oneStep_47 : decode b_Ld_oneStep 47 = .ok (.ifCond .eq 7, 3) := by decide +kernel
theorem d_Ld_oneStep_50 : decode b_Ld_oneStep 50 = .ok (.iconst 1, 1) := by decide +kernel
theorem d_Ld_oneStep_51 : decode b_Ld_oneStep 51 = .ok (.goto 4, 3) := by decide +kernel
theorem d_Ld_oneStep_54 : decode b_Ld_oneStep 54 = .ok (.iconst 0, 1) := by decide +kernel
theorem d_Ld_oneStep_55 : decode b_Ld_oneStep 55 = .ok (.istore_n 2, 1) := by decide +kernel
theorem d_Ld_oneStep_56 : decode b_Ld_oneStep 56 = .ok (.iload_n 2, 1) := by decide +kernel
theorem d_Ld_oneStep_57 : decode b_Ld_oneStep 57 = .ok (.ifCond .eq 15, 3) := by decide +kernel
theorem d_Ld_oneStep_60 : decode b_Ld_oneStep 60 = .ok (.aload_n 0, 1) := by decide +kernel
theorem d_Ld_oneStep_61 : decode b_Ld_oneStep 61 = .ok (.getfield 33, 3) := by decide +kernel
theorem d_Ld_oneStep_64 : decode b_Ld_oneStep 64 = .ok (.getfield 237, 3) := by decide +kernel
theorem d_Ld_oneStep_67 : decode b_Ld_oneStep 67 = .ok (.bipush 69, 2) := by decide +kernel
theorem d_Ld_oneStep_69 : decode b_Ld_oneStep 69 = .ok (.if_icmp .ne 13, 3) := by decide +kernel
theorem d_Ld_oneStep_72 : decode b_Ld_oneStep 72 = .ok (.aload_n 0, 1) := by decide +kernel
theorem d_Ld_oneStep_73 : decode b_Ld_oneStep 73 = .ok (.getfield 26, 3) := by decide +kernel
theorem d_Ld_oneStep_76 : decode b_Ld_oneStep 76 = .ok (.iconst 0, 1) := by decide +kernel
theorem d_Ld_oneStep_77 : decode b_Ld_oneStep 77 = .ok (.putfield 175, 3) := by decide +kernel
theorem d_Ld_oneStep_80 : decode b_Ld_oneStep 80 = .ok (.iconst 0, 1) := by decide +kernel
theorem d_Ld_oneStep_81 : decode b_Ld_oneStep 81 = .ok (.ireturn, 1) := by decide +kernel
theorem d_Ld_oneStep_82 : decode b_Ld_oneStep 82 = .ok (.aload_n 0, 1) := by decide +kernel
theorem d_Ld_oneStep_83 : decode b_Ld_oneStep 83 = .ok (.invokevirtual 240, 3) := by decide +kernel
theorem d_Ld_oneStep_86 : decode b_Ld_oneStep 86 = .ok (.istore_n 3, 1) := by decide +kernel
theorem d_Ld_oneStep_87 : decode b_Ld_oneStep 87 = .ok (.iload_n 3, 1) := by decide +kernel
theorem d_Ld_oneStep_88 : decode b_Ld_oneStep 88 = .ok (.ifCond .eq 5, 3) := by decide +kernel
theorem d_Ld_oneStep_91 : decode b_Ld_oneStep 91 = .ok (.iload_n 3, 1) := by decide +kernel
theorem d_Ld_oneStep_92 : decode b_Ld_oneStep 92 = .ok (.ireturn, 1) := by decide +kernel
theorem d_Ld_oneStep_93 : decode b_Ld_oneStep 93 = .ok (.aload_n 0, 1) := by decide +kernel
theorem d_Ld_oneStep_94 : decode b_Ld_oneStep 94 = .ok (.getfield 26, 3) := by decide +kernel
theorem d_Ld_oneStep_97 : decode b_Ld_oneStep 97 = .ok (.aload_n 0, 1) := by decide +kernel
theorem d_Ld_oneStep_98 : decode b_Ld_oneStep 98 = .ok (.getfield 33, 3) := by decide +kernel
theorem d_Ld_oneStep_101 : decode b_Ld_oneStep 101 = .ok (.invokevirtual 243, 3) := by decide +kernel
theorem d_Ld_oneStep_104 : decode b_Ld_oneStep 104 = .ok (.ifCond .eq 13, 3) := by decide +kernel
theorem d_Ld_oneStep_107 : decode b_Ld_oneStep 107 = .ok (.aload_n 0, 1) := by decide +kernel
theorem d_Ld_oneStep_108 : decode b_Ld_oneStep 108 = .ok (.getfield 33, 3) := by decide +kernel
theorem d_Ld_oneStep_111 : decode b_Ld_oneStep 111 = .ok (.getfield 246, 3) := by decide +kernel
theorem d_Ld_oneStep_114 : decode b_Ld_oneStep 114 = .ok (.goto 13, 3) := by decide +kernel
theorem d_Ld_oneStep_117 : decode b_Ld_oneStep 117 = .ok (.aload_n 0, 1) := by decide +kernel
theorem d_Ld_oneStep_118 : decode b_Ld_oneStep 118 = .ok (.getfield 26, 3) := by decide +kernel
theorem d_Ld_oneStep_121 : decode b_Ld_oneStep 121 = .ok (.iload_n 1, 1) := by decide +kernel
theorem d_Ld_oneStep_122 : decode b_Ld_oneStep 122 = .ok (.invokevirtual 143, 3) := by decide +kernel
theorem d_Ld_oneStep_125 : decode b_Ld_oneStep 125 = .ok (.iconst 1, 1) := by decide +kernel
theorem d_Ld_oneStep_126 : decode b_Ld_oneStep 126 = .ok (.iadd, 1) := by decide +kernel
theorem d_Ld_oneStep_127 : decode b_Ld_oneStep 127 = .ok (.putfield 175, 3) := by decide +kernel
theorem d_Ld_oneStep_130 : decode b_Ld_oneStep 130 = .ok (.bipush 6, 2) := by decide +kernel
theorem d_Ld_oneStep_132 : decode b_Ld_oneStep 132 = .ok (.ireturn, 1) := by decide +kernel
theorem d_St_init_0 : decode b_St_init 0 = .ok (.aload_n 0, 1) := by decide +kernel
theorem d_St_init_1 : decode b_St_init 1 = .ok (.invokespecial 3, 3) := by decide +kernel
theorem d_St_init_4 : decode b_St_init 4 = .ok (.aload_n 0, 1) := by decide +kernel
theorem d_St_init_5 : decode b_St_init 5 = .ok (.sipush 512, 3) := by decide +kernel
theorem d_St_init_8 : decode b_St_init 8 = .ok (.newarray .int, 2) := by decide +kernel
theorem d_St_init_10 : decode b_St_init 10 = .ok (.putfield 9, 3) := by decide +kernel
theorem d_St_init_13 : decode b_St_init 13 = .ok (.aload_n 0, 1) := by decide +kernel
theorem d_St_init_14 : decode b_St_init 14 = .ok (.iconst (-1), 1) := by decide +kernel
theorem d_St_init_15 : decode b_St_init 15 = .ok (.putfield 15, 3) := by decide +kernel
theorem d_St_init_18 : decode b_St_init 18 = .ok (.aload_n 0, 1) := by decide +kernel
theorem d_St_init_19 : decode b_St_init 19 = .ok (.iconst 0, 1) := by decide +kernel
theorem d_St_init_20 : decode b_St_init 20 = .ok (.putfield 19, 3) := by decide +kernel
theorem d_St_init_23 : decode b_St_init 23 = .ok (.aload_n 0, 1) := by decide +kernel
theorem d_St_init_24 : decode b_St_init 24 = .ok (.iconst 0, 1) := by decide +kernel
theorem d_St_init_25 : decode b_St_init 25 = .ok (.putfield 23, 3) := by decide +kernel
theorem d_St_init_28 : decode b_St_init 28 = .ok (.return_, 1) := by decide +kernel
theorem d_St_cell_0 : decode b_St_cell 0 = .ok (.iload_n 1, 1) := by decide +kernel
theorem d_St_cell_1 : decode b_St_cell 1 = .ok (.ifCond .lt 21, 3) := by decide +kernel
theorem d_St_cell_4 : decode b_St_cell 4 = .ok (.iload_n 1, 1) := by decide +kernel
theorem d_St_cell_5 : decode b_St_cell 5 = .ok (.aload_n 0, 1) := by decide +kernel
theorem d_St_cell_6 : decode b_St_cell 6 = .ok (.getfield 9, 3) := by decide +kernel
theorem d_St_cell_9 : decode b_St_cell 9 = .ok (.arraylength, 1) := by decide +kernel
theorem d_St_cell_10 : decode b_St_cell 10 = .ok (.if_icmp .ge 12, 3) := by decide +kernel
theorem d_St_cell_13 : decode b_St_cell 13 = .ok (.aload_n 0, 1) := by decide +kernel
theorem d_St_cell_14 : decode b_St_cell 14 = .ok (.getfield 9, 3) := by decide +kernel
theorem d_St_cell_17 : decode b_St_cell 17 = .ok (.iload_n 1, 1) := by decide +kernel
theorem d_St_cell_18 : decode b_St_cell 18 = .ok (.iaload, 1) := by decide +kernel
theorem d_St_cell_19 : decode b_St_cell 19 = .ok (.goto 4, 3) := by decide +kernel
theorem d_St_cell_22 : decode b_St_cell 22 = .ok (.iconst 0, 1) := by decide +kernel
theorem d_St_cell_23 : decode b_St_cell 23 = .ok (.ireturn, 1) := by decide +kernel
theorem d_St_isFormatted_0 : decode b_St_isFormatted 0 = .ok (.aload_n 0, 1) := by decide +kernel
theorem d_St_isFormatted_1 : decode b_St_isFormatted 1 = .ok (.getfield 9, 3) := by decide +kernel
theorem d_St_isFormatted_4 : decode b_St_isFormatted 4 = .ok (.iconst 0, 1) := by decide +kernel
theorem d_St_isFormatted_5 : decode b_St_isFormatted 5 = .ok (.iaload, 1) := by decide +kernel
theorem d_St_isFormatted_6 : decode b_St_isFormatted 6 = .ok (.sipush 7077, 3) := by decide +kernel
theorem d_St_isFormatted_9 : decode b_St_isFormatted 9 = .ok (.if_icmp .ne 7, 3) := by decide +kernel
theorem d_St_isFormatted_12 : decode b_St_isFormatted 12 = .ok (.iconst 1, 1) := by decide +kernel
theorem d_St_isFormatted_13 : decode b_St_isFormatted 13 = .ok (.goto 4, 3) := by decide +kernel
theorem d_St_isFormatted_16 : decode b_St_isFormatted 16 = .ok (.iconst 0, 1) := by decide +kernel
theorem d_St_isFormatted_17 : decode b_St_isFormatted 17 = .ok (.ireturn, 1) := by decide +kernel
theorem d_St_write_0 : decode b_St_write 0 = .ok (.aload_n 0, 1) := by decide +kernel
theorem d_St_write_1 : decode b_St_write 1 = .ok (.getfield 15, 3) := by decide +kernel
theorem d_St_write_4 : decode b_St_write 4 = .ok (.ifCond .ne 15, 3) := by decide +kernel
theorem d_St_write_7 : decode b_St_write 7 = .ok (.aload_n 0, 1) := by decide +kernel
theorem d_St_write_8 : decode b_St_write 8 = .ok (.iconst (-1), 1) := by decide +kernel
theorem d_St_write_9 : decode b_St_write 9 = .ok (.putfield 15, 3) := by decide +kernel
theorem d_St_write_12 : decode b_St_write 12 = .ok (.aload_n 0, 1) := by decide +kernel
theorem d_St_write_13 : decode b_St_write 13 = .ok (.iconst 1, 1) := by decide +kernel
theorem d_St_write_14 : decode b_St_write 14 = .ok (.putfield 19, 3) := by decide +kernel
theorem d_St_write_17 : decode b_St_write 17 = .ok (.iconst 0, 1) := by decide +kernel
theorem d_St_write_18 : decode b_St_write 18 = .ok (.ireturn, 1) := by decide +kernel
theorem d_St_write_19 : decode b_St_write 19 = .ok (.aload_n 0, 1) := by decide +kernel
theorem d_St_write_20 : decode b_St_write 20 = .ok (.getfield 15, 3) := by decide +kernel
theorem d_St_write_23 : decode b_St_write 23 = .ok (.ifCond .le 13, 3) := by decide +kernel
theorem d_St_write_26 : decode b_St_write 26 = .ok (.aload_n 0, 1) := by decide +kernel
theorem d_St_write_27 : decode b_St_write 27 = .ok (.dup, 1) := by decide +kernel
theorem d_St_write_28 : decode b_St_write 28 = .ok (.getfield 15, 3) := by decide +kernel
theorem d_St_write_31 : decode b_St_write 31 = .ok (.iconst 1, 1) := by decide +kernel
theorem d_St_write_32 : decode b_St_write 32 = .ok (.isub, 1) := by decide +kernel
theorem d_St_write_33 : decode b_St_write 33 = .ok (.putfield 15, 3) := by decide +kernel
theorem d_St_write_36 : decode b_St_write 36 = .ok (.iload_n 1, 1) := by decide +kernel
theorem d_St_write_37 : decode b_St_write 37 = .ok (.ifCond .lt 47, 3) := by decide +kernel
theorem d_St_write_40 : decode b_St_write 40 = .ok (.iload_n 1, 1) := by decide +kernel
theorem d_St_write_41 : decode b_St_write 41 = .ok (.bipush 32, 2) := by decide +kernel
theorem d_St_write_43 : decode b_St_write 43 = .ok (.if_icmp .ge 41, 3) := by decide +kernel
theorem d_St_write_46 : decode b_St_write 46 = .ok (.iload_n 3, 1) := by decide +kernel
theorem d_St_write_47 : decode b_St_write 47 = .ok (.ifCond .lt 37, 3) := by decide +kernel
theorem d_St_write_50 : decode b_St_write 50 = .ok (.iload_n 3, 1) := by decide +kernel
theorem d_St_write_51 : decode b_St_write 51 = .ok (.aload_n 2, 1) := by decide +kernel
theorem d_St_write_52 : decode b_St_write 52 = .ok (.arraylength, 1) := by decide +kernel
theorem d_St_write_53 : decode b_St_write 53 = .ok (.bipush 16, 2) := by decide +kernel
theorem d_St_write_55 : decode b_St_write 55 = .ok (.isub, 1) := by decide +kernel
theorem d_St_write_56 : decode b_St_write 56 = .ok (.if_icmp .gt 28, 3) := by decide +kernel
theorem d_St_write_59 : decode b_St_write 59 = .ok (.aload_n 2, 1) := by decide +kernel
theorem d_St_write_60 : decode b_St_write 60 = .ok (.iload_n 3, 1) := by decide +kernel
theorem d_St_write_61 : decode b_St_write 61 = .ok (.aload_n 0, 1) := by decide +kernel
theorem d_St_write_62 : decode b_St_write 62 = .ok (.getfield 9, 3) := by decide +kernel
theorem d_St_write_65 : decode b_St_write 65 = .ok (.iload_n 1, 1) := by decide +kernel
theorem d_St_write_66 : decode b_St_write 66 = .ok (.bipush 16, 2) := by decide +kernel
theorem d_St_write_68 : decode b_St_write 68 = .ok (.imul, 1) := by decide +kernel
theorem d_St_write_69 : decode b_St_write 69 = .ok (.bipush 16, 2) := by decide +kernel
theorem d_St_write_71 : decode b_St_write 71 = .ok (.invokestatic 26, 3) := by decide +kernel
theorem d_St_write_74 : decode b_St_write 74 = .ok (.aload_n 0, 1) := by decide +kernel
theorem d_St_write_75 : decode b_St_write 75 = .ok (.dup, 1) := by decide +kernel
theorem d_St_write_76 : decode b_St_write 76 = .ok (.getfield 23, 3) := by decide +kernel
theorem d_St_write_79 : decode b_St_write 79 = .ok (.iconst 1, 1) := by decide +kernel
theorem d_St_write_80 : decode b_St_write 80 = .ok (.iadd, 1) := by decide +kernel
theorem d_St_write_81 : decode b_St_write 81 = .ok (.putfield 23, 3) := by decide +kernel
theorem d_St_write_84 : decode b_St_write 84 = .ok (.iconst 1, 1) := by decide +kernel
theorem d_St_write_85 : decode b_St_write 85 = .ok (.ireturn, 1) := by decide +kernel
theorem d_Jo_init_0 : decode b_Jo_init 0 = .ok (.aload_n 0, 1) := by decide +kernel
theorem d_Jo_init_1 : decode b_Jo_init 1 = .ok (.invokespecial 3, 3) := by decide +kernel
theorem d_Jo_init_4 : decode b_Jo_init 4 = .ok (.aload_n 0, 1) := by decide +kernel
theorem d_Jo_init_5 : decode b_Jo_init 5 = .ok (.bipush 96, 2) := by decide +kernel
theorem d_Jo_init_7 : decode b_Jo_init 7 = .ok (.newarray .int, 2) := by decide +kernel
theorem d_Jo_init_9 : decode b_Jo_init 9 = .ok (.putfield 9, 3) := by decide +kernel
theorem d_Jo_init_12 : decode b_Jo_init 12 = .ok (.aload_n 0, 1) := by decide +kernel
theorem d_Jo_init_13 : decode b_Jo_init 13 = .ok (.bipush 16, 2) := by decide +kernel
theorem d_Jo_init_15 : decode b_Jo_init 15 = .ok (.newarray .int, 2) := by decide +kernel
theorem d_Jo_init_17 : decode b_Jo_init 17 = .ok (.putfield 15, 3) := by decide +kernel
theorem d_Jo_init_20 : decode b_Jo_init 20 = .ok (.aload_n 0, 1) := by decide +kernel
theorem d_Jo_init_21 : decode b_Jo_init 21 = .ok (.iconst 0, 1) := by decide +kernel
theorem d_Jo_init_22 : decode b_Jo_init 22 = .ok (.putfield 18, 3) := by decide +kernel
theorem d_Jo_init_25 : decode b_Jo_init 25 = .ok (.return_, 1) := by decide +kernel
theorem d_Wo_init_0 : decode b_Wo_init 0 = .ok (.aload_n 0, 1) := by decide +kernel
theorem d_Wo_init_1 : decode b_Wo_init 1 = .ok (.invokespecial 3, 3) := by decide +kernel
theorem d_Wo_init_4 : decode b_Wo_init 4 = .ok (.aload_n 0, 1) := by decide +kernel
theorem d_Wo_init_5 : decode b_Wo_init 5 = .ok (.bipush 10, 2) := by decide +kernel
theorem d_Wo_init_7 : decode b_Wo_init 7 = .ok (.newarray .int, 2) := by decide +kernel
theorem d_Wo_init_9 : decode b_Wo_init 9 = .ok (.putfield 9, 3) := by decide +kernel
theorem d_Wo_init_12 : decode b_Wo_init 12 = .ok (.aload_n 0, 1) := by decide +kernel
theorem d_Wo_init_13 : decode b_Wo_init 13 = .ok (.bipush 10, 2) := by decide +kernel
theorem d_Wo_init_15 : decode b_Wo_init 15 = .ok (.newarray .int, 2) := by decide +kernel
theorem d_Wo_init_17 : decode b_Wo_init 17 = .ok (.putfield 15, 3) := by decide +kernel
theorem d_Wo_init_20 : decode b_Wo_init 20 = .ok (.aload_n 0, 1) := by decide +kernel
theorem d_Wo_init_21 : decode b_Wo_init 21 = .ok (.bipush 120, 2) := by decide +kernel
theorem d_Wo_init_23 : decode b_Wo_init 23 = .ok (.newarray .int, 2) := by decide +kernel
theorem d_Wo_init_25 : decode b_Wo_init 25 = .ok (.putfield 18, 3) := by decide +kernel
theorem d_Wo_init_28 : decode b_Wo_init 28 = .ok (.aload_n 0, 1) := by decide +kernel
theorem d_Wo_init_29 : decode b_Wo_init 29 = .ok (.bipush 12, 2) := by decide +kernel
theorem d_Wo_init_31 : decode b_Wo_init 31 = .ok (.newarray .int, 2) := by decide +kernel
theorem d_Wo_init_33 : decode b_Wo_init 33 = .ok (.putfield 21, 3) := by decide +kernel
theorem d_Wo_init_36 : decode b_Wo_init 36 = .ok (.aload_n 0, 1) := by decide +kernel
theorem d_Wo_init_37 : decode b_Wo_init 37 = .ok (.bipush 8, 2) := by decide +kernel
theorem d_Wo_init_39 : decode b_Wo_init 39 = .ok (.newarray .int, 2) := by decide +kernel
theorem d_Wo_init_41 : decode b_Wo_init 41 = .ok (.putfield 24, 3) := by decide +kernel
theorem d_Wo_init_44 : decode b_Wo_init 44 = .ok (.aload_n 0, 1) := by decide +kernel
theorem d_Wo_init_45 : decode b_Wo_init 45 = .ok (.bipush 15, 2) := by decide +kernel
theorem d_Wo_init_47 : decode b_Wo_init 47 = .ok (.newarray .int, 2) := by decide +kernel
theorem d_Wo_init_49 : decode b_Wo_init 49 = .ok (.putfield 27, 3) := by decide +kernel
theorem d_Wo_init_52 : decode b_Wo_init 52 = .ok (.aload_n 0, 1) := by decide +kernel
theorem d_Wo_init_53 : decode b_Wo_init 53 = .ok (.iconst 0, 1) := by decide +kernel
theorem d_Wo_init_54 : decode b_Wo_init 54 = .ok (.putfield 30, 3) := by decide +kernel
theorem d_Wo_init_57 : decode b_Wo_init 57 = .ok (.aload_n 0, 1) := by decide +kernel
theorem d_Wo_init_58 : decode b_Wo_init 58 = .ok (.iconst 0, 1) := by decide +kernel
theorem d_Wo_init_59 : decode b_Wo_init 59 = .ok (.putfield 34, 3) := by decide +kernel
theorem d_Wo_init_62 : decode b_Wo_init 62 = .ok (.aload_n 0, 1) := by decide +kernel
theorem d_Wo_init_63 : decode b_Wo_init 63 = .ok (.iconst 0, 1) := by decide +kernel
theorem d_Wo_init_64 : decode b_Wo_init 64 = .ok (.putfield 37, 3) := by decide +kernel
theorem d_Wo_init_67 : decode b_Wo_init 67 = .ok (.return_, 1) := by decide +kernel
theorem d_Wo_empty_0 : decode b_Wo_empty 0 = .ok (.aload_n 0, 1) := by decide +kernel
theorem d_Wo_empty_1 : decode b_Wo_empty 1 = .ok (.iconst 0, 1) := by decide +kernel
theorem d_Wo_empty_2 : decode b_Wo_empty 2 = .ok (.putfield 30, 3) := by decide +kernel
theorem d_Wo_empty_5 : decode b_Wo_empty 5 = .ok (.aload_n 0, 1) := by decide +kernel
theorem d_Wo_empty_6 : decode b_Wo_empty 6 = .ok (.iconst 0, 1) := by decide +kernel
theorem d_Wo_empty_7 : decode b_Wo_empty 7 = .ok (.putfield 34, 3) := by decide +kernel
theorem d_Wo_empty_10 : decode b_Wo_empty 10 = .ok (.aload_n 0, 1) := by decide +kernel
theorem d_Wo_empty_11 : decode b_Wo_empty 11 = .ok (.iconst 0, 1) := by decide +kernel
theorem d_Wo_empty_12 : decode b_Wo_empty 12 = .ok (.putfield 37, 3) := by decide +kernel
theorem d_Wo_empty_15 : decode b_Wo_empty 15 = .ok (.aload_n 0, 1) := by decide +kernel
theorem d_Wo_empty_16 : decode b_Wo_empty 16 = .ok (.getfield 24, 3) := by decide +kernel
theorem d_Wo_empty_19 : decode b_Wo_empty 19 = .ok (.iconst 0, 1) := by decide +kernel
theorem d_Wo_empty_20 : decode b_Wo_empty 20 = .ok (.invokestatic 40, 3) := by decide +kernel
theorem d_Wo_empty_23 : decode b_Wo_empty 23 = .ok (.return_, 1) := by decide +kernel
theorem d_Wo_keepTyped_0 : decode b_Wo_keepTyped 0 = .ok (.aload_n 0, 1) := by decide +kernel
theorem d_Wo_keepTyped_1 : decode b_Wo_keepTyped 1 = .ok (.getfield 37, 3) := by decide +kernel
theorem d_Wo_keepTyped_4 : decode b_Wo_keepTyped 4 = .ok (.bipush 15, 2) := by decide +kernel
theorem d_Wo_keepTyped_6 : decode b_Wo_keepTyped 6 = .ok (.if_icmp .ge 23, 3) := by decide +kernel
theorem d_Wo_keepTyped_9 : decode b_Wo_keepTyped 9 = .ok (.aload_n 0, 1) := by decide +kernel
theorem d_Wo_keepTyped_10 : decode b_Wo_keepTyped 10 = .ok (.getfield 27, 3) := by decide +kernel
theorem d_Wo_keepTyped_13 : decode b_Wo_keepTyped 13 = .ok (.aload_n 0, 1) := by decide +kernel
theorem d_Wo_keepTyped_14 : decode b_Wo_keepTyped 14 = .ok (.getfield 37, 3) := by decide +kernel
theorem d_Wo_keepTyped_17 : decode b_Wo_keepTyped 17 = .ok (.iload_n 1, 1) := by decide +kernel
theorem d_Wo_keepTyped_18 : decode b_Wo_keepTyped 18 = .ok (.iastore, 1) := by decide +kernel
theorem d_Wo_keepTyped_19 : decode b_Wo_keepTyped 19 = .ok (.aload_n 0, 1) := by decide +kernel
theorem d_Wo_keepTyped_20 : decode b_Wo_keepTyped 20 = .ok (.dup, 1) := by decide +kernel
theorem d_Wo_keepTyped_21 : decode b_Wo_keepTyped 21 = .ok (.getfield 37, 3) := by decide +kernel
theorem d_Wo_keepTyped_24 : decode b_Wo_keepTyped 24 = .ok (.iconst 1, 1) := by decide +kernel
theorem d_Wo_keepTyped_25 : decode b_Wo_keepTyped 25 = .ok (.iadd, 1) := by decide +kernel
theorem d_Wo_keepTyped_26 : decode b_Wo_keepTyped 26 = .ok (.putfield 37, 3) := by decide +kernel
theorem d_Wo_keepTyped_29 : decode b_Wo_keepTyped 29 = .ok (.return_, 1) := by decide +kernel
theorem d_Wo_nextLine_0 : decode b_Wo_nextLine 0 = .ok (.aload_n 0, 1) := by decide +kernel
theorem d_Wo_nextLine_1 : decode b_Wo_nextLine 1 = .ok (.aload_n 0, 1) := by decide +kernel
theorem d_Wo_nextLine_2 : decode b_Wo_nextLine 2 = .ok (.getfield 34, 3) := by decide +kernel
theorem d_Wo_nextLine_5 : decode b_Wo_nextLine 5 = .ok (.invokevirtual 46, 3) := by decide +kernel
theorem d_Wo_nextLine_8 : decode b_Wo_nextLine 8 = .ok (.istore_n 1, 1) := by decide +kernel
theorem d_Wo_nextLine_9 : decode b_Wo_nextLine 9 = .ok (.iload_n 1, 1) := by decide +kernel
theorem d_Wo_nextLine_10 : decode b_Wo_nextLine 10 = .ok (.aload_n 0, 1) := by decide +kernel
theorem d_Wo_nextLine_11 : decode b_Wo_nextLine 11 = .ok (.getfield 30, 3) := by decide +kernel
theorem d_Wo_nextLine_14 : decode b_Wo_nextLine 14 = .ok (.if_icmp .ge 7, 3) := by decide +kernel
theorem d_Wo_nextLine_17 : decode b_Wo_nextLine 17 = .ok (.iload_n 1, 1) := by decide +kernel
theorem d_Wo_nextLine_18 : decode b_Wo_nextLine 18 = .ok (.goto 4, 3) := by decide +kernel
theorem d_Wo_nextLine_21 : decode b_Wo_nextLine 21 = .ok (.iconst (-1), 1) := by decide +kernel
theorem d_Wo_nextLine_22 : decode b_Wo_nextLine 22 = .ok (.ireturn, 1) := by decide +kernel
theorem d_Wo_placeOf_0 : decode b_Wo_placeOf 0 = .ok (.iconst 0, 1) := by decide +kernel
theorem d_Wo_placeOf_1 : decode b_Wo_placeOf 1 = .ok (.istore_n 2, 1) := by decide +kernel
theorem d_Wo_placeOf_2 : decode b_Wo_placeOf 2 = .ok (.iload_n 2, 1) := by decide +kernel
theorem d_Wo_placeOf_3 : decode b_Wo_placeOf 3 = .ok (.aload_n 0, 1) := by decide +kernel
theorem d_Wo_placeOf_4 : decode b_Wo_placeOf 4 = .ok (.getfield 30, 3) := by decide +kernel
theorem d_Wo_placeOf_7 : decode b_Wo_placeOf 7 = .ok (.if_icmp .ge 19, 3) := by decide +kernel
theorem d_Wo_placeOf_10 : decode b_Wo_placeOf 10 = .ok (.aload_n 0, 1) := by decide +kernel
theorem d_Wo_placeOf_11 : decode b_Wo_placeOf 11 = .ok (.getfield 9, 3) := by decide +kernel
theorem d_Wo_placeOf_14 : decode b_Wo_placeOf 14 = .ok (.iload_n 2, 1) := by decide +kernel
theorem d_Wo_placeOf_15 : decode b_Wo_placeOf 15 = .ok (.iaload, 1) := by decide +kernel
theorem d_Wo_placeOf_16 : decode b_Wo_placeOf 16 = .ok (.iload_n 1, 1) := by decide +kernel
theorem d_Wo_placeOf_17 : decode b_Wo_placeOf 17 = .ok (.if_icmp .ge 9, 3) := by decide +kernel
theorem d_Wo_placeOf_20 : decode b_Wo_placeOf 20 = .ok (.iinc 2 1, 3) := by decide +kernel
theorem d_Wo_placeOf_23 : decode b_Wo_placeOf 23 = .ok (.goto (-21), 3) := by decide +kernel
theorem d_Wo_placeOf_26 : decode b_Wo_placeOf 26 = .ok (.iload_n 2, 1) := by decide +kernel
theorem d_Wo_placeOf_27 : decode b_Wo_placeOf 27 = .ok (.ireturn, 1) := by decide +kernel
theorem d_Wo_numberOf_0 : decode b_Wo_numberOf 0 = .ok (.iload_n 1, 1) := by decide +kernel
theorem d_Wo_numberOf_1 : decode b_Wo_numberOf 1 = .ok (.ifCond .lt 20, 3) := by decide +kernel
theorem d_Wo_numberOf_4 : decode b_Wo_numberOf 4 = .ok (.iload_n 1, 1) := by decide +kernel
theorem d_Wo_numberOf_5 : decode b_Wo_numberOf 5 = .ok (.aload_n 0, 1) := by decide +kernel
theorem d_Wo_numberOf_6 : decode b_Wo_numberOf 6 = .ok (.getfield 30, 3) := by decide +kernel
theorem d_Wo_numberOf_9 : decode b_Wo_numberOf 9 = .ok (.if_icmp .ge 12, 3) := by decide +kernel
theorem d_Wo_numberOf_12 : decode b_Wo_numberOf 12 = .ok (.aload_n 0, 1) := by decide +kernel
theorem d_Wo_numberOf_13 : decode b_Wo_numberOf 13 = .ok (.getfield 9, 3) := by decide +kernel
theorem d_Wo_numberOf_16 : decode b_Wo_numberOf 16 = .ok (.iload_n 1, 1) := by decide +kernel
theorem d_Wo_numberOf_17 : decode b_Wo_numberOf 17 = .ok (.iaload, 1) := by decide +kernel
theorem d_Wo_numberOf_18 : decode b_Wo_numberOf 18 = .ok (.goto 4, 3) := by decide +kernel
theorem d_Wo_numberOf_21 : decode b_Wo_numberOf 21 = .ok (.iconst 0, 1) := by decide +kernel
theorem d_Wo_numberOf_22 : decode b_Wo_numberOf 22 = .ok (.ireturn, 1) := by decide +kernel
theorem d_Sm_init_0 : decode b_Sm_init 0 = .ok (.aload_n 0, 1) := by decide +kernel
theorem d_Sm_init_1 : decode b_Sm_init 1 = .ok (.invokespecial 3, 3) := by decide +kernel
theorem d_Sm_init_4 : decode b_Sm_init 4 = .ok (.aload_n 0, 1) := by decide +kernel
theorem d_Sm_init_5 : decode b_Sm_init 5 = .ok (.bipush 12, 2) := by decide +kernel
theorem d_Sm_init_7 : decode b_Sm_init 7 = .ok (.newarray .int, 2) := by decide +kernel
theorem d_Sm_init_9 : decode b_Sm_init 9 = .ok (.putfield 9, 3) := by decide +kernel
theorem d_Sm_init_12 : decode b_Sm_init 12 = .ok (.aload_n 0, 1) := by decide +kernel
theorem d_Sm_init_13 : decode b_Sm_init 13 = .ok (.bipush 8, 2) := by decide +kernel
theorem d_Sm_init_15 : decode b_Sm_init 15 = .ok (.newarray .int, 2) := by decide +kernel
theorem d_Sm_init_17 : decode b_Sm_init 17 = .ok (.putfield 15, 3) := by decide +kernel
theorem d_Sm_init_20 : decode b_Sm_init 20 = .ok (.aload_n 0, 1) := by decide +kernel
theorem d_Sm_init_21 : decode b_Sm_init 21 = .ok (.iconst 0, 1) := by decide +kernel
theorem d_Sm_init_22 : decode b_Sm_init 22 = .ok (.putfield 18, 3) := by decide +kernel
theorem d_Sm_init_25 : decode b_Sm_init 25 = .ok (.aload_n 0, 1) := by decide +kernel
theorem d_Sm_init_26 : decode b_Sm_init 26 = .ok (.iconst 0, 1) := by decide +kernel
theorem d_Sm_init_27 : decode b_Sm_init 27 = .ok (.putfield 22, 3) := by decide +kernel
theorem d_Sm_init_30 : decode b_Sm_init 30 = .ok (.aload_n 0, 1) := by decide +kernel
theorem d_Sm_init_31 : decode b_Sm_init 31 = .ok (.iconst 0, 1) := by decide +kernel
theorem d_Sm_init_32 : decode b_Sm_init 32 = .ok (.putfield 25, 3) := by decide +kernel
theorem d_Sm_init_35 : decode b_Sm_init 35 = .ok (.aload_n 0, 1) := by decide +kernel
theorem d_Sm_init_36 : decode b_Sm_init 36 = .ok (.iconst 0, 1) := by decide +kernel
theorem d_Sm_init_37 : decode b_Sm_init 37 = .ok (.putfield 29, 3) := by decide +kernel
theorem d_Sm_init_40 : decode b_Sm_init 40 = .ok (.aload_n 0, 1) := by decide +kernel
theorem d_Sm_init_41 : decode b_Sm_init 41 = .ok (.iconst 0, 1) := by decide +kernel
theorem d_Sm_init_42 : decode b_Sm_init 42 = .ok (.putfield 32, 3) := by decide +kernel
theorem d_Sm_init_45 : decode b_Sm_init 45 = .ok (.aload_n 0, 1) := by decide +kernel
theorem d_Sm_init_46 : decode b_Sm_init 46 = .ok (.iconst 0, 1) := by decide +kernel
theorem d_Sm_init_47 : decode b_Sm_init 47 = .ok (.putfield 35, 3) := by decide +kernel
theorem d_Sm_init_50 : decode b_Sm_init 50 = .ok (.aload_n 0, 1) := by decide +kernel
theorem d_Sm_init_51 : decode b_Sm_init 51 = .ok (.iconst 0, 1) := by decide +kernel
theorem d_Sm_init_52 : decode b_Sm_init 52 = .ok (.putfield 38, 3) := by decide +kernel
theorem d_Sm_init_55 : decode b_Sm_init 55 = .ok (.aload_n 0, 1) := by decide +kernel
theorem d_Sm_init_56 : decode b_Sm_init 56 = .ok (.iconst 0, 1) := by decide +kernel
theorem d_Sm_init_57 : decode b_Sm_init 57 = .ok (.putfield 41, 3) := by decide +kernel
theorem d_Sm_init_60 : decode b_Sm_init 60 = .ok (.aload_n 0, 1) := by decide +kernel
theorem d_Sm_init_61 : decode b_Sm_init 61 = .ok (.iconst 0, 1) := by decide +kernel
theorem d_Sm_init_62 : decode b_Sm_init 62 = .ok (.putfield 44, 3) := by decide +kernel
theorem d_Sm_init_65 : decode b_Sm_init 65 = .ok (.aload_n 0, 1) := by decide +kernel
theorem d_Sm_init_66 : decode b_Sm_init 66 = .ok (.iconst 0, 1) := by decide +kernel
theorem d_Sm_init_67 : decode b_Sm_init 67 = .ok (.putfield 47, 3) := by decide +kernel
theorem d_Sm_init_70 : decode b_Sm_init 70 = .ok (.return_, 1) := by decide +kernel
theorem d_Mo_init_0 : decode b_Mo_init 0 = .ok (.aload_n 0, 1) := by decide +kernel
theorem d_Mo_init_1 : decode b_Mo_init 1 = .ok (.invokespecial 1, 3) := by decide +kernel
theorem d_Mo_init_4 : decode b_Mo_init 4 = .ok (.aload_n 0, 1) := by decide +kernel
theorem d_Mo_init_5 : decode b_Mo_init 5 = .ok (.sipush 512, 3) := by decide +kernel
theorem d_Mo_init_8 : decode b_Mo_init 8 = .ok (.newarray .int, 2) := by decide +kernel
theorem d_Mo_init_10 : decode b_Mo_init 10 = .ok (.putfield 7, 3) := by decide +kernel
theorem d_Mo_init_13 : decode b_Mo_init 13 = .ok (.aload_n 0, 1) := by decide +kernel
theorem d_Mo_init_14 : decode b_Mo_init 14 = .ok (.iconst (-1), 1) := by decide +kernel
theorem d_Mo_init_15 : decode b_Mo_init 15 = .ok (.putfield 13, 3) := by decide +kernel
theorem d_Mo_init_18 : decode b_Mo_init 18 = .ok (.aload_n 0, 1) := by decide +kernel
theorem d_Mo_init_19 : decode b_Mo_init 19 = .ok (.bipush 100, 2) := by decide +kernel
theorem d_Mo_init_21 : decode b_Mo_init 21 = .ok (.newarray .int, 2) := by decide +kernel
theorem d_Mo_init_23 : decode b_Mo_init 23 = .ok (.putfield 17, 3) := by decide +kernel
theorem d_Mo_init_26 : decode b_Mo_init 26 = .ok (.aload_n 0, 1) := by decide +kernel
theorem d_Mo_init_27 : decode b_Mo_init 27 = .ok (.sipush 1200, 3) := by decide +kernel
theorem d_Mo_init_30 : decode b_Mo_init 30 = .ok (.newarray .int, 2) := by decide +kernel
theorem d_Mo_init_32 : decode b_Mo_init 32 = .ok (.putfield 20, 3) := by decide +kernel
theorem d_Mo_init_35 : decode b_Mo_init 35 = .ok (.aload_n 0, 1) := by decide +kernel
theorem d_Mo_init_36 : decode b_Mo_init 36 = .ok (.bipush 8, 2) := by decide +kernel
theorem d_Mo_init_38 : decode b_Mo_init 38 = .ok (.newarray .int, 2) := by decide +kernel
theorem d_Mo_init_40 : decode b_Mo_init 40 = .ok (.putfield 23, 3) := by decide +kernel
theorem d_Mo_init_43 : decode b_Mo_init 43 = .ok (.aload_n 0, 1) := by decide +kernel
theorem d_Mo_init_44 : decode b_Mo_init 44 = .ok (.bipush 60, 2) := by decide +kernel
theorem d_Mo_init_46 : decode b_Mo_init 46 = .ok (.newarray .int, 2) := by decide +kernel
theorem d_Mo_init_48 : decode b_Mo_init 48 = .ok (.putfield 26, 3) := by decide +kernel
theorem d_Mo_init_51 : decode b_Mo_init 51 = .ok (.aload_n 0, 1) := by decide +kernel
theorem d_Mo_init_52 : decode b_Mo_init 52 = .ok (.bipush 15, 2) := by decide +kernel
theorem d_Mo_init_54 : decode b_Mo_init 54 = .ok (.newarray .int, 2) := by decide +kernel
theorem d_Mo_init_56 : decode b_Mo_init 56 = .ok (.putfield 29, 3) := by decide +kernel
theorem d_Mo_init_59 : decode b_Mo_init 59 = .ok (.aload_n 0, 1) := by decide +kernel
theorem d_Mo_init_60 : decode b_Mo_init 60 = .ok (.bipush 16, 2) := by decide +kernel
theorem d_Mo_init_62 : decode b_Mo_init 62 = .ok (.newarray .int, 2) := by decide +kernel
theorem d_Mo_init_64 : decode b_Mo_init 64 = .ok (.putfield 32, 3) := by decide +kernel
theorem d_Mo_init_67 : decode b_Mo_init 67 = .ok (.aload_n 0, 1) := by decide +kernel
theorem d_Mo_init_68 : decode b_Mo_init 68 = .ok (.bipush 16, 2) := by decide +kernel
theorem d_Mo_init_70 : decode b_Mo_init 70 = .ok (.newarray .int, 2) := by decide +kernel
theorem d_Mo_init_72 : decode b_Mo_init 72 = .ok (.putfield 35, 3) := by decide +kernel
theorem d_Mo_init_75 : decode b_Mo_init 75 = .ok (.aload_n 0, 1) := by decide +kernel
theorem d_Mo_init_76 : decode b_Mo_init 76 = .ok (.bipush 6, 2) := by decide +kernel
theorem d_Mo_init_78 : decode b_Mo_init 78 = .ok (.newarray .int, 2) := by decide +kernel
theorem d_Mo_init_80 : decode b_Mo_init 80 = .ok (.putfield 38, 3) := by decide +kernel
theorem d_Mo_init_83 : decode b_Mo_init 83 = .ok (.aload_n 0, 1) := by decide +kernel
theorem d_Mo_init_84 : decode b_Mo_init 84 = .ok (.bipush 96, 2) := by decide +kernel
theorem d_Mo_init_86 : decode b_Mo_init 86 = .ok (.newarray .int, 2) := by decide +kernel
theorem d_Mo_init_88 : decode b_Mo_init 88 = .ok (.putfield 41, 3) := by decide +kernel
theorem d_Mo_init_91 : decode b_Mo_init 91 = .ok (.aload_n 0, 1) := by decide +kernel
theorem d_Mo_init_92 : decode b_Mo_init 92 = .ok (.invokevirtual 44, 3) := by decide +kernel
theorem d_Mo_init_95 : decode b_Mo_init 95 = .ok (.return_, 1) := by decide +kernel
theorem d_Mo_nothing_0 : decode b_Mo_nothing 0 = .ok (.iconst 0, 1) := by decide +kernel
theorem d_Mo_nothing_1 : decode b_Mo_nothing 1 = .ok (.istore_n 1, 1) := by decide +kernel
theorem d_Mo_nothing_2 : decode b_Mo_nothing 2 = .ok (.iload_n 1, 1) := by decide +kernel
theorem d_Mo_nothing_3 : decode b_Mo_nothing 3 = .ok (.bipush 100, 2) := by decide +kernel
theorem d_Mo_nothing_5 : decode b_Mo_nothing 5 = .ok (.if_icmp .ge 16, 3) := by decide +kernel
theorem d_Mo_nothing_8 : decode b_Mo_nothing 8 = .ok (.aload_n 0, 1) := by decide +kernel
theorem d_Mo_nothing_9 : decode b_Mo_nothing 9 = .ok (.getfield 17, 3) := by decide +kernel
theorem d_Mo_nothing_12 : decode b_Mo_nothing 12 = .ok (.iload_n 1, 1) := by decide +kernel
theorem d_Mo_nothing_13 : decode b_Mo_nothing 13 = .ok (.iconst (-1), 1) := by decide +kernel
theorem d_Mo_nothing_14 : decode b_Mo_nothing 14 = .ok (.iastore, 1) := by decide +kernel
theorem d_Mo_nothing_15 : decode b_Mo_nothing 15 = .ok (.iinc 1 1, 3) := by decide +kernel
theorem d_Mo_nothing_18 : decode b_Mo_nothing 18 = .ok (.goto (-16), 3) := by decide +kernel
theorem d_Mo_nothing_21 : decode b_Mo_nothing 21 = .ok (.iconst 0, 1) := by decide +kernel
theorem d_Mo_nothing_22 : decode b_Mo_nothing 22 = .ok (.istore_n 1, 1) := by decide +kernel
theorem d_Mo_nothing_23 : decode b_Mo_nothing 23 = .ok (.iload_n 1, 1) := by decide +kernel
theorem d_Mo_nothing_24 : decode b_Mo_nothing 24 = .ok (.bipush 8, 2) := by decide +kernel
theorem d_Mo_nothing_26 : decode b_Mo_nothing 26 = .ok (.if_icmp .ge 16, 3) := by decide +kernel
theorem d_Mo_nothing_29 : decode b_Mo_nothing 29 = .ok (.aload_n 0, 1) := by decide +kernel
theorem d_Mo_nothing_30 : decode b_Mo_nothing 30 = .ok (.getfield 23, 3) := by decide +kernel
theorem d_Mo_nothing_33 : decode b_Mo_nothing 33 = .ok (.iload_n 1, 1) := by decide +kernel
theorem d_Mo_nothing_34 : decode b_Mo_nothing 34 = .ok (.iconst 0, 1) := by decide +kernel
theorem d_Mo_nothing_35 : decode b_Mo_nothing 35 = .ok (.iastore, 1) := by decide +kernel
theorem d_Mo_nothing_36 : decode b_Mo_nothing 36 = .ok (.iinc 1 1, 3) := by decide +kernel
theorem d_Mo_nothing_39 : decode b_Mo_nothing 39 = .ok (.goto (-16), 3) := by decide +kernel
theorem d_Mo_nothing_42 : decode b_Mo_nothing 42 = .ok (.aload_n 0, 1) := by decide +kernel
theorem d_Mo_nothing_43 : decode b_Mo_nothing 43 = .ok (.iconst 0, 1) := by decide +kernel
theorem d_Mo_nothing_44 : decode b_Mo_nothing 44 = .ok (.putfield 50, 3) := by decide +kernel
theorem d_Mo_nothing_47 : decode b_Mo_nothing 47 = .ok (.aload_n 0, 1) := by decide +kernel
theorem d_Mo_nothing_48 : decode b_Mo_nothing 48 = .ok (.iconst 0, 1) := by decide +kernel
theorem d_Mo_nothing_49 : decode b_Mo_nothing 49 = .ok (.putfield 53, 3) := by decide +kernel
theorem d_Mo_nothing_52 : decode b_Mo_nothing 52 = .ok (.return_, 1) := by decide +kernel
theorem d_Mo_write_0 : decode b_Mo_write 0 = .ok (.aload_n 0, 1) := by decide +kernel
theorem d_Mo_write_1 : decode b_Mo_write 1 = .ok (.getfield 56, 3) := by decide +kernel
theorem d_Mo_write_4 : decode b_Mo_write 4 = .ok (.ifCond .eq 4, 3) := by decide +kernel
theorem d_Mo_write_7 : decode b_Mo_write 7 = .ok (.return_, 1) := by decide +kernel
theorem d_Mo_write_8 : decode b_Mo_write 8 = .ok (.aload_n 0, 1) := by decide +kernel
theorem d_Mo_write_9 : decode b_Mo_write 9 = .ok (.getfield 13, 3) := by decide +kernel
theorem d_Mo_write_12 : decode b_Mo_write 12 = .ok (.ifCond .ne 8, 3) := by decide +kernel
theorem d_Mo_write_15 : decode b_Mo_write 15 = .ok (.aload_n 0, 1) := by decide +kernel
theorem d_Mo_write_16 : decode b_Mo_write 16 = .ok (.invokevirtual 60, 3) := by decide +kernel
theorem d_Mo_write_19 : decode b_Mo_write 19 = .ok (.return_, 1) := by decide +kernel
theorem d_Mo_write_20 : decode b_Mo_write 20 = .ok (.aload_n 0, 1) := by decide +kernel
theorem d_Mo_write_21 : decode b_Mo_write 21 = .ok (.dup, 1) := by decide +kernel
theorem d_Mo_write_22 : decode b_Mo_write 22 = .ok (.getfield 13, 3) := by decide +kernel
theorem d_Mo_write_25 : decode b_Mo_write 25 = .ok (.aload_n 0, 1) := by decide +kernel
theorem d_Mo_write_26 : decode b_Mo_write 26 = .ok (.getfield 13, 3) := by decide +kernel
theorem d_Mo_write_29 : decode b_Mo_write 29 = .ok (.ifCond .le 7, 3) := by decide +kernel
theorem d_Mo_write_32 : decode b_Mo_write 32 = .ok (.iconst 1, 1) := by decide +kernel
theorem d_Mo_write_33 : decode b_Mo_write 33 = .ok (.goto 4, 3) := by decide +kernel
theorem d_Mo_write_36 : decode b_Mo_write 36 = .ok (.iconst 0, 1) := by decide +kernel
theorem d_Mo_write_37 : decode b_Mo_write 37 = .ok (.isub, 1) := by decide +kernel
theorem d_Mo_write_38 : decode b_Mo_write 38 = .ok (.putfield 13, 3) := by decide +kernel
theorem d_Mo_write_41 : decode b_Mo_write 41 = .ok (.aload_n 0, 1) := by decide +kernel
theorem d_Mo_write_42 : decode b_Mo_write 42 = .ok (.dup, 1) := by decide +kernel
theorem d_Mo_write_43 : decode b_Mo_write 43 = .ok (.getfield 63, 3) := by decide +kernel
theorem d_Mo_write_46 : decode b_Mo_write 46 = .ok (.iconst 1, 1) := by decide +kernel
theorem d_Mo_write_47 : decode b_Mo_write 47 = .ok (.iadd, 1) := by decide +kernel
theorem d_Mo_write_48 : decode b_Mo_write 48 = .ok (.putfield 63, 3) := by decide +kernel
theorem d_Mo_write_51 : decode b_Mo_write 51 = .ok (.iconst 0, 1) := by decide +kernel
theorem d_Mo_write_52 : decode b_Mo_write 52 = .ok (.istore_n 3, 1) := by decide +kernel
theorem d_Mo_write_53 : decode b_Mo_write 53 = .ok (.iload_n 3, 1) := by decide +kernel
theorem d_Mo_write_54 : decode b_Mo_write 54 = .ok (.bipush 16, 2) := by decide +kernel
theorem d_Mo_write_56 : decode b_Mo_write 56 = .ok (.if_icmp .ge 37, 3) := by decide +kernel
theorem d_Mo_write_59 : decode b_Mo_write 59 = .ok (.aload_n 0, 1) := by decide +kernel
theorem d_Mo_write_60 : decode b_Mo_write 60 = .ok (.getfield 7, 3) := by decide +kernel
theorem d_Mo_write_63 : decode b_Mo_write 63 = .ok (.bipush 16, 2) := by decide +kernel
theorem d_Mo_write_65 : decode b_Mo_write 65 = .ok (.iload_n 1, 1) := by decide +kernel
theorem d_Mo_write_66 : decode b_Mo_write 66 = .ok (.imul, 1) := by decide +kernel
theorem d_Mo_write_67 : decode b_Mo_write 67 = .ok (.iload_n 3, 1) := by decide +kernel
theorem d_Mo_write_68 : decode b_Mo_write 68 = .ok (.iadd, 1) := by decide +kernel
theorem d_Mo_write_69 : decode b_Mo_write 69 = .ok (.iload_n 2, 1) := by decide +kernel
theorem d_Mo_write_70 : decode b_Mo_write 70 = .ok (.iconst (-1), 1) := by decide +kernel
theorem d_Mo_write_71 : decode b_Mo_write 71 = .ok (.if_icmp .ne 7, 3) := by decide +kernel
theorem d_Mo_write_74 : decode b_Mo_write 74 = .ok (.iconst 0, 1) := by decide +kernel
theorem d_Mo_write_75 : decode b_Mo_write 75 = .ok (.goto 11, 3) := by decide +kernel
theorem d_Mo_write_78 : decode b_Mo_write 78 = .ok (.aload_n 0, 1) := by decide +kernel
theorem d_Mo_write_79 : decode b_Mo_write 79 = .ok (.getfield 41, 3) := by decide +kernel
theorem d_Mo_write_82 : decode b_Mo_write 82 = .ok (.iload_n 2, 1) := by decide +kernel
theorem d_Mo_write_83 : decode b_Mo_write 83 = .ok (.iload_n 3, 1) := by decide +kernel
theorem d_Mo_write_84 : decode b_Mo_write 84 = .ok (.iadd, 1) := by decide +kernel
theorem d_Mo_write_85 : decode b_Mo_write 85 = .ok (.iaload, 1) := by decide +kernel
theorem d_Mo_write_86 : decode b_Mo_write 86 = .ok (.iastore, 1) := by decide +kernel
theorem d_Mo_write_87 : decode b_Mo_write 87 = .ok (.iinc 3 1, 3) := by decide +kernel
theorem d_Mo_write_90 : decode b_Mo_write 90 = .ok (.goto (-37), 3) := by decide +kernel
theorem d_Mo_write_93 : decode b_Mo_write 93 = .ok (.return_, 1) := by decide +kernel
theorem d_Mo_formatted_0 : decode b_Mo_formatted 0 = .ok (.aload_n 0, 1) := by decide +kernel
theorem d_Mo_formatted_1 : decode b_Mo_formatted 1 = .ok (.getfield 7, 3) := by decide +kernel
theorem d_Mo_formatted_4 : decode b_Mo_formatted 4 = .ok (.iconst 0, 1) := by decide +kernel
theorem d_Mo_formatted_5 : decode b_Mo_formatted 5 = .ok (.iaload, 1) := by decide +kernel
theorem d_Mo_formatted_6 : decode b_Mo_formatted 6 = .ok (.sipush 7077, 3) := by decide +kernel
theorem d_Mo_formatted_9 : decode b_Mo_formatted 9 = .ok (.if_icmp .ne 7, 3) := by decide +kernel
theorem d_Mo_formatted_12 : decode b_Mo_formatted 12 = .ok (.iconst 1, 1) := by decide +kernel
theorem d_Mo_formatted_13 : decode b_Mo_formatted 13 = .ok (.goto 4, 3) := by decide +kernel
theorem d_Mo_formatted_16 : decode b_Mo_formatted 16 = .ok (.iconst 0, 1) := by decide +kernel
theorem d_Mo_formatted_17 : decode b_Mo_formatted 17 = .ok (.ireturn, 1) := by decide +kernel
theorem d_Mo_format_0 : decode b_Mo_format 0 = .ok (.aload_n 0, 1) := by decide +kernel
theorem d_Mo_format_1 : decode b_Mo_format 1 = .ok (.iconst 0, 1) := by decide +kernel
theorem d_Mo_format_2 : decode b_Mo_format 2 = .ok (.putfield 47, 3) := by decide +kernel
theorem d_Mo_format_5 : decode b_Mo_format 5 = .ok (.aload_n 0, 1) := by decide +kernel
theorem d_Mo_format_6 : decode b_Mo_format 6 = .ok (.getfield 56, 3) := by decide +kernel
theorem d_Mo_format_9 : decode b_Mo_format 9 = .ok (.ifCond .eq 6, 3) := by decide +kernel
theorem d_Mo_format_12 : decode b_Mo_format 12 = .ok (.bipush 7, 2) := by decide +kernel
theorem d_Mo_format_14 : decode b_Mo_format 14 = .ok (.ireturn, 1) := by decide +kernel
theorem d_Mo_format_15 : decode b_Mo_format 15 = .ok (.iconst 0, 1) := by decide +kernel
theorem d_Mo_format_16 : decode b_Mo_format 16 = .ok (.istore_n 1, 1) := by decide +kernel
theorem d_Mo_format_17 : decode b_Mo_format 17 = .ok (.iload_n 1, 1) := by decide +kernel
theorem d_Mo_format_18 : decode b_Mo_format 18 = .ok (.bipush 16, 2) := by decide +kernel
theorem d_Mo_format_20 : decode b_Mo_format 20 = .ok (.if_icmp .ge 26, 3) := by decide +kernel
theorem d_Mo_format_23 : decode b_Mo_format 23 = .ok (.aload_n 0, 1) := by decide +kernel
theorem d_Mo_format_24 : decode b_Mo_format 24 = .ok (.getfield 41, 3) := by decide +kernel
theorem d_Mo_format_27 : decode b_Mo_format 27 = .ok (.iload_n 1, 1) := by decide +kernel
theorem d_Mo_format_28 : decode b_Mo_format 28 = .ok (.iload_n 1, 1) := by decide +kernel
theorem d_Mo_format_29 : decode b_Mo_format 29 = .ok (.ifCond .ne 9, 3) := by decide +kernel
theorem d_Mo_format_32 : decode b_Mo_format 32 = .ok (.sipush 7077, 3) := by decide +kernel
theorem d_Mo_format_35 : decode b_Mo_format 35 = .ok (.goto 4, 3) := by decide +kernel
theorem d_Mo_format_38 : decode b_Mo_format 38 = .ok (.iconst 0, 1) := by decide +kernel
theorem d_Mo_format_39 : decode b_Mo_format 39 = .ok (.iastore, 1) := by decide +kernel
theorem d_Mo_format_40 : decode b_Mo_format 40 = .ok (.iinc 1 1, 3) := by decide +kernel
theorem d_Mo_format_43 : decode b_Mo_format 43 = .ok (.goto (-26), 3) := by decide +kernel
theorem d_Mo_format_46 : decode b_Mo_format 46 = .ok (.aload_n 0, 1) := by decide +kernel
theorem d_Mo_format_47 : decode b_Mo_format 47 = .ok (.iconst 2, 1) := by decide +kernel
theorem d_Mo_format_48 : decode b_Mo_format 48 = .ok (.iconst (-1), 1) := by decide +kernel
theorem d_Mo_format_49 : decode b_Mo_format 49 = .ok (.invokevirtual 66, 3) := by decide +kernel
theorem d_Mo_format_52 : decode b_Mo_format 52 = .ok (.aload_n 0, 1) := by decide +kernel
theorem d_Mo_format_53 : decode b_Mo_format 53 = .ok (.iconst 1, 1) := by decide +kernel
theorem d_Mo_format_54 : decode b_Mo_format 54 = .ok (.iconst (-1), 1) := by decide +kernel
theorem d_Mo_format_55 : decode b_Mo_format 55 = .ok (.invokevirtual 66, 3) := by decide +kernel
theorem d_Mo_format_58 : decode b_Mo_format 58 = .ok (.aload_n 0, 1) := by decide +kernel
theorem d_Mo_format_59 : decode b_Mo_format 59 = .ok (.iconst 0, 1) := by decide +kernel
theorem d_Mo_format_60 : decode b_Mo_format 60 = .ok (.iconst 0, 1) := by decide +kernel
theorem d_Mo_format_61 : decode b_Mo_format 61 = .ok (.invokevirtual 66, 3) := by decide +kernel
theorem d_Mo_format_64 : decode b_Mo_format 64 = .ok (.aload_n 0, 1) := by decide +kernel
theorem d_Mo_format_65 : decode b_Mo_format 65 = .ok (.getfield 56, 3) := by decide +kernel
theorem d_Mo_format_68 : decode b_Mo_format 68 = .ok (.ifCond .eq 8, 3) := by decide +kernel
theorem d_Mo_format_71 : decode b_Mo_format 71 = .ok (.bipush 7, 2) := by decide +kernel
theorem d_Mo_format_73 : decode b_Mo_format 73 = .ok (.goto 4, 3) := by decide +kernel
theorem d_Mo_format_76 : decode b_Mo_format 76 = .ok (.iconst 0, 1) := by decide +kernel
theorem d_Mo_format_77 : decode b_Mo_format 77 = .ok (.ireturn, 1) := by decide +kernel
theorem d_Mo_recover_0 : decode b_Mo_recover 0 = .ok (.aload_n 0, 1) := by decide +kernel
theorem d_Mo_recover_1 : decode b_Mo_recover 1 = .ok (.iconst 0, 1) := by decide +kernel
theorem d_Mo_recover_2 : decode b_Mo_recover 2 = .ok (.putfield 47, 3) := by decide +kernel
theorem d_Mo_recover_5 : decode b_Mo_recover 5 = .ok (.aload_n 0, 1) := by decide +kernel
theorem d_Mo_recover_6 : decode b_Mo_recover 6 = .ok (.iconst 0, 1) := by decide +kernel
theorem d_Mo_recover_7 : decode b_Mo_recover 7 = .ok (.putfield 56, 3) := by decide +kernel
theorem d_Mo_recover_10 : decode b_Mo_recover 10 = .ok (.aload_n 0, 1) := by decide +kernel
theorem d_Mo_recover_11 : decode b_Mo_recover 11 = .ok (.invokevirtual 44, 3) := by decide +kernel
theorem d_Mo_recover_14 : decode b_Mo_recover 14 = .ok (.aload_n 0, 1) := by decide +kernel
theorem d_Mo_recover_15 : decode b_Mo_recover 15 = .ok (.invokevirtual 76, 3) := by decide +kernel
theorem d_Mo_recover_18 : decode b_Mo_recover 18 = .ok (.istore_n 1, 1) := by decide +kernel
theorem d_Mo_recover_19 : decode b_Mo_recover 19 = .ok (.iload_n 1, 1) := by decide +kernel
theorem d_Mo_recover_20 : decode b_Mo_recover 20 = .ok (.ifCond .eq 96, 3) := by decide +kernel
theorem d_Mo_recover_23 : decode b_Mo_recover 23 = .ok (.aload_n 0, 1) := by decide +kernel
theorem d_Mo_recover_24 : decode b_Mo_recover 24 = .ok (.getfield 7, 3) := by decide +kernel
theorem d_Mo_recover_27 : decode b_Mo_recover 27 = .ok (.bipush 32, 2) := by decide +kernel
theorem d_Mo_recover_29 : decode b_Mo_recover 29 = .ok (.iaload, 1) := by decide +kernel
theorem d_Mo_recover_30 : decode b_Mo_recover 30 = .ok (.ifCond .eq 86, 3) := by decide +kernel
theorem d_Mo_recover_33 : decode b_Mo_recover 33 = .ok (.aload_n 0, 1) := by decide +kernel
theorem d_Mo_recover_34 : decode b_Mo_recover 34 = .ok (.getfield 7, 3) := by decide +kernel
theorem d_Mo_recover_37 : decode b_Mo_recover 37 = .ok (.bipush 32, 2) := by decide +kernel
theorem d_Mo_recover_39 : decode b_Mo_recover 39 = .ok (.iaload, 1) := by decide +kernel
theorem d_Mo_recover_40 : decode b_Mo_recover 40 = .ok (.istore_n 2, 1) := by decide +kernel
theorem d_Mo_recover_41 : decode b_Mo_recover 41 = .ok (.iconst 0, 1) := by decide +kernel
theorem d_Mo_recover_42 : decode b_Mo_recover 42 = .ok (.istore_n 3, 1) := by decide +kernel
theorem d_Mo_recover_43 : decode b_Mo_recover 43 = .ok (.iload_n 3, 1) := by decide +kernel
theorem d_Mo_recover_44 : decode b_Mo_recover 44 = .ok (.iload_n 2, 1) := by decide +kernel
theorem d_Mo_recover_45 : decode b_Mo_recover 45 = .ok (.if_icmp .ge 65, 3) := by decide +kernel
theorem d_Mo_recover_48 : decode b_Mo_recover 48 = .ok (.aload_n 0, 1) := by decide +kernel
theorem d_Mo_recover_49 : decode b_Mo_recover 49 = .ok (.getfield 7, 3) := by decide +kernel
theorem d_Mo_recover_52 : decode b_Mo_recover 52 = .ok (.bipush 33, 2) := by decide +kernel
theorem d_Mo_recover_54 : decode b_Mo_recover 54 = .ok (.iload_n 3, 1) := by decide +kernel
theorem d_Mo_recover_55 : decode b_Mo_recover 55 = .ok (.iadd, 1) := by decide +kernel
theorem d_Mo_recover_56 : decode b_Mo_recover 56 = .ok (.iaload, 1) := by decide +kernel
theorem d_Mo_recover_57 : decode b_Mo_recover 57 = .ok (.istore 4, 2) := by decide +kernel
theorem d_Mo_recover_59 : decode b_Mo_recover 59 = .ok (.iconst 0, 1) := by decide +kernel
theorem d_Mo_recover_60 : decode b_Mo_recover 60 = .ok (.istore 5, 2) := by decide +kernel
theorem d_Mo_recover_62 : decode b_Mo_recover 62 = .ok (.iload 5, 2) := by decide +kernel
theorem d_Mo_recover_64 : decode b_Mo_recover 64 = .ok (.bipush 16, 2) := by decide +kernel
theorem d_Mo_recover_66 : decode b_Mo_recover 66 = .ok (.if_icmp .ge 31, 3) := by decide +kernel
theorem d_Mo_recover_69 : decode b_Mo_recover 69 = .ok (.aload_n 0, 1) := by decide +kernel
theorem d_Mo_recover_70 : decode b_Mo_recover 70 = .ok (.getfield 41, 3) := by decide +kernel
theorem d_Mo_recover_73 : decode b_Mo_recover 73 = .ok (.iload 5, 2) := by decide +kernel
theorem d_Mo_recover_75 : decode b_Mo_recover 75 = .ok (.aload_n 0, 1) := by decide +kernel
theorem d_Mo_recover_76 : decode b_Mo_recover 76 = .ok (.getfield 7, 3) := by decide +kernel
theorem d_Mo_recover_79 : decode b_Mo_recover 79 = .ok (.bipush 48, 2) := by decide +kernel
theorem d_Mo_recover_81 : decode b_Mo_recover 81 = .ok (.bipush 16, 2) := by decide +kernel
theorem d_Mo_recover_83 : decode b_Mo_recover 83 = .ok (.iload_n 3, 1) := by decide +kernel
theorem d_Mo_recover_84 : decode b_Mo_recover 84 = .ok (.imul, 1) := by decide +kernel
theorem d_Mo_recover_85 : decode b_Mo_recover 85 = .ok (.iadd, 1) := by decide +kernel
theorem d_Mo_recover_86 : decode b_Mo_recover 86 = .ok (.iload 5, 2) := by decide +kernel
theorem d_Mo_recover_88 : decode b_Mo_recover 88 = .ok (.iadd, 1) := by decide +kernel
theorem d_Mo_recover_89 : decode b_Mo_recover 89 = .ok (.iaload, 1) := by decide +kernel
theorem d_Mo_recover_90 : decode b_Mo_recover 90 = .ok (.iastore, 1) := by decide +kernel
theorem d_Mo_recover_91 : decode b_Mo_recover 91 = .ok (.iinc 5 1, 3) := by decide +kernel
theorem d_Mo_recover_94 : decode b_Mo_recover 94 = .ok (.goto (-32), 3) := by decide +kernel
theorem d_Mo_recover_97 : decode b_Mo_recover 97 = .ok (.aload_n 0, 1) := by decide +kernel
theorem d_Mo_recover_98 : decode b_Mo_recover 98 = .ok (.iload 4, 2) := by decide +kernel
theorem d_Mo_recover_100 : decode b_Mo_recover 100 = .ok (.iconst 0, 1) := by decide +kernel
theorem d_Mo_recover_101 : decode b_Mo_recover 101 = .ok (.invokevirtual 66, 3) := by decide +kernel
theorem d_Mo_recover_104 : decode b_Mo_recover 104 = .ok (.iinc 3 1, 3) := by decide +kernel
theorem d_Mo_recover_107 : decode b_Mo_recover 107 = .ok (.goto (-64), 3) := by decide +kernel
theorem d_Mo_recover_110 : decode b_Mo_recover 110 = .ok (.aload_n 0, 1) := by decide +kernel
theorem d_Mo_recover_111 : decode b_Mo_recover 111 = .ok (.iconst 2, 1) := by decide +kernel
theorem d_Mo_recover_112 : decode b_Mo_recover 112 = .ok (.iconst (-1), 1) := by decide +kernel
theorem d_Mo_recover_113 : decode b_Mo_recover 113 = .ok (.invokevirtual 66, 3) := by decide +kernel
theorem d_Mo_recover_116 : decode b_Mo_recover 116 = .ok (.aload_n 0, 1) := by decide +kernel
theorem d_Mo_recover_117 : decode b_Mo_recover 117 = .ok (.iconst (-1), 1) := by decide +kernel
theorem d_Mo_recover_118 : decode b_Mo_recover 118 = .ok (.putfield 13, 3) := by decide +kernel
theorem d_Mo_recover_121 : decode b_Mo_recover 121 = .ok (.aload_n 0, 1) := by decide +kernel
theorem d_Mo_recover_122 : decode b_Mo_recover 122 = .ok (.getfield 56, 3) := by decide +kernel
theorem d_Mo_recover_125 : decode b_Mo_recover 125 = .ok (.ifCond .eq 8, 3) := by decide +kernel
theorem d_Mo_recover_128 : decode b_Mo_recover 128 = .ok (.bipush 7, 2) := by decide +kernel
theorem d_Mo_recover_130 : decode b_Mo_recover 130 = .ok (.goto 13, 3) := by decide +kernel
theorem d_Mo_recover_133 : decode b_Mo_recover 133 = .ok (.iload_n 1, 1) := by decide +kernel
theorem d_Mo_recover_134 : decode b_Mo_recover 134 = .ok (.ifCond .eq 7, 3) := by decide +kernel
theorem d_Mo_recover_137 : decode b_Mo_recover 137 = .ok (.iconst 0, 1) := by decide +kernel
theorem d_Mo_recover_138 : decode b_Mo_recover 138 = .ok (.goto 5, 3) := by decide +kernel
theorem d_Mo_recover_141 : decode b_Mo_recover 141 = .ok (.bipush 8, 2) := by decide +kernel
theorem d_Mo_recover_143 : decode b_Mo_recover 143 = .ok (.ireturn, 1) := by decide +kernel
