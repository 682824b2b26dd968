theorem d_Ld_init_0 : decode b_Ld_init 0 = .ok (.aload_n 0, 1) := by decide +kernel
theorem d_Ld_init_1 : decode b_Ld_init 1 = .ok (.invokespecial 1, 3) := by decide +kernel
theorem d_Ld_init_4 : decode b_Ld_init 4 = .ok (.aload_n 0, 1) := by decide +kernel
theorem d_Ld_init_5 : decode b_Ld_init 5 = .ok (.new 7, 3) := by decide +kernel
theorem d_Ld_init_8 : decode b_Ld_init 8 = .ok (.dup, 1) := by decide +kernel
theorem d_Ld_init_9 : decode b_Ld_init 9 = .ok (.invokespecial 9, 3) := by decide +kernel
theorem d_Ld_init_12 : decode b_Ld_init 12 = .ok (.putfield 10, 3) := by decide +kernel
theorem d_Ld_init_15 : decode b_Ld_init 15 = .ok (.aload_n 0, 1) := by decide +kernel
theorem d_Ld_init_16 : decode b_Ld_init 16 = .ok (.new 16, 3) := by decide +kernel
theorem d_Ld_init_19 : decode b_Ld_init 19 = .ok (.dup, 1) := by decide +kernel
theorem d_Ld_init_20 : decode b_Ld_init 20 = .ok (.invokespecial 18, 3) := by decide +kernel
theorem d_Ld_init_23 : decode b_Ld_init 23 = .ok (.putfield 19, 3) := by decide +kernel
theorem d_Ld_init_26 : decode b_Ld_init 26 = .ok (.aload_n 0, 1) := by decide +kernel
theorem d_Ld_init_27 : decode b_Ld_init 27 = .ok (.new 23, 3) := by decide +kernel
theorem d_Ld_init_30 : decode b_Ld_init 30 = .ok (.dup, 1) := by decide +kernel
theorem d_Ld_init_31 : decode b_Ld_init 31 = .ok (.invokespecial 25, 3) := by decide +kernel
theorem d_Ld_init_34 : decode b_Ld_init 34 = .ok (.putfield 26, 3) := by decide +kernel
theorem d_Ld_init_37 : decode b_Ld_init 37 = .ok (.aload_n 0, 1) := by decide +kernel
theorem d_Ld_init_38 : decode b_Ld_init 38 = .ok (.new 30, 3) := by decide +kernel
theorem d_Ld_init_41 : decode b_Ld_init 41 = .ok (.dup, 1) := by decide +kernel
theorem d_Ld_init_42 : decode b_Ld_init 42 = .ok (.invokespecial 32, 3) := by decide +kernel
theorem d_Ld_init_45 : decode b_Ld_init 45 = .ok (.putfield 33, 3) := by decide +kernel
theorem d_Ld_init_48 : decode b_Ld_init 48 = .ok (.aload_n 0, 1) := by decide +kernel
theorem d_Ld_init_49 : decode b_Ld_init 49 = .ok (.bipush 60, 2) := by decide +kernel
theorem d_Ld_init_51 : decode b_Ld_init 51 = .ok (.newarray .int, 2) := by decide +kernel
theorem d_Ld_init_53 : decode b_Ld_init 53 = .ok (.putfield 37, 3) := by decide +kernel
theorem d_Ld_init_56 : decode b_Ld_init 56 = .ok (.aload_n 0, 1) := by decide +kernel
theorem d_Ld_init_57 : decode b_Ld_init 57 = .ok (.iconst 0, 1) := by decide +kernel
theorem d_Ld_init_58 : decode b_Ld_init 58 = .ok (.putfield 41, 3) := by decide +kernel
theorem d_Ld_init_61 : decode b_Ld_init 61 = .ok (.return_, 1) := by decide +kernel
theorem d_Ld_format_0 : decode b_Ld_format 0 = .ok (.aload_n 0, 1) := by decide +kernel
theorem d_Ld_format_1 : decode b_Ld_format 1 = .ok (.getfield 10, 3) := by decide +kernel
theorem d_Ld_format_4 : decode b_Ld_format 4 = .ok (.getfield 45, 3) := by decide +kernel
theorem d_Ld_format_7 : decode b_Ld_format 7 = .ok (.ifCond .eq 6, 3) := by decide +kernel
theorem d_Ld_format_10 : decode b_Ld_format 10 = .ok (.bipush 7, 2) := by decide +kernel
theorem d_Ld_format_12 : decode b_Ld_format 12 = .ok (.ireturn, 1) := by decide +kernel
theorem d_Ld_format_13 : decode b_Ld_format 13 = .ok (.aload_n 0, 1) := by decide +kernel
theorem d_Ld_format_14 : decode b_Ld_format 14 = .ok (.getfield 10, 3) := by decide +kernel
theorem d_Ld_format_17 : decode b_Ld_format 17 = .ok (.iconst 2, 1) := by decide +kernel
theorem d_Ld_format_18 : decode b_Ld_format 18 = .ok (.getstatic 49, 3) := by decide +kernel
theorem d_Ld_format_21 : decode b_Ld_format 21 = .ok (.iconst 0, 1) := by decide +kernel
theorem d_Ld_format_22 : decode b_Ld_format 22 = .ok (.invokevirtual 52, 3) := by decide +kernel
theorem d_Ld_format_25 : decode b_Ld_format 25 = .ok (.ifCond .eq 37, 3) := by decide +kernel
theorem d_Ld_format_28 : decode b_Ld_format 28 = .ok (.aload_n 0, 1) := by decide +kernel
theorem d_Ld_format_29 : decode b_Ld_format 29 = .ok (.getfield 10, 3) := by decide +kernel
theorem d_Ld_format_32 : decode b_Ld_format 32 = .ok (.iconst 1, 1) := by decide +kernel
theorem d_Ld_format_33 : decode b_Ld_format 33 = .ok (.getstatic 49, 3) := by decide +kernel
theorem d_Ld_format_36 : decode b_Ld_format 36 = .ok (.iconst 0, 1) := by decide +kernel
theorem d_Ld_format_37 : decode b_Ld_format 37 = .ok (.invokevirtual 52, 3) := by decide +kernel
theorem d_Ld_format_40 : decode b_Ld_format 40 = .ok (.ifCond .eq 22, 3) := by decide +kernel
theorem d_Ld_format_43 : decode b_Ld_format 43 = .ok (.aload_n 0, 1) := by decide +kernel
theorem d_Ld_format_44 : decode b_Ld_format 44 = .ok (.getfield 10, 3) := by decide +kernel
theorem d_Ld_format_47 : decode b_Ld_format 47 = .ok (.iconst 0, 1) := by decide +kernel
theorem d_Ld_format_48 : decode b_Ld_format 48 = .ok (.getstatic 56, 3) := by decide +kernel
theorem d_Ld_format_51 : decode b_Ld_format 51 = .ok (.iconst 0, 1) := by decide +kernel
theorem d_Ld_format_52 : decode b_Ld_format 52 = .ok (.invokevirtual 52, 3) := by decide +kernel
theorem d_Ld_format_55 : decode b_Ld_format 55 = .ok (.ifCond .eq 7, 3) := by decide +kernel
theorem d_Ld_format_58 : decode b_Ld_format 58 = .ok (.iconst 1, 1) := by decide +kernel
theorem d_Ld_format_59 : decode b_Ld_format 59 = .ok (.goto 4, 3) := by decide +kernel
theorem d_Ld_format_62 : decode b_Ld_format 62 = .ok (.iconst 0, 1) := by decide +kernel
theorem d_Ld_format_63 : decode b_Ld_format 63 = .ok (.istore_n 1, 1) := by decide +kernel
theorem d_Ld_format_64 : decode b_Ld_format 64 = .ok (.iload_n 1, 1) := by decide +kernel
theorem d_Ld_format_65 : decode b_Ld_format 65 = .ok (.ifCond .eq 7, 3) := by decide +kernel
theorem d_Ld_format_68 : decode b_Ld_format 68 = .ok (.iconst 0, 1) := by decide +kernel
theorem d_Ld_format_69 : decode b_Ld_format 69 = .ok (.goto 7, 3) := by decide +kernel
theorem d_Ld_format_72 : decode b_Ld_format 72 = .ok (.aload_n 0, 1) := by decide +kernel
theorem d_Ld_format_73 : decode b_Ld_format 73 = .ok (.invokevirtual 59, 3) := by decide +kernel
theorem d_Ld_format_76 : decode b_Ld_format 76 = .ok (.ireturn, 1) := by decide +kernel
theorem d_Ld_recover_0 : decode b_Ld_recover 0 = .ok (.aload_n 0, 1) := by decide +kernel
theorem d_Ld_recover_1 : decode b_Ld_recover 1 = .ok (.getfield 10, 3) := by decide +kernel
theorem d_Ld_recover_4 : decode b_Ld_recover 4 = .ok (.iconst 0, 1) := by decide +kernel
theorem d_Ld_recover_5 : decode b_Ld_recover 5 = .ok (.putfield 45, 3) := by decide +kernel
theorem d_Ld_recover_8 : decode b_Ld_recover 8 = .ok (.aload_n 0, 1) := by decide +kernel
theorem d_Ld_recover_9 : decode b_Ld_recover 9 = .ok (.getfield 26, 3) := by decide +kernel
theorem d_Ld_recover_12 : decode b_Ld_recover 12 = .ok (.invokevirtual 63, 3) := by decide +kernel
theorem d_Ld_recover_15 : decode b_Ld_recover 15 = .ok (.bipush 8, 2) := by decide +kernel
theorem d_Ld_recover_17 : decode b_Ld_recover 17 = .ok (.istore_n 1, 1) := by decide +kernel
theorem d_Ld_recover_18 : decode b_Ld_recover 18 = .ok (.aload_n 0, 1) := by decide +kernel
theorem d_Ld_recover_19 : decode b_Ld_recover 19 = .ok (.getfield 10, 3) := by decide +kernel
theorem d_Ld_recover_22 : decode b_Ld_recover 22 = .ok (.invokevirtual 66, 3) := by decide +kernel
theorem d_Ld_recover_25 : decode b_Ld_recover 25 = .ok (.ifCond .eq 26, 3) := by decide +kernel
theorem d_Ld_recover_28 : decode b_Ld_recover 28 = .ok (.aload_n 0, 1) := by decide +kernel
theorem d_Ld_recover_29 : decode b_Ld_recover 29 = .ok (.getfield 19, 3) := by decide +kernel
theorem d_Ld_recover_32 : decode b_Ld_recover 32 = .ok (.aload_n 0, 1) := by decide +kernel
theorem d_Ld_recover_33 : decode b_Ld_recover 33 = .ok (.getfield 10, 3) := by decide +kernel
theorem d_Ld_recover_36 : decode b_Ld_recover 36 = .ok (.invokevirtual 70, 3) := by decide +kernel
theorem d_Ld_recover_39 : decode b_Ld_recover 39 = .ok (.ifCond .eq 7, 3) := by decide +kernel
theorem d_Ld_recover_42 : decode b_Ld_recover 42 = .ok (.iconst 0, 1) := by decide +kernel
theorem d_Ld_recover_43 : decode b_Ld_recover 43 = .ok (.goto 7, 3) := by decide +kernel
theorem d_Ld_recover_46 : decode b_Ld_recover 46 = .ok (.aload_n 0, 1) := by decide +kernel
theorem d_Ld_recover_47 : decode b_Ld_recover 47 = .ok (.invokevirtual 59, 3) := by decide +kernel
theorem d_Ld_recover_50 : decode b_Ld_recover 50 = .ok (.istore_n 1, 1) := by decide +kernel
theorem d_Ld_recover_51 : decode b_Ld_recover 51 = .ok (.aload_n 0, 1) := by decide +kernel
theorem d_Ld_recover_52 : decode b_Ld_recover 52 = .ok (.getfield 10, 3) := by decide +kernel
theorem d_Ld_recover_55 : decode b_Ld_recover 55 = .ok (.iconst (-1), 1) := by decide +kernel
theorem d_Ld_recover_56 : decode b_Ld_recover 56 = .ok (.putfield 74, 3) := by decide +kernel
theorem d_Ld_recover_59 : decode b_Ld_recover 59 = .ok (.iload_n 1, 1) := by decide +kernel
theorem d_Ld_recover_60 : decode b_Ld_recover 60 = .ok (.ireturn, 1) := by decide +kernel
theorem d_Ld_feed_0 : decode b_Ld_feed 0 = .ok (.aload_n 0, 1) := by decide +kernel
theorem d_Ld_feed_1 : decode b_Ld_feed 1 = .ok (.getfield 10, 3) := by decide +kernel
theorem d_Ld_feed_4 : decode b_Ld_feed 4 = .ok (.getfield 45, 3) := by decide +kernel
theorem d_Ld_feed_7 : decode b_Ld_feed 7 = .ok (.ifCond .eq 6, 3) := by decide +kernel
theorem d_Ld_feed_10 : decode b_Ld_feed 10 = .ok (.bipush 7, 2) := by decide +kernel
theorem d_Ld_feed_12 : decode b_Ld_feed 12 = .ok (.ireturn, 1) := by decide +kernel
theorem d_Ld_feed_13 : decode b_Ld_feed 13 = .ok (.iload_n 1, 1) := by decide +kernel
theorem d_Ld_feed_14 : decode b_Ld_feed 14 = .ok (.bipush 10, 2) := by decide +kernel
theorem d_Ld_feed_16 : decode b_Ld_feed 16 = .ok (.if_icmp .eq 13, 3) := by decide +kernel
theorem d_Ld_feed_19 : decode b_Ld_feed 19 = .ok (.aload_n 0, 1) := by decide +kernel
theorem d_Ld_feed_20 : decode b_Ld_feed 20 = .ok (.getfield 26, 3) := by decide +kernel
theorem d_Ld_feed_23 : decode b_Ld_feed 23 = .ok (.iload_n 1, 1) := by decide +kernel
theorem d_Ld_feed_24 : decode b_Ld_feed 24 = .ok (.invokevirtual 77, 3) := by decide +kernel
theorem d_Ld_feed_27 : decode b_Ld_feed 27 = .ok (.iconst 0, 1) := by decide +kernel
theorem d_Ld_feed_28 : decode b_Ld_feed 28 = .ok (.ireturn, 1) := by decide +kernel
theorem d_Ld_feed_29 : decode b_Ld_feed 29 = .ok (.aload_n 0, 1) := by decide +kernel
theorem d_Ld_feed_30 : decode b_Ld_feed 30 = .ok (.getfield 26, 3) := by decide +kernel
theorem d_Ld_feed_33 : decode b_Ld_feed 33 = .ok (.getfield 81, 3) := by decide +kernel
theorem d_Ld_feed_36 : decode b_Ld_feed 36 = .ok (.astore_n 2, 1) := by decide +kernel
theorem d_Ld_feed_37 : decode b_Ld_feed 37 = .ok (.aload_n 0, 1) := by decide +kernel
theorem d_Ld_feed_38 : decode b_Ld_feed 38 = .ok (.getfield 26, 3) := by decide +kernel
theorem d_Ld_feed_41 : decode b_Ld_feed 41 = .ok (.getfield 84, 3) := by decide +kernel
theorem d_Ld_feed_44 : decode b_Ld_feed 44 = .ok (.istore_n 3, 1) := by decide +kernel
theorem d_Ld_feed_45 : decode b_Ld_feed 45 = .ok (.aload_n 0, 1) := by decide +kernel
theorem d_Ld_feed_46 : decode b_Ld_feed 46 = .ok (.getfield 26, 3) := by decide +kernel
theorem d_Ld_feed_49 : decode b_Ld_feed 49 = .ok (.iconst 0, 1) := by decide +kernel
theorem d_Ld_feed_50 : decode b_Ld_feed 50 = .ok (.putfield 84, 3) := by decide +kernel
theorem d_Ld_feed_53 : decode b_Ld_feed 53 = .ok (.iload_n 3, 1) := by decide +kernel
theorem d_Ld_feed_54 : decode b_Ld_feed 54 = .ok (.ifCond .ne 5, 3) := by decide +kernel
theorem d_Ld_feed_57 : decode b_Ld_feed 57 = .ok (.iconst 0, 1) := by decide +kernel
theorem d_Ld_feed_58 : decode b_Ld_feed 58 = .ok (.ireturn, 1) := by decide +kernel
theorem d_Ld_feed_59 : decode b_Ld_feed 59 = .ok (.aload_n 2, 1) := by decide +kernel
theorem d_Ld_feed_60 : decode b_Ld_feed 60 = .ok (.iconst 0, 1) := by decide +kernel
theorem d_Ld_feed_61 : decode b_Ld_feed 61 = .ok (.iaload, 1) := by decide +kernel
theorem d_Ld_feed_62 : decode b_Ld_feed 62 = .ok (.invokestatic 87, 3) := by decide +kernel
theorem d_Ld_feed_65 : decode b_Ld_feed 65 = .ok (.ifCond .eq 12, 3) := by decide +kernel
theorem d_Ld_feed_68 : decode b_Ld_feed 68 = .ok (.aload_n 0, 1) := by decide +kernel
theorem d_Ld_feed_69 : decode b_Ld_feed 69 = .ok (.aload_n 2, 1) := by decide +kernel
theorem d_Ld_feed_70 : decode b_Ld_feed 70 = .ok (.iload_n 3, 1) := by decide +kernel
theorem d_Ld_feed_71 : decode b_Ld_feed 71 = .ok (.invokevirtual 91, 3) := by decide +kernel
theorem d_Ld_feed_74 : decode b_Ld_feed 74 = .ok (.goto 9, 3) := by decide +kernel
theorem d_Ld_feed_77 : decode b_Ld_feed 77 = .ok (.aload_n 0, 1) := by decide +kernel
theorem d_Ld_feed_78 : decode b_Ld_feed 78 = .ok (.aload_n 2, 1) := by decide +kernel
theorem d_Ld_feed_79 : decode b_Ld_feed 79 = .ok (.iload_n 3, 1) := by decide +kernel
theorem d_Ld_feed_80 : decode b_Ld_feed 80 = .ok (.invokevirtual 95, 3) := by decide +kernel
theorem d_Ld_feed_83 : decode b_Ld_feed 83 = .ok (.ireturn, 1) := by decide +kernel
theorem d_Ld_step_0 : decode b_Ld_step 0 = .ok (.aload_n 0, 1) := by decide +kernel
theorem d_Ld_step_1 : decode b_Ld_step 1 = .ok (.getfield 10, 3) := by decide +kernel
theorem d_Ld_step_4 : decode b_Ld_step 4 = .ok (.getfield 45, 3) := by decide +kernel
theorem d_Ld_step_7 : decode b_Ld_step 7 = .ok (.ifCond .eq 6, 3) := by decide +kernel
theorem d_Ld_step_10 : decode b_Ld_step 10 = .ok (.bipush 7, 2) := by decide +kernel
theorem d_Ld_step_12 : decode b_Ld_step 12 = .ok (.ireturn, 1) := by decide +kernel
theorem d_Ld_step_13 : decode b_Ld_step 13 = .ok (.iconst 1, 1) := by decide +kernel
theorem d_Ld_step_14 : decode b_Ld_step 14 = .ok (.bipush 50, 2) := by decide +kernel
theorem d_Ld_step_16 : decode b_Ld_step 16 = .ok (.iload_n 1, 1) := by decide +kernel
theorem d_Ld_step_17 : decode b_Ld_step 17 = .ok (.invokestatic 98, 3) := by decide +kernel
theorem d_Ld_step_20 : decode b_Ld_step 20 = .ok (.invokestatic 104, 3) := by decide +kernel
theorem d_Ld_step_23 : decode b_Ld_step 23 = .ok (.istore_n 2, 1) := by decide +kernel
theorem d_Ld_step_24 : decode b_Ld_step 24 = .ok (.iconst 0, 1) := by decide +kernel
theorem d_Ld_step_25 : decode b_Ld_step 25 = .ok (.istore_n 3, 1) := by decide +kernel
theorem d_Ld_step_26 : decode b_Ld_step 26 = .ok (.iload_n 3, 1) := by decide +kernel
theorem d_Ld_step_27 : decode b_Ld_step 27 = .ok (.iload_n 2, 1) := by decide +kernel
theorem d_Ld_step_28 : decode b_Ld_step 28 = .ok (.if_icmp .ge 25, 3) := by decide +kernel
theorem d_Ld_step_31 : decode b_Ld_step 31 = .ok (.aload_n 0, 1) := by decide +kernel
theorem d_Ld_step_32 : decode b_Ld_step 32 = .ok (.invokevirtual 107, 3) := by decide +kernel
theorem d_Ld_step_35 : decode b_Ld_step 35 = .ok (.istore 4, 2) := by decide +kernel
theorem d_Ld_step_37 : decode b_Ld_step 37 = .ok (.iload 4, 2) := by decide +kernel
theorem d_Ld_step_39 : decode b_Ld_step 39 = .ok (.bipush 6, 2) := by decide +kernel
theorem d_Ld_step_41 : decode b_Ld_step 41 = .ok (.if_icmp .eq 6, 3) := by decide +kernel
theorem d_Ld_step_44 : decode b_Ld_step 44 = .ok (.iload 4, 2) := by decide +kernel
theorem d_Ld_step_46 : decode b_Ld_step 46 = .ok (.ireturn, 1) := by decide +kernel
theorem d_Ld_step_47 : decode b_Ld_step 47 = .ok (.iinc 3 1, 3) := by decide +kernel
theorem d_Ld_step_50 : decode b_Ld_step 50 = .ok (.goto (-24), 3) := by decide +kernel
theorem d_Ld_step_53 : decode b_Ld_step 53 = .ok (.bipush 6, 2) := by decide +kernel
theorem d_Ld_step_55 : decode b_Ld_step 55 = .ok (.ireturn, 1) := by decide +kernel
theorem d_Ld_arm_0 : decode b_Ld_arm 0 = .ok (.iload_n 1, 1) := by decide +kernel
theorem d_Ld_arm_1 : decode b_Ld_arm 1 = .ok (.ifCond .lt 10, 3) := by decide +kernel
theorem d_Ld_arm_4 : decode b_Ld_arm 4 = .ok (.iload_n 1, 1) := by decide +kernel
theorem d_Ld_arm_5 : decode b_Ld_arm 5 = .ok (.sipush 1000, 3) := by decide +kernel
theorem d_Ld_arm_8 : decode b_Ld_arm 8 = .ok (.if_icmp .le 13, 3) := by decide +kernel
theorem d_Ld_arm_11 : decode b_Ld_arm 11 = .ok (.new 110, 3) := by decide +kernel
theorem d_Ld_arm_14 : decode b_Ld_arm 14 = .ok (.dup, 1) := by decide +kernel
theorem d_Ld_arm_15 : decode b_Ld_arm 15 = .ok (.ldc 112, 2) := by decide +kernel
theorem d_Ld_arm_17 : decode b_Ld_arm 17 = .ok (.invokespecial 114, 3) := by decide +kernel
theorem d_Ld_arm_20 : decode b_Ld_arm 20 = .ok (.athrow, 1) := by decide +kernel
theorem d_Ld_arm_21 : decode b_Ld_arm 21 = .ok (.aload_n 0, 1) := by decide +kernel
theorem d_Ld_arm_22 : decode b_Ld_arm 22 = .ok (.getfield 10, 3) := by decide +kernel
theorem d_Ld_arm_25 : decode b_Ld_arm 25 = .ok (.iload_n 1, 1) := by decide +kernel
theorem d_Ld_arm_26 : decode b_Ld_arm 26 = .ok (.putfield 74, 3) := by decide +kernel
theorem d_Ld_arm_29 : decode b_Ld_arm 29 = .ok (.iconst 1, 1) := by decide +kernel
theorem d_Ld_arm_30 : decode b_Ld_arm 30 = .ok (.ireturn, 1) := by decide +kernel
theorem d_Ld_out_0 : decode b_Ld_out 0 = .ok (.iload_n 1, 1) := by decide +kernel
theorem d_Ld_out_1 : decode b_Ld_out 1 = .ok (.ifCond .lt 17, 3) := by decide +kernel
theorem d_Ld_out_4 : decode b_Ld_out 4 = .ok (.iload_n 1, 1) := by decide +kernel
theorem d_Ld_out_5 : decode b_Ld_out 5 = .ok (.aload_n 0, 1) := by decide +kernel
theorem d_Ld_out_6 : decode b_Ld_out 6 = .ok (.getfield 41, 3) := by decide +kernel
theorem d_Ld_out_9 : decode b_Ld_out 9 = .ok (.if_icmp .ge 9, 3) := by decide +kernel
theorem d_Ld_out_12 : decode b_Ld_out 12 = .ok (.iload_n 1, 1) := by decide +kernel
theorem d_Ld_out_13 : decode b_Ld_out 13 = .ok (.bipush 60, 2) := by decide +kernel
theorem d_Ld_out_15 : decode b_Ld_out 15 = .ok (.if_icmp .lt 13, 3) := by decide +kernel
theorem d_Ld_out_18 : decode b_Ld_out 18 = .ok (.new 117, 3) := by decide +kernel
theorem d_Ld_out_21 : decode b_Ld_out 21 = .ok (.dup, 1) := by decide +kernel
theorem d_Ld_out_22 : decode b_Ld_out 22 = .ok (.ldc 119, 2) := by decide +kernel
theorem d_Ld_out_24 : decode b_Ld_out 24 = .ok (.invokespecial 121, 3) := by decide +kernel
theorem d_Ld_out_27 : decode b_Ld_out 27 = .ok (.athrow, 1) := by decide +kernel
theorem d_Ld_out_28 : decode b_Ld_out 28 = .ok (.aload_n 0, 1) := by decide +kernel
theorem d_Ld_out_29 : decode b_Ld_out 29 = .ok (.getfield 37, 3) := by decide +kernel
theorem d_Ld_out_32 : decode b_Ld_out 32 = .ok (.iload_n 1, 1) := by decide +kernel
theorem d_Ld_out_33 : decode b_Ld_out 33 = .ok (.iaload, 1) := by decide +kernel
theorem d_Ld_out_34 : decode b_Ld_out 34 = .ok (.ireturn, 1) := by decide +kernel
theorem d_Ld_outs_0 : decode b_Ld_outs 0 = .ok (.aload_n 0, 1) := by decide +kernel
theorem d_Ld_outs_1 : decode b_Ld_outs 1 = .ok (.getfield 41, 3) := by decide +kernel
theorem d_Ld_outs_4 : decode b_Ld_outs 4 = .ok (.ireturn, 1) := by decide +kernel
theorem d_Ld_disk_0 : decode b_Ld_disk 0 = .ok (.iload_n 1, 1) := by decide +kernel
theorem d_Ld_disk_1 : decode b_Ld_disk 1 = .ok (.ifCond .lt 10, 3) := by decide +kernel
theorem d_Ld_disk_4 : decode b_Ld_disk 4 = .ok (.iload_n 1, 1) := by decide +kernel
theorem d_Ld_disk_5 : decode b_Ld_disk 5 = .ok (.sipush 512, 3) := by decide +kernel
theorem d_Ld_disk_8 : decode b_Ld_disk 8 = .ok (.if_icmp .lt 13, 3) := by decide +kernel
theorem d_Ld_disk_11 : decode b_Ld_disk 11 = .ok (.new 117, 3) := by decide +kernel
theorem d_Ld_disk_14 : decode b_Ld_disk 14 = .ok (.dup, 1) := by decide +kernel
theorem d_Ld_disk_15 : decode b_Ld_disk 15 = .ok (.ldc 122, 2) := by decide +kernel
theorem d_Ld_disk_17 : decode b_Ld_disk 17 = .ok (.invokespecial 121, 3) := by decide +kernel
theorem d_Ld_disk_20 : decode b_Ld_disk 20 = .ok (.athrow, 1) := by decide +kernel
theorem d_Ld_disk_21 : decode b_Ld_disk 21 = .ok (.aload_n 0, 1) := by decide +kernel
theorem d_Ld_disk_22 : decode b_Ld_disk 22 = .ok (.getfield 10, 3) := by decide +kernel
theorem d_Ld_disk_25 : decode b_Ld_disk 25 = .ok (.iload_n 1, 1) := by decide +kernel
theorem d_Ld_disk_26 : decode b_Ld_disk 26 = .ok (.invokevirtual 124, 3) := by decide +kernel
theorem d_Ld_disk_29 : decode b_Ld_disk 29 = .ok (.ireturn, 1) := by decide +kernel
theorem d_Ld_files_0 : decode b_Ld_files 0 = .ok (.aload_n 0, 1) := by decide +kernel
theorem d_Ld_files_1 : decode b_Ld_files 1 = .ok (.getfield 10, 3) := by decide +kernel
theorem d_Ld_files_4 : decode b_Ld_files 4 = .ok (.getfield 45, 3) := by decide +kernel
theorem d_Ld_files_7 : decode b_Ld_files 7 = .ok (.ifCond .eq 6, 3) := by decide +kernel
theorem d_Ld_files_10 : decode b_Ld_files 10 = .ok (.bipush 7, 2) := by decide +kernel
theorem d_Ld_files_12 : decode b_Ld_files 12 = .ok (.ireturn, 1) := by decide +kernel
theorem d_Ld_files_13 : decode b_Ld_files 13 = .ok (.aload_n 0, 1) := by decide +kernel
theorem d_Ld_files_14 : decode b_Ld_files 14 = .ok (.getfield 10, 3) := by decide +kernel
theorem d_Ld_files_17 : decode b_Ld_files 17 = .ok (.invokevirtual 66, 3) := by decide +kernel
theorem d_Ld_files_20 : decode b_Ld_files 20 = .ok (.ifCond .ne 6, 3) := by decide +kernel
theorem d_Ld_files_23 : decode b_Ld_files 23 = .ok (.bipush 8, 2) := by decide +kernel
theorem d_Ld_files_25 : decode b_Ld_files 25 = .ok (.ireturn, 1) := by decide +kernel
theorem d_Ld_files_26 : decode b_Ld_files 26 = .ok (.iconst 0, 1) := by decide +kernel
theorem d_Ld_files_27 : decode b_Ld_files 27 = .ok (.istore_n 1, 1) := by decide +kernel
theorem d_Ld_files_28 : decode b_Ld_files 28 = .ok (.iconst 0, 1) := by decide +kernel
theorem d_Ld_files_29 : decode b_Ld_files 29 = .ok (.istore_n 2, 1) := by decide +kernel
theorem d_Ld_files_30 : decode b_Ld_files 30 = .ok (.iload_n 2, 1) := by decide +kernel
theorem d_Ld_files_31 : decode b_Ld_files 31 = .ok (.bipush 8, 2) := by decide +kernel
theorem d_Ld_files_33 : decode b_Ld_files 33 = .ok (.if_icmp .ge 23, 3) := by decide +kernel
theorem d_Ld_files_36 : decode b_Ld_files 36 = .ok (.aload_n 0, 1) := by decide +kernel
theorem d_Ld_files_37 : decode b_Ld_files 37 = .ok (.getfield 10, 3) := by decide +kernel
theorem d_Ld_files_40 : decode b_Ld_files 40 = .ok (.iload_n 2, 1) := by decide +kernel
theorem d_Ld_files_41 : decode b_Ld_files 41 = .ok (.invokevirtual 128, 3) := by decide +kernel
theorem d_Ld_files_44 : decode b_Ld_files 44 = .ok (.ifCond .eq 6, 3) := by decide +kernel
theorem d_Ld_files_47 : decode b_Ld_files 47 = .ok (.iinc 1 1, 3) := by decide +kernel
theorem d_Ld_files_50 : decode b_Ld_files 50 = .ok (.iinc 2 1, 3) := by decide +kernel
theorem d_Ld_files_53 : decode b_Ld_files 53 = .ok (.goto (-23), 3) := by decide +kernel
theorem d_Ld_files_56 : decode b_Ld_files 56 = .ok (.iload_n 1, 1) := by decide +kernel
theorem d_Ld_files_57 : decode b_Ld_files 57 = .ok (.ireturn, 1) := by decide +kernel
theorem d_Ld_about_0 : decode b_Ld_about 0 = .ok (.iload_n 1, 1) := by decide +kernel
theorem d_Ld_about_1 : decode b_Ld_about 1 = .ok (.bipush 11, 2) := by decide +kernel
theorem d_Ld_about_3 : decode b_Ld_about 3 = .ok (.if_icmp .ne 11, 3) := by decide +kernel
theorem d_Ld_about_6 : decode b_Ld_about 6 = .ok (.aload_n 0, 1) := by decide +kernel
theorem d_Ld_about_7 : decode b_Ld_about 7 = .ok (.getfield 10, 3) := by decide +kernel
theorem d_Ld_about_10 : decode b_Ld_about 10 = .ok (.getfield 131, 3) := by decide +kernel
theorem d_Ld_about_13 : decode b_Ld_about 13 = .ok (.ireturn, 1) := by decide +kernel
theorem d_Ld_about_14 : decode b_Ld_about 14 = .ok (.aload_n 0, 1) := by decide +kernel
theorem d_Ld_about_15 : decode b_Ld_about 15 = .ok (.getfield 10, 3) := by decide +kernel
theorem d_Ld_about_18 : decode b_Ld_about 18 = .ok (.getfield 45, 3) := by decide +kernel
theorem d_Ld_about_21 : decode b_Ld_about 21 = .ok (.ifCond .eq 6, 3) := by decide +kernel
theorem d_Ld_about_24 : decode b_Ld_about 24 = .ok (.bipush 7, 2) := by decide +kernel
theorem d_Ld_about_26 : decode b_Ld_about 26 = .ok (.ireturn, 1) := by decide +kernel
theorem d_Ld_about_27 : decode b_Ld_about 27 = .ok (.iload_n 1, 1) := by decide +kernel
theorem d_Ld_about_28 : decode b_Ld_about 28 = .ok (.iconst 1, 1) := by decide +kernel
theorem d_Ld_about_29 : decode b_Ld_about 29 = .ok (.if_icmp .lt 21, 3) := by decide +kernel
theorem d_Ld_about_32 : decode b_Ld_about 32 = .ok (.iload_n 1, 1) := by decide +kernel
theorem d_Ld_about_33 : decode b_Ld_about 33 = .ok (.bipush 8, 2) := by decide +kernel
theorem d_Ld_about_35 : decode b_Ld_about 35 = .ok (.if_icmp .gt 15, 3) := by decide +kernel
theorem d_Ld_about_38 : decode b_Ld_about 38 = .ok (.aload_n 0, 1) := by decide +kernel
theorem d_Ld_about_39 : decode b_Ld_about 39 = .ok (.getfield 26, 3) := by decide +kernel
theorem d_Ld_about_42 : decode b_Ld_about 42 = .ok (.getfield 134, 3) := by decide +kernel
theorem d_Ld_about_45 : decode b_Ld_about 45 = .ok (.iload_n 1, 1) := by decide +kernel
theorem d_Ld_about_46 : decode b_Ld_about 46 = .ok (.iconst 1, 1) := by decide +kernel
theorem d_Ld_about_47 : decode b_Ld_about 47 = .ok (.isub, 1) := by decide +kernel
theorem d_Ld_about_48 : decode b_Ld_about 48 = .ok (.iaload, 1) := by decide +kernel
theorem d_Ld_about_49 : decode b_Ld_about 49 = .ok (.ireturn, 1) := by decide +kernel
theorem d_Ld_about_50 : decode b_Ld_about 50 = .ok (.iload_n 1, 1) := by decide +kernel
theorem d_Ld_about_51 : decode b_Ld_about 51 = .ok (.lookupswitch 64 #[(0, 33), (9, 41), (10, 56)], 33) := by decide +kernel
theorem d_Ld_about_84 : decode b_Ld_about 84 = .ok (.aload_n 0, 1) := by decide +kernel
theorem d_Ld_about_85 : decode b_Ld_about 85 = .ok (.getfield 26, 3) := by decide +kernel
theorem d_Ld_about_88 : decode b_Ld_about 88 = .ok (.getfield 137, 3) := by decide +kernel
theorem d_Ld_about_91 : decode b_Ld_about 91 = .ok (.ireturn, 1) := by decide +kernel
theorem d_Ld_about_92 : decode b_Ld_about 92 = .ok (.aload_n 0, 1) := by decide +kernel
theorem d_Ld_about_93 : decode b_Ld_about 93 = .ok (.getfield 26, 3) := by decide +kernel
theorem d_Ld_about_96 : decode b_Ld_about 96 = .ok (.aload_n 0, 1) := by decide +kernel
theorem d_Ld_about_97 : decode b_Ld_about 97 = .ok (.getfield 26, 3) := by decide +kernel
theorem d_Ld_about_100 : decode b_Ld_about 100 = .ok (.invokevirtual 140, 3) := by decide +kernel
theorem d_Ld_about_103 : decode b_Ld_about 103 = .ok (.invokevirtual 143, 3) := by decide +kernel
theorem d_Ld_about_106 : decode b_Ld_about 106 = .ok (.ireturn, 1) := by decide +kernel
theorem d_Ld_about_107 : decode b_Ld_about 107 = .ok (.aload_n 0, 1) := by decide +kernel
theorem d_Ld_about_108 : decode b_Ld_about 108 = .ok (.getfield 26, 3) := by decide +kernel
theorem d_Ld_about_111 : decode b_Ld_about 111 = .ok (.getfield 84, 3) := by decide +kernel
theorem d_Ld_about_114 : decode b_Ld_about 114 = .ok (.ireturn, 1) := by decide +kernel
theorem d_Ld_about_115 : decode b_Ld_about 115 = .ok (.iconst (-1), 1) := by decide +kernel
theorem d_Ld_about_116 : decode b_Ld_about 116 = .ok (.ireturn, 1) := by decide +kernel
theorem d_Ld_isDigit_0 : decode b_Ld_isDigit 0 = .ok (.iload_n 0, 1) := by decide +kernel
theorem d_Ld_isDigit_1 : decode b_Ld_isDigit 1 = .ok (.bipush 48, 2) := by decide +kernel
theorem d_Ld_isDigit_3 : decode b_Ld_isDigit 3 = .ok (.if_icmp .lt 13, 3) := by decide +kernel
theorem d_Ld_isDigit_6 : decode b_Ld_isDigit 6 = .ok (.iload_n 0, 1) := by decide +kernel
theorem d_Ld_isDigit_7 : decode b_Ld_isDigit 7 = .ok (.bipush 57, 2) := by decide +kernel
theorem d_Ld_isDigit_9 : decode b_Ld_isDigit 9 = .ok (.if_icmp .gt 7, 3) := by decide +kernel
theorem d_Ld_isDigit_12 : decode b_Ld_isDigit 12 = .ok (.iconst 1, 1) := by decide +kernel
theorem d_Ld_isDigit_13 : decode b_Ld_isDigit 13 = .ok (.goto 4, 3) := by decide +kernel
theorem d_Ld_isDigit_16 : decode b_Ld_isDigit 16 = .ok (.iconst 0, 1) := by decide +kernel
theorem d_Ld_isDigit_17 : decode b_Ld_isDigit 17 = .ok (.ireturn, 1) := by decide +kernel
theorem d_Ld_isFileDigit_0 : decode b_Ld_isFileDigit 0 = .ok (.iload_n 0, 1) := by decide +kernel
theorem d_Ld_isFileDigit_1 : decode b_Ld_isFileDigit 1 = .ok (.bipush 48, 2) := by decide +kernel
theorem d_Ld_isFileDigit_3 : decode b_Ld_isFileDigit 3 = .ok (.if_icmp .lt 13, 3) := by decide +kernel
theorem d_Ld_isFileDigit_6 : decode b_Ld_isFileDigit 6 = .ok (.iload_n 0, 1) := by decide +kernel
theorem d_Ld_isFileDigit_7 : decode b_Ld_isFileDigit 7 = .ok (.bipush 56, 2) := by decide +kernel
theorem d_Ld_isFileDigit_9 : decode b_Ld_isFileDigit 9 = .ok (.if_icmp .ge 7, 3) := by decide +kernel
theorem d_Ld_isFileDigit_12 : decode b_Ld_isFileDigit 12 = .ok (.iconst 1, 1) := by decide +kernel
theorem d_Ld_isFileDigit_13 : decode b_Ld_isFileDigit 13 = .ok (.goto 4, 3) := by decide +kernel
theorem d_Ld_isFileDigit_16 : decode b_Ld_isFileDigit 16 = .ok (.iconst 0, 1) := by decide +kernel
theorem d_Ld_isFileDigit_17 : decode b_Ld_isFileDigit 17 = .ok (.ireturn, 1) := by decide +kernel
theorem d_Ld_isVariable_0 : decode b_Ld_isVariable 0 = .ok (.iload_n 0, 1) := by decide +kernel
theorem d_Ld_isVariable_1 : decode b_Ld_isVariable 1 = .ok (.bipush 65, 2) := by decide +kernel
theorem d_Ld_isVariable_3 : decode b_Ld_isVariable 3 = .ok (.if_icmp .lt 13, 3) := by decide +kernel
theorem d_Ld_isVariable_6 : decode b_Ld_isVariable 6 = .ok (.iload_n 0, 1) := by decide +kernel
theorem d_Ld_isVariable_7 : decode b_Ld_isVariable 7 = .ok (.bipush 73, 2) := by decide +kernel
theorem d_Ld_isVariable_9 : decode b_Ld_isVariable 9 = .ok (.if_icmp .ge 7, 3) := by decide +kernel
theorem d_Ld_isVariable_12 : decode b_Ld_isVariable 12 = .ok (.iconst 1, 1) := by decide +kernel
theorem d_Ld_isVariable_13 : decode b_Ld_isVariable 13 = .ok (.goto 4, 3) := by decide +kernel
theorem d_Ld_isVariable_16 : decode b_Ld_isVariable 16 = .ok (.iconst 0, 1) := by decide +kernel
theorem d_Ld_isVariable_17 : decode b_Ld_isVariable 17 = .ok (.ireturn, 1) := by decide +kernel
theorem d_Ld_blocksFor_0 : decode b_Ld_blocksFor 0 = .ok (.iload_n 0, 1) := by decide +kernel
theorem d_Ld_blocksFor_1 : decode b_Ld_blocksFor 1 = .ok (.bipush 16, 2) := by decide +kernel
theorem d_Ld_blocksFor_3 : decode b_Ld_blocksFor 3 = .ok (.iadd, 1) := by decide +kernel
theorem d_Ld_blocksFor_4 : decode b_Ld_blocksFor 4 = .ok (.iconst 1, 1) := by decide +kernel
theorem d_Ld_blocksFor_5 : decode b_Ld_blocksFor 5 = .ok (.isub, 1) := by decide +kernel
theorem d_Ld_blocksFor_6 : decode b_Ld_blocksFor 6 = .ok (.bipush 16, 2) := by decide +kernel
theorem d_Ld_blocksFor_8 : decode b_Ld_blocksFor 8 = .ok (.idiv, 1) := by decide +kernel
theorem d_Ld_blocksFor_9 : decode b_Ld_blocksFor 9 = .ok (.ireturn, 1) := by decide +kernel
theorem d_Ld_died_0 : decode b_Ld_died 0 = .ok (.aload_n 0, 1) := by decide +kernel
theorem d_Ld_died_1 : decode b_Ld_died 1 = .ok (.getfield 26, 3) := by decide +kernel
theorem d_Ld_died_4 : decode b_Ld_died 4 = .ok (.invokevirtual 63, 3) := by decide +kernel
theorem d_Ld_died_7 : decode b_Ld_died 7 = .ok (.bipush 7, 2) := by decide +kernel
theorem d_Ld_died_9 : decode b_Ld_died 9 = .ok (.ireturn, 1) := by decide +kernel
theorem d_Ld_putOut_0 : decode b_Ld_putOut 0 = .ok (.aload_n 0, 1) := by decide +kernel
theorem d_Ld_putOut_1 : decode b_Ld_putOut 1 = .ok (.getfield 41, 3) := by decide +kernel
theorem d_Ld_putOut_4 : decode b_Ld_putOut 4 = .ok (.ifCond .lt 22, 3) := by decide +kernel
theorem d_Ld_putOut_7 : decode b_Ld_putOut 7 = .ok (.aload_n 0, 1) := by decide +kernel
theorem d_Ld_putOut_8 : decode b_Ld_putOut 8 = .ok (.getfield 41, 3) := by decide +kernel
theorem d_Ld_putOut_11 : decode b_Ld_putOut 11 = .ok (.bipush 60, 2) := by decide +kernel
theorem d_Ld_putOut_13 : decode b_Ld_putOut 13 = .ok (.if_icmp .ge 13, 3) := by decide +kernel
theorem d_Ld_putOut_16 : decode b_Ld_putOut 16 = .ok (.aload_n 0, 1) := by decide +kernel
theorem d_Ld_putOut_17 : decode b_Ld_putOut 17 = .ok (.getfield 37, 3) := by decide +kernel
theorem d_Ld_putOut_20 : decode b_Ld_putOut 20 = .ok (.aload_n 0, 1) := by decide +kernel
theorem d_Ld_putOut_21 : decode b_Ld_putOut 21 = .ok (.getfield 41, 3) := by decide +kernel
theorem d_Ld_putOut_24 : decode b_Ld_putOut 24 = .ok (.iload_n 1, 1) := by decide +kernel
theorem d_Ld_putOut_25 : decode b_Ld_putOut 25 = .ok (.iastore, 1) := by decide +kernel
theorem d_Ld_putOut_26 : decode b_Ld_putOut 26 = .ok (.aload_n 0, 1) := by decide +kernel
theorem d_Ld_putOut_27 : decode b_Ld_putOut 27 = .ok (.dup, 1) := by decide +kernel
theorem d_Ld_putOut_28 : decode b_Ld_putOut 28 = .ok (.getfield 41, 3) := by decide +kernel
theorem d_Ld_putOut_31 : decode b_Ld_putOut 31 = .ok (.iconst 1, 1) := by decide +kernel
theorem d_Ld_putOut_32 : decode b_Ld_putOut 32 = .ok (.iadd, 1) := by decide +kernel
theorem d_Ld_putOut_33 : decode b_Ld_putOut 33 = .ok (.putfield 41, 3) := by decide +kernel
theorem d_Ld_putOut_36 : decode b_Ld_putOut 36 = .ok (.return_, 1) := by decide +kernel
theorem d_Ld_enterLine_0 : decode b_Ld_enterLine 0 = .ok (.iconst 1, 1) := by decide +kernel
theorem d_Ld_enterLine_1 : decode b_Ld_enterLine 1 = .ok (.istore_n 3, 1) := by decide +kernel
theorem d_Ld_enterLine_2 : decode b_Ld_enterLine 2 = .ok (.aload_n 1, 1) := by decide +kernel
theorem d_Ld_enterLine_3 : decode b_Ld_enterLine 3 = .ok (.iconst 0, 1) := by decide +kernel
theorem d_Ld_enterLine_4 : decode b_Ld_enterLine 4 = .ok (.iaload, 1) := by decide +kernel
theorem d_Ld_enterLine_5 : decode b_Ld_enterLine 5 = .ok (.bipush 48, 2) := by decide +kernel
theorem d_Ld_enterLine_7 : decode b_Ld_enterLine 7 = .ok (.isub, 1) := by decide +kernel
theorem d_Ld_enterLine_8 : decode b_Ld_enterLine 8 = .ok (.istore 4, 2) := by decide +kernel
theorem d_Ld_enterLine_10 : decode b_Ld_enterLine 10 = .ok (.iload_n 2, 1) := by decide +kernel
theorem d_Ld_enterLine_11 : decode b_Ld_enterLine 11 = .ok (.iconst 1, 1) := by decide +kernel
theorem d_Ld_enterLine_12 : decode b_Ld_enterLine 12 = .ok (.if_icmp .le 28, 3) := by decide +kernel
theorem d_Ld_enterLine_15 : decode b_Ld_enterLine 15 = .ok (.aload_n 1, 1) := by decide +kernel
theorem d_Ld_enterLine_16 : decode b_Ld_enterLine 16 = .ok (.iconst 1, 1) := by decide +kernel
theorem d_Ld_enterLine_17 : decode b_Ld_enterLine 17 = .ok (.iaload, 1) := by decide +kernel
theorem d_Ld_enterLine_18 : decode b_Ld_enterLine 18 = .ok (.invokestatic 87, 3) := by decide +kernel
theorem d_Ld_enterLine_21 : decode b_Ld_enterLine 21 = .ok (.ifCond .eq 19, 3) := by decide +kernel
theorem d_Ld_enterLine_24 : decode b_Ld_enterLine 24 = .ok (.iconst 2, 1) := by decide +kernel
theorem d_Ld_enterLine_25 : decode b_Ld_enterLine 25 = .ok (.istore_n 3, 1) := by decide +kernel
theorem d_Ld_enterLine_26 : decode b_Ld_enterLine 26 = .ok (.bipush 10, 2) := by decide +kernel
theorem d_Ld_enterLine_28 : decode b_Ld_enterLine 28 = .ok (.iload 4, 2) := by decide +kernel
theorem d_Ld_enterLine_30 : decode b_Ld_enterLine 30 = .ok (.imul, 1) := by decide +kernel
theorem d_Ld_enterLine_31 : decode b_Ld_enterLine 31 = .ok (.aload_n 1, 1) := by decide +kernel
theorem d_Ld_enterLine_32 : decode b_Ld_enterLine 32 = .ok (.iconst 1, 1) := by decide +kernel
theorem d_Ld_enterLine_33 : decode b_Ld_enterLine 33 = .ok (.iaload, 1) := by decide +kernel
theorem d_Ld_enterLine_34 : decode b_Ld_enterLine 34 = .ok (.iadd, 1) := by decide +kernel
theorem d_Ld_enterLine_35 : decode b_Ld_enterLine 35 = .ok (.bipush 48, 2) := by decide +kernel
theorem d_Ld_enterLine_37 : decode b_Ld_enterLine 37 = .ok (.isub, 1) := by decide +kernel
theorem d_Ld_enterLine_38 : decode b_Ld_enterLine 38 = .ok (.istore 4, 2) := by decide +kernel
theorem d_Ld_enterLine_40 : decode b_Ld_enterLine 40 = .ok (.iload 4, 2) := by decide +kernel
theorem d_Ld_enterLine_42 : decode b_Ld_enterLine 42 = .ok (.ifCond .ne 5, 3) := by decide +kernel
theorem d_Ld_enterLine_45 : decode b_Ld_enterLine 45 = .ok (.iconst 2, 1) := by decide +kernel
theorem d_Ld_enterLine_46 : decode b_Ld_enterLine 46 = .ok (.ireturn, 1) := by decide +kernel
theorem d_Ld_enterLine_47 : decode b_Ld_enterLine 47 = .ok (.iload_n 2, 1) := by decide +kernel
theorem d_Ld_enterLine_48 : decode b_Ld_enterLine 48 = .ok (.iload_n 3, 1) := by decide +kernel
theorem d_Ld_enterLine_49 : decode b_Ld_enterLine 49 = .ok (.if_icmp .ne 14, 3) := by decide +kernel
theorem d_Ld_enterLine_52 : decode b_Ld_enterLine 52 = .ok (.aload_n 0, 1) := by decide +kernel
theorem d_Ld_enterLine_53 : decode b_Ld_enterLine 53 = .ok (.getfield 26, 3) := by decide +kernel
theorem d_Ld_enterLine_56 : decode b_Ld_enterLine 56 = .ok (.iload 4, 2) := by decide +kernel
theorem d_Ld_enterLine_58 : decode b_Ld_enterLine 58 = .ok (.invokevirtual 146, 3) := by decide +kernel
theorem d_Ld_enterLine_61 : decode b_Ld_enterLine 61 = .ok (.iconst 0, 1) := by decide +kernel
theorem d_Ld_enterLine_62 : decode b_Ld_enterLine 62 = .ok (.ireturn, 1) := by decide +kernel
theorem d_Ld_enterLine_63 : decode b_Ld_enterLine 63 = .ok (.aload_n 0, 1) := by decide +kernel
theorem d_Ld_enterLine_64 : decode b_Ld_enterLine 64 = .ok (.getfield 33, 3) := by decide +kernel
theorem d_Ld_enterLine_67 : decode b_Ld_enterLine 67 = .ok (.aload_n 1, 1) := by decide +kernel
theorem d_Ld_enterLine_68 : decode b_Ld_enterLine 68 = .ok (.iload_n 3, 1) := by decide +kernel
theorem d_Ld_enterLine_69 : decode b_Ld_enterLine 69 = .ok (.iload_n 2, 1) := by decide +kernel
theorem d_Ld_enterLine_70 : decode b_Ld_enterLine 70 = .ok (.iload_n 3, 1) := by decide +kernel
theorem d_Ld_enterLine_71 : decode b_Ld_enterLine 71 = .ok (.isub, 1) := by decide +kernel
theorem d_Ld_enterLine_72 : decode b_Ld_enterLine 72 = .ok (.aload_n 0, 1) := by decide +kernel
theorem d_Ld_enterLine_73 : decode b_Ld_enterLine 73 = .ok (.getfield 26, 3) := by decide +kernel
theorem d_Ld_enterLine_76 : decode b_Ld_enterLine 76 = .ok (.getfield 134, 3) := by decide +kernel
theorem d_Ld_enterLine_79 : decode b_Ld_enterLine 79 = .ok (.invokevirtual 149, 3) := by decide +kernel
theorem d_Ld_enterLine_82 : decode b_Ld_enterLine 82 = .ok (.ifCond .ne 5, 3) := by decide +kernel
theorem d_Ld_enterLine_85 : decode b_Ld_enterLine 85 = .ok (.iconst 2, 1) := by decide +kernel
theorem d_Ld_enterLine_86 : decode b_Ld_enterLine 86 = .ok (.ireturn, 1) := by decide +kernel
theorem d_Ld_enterLine_87 : decode b_Ld_enterLine 87 = .ok (.aload_n 0, 1) := by decide +kernel
theorem d_Ld_enterLine_88 : decode b_Ld_enterLine 88 = .ok (.getfield 26, 3) := by decide +kernel
theorem d_Ld_enterLine_91 : decode b_Ld_enterLine 91 = .ok (.iload 4, 2) := by decide +kernel
theorem d_Ld_enterLine_93 : decode b_Ld_enterLine 93 = .ok (.aload_n 1, 1) := by decide +kernel
theorem d_Ld_enterLine_94 : decode b_Ld_enterLine 94 = .ok (.iload_n 3, 1) := by decide +kernel
theorem d_Ld_enterLine_95 : decode b_Ld_enterLine 95 = .ok (.iload_n 2, 1) := by decide +kernel
theorem d_Ld_enterLine_96 : decode b_Ld_enterLine 96 = .ok (.iload_n 3, 1) := by decide +kernel
theorem d_Ld_enterLine_97 : decode b_Ld_enterLine 97 = .ok (.isub, 1) := by decide +kernel
theorem d_Ld_enterLine_98 : decode b_Ld_enterLine 98 = .ok (.invokevirtual 153, 3) := by decide +kernel
theorem d_Ld_enterLine_101 : decode b_Ld_enterLine 101 = .ok (.ifCond .eq 7, 3) := by decide +kernel
theorem d_Ld_enterLine_104 : decode b_Ld_enterLine 104 = .ok (.iconst 0, 1) := by decide +kernel
theorem d_Ld_enterLine_105 : decode b_Ld_enterLine 105 = .ok (.goto 5, 3) := by decide +kernel
theorem d_Ld_enterLine_108 : decode b_Ld_enterLine 108 = .ok (.bipush 9, 2) := by decide +kernel
theorem d_Ld_enterLine_110 : decode b_Ld_enterLine 110 = .ok (.ireturn, 1) := by decide +kernel
theorem d_Ld_enterCommand_0 : decode b_Ld_enterCommand 0 = .ok (.iload_n 2, 1) := by decide +kernel
theorem d_Ld_enterCommand_1 : decode b_Ld_enterCommand 1 = .ok (.iconst 1, 1) := by decide +kernel
theorem d_Ld_enterCommand_2 : decode b_Ld_enterCommand 2 = .ok (.if_icmp .ne 11, 3) := by decide +kernel
theorem d_Ld_enterCommand_5 : decode b_Ld_enterCommand 5 = .ok (.aload_n 0, 1) := by decide +kernel
theorem d_Ld_enterCommand_6 : decode b_Ld_enterCommand 6 = .ok (.aload_n 1, 1) := by decide +kernel
theorem d_Ld_enterCommand_7 : decode b_Ld_enterCommand 7 = .ok (.iconst 0, 1) := by decide +kernel
theorem d_Ld_enterCommand_8 : decode b_Ld_enterCommand 8 = .ok (.iaload, 1) := by decide +kernel
theorem d_Ld_enterCommand_9 : decode b_Ld_enterCommand 9 = .ok (.invokevirtual 157, 3) := by decide +kernel
theorem d_Ld_enterCommand_12 : decode b_Ld_enterCommand 12 = .ok (.ireturn, 1) := by decide +kernel
theorem d_Ld_enterCommand_13 : decode b_Ld_enterCommand 13 = .ok (.iload_n 2, 1) := by decide +kernel
theorem d_Ld_enterCommand_14 : decode b_Ld_enterCommand 14 = .ok (.iconst 2, 1) := by decide +kernel
theorem d_Ld_enterCommand_15 : decode b_Ld_enterCommand 15 = .ok (.if_icmp .ne 26, 3) := by decide +kernel
theorem d_Ld_enterCommand_18 : decode b_Ld_enterCommand 18 = .ok (.aload_n 1, 1) := by decide +kernel
theorem d_Ld_enterCommand_19 : decode b_Ld_enterCommand 19 = .ok (.iconst 1, 1) := by decide +kernel
theorem d_Ld_enterCommand_20 : decode b_Ld_enterCommand 20 = .ok (.iaload, 1) := by decide +kernel
theorem d_Ld_enterCommand_21 : decode b_Ld_enterCommand 21 = .ok (.invokestatic 160, 3) := by decide +kernel
theorem d_Ld_enterCommand_24 : decode b_Ld_enterCommand 24 = .ok (.ifCond .eq 17, 3) := by decide +kernel
theorem d_Ld_enterCommand_27 : decode b_Ld_enterCommand 27 = .ok (.aload_n 0, 1) := by decide +kernel
theorem d_Ld_enterCommand_28 : decode b_Ld_enterCommand 28 = .ok (.aload_n 1, 1) := by decide +kernel
theorem d_Ld_enterCommand_29 : decode b_Ld_enterCommand 29 = .ok (.iconst 0, 1) := by decide +kernel
theorem d_Ld_enterCommand_30 : decode b_Ld_enterCommand 30 = .ok (.iaload, 1) := by decide +kernel
theorem d_Ld_enterCommand_31 : decode b_Ld_enterCommand 31 = .ok (.aload_n 1, 1) := by decide +kernel
theorem d_Ld_enterCommand_32 : decode b_Ld_enterCommand 32 = .ok (.iconst 1, 1) := by decide +kernel
theorem d_Ld_enterCommand_33 : decode b_Ld_enterCommand 33 = .ok (.iaload, 1) := by decide +kernel
theorem d_Ld_enterCommand_34 : decode b_Ld_enterCommand 34 = .ok (.bipush 48, 2) := by decide +kernel
theorem d_Ld_enterCommand_36 : decode b_Ld_enterCommand 36 = .ok (.isub, 1) := by decide +kernel
theorem d_Ld_enterCommand_37 : decode b_Ld_enterCommand 37 = .ok (.invokevirtual 163, 3) := by decide +kernel
theorem d_Ld_enterCommand_40 : decode b_Ld_enterCommand 40 = .ok (.ireturn, 1) := by decide +kernel
theorem d_Ld_enterCommand_41 : decode b_Ld_enterCommand 41 = .ok (.iconst 2, 1) := by decide +kernel
theorem d_Ld_enterCommand_42 : decode b_Ld_enterCommand 42 = .ok (.ireturn, 1) := by decide +kernel
theorem d_Ld_plainCommand_0 : decode b_Ld_plainCommand 0 = .ok (.iload_n 1, 1) := by decide +kernel
theorem d_Ld_plainCommand_1 : decode b_Ld_plainCommand 1 = .ok (.lookupswitch 71 #[(67, 49), (70, 35), (78, 40)], 35) := by decide +kernel
theorem d_Ld_plainCommand_36 : decode b_Ld_plainCommand 36 = .ok (.aload_n 0, 1) := by decide +kernel
theorem d_Ld_plainCommand_37 : decode b_Ld_plainCommand 37 = .ok (.invokevirtual 166, 3) := by decide +kernel
theorem d_Ld_plainCommand_40 : decode b_Ld_plainCommand 40 = .ok (.ireturn, 1) := by decide +kernel
theorem d_Ld_plainCommand_41 : decode b_Ld_plainCommand 41 = .ok (.aload_n 0, 1) := by decide +kernel
theorem d_Ld_plainCommand_42 : decode b_Ld_plainCommand 42 = .ok (.getfield 26, 3) := by decide +kernel
theorem d_Ld_plainCommand_45 : decode b_Ld_plainCommand 45 = .ok (.invokevirtual 169, 3) := by decide +kernel
theorem d_Ld_plainCommand_48 : decode b_Ld_plainCommand 48 = .ok (.iconst 0, 1) := by decide +kernel
theorem d_Ld_plainCommand_49 : decode b_Ld_plainCommand 49 = .ok (.ireturn, 1) := by decide +kernel
theorem d_Ld_plainCommand_50 : decode b_Ld_plainCommand 50 = .ok (.aload_n 0, 1) := by decide +kernel
theorem d_Ld_plainCommand_51 : decode b_Ld_plainCommand 51 = .ok (.getfield 26, 3) := by decide +kernel
theorem d_Ld_plainCommand_54 : decode b_Ld_plainCommand 54 = .ok (.invokevirtual 172, 3) := by decide +kernel
theorem d_Ld_plainCommand_57 : decode b_Ld_plainCommand 57 = .ok (.aload_n 0, 1) := by decide +kernel
theorem d_Ld_plainCommand_58 : decode b_Ld_plainCommand 58 = .ok (.getfield 26, 3) := by decide +kernel
theorem d_Ld_plainCommand_61 : decode b_Ld_plainCommand 61 = .ok (.iconst 0, 1) := by decide +kernel
theorem d_Ld_plainCommand_62 : decode b_Ld_plainCommand 62 = .ok (.putfield 175, 3) := by decide +kernel
theorem d_Ld_plainCommand_65 : decode b_Ld_plainCommand 65 = .ok (.aload_n 0, 1) := by decide +kernel
theorem d_Ld_plainCommand_66 : decode b_Ld_plainCommand 66 = .ok (.iconst 0, 1) := by decide +kernel
theorem d_Ld_plainCommand_67 : decode b_Ld_plainCommand 67 = .ok (.putfield 41, 3) := by decide +kernel
theorem d_Ld_plainCommand_70 : decode b_Ld_plainCommand 70 = .ok (.iconst 0, 1) := by decide +kernel
theorem d_Ld_plainCommand_71 : decode b_Ld_plainCommand 71 = .ok (.ireturn, 1) := by decide +kernel
theorem d_Ld_plainCommand_72 : decode b_Ld_plainCommand 72 = .ok (.iconst 2, 1) := by decide +kernel
theorem d_Ld_plainCommand_73 : decode b_Ld_plainCommand 73 = .ok (.ireturn, 1) := by decide +kernel
theorem d_Ld_fileCommand_0 : decode b_Ld_fileCommand 0 = .ok (.iload_n 1, 1) := by decide +kernel
theorem d_Ld_fileCommand_1 : decode b_Ld_fileCommand 1 = .ok (.bipush 83, 2) := by decide +kernel
theorem d_Ld_fileCommand_3 : decode b_Ld_fileCommand 3 = .ok (.if_icmp .eq 17, 3) := by decide +kernel
theorem d_Ld_fileCommand_6 : decode b_Ld_fileCommand 6 = .ok (.iload_n 1, 1) := by decide +kernel
theorem d_Ld_fileCommand_7 : decode b_Ld_fileCommand 7 = .ok (.bipush 76, 2) := by decide +kernel
theorem d_Ld_fileCommand_9 : decode b_Ld_fileCommand 9 = .ok (.if_icmp .eq 11, 3) := by decide +kernel
theorem d_Ld_fileCommand_12 : decode b_Ld_fileCommand 12 = .ok (.iload_n 1, 1) := by decide +kernel
theorem d_Ld_fileCommand_13 : decode b_Ld_fileCommand 13 = .ok (.bipush 68, 2) := by decide +kernel
theorem d_Ld_fileCommand_15 : decode b_Ld_fileCommand 15 = .ok (.if_icmp .eq 5, 3) := by decide +kernel
theorem d_Ld_fileCommand_18 : decode b_Ld_fileCommand 18 = .ok (.iconst 2, 1) := by decide +kernel
theorem d_Ld_fileCommand_19 : decode b_Ld_fileCommand 19 = .ok (.ireturn, 1) := by decide +kernel
theorem d_Ld_fileCommand_20 : decode b_Ld_fileCommand 20 = .ok (.aload_n 0, 1) := by decide +kernel
theorem d_Ld_fileCommand_21 : decode b_Ld_fileCommand 21 = .ok (.getfield 10, 3) := by decide +kernel
theorem d_Ld_fileCommand_24 : decode b_Ld_fileCommand 24 = .ok (.invokevirtual 66, 3) := by decide +kernel
theorem d_Ld_fileCommand_27 : decode b_Ld_fileCommand 27 = .ok (.ifCond .ne 6, 3) := by decide +kernel
theorem d_Ld_fileCommand_30 : decode b_Ld_fileCommand 30 = .ok (.bipush 8, 2) := by decide +kernel
theorem d_Ld_fileCommand_32 : decode b_Ld_fileCommand 32 = .ok (.ireturn, 1) := by decide +kernel
theorem d_Ld_fileCommand_33 : decode b_Ld_fileCommand 33 = .ok (.iload_n 1, 1) := by decide +kernel
theorem d_Ld_fileCommand_34 : decode b_Ld_fileCommand 34 = .ok (.lookupswitch 38 #[(76, 32), (83, 26)], 26) := by decide +kernel
theorem d_Ld_fileCommand_60 : decode b_Ld_fileCommand 60 = .ok (.aload_n 0, 1) := by decide +kernel
theorem d_Ld_fileCommand_61 : decode b_Ld_fileCommand 61 = .ok (.iload_n 2, 1) := by decide +kernel
theorem d_Ld_fileCommand_62 : decode b_Ld_fileCommand 62 = .ok (.invokevirtual 178, 3) := by decide +kernel
theorem d_Ld_fileCommand_65 : decode b_Ld_fileCommand 65 = .ok (.ireturn, 1) := by decide +kernel
theorem d_Ld_fileCommand_66 : decode b_Ld_fileCommand 66 = .ok (.aload_n 0, 1) := by decide +kernel
theorem d_Ld_fileCommand_67 : decode b_Ld_fileCommand 67 = .ok (.iload_n 2, 1) := by decide +kernel
theorem d_Ld_fileCommand_68 : decode b_Ld_fileCommand 68 = .ok (.invokevirtual 181, 3) := by decide +kernel
theorem d_Ld_fileCommand_71 : decode b_Ld_fileCommand 71 = .ok (.ireturn, 1) := by decide +kernel
theorem d_Ld_fileCommand_72 : decode b_Ld_fileCommand 72 = .ok (.aload_n 0, 1) := by decide +kernel
theorem d_Ld_fileCommand_73 : decode b_Ld_fileCommand 73 = .ok (.iload_n 2, 1) := by decide +kernel
theorem d_Ld_fileCommand_74 : decode b_Ld_fileCommand 74 = .ok (.invokevirtual 184, 3) := by decide +kernel
theorem d_Ld_fileCommand_77 : decode b_Ld_fileCommand 77 = .ok (.ireturn, 1) := by decide +kernel
theorem d_Ld_listFiles_0 : decode b_Ld_listFiles 0 = .ok (.aload_n 0, 1) := by decide +kernel
theorem d_Ld_listFiles_1 : decode b_Ld_listFiles 1 = .ok (.getfield 10, 3) := by decide +kernel
theorem d_Ld_listFiles_4 : decode b_Ld_listFiles 4 = .ok (.invokevirtual 66, 3) := by decide +kernel
theorem d_Ld_listFiles_7 : decode b_Ld_listFiles 7 = .ok (.ifCond .ne 6, 3) := by decide +kernel
theorem d_Ld_listFiles_10 : decode b_Ld_listFiles 10 = .ok (.bipush 8, 2) := by decide +kernel
theorem d_Ld_listFiles_12 : decode b_Ld_listFiles 12 = .ok (.ireturn, 1) := by decide +kernel
theorem d_Ld_listFiles_13 : decode b_Ld_listFiles 13 = .ok (.iconst 0, 1) := by decide +kernel
theorem d_Ld_listFiles_14 : decode b_Ld_listFiles 14 = .ok (.istore_n 1, 1) := by decide +kernel
theorem d_Ld_listFiles_15 : decode b_Ld_listFiles 15 = .ok (.iload_n 1, 1) := by decide +kernel
theorem d_Ld_listFiles_16 : decode b_Ld_listFiles 16 = .ok (.bipush 8, 2) := by decide +kernel
theorem d_Ld_listFiles_18 : decode b_Ld_listFiles 18 = .ok (.if_icmp .ge 37, 3) := by decide +kernel
theorem d_Ld_listFiles_21 : decode b_Ld_listFiles 21 = .ok (.aload_n 0, 1) := by decide +kernel
theorem d_Ld_listFiles_22 : decode b_Ld_listFiles 22 = .ok (.getfield 10, 3) := by decide +kernel
theorem d_Ld_listFiles_25 : decode b_Ld_listFiles 25 = .ok (.iload_n 1, 1) := by decide +kernel
theorem d_Ld_listFiles_26 : decode b_Ld_listFiles 26 = .ok (.invokevirtual 128, 3) := by decide +kernel
theorem d_Ld_listFiles_29 : decode b_Ld_listFiles 29 = .ok (.ifCond .eq 20, 3) := by decide +kernel
theorem d_Ld_listFiles_32 : decode b_Ld_listFiles 32 = .ok (.aload_n 0, 1) := by decide +kernel
theorem d_Ld_listFiles_33 : decode b_Ld_listFiles 33 = .ok (.iload_n 1, 1) := by decide +kernel
theorem d_Ld_listFiles_34 : decode b_Ld_listFiles 34 = .ok (.invokevirtual 187, 3) := by decide +kernel
theorem d_Ld_listFiles_37 : decode b_Ld_listFiles 37 = .ok (.aload_n 0, 1) := by decide +kernel
theorem d_Ld_listFiles_38 : decode b_Ld_listFiles 38 = .ok (.aload_n 0, 1) := by decide +kernel
theorem d_Ld_listFiles_39 : decode b_Ld_listFiles 39 = .ok (.getfield 10, 3) := by decide +kernel
theorem d_Ld_listFiles_42 : decode b_Ld_listFiles 42 = .ok (.iload_n 1, 1) := by decide +kernel
theorem d_Ld_listFiles_43 : decode b_Ld_listFiles 43 = .ok (.invokevirtual 128, 3) := by decide +kernel
theorem d_Ld_listFiles_46 : decode b_Ld_listFiles 46 = .ok (.invokevirtual 187, 3) := by decide +kernel
theorem d_Ld_listFiles_49 : decode b_Ld_listFiles 49 = .ok (.iinc 1 1, 3) := by decide +kernel
theorem d_Ld_listFiles_52 : decode b_Ld_listFiles 52 = .ok (.goto (-37), 3) := by decide +kernel
theorem d_Ld_listFiles_55 : decode b_Ld_listFiles 55 = .ok (.iconst 0, 1) := by decide +kernel
theorem d_Ld_listFiles_56 : decode b_Ld_listFiles 56 = .ok (.ireturn, 1) := by decide +kernel
theorem d_Ld_saveLines_0 : decode b_Ld_saveLines 0 = .ok (.iconst 1, 1) := by decide +kernel
theorem d_Ld_saveLines_1 : decode b_Ld_saveLines 1 = .ok (.iconst 4, 1) := by decide +kernel
theorem d_Ld_saveLines_2 : decode b_Ld_saveLines 2 = .ok (.aload_n 0, 1) := by decide +kernel
theorem d_Ld_saveLines_3 : decode b_Ld_saveLines 3 = .ok (.getfield 26, 3) := by decide +kernel
theorem d_Ld_saveLines_6 : decode b_Ld_saveLines 6 = .ok (.getfield 137, 3) := by decide +kernel
theorem d_Ld_saveLines_9 : decode b_Ld_saveLines 9 = .ok (.imul, 1) := by decide +kernel
theorem d_Ld_saveLines_10 : decode b_Ld_saveLines 10 = .ok (.iadd, 1) := by decide +kernel
theorem d_Ld_saveLines_11 : decode b_Ld_saveLines 11 = .ok (.istore_n 2, 1) := by decide +kernel
theorem d_Ld_saveLines_12 : decode b_Ld_saveLines 12 = .ok (.aload_n 0, 1) := by decide +kernel
theorem d_Ld_saveLines_13 : decode b_Ld_saveLines 13 = .ok (.getfield 26, 3) := by decide +kernel
theorem d_Ld_saveLines_16 : decode b_Ld_saveLines 16 = .ok (.getfield 137, 3) := by decide +kernel
theorem d_Ld_saveLines_19 : decode b_Ld_saveLines 19 = .ok (.ifCond .ne 7, 3) := by decide +kernel
theorem d_Ld_saveLines_22 : decode b_Ld_saveLines 22 = .ok (.iconst (-1), 1) := by decide +kernel
theorem d_Ld_saveLines_23 : decode b_Ld_saveLines 23 = .ok (.goto 15, 3) := by decide +kernel
theorem d_Ld_saveLines_26 : decode b_Ld_saveLines 26 = .ok (.aload_n 0, 1) := by decide +kernel
theorem d_Ld_saveLines_27 : decode b_Ld_saveLines 27 = .ok (.getfield 10, 3) := by decide +kernel
theorem d_Ld_saveLines_30 : decode b_Ld_saveLines 30 = .ok (.iload_n 2, 1) := by decide +kernel
theorem d_Ld_saveLines_31 : decode b_Ld_saveLines 31 = .ok (.invokestatic 190, 3) := by decide +kernel
theorem d_Ld_saveLines_34 : decode b_Ld_saveLines 34 = .ok (.iload_n 1, 1) := by decide +kernel
theorem d_Ld_saveLines_35 : decode b_Ld_saveLines 35 = .ok (.invokevirtual 193, 3) := by decide +kernel
theorem d_Ld_saveLines_38 : decode b_Ld_saveLines 38 = .ok (.istore_n 3, 1) := by decide +kernel
theorem d_Ld_saveLines_39 : decode b_Ld_saveLines 39 = .ok (.iload_n 3, 1) := by decide +kernel
theorem d_Ld_saveLines_40 : decode b_Ld_saveLines 40 = .ok (.iconst (-1), 1) := by decide +kernel
theorem d_Ld_saveLines_41 : decode b_Ld_saveLines 41 = .ok (.if_icmp .ne 6, 3) := by decide +kernel
theorem d_Ld_saveLines_44 : decode b_Ld_saveLines 44 = .ok (.bipush 9, 2) := by decide +kernel
theorem d_Ld_saveLines_46 : decode b_Ld_saveLines 46 = .ok (.ireturn, 1) := by decide +kernel
theorem d_Ld_saveLines_47 : decode b_Ld_saveLines 47 = .ok (.aload_n 0, 1) := by decide +kernel
theorem d_Ld_saveLines_48 : decode b_Ld_saveLines 48 = .ok (.iload_n 1, 1) := by decide +kernel
theorem d_Ld_saveLines_49 : decode b_Ld_saveLines 49 = .ok (.iload_n 2, 1) := by decide +kernel
theorem d_Ld_saveLines_50 : decode b_Ld_saveLines 50 = .ok (.iload_n 3, 1) := by decide +kernel
theorem d_Ld_saveLines_51 : decode b_Ld_saveLines 51 = .ok (.invokevirtual 196, 3) := by decide +kernel
theorem d_Ld_saveLines_54 : decode b_Ld_saveLines 54 = .ok (.bipush 16, 2) := by decide +kernel
theorem d_Ld_saveLines_56 : decode b_Ld_saveLines 56 = .ok (.istore 4, 2) := by decide +kernel
theorem d_Ld_saveLines_58 : decode b_Ld_saveLines 58 = .ok (.aload_n 0, 1) := by decide +kernel
theorem d_Ld_saveLines_59 : decode b_Ld_saveLines 59 = .ok (.getfield 19, 3) := by decide +kernel
theorem d_Ld_saveLines_62 : decode b_Ld_saveLines 62 = .ok (.iload 4, 2) := by decide +kernel
theorem d_Ld_saveLines_64 : decode b_Ld_saveLines 64 = .ok (.aload_n 0, 1) := by decide +kernel
theorem d_Ld_saveLines_65 : decode b_Ld_saveLines 65 = .ok (.getfield 26, 3) := by decide +kernel
theorem d_Ld_saveLines_68 : decode b_Ld_saveLines 68 = .ok (.getfield 137, 3) := by decide +kernel
theorem d_Ld_saveLines_71 : decode b_Ld_saveLines 71 = .ok (.invokevirtual 200, 3) := by decide +kernel
theorem d_Ld_saveLines_74 : decode b_Ld_saveLines 74 = .ok (.iinc 4 1, 3) := by decide +kernel
theorem d_Ld_saveLines_77 : decode b_Ld_saveLines 77 = .ok (.iconst 0, 1) := by decide +kernel
theorem d_Ld_saveLines_78 : decode b_Ld_saveLines 78 = .ok (.istore 5, 2) := by decide +kernel
theorem d_Ld_saveLines_80 : decode b_Ld_saveLines 80 = .ok (.iload 5, 2) := by decide +kernel
theorem d_Ld_saveLines_82 : decode b_Ld_saveLines 82 = .ok (.aload_n 0, 1) := by decide +kernel
theorem d_Ld_saveLines_83 : decode b_Ld_saveLines 83 = .ok (.getfield 26, 3) := by decide +kernel
theorem d_Ld_saveLines_86 : decode b_Ld_saveLines 86 = .ok (.getfield 137, 3) := by decide +kernel
theorem d_Ld_saveLines_89 : decode b_Ld_saveLines 89 = .ok (.if_icmp .ge 70, 3) := by decide +kernel
theorem d_Ld_saveLines_92 : decode b_Ld_saveLines 92 = .ok (.aload_n 0, 1) := by decide +kernel
theorem d_Ld_saveLines_93 : decode b_Ld_saveLines 93 = .ok (.getfield 19, 3) := by decide +kernel
theorem d_Ld_saveLines_96 : decode b_Ld_saveLines 96 = .ok (.iload 4, 2) := by decide +kernel
theorem d_Ld_saveLines_98 : decode b_Ld_saveLines 98 = .ok (.aload_n 0, 1) := by decide +kernel
theorem d_Ld_saveLines_99 : decode b_Ld_saveLines 99 = .ok (.getfield 26, 3) := by decide +kernel
theorem d_Ld_saveLines_102 : decode b_Ld_saveLines 102 = .ok (.iload 5, 2) := by decide +kernel
theorem d_Ld_saveLines_104 : decode b_Ld_saveLines 104 = .ok (.invokevirtual 203, 3) := by decide +kernel
theorem d_Ld_saveLines_107 : decode b_Ld_saveLines 107 = .ok (.invokevirtual 200, 3) := by decide +kernel
theorem d_Ld_saveLines_110 : decode b_Ld_saveLines 110 = .ok (.iconst 0, 1) := by decide +kernel
theorem d_Ld_saveLines_111 : decode b_Ld_saveLines 111 = .ok (.istore 6, 2) := by decide +kernel
theorem d_Ld_saveLines_113 : decode b_Ld_saveLines 113 = .ok (.iload 6, 2) := by decide +kernel
theorem d_Ld_saveLines_115 : decode b_Ld_saveLines 115 = .ok (.iconst 3, 1) := by decide +kernel
theorem d_Ld_saveLines_116 : decode b_Ld_saveLines 116 = .ok (.if_icmp .ge 34, 3) := by decide +kernel
theorem d_Ld_saveLines_119 : decode b_Ld_saveLines 119 = .ok (.aload_n 0, 1) := by decide +kernel
theorem d_Ld_saveLines_120 : decode b_Ld_saveLines 120 = .ok (.getfield 19, 3) := by decide +kernel
theorem d_Ld_saveLines_123 : decode b_Ld_saveLines 123 = .ok (.iload 4, 2) := by decide +kernel
theorem d_Ld_saveLines_125 : decode b_Ld_saveLines 125 = .ok (.iconst 1, 1) := by decide +kernel
theorem d_Ld_saveLines_126 : decode b_Ld_saveLines 126 = .ok (.iadd, 1) := by decide +kernel
theorem d_Ld_saveLines_127 : decode b_Ld_saveLines 127 = .ok (.iload 6, 2) := by decide +kernel
theorem d_Ld_saveLines_129 : decode b_Ld_saveLines 129 = .ok (.iadd, 1) := by decide +kernel
theorem d_Ld_saveLines_130 : decode b_Ld_saveLines 130 = .ok (.aload_n 0, 1) := by decide +kernel
theorem d_Ld_saveLines_131 : decode b_Ld_saveLines 131 = .ok (.getfield 26, 3) := by decide +kernel
theorem d_Ld_saveLines_134 : decode b_Ld_saveLines 134 = .ok (.iload 5, 2) := by decide +kernel
theorem d_Ld_saveLines_136 : decode b_Ld_saveLines 136 = .ok (.iload 6, 2) := by decide +kernel
theorem d_Ld_saveLines_138 : decode b_Ld_saveLines 138 = .ok (.invokevirtual 206, 3) := by decide +kernel
theorem d_Ld_saveLines_141 : decode b_Ld_saveLines 141 = .ok (.invokevirtual 200, 3) := by decide +kernel
theorem d_Ld_saveLines_144 : decode b_Ld_saveLines 144 = .ok (.iinc 6 1, 3) := by decide +kernel
theorem d_Ld_saveLines_147 : decode b_Ld_saveLines 147 = .ok (.goto (-34), 3) := by decide +kernel
theorem d_Ld_saveLines_150 : decode b_Ld_saveLines 150 = .ok (.iinc 4 4, 3) := by decide +kernel
theorem d_Ld_saveLines_153 : decode b_Ld_saveLines 153 = .ok (.iinc 5 1, 3) := by decide +kernel
theorem d_Ld_saveLines_156 : decode b_Ld_saveLines 156 = .ok (.goto (-76), 3) := by decide +kernel
theorem d_Ld_saveLines_159 : decode b_Ld_saveLines 159 = .ok (.aload_n 0, 1) := by decide +kernel
theorem d_Ld_saveLines_160 : decode b_Ld_saveLines 160 = .ok (.invokevirtual 209, 3) := by decide +kernel
theorem d_Ld_saveLines_163 : decode b_Ld_saveLines 163 = .ok (.ireturn, 1) := by decide +kernel
theorem d_Ld_loadLines_0 : decode b_Ld_loadLines 0 = .ok (.aload_n 0, 1) := by decide +kernel
theorem d_Ld_loadLines_1 : decode b_Ld_loadLines 1 = .ok (.getfield 10, 3) := by decide +kernel
theorem d_Ld_loadLines_4 : decode b_Ld_loadLines 4 = .ok (.iload_n 1, 1) := by decide +kernel
theorem d_Ld_loadLines_5 : decode b_Ld_loadLines 5 = .ok (.invokevirtual 128, 3) := by decide +kernel
theorem d_Ld_loadLines_8 : decode b_Ld_loadLines 8 = .ok (.istore_n 2, 1) := by decide +kernel
theorem d_Ld_loadLines_9 : decode b_Ld_loadLines 9 = .ok (.iload_n 2, 1) := by decide +kernel
theorem d_Ld_loadLines_10 : decode b_Ld_loadLines 10 = .ok (.ifCond .eq 9, 3) := by decide +kernel
theorem d_Ld_loadLines_13 : decode b_Ld_loadLines 13 = .ok (.iload_n 2, 1) := by decide +kernel
theorem d_Ld_loadLines_14 : decode b_Ld_loadLines 14 = .ok (.bipush 16, 2) := by decide +kernel
theorem d_Ld_loadLines_16 : decode b_Ld_loadLines 16 = .ok (.if_icmp .ne 5, 3) := by decide +kernel
theorem d_Ld_loadLines_19 : decode b_Ld_loadLines 19 = .ok (.iconst 3, 1) := by decide +kernel
theorem d_Ld_loadLines_20 : decode b_Ld_loadLines 20 = .ok (.ireturn, 1) := by decide +kernel
theorem d_Ld_loadLines_21 : decode b_Ld_loadLines 21 = .ok (.aload_n 0, 1) := by decide +kernel
theorem d_Ld_loadLines_22 : decode b_Ld_loadLines 22 = .ok (.getfield 26, 3) := by decide +kernel
theorem d_Ld_loadLines_25 : decode b_Ld_loadLines 25 = .ok (.invokevirtual 169, 3) := by decide +kernel
theorem d_Ld_loadLines_28 : decode b_Ld_loadLines 28 = .ok (.aload_n 0, 1) := by decide +kernel
theorem d_Ld_loadLines_29 : decode b_Ld_loadLines 29 = .ok (.getfield 10, 3) := by decide +kernel
theorem d_Ld_loadLines_32 : decode b_Ld_loadLines 32 = .ok (.iload_n 1, 1) := by decide +kernel
theorem d_Ld_loadLines_33 : decode b_Ld_loadLines 33 = .ok (.invokevirtual 212, 3) := by decide +kernel
theorem d_Ld_loadLines_36 : decode b_Ld_loadLines 36 = .ok (.istore_n 3, 1) := by decide +kernel
theorem d_Ld_loadLines_37 : decode b_Ld_loadLines 37 = .ok (.aload_n 0, 1) := by decide +kernel
theorem d_Ld_loadLines_38 : decode b_Ld_loadLines 38 = .ok (.getfield 10, 3) := by decide +kernel
theorem d_Ld_loadLines_41 : decode b_Ld_loadLines 41 = .ok (.iload_n 3, 1) := by decide +kernel
theorem d_Ld_loadLines_42 : decode b_Ld_loadLines 42 = .ok (.invokevirtual 124, 3) := by decide +kernel
theorem d_Ld_loadLines_45 : decode b_Ld_loadLines 45 = .ok (.istore 4, 2) := by decide +kernel
theorem d_Ld_loadLines_47 : decode b_Ld_loadLines 47 = .ok (.iinc 3 1, 3) := by decide +kernel
theorem d_Ld_loadLines_50 : decode b_Ld_loadLines 50 = .ok (.iconst 0, 1) := by decide +kernel
theorem d_Ld_loadLines_51 : decode b_Ld_loadLines 51 = .ok (.istore 5, 2) := by decide +kernel
theorem d_Ld_loadLines_53 : decode b_Ld_loadLines 53 = .ok (.iload 5, 2) := by decide +kernel
theorem d_Ld_loadLines_55 : decode b_Ld_loadLines 55 = .ok (.iload 4, 2) := by decide +kernel
theorem d_Ld_loadLines_57 : decode b_Ld_loadLines 57 = .ok (.if_icmp .ge 64, 3) := by decide +kernel
theorem d_Ld_loadLines_60 : decode b_Ld_loadLines 60 = .ok (.iload 5, 2) := by decide +kernel
theorem d_Ld_loadLines_62 : decode b_Ld_loadLines 62 = .ok (.bipush 10, 2) := by decide +kernel
theorem d_Ld_loadLines_64 : decode b_Ld_loadLines 64 = .ok (.if_icmp .ge 57, 3) := by decide +kernel
theorem d_Ld_loadLines_67 : decode b_Ld_loadLines 67 = .ok (.aload_n 0, 1) := by decide +kernel
theorem d_Ld_loadLines_68 : decode b_Ld_loadLines 68 = .ok (.getfield 26, 3) := by decide +kernel
theorem d_Ld_loadLines_71 : decode b_Ld_loadLines 71 = .ok (.aload_n 0, 1) := by decide +kernel
theorem d_Ld_loadLines_72 : decode b_Ld_loadLines 72 = .ok (.getfield 10, 3) := by decide +kernel
theorem d_Ld_loadLines_75 : decode b_Ld_loadLines 75 = .ok (.iload_n 3, 1) := by decide +kernel
theorem d_Ld_loadLines_76 : decode b_Ld_loadLines 76 = .ok (.invokevirtual 124, 3) := by decide +kernel
theorem d_Ld_loadLines_79 : decode b_Ld_loadLines 79 = .ok (.aload_n 0, 1) := by decide +kernel
theorem d_Ld_loadLines_80 : decode b_Ld_loadLines 80 = .ok (.getfield 10, 3) := by decide +kernel
theorem d_Ld_loadLines_83 : decode b_Ld_loadLines 83 = .ok (.iload_n 3, 1) := by decide +kernel
theorem d_Ld_loadLines_84 : decode b_Ld_loadLines 84 = .ok (.iconst 1, 1) := by decide +kernel
theorem d_Ld_loadLines_85 : decode b_Ld_loadLines 85 = .ok (.iadd, 1) := by decide +kernel
theorem d_Ld_loadLines_86 : decode b_Ld_loadLines 86 = .ok (.invokevirtual 124, 3) := by decide +kernel
theorem d_Ld_loadLines_89 : decode b_Ld_loadLines 89 = .ok (.aload_n 0, 1) := by decide +kernel
theorem d_Ld_loadLines_90 : decode b_Ld_loadLines 90 = .ok (.getfield 10, 3) := by decide +kernel
theorem d_Ld_loadLines_93 : decode b_Ld_loadLines 93 = .ok (.iload_n 3, 1) := by decide +kernel
theorem d_Ld_loadLines_94 : decode b_Ld_loadLines 94 = .ok (.iconst 2, 1) := by decide +kernel
theorem d_Ld_loadLines_95 : decode b_Ld_loadLines 95 = .ok (.iadd, 1) := by decide +kernel
theorem d_Ld_loadLines_96 : decode b_Ld_loadLines 96 = .ok (.invokevirtual 124, 3) := by decide +kernel
theorem d_Ld_loadLines_99 : decode b_Ld_loadLines 99 = .ok (.aload_n 0, 1) := by decide +kernel
theorem d_Ld_loadLines_100 : decode b_Ld_loadLines 100 = .ok (.getfield 10, 3) := by decide +kernel
theorem d_Ld_loadLines_103 : decode b_Ld_loadLines 103 = .ok (.iload_n 3, 1) := by decide +kernel
theorem d_Ld_loadLines_104 : decode b_Ld_loadLines 104 = .ok (.iconst 3, 1) := by decide +kernel
theorem d_Ld_loadLines_105 : decode b_Ld_loadLines 105 = .ok (.iadd, 1) := by decide +kernel
theorem d_Ld_loadLines_106 : decode b_Ld_loadLines 106 = .ok (.invokevirtual 124, 3) := by decide +kernel
theorem d_Ld_loadLines_109 : decode b_Ld_loadLines 109 = .ok (.invokevirtual 215, 3) := by decide +kernel
theorem d_Ld_loadLines_112 : decode b_Ld_loadLines 112 = .ok (.iinc 3 4, 3) := by decide +kernel
theorem d_Ld_loadLines_115 : decode b_Ld_loadLines 115 = .ok (.iinc 5 1, 3) := by decide +kernel
theorem d_Ld_loadLines_118 : decode b_Ld_loadLines 118 = .ok (.goto (-65), 3) := by decide +kernel
theorem d_Ld_loadLines_121 : decode b_Ld_loadLines 121 = .ok (.iconst 0, 1) := by decide +kernel
theorem d_Ld_loadLines_122 : decode b_Ld_loadLines 122 = .ok (.ireturn, 1) := by decide +kernel
